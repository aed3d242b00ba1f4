section
-- ===== PART A: goes FIRST, ahead of the names: the tables' words, and 'selects' of the private methods out of them =====
/-- a private method of a class that the tables say can be made, by its rows of tables_1 -/
def lw_okq (q : MethodName × Nat) : Prop := (q.1.cls ≠ "java/lang/invoke/MethodHandle" ∧ q.1.cls ≠ "java/lang/invoke/VarHandle") ∧ Cond.instantiable q.1.cls q.2 ∈ tables_1 ∧ Cond.privateMethod q.1 ∈ tables_1 ∧ Cond.instanceMethod q.1 ∈ tables_1
theorem lw_p0 : lw_okq (⟨"FairTree", "placesNotAbove", "(J)I"⟩, 5) := ⟨⟨by decide +kernel, by decide +kernel⟩, List.mem_of_getElem? (i := 11) (by decide +kernel), List.mem_of_getElem? (i := 41) (by decide +kernel), List.mem_of_getElem? (i := 42) (by decide +kernel)⟩
theorem lw_p1 : lw_okq (⟨"FairTree", "placesBefore", "(JI)I"⟩, 5) := ⟨⟨by decide +kernel, by decide +kernel⟩, List.mem_of_getElem? (i := 11) (by decide +kernel), List.mem_of_getElem? (i := 45) (by decide +kernel), List.mem_of_getElem? (i := 46) (by decide +kernel)⟩
theorem lw_p2 : lw_okq (⟨"FairTree", "standsBefore", "(IJI)Z"⟩, 5) := ⟨⟨by decide +kernel, by decide +kernel⟩, List.mem_of_getElem? (i := 11) (by decide +kernel), List.mem_of_getElem? (i := 49) (by decide +kernel), List.mem_of_getElem? (i := 50) (by decide +kernel)⟩
theorem lw_p3 : lw_okq (⟨"FairTree", "weightOfFirst", "(I)I"⟩, 5) := ⟨⟨by decide +kernel, by decide +kernel⟩, List.mem_of_getElem? (i := 11) (by decide +kernel), List.mem_of_getElem? (i := 53) (by decide +kernel), List.mem_of_getElem? (i := 54) (by decide +kernel)⟩
theorem lw_p4 : lw_okq (⟨"FairTree", "placesBelow", "(J)I"⟩, 5) := ⟨⟨by decide +kernel, by decide +kernel⟩, List.mem_of_getElem? (i := 11) (by decide +kernel), List.mem_of_getElem? (i := 61) (by decide +kernel), List.mem_of_getElem? (i := 62) (by decide +kernel)⟩
theorem lw_p5 : lw_okq (⟨"FairTree", "removePlaces", "(II)V"⟩, 5) := ⟨⟨by decide +kernel, by decide +kernel⟩, List.mem_of_getElem? (i := 11) (by decide +kernel), List.mem_of_getElem? (i := 65) (by decide +kernel), List.mem_of_getElem? (i := 66) (by decide +kernel)⟩
theorem lw_p6 : lw_okq (⟨"FairTree", "fairPlaces", "()I"⟩, 5) := ⟨⟨by decide +kernel, by decide +kernel⟩, List.mem_of_getElem? (i := 11) (by decide +kernel), List.mem_of_getElem? (i := 76) (by decide +kernel), List.mem_of_getElem? (i := 77) (by decide +kernel)⟩
theorem lw_p7 : lw_okq (⟨"FairTree", "sumOfKeysTimesWeights", "()J"⟩, 5) := ⟨⟨by decide +kernel, by decide +kernel⟩, List.mem_of_getElem? (i := 11) (by decide +kernel), List.mem_of_getElem? (i := 80) (by decide +kernel), List.mem_of_getElem? (i := 81) (by decide +kernel)⟩
theorem lw_p8 : lw_okq (⟨"FairTree", "keyAt", "(I)J"⟩, 5) := ⟨⟨by decide +kernel, by decide +kernel⟩, List.mem_of_getElem? (i := 11) (by decide +kernel), List.mem_of_getElem? (i := 84) (by decide +kernel), List.mem_of_getElem? (i := 85) (by decide +kernel)⟩
theorem lw_p9 : lw_okq (⟨"java/lang/Throwable", "fillInStackTrace", "(I)Ljava/lang/Throwable;"⟩, 6) := ⟨⟨by decide +kernel, by decide +kernel⟩, List.mem_of_getElem? (i := 141) (by decide +kernel), List.mem_of_getElem? (i := 139) (by decide +kernel), List.mem_of_getElem? (i := 140) (by decide +kernel)⟩
theorem lw_p10 : lw_okq (⟨"FairTree", "isThere", "(I)Z"⟩, 5) := ⟨⟨by decide +kernel, by decide +kernel⟩, List.mem_of_getElem? (i := 11) (by decide +kernel), List.mem_of_getElem? (i := 166) (by decide +kernel), List.mem_of_getElem? (i := 167) (by decide +kernel)⟩
theorem lw_p11 : lw_okq (⟨"FairTree", "removeItem", "(I)V"⟩, 5) := ⟨⟨by decide +kernel, by decide +kernel⟩, List.mem_of_getElem? (i := 11) (by decide +kernel), List.mem_of_getElem? (i := 170) (by decide +kernel), List.mem_of_getElem? (i := 171) (by decide +kernel)⟩
theorem lw_p12 : lw_okq (⟨"FairTree", "insertItem", "(I)V"⟩, 5) := ⟨⟨by decide +kernel, by decide +kernel⟩, List.mem_of_getElem? (i := 11) (by decide +kernel), List.mem_of_getElem? (i := 174) (by decide +kernel), List.mem_of_getElem? (i := 175) (by decide +kernel)⟩
theorem lw_p13 : lw_okq (⟨"FairTree", "earliestOfPlaces", "(II)I"⟩, 5) := ⟨⟨by decide +kernel, by decide +kernel⟩, List.mem_of_getElem? (i := 11) (by decide +kernel), List.mem_of_getElem? (i := 238) (by decide +kernel), List.mem_of_getElem? (i := 239) (by decide +kernel)⟩
theorem lw_p14 : lw_okq (⟨"FairTree", "isEarlier", "(II)Z"⟩, 5) := ⟨⟨by decide +kernel, by decide +kernel⟩, List.mem_of_getElem? (i := 11) (by decide +kernel), List.mem_of_getElem? (i := 242) (by decide +kernel), List.mem_of_getElem? (i := 243) (by decide +kernel)⟩
theorem lw_p15 : lw_okq (⟨"FairTreeModel", "many", "()I"⟩, 5) := ⟨⟨by decide +kernel, by decide +kernel⟩, List.mem_of_getElem? (i := 284) (by decide +kernel), List.mem_of_getElem? (i := 317) (by decide +kernel), List.mem_of_getElem? (i := 318) (by decide +kernel)⟩
def lw_privs_1 : List (MethodName × Nat) := [(⟨"FairTree", "placesNotAbove", "(J)I"⟩, 5), (⟨"FairTree", "placesBefore", "(JI)I"⟩, 5), (⟨"FairTree", "standsBefore", "(IJI)Z"⟩, 5), (⟨"FairTree", "weightOfFirst", "(I)I"⟩, 5), (⟨"FairTree", "placesBelow", "(J)I"⟩, 5), (⟨"FairTree", "removePlaces", "(II)V"⟩, 5), (⟨"FairTree", "fairPlaces", "()I"⟩, 5), (⟨"FairTree", "sumOfKeysTimesWeights", "()J"⟩, 5), (⟨"FairTree", "keyAt", "(I)J"⟩, 5), (⟨"java/lang/Throwable", "fillInStackTrace", "(I)Ljava/lang/Throwable;"⟩, 6), (⟨"FairTree", "isThere", "(I)Z"⟩, 5), (⟨"FairTree", "removeItem", "(I)V"⟩, 5), (⟨"FairTree", "insertItem", "(I)V"⟩, 5), (⟨"FairTree", "earliestOfPlaces", "(II)I"⟩, 5), (⟨"FairTree", "isEarlier", "(II)Z"⟩, 5), (⟨"FairTreeModel", "many", "()I"⟩, 5)]
theorem lw_r1 : ∀ q ∈ lw_privs_1, lw_okq q := List.forall_mem_cons.mpr ⟨lw_p0, List.forall_mem_cons.mpr ⟨lw_p1, List.forall_mem_cons.mpr ⟨lw_p2, List.forall_mem_cons.mpr ⟨lw_p3, List.forall_mem_cons.mpr ⟨lw_p4, List.forall_mem_cons.mpr ⟨lw_p5, List.forall_mem_cons.mpr ⟨lw_p6, List.forall_mem_cons.mpr ⟨lw_p7, List.forall_mem_cons.mpr ⟨lw_p8, List.forall_mem_cons.mpr ⟨lw_p9, List.forall_mem_cons.mpr ⟨lw_p10, List.forall_mem_cons.mpr ⟨lw_p11, List.forall_mem_cons.mpr ⟨lw_p12, List.forall_mem_cons.mpr ⟨lw_p13, List.forall_mem_cons.mpr ⟨lw_p14, List.forall_mem_cons.mpr ⟨lw_p15, fun _ h => absurd h List.not_mem_nil⟩⟩⟩⟩⟩⟩⟩⟩⟩⟩⟩⟩⟩⟩⟩⟩
theorem lw_p16 : lw_okq (⟨"FairTreeModel", "no", "(I)Z"⟩, 5) := ⟨⟨by decide +kernel, by decide +kernel⟩, List.mem_of_getElem? (i := 284) (by decide +kernel), List.mem_of_getElem? (i := 325) (by decide +kernel), List.mem_of_getElem? (i := 326) (by decide +kernel)⟩
theorem lw_p17 : lw_okq (⟨"FairTreeModel", "fail", "(I)I"⟩, 5) := ⟨⟨by decide +kernel, by decide +kernel⟩, List.mem_of_getElem? (i := 284) (by decide +kernel), List.mem_of_getElem? (i := 338) (by decide +kernel), List.mem_of_getElem? (i := 339) (by decide +kernel)⟩
theorem lw_p18 : lw_okq (⟨"FairTreeModel", "place", "(I)I"⟩, 5) := ⟨⟨by decide +kernel, by decide +kernel⟩, List.mem_of_getElem? (i := 284) (by decide +kernel), List.mem_of_getElem? (i := 351) (by decide +kernel), List.mem_of_getElem? (i := 352) (by decide +kernel)⟩
theorem lw_p19 : lw_okq (⟨"FairTreeModel", "before", "(II)Z"⟩, 5) := ⟨⟨by decide +kernel, by decide +kernel⟩, List.mem_of_getElem? (i := 284) (by decide +kernel), List.mem_of_getElem? (i := 355) (by decide +kernel), List.mem_of_getElem? (i := 356) (by decide +kernel)⟩
theorem lw_p20 : lw_okq (⟨"FairTreeModel", "first", "(JJ)I"⟩, 5) := ⟨⟨by decide +kernel, by decide +kernel⟩, List.mem_of_getElem? (i := 284) (by decide +kernel), List.mem_of_getElem? (i := 368) (by decide +kernel), List.mem_of_getElem? (i := 369) (by decide +kernel)⟩
theorem lw_p21 : lw_okq (⟨"FairTreeModel", "lead", "(I)J"⟩, 5) := ⟨⟨by decide +kernel, by decide +kernel⟩, List.mem_of_getElem? (i := 284) (by decide +kernel), List.mem_of_getElem? (i := 380) (by decide +kernel), List.mem_of_getElem? (i := 381) (by decide +kernel)⟩
theorem lw_p22 : lw_okq (⟨"FairTreeModel", "all", "()J"⟩, 5) := ⟨⟨by decide +kernel, by decide +kernel⟩, List.mem_of_getElem? (i := 284) (by decide +kernel), List.mem_of_getElem? (i := 397) (by decide +kernel), List.mem_of_getElem? (i := 398) (by decide +kernel)⟩
def lw_privs_2 : List (MethodName × Nat) := [(⟨"FairTreeModel", "no", "(I)Z"⟩, 5), (⟨"FairTreeModel", "fail", "(I)I"⟩, 5), (⟨"FairTreeModel", "place", "(I)I"⟩, 5), (⟨"FairTreeModel", "before", "(II)Z"⟩, 5), (⟨"FairTreeModel", "first", "(JJ)I"⟩, 5), (⟨"FairTreeModel", "lead", "(I)J"⟩, 5), (⟨"FairTreeModel", "all", "()J"⟩, 5)]
theorem lw_r2 : ∀ q ∈ lw_privs_2, lw_okq q := List.forall_mem_cons.mpr ⟨lw_p16, List.forall_mem_cons.mpr ⟨lw_p17, List.forall_mem_cons.mpr ⟨lw_p18, List.forall_mem_cons.mpr ⟨lw_p19, List.forall_mem_cons.mpr ⟨lw_p20, List.forall_mem_cons.mpr ⟨lw_p21, List.forall_mem_cons.mpr ⟨lw_p22, fun _ h => absurd h List.not_mem_nil⟩⟩⟩⟩⟩⟩⟩
def lw_privs : List (MethodName × Nat) := lw_privs_1 ++ (lw_privs_2)
def lw_tbl : List Cond := k2_sels lw_privs ++ tables_1
theorem lw_privs_ok : ∀ q ∈ lw_privs, lw_okq q := by
  show ∀ q ∈ lw_privs_1 ++ (lw_privs_2), lw_okq q
  exact List.forall_mem_append.mpr ⟨lw_r1, lw_r2⟩
/-! the words that hold on and on: one list for all methods -/
def TB : List Cond := lw_tbl.filter goodWord
theorem tb_lw : ∀ w ∈ TB, w ∈ lw_tbl := fun w h => (List.mem_filter.mp h).1
theorem tb_good {w : Cond} (h : w ∈ TB) : (w.onTables && w.keeps) = true ∨ ∃ ty, w = .arrayClass ty := good_of_word (List.mem_filter.mp h).2
theorem tb_cons {c : Cond} : ∀ w ∈ TB, w ∈ c :: TB := fun w h => List.mem_cons_of_mem _ h
theorem tbm {w : Cond} (i : Nat) (h : tables_1[i]? = some w) (hg : goodWord w = true) : w ∈ TB := List.mem_filter.mpr ⟨List.mem_append_right _ (List.mem_of_getElem? h), hg⟩
theorem tbs {w : Cond} (i : Nat) (h : (k2_sels lw_privs)[i]? = some w) (hg : goodWord w = true) : w ∈ TB := List.mem_filter.mpr ⟨List.mem_append_left _ (List.mem_of_getElem? h), hg⟩
theorem gdV {Ts : List Cond} (hT : ∀ w ∈ TB, w ∈ Ts) {own C : String} {idx n : Nat} {y : MethodName} {cc : ByteArray} {r : Option FieldType} (h1 : Cond.methodLink own idx y ∈ TB) (h2 : Cond.instanceMethod y ∈ TB) (h3 : Cond.selects C y y ∈ TB) (h4 : Cond.initialized C ∈ TB) (h5 : Cond.code y cc n r ∈ TB) : GoodIn Ts (wsV own idx C y (Cond.code y cc n r :: TB)) := by
  intro w hw
  have key : w ∈ TB := by
    rcases List.mem_append.mp hw with h | h
    · simp only [List.mem_cons, List.not_mem_nil, or_false] at h
      rcases h with rfl | rfl | rfl | rfl
      · exact h1
      · exact h2
      · exact h3
      · exact h4
    · rcases List.mem_cons.mp h with rfl | h
      · exact h5
      · exact h
  exact ⟨hT w key, tb_good key⟩
theorem gdS {Ts : List Cond} (hT : ∀ w ∈ TB, w ∈ Ts) {own : String} {idx n : Nat} {y : MethodName} {cc : ByteArray} {r : Option FieldType} (h1 : Cond.methodLink own idx y ∈ TB) (h2 : Cond.static y ∈ TB) (h4 : Cond.initialized own ∈ TB) (h5 : Cond.code y cc n r ∈ TB) : GoodIn Ts (wsS own idx y (Cond.code y cc n r :: TB)) := by
  intro w hw
  have key : w ∈ TB := by
    rcases List.mem_append.mp hw with h | h
    · simp only [List.mem_cons, List.not_mem_nil, or_false] at h
      rcases h with rfl | rfl | rfl
      · exact h1
      · exact h2
      · exact h4
    · rcases List.mem_cons.mp h with rfl | h
      · exact h5
      · exact h
  exact ⟨hT w key, tb_good key⟩
theorem gdC {Ts : List Cond} (hT : ∀ w ∈ TB, w ∈ Ts) {c : Cond} (h5 : c ∈ TB) : GoodIn Ts (c :: TB) := fun w hw => by
  have key : w ∈ TB := by
    rcases List.mem_cons.mp hw with rfl | h
    · exact h5
    · exact h
  exact ⟨hT w key, tb_good key⟩
end
section
/-! names of classes, fields, methods -/
def RX0 : String := "FairTree"
def RX1 : String := "FairTreeModel"
def RL : String := "FairTreeLaw"
def TX0 : u_T := fun k => match k with
  | 0 => ("FairTree", "keys", "[J", true)
  | 1 => ("FairTree", "dues", "[J", true)
  | 2 => ("FairTree", "weights", "[I", true)
  | 3 => ("FairTree", "order", "[I", true)
  | _ => ("FairTree", "size", "I", false)
def tyX0 : Nat → FieldType := fun k => match k with
  | 0 => .array .long
  | 1 => .array .long
  | 2 => .array .int
  | 3 => .array .int
  | _ => .int
theorem nmX0 : ∀ a, a < 5 → ∀ b, b < 5 → a ≠ b → (TX0 a).2.1 ≠ (TX0 b).2.1 := by decide +kernel
theorem tyX0_ok : ∀ k, k < 5 → parseFieldDescriptor (TX0 k).2.2.1 = some (tyX0 k) := by decide +kernel
def TX1 : u_T := fun k => match k with
  | 0 => ("FairTreeModel", "there", "[Z", true)
  | 1 => ("FairTreeModel", "key", "[J", true)
  | 2 => ("FairTreeModel", "due", "[J", true)
  | 3 => ("FairTreeModel", "weight", "[I", true)
  | _ => ("FairTreeModel", "thrown", "I", false)
def tyX1 : Nat → FieldType := fun k => match k with
  | 0 => .array .boolean
  | 1 => .array .long
  | 2 => .array .long
  | 3 => .array .int
  | _ => .int
theorem nmX1 : ∀ a, a < 5 → ∀ b, b < 5 → a ≠ b → (TX1 a).2.1 ≠ (TX1 b).2.1 := by decide +kernel
theorem tyX1_ok : ∀ k, k < 5 → parseFieldDescriptor (TX1 k).2.2.1 = some (tyX1 k) := by decide +kernel
abbrev vwCl : List vw_C := [(RX0, TX0, 5), (RX1, TX1, 5)]
abbrev cX0_init : ByteArray := prog_1_method_1_code
def yX0_init : MethodName := ⟨RX0, "<init>", "()V"⟩
abbrev cX0_weight : ByteArray := prog_1_method_12_code
def yX0_weight : MethodName := ⟨RX0, "weight", "(J)I"⟩
abbrev cX0_placesNotAbove : ByteArray := prog_1_method_24_code
def yX0_placesNotAbove : MethodName := ⟨RX0, "placesNotAbove", "(J)I"⟩
abbrev cX0_placesBefore : ByteArray := prog_1_method_21_code
def yX0_placesBefore : MethodName := ⟨RX0, "placesBefore", "(JI)I"⟩
abbrev cX0_standsBefore : ByteArray := prog_1_method_22_code
def yX0_standsBefore : MethodName := ⟨RX0, "standsBefore", "(IJI)Z"⟩
abbrev cX0_weightOfFirst : ByteArray := prog_1_method_26_code
def yX0_weightOfFirst : MethodName := ⟨RX0, "weightOfFirst", "(I)I"⟩
abbrev cX0_cut : ByteArray := prog_1_method_15_code
def yX0_cut : MethodName := ⟨RX0, "cut", "(JJ)I"⟩
abbrev cX0_placesBelow : ByteArray := prog_1_method_23_code
def yX0_placesBelow : MethodName := ⟨RX0, "placesBelow", "(J)I"⟩
abbrev cX0_removePlaces : ByteArray := prog_1_method_32_code
def yX0_removePlaces : MethodName := ⟨RX0, "removePlaces", "(II)V"⟩
abbrev cX0_count : ByteArray := prog_1_method_16_code
def yX0_count : MethodName := ⟨RX0, "count", "(I)I"⟩
abbrev cX0_fairPlaces : ByteArray := prog_1_method_25_code
def yX0_fairPlaces : MethodName := ⟨RX0, "fairPlaces", "()I"⟩
abbrev cX0_sumOfKeysTimesWeights : ByteArray := prog_1_method_27_code
def yX0_sumOfKeysTimesWeights : MethodName := ⟨RX0, "sumOfKeysTimesWeights", "()J"⟩
abbrev cX0_keyAt : ByteArray := prog_1_method_20_code
def yX0_keyAt : MethodName := ⟨RX0, "keyAt", "(I)J"⟩
abbrev cL_put : ByteArray := method_3_code
def yL_put : MethodName := ⟨RL, "put", "(LFairTree;IJJI[J)I"⟩
abbrev cX0_put : ByteArray := prog_1_method_2_code
def yX0_put : MethodName := ⟨RX0, "put", "(IJJI)I"⟩
abbrev cX0_isNumber : ByteArray := prog_1_method_17_code
def yX0_isNumber : MethodName := ⟨RX0, "isNumber", "(I)Z"⟩
abbrev cX0_mayBePut : ByteArray := prog_1_method_18_code
def yX0_mayBePut : MethodName := ⟨RX0, "mayBePut", "(J)Z"⟩
abbrev cX0_isThere : ByteArray := prog_1_method_19_code
def yX0_isThere : MethodName := ⟨RX0, "isThere", "(I)Z"⟩
abbrev cX0_removeItem : ByteArray := prog_1_method_31_code
def yX0_removeItem : MethodName := ⟨RX0, "removeItem", "(I)V"⟩
abbrev cX0_insertItem : ByteArray := prog_1_method_30_code
def yX0_insertItem : MethodName := ⟨RX0, "insertItem", "(I)V"⟩
abbrev cL_drop : ByteArray := method_4_code
def yL_drop : MethodName := ⟨RL, "drop", "(LFairTree;I[J)I"⟩
abbrev cX0_drop : ByteArray := prog_1_method_3_code
def yX0_drop : MethodName := ⟨RX0, "drop", "(I)I"⟩
abbrev cL_slide : ByteArray := method_5_code
def yL_slide : MethodName := ⟨RL, "slide", "(LFairTree;J[J)I"⟩
abbrev cX0_slide : ByteArray := prog_1_method_4_code
def yX0_slide : MethodName := ⟨RX0, "slide", "(J)J"⟩
abbrev cL_told : ByteArray := method_6_code
def yL_told : MethodName := ⟨RL, "told", "(LFairTree;II[J)I"⟩
abbrev cX0_told : ByteArray := prog_1_method_5_code
def yX0_told : MethodName := ⟨RX0, "told", "(II)J"⟩
abbrev cL_at : ByteArray := method_7_code
def yL_at : MethodName := ⟨RL, "at", "(LFairTree;I[J)I"⟩
abbrev cX0_at : ByteArray := prog_1_method_6_code
def yX0_at : MethodName := ⟨RX0, "at", "(I)I"⟩
abbrev cL_rank : ByteArray := method_8_code
def yL_rank : MethodName := ⟨RL, "rank", "(LFairTree;I[J)I"⟩
abbrev cX0_rank : ByteArray := prog_1_method_7_code
def yX0_rank : MethodName := ⟨RX0, "rank", "(I)I"⟩
abbrev cL_earliest : ByteArray := method_9_code
def yL_earliest : MethodName := ⟨RL, "earliest", "(LFairTree;J[J)I"⟩
abbrev cX0_earliest : ByteArray := prog_1_method_8_code
def yX0_earliest : MethodName := ⟨RX0, "earliest", "(J)I"⟩
abbrev cX0_earliestOfPlaces : ByteArray := prog_1_method_28_code
def yX0_earliestOfPlaces : MethodName := ⟨RX0, "earliestOfPlaces", "(II)I"⟩
abbrev cX0_isEarlier : ByteArray := prog_1_method_29_code
def yX0_isEarlier : MethodName := ⟨RX0, "isEarlier", "(II)Z"⟩
abbrev cL_between : ByteArray := method_10_code
def yL_between : MethodName := ⟨RL, "between", "(LFairTree;JJ[J)I"⟩
abbrev cX0_between : ByteArray := prog_1_method_9_code
def yX0_between : MethodName := ⟨RX0, "between", "(JJ)I"⟩
abbrev cL_pick : ByteArray := method_11_code
def yL_pick : MethodName := ⟨RL, "pick", "(LFairTree;[J)I"⟩
abbrev cX0_pick : ByteArray := prog_1_method_10_code
def yX0_pick : MethodName := ⟨RX0, "pick", "()I"⟩
abbrev cL_ahead : ByteArray := method_12_code
def yL_ahead : MethodName := ⟨RL, "ahead", "(LFairTree;I[J)I"⟩
abbrev cX0_ahead : ByteArray := prog_1_method_11_code
def yX0_ahead : MethodName := ⟨RX0, "ahead", "(I)J"⟩
abbrev cL_half : ByteArray := method_13_code
def yL_half : MethodName := ⟨RL, "half", "(LFairTree;[J)I"⟩
abbrev cX0_half : ByteArray := prog_1_method_13_code
def yX0_half : MethodName := ⟨RX0, "half", "()I"⟩
abbrev cL_nearest : ByteArray := method_14_code
def yL_nearest : MethodName := ⟨RL, "nearest", "(LFairTree;[J)I"⟩
abbrev cX0_nearest : ByteArray := prog_1_method_14_code
def yX0_nearest : MethodName := ⟨RX0, "nearest", "()J"⟩
abbrev cX1_init : ByteArray := prog_3_method_1_code
def yX1_init : MethodName := ⟨RX1, "<init>", "()V"⟩
abbrev cX1_thrown : ByteArray := prog_3_method_2_code
def yX1_thrown : MethodName := ⟨RX1, "thrown", "()I"⟩
abbrev cX1_put : ByteArray := prog_3_method_6_code
def yX1_put : MethodName := ⟨RX1, "put", "(IJJI)I"⟩
abbrev cX1_many : ByteArray := prog_3_method_5_code
def yX1_many : MethodName := ⟨RX1, "many", "()I"⟩
abbrev cX1_drop : ByteArray := prog_3_method_7_code
def yX1_drop : MethodName := ⟨RX1, "drop", "(I)I"⟩
abbrev cX1_no : ByteArray := prog_3_method_4_code
def yX1_no : MethodName := ⟨RX1, "no", "(I)Z"⟩
abbrev cX1_slide : ByteArray := prog_3_method_8_code
def yX1_slide : MethodName := ⟨RX1, "slide", "(J)J"⟩
abbrev cX1_fail : ByteArray := prog_3_method_3_code
def yX1_fail : MethodName := ⟨RX1, "fail", "(I)I"⟩
abbrev cX1_told : ByteArray := prog_3_method_9_code
def yX1_told : MethodName := ⟨RX1, "told", "(II)J"⟩
abbrev cX1_at : ByteArray := prog_3_method_12_code
def yX1_at : MethodName := ⟨RX1, "at", "(I)I"⟩
abbrev cX1_place : ByteArray := prog_3_method_11_code
def yX1_place : MethodName := ⟨RX1, "place", "(I)I"⟩
abbrev cX1_before : ByteArray := prog_3_method_10_code
def yX1_before : MethodName := ⟨RX1, "before", "(II)Z"⟩
abbrev cX1_rank : ByteArray := prog_3_method_13_code
def yX1_rank : MethodName := ⟨RX1, "rank", "(I)I"⟩
abbrev cX1_earliest : ByteArray := prog_3_method_15_code
def yX1_earliest : MethodName := ⟨RX1, "earliest", "(J)I"⟩
abbrev cX1_first : ByteArray := prog_3_method_14_code
def yX1_first : MethodName := ⟨RX1, "first", "(JJ)I"⟩
abbrev cX1_between : ByteArray := prog_3_method_16_code
def yX1_between : MethodName := ⟨RX1, "between", "(JJ)I"⟩
abbrev cX1_pick : ByteArray := prog_3_method_19_code
def yX1_pick : MethodName := ⟨RX1, "pick", "()I"⟩
abbrev cX1_lead : ByteArray := prog_3_method_18_code
def yX1_lead : MethodName := ⟨RX1, "lead", "(I)J"⟩
abbrev cX1_ahead : ByteArray := prog_3_method_20_code
def yX1_ahead : MethodName := ⟨RX1, "ahead", "(I)J"⟩
abbrev cX1_weight : ByteArray := prog_3_method_21_code
def yX1_weight : MethodName := ⟨RX1, "weight", "(J)I"⟩
abbrev cX1_half : ByteArray := prog_3_method_22_code
def yX1_half : MethodName := ⟨RX1, "half", "()I"⟩
abbrev cX1_all : ByteArray := prog_3_method_17_code
def yX1_all : MethodName := ⟨RX1, "all", "()J"⟩
abbrev cX1_nearest : ByteArray := prog_3_method_23_code
def yX1_nearest : MethodName := ⟨RX1, "nearest", "()J"⟩
abbrev cX1_cut : ByteArray := prog_3_method_24_code
def yX1_cut : MethodName := ⟨RX1, "cut", "(JJ)I"⟩
abbrev cX1_count : ByteArray := prog_3_method_25_code
def yX1_count : MethodName := ⟨RX1, "count", "(I)I"⟩
abbrev cL_law : ByteArray := code
def yL_law : MethodName := ⟨RL, "law", "([I)Z"⟩
abbrev wsX0_init : List Cond := .code yX0_init cX0_init 1 none :: TB
abbrev wsX0_weight : List Cond := .code yX0_weight cX0_weight 3 (some .int) :: TB
abbrev wsX0_placesNotAbove : List Cond := .code yX0_placesNotAbove cX0_placesNotAbove 3 (some .int) :: TB
abbrev wsX0_placesBefore : List Cond := .code yX0_placesBefore cX0_placesBefore 5 (some .int) :: TB
abbrev wsX0_standsBefore : List Cond := .code yX0_standsBefore cX0_standsBefore 5 (some .boolean) :: TB
abbrev wsX0_weightOfFirst : List Cond := .code yX0_weightOfFirst cX0_weightOfFirst 4 (some .int) :: TB
abbrev wsX0_cut : List Cond := .code yX0_cut cX0_cut 7 (some .int) :: TB
abbrev wsX0_placesBelow : List Cond := .code yX0_placesBelow cX0_placesBelow 3 (some .int) :: TB
abbrev wsX0_removePlaces : List Cond := .code yX0_removePlaces cX0_removePlaces 4 none :: TB
abbrev wsX0_count : List Cond := .code yX0_count cX0_count 2 (some .int) :: TB
abbrev wsX0_fairPlaces : List Cond := .code yX0_fairPlaces cX0_fairPlaces 6 (some .int) :: TB
abbrev wsX0_sumOfKeysTimesWeights : List Cond := .code yX0_sumOfKeysTimesWeights cX0_sumOfKeysTimesWeights 4 (some .long) :: TB
abbrev wsX0_keyAt : List Cond := .code yX0_keyAt cX0_keyAt 2 (some .long) :: TB
abbrev wsL_put : List Cond := .codeWith yL_put cL_put 9 (some .int) [(0, 15, 18, 13)] :: TB
abbrev wsX0_put : List Cond := .code yX0_put cX0_put 7 (some .int) :: TB
abbrev wsX0_isNumber : List Cond := .code yX0_isNumber cX0_isNumber 1 (some .boolean) :: TB
abbrev wsX0_mayBePut : List Cond := .code yX0_mayBePut cX0_mayBePut 2 (some .boolean) :: TB
abbrev wsX0_isThere : List Cond := .code yX0_isThere cX0_isThere 2 (some .boolean) :: TB
abbrev wsX0_removeItem : List Cond := .code yX0_removeItem cX0_removeItem 3 none :: TB
abbrev wsX0_insertItem : List Cond := .code yX0_insertItem cX0_insertItem 3 none :: TB
abbrev wsL_drop : List Cond := .codeWith yL_drop cL_drop 4 (some .int) [(0, 9, 12, 19)] :: TB
abbrev wsX0_drop : List Cond := .code yX0_drop cX0_drop 3 (some .int) :: TB
abbrev wsL_slide : List Cond := .codeWith yL_slide cL_slide 5 (some .int) [(0, 8, 11, 19), (0, 8, 15, 13)] :: TB
abbrev wsX0_slide : List Cond := .code yX0_slide cX0_slide 8 (some .long) :: TB
abbrev wsL_told : List Cond := .codeWith yL_told cL_told 5 (some .int) [(0, 9, 12, 19), (0, 9, 16, 13)] :: TB
abbrev wsX0_told : List Cond := .code yX0_told cX0_told 3 (some .long) :: TB
abbrev wsL_at : List Cond := .codeWith yL_at cL_at 4 (some .int) [(0, 9, 12, 19)] :: TB
abbrev wsX0_at : List Cond := .code yX0_at cX0_at 2 (some .int) :: TB
abbrev wsL_rank : List Cond := .codeWith yL_rank cL_rank 4 (some .int) [(0, 9, 12, 19)] :: TB
abbrev wsX0_rank : List Cond := .code yX0_rank cX0_rank 2 (some .int) :: TB
abbrev wsL_earliest : List Cond := .codeWith yL_earliest cL_earliest 5 (some .int) [(0, 9, 12, 19)] :: TB
abbrev wsX0_earliest : List Cond := .code yX0_earliest cX0_earliest 3 (some .int) :: TB
abbrev wsX0_earliestOfPlaces : List Cond := .code yX0_earliestOfPlaces cX0_earliestOfPlaces 5 (some .int) :: TB
abbrev wsX0_isEarlier : List Cond := .code yX0_isEarlier cX0_isEarlier 3 (some .boolean) :: TB
abbrev wsL_between : List Cond := .codeWith yL_between cL_between 7 (some .int) [(0, 11, 14, 19)] :: TB
abbrev wsX0_between : List Cond := .code yX0_between cX0_between 5 (some .int) :: TB
abbrev wsL_pick : List Cond := .codeWith yL_pick cL_pick 3 (some .int) [(0, 8, 11, 19)] :: TB
abbrev wsX0_pick : List Cond := .code yX0_pick cX0_pick 1 (some .int) :: TB
abbrev wsL_ahead : List Cond := .codeWith yL_ahead cL_ahead 4 (some .int) [(0, 8, 11, 19)] :: TB
abbrev wsX0_ahead : List Cond := .code yX0_ahead cX0_ahead 2 (some .long) :: TB
abbrev wsL_half : List Cond := .codeWith yL_half cL_half 3 (some .int) [(0, 8, 11, 19)] :: TB
abbrev wsX0_half : List Cond := .code yX0_half cX0_half 4 (some .int) :: TB
abbrev wsL_nearest : List Cond := .codeWith yL_nearest cL_nearest 3 (some .int) [(0, 7, 10, 19)] :: TB
abbrev wsX0_nearest : List Cond := .code yX0_nearest cX0_nearest 4 (some .long) :: TB
abbrev wsX1_init : List Cond := .code yX1_init cX1_init 1 none :: TB
abbrev wsX1_thrown : List Cond := .code yX1_thrown cX1_thrown 1 (some .int) :: TB
abbrev wsX1_put : List Cond := .code yX1_put cX1_put 7 (some .int) :: TB
abbrev wsX1_many : List Cond := .code yX1_many cX1_many 3 (some .int) :: TB
abbrev wsX1_drop : List Cond := .code yX1_drop cX1_drop 2 (some .int) :: TB
abbrev wsX1_no : List Cond := .code yX1_no cX1_no 2 (some .boolean) :: TB
abbrev wsX1_slide : List Cond := .code yX1_slide cX1_slide 6 (some .long) :: TB
abbrev wsX1_fail : List Cond := .code yX1_fail cX1_fail 2 (some .int) :: TB
abbrev wsX1_told : List Cond := .code yX1_told cX1_told 3 (some .long) :: TB
abbrev wsX1_at : List Cond := .code yX1_at cX1_at 3 (some .int) :: TB
abbrev wsX1_place : List Cond := .code yX1_place cX1_place 4 (some .int) :: TB
abbrev wsX1_before : List Cond := .code yX1_before cX1_before 3 (some .boolean) :: TB
abbrev wsX1_rank : List Cond := .code yX1_rank cX1_rank 2 (some .int) :: TB
abbrev wsX1_earliest : List Cond := .code yX1_earliest cX1_earliest 3 (some .int) :: TB
abbrev wsX1_first : List Cond := .code yX1_first cX1_first 7 (some .int) :: TB
abbrev wsX1_between : List Cond := .code yX1_between cX1_between 5 (some .int) :: TB
abbrev wsX1_pick : List Cond := .code yX1_pick cX1_pick 3 (some .int) :: TB
abbrev wsX1_lead : List Cond := .code yX1_lead cX1_lead 5 (some .long) :: TB
abbrev wsX1_ahead : List Cond := .code yX1_ahead cX1_ahead 2 (some .long) :: TB
abbrev wsX1_weight : List Cond := .code yX1_weight cX1_weight 5 (some .int) :: TB
abbrev wsX1_half : List Cond := .code yX1_half cX1_half 6 (some .int) :: TB
abbrev wsX1_all : List Cond := .code yX1_all cX1_all 4 (some .long) :: TB
abbrev wsX1_nearest : List Cond := .code yX1_nearest cX1_nearest 5 (some .long) :: TB
abbrev wsX1_cut : List Cond := .code yX1_cut cX1_cut 7 (some .int) :: TB
abbrev wsX1_count : List Cond := .code yX1_count cX1_count 4 (some .int) :: TB
theorem w_in_L : (Cond.initialized RL) ∈ TB := tbm 0 (by decide +kernel) (by decide +kernel)
theorem w_in_X0 : (Cond.initialized RX0) ∈ TB := tbm 1 (by decide +kernel) (by decide +kernel)
theorem w_in_X1 : (Cond.initialized RX1) ∈ TB := tbm 2 (by decide +kernel) (by decide +kernel)
theorem w_in_Throwable : (Cond.initialized "java/lang/Throwable") ∈ TB := tbm 3 (by decide +kernel) (by decide +kernel)
theorem w_in_Exception : (Cond.initialized "java/lang/Exception") ∈ TB := tbm 4 (by decide +kernel) (by decide +kernel)
theorem w_in_RuntimeException : (Cond.initialized "java/lang/RuntimeException") ∈ TB := tbm 5 (by decide +kernel) (by decide +kernel)
theorem w_in_IllegalArgumentException : (Cond.initialized "java/lang/IllegalArgumentException") ∈ TB := tbm 6 (by decide +kernel) (by decide +kernel)
theorem w_in_System : (Cond.initialized "java/lang/System") ∈ TB := tbm 7 (by decide +kernel) (by decide +kernel)
theorem w_in_NoSuchElementException : (Cond.initialized "java/util/NoSuchElementException") ∈ TB := tbm 8 (by decide +kernel) (by decide +kernel)
theorem w_in_Math : (Cond.initialized "java/lang/Math") ∈ TB := tbm 9 (by decide +kernel) (by decide +kernel)
theorem w_cl_L_8 : (Cond.classLink RL 8 RX0) ∈ TB := tbm 10 (by decide +kernel) (by decide +kernel)
theorem w_inst_X0 : (Cond.instantiable RX0 5) ∈ TB := tbm 11 (by decide +kernel) (by decide +kernel)
theorem w_ml_L_58 : (Cond.methodLink RL 58 yX0_init) ∈ TB := tbm 12 (by decide +kernel) (by decide +kernel)
theorem w_im_X0_init : (Cond.instanceMethod yX0_init) ∈ TB := tbm 13 (by decide +kernel) (by decide +kernel)
theorem w_co_X0_init : (Cond.code yX0_init cX0_init 1 none) ∈ TB := tbm 14 (by decide +kernel) (by decide +kernel)
theorem w_ml_X0_1 : (Cond.methodLink RX0 1 ⟨"java/lang/Object", "<init>", "()V"⟩) ∈ TB := tbm 15 (by decide +kernel) (by decide +kernel)
theorem w_fl_X0_9 : (Cond.fieldLink RX0 9 "FairTree" "keys" "[J") ∈ TB := tbm 18 (by decide +kernel) (by decide +kernel)
theorem w_fl_X0_13 : (Cond.fieldLink RX0 13 "FairTree" "dues" "[J") ∈ TB := tbm 19 (by decide +kernel) (by decide +kernel)
theorem w_fl_X0_16 : (Cond.fieldLink RX0 16 "FairTree" "weights" "[I") ∈ TB := tbm 20 (by decide +kernel) (by decide +kernel)
theorem w_fl_X0_20 : (Cond.fieldLink RX0 20 "FairTree" "order" "[I") ∈ TB := tbm 21 (by decide +kernel) (by decide +kernel)
theorem w_fl_X0_23 : (Cond.fieldLink RX0 23 "FairTree" "size" "I") ∈ TB := tbm 22 (by decide +kernel) (by decide +kernel)
theorem w_ac_long : (Cond.arrayClass .long) ∈ TB := tbm 34 (by decide +kernel) (by decide +kernel)
theorem w_ac_int : (Cond.arrayClass .int) ∈ TB := tbm 35 (by decide +kernel) (by decide +kernel)
theorem w_ml_L_105 : (Cond.methodLink RL 105 yX0_weight) ∈ TB := tbm 36 (by decide +kernel) (by decide +kernel)
theorem w_im_X0_weight : (Cond.instanceMethod yX0_weight) ∈ TB := tbm 37 (by decide +kernel) (by decide +kernel)
theorem w_se_X0_weight : (Cond.selects RX0 yX0_weight yX0_weight) ∈ TB := tbm 38 (by decide +kernel) (by decide +kernel)
theorem w_co_X0_weight : (Cond.code yX0_weight cX0_weight 3 (some .int)) ∈ TB := tbm 39 (by decide +kernel) (by decide +kernel)
theorem w_ml_X0_63 : (Cond.methodLink RX0 63 yX0_placesNotAbove) ∈ TB := tbm 40 (by decide +kernel) (by decide +kernel)
theorem w_im_X0_placesNotAbove : (Cond.instanceMethod yX0_placesNotAbove) ∈ TB := tbm 42 (by decide +kernel) (by decide +kernel)
theorem w_co_X0_placesNotAbove : (Cond.code yX0_placesNotAbove cX0_placesNotAbove 3 (some .int)) ∈ TB := tbm 43 (by decide +kernel) (by decide +kernel)
theorem w_ml_X0_59 : (Cond.methodLink RX0 59 yX0_placesBefore) ∈ TB := tbm 44 (by decide +kernel) (by decide +kernel)
theorem w_im_X0_placesBefore : (Cond.instanceMethod yX0_placesBefore) ∈ TB := tbm 46 (by decide +kernel) (by decide +kernel)
theorem w_co_X0_placesBefore : (Cond.code yX0_placesBefore cX0_placesBefore 5 (some .int)) ∈ TB := tbm 47 (by decide +kernel) (by decide +kernel)
theorem w_ml_X0_100 : (Cond.methodLink RX0 100 yX0_standsBefore) ∈ TB := tbm 48 (by decide +kernel) (by decide +kernel)
theorem w_im_X0_standsBefore : (Cond.instanceMethod yX0_standsBefore) ∈ TB := tbm 50 (by decide +kernel) (by decide +kernel)
theorem w_co_X0_standsBefore : (Cond.code yX0_standsBefore cX0_standsBefore 5 (some .boolean)) ∈ TB := tbm 51 (by decide +kernel) (by decide +kernel)
theorem w_ml_X0_78 : (Cond.methodLink RX0 78 yX0_weightOfFirst) ∈ TB := tbm 52 (by decide +kernel) (by decide +kernel)
theorem w_im_X0_weightOfFirst : (Cond.instanceMethod yX0_weightOfFirst) ∈ TB := tbm 54 (by decide +kernel) (by decide +kernel)
theorem w_co_X0_weightOfFirst : (Cond.code yX0_weightOfFirst cX0_weightOfFirst 4 (some .int)) ∈ TB := tbm 55 (by decide +kernel) (by decide +kernel)
theorem w_ml_L_115 : (Cond.methodLink RL 115 yX0_cut) ∈ TB := tbm 56 (by decide +kernel) (by decide +kernel)
theorem w_im_X0_cut : (Cond.instanceMethod yX0_cut) ∈ TB := tbm 57 (by decide +kernel) (by decide +kernel)
theorem w_se_X0_cut : (Cond.selects RX0 yX0_cut yX0_cut) ∈ TB := tbm 58 (by decide +kernel) (by decide +kernel)
theorem w_co_X0_cut : (Cond.code yX0_cut cX0_cut 7 (some .int)) ∈ TB := tbm 59 (by decide +kernel) (by decide +kernel)
theorem w_ml_X0_71 : (Cond.methodLink RX0 71 yX0_placesBelow) ∈ TB := tbm 60 (by decide +kernel) (by decide +kernel)
theorem w_im_X0_placesBelow : (Cond.instanceMethod yX0_placesBelow) ∈ TB := tbm 62 (by decide +kernel) (by decide +kernel)
theorem w_co_X0_placesBelow : (Cond.code yX0_placesBelow cX0_placesBelow 3 (some .int)) ∈ TB := tbm 63 (by decide +kernel) (by decide +kernel)
theorem w_ml_X0_92 : (Cond.methodLink RX0 92 yX0_removePlaces) ∈ TB := tbm 64 (by decide +kernel) (by decide +kernel)
theorem w_im_X0_removePlaces : (Cond.instanceMethod yX0_removePlaces) ∈ TB := tbm 66 (by decide +kernel) (by decide +kernel)
theorem w_co_X0_removePlaces : (Cond.code yX0_removePlaces cX0_removePlaces 4 none) ∈ TB := tbm 67 (by decide +kernel) (by decide +kernel)
theorem w_ml_X0_108 : (Cond.methodLink RX0 108 ⟨"java/lang/System", "arraycopy", "(Ljava/lang/Object;ILjava/lang/Object;II)V"⟩) ∈ TB := tbm 68 (by decide +kernel) (by decide +kernel)
theorem w_st_arraycopy : (Cond.static ⟨"java/lang/System", "arraycopy", "(Ljava/lang/Object;ILjava/lang/Object;II)V"⟩) ∈ TB := tbm 69 (by decide +kernel) (by decide +kernel)
theorem w_nat_arraycopy : (Cond.native ⟨"java/lang/System", "arraycopy", "(Ljava/lang/Object;ILjava/lang/Object;II)V"⟩) ∈ TB := tbm 70 (by decide +kernel) (by decide +kernel)
theorem w_ml_L_119 : (Cond.methodLink RL 119 yX0_count) ∈ TB := tbm 71 (by decide +kernel) (by decide +kernel)
theorem w_im_X0_count : (Cond.instanceMethod yX0_count) ∈ TB := tbm 72 (by decide +kernel) (by decide +kernel)
theorem w_se_X0_count : (Cond.selects RX0 yX0_count yX0_count) ∈ TB := tbm 73 (by decide +kernel) (by decide +kernel)
theorem w_co_X0_count : (Cond.code yX0_count cX0_count 2 (some .int)) ∈ TB := tbm 74 (by decide +kernel) (by decide +kernel)
theorem w_ml_X0_74 : (Cond.methodLink RX0 74 yX0_fairPlaces) ∈ TB := tbm 75 (by decide +kernel) (by decide +kernel)
theorem w_im_X0_fairPlaces : (Cond.instanceMethod yX0_fairPlaces) ∈ TB := tbm 77 (by decide +kernel) (by decide +kernel)
theorem w_co_X0_fairPlaces : (Cond.code yX0_fairPlaces cX0_fairPlaces 6 (some .int)) ∈ TB := tbm 78 (by decide +kernel) (by decide +kernel)
theorem w_ml_X0_82 : (Cond.methodLink RX0 82 yX0_sumOfKeysTimesWeights) ∈ TB := tbm 79 (by decide +kernel) (by decide +kernel)
theorem w_im_X0_sumOfKeysTimesWeights : (Cond.instanceMethod yX0_sumOfKeysTimesWeights) ∈ TB := tbm 81 (by decide +kernel) (by decide +kernel)
theorem w_co_X0_sumOfKeysTimesWeights : (Cond.code yX0_sumOfKeysTimesWeights cX0_sumOfKeysTimesWeights 4 (some .long)) ∈ TB := tbm 82 (by decide +kernel) (by decide +kernel)
theorem w_ml_X0_53 : (Cond.methodLink RX0 53 yX0_keyAt) ∈ TB := tbm 83 (by decide +kernel) (by decide +kernel)
theorem w_im_X0_keyAt : (Cond.instanceMethod yX0_keyAt) ∈ TB := tbm 85 (by decide +kernel) (by decide +kernel)
theorem w_co_X0_keyAt : (Cond.code yX0_keyAt cX0_keyAt 2 (some .long)) ∈ TB := tbm 86 (by decide +kernel) (by decide +kernel)
theorem w_ml_L_64 : (Cond.methodLink RL 64 yL_put) ∈ TB := tbm 87 (by decide +kernel) (by decide +kernel)
theorem w_st_L_put : (Cond.static yL_put) ∈ TB := tbm 88 (by decide +kernel) (by decide +kernel)
theorem w_co_L_put : (Cond.codeWith yL_put cL_put 9 (some .int) [(0, 15, 18, 13)]) ∈ TB := tbm 89 (by decide +kernel) (by decide +kernel)
theorem w_cl_L_13 : (Cond.classLink RL 13 "java/lang/IllegalArgumentException") ∈ TB := tbm 90 (by decide +kernel) (by decide +kernel)
theorem w_ml_L_7 : (Cond.methodLink RL 7 yX0_put) ∈ TB := tbm 91 (by decide +kernel) (by decide +kernel)
theorem w_im_X0_put : (Cond.instanceMethod yX0_put) ∈ TB := tbm 92 (by decide +kernel) (by decide +kernel)
theorem w_se_X0_put : (Cond.selects RX0 yX0_put yX0_put) ∈ TB := tbm 93 (by decide +kernel) (by decide +kernel)
theorem w_co_X0_put : (Cond.code yX0_put cX0_put 7 (some .int)) ∈ TB := tbm 94 (by decide +kernel) (by decide +kernel)
theorem w_ml_X0_27 : (Cond.methodLink RX0 27 yX0_isNumber) ∈ TB := tbm 95 (by decide +kernel) (by decide +kernel)
theorem w_st_X0_isNumber : (Cond.static yX0_isNumber) ∈ TB := tbm 96 (by decide +kernel) (by decide +kernel)
theorem w_co_X0_isNumber : (Cond.code yX0_isNumber cX0_isNumber 1 (some .boolean)) ∈ TB := tbm 97 (by decide +kernel) (by decide +kernel)
theorem w_ml_X0_31 : (Cond.methodLink RX0 31 yX0_mayBePut) ∈ TB := tbm 98 (by decide +kernel) (by decide +kernel)
theorem w_st_X0_mayBePut : (Cond.static yX0_mayBePut) ∈ TB := tbm 99 (by decide +kernel) (by decide +kernel)
theorem w_co_X0_mayBePut : (Cond.code yX0_mayBePut cX0_mayBePut 2 (some .boolean)) ∈ TB := tbm 100 (by decide +kernel) (by decide +kernel)
theorem w_k_X0_96 : (Cond.constantLong RX0 96 (-1099511627776)) ∈ TB := tbm 101 (by decide +kernel) (by decide +kernel)
theorem w_k_X0_98 : (Cond.constantLong RX0 98 1099511627776) ∈ TB := tbm 102 (by decide +kernel) (by decide +kernel)
theorem w_cl_X0_35 : (Cond.classLink RX0 35 "java/lang/IllegalArgumentException") ∈ TB := tbm 103 (by decide +kernel) (by decide +kernel)
theorem w_inst_IllegalArgumentException : (Cond.instantiable "java/lang/IllegalArgumentException" 6) ∈ TB := tbm 104 (by decide +kernel) (by decide +kernel)
theorem w_inst_Throwable : (Cond.instantiable "java/lang/Throwable" 6) ∈ TB := tbm 141 (by decide +kernel) (by decide +kernel)
theorem w_nat_fillInStackTrace : (Cond.native ⟨"java/lang/Throwable", "fillInStackTrace", "(I)Ljava/lang/Throwable;"⟩) ∈ TB := tbm 142 (by decide +kernel) (by decide +kernel)
theorem w_ml_X0_37 : (Cond.methodLink RX0 37 ⟨"java/lang/IllegalArgumentException", "<init>", "()V"⟩) ∈ TB := tbm 143 (by decide +kernel) (by decide +kernel)
theorem w_ml_X0_38 : (Cond.methodLink RX0 38 yX0_isThere) ∈ TB := tbm 165 (by decide +kernel) (by decide +kernel)
theorem w_im_X0_isThere : (Cond.instanceMethod yX0_isThere) ∈ TB := tbm 167 (by decide +kernel) (by decide +kernel)
theorem w_co_X0_isThere : (Cond.code yX0_isThere cX0_isThere 2 (some .boolean)) ∈ TB := tbm 168 (by decide +kernel) (by decide +kernel)
theorem w_ml_X0_41 : (Cond.methodLink RX0 41 yX0_removeItem) ∈ TB := tbm 169 (by decide +kernel) (by decide +kernel)
theorem w_im_X0_removeItem : (Cond.instanceMethod yX0_removeItem) ∈ TB := tbm 171 (by decide +kernel) (by decide +kernel)
theorem w_co_X0_removeItem : (Cond.code yX0_removeItem cX0_removeItem 3 none) ∈ TB := tbm 172 (by decide +kernel) (by decide +kernel)
theorem w_ml_X0_45 : (Cond.methodLink RX0 45 yX0_insertItem) ∈ TB := tbm 173 (by decide +kernel) (by decide +kernel)
theorem w_im_X0_insertItem : (Cond.instanceMethod yX0_insertItem) ∈ TB := tbm 175 (by decide +kernel) (by decide +kernel)
theorem w_co_X0_insertItem : (Cond.code yX0_insertItem cX0_insertItem 3 none) ∈ TB := tbm 176 (by decide +kernel) (by decide +kernel)
theorem w_ml_L_73 : (Cond.methodLink RL 73 yL_drop) ∈ TB := tbm 177 (by decide +kernel) (by decide +kernel)
theorem w_st_L_drop : (Cond.static yL_drop) ∈ TB := tbm 178 (by decide +kernel) (by decide +kernel)
theorem w_co_L_drop : (Cond.codeWith yL_drop cL_drop 4 (some .int) [(0, 9, 12, 19)]) ∈ TB := tbm 179 (by decide +kernel) (by decide +kernel)
theorem w_cl_L_19 : (Cond.classLink RL 19 "java/util/NoSuchElementException") ∈ TB := tbm 180 (by decide +kernel) (by decide +kernel)
theorem w_ml_L_15 : (Cond.methodLink RL 15 yX0_drop) ∈ TB := tbm 181 (by decide +kernel) (by decide +kernel)
theorem w_im_X0_drop : (Cond.instanceMethod yX0_drop) ∈ TB := tbm 182 (by decide +kernel) (by decide +kernel)
theorem w_se_X0_drop : (Cond.selects RX0 yX0_drop yX0_drop) ∈ TB := tbm 183 (by decide +kernel) (by decide +kernel)
theorem w_co_X0_drop : (Cond.code yX0_drop cX0_drop 3 (some .int)) ∈ TB := tbm 184 (by decide +kernel) (by decide +kernel)
theorem w_cl_X0_48 : (Cond.classLink RX0 48 "java/util/NoSuchElementException") ∈ TB := tbm 185 (by decide +kernel) (by decide +kernel)
theorem w_inst_NoSuchElementException : (Cond.instantiable "java/util/NoSuchElementException" 6) ∈ TB := tbm 186 (by decide +kernel) (by decide +kernel)
theorem w_ml_X0_50 : (Cond.methodLink RX0 50 ⟨"java/util/NoSuchElementException", "<init>", "()V"⟩) ∈ TB := tbm 194 (by decide +kernel) (by decide +kernel)
theorem w_ml_L_77 : (Cond.methodLink RL 77 yL_slide) ∈ TB := tbm 200 (by decide +kernel) (by decide +kernel)
theorem w_st_L_slide : (Cond.static yL_slide) ∈ TB := tbm 201 (by decide +kernel) (by decide +kernel)
theorem w_co_L_slide : (Cond.codeWith yL_slide cL_slide 5 (some .int) [(0, 8, 11, 19), (0, 8, 15, 13)]) ∈ TB := tbm 202 (by decide +kernel) (by decide +kernel)
theorem w_ml_L_21 : (Cond.methodLink RL 21 yX0_slide) ∈ TB := tbm 203 (by decide +kernel) (by decide +kernel)
theorem w_im_X0_slide : (Cond.instanceMethod yX0_slide) ∈ TB := tbm 204 (by decide +kernel) (by decide +kernel)
theorem w_se_X0_slide : (Cond.selects RX0 yX0_slide yX0_slide) ∈ TB := tbm 205 (by decide +kernel) (by decide +kernel)
theorem w_co_X0_slide : (Cond.code yX0_slide cX0_slide 8 (some .long)) ∈ TB := tbm 206 (by decide +kernel) (by decide +kernel)
theorem w_k_X0_51 : (Cond.constantLong RX0 51 (-2199023255552)) ∈ TB := tbm 207 (by decide +kernel) (by decide +kernel)
theorem w_k_X0_57 : (Cond.constantLong RX0 57 2199023255552) ∈ TB := tbm 208 (by decide +kernel) (by decide +kernel)
theorem w_ml_L_81 : (Cond.methodLink RL 81 yL_told) ∈ TB := tbm 209 (by decide +kernel) (by decide +kernel)
theorem w_st_L_told : (Cond.static yL_told) ∈ TB := tbm 210 (by decide +kernel) (by decide +kernel)
theorem w_co_L_told : (Cond.codeWith yL_told cL_told 5 (some .int) [(0, 9, 12, 19), (0, 9, 16, 13)]) ∈ TB := tbm 211 (by decide +kernel) (by decide +kernel)
theorem w_ml_L_25 : (Cond.methodLink RL 25 yX0_told) ∈ TB := tbm 212 (by decide +kernel) (by decide +kernel)
theorem w_im_X0_told : (Cond.instanceMethod yX0_told) ∈ TB := tbm 213 (by decide +kernel) (by decide +kernel)
theorem w_se_X0_told : (Cond.selects RX0 yX0_told yX0_told) ∈ TB := tbm 214 (by decide +kernel) (by decide +kernel)
theorem w_co_X0_told : (Cond.code yX0_told cX0_told 3 (some .long)) ∈ TB := tbm 215 (by decide +kernel) (by decide +kernel)
theorem w_ml_L_85 : (Cond.methodLink RL 85 yL_at) ∈ TB := tbm 216 (by decide +kernel) (by decide +kernel)
theorem w_st_L_at : (Cond.static yL_at) ∈ TB := tbm 217 (by decide +kernel) (by decide +kernel)
theorem w_co_L_at : (Cond.codeWith yL_at cL_at 4 (some .int) [(0, 9, 12, 19)]) ∈ TB := tbm 218 (by decide +kernel) (by decide +kernel)
theorem w_ml_L_29 : (Cond.methodLink RL 29 yX0_at) ∈ TB := tbm 219 (by decide +kernel) (by decide +kernel)
theorem w_im_X0_at : (Cond.instanceMethod yX0_at) ∈ TB := tbm 220 (by decide +kernel) (by decide +kernel)
theorem w_se_X0_at : (Cond.selects RX0 yX0_at yX0_at) ∈ TB := tbm 221 (by decide +kernel) (by decide +kernel)
theorem w_co_X0_at : (Cond.code yX0_at cX0_at 2 (some .int)) ∈ TB := tbm 222 (by decide +kernel) (by decide +kernel)
theorem w_ml_L_88 : (Cond.methodLink RL 88 yL_rank) ∈ TB := tbm 223 (by decide +kernel) (by decide +kernel)
theorem w_st_L_rank : (Cond.static yL_rank) ∈ TB := tbm 224 (by decide +kernel) (by decide +kernel)
theorem w_co_L_rank : (Cond.codeWith yL_rank cL_rank 4 (some .int) [(0, 9, 12, 19)]) ∈ TB := tbm 225 (by decide +kernel) (by decide +kernel)
theorem w_ml_L_32 : (Cond.methodLink RL 32 yX0_rank) ∈ TB := tbm 226 (by decide +kernel) (by decide +kernel)
theorem w_im_X0_rank : (Cond.instanceMethod yX0_rank) ∈ TB := tbm 227 (by decide +kernel) (by decide +kernel)
theorem w_se_X0_rank : (Cond.selects RX0 yX0_rank yX0_rank) ∈ TB := tbm 228 (by decide +kernel) (by decide +kernel)
theorem w_co_X0_rank : (Cond.code yX0_rank cX0_rank 2 (some .int)) ∈ TB := tbm 229 (by decide +kernel) (by decide +kernel)
theorem w_ml_L_91 : (Cond.methodLink RL 91 yL_earliest) ∈ TB := tbm 230 (by decide +kernel) (by decide +kernel)
theorem w_st_L_earliest : (Cond.static yL_earliest) ∈ TB := tbm 231 (by decide +kernel) (by decide +kernel)
theorem w_co_L_earliest : (Cond.codeWith yL_earliest cL_earliest 5 (some .int) [(0, 9, 12, 19)]) ∈ TB := tbm 232 (by decide +kernel) (by decide +kernel)
theorem w_ml_L_35 : (Cond.methodLink RL 35 yX0_earliest) ∈ TB := tbm 233 (by decide +kernel) (by decide +kernel)
theorem w_im_X0_earliest : (Cond.instanceMethod yX0_earliest) ∈ TB := tbm 234 (by decide +kernel) (by decide +kernel)
theorem w_se_X0_earliest : (Cond.selects RX0 yX0_earliest yX0_earliest) ∈ TB := tbm 235 (by decide +kernel) (by decide +kernel)
theorem w_co_X0_earliest : (Cond.code yX0_earliest cX0_earliest 3 (some .int)) ∈ TB := tbm 236 (by decide +kernel) (by decide +kernel)
theorem w_ml_X0_67 : (Cond.methodLink RX0 67 yX0_earliestOfPlaces) ∈ TB := tbm 237 (by decide +kernel) (by decide +kernel)
theorem w_im_X0_earliestOfPlaces : (Cond.instanceMethod yX0_earliestOfPlaces) ∈ TB := tbm 239 (by decide +kernel) (by decide +kernel)
theorem w_co_X0_earliestOfPlaces : (Cond.code yX0_earliestOfPlaces cX0_earliestOfPlaces 5 (some .int)) ∈ TB := tbm 240 (by decide +kernel) (by decide +kernel)
theorem w_ml_X0_104 : (Cond.methodLink RX0 104 yX0_isEarlier) ∈ TB := tbm 241 (by decide +kernel) (by decide +kernel)
theorem w_im_X0_isEarlier : (Cond.instanceMethod yX0_isEarlier) ∈ TB := tbm 243 (by decide +kernel) (by decide +kernel)
theorem w_co_X0_isEarlier : (Cond.code yX0_isEarlier cX0_isEarlier 3 (some .boolean)) ∈ TB := tbm 244 (by decide +kernel) (by decide +kernel)
theorem w_ml_L_94 : (Cond.methodLink RL 94 yL_between) ∈ TB := tbm 245 (by decide +kernel) (by decide +kernel)
theorem w_st_L_between : (Cond.static yL_between) ∈ TB := tbm 246 (by decide +kernel) (by decide +kernel)
theorem w_co_L_between : (Cond.codeWith yL_between cL_between 7 (some .int) [(0, 11, 14, 19)]) ∈ TB := tbm 247 (by decide +kernel) (by decide +kernel)
theorem w_ml_L_39 : (Cond.methodLink RL 39 yX0_between) ∈ TB := tbm 248 (by decide +kernel) (by decide +kernel)
theorem w_im_X0_between : (Cond.instanceMethod yX0_between) ∈ TB := tbm 249 (by decide +kernel) (by decide +kernel)
theorem w_se_X0_between : (Cond.selects RX0 yX0_between yX0_between) ∈ TB := tbm 250 (by decide +kernel) (by decide +kernel)
theorem w_co_X0_between : (Cond.code yX0_between cX0_between 5 (some .int)) ∈ TB := tbm 251 (by decide +kernel) (by decide +kernel)
theorem w_ml_L_98 : (Cond.methodLink RL 98 yL_pick) ∈ TB := tbm 252 (by decide +kernel) (by decide +kernel)
theorem w_st_L_pick : (Cond.static yL_pick) ∈ TB := tbm 253 (by decide +kernel) (by decide +kernel)
theorem w_co_L_pick : (Cond.codeWith yL_pick cL_pick 3 (some .int) [(0, 8, 11, 19)]) ∈ TB := tbm 254 (by decide +kernel) (by decide +kernel)
theorem w_ml_L_43 : (Cond.methodLink RL 43 yX0_pick) ∈ TB := tbm 255 (by decide +kernel) (by decide +kernel)
theorem w_im_X0_pick : (Cond.instanceMethod yX0_pick) ∈ TB := tbm 256 (by decide +kernel) (by decide +kernel)
theorem w_se_X0_pick : (Cond.selects RX0 yX0_pick yX0_pick) ∈ TB := tbm 257 (by decide +kernel) (by decide +kernel)
theorem w_co_X0_pick : (Cond.code yX0_pick cX0_pick 1 (some .int)) ∈ TB := tbm 258 (by decide +kernel) (by decide +kernel)
theorem w_ml_L_102 : (Cond.methodLink RL 102 yL_ahead) ∈ TB := tbm 259 (by decide +kernel) (by decide +kernel)
theorem w_st_L_ahead : (Cond.static yL_ahead) ∈ TB := tbm 260 (by decide +kernel) (by decide +kernel)
theorem w_co_L_ahead : (Cond.codeWith yL_ahead cL_ahead 4 (some .int) [(0, 8, 11, 19)]) ∈ TB := tbm 261 (by decide +kernel) (by decide +kernel)
theorem w_ml_L_47 : (Cond.methodLink RL 47 yX0_ahead) ∈ TB := tbm 262 (by decide +kernel) (by decide +kernel)
theorem w_im_X0_ahead : (Cond.instanceMethod yX0_ahead) ∈ TB := tbm 263 (by decide +kernel) (by decide +kernel)
theorem w_se_X0_ahead : (Cond.selects RX0 yX0_ahead yX0_ahead) ∈ TB := tbm 264 (by decide +kernel) (by decide +kernel)
theorem w_co_X0_ahead : (Cond.code yX0_ahead cX0_ahead 2 (some .long)) ∈ TB := tbm 265 (by decide +kernel) (by decide +kernel)
theorem w_ml_L_109 : (Cond.methodLink RL 109 yL_half) ∈ TB := tbm 266 (by decide +kernel) (by decide +kernel)
theorem w_st_L_half : (Cond.static yL_half) ∈ TB := tbm 267 (by decide +kernel) (by decide +kernel)
theorem w_co_L_half : (Cond.codeWith yL_half cL_half 3 (some .int) [(0, 8, 11, 19)]) ∈ TB := tbm 268 (by decide +kernel) (by decide +kernel)
theorem w_ml_L_51 : (Cond.methodLink RL 51 yX0_half) ∈ TB := tbm 269 (by decide +kernel) (by decide +kernel)
theorem w_im_X0_half : (Cond.instanceMethod yX0_half) ∈ TB := tbm 270 (by decide +kernel) (by decide +kernel)
theorem w_se_X0_half : (Cond.selects RX0 yX0_half yX0_half) ∈ TB := tbm 271 (by decide +kernel) (by decide +kernel)
theorem w_co_X0_half : (Cond.code yX0_half cX0_half 4 (some .int)) ∈ TB := tbm 272 (by decide +kernel) (by decide +kernel)
theorem w_ml_L_112 : (Cond.methodLink RL 112 yL_nearest) ∈ TB := tbm 273 (by decide +kernel) (by decide +kernel)
theorem w_st_L_nearest : (Cond.static yL_nearest) ∈ TB := tbm 274 (by decide +kernel) (by decide +kernel)
theorem w_co_L_nearest : (Cond.codeWith yL_nearest cL_nearest 3 (some .int) [(0, 7, 10, 19)]) ∈ TB := tbm 275 (by decide +kernel) (by decide +kernel)
theorem w_ml_L_54 : (Cond.methodLink RL 54 yX0_nearest) ∈ TB := tbm 276 (by decide +kernel) (by decide +kernel)
theorem w_im_X0_nearest : (Cond.instanceMethod yX0_nearest) ∈ TB := tbm 277 (by decide +kernel) (by decide +kernel)
theorem w_se_X0_nearest : (Cond.selects RX0 yX0_nearest yX0_nearest) ∈ TB := tbm 278 (by decide +kernel) (by decide +kernel)
theorem w_co_X0_nearest : (Cond.code yX0_nearest cX0_nearest 4 (some .long)) ∈ TB := tbm 279 (by decide +kernel) (by decide +kernel)
theorem w_ml_X0_86 : (Cond.methodLink RX0 86 ⟨"java/lang/Math", "min", "(JJ)J"⟩) ∈ TB := tbm 280 (by decide +kernel) (by decide +kernel)
theorem w_st_min : (Cond.static ⟨"java/lang/Math", "min", "(JJ)J"⟩) ∈ TB := tbm 281 (by decide +kernel) (by decide +kernel)
theorem w_co_min : (Cond.code Lib.MathLoose.min_long.x Lib.MathLoose.min_long.code 4 (some .long)) ∈ TB := tbm 282 (by decide +kernel) (by decide +kernel)
theorem w_cl_L_59 : (Cond.classLink RL 59 RX1) ∈ TB := tbm 283 (by decide +kernel) (by decide +kernel)
theorem w_inst_X1 : (Cond.instantiable RX1 5) ∈ TB := tbm 284 (by decide +kernel) (by decide +kernel)
theorem w_ml_L_61 : (Cond.methodLink RL 61 yX1_init) ∈ TB := tbm 285 (by decide +kernel) (by decide +kernel)
theorem w_im_X1_init : (Cond.instanceMethod yX1_init) ∈ TB := tbm 286 (by decide +kernel) (by decide +kernel)
theorem w_co_X1_init : (Cond.code yX1_init cX1_init 1 none) ∈ TB := tbm 287 (by decide +kernel) (by decide +kernel)
theorem w_ml_X1_1 : (Cond.methodLink RX1 1 ⟨"java/lang/Object", "<init>", "()V"⟩) ∈ TB := tbm 288 (by decide +kernel) (by decide +kernel)
theorem w_fl_X1_9 : (Cond.fieldLink RX1 9 "FairTreeModel" "there" "[Z") ∈ TB := tbm 289 (by decide +kernel) (by decide +kernel)
theorem w_fl_X1_13 : (Cond.fieldLink RX1 13 "FairTreeModel" "key" "[J") ∈ TB := tbm 290 (by decide +kernel) (by decide +kernel)
theorem w_fl_X1_17 : (Cond.fieldLink RX1 17 "FairTreeModel" "due" "[J") ∈ TB := tbm 291 (by decide +kernel) (by decide +kernel)
theorem w_fl_X1_20 : (Cond.fieldLink RX1 20 "FairTreeModel" "weight" "[I") ∈ TB := tbm 292 (by decide +kernel) (by decide +kernel)
theorem w_fl_X1_24 : (Cond.fieldLink RX1 24 "FairTreeModel" "thrown" "I") ∈ TB := tbm 293 (by decide +kernel) (by decide +kernel)
theorem w_ac_boolean : (Cond.arrayClass .boolean) ∈ TB := tbm 305 (by decide +kernel) (by decide +kernel)
theorem w_ml_L_70 : (Cond.methodLink RL 70 yX1_thrown) ∈ TB := tbm 306 (by decide +kernel) (by decide +kernel)
theorem w_im_X1_thrown : (Cond.instanceMethod yX1_thrown) ∈ TB := tbm 307 (by decide +kernel) (by decide +kernel)
theorem w_se_X1_thrown : (Cond.selects RX1 yX1_thrown yX1_thrown) ∈ TB := tbm 308 (by decide +kernel) (by decide +kernel)
theorem w_co_X1_thrown : (Cond.code yX1_thrown cX1_thrown 1 (some .int)) ∈ TB := tbm 309 (by decide +kernel) (by decide +kernel)
theorem w_ml_L_69 : (Cond.methodLink RL 69 yX1_put) ∈ TB := tbm 310 (by decide +kernel) (by decide +kernel)
theorem w_im_X1_put : (Cond.instanceMethod yX1_put) ∈ TB := tbm 311 (by decide +kernel) (by decide +kernel)
theorem w_se_X1_put : (Cond.selects RX1 yX1_put yX1_put) ∈ TB := tbm 312 (by decide +kernel) (by decide +kernel)
theorem w_co_X1_put : (Cond.code yX1_put cX1_put 7 (some .int)) ∈ TB := tbm 313 (by decide +kernel) (by decide +kernel)
theorem w_k_X1_28 : (Cond.constantLong RX1 28 (-1099511627776)) ∈ TB := tbm 314 (by decide +kernel) (by decide +kernel)
theorem w_k_X1_30 : (Cond.constantLong RX1 30 1099511627776) ∈ TB := tbm 315 (by decide +kernel) (by decide +kernel)
theorem w_ml_X1_32 : (Cond.methodLink RX1 32 yX1_many) ∈ TB := tbm 316 (by decide +kernel) (by decide +kernel)
theorem w_im_X1_many : (Cond.instanceMethod yX1_many) ∈ TB := tbm 318 (by decide +kernel) (by decide +kernel)
theorem w_co_X1_many : (Cond.code yX1_many cX1_many 3 (some .int)) ∈ TB := tbm 319 (by decide +kernel) (by decide +kernel)
theorem w_ml_L_76 : (Cond.methodLink RL 76 yX1_drop) ∈ TB := tbm 320 (by decide +kernel) (by decide +kernel)
theorem w_im_X1_drop : (Cond.instanceMethod yX1_drop) ∈ TB := tbm 321 (by decide +kernel) (by decide +kernel)
theorem w_se_X1_drop : (Cond.selects RX1 yX1_drop yX1_drop) ∈ TB := tbm 322 (by decide +kernel) (by decide +kernel)
theorem w_co_X1_drop : (Cond.code yX1_drop cX1_drop 2 (some .int)) ∈ TB := tbm 323 (by decide +kernel) (by decide +kernel)
theorem w_ml_X1_36 : (Cond.methodLink RX1 36 yX1_no) ∈ TB := tbm 324 (by decide +kernel) (by decide +kernel)
theorem w_im_X1_no : (Cond.instanceMethod yX1_no) ∈ TB := tbm 326 (by decide +kernel) (by decide +kernel)
theorem w_co_X1_no : (Cond.code yX1_no cX1_no 2 (some .boolean)) ∈ TB := tbm 327 (by decide +kernel) (by decide +kernel)
theorem w_ml_L_80 : (Cond.methodLink RL 80 yX1_slide) ∈ TB := tbm 328 (by decide +kernel) (by decide +kernel)
theorem w_im_X1_slide : (Cond.instanceMethod yX1_slide) ∈ TB := tbm 329 (by decide +kernel) (by decide +kernel)
theorem w_se_X1_slide : (Cond.selects RX1 yX1_slide yX1_slide) ∈ TB := tbm 330 (by decide +kernel) (by decide +kernel)
theorem w_co_X1_slide : (Cond.code yX1_slide cX1_slide 6 (some .long)) ∈ TB := tbm 331 (by decide +kernel) (by decide +kernel)
theorem w_k_X1_42 : (Cond.constantLong RX1 42 9223372036854775807) ∈ TB := tbm 332 (by decide +kernel) (by decide +kernel)
theorem w_k_X1_44 : (Cond.constantLong RX1 44 8796093022208) ∈ TB := tbm 333 (by decide +kernel) (by decide +kernel)
theorem w_k_X1_46 : (Cond.constantLong RX1 46 (-8796093022208)) ∈ TB := tbm 334 (by decide +kernel) (by decide +kernel)
theorem w_k_X1_48 : (Cond.constantLong RX1 48 (-2199023255552)) ∈ TB := tbm 335 (by decide +kernel) (by decide +kernel)
theorem w_k_X1_50 : (Cond.constantLong RX1 50 2199023255552) ∈ TB := tbm 336 (by decide +kernel) (by decide +kernel)
theorem w_ml_X1_52 : (Cond.methodLink RX1 52 yX1_fail) ∈ TB := tbm 337 (by decide +kernel) (by decide +kernel)
theorem w_im_X1_fail : (Cond.instanceMethod yX1_fail) ∈ TB := tbm 339 (by decide +kernel) (by decide +kernel)
theorem w_co_X1_fail : (Cond.code yX1_fail cX1_fail 2 (some .int)) ∈ TB := tbm 340 (by decide +kernel) (by decide +kernel)
theorem w_ml_X1_56 : (Cond.methodLink RX1 56 ⟨"java/lang/Math", "min", "(JJ)J"⟩) ∈ TB := tbm 341 (by decide +kernel) (by decide +kernel)
theorem w_ml_L_84 : (Cond.methodLink RL 84 yX1_told) ∈ TB := tbm 342 (by decide +kernel) (by decide +kernel)
theorem w_im_X1_told : (Cond.instanceMethod yX1_told) ∈ TB := tbm 343 (by decide +kernel) (by decide +kernel)
theorem w_se_X1_told : (Cond.selects RX1 yX1_told yX1_told) ∈ TB := tbm 344 (by decide +kernel) (by decide +kernel)
theorem w_co_X1_told : (Cond.code yX1_told cX1_told 3 (some .long)) ∈ TB := tbm 345 (by decide +kernel) (by decide +kernel)
theorem w_ml_L_87 : (Cond.methodLink RL 87 yX1_at) ∈ TB := tbm 346 (by decide +kernel) (by decide +kernel)
theorem w_im_X1_at : (Cond.instanceMethod yX1_at) ∈ TB := tbm 347 (by decide +kernel) (by decide +kernel)
theorem w_se_X1_at : (Cond.selects RX1 yX1_at yX1_at) ∈ TB := tbm 348 (by decide +kernel) (by decide +kernel)
theorem w_co_X1_at : (Cond.code yX1_at cX1_at 3 (some .int)) ∈ TB := tbm 349 (by decide +kernel) (by decide +kernel)
theorem w_ml_X1_66 : (Cond.methodLink RX1 66 yX1_place) ∈ TB := tbm 350 (by decide +kernel) (by decide +kernel)
theorem w_im_X1_place : (Cond.instanceMethod yX1_place) ∈ TB := tbm 352 (by decide +kernel) (by decide +kernel)
theorem w_co_X1_place : (Cond.code yX1_place cX1_place 4 (some .int)) ∈ TB := tbm 353 (by decide +kernel) (by decide +kernel)
theorem w_ml_X1_62 : (Cond.methodLink RX1 62 yX1_before) ∈ TB := tbm 354 (by decide +kernel) (by decide +kernel)
theorem w_im_X1_before : (Cond.instanceMethod yX1_before) ∈ TB := tbm 356 (by decide +kernel) (by decide +kernel)
theorem w_co_X1_before : (Cond.code yX1_before cX1_before 3 (some .boolean)) ∈ TB := tbm 357 (by decide +kernel) (by decide +kernel)
theorem w_ml_L_90 : (Cond.methodLink RL 90 yX1_rank) ∈ TB := tbm 358 (by decide +kernel) (by decide +kernel)
theorem w_im_X1_rank : (Cond.instanceMethod yX1_rank) ∈ TB := tbm 359 (by decide +kernel) (by decide +kernel)
theorem w_se_X1_rank : (Cond.selects RX1 yX1_rank yX1_rank) ∈ TB := tbm 360 (by decide +kernel) (by decide +kernel)
theorem w_co_X1_rank : (Cond.code yX1_rank cX1_rank 2 (some .int)) ∈ TB := tbm 361 (by decide +kernel) (by decide +kernel)
theorem w_ml_L_93 : (Cond.methodLink RL 93 yX1_earliest) ∈ TB := tbm 362 (by decide +kernel) (by decide +kernel)
theorem w_im_X1_earliest : (Cond.instanceMethod yX1_earliest) ∈ TB := tbm 363 (by decide +kernel) (by decide +kernel)
theorem w_se_X1_earliest : (Cond.selects RX1 yX1_earliest yX1_earliest) ∈ TB := tbm 364 (by decide +kernel) (by decide +kernel)
theorem w_co_X1_earliest : (Cond.code yX1_earliest cX1_earliest 3 (some .int)) ∈ TB := tbm 365 (by decide +kernel) (by decide +kernel)
theorem w_k_X1_69 : (Cond.constantLong RX1 69 (-9223372036854775808)) ∈ TB := tbm 366 (by decide +kernel) (by decide +kernel)
theorem w_ml_X1_71 : (Cond.methodLink RX1 71 yX1_first) ∈ TB := tbm 367 (by decide +kernel) (by decide +kernel)
theorem w_im_X1_first : (Cond.instanceMethod yX1_first) ∈ TB := tbm 369 (by decide +kernel) (by decide +kernel)
theorem w_co_X1_first : (Cond.code yX1_first cX1_first 7 (some .int)) ∈ TB := tbm 370 (by decide +kernel) (by decide +kernel)
theorem w_ml_L_97 : (Cond.methodLink RL 97 yX1_between) ∈ TB := tbm 371 (by decide +kernel) (by decide +kernel)
theorem w_im_X1_between : (Cond.instanceMethod yX1_between) ∈ TB := tbm 372 (by decide +kernel) (by decide +kernel)
theorem w_se_X1_between : (Cond.selects RX1 yX1_between yX1_between) ∈ TB := tbm 373 (by decide +kernel) (by decide +kernel)
theorem w_co_X1_between : (Cond.code yX1_between cX1_between 5 (some .int)) ∈ TB := tbm 374 (by decide +kernel) (by decide +kernel)
theorem w_ml_L_101 : (Cond.methodLink RL 101 yX1_pick) ∈ TB := tbm 375 (by decide +kernel) (by decide +kernel)
theorem w_im_X1_pick : (Cond.instanceMethod yX1_pick) ∈ TB := tbm 376 (by decide +kernel) (by decide +kernel)
theorem w_se_X1_pick : (Cond.selects RX1 yX1_pick yX1_pick) ∈ TB := tbm 377 (by decide +kernel) (by decide +kernel)
theorem w_co_X1_pick : (Cond.code yX1_pick cX1_pick 3 (some .int)) ∈ TB := tbm 378 (by decide +kernel) (by decide +kernel)
theorem w_ml_X1_75 : (Cond.methodLink RX1 75 yX1_lead) ∈ TB := tbm 379 (by decide +kernel) (by decide +kernel)
theorem w_im_X1_lead : (Cond.instanceMethod yX1_lead) ∈ TB := tbm 381 (by decide +kernel) (by decide +kernel)
theorem w_co_X1_lead : (Cond.code yX1_lead cX1_lead 5 (some .long)) ∈ TB := tbm 382 (by decide +kernel) (by decide +kernel)
theorem w_ml_L_104 : (Cond.methodLink RL 104 yX1_ahead) ∈ TB := tbm 383 (by decide +kernel) (by decide +kernel)
theorem w_im_X1_ahead : (Cond.instanceMethod yX1_ahead) ∈ TB := tbm 384 (by decide +kernel) (by decide +kernel)
theorem w_se_X1_ahead : (Cond.selects RX1 yX1_ahead yX1_ahead) ∈ TB := tbm 385 (by decide +kernel) (by decide +kernel)
theorem w_co_X1_ahead : (Cond.code yX1_ahead cX1_ahead 2 (some .long)) ∈ TB := tbm 386 (by decide +kernel) (by decide +kernel)
theorem w_ml_L_108 : (Cond.methodLink RL 108 yX1_weight) ∈ TB := tbm 387 (by decide +kernel) (by decide +kernel)
theorem w_im_X1_weight : (Cond.instanceMethod yX1_weight) ∈ TB := tbm 388 (by decide +kernel) (by decide +kernel)
theorem w_se_X1_weight : (Cond.selects RX1 yX1_weight yX1_weight) ∈ TB := tbm 389 (by decide +kernel) (by decide +kernel)
theorem w_co_X1_weight : (Cond.code yX1_weight cX1_weight 5 (some .int)) ∈ TB := tbm 390 (by decide +kernel) (by decide +kernel)
theorem w_ml_L_111 : (Cond.methodLink RL 111 yX1_half) ∈ TB := tbm 391 (by decide +kernel) (by decide +kernel)
theorem w_im_X1_half : (Cond.instanceMethod yX1_half) ∈ TB := tbm 392 (by decide +kernel) (by decide +kernel)
theorem w_se_X1_half : (Cond.selects RX1 yX1_half yX1_half) ∈ TB := tbm 393 (by decide +kernel) (by decide +kernel)
theorem w_co_X1_half : (Cond.code yX1_half cX1_half 6 (some .int)) ∈ TB := tbm 394 (by decide +kernel) (by decide +kernel)
theorem w_k_X1_79 : (Cond.constantLong RX1 79 2) ∈ TB := tbm 395 (by decide +kernel) (by decide +kernel)
theorem w_ml_X1_81 : (Cond.methodLink RX1 81 yX1_all) ∈ TB := tbm 396 (by decide +kernel) (by decide +kernel)
theorem w_im_X1_all : (Cond.instanceMethod yX1_all) ∈ TB := tbm 398 (by decide +kernel) (by decide +kernel)
theorem w_co_X1_all : (Cond.code yX1_all cX1_all 4 (some .long)) ∈ TB := tbm 399 (by decide +kernel) (by decide +kernel)
theorem w_ml_L_114 : (Cond.methodLink RL 114 yX1_nearest) ∈ TB := tbm 400 (by decide +kernel) (by decide +kernel)
theorem w_im_X1_nearest : (Cond.instanceMethod yX1_nearest) ∈ TB := tbm 401 (by decide +kernel) (by decide +kernel)
theorem w_se_X1_nearest : (Cond.selects RX1 yX1_nearest yX1_nearest) ∈ TB := tbm 402 (by decide +kernel) (by decide +kernel)
theorem w_co_X1_nearest : (Cond.code yX1_nearest cX1_nearest 5 (some .long)) ∈ TB := tbm 403 (by decide +kernel) (by decide +kernel)
theorem w_ml_L_118 : (Cond.methodLink RL 118 yX1_cut) ∈ TB := tbm 404 (by decide +kernel) (by decide +kernel)
theorem w_im_X1_cut : (Cond.instanceMethod yX1_cut) ∈ TB := tbm 405 (by decide +kernel) (by decide +kernel)
theorem w_se_X1_cut : (Cond.selects RX1 yX1_cut yX1_cut) ∈ TB := tbm 406 (by decide +kernel) (by decide +kernel)
theorem w_co_X1_cut : (Cond.code yX1_cut cX1_cut 7 (some .int)) ∈ TB := tbm 407 (by decide +kernel) (by decide +kernel)
theorem w_ml_L_122 : (Cond.methodLink RL 122 yX1_count) ∈ TB := tbm 408 (by decide +kernel) (by decide +kernel)
theorem w_im_X1_count : (Cond.instanceMethod yX1_count) ∈ TB := tbm 409 (by decide +kernel) (by decide +kernel)
theorem w_se_X1_count : (Cond.selects RX1 yX1_count yX1_count) ∈ TB := tbm 410 (by decide +kernel) (by decide +kernel)
theorem w_co_X1_count : (Cond.code yX1_count cX1_count 4 (some .int)) ∈ TB := tbm 411 (by decide +kernel) (by decide +kernel)
theorem w_k_L_62 : (Cond.constantLong RL 62 4294967295) ∈ TB := tbm 412 (by decide +kernel) (by decide +kernel)
theorem w_se_X0_placesNotAbove : (Cond.selects RX0 yX0_placesNotAbove yX0_placesNotAbove) ∈ TB := tbs 0 (by decide +kernel) (by decide +kernel)
theorem w_se_X0_placesBefore : (Cond.selects RX0 yX0_placesBefore yX0_placesBefore) ∈ TB := tbs 1 (by decide +kernel) (by decide +kernel)
theorem w_se_X0_standsBefore : (Cond.selects RX0 yX0_standsBefore yX0_standsBefore) ∈ TB := tbs 2 (by decide +kernel) (by decide +kernel)
theorem w_se_X0_weightOfFirst : (Cond.selects RX0 yX0_weightOfFirst yX0_weightOfFirst) ∈ TB := tbs 3 (by decide +kernel) (by decide +kernel)
theorem w_se_X0_placesBelow : (Cond.selects RX0 yX0_placesBelow yX0_placesBelow) ∈ TB := tbs 4 (by decide +kernel) (by decide +kernel)
theorem w_se_X0_removePlaces : (Cond.selects RX0 yX0_removePlaces yX0_removePlaces) ∈ TB := tbs 5 (by decide +kernel) (by decide +kernel)
theorem w_se_X0_fairPlaces : (Cond.selects RX0 yX0_fairPlaces yX0_fairPlaces) ∈ TB := tbs 6 (by decide +kernel) (by decide +kernel)
theorem w_se_X0_sumOfKeysTimesWeights : (Cond.selects RX0 yX0_sumOfKeysTimesWeights yX0_sumOfKeysTimesWeights) ∈ TB := tbs 7 (by decide +kernel) (by decide +kernel)
theorem w_se_X0_keyAt : (Cond.selects RX0 yX0_keyAt yX0_keyAt) ∈ TB := tbs 8 (by decide +kernel) (by decide +kernel)
theorem w_se_X0_isThere : (Cond.selects RX0 yX0_isThere yX0_isThere) ∈ TB := tbs 10 (by decide +kernel) (by decide +kernel)
theorem w_se_X0_removeItem : (Cond.selects RX0 yX0_removeItem yX0_removeItem) ∈ TB := tbs 11 (by decide +kernel) (by decide +kernel)
theorem w_se_X0_insertItem : (Cond.selects RX0 yX0_insertItem yX0_insertItem) ∈ TB := tbs 12 (by decide +kernel) (by decide +kernel)
theorem w_se_X0_earliestOfPlaces : (Cond.selects RX0 yX0_earliestOfPlaces yX0_earliestOfPlaces) ∈ TB := tbs 13 (by decide +kernel) (by decide +kernel)
theorem w_se_X0_isEarlier : (Cond.selects RX0 yX0_isEarlier yX0_isEarlier) ∈ TB := tbs 14 (by decide +kernel) (by decide +kernel)
theorem w_se_X1_many : (Cond.selects RX1 yX1_many yX1_many) ∈ TB := tbs 15 (by decide +kernel) (by decide +kernel)
theorem w_se_X1_no : (Cond.selects RX1 yX1_no yX1_no) ∈ TB := tbs 16 (by decide +kernel) (by decide +kernel)
theorem w_se_X1_fail : (Cond.selects RX1 yX1_fail yX1_fail) ∈ TB := tbs 17 (by decide +kernel) (by decide +kernel)
theorem w_se_X1_place : (Cond.selects RX1 yX1_place yX1_place) ∈ TB := tbs 18 (by decide +kernel) (by decide +kernel)
theorem w_se_X1_before : (Cond.selects RX1 yX1_before yX1_before) ∈ TB := tbs 19 (by decide +kernel) (by decide +kernel)
theorem w_se_X1_first : (Cond.selects RX1 yX1_first yX1_first) ∈ TB := tbs 20 (by decide +kernel) (by decide +kernel)
theorem w_se_X1_lead : (Cond.selects RX1 yX1_lead yX1_lead) ∈ TB := tbs 21 (by decide +kernel) (by decide +kernel)
theorem w_se_X1_all : (Cond.selects RX1 yX1_all yX1_all) ∈ TB := tbs 22 (by decide +kernel) (by decide +kernel)
theorem gL_105 {Ts : List Cond} (hT : ∀ w ∈ TB, w ∈ Ts) : GoodIn Ts (wsV RL 105 RX0 yX0_weight wsX0_weight) := gdV hT w_ml_L_105 w_im_X0_weight w_se_X0_weight w_in_X0 w_co_X0_weight
theorem gX0_63 {Ts : List Cond} (hT : ∀ w ∈ TB, w ∈ Ts) : GoodIn Ts (wsV RX0 63 RX0 yX0_placesNotAbove wsX0_placesNotAbove) := gdV hT w_ml_X0_63 w_im_X0_placesNotAbove w_se_X0_placesNotAbove w_in_X0 w_co_X0_placesNotAbove
theorem gX0_59 {Ts : List Cond} (hT : ∀ w ∈ TB, w ∈ Ts) : GoodIn Ts (wsV RX0 59 RX0 yX0_placesBefore wsX0_placesBefore) := gdV hT w_ml_X0_59 w_im_X0_placesBefore w_se_X0_placesBefore w_in_X0 w_co_X0_placesBefore
theorem gX0_100 {Ts : List Cond} (hT : ∀ w ∈ TB, w ∈ Ts) : GoodIn Ts (wsV RX0 100 RX0 yX0_standsBefore wsX0_standsBefore) := gdV hT w_ml_X0_100 w_im_X0_standsBefore w_se_X0_standsBefore w_in_X0 w_co_X0_standsBefore
theorem gX0_78 {Ts : List Cond} (hT : ∀ w ∈ TB, w ∈ Ts) : GoodIn Ts (wsV RX0 78 RX0 yX0_weightOfFirst wsX0_weightOfFirst) := gdV hT w_ml_X0_78 w_im_X0_weightOfFirst w_se_X0_weightOfFirst w_in_X0 w_co_X0_weightOfFirst
theorem gL_115 {Ts : List Cond} (hT : ∀ w ∈ TB, w ∈ Ts) : GoodIn Ts (wsV RL 115 RX0 yX0_cut wsX0_cut) := gdV hT w_ml_L_115 w_im_X0_cut w_se_X0_cut w_in_X0 w_co_X0_cut
theorem gX0_71 {Ts : List Cond} (hT : ∀ w ∈ TB, w ∈ Ts) : GoodIn Ts (wsV RX0 71 RX0 yX0_placesBelow wsX0_placesBelow) := gdV hT w_ml_X0_71 w_im_X0_placesBelow w_se_X0_placesBelow w_in_X0 w_co_X0_placesBelow
theorem gX0_92 {Ts : List Cond} (hT : ∀ w ∈ TB, w ∈ Ts) : GoodIn Ts (wsV RX0 92 RX0 yX0_removePlaces wsX0_removePlaces) := gdV hT w_ml_X0_92 w_im_X0_removePlaces w_se_X0_removePlaces w_in_X0 w_co_X0_removePlaces
theorem gL_119 {Ts : List Cond} (hT : ∀ w ∈ TB, w ∈ Ts) : GoodIn Ts (wsV RL 119 RX0 yX0_count wsX0_count) := gdV hT w_ml_L_119 w_im_X0_count w_se_X0_count w_in_X0 w_co_X0_count
theorem gX0_74 {Ts : List Cond} (hT : ∀ w ∈ TB, w ∈ Ts) : GoodIn Ts (wsV RX0 74 RX0 yX0_fairPlaces wsX0_fairPlaces) := gdV hT w_ml_X0_74 w_im_X0_fairPlaces w_se_X0_fairPlaces w_in_X0 w_co_X0_fairPlaces
theorem gX0_82 {Ts : List Cond} (hT : ∀ w ∈ TB, w ∈ Ts) : GoodIn Ts (wsV RX0 82 RX0 yX0_sumOfKeysTimesWeights wsX0_sumOfKeysTimesWeights) := gdV hT w_ml_X0_82 w_im_X0_sumOfKeysTimesWeights w_se_X0_sumOfKeysTimesWeights w_in_X0 w_co_X0_sumOfKeysTimesWeights
theorem gX0_53 {Ts : List Cond} (hT : ∀ w ∈ TB, w ∈ Ts) : GoodIn Ts (wsV RX0 53 RX0 yX0_keyAt wsX0_keyAt) := gdV hT w_ml_X0_53 w_im_X0_keyAt w_se_X0_keyAt w_in_X0 w_co_X0_keyAt
theorem gL_7 {Ts : List Cond} (hT : ∀ w ∈ TB, w ∈ Ts) : GoodIn Ts (wsV RL 7 RX0 yX0_put wsX0_put) := gdV hT w_ml_L_7 w_im_X0_put w_se_X0_put w_in_X0 w_co_X0_put
theorem gX0_27 {Ts : List Cond} (hT : ∀ w ∈ TB, w ∈ Ts) : GoodIn Ts (wsS RX0 27 yX0_isNumber wsX0_isNumber) := gdS hT w_ml_X0_27 w_st_X0_isNumber w_in_X0 w_co_X0_isNumber
theorem gX0_31 {Ts : List Cond} (hT : ∀ w ∈ TB, w ∈ Ts) : GoodIn Ts (wsS RX0 31 yX0_mayBePut wsX0_mayBePut) := gdS hT w_ml_X0_31 w_st_X0_mayBePut w_in_X0 w_co_X0_mayBePut
theorem gX0_38 {Ts : List Cond} (hT : ∀ w ∈ TB, w ∈ Ts) : GoodIn Ts (wsV RX0 38 RX0 yX0_isThere wsX0_isThere) := gdV hT w_ml_X0_38 w_im_X0_isThere w_se_X0_isThere w_in_X0 w_co_X0_isThere
theorem gX0_41 {Ts : List Cond} (hT : ∀ w ∈ TB, w ∈ Ts) : GoodIn Ts (wsV RX0 41 RX0 yX0_removeItem wsX0_removeItem) := gdV hT w_ml_X0_41 w_im_X0_removeItem w_se_X0_removeItem w_in_X0 w_co_X0_removeItem
theorem gX0_45 {Ts : List Cond} (hT : ∀ w ∈ TB, w ∈ Ts) : GoodIn Ts (wsV RX0 45 RX0 yX0_insertItem wsX0_insertItem) := gdV hT w_ml_X0_45 w_im_X0_insertItem w_se_X0_insertItem w_in_X0 w_co_X0_insertItem
theorem gL_15 {Ts : List Cond} (hT : ∀ w ∈ TB, w ∈ Ts) : GoodIn Ts (wsV RL 15 RX0 yX0_drop wsX0_drop) := gdV hT w_ml_L_15 w_im_X0_drop w_se_X0_drop w_in_X0 w_co_X0_drop
theorem gL_21 {Ts : List Cond} (hT : ∀ w ∈ TB, w ∈ Ts) : GoodIn Ts (wsV RL 21 RX0 yX0_slide wsX0_slide) := gdV hT w_ml_L_21 w_im_X0_slide w_se_X0_slide w_in_X0 w_co_X0_slide
theorem gL_25 {Ts : List Cond} (hT : ∀ w ∈ TB, w ∈ Ts) : GoodIn Ts (wsV RL 25 RX0 yX0_told wsX0_told) := gdV hT w_ml_L_25 w_im_X0_told w_se_X0_told w_in_X0 w_co_X0_told
theorem gL_29 {Ts : List Cond} (hT : ∀ w ∈ TB, w ∈ Ts) : GoodIn Ts (wsV RL 29 RX0 yX0_at wsX0_at) := gdV hT w_ml_L_29 w_im_X0_at w_se_X0_at w_in_X0 w_co_X0_at
theorem gL_32 {Ts : List Cond} (hT : ∀ w ∈ TB, w ∈ Ts) : GoodIn Ts (wsV RL 32 RX0 yX0_rank wsX0_rank) := gdV hT w_ml_L_32 w_im_X0_rank w_se_X0_rank w_in_X0 w_co_X0_rank
theorem gL_35 {Ts : List Cond} (hT : ∀ w ∈ TB, w ∈ Ts) : GoodIn Ts (wsV RL 35 RX0 yX0_earliest wsX0_earliest) := gdV hT w_ml_L_35 w_im_X0_earliest w_se_X0_earliest w_in_X0 w_co_X0_earliest
theorem gX0_67 {Ts : List Cond} (hT : ∀ w ∈ TB, w ∈ Ts) : GoodIn Ts (wsV RX0 67 RX0 yX0_earliestOfPlaces wsX0_earliestOfPlaces) := gdV hT w_ml_X0_67 w_im_X0_earliestOfPlaces w_se_X0_earliestOfPlaces w_in_X0 w_co_X0_earliestOfPlaces
theorem gX0_104 {Ts : List Cond} (hT : ∀ w ∈ TB, w ∈ Ts) : GoodIn Ts (wsV RX0 104 RX0 yX0_isEarlier wsX0_isEarlier) := gdV hT w_ml_X0_104 w_im_X0_isEarlier w_se_X0_isEarlier w_in_X0 w_co_X0_isEarlier
theorem gL_39 {Ts : List Cond} (hT : ∀ w ∈ TB, w ∈ Ts) : GoodIn Ts (wsV RL 39 RX0 yX0_between wsX0_between) := gdV hT w_ml_L_39 w_im_X0_between w_se_X0_between w_in_X0 w_co_X0_between
theorem gL_43 {Ts : List Cond} (hT : ∀ w ∈ TB, w ∈ Ts) : GoodIn Ts (wsV RL 43 RX0 yX0_pick wsX0_pick) := gdV hT w_ml_L_43 w_im_X0_pick w_se_X0_pick w_in_X0 w_co_X0_pick
theorem gL_47 {Ts : List Cond} (hT : ∀ w ∈ TB, w ∈ Ts) : GoodIn Ts (wsV RL 47 RX0 yX0_ahead wsX0_ahead) := gdV hT w_ml_L_47 w_im_X0_ahead w_se_X0_ahead w_in_X0 w_co_X0_ahead
theorem gL_51 {Ts : List Cond} (hT : ∀ w ∈ TB, w ∈ Ts) : GoodIn Ts (wsV RL 51 RX0 yX0_half wsX0_half) := gdV hT w_ml_L_51 w_im_X0_half w_se_X0_half w_in_X0 w_co_X0_half
theorem gL_54 {Ts : List Cond} (hT : ∀ w ∈ TB, w ∈ Ts) : GoodIn Ts (wsV RL 54 RX0 yX0_nearest wsX0_nearest) := gdV hT w_ml_L_54 w_im_X0_nearest w_se_X0_nearest w_in_X0 w_co_X0_nearest
theorem gL_70 {Ts : List Cond} (hT : ∀ w ∈ TB, w ∈ Ts) : GoodIn Ts (wsV RL 70 RX1 yX1_thrown wsX1_thrown) := gdV hT w_ml_L_70 w_im_X1_thrown w_se_X1_thrown w_in_X1 w_co_X1_thrown
theorem gL_69 {Ts : List Cond} (hT : ∀ w ∈ TB, w ∈ Ts) : GoodIn Ts (wsV RL 69 RX1 yX1_put wsX1_put) := gdV hT w_ml_L_69 w_im_X1_put w_se_X1_put w_in_X1 w_co_X1_put
theorem gX1_32 {Ts : List Cond} (hT : ∀ w ∈ TB, w ∈ Ts) : GoodIn Ts (wsV RX1 32 RX1 yX1_many wsX1_many) := gdV hT w_ml_X1_32 w_im_X1_many w_se_X1_many w_in_X1 w_co_X1_many
theorem gL_76 {Ts : List Cond} (hT : ∀ w ∈ TB, w ∈ Ts) : GoodIn Ts (wsV RL 76 RX1 yX1_drop wsX1_drop) := gdV hT w_ml_L_76 w_im_X1_drop w_se_X1_drop w_in_X1 w_co_X1_drop
theorem gX1_36 {Ts : List Cond} (hT : ∀ w ∈ TB, w ∈ Ts) : GoodIn Ts (wsV RX1 36 RX1 yX1_no wsX1_no) := gdV hT w_ml_X1_36 w_im_X1_no w_se_X1_no w_in_X1 w_co_X1_no
theorem gL_80 {Ts : List Cond} (hT : ∀ w ∈ TB, w ∈ Ts) : GoodIn Ts (wsV RL 80 RX1 yX1_slide wsX1_slide) := gdV hT w_ml_L_80 w_im_X1_slide w_se_X1_slide w_in_X1 w_co_X1_slide
theorem gX1_52 {Ts : List Cond} (hT : ∀ w ∈ TB, w ∈ Ts) : GoodIn Ts (wsV RX1 52 RX1 yX1_fail wsX1_fail) := gdV hT w_ml_X1_52 w_im_X1_fail w_se_X1_fail w_in_X1 w_co_X1_fail
theorem gL_84 {Ts : List Cond} (hT : ∀ w ∈ TB, w ∈ Ts) : GoodIn Ts (wsV RL 84 RX1 yX1_told wsX1_told) := gdV hT w_ml_L_84 w_im_X1_told w_se_X1_told w_in_X1 w_co_X1_told
theorem gL_87 {Ts : List Cond} (hT : ∀ w ∈ TB, w ∈ Ts) : GoodIn Ts (wsV RL 87 RX1 yX1_at wsX1_at) := gdV hT w_ml_L_87 w_im_X1_at w_se_X1_at w_in_X1 w_co_X1_at
theorem gX1_66 {Ts : List Cond} (hT : ∀ w ∈ TB, w ∈ Ts) : GoodIn Ts (wsV RX1 66 RX1 yX1_place wsX1_place) := gdV hT w_ml_X1_66 w_im_X1_place w_se_X1_place w_in_X1 w_co_X1_place
theorem gX1_62 {Ts : List Cond} (hT : ∀ w ∈ TB, w ∈ Ts) : GoodIn Ts (wsV RX1 62 RX1 yX1_before wsX1_before) := gdV hT w_ml_X1_62 w_im_X1_before w_se_X1_before w_in_X1 w_co_X1_before
theorem gL_90 {Ts : List Cond} (hT : ∀ w ∈ TB, w ∈ Ts) : GoodIn Ts (wsV RL 90 RX1 yX1_rank wsX1_rank) := gdV hT w_ml_L_90 w_im_X1_rank w_se_X1_rank w_in_X1 w_co_X1_rank
theorem gL_93 {Ts : List Cond} (hT : ∀ w ∈ TB, w ∈ Ts) : GoodIn Ts (wsV RL 93 RX1 yX1_earliest wsX1_earliest) := gdV hT w_ml_L_93 w_im_X1_earliest w_se_X1_earliest w_in_X1 w_co_X1_earliest
theorem gX1_71 {Ts : List Cond} (hT : ∀ w ∈ TB, w ∈ Ts) : GoodIn Ts (wsV RX1 71 RX1 yX1_first wsX1_first) := gdV hT w_ml_X1_71 w_im_X1_first w_se_X1_first w_in_X1 w_co_X1_first
theorem gL_97 {Ts : List Cond} (hT : ∀ w ∈ TB, w ∈ Ts) : GoodIn Ts (wsV RL 97 RX1 yX1_between wsX1_between) := gdV hT w_ml_L_97 w_im_X1_between w_se_X1_between w_in_X1 w_co_X1_between
theorem gL_101 {Ts : List Cond} (hT : ∀ w ∈ TB, w ∈ Ts) : GoodIn Ts (wsV RL 101 RX1 yX1_pick wsX1_pick) := gdV hT w_ml_L_101 w_im_X1_pick w_se_X1_pick w_in_X1 w_co_X1_pick
theorem gX1_75 {Ts : List Cond} (hT : ∀ w ∈ TB, w ∈ Ts) : GoodIn Ts (wsV RX1 75 RX1 yX1_lead wsX1_lead) := gdV hT w_ml_X1_75 w_im_X1_lead w_se_X1_lead w_in_X1 w_co_X1_lead
theorem gL_104 {Ts : List Cond} (hT : ∀ w ∈ TB, w ∈ Ts) : GoodIn Ts (wsV RL 104 RX1 yX1_ahead wsX1_ahead) := gdV hT w_ml_L_104 w_im_X1_ahead w_se_X1_ahead w_in_X1 w_co_X1_ahead
theorem gL_108 {Ts : List Cond} (hT : ∀ w ∈ TB, w ∈ Ts) : GoodIn Ts (wsV RL 108 RX1 yX1_weight wsX1_weight) := gdV hT w_ml_L_108 w_im_X1_weight w_se_X1_weight w_in_X1 w_co_X1_weight
theorem gL_111 {Ts : List Cond} (hT : ∀ w ∈ TB, w ∈ Ts) : GoodIn Ts (wsV RL 111 RX1 yX1_half wsX1_half) := gdV hT w_ml_L_111 w_im_X1_half w_se_X1_half w_in_X1 w_co_X1_half
theorem gX1_81 {Ts : List Cond} (hT : ∀ w ∈ TB, w ∈ Ts) : GoodIn Ts (wsV RX1 81 RX1 yX1_all wsX1_all) := gdV hT w_ml_X1_81 w_im_X1_all w_se_X1_all w_in_X1 w_co_X1_all
theorem gL_114 {Ts : List Cond} (hT : ∀ w ∈ TB, w ∈ Ts) : GoodIn Ts (wsV RL 114 RX1 yX1_nearest wsX1_nearest) := gdV hT w_ml_L_114 w_im_X1_nearest w_se_X1_nearest w_in_X1 w_co_X1_nearest
theorem gL_118 {Ts : List Cond} (hT : ∀ w ∈ TB, w ∈ Ts) : GoodIn Ts (wsV RL 118 RX1 yX1_cut wsX1_cut) := gdV hT w_ml_L_118 w_im_X1_cut w_se_X1_cut w_in_X1 w_co_X1_cut
theorem gL_122 {Ts : List Cond} (hT : ∀ w ∈ TB, w ∈ Ts) : GoodIn Ts (wsV RL 122 RX1 yX1_count wsX1_count) := gdV hT w_ml_L_122 w_im_X1_count w_se_X1_count w_in_X1 w_co_X1_count
theorem hinX0 : ∀ w ∈ u_ws RX0 TX0 5, w ∈ TB := by decide +kernel
theorem hinX1 : ∀ w ∈ u_ws RX1 TX1 5, w ∈ TB := by decide +kernel
end
section
theorem dX0_init_0 : decode cX0_init 0 = .ok (.aload_n 0, 1) := by decide +kernel
theorem dX0_init_1 : decode cX0_init 1 = .ok (.invokespecial 1, 3) := by decide +kernel
theorem dX0_init_4 : decode cX0_init 4 = .ok (.aload_n 0, 1) := by decide +kernel
theorem dX0_init_5 : decode cX0_init 5 = .ok (.sipush 200, 3) := by decide +kernel
theorem dX0_init_8 : decode cX0_init 8 = .ok (.newarray .long, 2) := by decide +kernel
theorem dX0_init_10 : decode cX0_init 10 = .ok (.putfield 9, 3) := by decide +kernel
theorem dX0_init_13 : decode cX0_init 13 = .ok (.aload_n 0, 1) := by decide +kernel
theorem dX0_init_14 : decode cX0_init 14 = .ok (.sipush 200, 3) := by decide +kernel
theorem dX0_init_17 : decode cX0_init 17 = .ok (.newarray .long, 2) := by decide +kernel
theorem dX0_init_19 : decode cX0_init 19 = .ok (.putfield 13, 3) := by decide +kernel
theorem dX0_init_22 : decode cX0_init 22 = .ok (.aload_n 0, 1) := by decide +kernel
theorem dX0_init_23 : decode cX0_init 23 = .ok (.sipush 200, 3) := by decide +kernel
theorem dX0_init_26 : decode cX0_init 26 = .ok (.newarray .int, 2) := by decide +kernel
theorem dX0_init_28 : decode cX0_init 28 = .ok (.putfield 16, 3) := by decide +kernel
theorem dX0_init_31 : decode cX0_init 31 = .ok (.aload_n 0, 1) := by decide +kernel
theorem dX0_init_32 : decode cX0_init 32 = .ok (.sipush 200, 3) := by decide +kernel
theorem dX0_init_35 : decode cX0_init 35 = .ok (.newarray .int, 2) := by decide +kernel
theorem dX0_init_37 : decode cX0_init 37 = .ok (.putfield 20, 3) := by decide +kernel
theorem dX0_init_40 : decode cX0_init 40 = .ok (.aload_n 0, 1) := by decide +kernel
theorem dX0_init_41 : decode cX0_init 41 = .ok (.iconst 0, 1) := by decide +kernel
theorem dX0_init_42 : decode cX0_init 42 = .ok (.putfield 23, 3) := by decide +kernel
theorem dX0_init_45 : decode cX0_init 45 = .ok (.return_, 1) := by decide +kernel
theorem dX0_put_0 : decode cX0_put 0 = .ok (.iload_n 1, 1) := by decide +kernel
theorem dX0_put_1 : decode cX0_put 1 = .ok (.invokestatic 27, 3) := by decide +kernel
theorem dX0_put_4 : decode cX0_put 4 = .ok (.ifCond .eq 24, 3) := by decide +kernel
theorem dX0_put_7 : decode cX0_put 7 = .ok (.lload_n 2, 1) := by decide +kernel
theorem dX0_put_8 : decode cX0_put 8 = .ok (.invokestatic 31, 3) := by decide +kernel
theorem dX0_put_11 : decode cX0_put 11 = .ok (.ifCond .eq 17, 3) := by decide +kernel
theorem dX0_put_14 : decode cX0_put 14 = .ok (.iload 6, 2) := by decide +kernel
theorem dX0_put_16 : decode cX0_put 16 = .ok (.iconst 1, 1) := by decide +kernel
theorem dX0_put_17 : decode cX0_put 17 = .ok (.if_icmp .lt 11, 3) := by decide +kernel
theorem dX0_put_20 : decode cX0_put 20 = .ok (.iload 6, 2) := by decide +kernel
theorem dX0_put_22 : decode cX0_put 22 = .ok (.sipush 1000, 3) := by decide +kernel
theorem dX0_put_25 : decode cX0_put 25 = .ok (.if_icmp .le 11, 3) := by decide +kernel
theorem dX0_put_28 : decode cX0_put 28 = .ok (.new 35, 3) := by decide +kernel
theorem dX0_put_31 : decode cX0_put 31 = .ok (.dup, 1) := by decide +kernel
theorem dX0_put_32 : decode cX0_put 32 = .ok (.invokespecial 37, 3) := by decide +kernel
theorem dX0_put_35 : decode cX0_put 35 = .ok (.athrow, 1) := by decide +kernel
theorem dX0_put_36 : decode cX0_put 36 = .ok (.aload_n 0, 1) := by decide +kernel
theorem dX0_put_37 : decode cX0_put 37 = .ok (.iload_n 1, 1) := by decide +kernel
theorem dX0_put_38 : decode cX0_put 38 = .ok (.invokevirtual 38, 3) := by decide +kernel
theorem dX0_put_41 : decode cX0_put 41 = .ok (.ifCond .eq 8, 3) := by decide +kernel
theorem dX0_put_44 : decode cX0_put 44 = .ok (.aload_n 0, 1) := by decide +kernel
theorem dX0_put_45 : decode cX0_put 45 = .ok (.iload_n 1, 1) := by decide +kernel
theorem dX0_put_46 : decode cX0_put 46 = .ok (.invokevirtual 41, 3) := by decide +kernel
theorem dX0_put_49 : decode cX0_put 49 = .ok (.aload_n 0, 1) := by decide +kernel
theorem dX0_put_50 : decode cX0_put 50 = .ok (.getfield 9, 3) := by decide +kernel
theorem dX0_put_53 : decode cX0_put 53 = .ok (.iload_n 1, 1) := by decide +kernel
theorem dX0_put_54 : decode cX0_put 54 = .ok (.lload_n 2, 1) := by decide +kernel
theorem dX0_put_55 : decode cX0_put 55 = .ok (.lastore, 1) := by decide +kernel
theorem dX0_put_56 : decode cX0_put 56 = .ok (.aload_n 0, 1) := by decide +kernel
theorem dX0_put_57 : decode cX0_put 57 = .ok (.getfield 13, 3) := by decide +kernel
theorem dX0_put_60 : decode cX0_put 60 = .ok (.iload_n 1, 1) := by decide +kernel
theorem dX0_put_61 : decode cX0_put 61 = .ok (.lload 4, 2) := by decide +kernel
theorem dX0_put_63 : decode cX0_put 63 = .ok (.lastore, 1) := by decide +kernel
theorem dX0_put_64 : decode cX0_put 64 = .ok (.aload_n 0, 1) := by decide +kernel
theorem dX0_put_65 : decode cX0_put 65 = .ok (.getfield 16, 3) := by decide +kernel
theorem dX0_put_68 : decode cX0_put 68 = .ok (.iload_n 1, 1) := by decide +kernel
theorem dX0_put_69 : decode cX0_put 69 = .ok (.iload 6, 2) := by decide +kernel
theorem dX0_put_71 : decode cX0_put 71 = .ok (.iastore, 1) := by decide +kernel
theorem dX0_put_72 : decode cX0_put 72 = .ok (.aload_n 0, 1) := by decide +kernel
theorem dX0_put_73 : decode cX0_put 73 = .ok (.iload_n 1, 1) := by decide +kernel
theorem dX0_put_74 : decode cX0_put 74 = .ok (.invokevirtual 45, 3) := by decide +kernel
theorem dX0_put_77 : decode cX0_put 77 = .ok (.aload_n 0, 1) := by decide +kernel
theorem dX0_put_78 : decode cX0_put 78 = .ok (.getfield 23, 3) := by decide +kernel
theorem dX0_put_81 : decode cX0_put 81 = .ok (.ireturn, 1) := by decide +kernel
theorem dX0_drop_0 : decode cX0_drop 0 = .ok (.aload_n 0, 1) := by decide +kernel
theorem dX0_drop_1 : decode cX0_drop 1 = .ok (.iload_n 1, 1) := by decide +kernel
theorem dX0_drop_2 : decode cX0_drop 2 = .ok (.invokevirtual 38, 3) := by decide +kernel
theorem dX0_drop_5 : decode cX0_drop 5 = .ok (.ifCond .ne 11, 3) := by decide +kernel
theorem dX0_drop_8 : decode cX0_drop 8 = .ok (.new 48, 3) := by decide +kernel
theorem dX0_drop_11 : decode cX0_drop 11 = .ok (.dup, 1) := by decide +kernel
theorem dX0_drop_12 : decode cX0_drop 12 = .ok (.invokespecial 50, 3) := by decide +kernel
theorem dX0_drop_15 : decode cX0_drop 15 = .ok (.athrow, 1) := by decide +kernel
theorem dX0_drop_16 : decode cX0_drop 16 = .ok (.aload_n 0, 1) := by decide +kernel
theorem dX0_drop_17 : decode cX0_drop 17 = .ok (.getfield 16, 3) := by decide +kernel
theorem dX0_drop_20 : decode cX0_drop 20 = .ok (.iload_n 1, 1) := by decide +kernel
theorem dX0_drop_21 : decode cX0_drop 21 = .ok (.iaload, 1) := by decide +kernel
theorem dX0_drop_22 : decode cX0_drop 22 = .ok (.istore_n 2, 1) := by decide +kernel
theorem dX0_drop_23 : decode cX0_drop 23 = .ok (.aload_n 0, 1) := by decide +kernel
theorem dX0_drop_24 : decode cX0_drop 24 = .ok (.iload_n 1, 1) := by decide +kernel
theorem dX0_drop_25 : decode cX0_drop 25 = .ok (.invokevirtual 41, 3) := by decide +kernel
theorem dX0_drop_28 : decode cX0_drop 28 = .ok (.iload_n 2, 1) := by decide +kernel
theorem dX0_drop_29 : decode cX0_drop 29 = .ok (.ireturn, 1) := by decide +kernel
theorem dX0_slide_0 : decode cX0_slide 0 = .ok (.aload_n 0, 1) := by decide +kernel
theorem dX0_slide_1 : decode cX0_slide 1 = .ok (.getfield 23, 3) := by decide +kernel
theorem dX0_slide_4 : decode cX0_slide 4 = .ok (.ifCond .ne 11, 3) := by decide +kernel
theorem dX0_slide_7 : decode cX0_slide 7 = .ok (.new 48, 3) := by decide +kernel
theorem dX0_slide_10 : decode cX0_slide 10 = .ok (.dup, 1) := by decide +kernel
theorem dX0_slide_11 : decode cX0_slide 11 = .ok (.invokespecial 50, 3) := by decide +kernel
theorem dX0_slide_14 : decode cX0_slide 14 = .ok (.athrow, 1) := by decide +kernel
theorem dX0_slide_15 : decode cX0_slide 15 = .ok (.ldc2_w 51, 3) := by decide +kernel
theorem dX0_slide_18 : decode cX0_slide 18 = .ok (.aload_n 0, 1) := by decide +kernel
theorem dX0_slide_19 : decode cX0_slide 19 = .ok (.iconst 0, 1) := by decide +kernel
theorem dX0_slide_20 : decode cX0_slide 20 = .ok (.invokevirtual 53, 3) := by decide +kernel
theorem dX0_slide_23 : decode cX0_slide 23 = .ok (.lsub, 1) := by decide +kernel
theorem dX0_slide_24 : decode cX0_slide 24 = .ok (.lstore_n 3, 1) := by decide +kernel
theorem dX0_slide_25 : decode cX0_slide 25 = .ok (.ldc2_w 57, 3) := by decide +kernel
theorem dX0_slide_28 : decode cX0_slide 28 = .ok (.aload_n 0, 1) := by decide +kernel
theorem dX0_slide_29 : decode cX0_slide 29 = .ok (.aload_n 0, 1) := by decide +kernel
theorem dX0_slide_30 : decode cX0_slide 30 = .ok (.getfield 23, 3) := by decide +kernel
theorem dX0_slide_33 : decode cX0_slide 33 = .ok (.iconst 1, 1) := by decide +kernel
theorem dX0_slide_34 : decode cX0_slide 34 = .ok (.isub, 1) := by decide +kernel
theorem dX0_slide_35 : decode cX0_slide 35 = .ok (.invokevirtual 53, 3) := by decide +kernel
theorem dX0_slide_38 : decode cX0_slide 38 = .ok (.lsub, 1) := by decide +kernel
theorem dX0_slide_39 : decode cX0_slide 39 = .ok (.lstore 5, 2) := by decide +kernel
theorem dX0_slide_41 : decode cX0_slide 41 = .ok (.lload_n 1, 1) := by decide +kernel
theorem dX0_slide_42 : decode cX0_slide 42 = .ok (.lload_n 3, 1) := by decide +kernel
theorem dX0_slide_43 : decode cX0_slide 43 = .ok (.lcmp, 1) := by decide +kernel
theorem dX0_slide_44 : decode cX0_slide 44 = .ok (.ifCond .lt 10, 3) := by decide +kernel
theorem dX0_slide_47 : decode cX0_slide 47 = .ok (.lload_n 1, 1) := by decide +kernel
theorem dX0_slide_48 : decode cX0_slide 48 = .ok (.lload 5, 2) := by decide +kernel
theorem dX0_slide_50 : decode cX0_slide 50 = .ok (.lcmp, 1) := by decide +kernel
theorem dX0_slide_51 : decode cX0_slide 51 = .ok (.ifCond .le 11, 3) := by decide +kernel
theorem dX0_slide_54 : decode cX0_slide 54 = .ok (.new 35, 3) := by decide +kernel
theorem dX0_slide_57 : decode cX0_slide 57 = .ok (.dup, 1) := by decide +kernel
theorem dX0_slide_58 : decode cX0_slide 58 = .ok (.invokespecial 37, 3) := by decide +kernel
theorem dX0_slide_61 : decode cX0_slide 61 = .ok (.athrow, 1) := by decide +kernel
theorem dX0_slide_62 : decode cX0_slide 62 = .ok (.iconst 0, 1) := by decide +kernel
theorem dX0_slide_63 : decode cX0_slide 63 = .ok (.istore 7, 2) := by decide +kernel
theorem dX0_slide_65 : decode cX0_slide 65 = .ok (.iload 7, 2) := by decide +kernel
theorem dX0_slide_67 : decode cX0_slide 67 = .ok (.aload_n 0, 1) := by decide +kernel
theorem dX0_slide_68 : decode cX0_slide 68 = .ok (.getfield 23, 3) := by decide +kernel
theorem dX0_slide_71 : decode cX0_slide 71 = .ok (.if_icmp .ge 25, 3) := by decide +kernel
theorem dX0_slide_74 : decode cX0_slide 74 = .ok (.aload_n 0, 1) := by decide +kernel
theorem dX0_slide_75 : decode cX0_slide 75 = .ok (.getfield 9, 3) := by decide +kernel
theorem dX0_slide_78 : decode cX0_slide 78 = .ok (.aload_n 0, 1) := by decide +kernel
theorem dX0_slide_79 : decode cX0_slide 79 = .ok (.getfield 20, 3) := by decide +kernel
theorem dX0_slide_82 : decode cX0_slide 82 = .ok (.iload 7, 2) := by decide +kernel
theorem dX0_slide_84 : decode cX0_slide 84 = .ok (.iaload, 1) := by decide +kernel
theorem dX0_slide_85 : decode cX0_slide 85 = .ok (.dup2, 1) := by decide +kernel
theorem dX0_slide_86 : decode cX0_slide 86 = .ok (.laload, 1) := by decide +kernel
theorem dX0_slide_87 : decode cX0_slide 87 = .ok (.lload_n 1, 1) := by decide +kernel
theorem dX0_slide_88 : decode cX0_slide 88 = .ok (.ladd, 1) := by decide +kernel
theorem dX0_slide_89 : decode cX0_slide 89 = .ok (.lastore, 1) := by decide +kernel
theorem dX0_slide_90 : decode cX0_slide 90 = .ok (.iinc 7 1, 3) := by decide +kernel
theorem dX0_slide_93 : decode cX0_slide 93 = .ok (.goto (-28), 3) := by decide +kernel
theorem dX0_slide_96 : decode cX0_slide 96 = .ok (.aload_n 0, 1) := by decide +kernel
theorem dX0_slide_97 : decode cX0_slide 97 = .ok (.iconst 0, 1) := by decide +kernel
theorem dX0_slide_98 : decode cX0_slide 98 = .ok (.invokevirtual 53, 3) := by decide +kernel
theorem dX0_slide_101 : decode cX0_slide 101 = .ok (.lreturn, 1) := by decide +kernel
theorem dX0_told_0 : decode cX0_told 0 = .ok (.aload_n 0, 1) := by decide +kernel
theorem dX0_told_1 : decode cX0_told 1 = .ok (.iload_n 1, 1) := by decide +kernel
theorem dX0_told_2 : decode cX0_told 2 = .ok (.invokevirtual 38, 3) := by decide +kernel
theorem dX0_told_5 : decode cX0_told 5 = .ok (.ifCond .ne 11, 3) := by decide +kernel
theorem dX0_told_8 : decode cX0_told 8 = .ok (.new 48, 3) := by decide +kernel
theorem dX0_told_11 : decode cX0_told 11 = .ok (.dup, 1) := by decide +kernel
theorem dX0_told_12 : decode cX0_told 12 = .ok (.invokespecial 50, 3) := by decide +kernel
theorem dX0_told_15 : decode cX0_told 15 = .ok (.athrow, 1) := by decide +kernel
theorem dX0_told_16 : decode cX0_told 16 = .ok (.iload_n 2, 1) := by decide +kernel
theorem dX0_told_17 : decode cX0_told 17 = .ok (.tableswitch 49 0 2 #[27, 34, 41], 27) := by decide +kernel
theorem dX0_told_44 : decode cX0_told 44 = .ok (.aload_n 0, 1) := by decide +kernel
theorem dX0_told_45 : decode cX0_told 45 = .ok (.getfield 9, 3) := by decide +kernel
theorem dX0_told_48 : decode cX0_told 48 = .ok (.iload_n 1, 1) := by decide +kernel
theorem dX0_told_49 : decode cX0_told 49 = .ok (.laload, 1) := by decide +kernel
theorem dX0_told_50 : decode cX0_told 50 = .ok (.lreturn, 1) := by decide +kernel
theorem dX0_told_51 : decode cX0_told 51 = .ok (.aload_n 0, 1) := by decide +kernel
theorem dX0_told_52 : decode cX0_told 52 = .ok (.getfield 13, 3) := by decide +kernel
theorem dX0_told_55 : decode cX0_told 55 = .ok (.iload_n 1, 1) := by decide +kernel
theorem dX0_told_56 : decode cX0_told 56 = .ok (.laload, 1) := by decide +kernel
theorem dX0_told_57 : decode cX0_told 57 = .ok (.lreturn, 1) := by decide +kernel
theorem dX0_told_58 : decode cX0_told 58 = .ok (.aload_n 0, 1) := by decide +kernel
theorem dX0_told_59 : decode cX0_told 59 = .ok (.getfield 16, 3) := by decide +kernel
theorem dX0_told_62 : decode cX0_told 62 = .ok (.iload_n 1, 1) := by decide +kernel
theorem dX0_told_63 : decode cX0_told 63 = .ok (.iaload, 1) := by decide +kernel
theorem dX0_told_64 : decode cX0_told 64 = .ok (.i2l, 1) := by decide +kernel
theorem dX0_told_65 : decode cX0_told 65 = .ok (.lreturn, 1) := by decide +kernel
theorem dX0_told_66 : decode cX0_told 66 = .ok (.new 35, 3) := by decide +kernel
theorem dX0_told_69 : decode cX0_told 69 = .ok (.dup, 1) := by decide +kernel
theorem dX0_told_70 : decode cX0_told 70 = .ok (.invokespecial 37, 3) := by decide +kernel
theorem dX0_told_73 : decode cX0_told 73 = .ok (.athrow, 1) := by decide +kernel
theorem dX0_at_0 : decode cX0_at 0 = .ok (.iload_n 1, 1) := by decide +kernel
theorem dX0_at_1 : decode cX0_at 1 = .ok (.ifCond .lt 11, 3) := by decide +kernel
theorem dX0_at_4 : decode cX0_at 4 = .ok (.iload_n 1, 1) := by decide +kernel
theorem dX0_at_5 : decode cX0_at 5 = .ok (.aload_n 0, 1) := by decide +kernel
theorem dX0_at_6 : decode cX0_at 6 = .ok (.getfield 23, 3) := by decide +kernel
theorem dX0_at_9 : decode cX0_at 9 = .ok (.if_icmp .lt 11, 3) := by decide +kernel
theorem dX0_at_12 : decode cX0_at 12 = .ok (.new 48, 3) := by decide +kernel
theorem dX0_at_15 : decode cX0_at 15 = .ok (.dup, 1) := by decide +kernel
theorem dX0_at_16 : decode cX0_at 16 = .ok (.invokespecial 50, 3) := by decide +kernel
theorem dX0_at_19 : decode cX0_at 19 = .ok (.athrow, 1) := by decide +kernel
theorem dX0_at_20 : decode cX0_at 20 = .ok (.aload_n 0, 1) := by decide +kernel
theorem dX0_at_21 : decode cX0_at 21 = .ok (.getfield 20, 3) := by decide +kernel
theorem dX0_at_24 : decode cX0_at 24 = .ok (.iload_n 1, 1) := by decide +kernel
theorem dX0_at_25 : decode cX0_at 25 = .ok (.iaload, 1) := by decide +kernel
theorem dX0_at_26 : decode cX0_at 26 = .ok (.ireturn, 1) := by decide +kernel
theorem dX0_rank_0 : decode cX0_rank 0 = .ok (.aload_n 0, 1) := by decide +kernel
theorem dX0_rank_1 : decode cX0_rank 1 = .ok (.iload_n 1, 1) := by decide +kernel
theorem dX0_rank_2 : decode cX0_rank 2 = .ok (.invokevirtual 38, 3) := by decide +kernel
theorem dX0_rank_5 : decode cX0_rank 5 = .ok (.ifCond .ne 11, 3) := by decide +kernel
theorem dX0_rank_8 : decode cX0_rank 8 = .ok (.new 48, 3) := by decide +kernel
theorem dX0_rank_11 : decode cX0_rank 11 = .ok (.dup, 1) := by decide +kernel
theorem dX0_rank_12 : decode cX0_rank 12 = .ok (.invokespecial 50, 3) := by decide +kernel
theorem dX0_rank_15 : decode cX0_rank 15 = .ok (.athrow, 1) := by decide +kernel
theorem dX0_rank_16 : decode cX0_rank 16 = .ok (.aload_n 0, 1) := by decide +kernel
theorem dX0_rank_17 : decode cX0_rank 17 = .ok (.aload_n 0, 1) := by decide +kernel
theorem dX0_rank_18 : decode cX0_rank 18 = .ok (.getfield 9, 3) := by decide +kernel
theorem dX0_rank_21 : decode cX0_rank 21 = .ok (.iload_n 1, 1) := by decide +kernel
theorem dX0_rank_22 : decode cX0_rank 22 = .ok (.laload, 1) := by decide +kernel
theorem dX0_rank_23 : decode cX0_rank 23 = .ok (.iload_n 1, 1) := by decide +kernel
theorem dX0_rank_24 : decode cX0_rank 24 = .ok (.invokevirtual 59, 3) := by decide +kernel
theorem dX0_rank_27 : decode cX0_rank 27 = .ok (.ireturn, 1) := by decide +kernel
theorem dX0_earliest_0 : decode cX0_earliest 0 = .ok (.aload_n 0, 1) := by decide +kernel
theorem dX0_earliest_1 : decode cX0_earliest 1 = .ok (.iconst 0, 1) := by decide +kernel
theorem dX0_earliest_2 : decode cX0_earliest 2 = .ok (.aload_n 0, 1) := by decide +kernel
theorem dX0_earliest_3 : decode cX0_earliest 3 = .ok (.lload_n 1, 1) := by decide +kernel
theorem dX0_earliest_4 : decode cX0_earliest 4 = .ok (.invokevirtual 63, 3) := by decide +kernel
theorem dX0_earliest_7 : decode cX0_earliest 7 = .ok (.invokevirtual 67, 3) := by decide +kernel
theorem dX0_earliest_10 : decode cX0_earliest 10 = .ok (.ireturn, 1) := by decide +kernel
theorem dX0_between_0 : decode cX0_between 0 = .ok (.aload_n 0, 1) := by decide +kernel
theorem dX0_between_1 : decode cX0_between 1 = .ok (.aload_n 0, 1) := by decide +kernel
theorem dX0_between_2 : decode cX0_between 2 = .ok (.lload_n 1, 1) := by decide +kernel
theorem dX0_between_3 : decode cX0_between 3 = .ok (.invokevirtual 71, 3) := by decide +kernel
theorem dX0_between_6 : decode cX0_between 6 = .ok (.aload_n 0, 1) := by decide +kernel
theorem dX0_between_7 : decode cX0_between 7 = .ok (.lload_n 3, 1) := by decide +kernel
theorem dX0_between_8 : decode cX0_between 8 = .ok (.invokevirtual 63, 3) := by decide +kernel
theorem dX0_between_11 : decode cX0_between 11 = .ok (.invokevirtual 67, 3) := by decide +kernel
theorem dX0_between_14 : decode cX0_between 14 = .ok (.ireturn, 1) := by decide +kernel
theorem dX0_pick_0 : decode cX0_pick 0 = .ok (.aload_n 0, 1) := by decide +kernel
theorem dX0_pick_1 : decode cX0_pick 1 = .ok (.iconst 0, 1) := by decide +kernel
theorem dX0_pick_2 : decode cX0_pick 2 = .ok (.aload_n 0, 1) := by decide +kernel
theorem dX0_pick_3 : decode cX0_pick 3 = .ok (.invokevirtual 74, 3) := by decide +kernel
theorem dX0_pick_6 : decode cX0_pick 6 = .ok (.invokevirtual 67, 3) := by decide +kernel
theorem dX0_pick_9 : decode cX0_pick 9 = .ok (.ireturn, 1) := by decide +kernel
theorem dX0_ahead_0 : decode cX0_ahead 0 = .ok (.aload_n 0, 1) := by decide +kernel
theorem dX0_ahead_1 : decode cX0_ahead 1 = .ok (.iload_n 1, 1) := by decide +kernel
theorem dX0_ahead_2 : decode cX0_ahead 2 = .ok (.invokevirtual 38, 3) := by decide +kernel
theorem dX0_ahead_5 : decode cX0_ahead 5 = .ok (.ifCond .ne 11, 3) := by decide +kernel
theorem dX0_ahead_8 : decode cX0_ahead 8 = .ok (.new 48, 3) := by decide +kernel
theorem dX0_ahead_11 : decode cX0_ahead 11 = .ok (.dup, 1) := by decide +kernel
theorem dX0_ahead_12 : decode cX0_ahead 12 = .ok (.invokespecial 50, 3) := by decide +kernel
theorem dX0_ahead_15 : decode cX0_ahead 15 = .ok (.athrow, 1) := by decide +kernel
theorem dX0_ahead_16 : decode cX0_ahead 16 = .ok (.aload_n 0, 1) := by decide +kernel
theorem dX0_ahead_17 : decode cX0_ahead 17 = .ok (.getfield 9, 3) := by decide +kernel
theorem dX0_ahead_20 : decode cX0_ahead 20 = .ok (.iload_n 1, 1) := by decide +kernel
theorem dX0_ahead_21 : decode cX0_ahead 21 = .ok (.laload, 1) := by decide +kernel
theorem dX0_ahead_22 : decode cX0_ahead 22 = .ok (.aload_n 0, 1) := by decide +kernel
theorem dX0_ahead_23 : decode cX0_ahead 23 = .ok (.aload_n 0, 1) := by decide +kernel
theorem dX0_ahead_24 : decode cX0_ahead 24 = .ok (.getfield 23, 3) := by decide +kernel
theorem dX0_ahead_27 : decode cX0_ahead 27 = .ok (.invokevirtual 78, 3) := by decide +kernel
theorem dX0_ahead_30 : decode cX0_ahead 30 = .ok (.i2l, 1) := by decide +kernel
theorem dX0_ahead_31 : decode cX0_ahead 31 = .ok (.lmul, 1) := by decide +kernel
theorem dX0_ahead_32 : decode cX0_ahead 32 = .ok (.aload_n 0, 1) := by decide +kernel
theorem dX0_ahead_33 : decode cX0_ahead 33 = .ok (.invokevirtual 82, 3) := by decide +kernel
theorem dX0_ahead_36 : decode cX0_ahead 36 = .ok (.lsub, 1) := by decide +kernel
theorem dX0_ahead_37 : decode cX0_ahead 37 = .ok (.lreturn, 1) := by decide +kernel
theorem dX0_weight_0 : decode cX0_weight 0 = .ok (.aload_n 0, 1) := by decide +kernel
theorem dX0_weight_1 : decode cX0_weight 1 = .ok (.aload_n 0, 1) := by decide +kernel
theorem dX0_weight_2 : decode cX0_weight 2 = .ok (.lload_n 1, 1) := by decide +kernel
theorem dX0_weight_3 : decode cX0_weight 3 = .ok (.invokevirtual 63, 3) := by decide +kernel
theorem dX0_weight_6 : decode cX0_weight 6 = .ok (.invokevirtual 78, 3) := by decide +kernel
theorem dX0_weight_9 : decode cX0_weight 9 = .ok (.ireturn, 1) := by decide +kernel
theorem dX0_half_0 : decode cX0_half 0 = .ok (.aload_n 0, 1) := by decide +kernel
theorem dX0_half_1 : decode cX0_half 1 = .ok (.getfield 23, 3) := by decide +kernel
theorem dX0_half_4 : decode cX0_half 4 = .ok (.ifCond .ne 11, 3) := by decide +kernel
theorem dX0_half_7 : decode cX0_half 7 = .ok (.new 48, 3) := by decide +kernel
theorem dX0_half_10 : decode cX0_half 10 = .ok (.dup, 1) := by decide +kernel
theorem dX0_half_11 : decode cX0_half 11 = .ok (.invokespecial 50, 3) := by decide +kernel
theorem dX0_half_14 : decode cX0_half 14 = .ok (.athrow, 1) := by decide +kernel
theorem dX0_half_15 : decode cX0_half 15 = .ok (.aload_n 0, 1) := by decide +kernel
theorem dX0_half_16 : decode cX0_half 16 = .ok (.aload_n 0, 1) := by decide +kernel
theorem dX0_half_17 : decode cX0_half 17 = .ok (.getfield 23, 3) := by decide +kernel
theorem dX0_half_20 : decode cX0_half 20 = .ok (.invokevirtual 78, 3) := by decide +kernel
theorem dX0_half_23 : decode cX0_half 23 = .ok (.istore_n 1, 1) := by decide +kernel
theorem dX0_half_24 : decode cX0_half 24 = .ok (.iconst 0, 1) := by decide +kernel
theorem dX0_half_25 : decode cX0_half 25 = .ok (.istore_n 2, 1) := by decide +kernel
theorem dX0_half_26 : decode cX0_half 26 = .ok (.aload_n 0, 1) := by decide +kernel
theorem dX0_half_27 : decode cX0_half 27 = .ok (.getfield 16, 3) := by decide +kernel
theorem dX0_half_30 : decode cX0_half 30 = .ok (.aload_n 0, 1) := by decide +kernel
theorem dX0_half_31 : decode cX0_half 31 = .ok (.getfield 20, 3) := by decide +kernel
theorem dX0_half_34 : decode cX0_half 34 = .ok (.iconst 0, 1) := by decide +kernel
theorem dX0_half_35 : decode cX0_half 35 = .ok (.iaload, 1) := by decide +kernel
theorem dX0_half_36 : decode cX0_half 36 = .ok (.iaload, 1) := by decide +kernel
theorem dX0_half_37 : decode cX0_half 37 = .ok (.istore_n 3, 1) := by decide +kernel
theorem dX0_half_38 : decode cX0_half 38 = .ok (.iload_n 2, 1) := by decide +kernel
theorem dX0_half_39 : decode cX0_half 39 = .ok (.aload_n 0, 1) := by decide +kernel
theorem dX0_half_40 : decode cX0_half 40 = .ok (.getfield 23, 3) := by decide +kernel
theorem dX0_half_43 : decode cX0_half 43 = .ok (.iconst 1, 1) := by decide +kernel
theorem dX0_half_44 : decode cX0_half 44 = .ok (.isub, 1) := by decide +kernel
theorem dX0_half_45 : decode cX0_half 45 = .ok (.if_icmp .ge 30, 3) := by decide +kernel
theorem dX0_half_48 : decode cX0_half 48 = .ok (.iconst 2, 1) := by decide +kernel
theorem dX0_half_49 : decode cX0_half 49 = .ok (.iload_n 3, 1) := by decide +kernel
theorem dX0_half_50 : decode cX0_half 50 = .ok (.imul, 1) := by decide +kernel
theorem dX0_half_51 : decode cX0_half 51 = .ok (.iload_n 1, 1) := by decide +kernel
theorem dX0_half_52 : decode cX0_half 52 = .ok (.if_icmp .ge 23, 3) := by decide +kernel
theorem dX0_half_55 : decode cX0_half 55 = .ok (.iinc 2 1, 3) := by decide +kernel
theorem dX0_half_58 : decode cX0_half 58 = .ok (.iload_n 3, 1) := by decide +kernel
theorem dX0_half_59 : decode cX0_half 59 = .ok (.aload_n 0, 1) := by decide +kernel
theorem dX0_half_60 : decode cX0_half 60 = .ok (.getfield 16, 3) := by decide +kernel
theorem dX0_half_63 : decode cX0_half 63 = .ok (.aload_n 0, 1) := by decide +kernel
theorem dX0_half_64 : decode cX0_half 64 = .ok (.getfield 20, 3) := by decide +kernel
theorem dX0_half_67 : decode cX0_half 67 = .ok (.iload_n 2, 1) := by decide +kernel
theorem dX0_half_68 : decode cX0_half 68 = .ok (.iaload, 1) := by decide +kernel
theorem dX0_half_69 : decode cX0_half 69 = .ok (.iaload, 1) := by decide +kernel
theorem dX0_half_70 : decode cX0_half 70 = .ok (.iadd, 1) := by decide +kernel
theorem dX0_half_71 : decode cX0_half 71 = .ok (.istore_n 3, 1) := by decide +kernel
theorem dX0_half_72 : decode cX0_half 72 = .ok (.goto (-34), 3) := by decide +kernel
theorem dX0_half_75 : decode cX0_half 75 = .ok (.aload_n 0, 1) := by decide +kernel
theorem dX0_half_76 : decode cX0_half 76 = .ok (.getfield 20, 3) := by decide +kernel
theorem dX0_half_79 : decode cX0_half 79 = .ok (.iload_n 2, 1) := by decide +kernel
theorem dX0_half_80 : decode cX0_half 80 = .ok (.iaload, 1) := by decide +kernel
theorem dX0_half_81 : decode cX0_half 81 = .ok (.ireturn, 1) := by decide +kernel
theorem dX0_nearest_0 : decode cX0_nearest 0 = .ok (.aload_n 0, 1) := by decide +kernel
theorem dX0_nearest_1 : decode cX0_nearest 1 = .ok (.getfield 23, 3) := by decide +kernel
theorem dX0_nearest_4 : decode cX0_nearest 4 = .ok (.iconst 2, 1) := by decide +kernel
theorem dX0_nearest_5 : decode cX0_nearest 5 = .ok (.if_icmp .ge 11, 3) := by decide +kernel
theorem dX0_nearest_8 : decode cX0_nearest 8 = .ok (.new 48, 3) := by decide +kernel
theorem dX0_nearest_11 : decode cX0_nearest 11 = .ok (.dup, 1) := by decide +kernel
theorem dX0_nearest_12 : decode cX0_nearest 12 = .ok (.invokespecial 50, 3) := by decide +kernel
theorem dX0_nearest_15 : decode cX0_nearest 15 = .ok (.athrow, 1) := by decide +kernel
theorem dX0_nearest_16 : decode cX0_nearest 16 = .ok (.aload_n 0, 1) := by decide +kernel
theorem dX0_nearest_17 : decode cX0_nearest 17 = .ok (.iconst 1, 1) := by decide +kernel
theorem dX0_nearest_18 : decode cX0_nearest 18 = .ok (.invokevirtual 53, 3) := by decide +kernel
theorem dX0_nearest_21 : decode cX0_nearest 21 = .ok (.aload_n 0, 1) := by decide +kernel
theorem dX0_nearest_22 : decode cX0_nearest 22 = .ok (.iconst 0, 1) := by decide +kernel
theorem dX0_nearest_23 : decode cX0_nearest 23 = .ok (.invokevirtual 53, 3) := by decide +kernel
theorem dX0_nearest_26 : decode cX0_nearest 26 = .ok (.lsub, 1) := by decide +kernel
theorem dX0_nearest_27 : decode cX0_nearest 27 = .ok (.lstore_n 1, 1) := by decide +kernel
theorem dX0_nearest_28 : decode cX0_nearest 28 = .ok (.iconst 2, 1) := by decide +kernel
theorem dX0_nearest_29 : decode cX0_nearest 29 = .ok (.istore_n 3, 1) := by decide +kernel
theorem dX0_nearest_30 : decode cX0_nearest 30 = .ok (.iload_n 3, 1) := by decide +kernel
theorem dX0_nearest_31 : decode cX0_nearest 31 = .ok (.aload_n 0, 1) := by decide +kernel
theorem dX0_nearest_32 : decode cX0_nearest 32 = .ok (.getfield 23, 3) := by decide +kernel
theorem dX0_nearest_35 : decode cX0_nearest 35 = .ok (.if_icmp .ge 27, 3) := by decide +kernel
theorem dX0_nearest_38 : decode cX0_nearest 38 = .ok (.lload_n 1, 1) := by decide +kernel
theorem dX0_nearest_39 : decode cX0_nearest 39 = .ok (.aload_n 0, 1) := by decide +kernel
theorem dX0_nearest_40 : decode cX0_nearest 40 = .ok (.iload_n 3, 1) := by decide +kernel
theorem dX0_nearest_41 : decode cX0_nearest 41 = .ok (.invokevirtual 53, 3) := by decide +kernel
theorem dX0_nearest_44 : decode cX0_nearest 44 = .ok (.aload_n 0, 1) := by decide +kernel
theorem dX0_nearest_45 : decode cX0_nearest 45 = .ok (.iload_n 3, 1) := by decide +kernel
theorem dX0_nearest_46 : decode cX0_nearest 46 = .ok (.iconst 1, 1) := by decide +kernel
theorem dX0_nearest_47 : decode cX0_nearest 47 = .ok (.isub, 1) := by decide +kernel
theorem dX0_nearest_48 : decode cX0_nearest 48 = .ok (.invokevirtual 53, 3) := by decide +kernel
theorem dX0_nearest_51 : decode cX0_nearest 51 = .ok (.lsub, 1) := by decide +kernel
theorem dX0_nearest_52 : decode cX0_nearest 52 = .ok (.invokestatic 86, 3) := by decide +kernel
theorem dX0_nearest_55 : decode cX0_nearest 55 = .ok (.lstore_n 1, 1) := by decide +kernel
theorem dX0_nearest_56 : decode cX0_nearest 56 = .ok (.iinc 3 1, 3) := by decide +kernel
theorem dX0_nearest_59 : decode cX0_nearest 59 = .ok (.goto (-29), 3) := by decide +kernel
theorem dX0_nearest_62 : decode cX0_nearest 62 = .ok (.lload_n 1, 1) := by decide +kernel
theorem dX0_nearest_63 : decode cX0_nearest 63 = .ok (.lreturn, 1) := by decide +kernel
theorem dX0_cut_0 : decode cX0_cut 0 = .ok (.aload_n 0, 1) := by decide +kernel
theorem dX0_cut_1 : decode cX0_cut 1 = .ok (.lload_n 1, 1) := by decide +kernel
theorem dX0_cut_2 : decode cX0_cut 2 = .ok (.invokevirtual 71, 3) := by decide +kernel
theorem dX0_cut_5 : decode cX0_cut 5 = .ok (.istore 5, 2) := by decide +kernel
theorem dX0_cut_7 : decode cX0_cut 7 = .ok (.aload_n 0, 1) := by decide +kernel
theorem dX0_cut_8 : decode cX0_cut 8 = .ok (.lload_n 3, 1) := by decide +kernel
theorem dX0_cut_9 : decode cX0_cut 9 = .ok (.invokevirtual 63, 3) := by decide +kernel
theorem dX0_cut_12 : decode cX0_cut 12 = .ok (.istore 6, 2) := by decide +kernel
theorem dX0_cut_14 : decode cX0_cut 14 = .ok (.iload 5, 2) := by decide +kernel
theorem dX0_cut_16 : decode cX0_cut 16 = .ok (.iload 6, 2) := by decide +kernel
theorem dX0_cut_18 : decode cX0_cut 18 = .ok (.if_icmp .lt 5, 3) := by decide +kernel
theorem dX0_cut_21 : decode cX0_cut 21 = .ok (.iconst 0, 1) := by decide +kernel
theorem dX0_cut_22 : decode cX0_cut 22 = .ok (.ireturn, 1) := by decide +kernel
theorem dX0_cut_23 : decode cX0_cut 23 = .ok (.aload_n 0, 1) := by decide +kernel
theorem dX0_cut_24 : decode cX0_cut 24 = .ok (.iload 5, 2) := by decide +kernel
theorem dX0_cut_26 : decode cX0_cut 26 = .ok (.iload 6, 2) := by decide +kernel
theorem dX0_cut_28 : decode cX0_cut 28 = .ok (.invokevirtual 92, 3) := by decide +kernel
theorem dX0_cut_31 : decode cX0_cut 31 = .ok (.iload 6, 2) := by decide +kernel
theorem dX0_cut_33 : decode cX0_cut 33 = .ok (.iload 5, 2) := by decide +kernel
theorem dX0_cut_35 : decode cX0_cut 35 = .ok (.isub, 1) := by decide +kernel
theorem dX0_cut_36 : decode cX0_cut 36 = .ok (.ireturn, 1) := by decide +kernel
theorem dX0_count_0 : decode cX0_count 0 = .ok (.iload_n 1, 1) := by decide +kernel
theorem dX0_count_1 : decode cX0_count 1 = .ok (.tableswitch 46 0 2 #[27, 32, 41], 27) := by decide +kernel
theorem dX0_count_28 : decode cX0_count 28 = .ok (.aload_n 0, 1) := by decide +kernel
theorem dX0_count_29 : decode cX0_count 29 = .ok (.getfield 23, 3) := by decide +kernel
theorem dX0_count_32 : decode cX0_count 32 = .ok (.ireturn, 1) := by decide +kernel
theorem dX0_count_33 : decode cX0_count 33 = .ok (.aload_n 0, 1) := by decide +kernel
theorem dX0_count_34 : decode cX0_count 34 = .ok (.aload_n 0, 1) := by decide +kernel
theorem dX0_count_35 : decode cX0_count 35 = .ok (.getfield 23, 3) := by decide +kernel
theorem dX0_count_38 : decode cX0_count 38 = .ok (.invokevirtual 78, 3) := by decide +kernel
theorem dX0_count_41 : decode cX0_count 41 = .ok (.ireturn, 1) := by decide +kernel
theorem dX0_count_42 : decode cX0_count 42 = .ok (.aload_n 0, 1) := by decide +kernel
theorem dX0_count_43 : decode cX0_count 43 = .ok (.invokevirtual 74, 3) := by decide +kernel
theorem dX0_count_46 : decode cX0_count 46 = .ok (.ireturn, 1) := by decide +kernel
theorem dX0_count_47 : decode cX0_count 47 = .ok (.iconst (-1), 1) := by decide +kernel
theorem dX0_count_48 : decode cX0_count 48 = .ok (.ireturn, 1) := by decide +kernel
theorem dX0_isNumber_0 : decode cX0_isNumber 0 = .ok (.iload_n 0, 1) := by decide +kernel
theorem dX0_isNumber_1 : decode cX0_isNumber 1 = .ok (.ifCond .lt 14, 3) := by decide +kernel
theorem dX0_isNumber_4 : decode cX0_isNumber 4 = .ok (.iload_n 0, 1) := by decide +kernel
theorem dX0_isNumber_5 : decode cX0_isNumber 5 = .ok (.sipush 200, 3) := by decide +kernel
theorem dX0_isNumber_8 : decode cX0_isNumber 8 = .ok (.if_icmp .ge 7, 3) := by decide +kernel
theorem dX0_isNumber_11 : decode cX0_isNumber 11 = .ok (.iconst 1, 1) := by decide +kernel
theorem dX0_isNumber_12 : decode cX0_isNumber 12 = .ok (.goto 4, 3) := by decide +kernel
theorem dX0_isNumber_15 : decode cX0_isNumber 15 = .ok (.iconst 0, 1) := by decide +kernel
theorem dX0_isNumber_16 : decode cX0_isNumber 16 = .ok (.ireturn, 1) := by decide +kernel
theorem dX0_mayBePut_0 : decode cX0_mayBePut 0 = .ok (.lload_n 0, 1) := by decide +kernel
theorem dX0_mayBePut_1 : decode cX0_mayBePut 1 = .ok (.ldc2_w 96, 3) := by decide +kernel
theorem dX0_mayBePut_4 : decode cX0_mayBePut 4 = .ok (.lcmp, 1) := by decide +kernel
theorem dX0_mayBePut_5 : decode cX0_mayBePut 5 = .ok (.ifCond .lt 15, 3) := by decide +kernel
theorem dX0_mayBePut_8 : decode cX0_mayBePut 8 = .ok (.lload_n 0, 1) := by decide +kernel
theorem dX0_mayBePut_9 : decode cX0_mayBePut 9 = .ok (.ldc2_w 98, 3) := by decide +kernel
theorem dX0_mayBePut_12 : decode cX0_mayBePut 12 = .ok (.lcmp, 1) := by decide +kernel
theorem dX0_mayBePut_13 : decode cX0_mayBePut 13 = .ok (.ifCond .gt 7, 3) := by decide +kernel
theorem dX0_mayBePut_16 : decode cX0_mayBePut 16 = .ok (.iconst 1, 1) := by decide +kernel
theorem dX0_mayBePut_17 : decode cX0_mayBePut 17 = .ok (.goto 4, 3) := by decide +kernel
theorem dX0_mayBePut_20 : decode cX0_mayBePut 20 = .ok (.iconst 0, 1) := by decide +kernel
theorem dX0_mayBePut_21 : decode cX0_mayBePut 21 = .ok (.ireturn, 1) := by decide +kernel
theorem dX0_isThere_0 : decode cX0_isThere 0 = .ok (.iload_n 1, 1) := by decide +kernel
theorem dX0_isThere_1 : decode cX0_isThere 1 = .ok (.invokestatic 27, 3) := by decide +kernel
theorem dX0_isThere_4 : decode cX0_isThere 4 = .ok (.ifCond .eq 16, 3) := by decide +kernel
theorem dX0_isThere_7 : decode cX0_isThere 7 = .ok (.aload_n 0, 1) := by decide +kernel
theorem dX0_isThere_8 : decode cX0_isThere 8 = .ok (.getfield 16, 3) := by decide +kernel
theorem dX0_isThere_11 : decode cX0_isThere 11 = .ok (.iload_n 1, 1) := by decide +kernel
theorem dX0_isThere_12 : decode cX0_isThere 12 = .ok (.iaload, 1) := by decide +kernel
theorem dX0_isThere_13 : decode cX0_isThere 13 = .ok (.ifCond .le 7, 3) := by decide +kernel
theorem dX0_isThere_16 : decode cX0_isThere 16 = .ok (.iconst 1, 1) := by decide +kernel
theorem dX0_isThere_17 : decode cX0_isThere 17 = .ok (.goto 4, 3) := by decide +kernel
theorem dX0_isThere_20 : decode cX0_isThere 20 = .ok (.iconst 0, 1) := by decide +kernel
theorem dX0_isThere_21 : decode cX0_isThere 21 = .ok (.ireturn, 1) := by decide +kernel
theorem dX0_keyAt_0 : decode cX0_keyAt 0 = .ok (.aload_n 0, 1) := by decide +kernel
theorem dX0_keyAt_1 : decode cX0_keyAt 1 = .ok (.getfield 9, 3) := by decide +kernel
theorem dX0_keyAt_4 : decode cX0_keyAt 4 = .ok (.aload_n 0, 1) := by decide +kernel
theorem dX0_keyAt_5 : decode cX0_keyAt 5 = .ok (.getfield 20, 3) := by decide +kernel
theorem dX0_keyAt_8 : decode cX0_keyAt 8 = .ok (.iload_n 1, 1) := by decide +kernel
theorem dX0_keyAt_9 : decode cX0_keyAt 9 = .ok (.iaload, 1) := by decide +kernel
theorem dX0_keyAt_10 : decode cX0_keyAt 10 = .ok (.laload, 1) := by decide +kernel
theorem dX0_keyAt_11 : decode cX0_keyAt 11 = .ok (.lreturn, 1) := by decide +kernel
theorem dX0_placesBefore_0 : decode cX0_placesBefore 0 = .ok (.iconst 0, 1) := by decide +kernel
theorem dX0_placesBefore_1 : decode cX0_placesBefore 1 = .ok (.istore 4, 2) := by decide +kernel
theorem dX0_placesBefore_3 : decode cX0_placesBefore 3 = .ok (.iload 4, 2) := by decide +kernel
theorem dX0_placesBefore_5 : decode cX0_placesBefore 5 = .ok (.aload_n 0, 1) := by decide +kernel
theorem dX0_placesBefore_6 : decode cX0_placesBefore 6 = .ok (.getfield 23, 3) := by decide +kernel
theorem dX0_placesBefore_9 : decode cX0_placesBefore 9 = .ok (.if_icmp .ge 25, 3) := by decide +kernel
theorem dX0_placesBefore_12 : decode cX0_placesBefore 12 = .ok (.aload_n 0, 1) := by decide +kernel
theorem dX0_placesBefore_13 : decode cX0_placesBefore 13 = .ok (.aload_n 0, 1) := by decide +kernel
theorem dX0_placesBefore_14 : decode cX0_placesBefore 14 = .ok (.getfield 20, 3) := by decide +kernel
theorem dX0_placesBefore_17 : decode cX0_placesBefore 17 = .ok (.iload 4, 2) := by decide +kernel
theorem dX0_placesBefore_19 : decode cX0_placesBefore 19 = .ok (.iaload, 1) := by decide +kernel
theorem dX0_placesBefore_20 : decode cX0_placesBefore 20 = .ok (.lload_n 1, 1) := by decide +kernel
theorem dX0_placesBefore_21 : decode cX0_placesBefore 21 = .ok (.iload_n 3, 1) := by decide +kernel
theorem dX0_placesBefore_22 : decode cX0_placesBefore 22 = .ok (.invokevirtual 100, 3) := by decide +kernel
theorem dX0_placesBefore_25 : decode cX0_placesBefore 25 = .ok (.ifCond .eq 9, 3) := by decide +kernel
theorem dX0_placesBefore_28 : decode cX0_placesBefore 28 = .ok (.iinc 4 1, 3) := by decide +kernel
theorem dX0_placesBefore_31 : decode cX0_placesBefore 31 = .ok (.goto (-28), 3) := by decide +kernel
theorem dX0_placesBefore_34 : decode cX0_placesBefore 34 = .ok (.iload 4, 2) := by decide +kernel
theorem dX0_placesBefore_36 : decode cX0_placesBefore 36 = .ok (.ireturn, 1) := by decide +kernel
theorem dX0_standsBefore_0 : decode cX0_standsBefore 0 = .ok (.aload_n 0, 1) := by decide +kernel
theorem dX0_standsBefore_1 : decode cX0_standsBefore 1 = .ok (.getfield 9, 3) := by decide +kernel
theorem dX0_standsBefore_4 : decode cX0_standsBefore 4 = .ok (.iload_n 1, 1) := by decide +kernel
theorem dX0_standsBefore_5 : decode cX0_standsBefore 5 = .ok (.laload, 1) := by decide +kernel
theorem dX0_standsBefore_6 : decode cX0_standsBefore 6 = .ok (.lload_n 2, 1) := by decide +kernel
theorem dX0_standsBefore_7 : decode cX0_standsBefore 7 = .ok (.lcmp, 1) := by decide +kernel
theorem dX0_standsBefore_8 : decode cX0_standsBefore 8 = .ok (.ifCond .lt 20, 3) := by decide +kernel
theorem dX0_standsBefore_11 : decode cX0_standsBefore 11 = .ok (.aload_n 0, 1) := by decide +kernel
theorem dX0_standsBefore_12 : decode cX0_standsBefore 12 = .ok (.getfield 9, 3) := by decide +kernel
theorem dX0_standsBefore_15 : decode cX0_standsBefore 15 = .ok (.iload_n 1, 1) := by decide +kernel
theorem dX0_standsBefore_16 : decode cX0_standsBefore 16 = .ok (.laload, 1) := by decide +kernel
theorem dX0_standsBefore_17 : decode cX0_standsBefore 17 = .ok (.lload_n 2, 1) := by decide +kernel
theorem dX0_standsBefore_18 : decode cX0_standsBefore 18 = .ok (.lcmp, 1) := by decide +kernel
theorem dX0_standsBefore_19 : decode cX0_standsBefore 19 = .ok (.ifCond .ne 13, 3) := by decide +kernel
theorem dX0_standsBefore_22 : decode cX0_standsBefore 22 = .ok (.iload_n 1, 1) := by decide +kernel
theorem dX0_standsBefore_23 : decode cX0_standsBefore 23 = .ok (.iload 4, 2) := by decide +kernel
theorem dX0_standsBefore_25 : decode cX0_standsBefore 25 = .ok (.if_icmp .ge 7, 3) := by decide +kernel
theorem dX0_standsBefore_28 : decode cX0_standsBefore 28 = .ok (.iconst 1, 1) := by decide +kernel
theorem dX0_standsBefore_29 : decode cX0_standsBefore 29 = .ok (.goto 4, 3) := by decide +kernel
theorem dX0_standsBefore_32 : decode cX0_standsBefore 32 = .ok (.iconst 0, 1) := by decide +kernel
theorem dX0_standsBefore_33 : decode cX0_standsBefore 33 = .ok (.ireturn, 1) := by decide +kernel
theorem dX0_placesBelow_0 : decode cX0_placesBelow 0 = .ok (.aload_n 0, 1) := by decide +kernel
theorem dX0_placesBelow_1 : decode cX0_placesBelow 1 = .ok (.lload_n 1, 1) := by decide +kernel
theorem dX0_placesBelow_2 : decode cX0_placesBelow 2 = .ok (.iconst 0, 1) := by decide +kernel
theorem dX0_placesBelow_3 : decode cX0_placesBelow 3 = .ok (.invokevirtual 59, 3) := by decide +kernel
theorem dX0_placesBelow_6 : decode cX0_placesBelow 6 = .ok (.ireturn, 1) := by decide +kernel
theorem dX0_placesNotAbove_0 : decode cX0_placesNotAbove 0 = .ok (.aload_n 0, 1) := by decide +kernel
theorem dX0_placesNotAbove_1 : decode cX0_placesNotAbove 1 = .ok (.lload_n 1, 1) := by decide +kernel
theorem dX0_placesNotAbove_2 : decode cX0_placesNotAbove 2 = .ok (.sipush 200, 3) := by decide +kernel
theorem dX0_placesNotAbove_5 : decode cX0_placesNotAbove 5 = .ok (.invokevirtual 59, 3) := by decide +kernel
theorem dX0_placesNotAbove_8 : decode cX0_placesNotAbove 8 = .ok (.ireturn, 1) := by decide +kernel
theorem dX0_fairPlaces_0 : decode cX0_fairPlaces 0 = .ok (.aload_n 0, 1) := by decide +kernel
theorem dX0_fairPlaces_1 : decode cX0_fairPlaces 1 = .ok (.aload_n 0, 1) := by decide +kernel
theorem dX0_fairPlaces_2 : decode cX0_fairPlaces 2 = .ok (.getfield 23, 3) := by decide +kernel
theorem dX0_fairPlaces_5 : decode cX0_fairPlaces 5 = .ok (.invokevirtual 78, 3) := by decide +kernel
theorem dX0_fairPlaces_8 : decode cX0_fairPlaces 8 = .ok (.i2l, 1) := by decide +kernel
theorem dX0_fairPlaces_9 : decode cX0_fairPlaces 9 = .ok (.lstore_n 1, 1) := by decide +kernel
theorem dX0_fairPlaces_10 : decode cX0_fairPlaces 10 = .ok (.aload_n 0, 1) := by decide +kernel
theorem dX0_fairPlaces_11 : decode cX0_fairPlaces 11 = .ok (.invokevirtual 82, 3) := by decide +kernel
theorem dX0_fairPlaces_14 : decode cX0_fairPlaces 14 = .ok (.lstore_n 3, 1) := by decide +kernel
theorem dX0_fairPlaces_15 : decode cX0_fairPlaces 15 = .ok (.iconst 0, 1) := by decide +kernel
theorem dX0_fairPlaces_16 : decode cX0_fairPlaces 16 = .ok (.istore 5, 2) := by decide +kernel
theorem dX0_fairPlaces_18 : decode cX0_fairPlaces 18 = .ok (.iload 5, 2) := by decide +kernel
theorem dX0_fairPlaces_20 : decode cX0_fairPlaces 20 = .ok (.aload_n 0, 1) := by decide +kernel
theorem dX0_fairPlaces_21 : decode cX0_fairPlaces 21 = .ok (.getfield 23, 3) := by decide +kernel
theorem dX0_fairPlaces_24 : decode cX0_fairPlaces 24 = .ok (.if_icmp .ge 22, 3) := by decide +kernel
theorem dX0_fairPlaces_27 : decode cX0_fairPlaces 27 = .ok (.aload_n 0, 1) := by decide +kernel
theorem dX0_fairPlaces_28 : decode cX0_fairPlaces 28 = .ok (.iload 5, 2) := by decide +kernel
theorem dX0_fairPlaces_30 : decode cX0_fairPlaces 30 = .ok (.invokevirtual 53, 3) := by decide +kernel
theorem dX0_fairPlaces_33 : decode cX0_fairPlaces 33 = .ok (.lload_n 1, 1) := by decide +kernel
theorem dX0_fairPlaces_34 : decode cX0_fairPlaces 34 = .ok (.lmul, 1) := by decide +kernel
theorem dX0_fairPlaces_35 : decode cX0_fairPlaces 35 = .ok (.lload_n 3, 1) := by decide +kernel
theorem dX0_fairPlaces_36 : decode cX0_fairPlaces 36 = .ok (.lcmp, 1) := by decide +kernel
theorem dX0_fairPlaces_37 : decode cX0_fairPlaces 37 = .ok (.ifCond .gt 9, 3) := by decide +kernel
theorem dX0_fairPlaces_40 : decode cX0_fairPlaces 40 = .ok (.iinc 5 1, 3) := by decide +kernel
theorem dX0_fairPlaces_43 : decode cX0_fairPlaces 43 = .ok (.goto (-25), 3) := by decide +kernel
theorem dX0_fairPlaces_46 : decode cX0_fairPlaces 46 = .ok (.iload 5, 2) := by decide +kernel
theorem dX0_fairPlaces_48 : decode cX0_fairPlaces 48 = .ok (.ireturn, 1) := by decide +kernel
theorem dX0_weightOfFirst_0 : decode cX0_weightOfFirst 0 = .ok (.iconst 0, 1) := by decide +kernel
theorem dX0_weightOfFirst_1 : decode cX0_weightOfFirst 1 = .ok (.istore_n 2, 1) := by decide +kernel
theorem dX0_weightOfFirst_2 : decode cX0_weightOfFirst 2 = .ok (.iconst 0, 1) := by decide +kernel
theorem dX0_weightOfFirst_3 : decode cX0_weightOfFirst 3 = .ok (.istore_n 3, 1) := by decide +kernel
theorem dX0_weightOfFirst_4 : decode cX0_weightOfFirst 4 = .ok (.iload_n 3, 1) := by decide +kernel
theorem dX0_weightOfFirst_5 : decode cX0_weightOfFirst 5 = .ok (.iload_n 1, 1) := by decide +kernel
theorem dX0_weightOfFirst_6 : decode cX0_weightOfFirst 6 = .ok (.if_icmp .ge 23, 3) := by decide +kernel
theorem dX0_weightOfFirst_9 : decode cX0_weightOfFirst 9 = .ok (.iload_n 2, 1) := by decide +kernel
theorem dX0_weightOfFirst_10 : decode cX0_weightOfFirst 10 = .ok (.aload_n 0, 1) := by decide +kernel
theorem dX0_weightOfFirst_11 : decode cX0_weightOfFirst 11 = .ok (.getfield 16, 3) := by decide +kernel
theorem dX0_weightOfFirst_14 : decode cX0_weightOfFirst 14 = .ok (.aload_n 0, 1) := by decide +kernel
theorem dX0_weightOfFirst_15 : decode cX0_weightOfFirst 15 = .ok (.getfield 20, 3) := by decide +kernel
theorem dX0_weightOfFirst_18 : decode cX0_weightOfFirst 18 = .ok (.iload_n 3, 1) := by decide +kernel
theorem dX0_weightOfFirst_19 : decode cX0_weightOfFirst 19 = .ok (.iaload, 1) := by decide +kernel
theorem dX0_weightOfFirst_20 : decode cX0_weightOfFirst 20 = .ok (.iaload, 1) := by decide +kernel
theorem dX0_weightOfFirst_21 : decode cX0_weightOfFirst 21 = .ok (.iadd, 1) := by decide +kernel
theorem dX0_weightOfFirst_22 : decode cX0_weightOfFirst 22 = .ok (.istore_n 2, 1) := by decide +kernel
theorem dX0_weightOfFirst_23 : decode cX0_weightOfFirst 23 = .ok (.iinc 3 1, 3) := by decide +kernel
theorem dX0_weightOfFirst_26 : decode cX0_weightOfFirst 26 = .ok (.goto (-22), 3) := by decide +kernel
theorem dX0_weightOfFirst_29 : decode cX0_weightOfFirst 29 = .ok (.iload_n 2, 1) := by decide +kernel
theorem dX0_weightOfFirst_30 : decode cX0_weightOfFirst 30 = .ok (.ireturn, 1) := by decide +kernel
theorem dX0_sumOfKeysTimesWeights_0 : decode cX0_sumOfKeysTimesWeights 0 = .ok (.lconst 0, 1) := by decide +kernel
theorem dX0_sumOfKeysTimesWeights_1 : decode cX0_sumOfKeysTimesWeights 1 = .ok (.lstore_n 1, 1) := by decide +kernel
theorem dX0_sumOfKeysTimesWeights_2 : decode cX0_sumOfKeysTimesWeights 2 = .ok (.iconst 0, 1) := by decide +kernel
theorem dX0_sumOfKeysTimesWeights_3 : decode cX0_sumOfKeysTimesWeights 3 = .ok (.istore_n 3, 1) := by decide +kernel
theorem dX0_sumOfKeysTimesWeights_4 : decode cX0_sumOfKeysTimesWeights 4 = .ok (.iload_n 3, 1) := by decide +kernel
theorem dX0_sumOfKeysTimesWeights_5 : decode cX0_sumOfKeysTimesWeights 5 = .ok (.aload_n 0, 1) := by decide +kernel
theorem dX0_sumOfKeysTimesWeights_6 : decode cX0_sumOfKeysTimesWeights 6 = .ok (.getfield 23, 3) := by decide +kernel
theorem dX0_sumOfKeysTimesWeights_9 : decode cX0_sumOfKeysTimesWeights 9 = .ok (.if_icmp .ge 30, 3) := by decide +kernel
theorem dX0_sumOfKeysTimesWeights_12 : decode cX0_sumOfKeysTimesWeights 12 = .ok (.lload_n 1, 1) := by decide +kernel
theorem dX0_sumOfKeysTimesWeights_13 : decode cX0_sumOfKeysTimesWeights 13 = .ok (.aload_n 0, 1) := by decide +kernel
theorem dX0_sumOfKeysTimesWeights_14 : decode cX0_sumOfKeysTimesWeights 14 = .ok (.iload_n 3, 1) := by decide +kernel
theorem dX0_sumOfKeysTimesWeights_15 : decode cX0_sumOfKeysTimesWeights 15 = .ok (.invokevirtual 53, 3) := by decide +kernel
theorem dX0_sumOfKeysTimesWeights_18 : decode cX0_sumOfKeysTimesWeights 18 = .ok (.aload_n 0, 1) := by decide +kernel
theorem dX0_sumOfKeysTimesWeights_19 : decode cX0_sumOfKeysTimesWeights 19 = .ok (.getfield 16, 3) := by decide +kernel
theorem dX0_sumOfKeysTimesWeights_22 : decode cX0_sumOfKeysTimesWeights 22 = .ok (.aload_n 0, 1) := by decide +kernel
theorem dX0_sumOfKeysTimesWeights_23 : decode cX0_sumOfKeysTimesWeights 23 = .ok (.getfield 20, 3) := by decide +kernel
theorem dX0_sumOfKeysTimesWeights_26 : decode cX0_sumOfKeysTimesWeights 26 = .ok (.iload_n 3, 1) := by decide +kernel
theorem dX0_sumOfKeysTimesWeights_27 : decode cX0_sumOfKeysTimesWeights 27 = .ok (.iaload, 1) := by decide +kernel
theorem dX0_sumOfKeysTimesWeights_28 : decode cX0_sumOfKeysTimesWeights 28 = .ok (.iaload, 1) := by decide +kernel
theorem dX0_sumOfKeysTimesWeights_29 : decode cX0_sumOfKeysTimesWeights 29 = .ok (.i2l, 1) := by decide +kernel
theorem dX0_sumOfKeysTimesWeights_30 : decode cX0_sumOfKeysTimesWeights 30 = .ok (.lmul, 1) := by decide +kernel
theorem dX0_sumOfKeysTimesWeights_31 : decode cX0_sumOfKeysTimesWeights 31 = .ok (.ladd, 1) := by decide +kernel
theorem dX0_sumOfKeysTimesWeights_32 : decode cX0_sumOfKeysTimesWeights 32 = .ok (.lstore_n 1, 1) := by decide +kernel
theorem dX0_sumOfKeysTimesWeights_33 : decode cX0_sumOfKeysTimesWeights 33 = .ok (.iinc 3 1, 3) := by decide +kernel
theorem dX0_sumOfKeysTimesWeights_36 : decode cX0_sumOfKeysTimesWeights 36 = .ok (.goto (-32), 3) := by decide +kernel
theorem dX0_sumOfKeysTimesWeights_39 : decode cX0_sumOfKeysTimesWeights 39 = .ok (.lload_n 1, 1) := by decide +kernel
theorem dX0_sumOfKeysTimesWeights_40 : decode cX0_sumOfKeysTimesWeights 40 = .ok (.lreturn, 1) := by decide +kernel
theorem dX0_earliestOfPlaces_0 : decode cX0_earliestOfPlaces 0 = .ok (.iload_n 1, 1) := by decide +kernel
theorem dX0_earliestOfPlaces_1 : decode cX0_earliestOfPlaces 1 = .ok (.iload_n 2, 1) := by decide +kernel
theorem dX0_earliestOfPlaces_2 : decode cX0_earliestOfPlaces 2 = .ok (.if_icmp .lt 11, 3) := by decide +kernel
theorem dX0_earliestOfPlaces_5 : decode cX0_earliestOfPlaces 5 = .ok (.new 48, 3) := by decide +kernel
theorem dX0_earliestOfPlaces_8 : decode cX0_earliestOfPlaces 8 = .ok (.dup, 1) := by decide +kernel
theorem dX0_earliestOfPlaces_9 : decode cX0_earliestOfPlaces 9 = .ok (.invokespecial 50, 3) := by decide +kernel
theorem dX0_earliestOfPlaces_12 : decode cX0_earliestOfPlaces 12 = .ok (.athrow, 1) := by decide +kernel
theorem dX0_earliestOfPlaces_13 : decode cX0_earliestOfPlaces 13 = .ok (.aload_n 0, 1) := by decide +kernel
theorem dX0_earliestOfPlaces_14 : decode cX0_earliestOfPlaces 14 = .ok (.getfield 20, 3) := by decide +kernel
theorem dX0_earliestOfPlaces_17 : decode cX0_earliestOfPlaces 17 = .ok (.iload_n 1, 1) := by decide +kernel
theorem dX0_earliestOfPlaces_18 : decode cX0_earliestOfPlaces 18 = .ok (.iaload, 1) := by decide +kernel
theorem dX0_earliestOfPlaces_19 : decode cX0_earliestOfPlaces 19 = .ok (.istore_n 3, 1) := by decide +kernel
theorem dX0_earliestOfPlaces_20 : decode cX0_earliestOfPlaces 20 = .ok (.iload_n 1, 1) := by decide +kernel
theorem dX0_earliestOfPlaces_21 : decode cX0_earliestOfPlaces 21 = .ok (.iconst 1, 1) := by decide +kernel
theorem dX0_earliestOfPlaces_22 : decode cX0_earliestOfPlaces 22 = .ok (.iadd, 1) := by decide +kernel
theorem dX0_earliestOfPlaces_23 : decode cX0_earliestOfPlaces 23 = .ok (.istore 4, 2) := by decide +kernel
theorem dX0_earliestOfPlaces_25 : decode cX0_earliestOfPlaces 25 = .ok (.iload 4, 2) := by decide +kernel
theorem dX0_earliestOfPlaces_27 : decode cX0_earliestOfPlaces 27 = .ok (.iload_n 2, 1) := by decide +kernel
theorem dX0_earliestOfPlaces_28 : decode cX0_earliestOfPlaces 28 = .ok (.if_icmp .ge 32, 3) := by decide +kernel
theorem dX0_earliestOfPlaces_31 : decode cX0_earliestOfPlaces 31 = .ok (.aload_n 0, 1) := by decide +kernel
theorem dX0_earliestOfPlaces_32 : decode cX0_earliestOfPlaces 32 = .ok (.aload_n 0, 1) := by decide +kernel
theorem dX0_earliestOfPlaces_33 : decode cX0_earliestOfPlaces 33 = .ok (.getfield 20, 3) := by decide +kernel
theorem dX0_earliestOfPlaces_36 : decode cX0_earliestOfPlaces 36 = .ok (.iload 4, 2) := by decide +kernel
theorem dX0_earliestOfPlaces_38 : decode cX0_earliestOfPlaces 38 = .ok (.iaload, 1) := by decide +kernel
theorem dX0_earliestOfPlaces_39 : decode cX0_earliestOfPlaces 39 = .ok (.iload_n 3, 1) := by decide +kernel
theorem dX0_earliestOfPlaces_40 : decode cX0_earliestOfPlaces 40 = .ok (.invokevirtual 104, 3) := by decide +kernel
theorem dX0_earliestOfPlaces_43 : decode cX0_earliestOfPlaces 43 = .ok (.ifCond .eq 11, 3) := by decide +kernel
theorem dX0_earliestOfPlaces_46 : decode cX0_earliestOfPlaces 46 = .ok (.aload_n 0, 1) := by decide +kernel
theorem dX0_earliestOfPlaces_47 : decode cX0_earliestOfPlaces 47 = .ok (.getfield 20, 3) := by decide +kernel
theorem dX0_earliestOfPlaces_50 : decode cX0_earliestOfPlaces 50 = .ok (.iload 4, 2) := by decide +kernel
theorem dX0_earliestOfPlaces_52 : decode cX0_earliestOfPlaces 52 = .ok (.iaload, 1) := by decide +kernel
theorem dX0_earliestOfPlaces_53 : decode cX0_earliestOfPlaces 53 = .ok (.istore_n 3, 1) := by decide +kernel
theorem dX0_earliestOfPlaces_54 : decode cX0_earliestOfPlaces 54 = .ok (.iinc 4 1, 3) := by decide +kernel
theorem dX0_earliestOfPlaces_57 : decode cX0_earliestOfPlaces 57 = .ok (.goto (-32), 3) := by decide +kernel
theorem dX0_earliestOfPlaces_60 : decode cX0_earliestOfPlaces 60 = .ok (.iload_n 3, 1) := by decide +kernel
theorem dX0_earliestOfPlaces_61 : decode cX0_earliestOfPlaces 61 = .ok (.ireturn, 1) := by decide +kernel
theorem dX0_isEarlier_0 : decode cX0_isEarlier 0 = .ok (.aload_n 0, 1) := by decide +kernel
theorem dX0_isEarlier_1 : decode cX0_isEarlier 1 = .ok (.getfield 13, 3) := by decide +kernel
theorem dX0_isEarlier_4 : decode cX0_isEarlier 4 = .ok (.iload_n 1, 1) := by decide +kernel
theorem dX0_isEarlier_5 : decode cX0_isEarlier 5 = .ok (.laload, 1) := by decide +kernel
theorem dX0_isEarlier_6 : decode cX0_isEarlier 6 = .ok (.aload_n 0, 1) := by decide +kernel
theorem dX0_isEarlier_7 : decode cX0_isEarlier 7 = .ok (.getfield 13, 3) := by decide +kernel
theorem dX0_isEarlier_10 : decode cX0_isEarlier 10 = .ok (.iload_n 2, 1) := by decide +kernel
theorem dX0_isEarlier_11 : decode cX0_isEarlier 11 = .ok (.laload, 1) := by decide +kernel
theorem dX0_isEarlier_12 : decode cX0_isEarlier 12 = .ok (.lcmp, 1) := by decide +kernel
theorem dX0_isEarlier_13 : decode cX0_isEarlier 13 = .ok (.ifCond .lt 24, 3) := by decide +kernel
theorem dX0_isEarlier_16 : decode cX0_isEarlier 16 = .ok (.aload_n 0, 1) := by decide +kernel
theorem dX0_isEarlier_17 : decode cX0_isEarlier 17 = .ok (.getfield 13, 3) := by decide +kernel
theorem dX0_isEarlier_20 : decode cX0_isEarlier 20 = .ok (.iload_n 1, 1) := by decide +kernel
theorem dX0_isEarlier_21 : decode cX0_isEarlier 21 = .ok (.laload, 1) := by decide +kernel
theorem dX0_isEarlier_22 : decode cX0_isEarlier 22 = .ok (.aload_n 0, 1) := by decide +kernel
theorem dX0_isEarlier_23 : decode cX0_isEarlier 23 = .ok (.getfield 13, 3) := by decide +kernel
theorem dX0_isEarlier_26 : decode cX0_isEarlier 26 = .ok (.iload_n 2, 1) := by decide +kernel
theorem dX0_isEarlier_27 : decode cX0_isEarlier 27 = .ok (.laload, 1) := by decide +kernel
theorem dX0_isEarlier_28 : decode cX0_isEarlier 28 = .ok (.lcmp, 1) := by decide +kernel
theorem dX0_isEarlier_29 : decode cX0_isEarlier 29 = .ok (.ifCond .ne 12, 3) := by decide +kernel
theorem dX0_isEarlier_32 : decode cX0_isEarlier 32 = .ok (.iload_n 1, 1) := by decide +kernel
theorem dX0_isEarlier_33 : decode cX0_isEarlier 33 = .ok (.iload_n 2, 1) := by decide +kernel
theorem dX0_isEarlier_34 : decode cX0_isEarlier 34 = .ok (.if_icmp .ge 7, 3) := by decide +kernel
theorem dX0_isEarlier_37 : decode cX0_isEarlier 37 = .ok (.iconst 1, 1) := by decide +kernel
theorem dX0_isEarlier_38 : decode cX0_isEarlier 38 = .ok (.goto 4, 3) := by decide +kernel
theorem dX0_isEarlier_41 : decode cX0_isEarlier 41 = .ok (.iconst 0, 1) := by decide +kernel
theorem dX0_isEarlier_42 : decode cX0_isEarlier 42 = .ok (.ireturn, 1) := by decide +kernel
theorem dX0_insertItem_0 : decode cX0_insertItem 0 = .ok (.aload_n 0, 1) := by decide +kernel
theorem dX0_insertItem_1 : decode cX0_insertItem 1 = .ok (.aload_n 0, 1) := by decide +kernel
theorem dX0_insertItem_2 : decode cX0_insertItem 2 = .ok (.getfield 9, 3) := by decide +kernel
theorem dX0_insertItem_5 : decode cX0_insertItem 5 = .ok (.iload_n 1, 1) := by decide +kernel
theorem dX0_insertItem_6 : decode cX0_insertItem 6 = .ok (.laload, 1) := by decide +kernel
theorem dX0_insertItem_7 : decode cX0_insertItem 7 = .ok (.iload_n 1, 1) := by decide +kernel
theorem dX0_insertItem_8 : decode cX0_insertItem 8 = .ok (.invokevirtual 59, 3) := by decide +kernel
theorem dX0_insertItem_11 : decode cX0_insertItem 11 = .ok (.istore_n 2, 1) := by decide +kernel
theorem dX0_insertItem_12 : decode cX0_insertItem 12 = .ok (.aload_n 0, 1) := by decide +kernel
theorem dX0_insertItem_13 : decode cX0_insertItem 13 = .ok (.getfield 20, 3) := by decide +kernel
theorem dX0_insertItem_16 : decode cX0_insertItem 16 = .ok (.iload_n 2, 1) := by decide +kernel
theorem dX0_insertItem_17 : decode cX0_insertItem 17 = .ok (.aload_n 0, 1) := by decide +kernel
theorem dX0_insertItem_18 : decode cX0_insertItem 18 = .ok (.getfield 20, 3) := by decide +kernel
theorem dX0_insertItem_21 : decode cX0_insertItem 21 = .ok (.iload_n 2, 1) := by decide +kernel
theorem dX0_insertItem_22 : decode cX0_insertItem 22 = .ok (.iconst 1, 1) := by decide +kernel
theorem dX0_insertItem_23 : decode cX0_insertItem 23 = .ok (.iadd, 1) := by decide +kernel
theorem dX0_insertItem_24 : decode cX0_insertItem 24 = .ok (.aload_n 0, 1) := by decide +kernel
theorem dX0_insertItem_25 : decode cX0_insertItem 25 = .ok (.getfield 23, 3) := by decide +kernel
theorem dX0_insertItem_28 : decode cX0_insertItem 28 = .ok (.iload_n 2, 1) := by decide +kernel
theorem dX0_insertItem_29 : decode cX0_insertItem 29 = .ok (.isub, 1) := by decide +kernel
theorem dX0_insertItem_30 : decode cX0_insertItem 30 = .ok (.invokestatic 108, 3) := by decide +kernel
theorem dX0_insertItem_33 : decode cX0_insertItem 33 = .ok (.aload_n 0, 1) := by decide +kernel
theorem dX0_insertItem_34 : decode cX0_insertItem 34 = .ok (.getfield 20, 3) := by decide +kernel
theorem dX0_insertItem_37 : decode cX0_insertItem 37 = .ok (.iload_n 2, 1) := by decide +kernel
theorem dX0_insertItem_38 : decode cX0_insertItem 38 = .ok (.iload_n 1, 1) := by decide +kernel
theorem dX0_insertItem_39 : decode cX0_insertItem 39 = .ok (.iastore, 1) := by decide +kernel
theorem dX0_insertItem_40 : decode cX0_insertItem 40 = .ok (.aload_n 0, 1) := by decide +kernel
theorem dX0_insertItem_41 : decode cX0_insertItem 41 = .ok (.dup, 1) := by decide +kernel
theorem dX0_insertItem_42 : decode cX0_insertItem 42 = .ok (.getfield 23, 3) := by decide +kernel
theorem dX0_insertItem_45 : decode cX0_insertItem 45 = .ok (.iconst 1, 1) := by decide +kernel
theorem dX0_insertItem_46 : decode cX0_insertItem 46 = .ok (.iadd, 1) := by decide +kernel
theorem dX0_insertItem_47 : decode cX0_insertItem 47 = .ok (.putfield 23, 3) := by decide +kernel
theorem dX0_insertItem_50 : decode cX0_insertItem 50 = .ok (.return_, 1) := by decide +kernel
theorem dX0_removeItem_0 : decode cX0_removeItem 0 = .ok (.aload_n 0, 1) := by decide +kernel
theorem dX0_removeItem_1 : decode cX0_removeItem 1 = .ok (.aload_n 0, 1) := by decide +kernel
theorem dX0_removeItem_2 : decode cX0_removeItem 2 = .ok (.getfield 9, 3) := by decide +kernel
theorem dX0_removeItem_5 : decode cX0_removeItem 5 = .ok (.iload_n 1, 1) := by decide +kernel
theorem dX0_removeItem_6 : decode cX0_removeItem 6 = .ok (.laload, 1) := by decide +kernel
theorem dX0_removeItem_7 : decode cX0_removeItem 7 = .ok (.iload_n 1, 1) := by decide +kernel
theorem dX0_removeItem_8 : decode cX0_removeItem 8 = .ok (.invokevirtual 59, 3) := by decide +kernel
theorem dX0_removeItem_11 : decode cX0_removeItem 11 = .ok (.istore_n 2, 1) := by decide +kernel
theorem dX0_removeItem_12 : decode cX0_removeItem 12 = .ok (.aload_n 0, 1) := by decide +kernel
theorem dX0_removeItem_13 : decode cX0_removeItem 13 = .ok (.iload_n 2, 1) := by decide +kernel
theorem dX0_removeItem_14 : decode cX0_removeItem 14 = .ok (.iload_n 2, 1) := by decide +kernel
theorem dX0_removeItem_15 : decode cX0_removeItem 15 = .ok (.iconst 1, 1) := by decide +kernel
theorem dX0_removeItem_16 : decode cX0_removeItem 16 = .ok (.iadd, 1) := by decide +kernel
theorem dX0_removeItem_17 : decode cX0_removeItem 17 = .ok (.invokevirtual 92, 3) := by decide +kernel
theorem dX0_removeItem_20 : decode cX0_removeItem 20 = .ok (.return_, 1) := by decide +kernel
theorem dX0_removePlaces_0 : decode cX0_removePlaces 0 = .ok (.iload_n 1, 1) := by decide +kernel
theorem dX0_removePlaces_1 : decode cX0_removePlaces 1 = .ok (.istore_n 3, 1) := by decide +kernel
theorem dX0_removePlaces_2 : decode cX0_removePlaces 2 = .ok (.iload_n 3, 1) := by decide +kernel
theorem dX0_removePlaces_3 : decode cX0_removePlaces 3 = .ok (.iload_n 2, 1) := by decide +kernel
theorem dX0_removePlaces_4 : decode cX0_removePlaces 4 = .ok (.if_icmp .ge 21, 3) := by decide +kernel
theorem dX0_removePlaces_7 : decode cX0_removePlaces 7 = .ok (.aload_n 0, 1) := by decide +kernel
theorem dX0_removePlaces_8 : decode cX0_removePlaces 8 = .ok (.getfield 16, 3) := by decide +kernel
theorem dX0_removePlaces_11 : decode cX0_removePlaces 11 = .ok (.aload_n 0, 1) := by decide +kernel
theorem dX0_removePlaces_12 : decode cX0_removePlaces 12 = .ok (.getfield 20, 3) := by decide +kernel
theorem dX0_removePlaces_15 : decode cX0_removePlaces 15 = .ok (.iload_n 3, 1) := by decide +kernel
theorem dX0_removePlaces_16 : decode cX0_removePlaces 16 = .ok (.iaload, 1) := by decide +kernel
theorem dX0_removePlaces_17 : decode cX0_removePlaces 17 = .ok (.iconst 0, 1) := by decide +kernel
theorem dX0_removePlaces_18 : decode cX0_removePlaces 18 = .ok (.iastore, 1) := by decide +kernel
theorem dX0_removePlaces_19 : decode cX0_removePlaces 19 = .ok (.iinc 3 1, 3) := by decide +kernel
theorem dX0_removePlaces_22 : decode cX0_removePlaces 22 = .ok (.goto (-20), 3) := by decide +kernel
theorem dX0_removePlaces_25 : decode cX0_removePlaces 25 = .ok (.aload_n 0, 1) := by decide +kernel
theorem dX0_removePlaces_26 : decode cX0_removePlaces 26 = .ok (.getfield 20, 3) := by decide +kernel
theorem dX0_removePlaces_29 : decode cX0_removePlaces 29 = .ok (.iload_n 2, 1) := by decide +kernel
theorem dX0_removePlaces_30 : decode cX0_removePlaces 30 = .ok (.aload_n 0, 1) := by decide +kernel
theorem dX0_removePlaces_31 : decode cX0_removePlaces 31 = .ok (.getfield 20, 3) := by decide +kernel
theorem dX0_removePlaces_34 : decode cX0_removePlaces 34 = .ok (.iload_n 1, 1) := by decide +kernel
theorem dX0_removePlaces_35 : decode cX0_removePlaces 35 = .ok (.aload_n 0, 1) := by decide +kernel
theorem dX0_removePlaces_36 : decode cX0_removePlaces 36 = .ok (.getfield 23, 3) := by decide +kernel
theorem dX0_removePlaces_39 : decode cX0_removePlaces 39 = .ok (.iload_n 2, 1) := by decide +kernel
theorem dX0_removePlaces_40 : decode cX0_removePlaces 40 = .ok (.isub, 1) := by decide +kernel
theorem dX0_removePlaces_41 : decode cX0_removePlaces 41 = .ok (.invokestatic 108, 3) := by decide +kernel
theorem dX0_removePlaces_44 : decode cX0_removePlaces 44 = .ok (.aload_n 0, 1) := by decide +kernel
theorem dX0_removePlaces_45 : decode cX0_removePlaces 45 = .ok (.dup, 1) := by decide +kernel
theorem dX0_removePlaces_46 : decode cX0_removePlaces 46 = .ok (.getfield 23, 3) := by decide +kernel
theorem dX0_removePlaces_49 : decode cX0_removePlaces 49 = .ok (.iload_n 2, 1) := by decide +kernel
theorem dX0_removePlaces_50 : decode cX0_removePlaces 50 = .ok (.iload_n 1, 1) := by decide +kernel
theorem dX0_removePlaces_51 : decode cX0_removePlaces 51 = .ok (.isub, 1) := by decide +kernel
theorem dX0_removePlaces_52 : decode cX0_removePlaces 52 = .ok (.isub, 1) := by decide +kernel
theorem dX0_removePlaces_53 : decode cX0_removePlaces 53 = .ok (.putfield 23, 3) := by decide +kernel
theorem dX0_removePlaces_56 : decode cX0_removePlaces 56 = .ok (.return_, 1) := by decide +kernel
end
section
theorem dX1_init_0 : decode cX1_init 0 = .ok (.aload_n 0, 1) := by decide +kernel
theorem dX1_init_1 : decode cX1_init 1 = .ok (.invokespecial 1, 3) := by decide +kernel
theorem dX1_init_4 : decode cX1_init 4 = .ok (.aload_n 0, 1) := by decide +kernel
theorem dX1_init_5 : decode cX1_init 5 = .ok (.sipush 200, 3) := by decide +kernel
theorem dX1_init_8 : decode cX1_init 8 = .ok (.newarray .boolean, 2) := by decide +kernel
theorem dX1_init_10 : decode cX1_init 10 = .ok (.putfield 9, 3) := by decide +kernel
theorem dX1_init_13 : decode cX1_init 13 = .ok (.aload_n 0, 1) := by decide +kernel
theorem dX1_init_14 : decode cX1_init 14 = .ok (.sipush 200, 3) := by decide +kernel
theorem dX1_init_17 : decode cX1_init 17 = .ok (.newarray .long, 2) := by decide +kernel
theorem dX1_init_19 : decode cX1_init 19 = .ok (.putfield 13, 3) := by decide +kernel
theorem dX1_init_22 : decode cX1_init 22 = .ok (.aload_n 0, 1) := by decide +kernel
theorem dX1_init_23 : decode cX1_init 23 = .ok (.sipush 200, 3) := by decide +kernel
theorem dX1_init_26 : decode cX1_init 26 = .ok (.newarray .long, 2) := by decide +kernel
theorem dX1_init_28 : decode cX1_init 28 = .ok (.putfield 17, 3) := by decide +kernel
theorem dX1_init_31 : decode cX1_init 31 = .ok (.aload_n 0, 1) := by decide +kernel
theorem dX1_init_32 : decode cX1_init 32 = .ok (.sipush 200, 3) := by decide +kernel
theorem dX1_init_35 : decode cX1_init 35 = .ok (.newarray .int, 2) := by decide +kernel
theorem dX1_init_37 : decode cX1_init 37 = .ok (.putfield 20, 3) := by decide +kernel
theorem dX1_init_40 : decode cX1_init 40 = .ok (.return_, 1) := by decide +kernel
theorem dX1_thrown_0 : decode cX1_thrown 0 = .ok (.aload_n 0, 1) := by decide +kernel
theorem dX1_thrown_1 : decode cX1_thrown 1 = .ok (.getfield 24, 3) := by decide +kernel
theorem dX1_thrown_4 : decode cX1_thrown 4 = .ok (.ireturn, 1) := by decide +kernel
theorem dX1_fail_0 : decode cX1_fail 0 = .ok (.aload_n 0, 1) := by decide +kernel
theorem dX1_fail_1 : decode cX1_fail 1 = .ok (.iload_n 1, 1) := by decide +kernel
theorem dX1_fail_2 : decode cX1_fail 2 = .ok (.putfield 24, 3) := by decide +kernel
theorem dX1_fail_5 : decode cX1_fail 5 = .ok (.iconst 0, 1) := by decide +kernel
theorem dX1_fail_6 : decode cX1_fail 6 = .ok (.ireturn, 1) := by decide +kernel
theorem dX1_no_0 : decode cX1_no 0 = .ok (.aload_n 0, 1) := by decide +kernel
theorem dX1_no_1 : decode cX1_no 1 = .ok (.iload_n 1, 1) := by decide +kernel
theorem dX1_no_2 : decode cX1_no 2 = .ok (.ifCond .lt 19, 3) := by decide +kernel
theorem dX1_no_5 : decode cX1_no 5 = .ok (.iload_n 1, 1) := by decide +kernel
theorem dX1_no_6 : decode cX1_no 6 = .ok (.sipush 200, 3) := by decide +kernel
theorem dX1_no_9 : decode cX1_no 9 = .ok (.if_icmp .ge 12, 3) := by decide +kernel
theorem dX1_no_12 : decode cX1_no 12 = .ok (.aload_n 0, 1) := by decide +kernel
theorem dX1_no_13 : decode cX1_no 13 = .ok (.getfield 9, 3) := by decide +kernel
theorem dX1_no_16 : decode cX1_no 16 = .ok (.iload_n 1, 1) := by decide +kernel
theorem dX1_no_17 : decode cX1_no 17 = .ok (.baload, 1) := by decide +kernel
theorem dX1_no_18 : decode cX1_no 18 = .ok (.ifCond .ne 7, 3) := by decide +kernel
theorem dX1_no_21 : decode cX1_no 21 = .ok (.iconst 1, 1) := by decide +kernel
theorem dX1_no_22 : decode cX1_no 22 = .ok (.goto 4, 3) := by decide +kernel
theorem dX1_no_25 : decode cX1_no 25 = .ok (.iconst 0, 1) := by decide +kernel
theorem dX1_no_26 : decode cX1_no 26 = .ok (.putfield 24, 3) := by decide +kernel
theorem dX1_no_29 : decode cX1_no 29 = .ok (.aload_n 0, 1) := by decide +kernel
theorem dX1_no_30 : decode cX1_no 30 = .ok (.getfield 24, 3) := by decide +kernel
theorem dX1_no_33 : decode cX1_no 33 = .ok (.ifCond .le 7, 3) := by decide +kernel
theorem dX1_no_36 : decode cX1_no 36 = .ok (.iconst 1, 1) := by decide +kernel
theorem dX1_no_37 : decode cX1_no 37 = .ok (.goto 4, 3) := by decide +kernel
theorem dX1_no_40 : decode cX1_no 40 = .ok (.iconst 0, 1) := by decide +kernel
theorem dX1_no_41 : decode cX1_no 41 = .ok (.ireturn, 1) := by decide +kernel
theorem dX1_many_0 : decode cX1_many 0 = .ok (.iconst 0, 1) := by decide +kernel
theorem dX1_many_1 : decode cX1_many 1 = .ok (.istore_n 1, 1) := by decide +kernel
theorem dX1_many_2 : decode cX1_many 2 = .ok (.iconst 0, 1) := by decide +kernel
theorem dX1_many_3 : decode cX1_many 3 = .ok (.istore_n 2, 1) := by decide +kernel
theorem dX1_many_4 : decode cX1_many 4 = .ok (.iload_n 2, 1) := by decide +kernel
theorem dX1_many_5 : decode cX1_many 5 = .ok (.sipush 200, 3) := by decide +kernel
theorem dX1_many_8 : decode cX1_many 8 = .ok (.if_icmp .ge 21, 3) := by decide +kernel
theorem dX1_many_11 : decode cX1_many 11 = .ok (.aload_n 0, 1) := by decide +kernel
theorem dX1_many_12 : decode cX1_many 12 = .ok (.getfield 9, 3) := by decide +kernel
theorem dX1_many_15 : decode cX1_many 15 = .ok (.iload_n 2, 1) := by decide +kernel
theorem dX1_many_16 : decode cX1_many 16 = .ok (.baload, 1) := by decide +kernel
theorem dX1_many_17 : decode cX1_many 17 = .ok (.ifCond .eq 6, 3) := by decide +kernel
theorem dX1_many_20 : decode cX1_many 20 = .ok (.iinc 1 1, 3) := by decide +kernel
theorem dX1_many_23 : decode cX1_many 23 = .ok (.iinc 2 1, 3) := by decide +kernel
theorem dX1_many_26 : decode cX1_many 26 = .ok (.goto (-22), 3) := by decide +kernel
theorem dX1_many_29 : decode cX1_many 29 = .ok (.iload_n 1, 1) := by decide +kernel
theorem dX1_many_30 : decode cX1_many 30 = .ok (.ireturn, 1) := by decide +kernel
theorem dX1_put_0 : decode cX1_put 0 = .ok (.aload_n 0, 1) := by decide +kernel
theorem dX1_put_1 : decode cX1_put 1 = .ok (.iload_n 1, 1) := by decide +kernel
theorem dX1_put_2 : decode cX1_put 2 = .ok (.ifCond .lt 40, 3) := by decide +kernel
theorem dX1_put_5 : decode cX1_put 5 = .ok (.iload_n 1, 1) := by decide +kernel
theorem dX1_put_6 : decode cX1_put 6 = .ok (.sipush 200, 3) := by decide +kernel
theorem dX1_put_9 : decode cX1_put 9 = .ok (.if_icmp .ge 33, 3) := by decide +kernel
theorem dX1_put_12 : decode cX1_put 12 = .ok (.lload_n 2, 1) := by decide +kernel
theorem dX1_put_13 : decode cX1_put 13 = .ok (.ldc2_w 28, 3) := by decide +kernel
theorem dX1_put_16 : decode cX1_put 16 = .ok (.lcmp, 1) := by decide +kernel
theorem dX1_put_17 : decode cX1_put 17 = .ok (.ifCond .lt 25, 3) := by decide +kernel
theorem dX1_put_20 : decode cX1_put 20 = .ok (.lload_n 2, 1) := by decide +kernel
theorem dX1_put_21 : decode cX1_put 21 = .ok (.ldc2_w 30, 3) := by decide +kernel
theorem dX1_put_24 : decode cX1_put 24 = .ok (.lcmp, 1) := by decide +kernel
theorem dX1_put_25 : decode cX1_put 25 = .ok (.ifCond .gt 17, 3) := by decide +kernel
theorem dX1_put_28 : decode cX1_put 28 = .ok (.iload 6, 2) := by decide +kernel
theorem dX1_put_30 : decode cX1_put 30 = .ok (.iconst 1, 1) := by decide +kernel
theorem dX1_put_31 : decode cX1_put 31 = .ok (.if_icmp .lt 11, 3) := by decide +kernel
theorem dX1_put_34 : decode cX1_put 34 = .ok (.iload 6, 2) := by decide +kernel
theorem dX1_put_36 : decode cX1_put 36 = .ok (.sipush 1000, 3) := by decide +kernel
theorem dX1_put_39 : decode cX1_put 39 = .ok (.if_icmp .le 7, 3) := by decide +kernel
theorem dX1_put_42 : decode cX1_put 42 = .ok (.iconst 1, 1) := by decide +kernel
theorem dX1_put_43 : decode cX1_put 43 = .ok (.goto 4, 3) := by decide +kernel
theorem dX1_put_46 : decode cX1_put 46 = .ok (.iconst 0, 1) := by decide +kernel
theorem dX1_put_47 : decode cX1_put 47 = .ok (.putfield 24, 3) := by decide +kernel
theorem dX1_put_50 : decode cX1_put 50 = .ok (.aload_n 0, 1) := by decide +kernel
theorem dX1_put_51 : decode cX1_put 51 = .ok (.getfield 24, 3) := by decide +kernel
theorem dX1_put_54 : decode cX1_put 54 = .ok (.ifCond .le 5, 3) := by decide +kernel
theorem dX1_put_57 : decode cX1_put 57 = .ok (.iconst 0, 1) := by decide +kernel
theorem dX1_put_58 : decode cX1_put 58 = .ok (.ireturn, 1) := by decide +kernel
theorem dX1_put_59 : decode cX1_put 59 = .ok (.aload_n 0, 1) := by decide +kernel
theorem dX1_put_60 : decode cX1_put 60 = .ok (.getfield 9, 3) := by decide +kernel
theorem dX1_put_63 : decode cX1_put 63 = .ok (.iload_n 1, 1) := by decide +kernel
theorem dX1_put_64 : decode cX1_put 64 = .ok (.iconst 1, 1) := by decide +kernel
theorem dX1_put_65 : decode cX1_put 65 = .ok (.bastore, 1) := by decide +kernel
theorem dX1_put_66 : decode cX1_put 66 = .ok (.aload_n 0, 1) := by decide +kernel
theorem dX1_put_67 : decode cX1_put 67 = .ok (.getfield 13, 3) := by decide +kernel
theorem dX1_put_70 : decode cX1_put 70 = .ok (.iload_n 1, 1) := by decide +kernel
theorem dX1_put_71 : decode cX1_put 71 = .ok (.lload_n 2, 1) := by decide +kernel
theorem dX1_put_72 : decode cX1_put 72 = .ok (.lastore, 1) := by decide +kernel
theorem dX1_put_73 : decode cX1_put 73 = .ok (.aload_n 0, 1) := by decide +kernel
theorem dX1_put_74 : decode cX1_put 74 = .ok (.getfield 17, 3) := by decide +kernel
theorem dX1_put_77 : decode cX1_put 77 = .ok (.iload_n 1, 1) := by decide +kernel
theorem dX1_put_78 : decode cX1_put 78 = .ok (.lload 4, 2) := by decide +kernel
theorem dX1_put_80 : decode cX1_put 80 = .ok (.lastore, 1) := by decide +kernel
theorem dX1_put_81 : decode cX1_put 81 = .ok (.aload_n 0, 1) := by decide +kernel
theorem dX1_put_82 : decode cX1_put 82 = .ok (.getfield 20, 3) := by decide +kernel
theorem dX1_put_85 : decode cX1_put 85 = .ok (.iload_n 1, 1) := by decide +kernel
theorem dX1_put_86 : decode cX1_put 86 = .ok (.iload 6, 2) := by decide +kernel
theorem dX1_put_88 : decode cX1_put 88 = .ok (.iastore, 1) := by decide +kernel
theorem dX1_put_89 : decode cX1_put 89 = .ok (.aload_n 0, 1) := by decide +kernel
theorem dX1_put_90 : decode cX1_put 90 = .ok (.invokevirtual 32, 3) := by decide +kernel
theorem dX1_put_93 : decode cX1_put 93 = .ok (.ireturn, 1) := by decide +kernel
theorem dX1_drop_0 : decode cX1_drop 0 = .ok (.aload_n 0, 1) := by decide +kernel
theorem dX1_drop_1 : decode cX1_drop 1 = .ok (.iload_n 1, 1) := by decide +kernel
theorem dX1_drop_2 : decode cX1_drop 2 = .ok (.invokevirtual 36, 3) := by decide +kernel
theorem dX1_drop_5 : decode cX1_drop 5 = .ok (.ifCond .eq 5, 3) := by decide +kernel
theorem dX1_drop_8 : decode cX1_drop 8 = .ok (.iconst 0, 1) := by decide +kernel
theorem dX1_drop_9 : decode cX1_drop 9 = .ok (.ireturn, 1) := by decide +kernel
theorem dX1_drop_10 : decode cX1_drop 10 = .ok (.aload_n 0, 1) := by decide +kernel
theorem dX1_drop_11 : decode cX1_drop 11 = .ok (.getfield 9, 3) := by decide +kernel
theorem dX1_drop_14 : decode cX1_drop 14 = .ok (.iload_n 1, 1) := by decide +kernel
theorem dX1_drop_15 : decode cX1_drop 15 = .ok (.iconst 0, 1) := by decide +kernel
theorem dX1_drop_16 : decode cX1_drop 16 = .ok (.bastore, 1) := by decide +kernel
theorem dX1_drop_17 : decode cX1_drop 17 = .ok (.aload_n 0, 1) := by decide +kernel
theorem dX1_drop_18 : decode cX1_drop 18 = .ok (.getfield 20, 3) := by decide +kernel
theorem dX1_drop_21 : decode cX1_drop 21 = .ok (.iload_n 1, 1) := by decide +kernel
theorem dX1_drop_22 : decode cX1_drop 22 = .ok (.iaload, 1) := by decide +kernel
theorem dX1_drop_23 : decode cX1_drop 23 = .ok (.ireturn, 1) := by decide +kernel
theorem dX1_slide_0 : decode cX1_slide 0 = .ok (.aload_n 0, 1) := by decide +kernel
theorem dX1_slide_1 : decode cX1_slide 1 = .ok (.aload_n 0, 1) := by decide +kernel
theorem dX1_slide_2 : decode cX1_slide 2 = .ok (.invokevirtual 32, 3) := by decide +kernel
theorem dX1_slide_5 : decode cX1_slide 5 = .ok (.ifCond .ne 7, 3) := by decide +kernel
theorem dX1_slide_8 : decode cX1_slide 8 = .ok (.iconst 1, 1) := by decide +kernel
theorem dX1_slide_9 : decode cX1_slide 9 = .ok (.goto 4, 3) := by decide +kernel
theorem dX1_slide_12 : decode cX1_slide 12 = .ok (.iconst 0, 1) := by decide +kernel
theorem dX1_slide_13 : decode cX1_slide 13 = .ok (.putfield 24, 3) := by decide +kernel
theorem dX1_slide_16 : decode cX1_slide 16 = .ok (.aload_n 0, 1) := by decide +kernel
theorem dX1_slide_17 : decode cX1_slide 17 = .ok (.getfield 24, 3) := by decide +kernel
theorem dX1_slide_20 : decode cX1_slide 20 = .ok (.ifCond .le 5, 3) := by decide +kernel
theorem dX1_slide_23 : decode cX1_slide 23 = .ok (.lconst 0, 1) := by decide +kernel
theorem dX1_slide_24 : decode cX1_slide 24 = .ok (.lreturn, 1) := by decide +kernel
theorem dX1_slide_25 : decode cX1_slide 25 = .ok (.ldc2_w 42, 3) := by decide +kernel
theorem dX1_slide_28 : decode cX1_slide 28 = .ok (.lstore_n 3, 1) := by decide +kernel
theorem dX1_slide_29 : decode cX1_slide 29 = .ok (.iconst 0, 1) := by decide +kernel
theorem dX1_slide_30 : decode cX1_slide 30 = .ok (.istore 5, 2) := by decide +kernel
theorem dX1_slide_32 : decode cX1_slide 32 = .ok (.iload 5, 2) := by decide +kernel
theorem dX1_slide_34 : decode cX1_slide 34 = .ok (.sipush 200, 3) := by decide +kernel
theorem dX1_slide_37 : decode cX1_slide 37 = .ok (.if_icmp .ge 77, 3) := by decide +kernel
theorem dX1_slide_40 : decode cX1_slide 40 = .ok (.aload_n 0, 1) := by decide +kernel
theorem dX1_slide_41 : decode cX1_slide 41 = .ok (.getfield 9, 3) := by decide +kernel
theorem dX1_slide_44 : decode cX1_slide 44 = .ok (.iload 5, 2) := by decide +kernel
theorem dX1_slide_46 : decode cX1_slide 46 = .ok (.baload, 1) := by decide +kernel
theorem dX1_slide_47 : decode cX1_slide 47 = .ok (.ifCond .ne 6, 3) := by decide +kernel
theorem dX1_slide_50 : decode cX1_slide 50 = .ok (.goto 58, 3) := by decide +kernel
theorem dX1_slide_53 : decode cX1_slide 53 = .ok (.lload_n 1, 1) := by decide +kernel
theorem dX1_slide_54 : decode cX1_slide 54 = .ok (.ldc2_w 44, 3) := by decide +kernel
theorem dX1_slide_57 : decode cX1_slide 57 = .ok (.lcmp, 1) := by decide +kernel
theorem dX1_slide_58 : decode cX1_slide 58 = .ok (.ifCond .gt 43, 3) := by decide +kernel
theorem dX1_slide_61 : decode cX1_slide 61 = .ok (.lload_n 1, 1) := by decide +kernel
theorem dX1_slide_62 : decode cX1_slide 62 = .ok (.ldc2_w 46, 3) := by decide +kernel
theorem dX1_slide_65 : decode cX1_slide 65 = .ok (.lcmp, 1) := by decide +kernel
theorem dX1_slide_66 : decode cX1_slide 66 = .ok (.ifCond .lt 35, 3) := by decide +kernel
theorem dX1_slide_69 : decode cX1_slide 69 = .ok (.aload_n 0, 1) := by decide +kernel
theorem dX1_slide_70 : decode cX1_slide 70 = .ok (.getfield 13, 3) := by decide +kernel
theorem dX1_slide_73 : decode cX1_slide 73 = .ok (.iload 5, 2) := by decide +kernel
theorem dX1_slide_75 : decode cX1_slide 75 = .ok (.laload, 1) := by decide +kernel
theorem dX1_slide_76 : decode cX1_slide 76 = .ok (.lload_n 1, 1) := by decide +kernel
theorem dX1_slide_77 : decode cX1_slide 77 = .ok (.ladd, 1) := by decide +kernel
theorem dX1_slide_78 : decode cX1_slide 78 = .ok (.ldc2_w 48, 3) := by decide +kernel
theorem dX1_slide_81 : decode cX1_slide 81 = .ok (.lcmp, 1) := by decide +kernel
theorem dX1_slide_82 : decode cX1_slide 82 = .ok (.ifCond .lt 19, 3) := by decide +kernel
theorem dX1_slide_85 : decode cX1_slide 85 = .ok (.aload_n 0, 1) := by decide +kernel
theorem dX1_slide_86 : decode cX1_slide 86 = .ok (.getfield 13, 3) := by decide +kernel
theorem dX1_slide_89 : decode cX1_slide 89 = .ok (.iload 5, 2) := by decide +kernel
theorem dX1_slide_91 : decode cX1_slide 91 = .ok (.laload, 1) := by decide +kernel
theorem dX1_slide_92 : decode cX1_slide 92 = .ok (.lload_n 1, 1) := by decide +kernel
theorem dX1_slide_93 : decode cX1_slide 93 = .ok (.ladd, 1) := by decide +kernel
theorem dX1_slide_94 : decode cX1_slide 94 = .ok (.ldc2_w 50, 3) := by decide +kernel
theorem dX1_slide_97 : decode cX1_slide 97 = .ok (.lcmp, 1) := by decide +kernel
theorem dX1_slide_98 : decode cX1_slide 98 = .ok (.ifCond .le 10, 3) := by decide +kernel
theorem dX1_slide_101 : decode cX1_slide 101 = .ok (.aload_n 0, 1) := by decide +kernel
theorem dX1_slide_102 : decode cX1_slide 102 = .ok (.iconst 2, 1) := by decide +kernel
theorem dX1_slide_103 : decode cX1_slide 103 = .ok (.invokevirtual 52, 3) := by decide +kernel
theorem dX1_slide_106 : decode cX1_slide 106 = .ok (.i2l, 1) := by decide +kernel
theorem dX1_slide_107 : decode cX1_slide 107 = .ok (.lreturn, 1) := by decide +kernel
theorem dX1_slide_108 : decode cX1_slide 108 = .ok (.iinc 5 1, 3) := by decide +kernel
theorem dX1_slide_111 : decode cX1_slide 111 = .ok (.goto (-79), 3) := by decide +kernel
theorem dX1_slide_114 : decode cX1_slide 114 = .ok (.iconst 0, 1) := by decide +kernel
theorem dX1_slide_115 : decode cX1_slide 115 = .ok (.istore 5, 2) := by decide +kernel
theorem dX1_slide_117 : decode cX1_slide 117 = .ok (.iload 5, 2) := by decide +kernel
theorem dX1_slide_119 : decode cX1_slide 119 = .ok (.sipush 200, 3) := by decide +kernel
theorem dX1_slide_122 : decode cX1_slide 122 = .ok (.if_icmp .ge 45, 3) := by decide +kernel
theorem dX1_slide_125 : decode cX1_slide 125 = .ok (.aload_n 0, 1) := by decide +kernel
theorem dX1_slide_126 : decode cX1_slide 126 = .ok (.getfield 9, 3) := by decide +kernel
theorem dX1_slide_129 : decode cX1_slide 129 = .ok (.iload 5, 2) := by decide +kernel
theorem dX1_slide_131 : decode cX1_slide 131 = .ok (.baload, 1) := by decide +kernel
theorem dX1_slide_132 : decode cX1_slide 132 = .ok (.ifCond .ne 6, 3) := by decide +kernel
theorem dX1_slide_135 : decode cX1_slide 135 = .ok (.goto 26, 3) := by decide +kernel
theorem dX1_slide_138 : decode cX1_slide 138 = .ok (.aload_n 0, 1) := by decide +kernel
theorem dX1_slide_139 : decode cX1_slide 139 = .ok (.getfield 13, 3) := by decide +kernel
theorem dX1_slide_142 : decode cX1_slide 142 = .ok (.iload 5, 2) := by decide +kernel
theorem dX1_slide_144 : decode cX1_slide 144 = .ok (.dup2, 1) := by decide +kernel
theorem dX1_slide_145 : decode cX1_slide 145 = .ok (.laload, 1) := by decide +kernel
theorem dX1_slide_146 : decode cX1_slide 146 = .ok (.lload_n 1, 1) := by decide +kernel
theorem dX1_slide_147 : decode cX1_slide 147 = .ok (.ladd, 1) := by decide +kernel
theorem dX1_slide_148 : decode cX1_slide 148 = .ok (.lastore, 1) := by decide +kernel
theorem dX1_slide_149 : decode cX1_slide 149 = .ok (.lload_n 3, 1) := by decide +kernel
theorem dX1_slide_150 : decode cX1_slide 150 = .ok (.aload_n 0, 1) := by decide +kernel
theorem dX1_slide_151 : decode cX1_slide 151 = .ok (.getfield 13, 3) := by decide +kernel
theorem dX1_slide_154 : decode cX1_slide 154 = .ok (.iload 5, 2) := by decide +kernel
theorem dX1_slide_156 : decode cX1_slide 156 = .ok (.laload, 1) := by decide +kernel
theorem dX1_slide_157 : decode cX1_slide 157 = .ok (.invokestatic 56, 3) := by decide +kernel
theorem dX1_slide_160 : decode cX1_slide 160 = .ok (.lstore_n 3, 1) := by decide +kernel
theorem dX1_slide_161 : decode cX1_slide 161 = .ok (.iinc 5 1, 3) := by decide +kernel
theorem dX1_slide_164 : decode cX1_slide 164 = .ok (.goto (-47), 3) := by decide +kernel
theorem dX1_slide_167 : decode cX1_slide 167 = .ok (.lload_n 3, 1) := by decide +kernel
theorem dX1_slide_168 : decode cX1_slide 168 = .ok (.lreturn, 1) := by decide +kernel
theorem dX1_told_0 : decode cX1_told 0 = .ok (.aload_n 0, 1) := by decide +kernel
theorem dX1_told_1 : decode cX1_told 1 = .ok (.iload_n 1, 1) := by decide +kernel
theorem dX1_told_2 : decode cX1_told 2 = .ok (.invokevirtual 36, 3) := by decide +kernel
theorem dX1_told_5 : decode cX1_told 5 = .ok (.ifCond .eq 5, 3) := by decide +kernel
theorem dX1_told_8 : decode cX1_told 8 = .ok (.lconst 0, 1) := by decide +kernel
theorem dX1_told_9 : decode cX1_told 9 = .ok (.lreturn, 1) := by decide +kernel
theorem dX1_told_10 : decode cX1_told 10 = .ok (.iload_n 2, 1) := by decide +kernel
theorem dX1_told_11 : decode cX1_told 11 = .ok (.ifCond .lt 8, 3) := by decide +kernel
theorem dX1_told_14 : decode cX1_told 14 = .ok (.iload_n 2, 1) := by decide +kernel
theorem dX1_told_15 : decode cX1_told 15 = .ok (.iconst 2, 1) := by decide +kernel
theorem dX1_told_16 : decode cX1_told 16 = .ok (.if_icmp .le 10, 3) := by decide +kernel
theorem dX1_told_19 : decode cX1_told 19 = .ok (.aload_n 0, 1) := by decide +kernel
theorem dX1_told_20 : decode cX1_told 20 = .ok (.iconst 2, 1) := by decide +kernel
theorem dX1_told_21 : decode cX1_told 21 = .ok (.invokevirtual 52, 3) := by decide +kernel
theorem dX1_told_24 : decode cX1_told 24 = .ok (.i2l, 1) := by decide +kernel
theorem dX1_told_25 : decode cX1_told 25 = .ok (.lreturn, 1) := by decide +kernel
theorem dX1_told_26 : decode cX1_told 26 = .ok (.iload_n 2, 1) := by decide +kernel
theorem dX1_told_27 : decode cX1_told 27 = .ok (.ifCond .ne 12, 3) := by decide +kernel
theorem dX1_told_30 : decode cX1_told 30 = .ok (.aload_n 0, 1) := by decide +kernel
theorem dX1_told_31 : decode cX1_told 31 = .ok (.getfield 13, 3) := by decide +kernel
theorem dX1_told_34 : decode cX1_told 34 = .ok (.iload_n 1, 1) := by decide +kernel
theorem dX1_told_35 : decode cX1_told 35 = .ok (.laload, 1) := by decide +kernel
theorem dX1_told_36 : decode cX1_told 36 = .ok (.goto 24, 3) := by decide +kernel
theorem dX1_told_39 : decode cX1_told 39 = .ok (.iload_n 2, 1) := by decide +kernel
theorem dX1_told_40 : decode cX1_told 40 = .ok (.iconst 1, 1) := by decide +kernel
theorem dX1_told_41 : decode cX1_told 41 = .ok (.if_icmp .ne 12, 3) := by decide +kernel
theorem dX1_told_44 : decode cX1_told 44 = .ok (.aload_n 0, 1) := by decide +kernel
theorem dX1_told_45 : decode cX1_told 45 = .ok (.getfield 17, 3) := by decide +kernel
theorem dX1_told_48 : decode cX1_told 48 = .ok (.iload_n 1, 1) := by decide +kernel
theorem dX1_told_49 : decode cX1_told 49 = .ok (.laload, 1) := by decide +kernel
theorem dX1_told_50 : decode cX1_told 50 = .ok (.goto 10, 3) := by decide +kernel
theorem dX1_told_53 : decode cX1_told 53 = .ok (.aload_n 0, 1) := by decide +kernel
theorem dX1_told_54 : decode cX1_told 54 = .ok (.getfield 20, 3) := by decide +kernel
theorem dX1_told_57 : decode cX1_told 57 = .ok (.iload_n 1, 1) := by decide +kernel
theorem dX1_told_58 : decode cX1_told 58 = .ok (.iaload, 1) := by decide +kernel
theorem dX1_told_59 : decode cX1_told 59 = .ok (.i2l, 1) := by decide +kernel
theorem dX1_told_60 : decode cX1_told 60 = .ok (.lreturn, 1) := by decide +kernel
theorem dX1_before_0 : decode cX1_before 0 = .ok (.aload_n 0, 1) := by decide +kernel
theorem dX1_before_1 : decode cX1_before 1 = .ok (.getfield 13, 3) := by decide +kernel
theorem dX1_before_4 : decode cX1_before 4 = .ok (.iload_n 1, 1) := by decide +kernel
theorem dX1_before_5 : decode cX1_before 5 = .ok (.laload, 1) := by decide +kernel
theorem dX1_before_6 : decode cX1_before 6 = .ok (.aload_n 0, 1) := by decide +kernel
theorem dX1_before_7 : decode cX1_before 7 = .ok (.getfield 13, 3) := by decide +kernel
theorem dX1_before_10 : decode cX1_before 10 = .ok (.iload_n 2, 1) := by decide +kernel
theorem dX1_before_11 : decode cX1_before 11 = .ok (.laload, 1) := by decide +kernel
theorem dX1_before_12 : decode cX1_before 12 = .ok (.lcmp, 1) := by decide +kernel
theorem dX1_before_13 : decode cX1_before 13 = .ok (.ifCond .lt 24, 3) := by decide +kernel
theorem dX1_before_16 : decode cX1_before 16 = .ok (.aload_n 0, 1) := by decide +kernel
theorem dX1_before_17 : decode cX1_before 17 = .ok (.getfield 13, 3) := by decide +kernel
theorem dX1_before_20 : decode cX1_before 20 = .ok (.iload_n 1, 1) := by decide +kernel
theorem dX1_before_21 : decode cX1_before 21 = .ok (.laload, 1) := by decide +kernel
theorem dX1_before_22 : decode cX1_before 22 = .ok (.aload_n 0, 1) := by decide +kernel
theorem dX1_before_23 : decode cX1_before 23 = .ok (.getfield 13, 3) := by decide +kernel
theorem dX1_before_26 : decode cX1_before 26 = .ok (.iload_n 2, 1) := by decide +kernel
theorem dX1_before_27 : decode cX1_before 27 = .ok (.laload, 1) := by decide +kernel
theorem dX1_before_28 : decode cX1_before 28 = .ok (.lcmp, 1) := by decide +kernel
theorem dX1_before_29 : decode cX1_before 29 = .ok (.ifCond .ne 12, 3) := by decide +kernel
theorem dX1_before_32 : decode cX1_before 32 = .ok (.iload_n 1, 1) := by decide +kernel
theorem dX1_before_33 : decode cX1_before 33 = .ok (.iload_n 2, 1) := by decide +kernel
theorem dX1_before_34 : decode cX1_before 34 = .ok (.if_icmp .ge 7, 3) := by decide +kernel
theorem dX1_before_37 : decode cX1_before 37 = .ok (.iconst 1, 1) := by decide +kernel
theorem dX1_before_38 : decode cX1_before 38 = .ok (.goto 4, 3) := by decide +kernel
theorem dX1_before_41 : decode cX1_before 41 = .ok (.iconst 0, 1) := by decide +kernel
theorem dX1_before_42 : decode cX1_before 42 = .ok (.ireturn, 1) := by decide +kernel
theorem dX1_place_0 : decode cX1_place 0 = .ok (.iconst 0, 1) := by decide +kernel
theorem dX1_place_1 : decode cX1_place 1 = .ok (.istore_n 2, 1) := by decide +kernel
theorem dX1_place_2 : decode cX1_place 2 = .ok (.iconst 0, 1) := by decide +kernel
theorem dX1_place_3 : decode cX1_place 3 = .ok (.istore_n 3, 1) := by decide +kernel
theorem dX1_place_4 : decode cX1_place 4 = .ok (.iload_n 3, 1) := by decide +kernel
theorem dX1_place_5 : decode cX1_place 5 = .ok (.sipush 200, 3) := by decide +kernel
theorem dX1_place_8 : decode cX1_place 8 = .ok (.if_icmp .ge 30, 3) := by decide +kernel
theorem dX1_place_11 : decode cX1_place 11 = .ok (.aload_n 0, 1) := by decide +kernel
theorem dX1_place_12 : decode cX1_place 12 = .ok (.getfield 9, 3) := by decide +kernel
theorem dX1_place_15 : decode cX1_place 15 = .ok (.iload_n 3, 1) := by decide +kernel
theorem dX1_place_16 : decode cX1_place 16 = .ok (.baload, 1) := by decide +kernel
theorem dX1_place_17 : decode cX1_place 17 = .ok (.ifCond .eq 15, 3) := by decide +kernel
theorem dX1_place_20 : decode cX1_place 20 = .ok (.aload_n 0, 1) := by decide +kernel
theorem dX1_place_21 : decode cX1_place 21 = .ok (.iload_n 3, 1) := by decide +kernel
theorem dX1_place_22 : decode cX1_place 22 = .ok (.iload_n 1, 1) := by decide +kernel
theorem dX1_place_23 : decode cX1_place 23 = .ok (.invokevirtual 62, 3) := by decide +kernel
theorem dX1_place_26 : decode cX1_place 26 = .ok (.ifCond .eq 6, 3) := by decide +kernel
theorem dX1_place_29 : decode cX1_place 29 = .ok (.iinc 2 1, 3) := by decide +kernel
theorem dX1_place_32 : decode cX1_place 32 = .ok (.iinc 3 1, 3) := by decide +kernel
theorem dX1_place_35 : decode cX1_place 35 = .ok (.goto (-31), 3) := by decide +kernel
theorem dX1_place_38 : decode cX1_place 38 = .ok (.iload_n 2, 1) := by decide +kernel
theorem dX1_place_39 : decode cX1_place 39 = .ok (.ireturn, 1) := by decide +kernel
theorem dX1_at_0 : decode cX1_at 0 = .ok (.aload_n 0, 1) := by decide +kernel
theorem dX1_at_1 : decode cX1_at 1 = .ok (.iconst 0, 1) := by decide +kernel
theorem dX1_at_2 : decode cX1_at 2 = .ok (.putfield 24, 3) := by decide +kernel
theorem dX1_at_5 : decode cX1_at 5 = .ok (.iconst 0, 1) := by decide +kernel
theorem dX1_at_6 : decode cX1_at 6 = .ok (.istore_n 2, 1) := by decide +kernel
theorem dX1_at_7 : decode cX1_at 7 = .ok (.iload_n 2, 1) := by decide +kernel
theorem dX1_at_8 : decode cX1_at 8 = .ok (.sipush 200, 3) := by decide +kernel
theorem dX1_at_11 : decode cX1_at 11 = .ok (.if_icmp .ge 29, 3) := by decide +kernel
theorem dX1_at_14 : decode cX1_at 14 = .ok (.aload_n 0, 1) := by decide +kernel
theorem dX1_at_15 : decode cX1_at 15 = .ok (.getfield 9, 3) := by decide +kernel
theorem dX1_at_18 : decode cX1_at 18 = .ok (.iload_n 2, 1) := by decide +kernel
theorem dX1_at_19 : decode cX1_at 19 = .ok (.baload, 1) := by decide +kernel
theorem dX1_at_20 : decode cX1_at 20 = .ok (.ifCond .eq 14, 3) := by decide +kernel
theorem dX1_at_23 : decode cX1_at 23 = .ok (.aload_n 0, 1) := by decide +kernel
theorem dX1_at_24 : decode cX1_at 24 = .ok (.iload_n 2, 1) := by decide +kernel
theorem dX1_at_25 : decode cX1_at 25 = .ok (.invokevirtual 66, 3) := by decide +kernel
theorem dX1_at_28 : decode cX1_at 28 = .ok (.iload_n 1, 1) := by decide +kernel
theorem dX1_at_29 : decode cX1_at 29 = .ok (.if_icmp .ne 5, 3) := by decide +kernel
theorem dX1_at_32 : decode cX1_at 32 = .ok (.iload_n 2, 1) := by decide +kernel
theorem dX1_at_33 : decode cX1_at 33 = .ok (.ireturn, 1) := by decide +kernel
theorem dX1_at_34 : decode cX1_at 34 = .ok (.iinc 2 1, 3) := by decide +kernel
theorem dX1_at_37 : decode cX1_at 37 = .ok (.goto (-30), 3) := by decide +kernel
theorem dX1_at_40 : decode cX1_at 40 = .ok (.aload_n 0, 1) := by decide +kernel
theorem dX1_at_41 : decode cX1_at 41 = .ok (.iconst 1, 1) := by decide +kernel
theorem dX1_at_42 : decode cX1_at 42 = .ok (.invokevirtual 52, 3) := by decide +kernel
theorem dX1_at_45 : decode cX1_at 45 = .ok (.ireturn, 1) := by decide +kernel
theorem dX1_rank_0 : decode cX1_rank 0 = .ok (.aload_n 0, 1) := by decide +kernel
theorem dX1_rank_1 : decode cX1_rank 1 = .ok (.iload_n 1, 1) := by decide +kernel
theorem dX1_rank_2 : decode cX1_rank 2 = .ok (.invokevirtual 36, 3) := by decide +kernel
theorem dX1_rank_5 : decode cX1_rank 5 = .ok (.ifCond .eq 7, 3) := by decide +kernel
theorem dX1_rank_8 : decode cX1_rank 8 = .ok (.iconst 0, 1) := by decide +kernel
theorem dX1_rank_9 : decode cX1_rank 9 = .ok (.goto 8, 3) := by decide +kernel
theorem dX1_rank_12 : decode cX1_rank 12 = .ok (.aload_n 0, 1) := by decide +kernel
theorem dX1_rank_13 : decode cX1_rank 13 = .ok (.iload_n 1, 1) := by decide +kernel
theorem dX1_rank_14 : decode cX1_rank 14 = .ok (.invokevirtual 66, 3) := by decide +kernel
theorem dX1_rank_17 : decode cX1_rank 17 = .ok (.ireturn, 1) := by decide +kernel
theorem dX1_first_0 : decode cX1_first 0 = .ok (.aload_n 0, 1) := by decide +kernel
theorem dX1_first_1 : decode cX1_first 1 = .ok (.iconst 0, 1) := by decide +kernel
theorem dX1_first_2 : decode cX1_first 2 = .ok (.putfield 24, 3) := by decide +kernel
theorem dX1_first_5 : decode cX1_first 5 = .ok (.iconst (-1), 1) := by decide +kernel
theorem dX1_first_6 : decode cX1_first 6 = .ok (.istore 5, 2) := by decide +kernel
theorem dX1_first_8 : decode cX1_first 8 = .ok (.iconst 0, 1) := by decide +kernel
theorem dX1_first_9 : decode cX1_first 9 = .ok (.istore 6, 2) := by decide +kernel
theorem dX1_first_11 : decode cX1_first 11 = .ok (.iload 6, 2) := by decide +kernel
theorem dX1_first_13 : decode cX1_first 13 = .ok (.sipush 200, 3) := by decide +kernel
theorem dX1_first_16 : decode cX1_first 16 = .ok (.if_icmp .ge 71, 3) := by decide +kernel
theorem dX1_first_19 : decode cX1_first 19 = .ok (.aload_n 0, 1) := by decide +kernel
theorem dX1_first_20 : decode cX1_first 20 = .ok (.getfield 9, 3) := by decide +kernel
theorem dX1_first_23 : decode cX1_first 23 = .ok (.iload 6, 2) := by decide +kernel
theorem dX1_first_25 : decode cX1_first 25 = .ok (.baload, 1) := by decide +kernel
theorem dX1_first_26 : decode cX1_first 26 = .ok (.ifCond .eq 55, 3) := by decide +kernel
theorem dX1_first_29 : decode cX1_first 29 = .ok (.aload_n 0, 1) := by decide +kernel
theorem dX1_first_30 : decode cX1_first 30 = .ok (.getfield 13, 3) := by decide +kernel
theorem dX1_first_33 : decode cX1_first 33 = .ok (.iload 6, 2) := by decide +kernel
theorem dX1_first_35 : decode cX1_first 35 = .ok (.laload, 1) := by decide +kernel
theorem dX1_first_36 : decode cX1_first 36 = .ok (.lload_n 1, 1) := by decide +kernel
theorem dX1_first_37 : decode cX1_first 37 = .ok (.lcmp, 1) := by decide +kernel
theorem dX1_first_38 : decode cX1_first 38 = .ok (.ifCond .lt 43, 3) := by decide +kernel
theorem dX1_first_41 : decode cX1_first 41 = .ok (.aload_n 0, 1) := by decide +kernel
theorem dX1_first_42 : decode cX1_first 42 = .ok (.getfield 13, 3) := by decide +kernel
theorem dX1_first_45 : decode cX1_first 45 = .ok (.iload 6, 2) := by decide +kernel
theorem dX1_first_47 : decode cX1_first 47 = .ok (.laload, 1) := by decide +kernel
theorem dX1_first_48 : decode cX1_first 48 = .ok (.lload_n 3, 1) := by decide +kernel
theorem dX1_first_49 : decode cX1_first 49 = .ok (.lcmp, 1) := by decide +kernel
theorem dX1_first_50 : decode cX1_first 50 = .ok (.ifCond .gt 31, 3) := by decide +kernel
theorem dX1_first_53 : decode cX1_first 53 = .ok (.iload 5, 2) := by decide +kernel
theorem dX1_first_55 : decode cX1_first 55 = .ok (.iconst (-1), 1) := by decide +kernel
theorem dX1_first_56 : decode cX1_first 56 = .ok (.if_icmp .eq 21, 3) := by decide +kernel
theorem dX1_first_59 : decode cX1_first 59 = .ok (.aload_n 0, 1) := by decide +kernel
theorem dX1_first_60 : decode cX1_first 60 = .ok (.getfield 17, 3) := by decide +kernel
theorem dX1_first_63 : decode cX1_first 63 = .ok (.iload 6, 2) := by decide +kernel
theorem dX1_first_65 : decode cX1_first 65 = .ok (.laload, 1) := by decide +kernel
theorem dX1_first_66 : decode cX1_first 66 = .ok (.aload_n 0, 1) := by decide +kernel
theorem dX1_first_67 : decode cX1_first 67 = .ok (.getfield 17, 3) := by decide +kernel
theorem dX1_first_70 : decode cX1_first 70 = .ok (.iload 5, 2) := by decide +kernel
theorem dX1_first_72 : decode cX1_first 72 = .ok (.laload, 1) := by decide +kernel
theorem dX1_first_73 : decode cX1_first 73 = .ok (.lcmp, 1) := by decide +kernel
theorem dX1_first_74 : decode cX1_first 74 = .ok (.ifCond .ge 7, 3) := by decide +kernel
theorem dX1_first_77 : decode cX1_first 77 = .ok (.iload 6, 2) := by decide +kernel
theorem dX1_first_79 : decode cX1_first 79 = .ok (.istore 5, 2) := by decide +kernel
theorem dX1_first_81 : decode cX1_first 81 = .ok (.iinc 6 1, 3) := by decide +kernel
theorem dX1_first_84 : decode cX1_first 84 = .ok (.goto (-73), 3) := by decide +kernel
theorem dX1_first_87 : decode cX1_first 87 = .ok (.iload 5, 2) := by decide +kernel
theorem dX1_first_89 : decode cX1_first 89 = .ok (.iconst (-1), 1) := by decide +kernel
theorem dX1_first_90 : decode cX1_first 90 = .ok (.if_icmp .ne 11, 3) := by decide +kernel
theorem dX1_first_93 : decode cX1_first 93 = .ok (.aload_n 0, 1) := by decide +kernel
theorem dX1_first_94 : decode cX1_first 94 = .ok (.iconst 1, 1) := by decide +kernel
theorem dX1_first_95 : decode cX1_first 95 = .ok (.invokevirtual 52, 3) := by decide +kernel
theorem dX1_first_98 : decode cX1_first 98 = .ok (.goto 5, 3) := by decide +kernel
theorem dX1_first_101 : decode cX1_first 101 = .ok (.iload 5, 2) := by decide +kernel
theorem dX1_first_103 : decode cX1_first 103 = .ok (.ireturn, 1) := by decide +kernel
theorem dX1_earliest_0 : decode cX1_earliest 0 = .ok (.aload_n 0, 1) := by decide +kernel
theorem dX1_earliest_1 : decode cX1_earliest 1 = .ok (.ldc2_w 69, 3) := by decide +kernel
theorem dX1_earliest_4 : decode cX1_earliest 4 = .ok (.lload_n 1, 1) := by decide +kernel
theorem dX1_earliest_5 : decode cX1_earliest 5 = .ok (.invokevirtual 71, 3) := by decide +kernel
theorem dX1_earliest_8 : decode cX1_earliest 8 = .ok (.ireturn, 1) := by decide +kernel
theorem dX1_between_0 : decode cX1_between 0 = .ok (.aload_n 0, 1) := by decide +kernel
theorem dX1_between_1 : decode cX1_between 1 = .ok (.lload_n 1, 1) := by decide +kernel
theorem dX1_between_2 : decode cX1_between 2 = .ok (.lload_n 3, 1) := by decide +kernel
theorem dX1_between_3 : decode cX1_between 3 = .ok (.invokevirtual 71, 3) := by decide +kernel
theorem dX1_between_6 : decode cX1_between 6 = .ok (.ireturn, 1) := by decide +kernel
theorem dX1_all_0 : decode cX1_all 0 = .ok (.lconst 0, 1) := by decide +kernel
theorem dX1_all_1 : decode cX1_all 1 = .ok (.lstore_n 1, 1) := by decide +kernel
theorem dX1_all_2 : decode cX1_all 2 = .ok (.iconst 0, 1) := by decide +kernel
theorem dX1_all_3 : decode cX1_all 3 = .ok (.istore_n 3, 1) := by decide +kernel
theorem dX1_all_4 : decode cX1_all 4 = .ok (.iload_n 3, 1) := by decide +kernel
theorem dX1_all_5 : decode cX1_all 5 = .ok (.sipush 200, 3) := by decide +kernel
theorem dX1_all_8 : decode cX1_all 8 = .ok (.if_icmp .ge 28, 3) := by decide +kernel
theorem dX1_all_11 : decode cX1_all 11 = .ok (.aload_n 0, 1) := by decide +kernel
theorem dX1_all_12 : decode cX1_all 12 = .ok (.getfield 9, 3) := by decide +kernel
theorem dX1_all_15 : decode cX1_all 15 = .ok (.iload_n 3, 1) := by decide +kernel
theorem dX1_all_16 : decode cX1_all 16 = .ok (.baload, 1) := by decide +kernel
theorem dX1_all_17 : decode cX1_all 17 = .ok (.ifCond .eq 13, 3) := by decide +kernel
theorem dX1_all_20 : decode cX1_all 20 = .ok (.lload_n 1, 1) := by decide +kernel
theorem dX1_all_21 : decode cX1_all 21 = .ok (.aload_n 0, 1) := by decide +kernel
theorem dX1_all_22 : decode cX1_all 22 = .ok (.getfield 20, 3) := by decide +kernel
theorem dX1_all_25 : decode cX1_all 25 = .ok (.iload_n 3, 1) := by decide +kernel
theorem dX1_all_26 : decode cX1_all 26 = .ok (.iaload, 1) := by decide +kernel
theorem dX1_all_27 : decode cX1_all 27 = .ok (.i2l, 1) := by decide +kernel
theorem dX1_all_28 : decode cX1_all 28 = .ok (.ladd, 1) := by decide +kernel
theorem dX1_all_29 : decode cX1_all 29 = .ok (.lstore_n 1, 1) := by decide +kernel
theorem dX1_all_30 : decode cX1_all 30 = .ok (.iinc 3 1, 3) := by decide +kernel
theorem dX1_all_33 : decode cX1_all 33 = .ok (.goto (-29), 3) := by decide +kernel
theorem dX1_all_36 : decode cX1_all 36 = .ok (.lload_n 1, 1) := by decide +kernel
theorem dX1_all_37 : decode cX1_all 37 = .ok (.lreturn, 1) := by decide +kernel
theorem dX1_lead_0 : decode cX1_lead 0 = .ok (.lconst 0, 1) := by decide +kernel
theorem dX1_lead_1 : decode cX1_lead 1 = .ok (.lstore_n 2, 1) := by decide +kernel
theorem dX1_lead_2 : decode cX1_lead 2 = .ok (.iconst 0, 1) := by decide +kernel
theorem dX1_lead_3 : decode cX1_lead 3 = .ok (.istore 4, 2) := by decide +kernel
theorem dX1_lead_5 : decode cX1_lead 5 = .ok (.iload 4, 2) := by decide +kernel
theorem dX1_lead_7 : decode cX1_lead 7 = .ok (.sipush 200, 3) := by decide +kernel
theorem dX1_lead_10 : decode cX1_lead 10 = .ok (.if_icmp .ge 45, 3) := by decide +kernel
theorem dX1_lead_13 : decode cX1_lead 13 = .ok (.aload_n 0, 1) := by decide +kernel
theorem dX1_lead_14 : decode cX1_lead 14 = .ok (.getfield 9, 3) := by decide +kernel
theorem dX1_lead_17 : decode cX1_lead 17 = .ok (.iload 4, 2) := by decide +kernel
theorem dX1_lead_19 : decode cX1_lead 19 = .ok (.baload, 1) := by decide +kernel
theorem dX1_lead_20 : decode cX1_lead 20 = .ok (.ifCond .eq 29, 3) := by decide +kernel
theorem dX1_lead_23 : decode cX1_lead 23 = .ok (.lload_n 2, 1) := by decide +kernel
theorem dX1_lead_24 : decode cX1_lead 24 = .ok (.aload_n 0, 1) := by decide +kernel
theorem dX1_lead_25 : decode cX1_lead 25 = .ok (.getfield 13, 3) := by decide +kernel
theorem dX1_lead_28 : decode cX1_lead 28 = .ok (.iload_n 1, 1) := by decide +kernel
theorem dX1_lead_29 : decode cX1_lead 29 = .ok (.laload, 1) := by decide +kernel
theorem dX1_lead_30 : decode cX1_lead 30 = .ok (.aload_n 0, 1) := by decide +kernel
theorem dX1_lead_31 : decode cX1_lead 31 = .ok (.getfield 13, 3) := by decide +kernel
theorem dX1_lead_34 : decode cX1_lead 34 = .ok (.iload 4, 2) := by decide +kernel
theorem dX1_lead_36 : decode cX1_lead 36 = .ok (.laload, 1) := by decide +kernel
theorem dX1_lead_37 : decode cX1_lead 37 = .ok (.lsub, 1) := by decide +kernel
theorem dX1_lead_38 : decode cX1_lead 38 = .ok (.aload_n 0, 1) := by decide +kernel
theorem dX1_lead_39 : decode cX1_lead 39 = .ok (.getfield 20, 3) := by decide +kernel
theorem dX1_lead_42 : decode cX1_lead 42 = .ok (.iload 4, 2) := by decide +kernel
theorem dX1_lead_44 : decode cX1_lead 44 = .ok (.iaload, 1) := by decide +kernel
theorem dX1_lead_45 : decode cX1_lead 45 = .ok (.i2l, 1) := by decide +kernel
theorem dX1_lead_46 : decode cX1_lead 46 = .ok (.lmul, 1) := by decide +kernel
theorem dX1_lead_47 : decode cX1_lead 47 = .ok (.ladd, 1) := by decide +kernel
theorem dX1_lead_48 : decode cX1_lead 48 = .ok (.lstore_n 2, 1) := by decide +kernel
theorem dX1_lead_49 : decode cX1_lead 49 = .ok (.iinc 4 1, 3) := by decide +kernel
theorem dX1_lead_52 : decode cX1_lead 52 = .ok (.goto (-47), 3) := by decide +kernel
theorem dX1_lead_55 : decode cX1_lead 55 = .ok (.lload_n 2, 1) := by decide +kernel
theorem dX1_lead_56 : decode cX1_lead 56 = .ok (.lreturn, 1) := by decide +kernel
theorem dX1_pick_0 : decode cX1_pick 0 = .ok (.aload_n 0, 1) := by decide +kernel
theorem dX1_pick_1 : decode cX1_pick 1 = .ok (.iconst 0, 1) := by decide +kernel
theorem dX1_pick_2 : decode cX1_pick 2 = .ok (.putfield 24, 3) := by decide +kernel
theorem dX1_pick_5 : decode cX1_pick 5 = .ok (.iconst (-1), 1) := by decide +kernel
theorem dX1_pick_6 : decode cX1_pick 6 = .ok (.istore_n 1, 1) := by decide +kernel
theorem dX1_pick_7 : decode cX1_pick 7 = .ok (.iconst 0, 1) := by decide +kernel
theorem dX1_pick_8 : decode cX1_pick 8 = .ok (.istore_n 2, 1) := by decide +kernel
theorem dX1_pick_9 : decode cX1_pick 9 = .ok (.iload_n 2, 1) := by decide +kernel
theorem dX1_pick_10 : decode cX1_pick 10 = .ok (.sipush 200, 3) := by decide +kernel
theorem dX1_pick_13 : decode cX1_pick 13 = .ok (.if_icmp .ge 51, 3) := by decide +kernel
theorem dX1_pick_16 : decode cX1_pick 16 = .ok (.aload_n 0, 1) := by decide +kernel
theorem dX1_pick_17 : decode cX1_pick 17 = .ok (.getfield 9, 3) := by decide +kernel
theorem dX1_pick_20 : decode cX1_pick 20 = .ok (.iload_n 2, 1) := by decide +kernel
theorem dX1_pick_21 : decode cX1_pick 21 = .ok (.baload, 1) := by decide +kernel
theorem dX1_pick_22 : decode cX1_pick 22 = .ok (.ifCond .eq 36, 3) := by decide +kernel
theorem dX1_pick_25 : decode cX1_pick 25 = .ok (.aload_n 0, 1) := by decide +kernel
theorem dX1_pick_26 : decode cX1_pick 26 = .ok (.iload_n 2, 1) := by decide +kernel
theorem dX1_pick_27 : decode cX1_pick 27 = .ok (.invokevirtual 75, 3) := by decide +kernel
theorem dX1_pick_30 : decode cX1_pick 30 = .ok (.lconst 0, 1) := by decide +kernel
theorem dX1_pick_31 : decode cX1_pick 31 = .ok (.lcmp, 1) := by decide +kernel
theorem dX1_pick_32 : decode cX1_pick 32 = .ok (.ifCond .gt 26, 3) := by decide +kernel
theorem dX1_pick_35 : decode cX1_pick 35 = .ok (.iload_n 1, 1) := by decide +kernel
theorem dX1_pick_36 : decode cX1_pick 36 = .ok (.iconst (-1), 1) := by decide +kernel
theorem dX1_pick_37 : decode cX1_pick 37 = .ok (.if_icmp .eq 19, 3) := by decide +kernel
theorem dX1_pick_40 : decode cX1_pick 40 = .ok (.aload_n 0, 1) := by decide +kernel
theorem dX1_pick_41 : decode cX1_pick 41 = .ok (.getfield 17, 3) := by decide +kernel
theorem dX1_pick_44 : decode cX1_pick 44 = .ok (.iload_n 2, 1) := by decide +kernel
theorem dX1_pick_45 : decode cX1_pick 45 = .ok (.laload, 1) := by decide +kernel
theorem dX1_pick_46 : decode cX1_pick 46 = .ok (.aload_n 0, 1) := by decide +kernel
theorem dX1_pick_47 : decode cX1_pick 47 = .ok (.getfield 17, 3) := by decide +kernel
theorem dX1_pick_50 : decode cX1_pick 50 = .ok (.iload_n 1, 1) := by decide +kernel
theorem dX1_pick_51 : decode cX1_pick 51 = .ok (.laload, 1) := by decide +kernel
theorem dX1_pick_52 : decode cX1_pick 52 = .ok (.lcmp, 1) := by decide +kernel
theorem dX1_pick_53 : decode cX1_pick 53 = .ok (.ifCond .ge 5, 3) := by decide +kernel
theorem dX1_pick_56 : decode cX1_pick 56 = .ok (.iload_n 2, 1) := by decide +kernel
theorem dX1_pick_57 : decode cX1_pick 57 = .ok (.istore_n 1, 1) := by decide +kernel
theorem dX1_pick_58 : decode cX1_pick 58 = .ok (.iinc 2 1, 3) := by decide +kernel
theorem dX1_pick_61 : decode cX1_pick 61 = .ok (.goto (-52), 3) := by decide +kernel
theorem dX1_pick_64 : decode cX1_pick 64 = .ok (.iload_n 1, 1) := by decide +kernel
theorem dX1_pick_65 : decode cX1_pick 65 = .ok (.iconst (-1), 1) := by decide +kernel
theorem dX1_pick_66 : decode cX1_pick 66 = .ok (.if_icmp .ne 11, 3) := by decide +kernel
theorem dX1_pick_69 : decode cX1_pick 69 = .ok (.aload_n 0, 1) := by decide +kernel
theorem dX1_pick_70 : decode cX1_pick 70 = .ok (.iconst 1, 1) := by decide +kernel
theorem dX1_pick_71 : decode cX1_pick 71 = .ok (.invokevirtual 52, 3) := by decide +kernel
theorem dX1_pick_74 : decode cX1_pick 74 = .ok (.goto 4, 3) := by decide +kernel
theorem dX1_pick_77 : decode cX1_pick 77 = .ok (.iload_n 1, 1) := by decide +kernel
theorem dX1_pick_78 : decode cX1_pick 78 = .ok (.ireturn, 1) := by decide +kernel
theorem dX1_ahead_0 : decode cX1_ahead 0 = .ok (.aload_n 0, 1) := by decide +kernel
theorem dX1_ahead_1 : decode cX1_ahead 1 = .ok (.iload_n 1, 1) := by decide +kernel
theorem dX1_ahead_2 : decode cX1_ahead 2 = .ok (.invokevirtual 36, 3) := by decide +kernel
theorem dX1_ahead_5 : decode cX1_ahead 5 = .ok (.ifCond .eq 7, 3) := by decide +kernel
theorem dX1_ahead_8 : decode cX1_ahead 8 = .ok (.lconst 0, 1) := by decide +kernel
theorem dX1_ahead_9 : decode cX1_ahead 9 = .ok (.goto 8, 3) := by decide +kernel
theorem dX1_ahead_12 : decode cX1_ahead 12 = .ok (.aload_n 0, 1) := by decide +kernel
theorem dX1_ahead_13 : decode cX1_ahead 13 = .ok (.iload_n 1, 1) := by decide +kernel
theorem dX1_ahead_14 : decode cX1_ahead 14 = .ok (.invokevirtual 75, 3) := by decide +kernel
theorem dX1_ahead_17 : decode cX1_ahead 17 = .ok (.lreturn, 1) := by decide +kernel
theorem dX1_weight_0 : decode cX1_weight 0 = .ok (.aload_n 0, 1) := by decide +kernel
theorem dX1_weight_1 : decode cX1_weight 1 = .ok (.iconst 0, 1) := by decide +kernel
theorem dX1_weight_2 : decode cX1_weight 2 = .ok (.putfield 24, 3) := by decide +kernel
theorem dX1_weight_5 : decode cX1_weight 5 = .ok (.iconst 0, 1) := by decide +kernel
theorem dX1_weight_6 : decode cX1_weight 6 = .ok (.istore_n 3, 1) := by decide +kernel
theorem dX1_weight_7 : decode cX1_weight 7 = .ok (.iconst 0, 1) := by decide +kernel
theorem dX1_weight_8 : decode cX1_weight 8 = .ok (.istore 4, 2) := by decide +kernel
theorem dX1_weight_10 : decode cX1_weight 10 = .ok (.iload 4, 2) := by decide +kernel
theorem dX1_weight_12 : decode cX1_weight 12 = .ok (.sipush 200, 3) := by decide +kernel
theorem dX1_weight_15 : decode cX1_weight 15 = .ok (.if_icmp .ge 41, 3) := by decide +kernel
theorem dX1_weight_18 : decode cX1_weight 18 = .ok (.aload_n 0, 1) := by decide +kernel
theorem dX1_weight_19 : decode cX1_weight 19 = .ok (.getfield 9, 3) := by decide +kernel
theorem dX1_weight_22 : decode cX1_weight 22 = .ok (.iload 4, 2) := by decide +kernel
theorem dX1_weight_24 : decode cX1_weight 24 = .ok (.baload, 1) := by decide +kernel
theorem dX1_weight_25 : decode cX1_weight 25 = .ok (.ifCond .eq 25, 3) := by decide +kernel
theorem dX1_weight_28 : decode cX1_weight 28 = .ok (.aload_n 0, 1) := by decide +kernel
theorem dX1_weight_29 : decode cX1_weight 29 = .ok (.getfield 13, 3) := by decide +kernel
theorem dX1_weight_32 : decode cX1_weight 32 = .ok (.iload 4, 2) := by decide +kernel
theorem dX1_weight_34 : decode cX1_weight 34 = .ok (.laload, 1) := by decide +kernel
theorem dX1_weight_35 : decode cX1_weight 35 = .ok (.lload_n 1, 1) := by decide +kernel
theorem dX1_weight_36 : decode cX1_weight 36 = .ok (.lcmp, 1) := by decide +kernel
theorem dX1_weight_37 : decode cX1_weight 37 = .ok (.ifCond .gt 13, 3) := by decide +kernel
theorem dX1_weight_40 : decode cX1_weight 40 = .ok (.iload_n 3, 1) := by decide +kernel
theorem dX1_weight_41 : decode cX1_weight 41 = .ok (.aload_n 0, 1) := by decide +kernel
theorem dX1_weight_42 : decode cX1_weight 42 = .ok (.getfield 20, 3) := by decide +kernel
theorem dX1_weight_45 : decode cX1_weight 45 = .ok (.iload 4, 2) := by decide +kernel
theorem dX1_weight_47 : decode cX1_weight 47 = .ok (.iaload, 1) := by decide +kernel
theorem dX1_weight_48 : decode cX1_weight 48 = .ok (.iadd, 1) := by decide +kernel
theorem dX1_weight_49 : decode cX1_weight 49 = .ok (.istore_n 3, 1) := by decide +kernel
theorem dX1_weight_50 : decode cX1_weight 50 = .ok (.iinc 4 1, 3) := by decide +kernel
theorem dX1_weight_53 : decode cX1_weight 53 = .ok (.goto (-43), 3) := by decide +kernel
theorem dX1_weight_56 : decode cX1_weight 56 = .ok (.iload_n 3, 1) := by decide +kernel
theorem dX1_weight_57 : decode cX1_weight 57 = .ok (.ireturn, 1) := by decide +kernel
theorem dX1_half_0 : decode cX1_half 0 = .ok (.aload_n 0, 1) := by decide +kernel
theorem dX1_half_1 : decode cX1_half 1 = .ok (.iconst 0, 1) := by decide +kernel
theorem dX1_half_2 : decode cX1_half 2 = .ok (.putfield 24, 3) := by decide +kernel
theorem dX1_half_5 : decode cX1_half 5 = .ok (.iconst (-1), 1) := by decide +kernel
theorem dX1_half_6 : decode cX1_half 6 = .ok (.istore_n 1, 1) := by decide +kernel
theorem dX1_half_7 : decode cX1_half 7 = .ok (.iconst 0, 1) := by decide +kernel
theorem dX1_half_8 : decode cX1_half 8 = .ok (.istore_n 2, 1) := by decide +kernel
theorem dX1_half_9 : decode cX1_half 9 = .ok (.iload_n 2, 1) := by decide +kernel
theorem dX1_half_10 : decode cX1_half 10 = .ok (.sipush 200, 3) := by decide +kernel
theorem dX1_half_13 : decode cX1_half 13 = .ok (.if_icmp .ge 106, 3) := by decide +kernel
theorem dX1_half_16 : decode cX1_half 16 = .ok (.aload_n 0, 1) := by decide +kernel
theorem dX1_half_17 : decode cX1_half 17 = .ok (.getfield 9, 3) := by decide +kernel
theorem dX1_half_20 : decode cX1_half 20 = .ok (.iload_n 2, 1) := by decide +kernel
theorem dX1_half_21 : decode cX1_half 21 = .ok (.baload, 1) := by decide +kernel
theorem dX1_half_22 : decode cX1_half 22 = .ok (.ifCond .ne 6, 3) := by decide +kernel
theorem dX1_half_25 : decode cX1_half 25 = .ok (.goto 88, 3) := by decide +kernel
theorem dX1_half_28 : decode cX1_half 28 = .ok (.aload_n 0, 1) := by decide +kernel
theorem dX1_half_29 : decode cX1_half 29 = .ok (.getfield 20, 3) := by decide +kernel
theorem dX1_half_32 : decode cX1_half 32 = .ok (.iload_n 2, 1) := by decide +kernel
theorem dX1_half_33 : decode cX1_half 33 = .ok (.iaload, 1) := by decide +kernel
theorem dX1_half_34 : decode cX1_half 34 = .ok (.i2l, 1) := by decide +kernel
theorem dX1_half_35 : decode cX1_half 35 = .ok (.lstore_n 3, 1) := by decide +kernel
theorem dX1_half_36 : decode cX1_half 36 = .ok (.iconst 0, 1) := by decide +kernel
theorem dX1_half_37 : decode cX1_half 37 = .ok (.istore 5, 2) := by decide +kernel
theorem dX1_half_39 : decode cX1_half 39 = .ok (.iload 5, 2) := by decide +kernel
theorem dX1_half_41 : decode cX1_half 41 = .ok (.sipush 200, 3) := by decide +kernel
theorem dX1_half_44 : decode cX1_half 44 = .ok (.if_icmp .ge 40, 3) := by decide +kernel
theorem dX1_half_47 : decode cX1_half 47 = .ok (.aload_n 0, 1) := by decide +kernel
theorem dX1_half_48 : decode cX1_half 48 = .ok (.getfield 9, 3) := by decide +kernel
theorem dX1_half_51 : decode cX1_half 51 = .ok (.iload 5, 2) := by decide +kernel
theorem dX1_half_53 : decode cX1_half 53 = .ok (.baload, 1) := by decide +kernel
theorem dX1_half_54 : decode cX1_half 54 = .ok (.ifCond .eq 24, 3) := by decide +kernel
theorem dX1_half_57 : decode cX1_half 57 = .ok (.aload_n 0, 1) := by decide +kernel
theorem dX1_half_58 : decode cX1_half 58 = .ok (.iload 5, 2) := by decide +kernel
theorem dX1_half_60 : decode cX1_half 60 = .ok (.iload_n 2, 1) := by decide +kernel
theorem dX1_half_61 : decode cX1_half 61 = .ok (.invokevirtual 62, 3) := by decide +kernel
theorem dX1_half_64 : decode cX1_half 64 = .ok (.ifCond .eq 14, 3) := by decide +kernel
theorem dX1_half_67 : decode cX1_half 67 = .ok (.lload_n 3, 1) := by decide +kernel
theorem dX1_half_68 : decode cX1_half 68 = .ok (.aload_n 0, 1) := by decide +kernel
theorem dX1_half_69 : decode cX1_half 69 = .ok (.getfield 20, 3) := by decide +kernel
theorem dX1_half_72 : decode cX1_half 72 = .ok (.iload 5, 2) := by decide +kernel
theorem dX1_half_74 : decode cX1_half 74 = .ok (.iaload, 1) := by decide +kernel
theorem dX1_half_75 : decode cX1_half 75 = .ok (.i2l, 1) := by decide +kernel
theorem dX1_half_76 : decode cX1_half 76 = .ok (.ladd, 1) := by decide +kernel
theorem dX1_half_77 : decode cX1_half 77 = .ok (.lstore_n 3, 1) := by decide +kernel
theorem dX1_half_78 : decode cX1_half 78 = .ok (.iinc 5 1, 3) := by decide +kernel
theorem dX1_half_81 : decode cX1_half 81 = .ok (.goto (-42), 3) := by decide +kernel
theorem dX1_half_84 : decode cX1_half 84 = .ok (.ldc2_w 79, 3) := by decide +kernel
theorem dX1_half_87 : decode cX1_half 87 = .ok (.lload_n 3, 1) := by decide +kernel
theorem dX1_half_88 : decode cX1_half 88 = .ok (.lmul, 1) := by decide +kernel
theorem dX1_half_89 : decode cX1_half 89 = .ok (.aload_n 0, 1) := by decide +kernel
theorem dX1_half_90 : decode cX1_half 90 = .ok (.invokevirtual 81, 3) := by decide +kernel
theorem dX1_half_93 : decode cX1_half 93 = .ok (.lcmp, 1) := by decide +kernel
theorem dX1_half_94 : decode cX1_half 94 = .ok (.ifCond .lt 19, 3) := by decide +kernel
theorem dX1_half_97 : decode cX1_half 97 = .ok (.iload_n 1, 1) := by decide +kernel
theorem dX1_half_98 : decode cX1_half 98 = .ok (.iconst (-1), 1) := by decide +kernel
theorem dX1_half_99 : decode cX1_half 99 = .ok (.if_icmp .eq 12, 3) := by decide +kernel
theorem dX1_half_102 : decode cX1_half 102 = .ok (.aload_n 0, 1) := by decide +kernel
theorem dX1_half_103 : decode cX1_half 103 = .ok (.iload_n 2, 1) := by decide +kernel
theorem dX1_half_104 : decode cX1_half 104 = .ok (.iload_n 1, 1) := by decide +kernel
theorem dX1_half_105 : decode cX1_half 105 = .ok (.invokevirtual 62, 3) := by decide +kernel
theorem dX1_half_108 : decode cX1_half 108 = .ok (.ifCond .eq 5, 3) := by decide +kernel
theorem dX1_half_111 : decode cX1_half 111 = .ok (.iload_n 2, 1) := by decide +kernel
theorem dX1_half_112 : decode cX1_half 112 = .ok (.istore_n 1, 1) := by decide +kernel
theorem dX1_half_113 : decode cX1_half 113 = .ok (.iinc 2 1, 3) := by decide +kernel
theorem dX1_half_116 : decode cX1_half 116 = .ok (.goto (-107), 3) := by decide +kernel
theorem dX1_half_119 : decode cX1_half 119 = .ok (.iload_n 1, 1) := by decide +kernel
theorem dX1_half_120 : decode cX1_half 120 = .ok (.iconst (-1), 1) := by decide +kernel
theorem dX1_half_121 : decode cX1_half 121 = .ok (.if_icmp .ne 11, 3) := by decide +kernel
theorem dX1_half_124 : decode cX1_half 124 = .ok (.aload_n 0, 1) := by decide +kernel
theorem dX1_half_125 : decode cX1_half 125 = .ok (.iconst 1, 1) := by decide +kernel
theorem dX1_half_126 : decode cX1_half 126 = .ok (.invokevirtual 52, 3) := by decide +kernel
theorem dX1_half_129 : decode cX1_half 129 = .ok (.goto 4, 3) := by decide +kernel
theorem dX1_half_132 : decode cX1_half 132 = .ok (.iload_n 1, 1) := by decide +kernel
theorem dX1_half_133 : decode cX1_half 133 = .ok (.ireturn, 1) := by decide +kernel
theorem dX1_nearest_0 : decode cX1_nearest 0 = .ok (.aload_n 0, 1) := by decide +kernel
theorem dX1_nearest_1 : decode cX1_nearest 1 = .ok (.aload_n 0, 1) := by decide +kernel
theorem dX1_nearest_2 : decode cX1_nearest 2 = .ok (.invokevirtual 32, 3) := by decide +kernel
theorem dX1_nearest_5 : decode cX1_nearest 5 = .ok (.iconst 2, 1) := by decide +kernel
theorem dX1_nearest_6 : decode cX1_nearest 6 = .ok (.if_icmp .ge 7, 3) := by decide +kernel
theorem dX1_nearest_9 : decode cX1_nearest 9 = .ok (.iconst 1, 1) := by decide +kernel
theorem dX1_nearest_10 : decode cX1_nearest 10 = .ok (.goto 4, 3) := by decide +kernel
theorem dX1_nearest_13 : decode cX1_nearest 13 = .ok (.iconst 0, 1) := by decide +kernel
theorem dX1_nearest_14 : decode cX1_nearest 14 = .ok (.putfield 24, 3) := by decide +kernel
theorem dX1_nearest_17 : decode cX1_nearest 17 = .ok (.ldc2_w 42, 3) := by decide +kernel
theorem dX1_nearest_20 : decode cX1_nearest 20 = .ok (.lstore_n 1, 1) := by decide +kernel
theorem dX1_nearest_21 : decode cX1_nearest 21 = .ok (.iconst 0, 1) := by decide +kernel
theorem dX1_nearest_22 : decode cX1_nearest 22 = .ok (.istore_n 3, 1) := by decide +kernel
theorem dX1_nearest_23 : decode cX1_nearest 23 = .ok (.iload_n 3, 1) := by decide +kernel
theorem dX1_nearest_24 : decode cX1_nearest 24 = .ok (.sipush 200, 3) := by decide +kernel
theorem dX1_nearest_27 : decode cX1_nearest 27 = .ok (.if_icmp .ge 103, 3) := by decide +kernel
theorem dX1_nearest_30 : decode cX1_nearest 30 = .ok (.aload_n 0, 1) := by decide +kernel
theorem dX1_nearest_31 : decode cX1_nearest 31 = .ok (.getfield 24, 3) := by decide +kernel
theorem dX1_nearest_34 : decode cX1_nearest 34 = .ok (.ifCond .ne 96, 3) := by decide +kernel
theorem dX1_nearest_37 : decode cX1_nearest 37 = .ok (.iconst 0, 1) := by decide +kernel
theorem dX1_nearest_38 : decode cX1_nearest 38 = .ok (.istore 4, 2) := by decide +kernel
theorem dX1_nearest_40 : decode cX1_nearest 40 = .ok (.iload 4, 2) := by decide +kernel
theorem dX1_nearest_42 : decode cX1_nearest 42 = .ok (.iload_n 3, 1) := by decide +kernel
theorem dX1_nearest_43 : decode cX1_nearest 43 = .ok (.if_icmp .ge 81, 3) := by decide +kernel
theorem dX1_nearest_46 : decode cX1_nearest 46 = .ok (.aload_n 0, 1) := by decide +kernel
theorem dX1_nearest_47 : decode cX1_nearest 47 = .ok (.getfield 9, 3) := by decide +kernel
theorem dX1_nearest_50 : decode cX1_nearest 50 = .ok (.iload_n 3, 1) := by decide +kernel
theorem dX1_nearest_51 : decode cX1_nearest 51 = .ok (.baload, 1) := by decide +kernel
theorem dX1_nearest_52 : decode cX1_nearest 52 = .ok (.ifCond .eq 72, 3) := by decide +kernel
theorem dX1_nearest_55 : decode cX1_nearest 55 = .ok (.aload_n 0, 1) := by decide +kernel
theorem dX1_nearest_56 : decode cX1_nearest 56 = .ok (.getfield 9, 3) := by decide +kernel
theorem dX1_nearest_59 : decode cX1_nearest 59 = .ok (.iload 4, 2) := by decide +kernel
theorem dX1_nearest_61 : decode cX1_nearest 61 = .ok (.baload, 1) := by decide +kernel
theorem dX1_nearest_62 : decode cX1_nearest 62 = .ok (.ifCond .eq 56, 3) := by decide +kernel
theorem dX1_nearest_65 : decode cX1_nearest 65 = .ok (.lload_n 1, 1) := by decide +kernel
theorem dX1_nearest_66 : decode cX1_nearest 66 = .ok (.aload_n 0, 1) := by decide +kernel
theorem dX1_nearest_67 : decode cX1_nearest 67 = .ok (.getfield 13, 3) := by decide +kernel
theorem dX1_nearest_70 : decode cX1_nearest 70 = .ok (.iload_n 3, 1) := by decide +kernel
theorem dX1_nearest_71 : decode cX1_nearest 71 = .ok (.laload, 1) := by decide +kernel
theorem dX1_nearest_72 : decode cX1_nearest 72 = .ok (.aload_n 0, 1) := by decide +kernel
theorem dX1_nearest_73 : decode cX1_nearest 73 = .ok (.getfield 13, 3) := by decide +kernel
theorem dX1_nearest_76 : decode cX1_nearest 76 = .ok (.iload 4, 2) := by decide +kernel
theorem dX1_nearest_78 : decode cX1_nearest 78 = .ok (.laload, 1) := by decide +kernel
theorem dX1_nearest_79 : decode cX1_nearest 79 = .ok (.lcmp, 1) := by decide +kernel
theorem dX1_nearest_80 : decode cX1_nearest 80 = .ok (.ifCond .ge 20, 3) := by decide +kernel
theorem dX1_nearest_83 : decode cX1_nearest 83 = .ok (.aload_n 0, 1) := by decide +kernel
theorem dX1_nearest_84 : decode cX1_nearest 84 = .ok (.getfield 13, 3) := by decide +kernel
theorem dX1_nearest_87 : decode cX1_nearest 87 = .ok (.iload 4, 2) := by decide +kernel
theorem dX1_nearest_89 : decode cX1_nearest 89 = .ok (.laload, 1) := by decide +kernel
theorem dX1_nearest_90 : decode cX1_nearest 90 = .ok (.aload_n 0, 1) := by decide +kernel
theorem dX1_nearest_91 : decode cX1_nearest 91 = .ok (.getfield 13, 3) := by decide +kernel
theorem dX1_nearest_94 : decode cX1_nearest 94 = .ok (.iload_n 3, 1) := by decide +kernel
theorem dX1_nearest_95 : decode cX1_nearest 95 = .ok (.laload, 1) := by decide +kernel
theorem dX1_nearest_96 : decode cX1_nearest 96 = .ok (.lsub, 1) := by decide +kernel
theorem dX1_nearest_97 : decode cX1_nearest 97 = .ok (.goto 17, 3) := by decide +kernel
theorem dX1_nearest_100 : decode cX1_nearest 100 = .ok (.aload_n 0, 1) := by decide +kernel
theorem dX1_nearest_101 : decode cX1_nearest 101 = .ok (.getfield 13, 3) := by decide +kernel
theorem dX1_nearest_104 : decode cX1_nearest 104 = .ok (.iload_n 3, 1) := by decide +kernel
theorem dX1_nearest_105 : decode cX1_nearest 105 = .ok (.laload, 1) := by decide +kernel
theorem dX1_nearest_106 : decode cX1_nearest 106 = .ok (.aload_n 0, 1) := by decide +kernel
theorem dX1_nearest_107 : decode cX1_nearest 107 = .ok (.getfield 13, 3) := by decide +kernel
theorem dX1_nearest_110 : decode cX1_nearest 110 = .ok (.iload 4, 2) := by decide +kernel
theorem dX1_nearest_112 : decode cX1_nearest 112 = .ok (.laload, 1) := by decide +kernel
theorem dX1_nearest_113 : decode cX1_nearest 113 = .ok (.lsub, 1) := by decide +kernel
theorem dX1_nearest_114 : decode cX1_nearest 114 = .ok (.invokestatic 56, 3) := by decide +kernel
theorem dX1_nearest_117 : decode cX1_nearest 117 = .ok (.lstore_n 1, 1) := by decide +kernel
theorem dX1_nearest_118 : decode cX1_nearest 118 = .ok (.iinc 4 1, 3) := by decide +kernel
theorem dX1_nearest_121 : decode cX1_nearest 121 = .ok (.goto (-81), 3) := by decide +kernel
theorem dX1_nearest_124 : decode cX1_nearest 124 = .ok (.iinc 3 1, 3) := by decide +kernel
theorem dX1_nearest_127 : decode cX1_nearest 127 = .ok (.goto (-104), 3) := by decide +kernel
theorem dX1_nearest_130 : decode cX1_nearest 130 = .ok (.aload_n 0, 1) := by decide +kernel
theorem dX1_nearest_131 : decode cX1_nearest 131 = .ok (.getfield 24, 3) := by decide +kernel
theorem dX1_nearest_134 : decode cX1_nearest 134 = .ok (.ifCond .le 7, 3) := by decide +kernel
theorem dX1_nearest_137 : decode cX1_nearest 137 = .ok (.lconst 0, 1) := by decide +kernel
theorem dX1_nearest_138 : decode cX1_nearest 138 = .ok (.goto 4, 3) := by decide +kernel
theorem dX1_nearest_141 : decode cX1_nearest 141 = .ok (.lload_n 1, 1) := by decide +kernel
theorem dX1_nearest_142 : decode cX1_nearest 142 = .ok (.lreturn, 1) := by decide +kernel
theorem dX1_cut_0 : decode cX1_cut 0 = .ok (.aload_n 0, 1) := by decide +kernel
theorem dX1_cut_1 : decode cX1_cut 1 = .ok (.iconst 0, 1) := by decide +kernel
theorem dX1_cut_2 : decode cX1_cut 2 = .ok (.putfield 24, 3) := by decide +kernel
theorem dX1_cut_5 : decode cX1_cut 5 = .ok (.iconst 0, 1) := by decide +kernel
theorem dX1_cut_6 : decode cX1_cut 6 = .ok (.istore 5, 2) := by decide +kernel
theorem dX1_cut_8 : decode cX1_cut 8 = .ok (.iconst 0, 1) := by decide +kernel
theorem dX1_cut_9 : decode cX1_cut 9 = .ok (.istore 6, 2) := by decide +kernel
theorem dX1_cut_11 : decode cX1_cut 11 = .ok (.iload 6, 2) := by decide +kernel
theorem dX1_cut_13 : decode cX1_cut 13 = .ok (.sipush 200, 3) := by decide +kernel
theorem dX1_cut_16 : decode cX1_cut 16 = .ok (.if_icmp .ge 57, 3) := by decide +kernel
theorem dX1_cut_19 : decode cX1_cut 19 = .ok (.aload_n 0, 1) := by decide +kernel
theorem dX1_cut_20 : decode cX1_cut 20 = .ok (.getfield 9, 3) := by decide +kernel
theorem dX1_cut_23 : decode cX1_cut 23 = .ok (.iload 6, 2) := by decide +kernel
theorem dX1_cut_25 : decode cX1_cut 25 = .ok (.baload, 1) := by decide +kernel
theorem dX1_cut_26 : decode cX1_cut 26 = .ok (.ifCond .eq 41, 3) := by decide +kernel
theorem dX1_cut_29 : decode cX1_cut 29 = .ok (.aload_n 0, 1) := by decide +kernel
theorem dX1_cut_30 : decode cX1_cut 30 = .ok (.getfield 13, 3) := by decide +kernel
theorem dX1_cut_33 : decode cX1_cut 33 = .ok (.iload 6, 2) := by decide +kernel
theorem dX1_cut_35 : decode cX1_cut 35 = .ok (.laload, 1) := by decide +kernel
theorem dX1_cut_36 : decode cX1_cut 36 = .ok (.lload_n 1, 1) := by decide +kernel
theorem dX1_cut_37 : decode cX1_cut 37 = .ok (.lcmp, 1) := by decide +kernel
theorem dX1_cut_38 : decode cX1_cut 38 = .ok (.ifCond .lt 29, 3) := by decide +kernel
theorem dX1_cut_41 : decode cX1_cut 41 = .ok (.aload_n 0, 1) := by decide +kernel
theorem dX1_cut_42 : decode cX1_cut 42 = .ok (.getfield 13, 3) := by decide +kernel
theorem dX1_cut_45 : decode cX1_cut 45 = .ok (.iload 6, 2) := by decide +kernel
theorem dX1_cut_47 : decode cX1_cut 47 = .ok (.laload, 1) := by decide +kernel
theorem dX1_cut_48 : decode cX1_cut 48 = .ok (.lload_n 3, 1) := by decide +kernel
theorem dX1_cut_49 : decode cX1_cut 49 = .ok (.lcmp, 1) := by decide +kernel
theorem dX1_cut_50 : decode cX1_cut 50 = .ok (.ifCond .le 6, 3) := by decide +kernel
theorem dX1_cut_53 : decode cX1_cut 53 = .ok (.goto 14, 3) := by decide +kernel
theorem dX1_cut_56 : decode cX1_cut 56 = .ok (.aload_n 0, 1) := by decide +kernel
theorem dX1_cut_57 : decode cX1_cut 57 = .ok (.getfield 9, 3) := by decide +kernel
theorem dX1_cut_60 : decode cX1_cut 60 = .ok (.iload 6, 2) := by decide +kernel
theorem dX1_cut_62 : decode cX1_cut 62 = .ok (.iconst 0, 1) := by decide +kernel
theorem dX1_cut_63 : decode cX1_cut 63 = .ok (.bastore, 1) := by decide +kernel
theorem dX1_cut_64 : decode cX1_cut 64 = .ok (.iinc 5 1, 3) := by decide +kernel
theorem dX1_cut_67 : decode cX1_cut 67 = .ok (.iinc 6 1, 3) := by decide +kernel
theorem dX1_cut_70 : decode cX1_cut 70 = .ok (.goto (-59), 3) := by decide +kernel
theorem dX1_cut_73 : decode cX1_cut 73 = .ok (.iload 5, 2) := by decide +kernel
theorem dX1_cut_75 : decode cX1_cut 75 = .ok (.ireturn, 1) := by decide +kernel
theorem dX1_count_0 : decode cX1_count 0 = .ok (.aload_n 0, 1) := by decide +kernel
theorem dX1_count_1 : decode cX1_count 1 = .ok (.iconst 0, 1) := by decide +kernel
theorem dX1_count_2 : decode cX1_count 2 = .ok (.putfield 24, 3) := by decide +kernel
theorem dX1_count_5 : decode cX1_count 5 = .ok (.iload_n 1, 1) := by decide +kernel
theorem dX1_count_6 : decode cX1_count 6 = .ok (.ifCond .ne 8, 3) := by decide +kernel
theorem dX1_count_9 : decode cX1_count 9 = .ok (.aload_n 0, 1) := by decide +kernel
theorem dX1_count_10 : decode cX1_count 10 = .ok (.invokevirtual 32, 3) := by decide +kernel
theorem dX1_count_13 : decode cX1_count 13 = .ok (.ireturn, 1) := by decide +kernel
theorem dX1_count_14 : decode cX1_count 14 = .ok (.iload_n 1, 1) := by decide +kernel
theorem dX1_count_15 : decode cX1_count 15 = .ok (.iconst 1, 1) := by decide +kernel
theorem dX1_count_16 : decode cX1_count 16 = .ok (.if_icmp .ne 9, 3) := by decide +kernel
theorem dX1_count_19 : decode cX1_count 19 = .ok (.aload_n 0, 1) := by decide +kernel
theorem dX1_count_20 : decode cX1_count 20 = .ok (.invokevirtual 81, 3) := by decide +kernel
theorem dX1_count_23 : decode cX1_count 23 = .ok (.l2i, 1) := by decide +kernel
theorem dX1_count_24 : decode cX1_count 24 = .ok (.ireturn, 1) := by decide +kernel
theorem dX1_count_25 : decode cX1_count 25 = .ok (.iload_n 1, 1) := by decide +kernel
theorem dX1_count_26 : decode cX1_count 26 = .ok (.iconst 2, 1) := by decide +kernel
theorem dX1_count_27 : decode cX1_count 27 = .ok (.if_icmp .eq 5, 3) := by decide +kernel
theorem dX1_count_30 : decode cX1_count 30 = .ok (.iconst (-1), 1) := by decide +kernel
theorem dX1_count_31 : decode cX1_count 31 = .ok (.ireturn, 1) := by decide +kernel
theorem dX1_count_32 : decode cX1_count 32 = .ok (.iconst 0, 1) := by decide +kernel
theorem dX1_count_33 : decode cX1_count 33 = .ok (.istore_n 2, 1) := by decide +kernel
theorem dX1_count_34 : decode cX1_count 34 = .ok (.iconst 0, 1) := by decide +kernel
theorem dX1_count_35 : decode cX1_count 35 = .ok (.istore_n 3, 1) := by decide +kernel
theorem dX1_count_36 : decode cX1_count 36 = .ok (.iload_n 3, 1) := by decide +kernel
theorem dX1_count_37 : decode cX1_count 37 = .ok (.sipush 200, 3) := by decide +kernel
theorem dX1_count_40 : decode cX1_count 40 = .ok (.if_icmp .ge 31, 3) := by decide +kernel
theorem dX1_count_43 : decode cX1_count 43 = .ok (.aload_n 0, 1) := by decide +kernel
theorem dX1_count_44 : decode cX1_count 44 = .ok (.getfield 9, 3) := by decide +kernel
theorem dX1_count_47 : decode cX1_count 47 = .ok (.iload_n 3, 1) := by decide +kernel
theorem dX1_count_48 : decode cX1_count 48 = .ok (.baload, 1) := by decide +kernel
theorem dX1_count_49 : decode cX1_count 49 = .ok (.ifCond .eq 16, 3) := by decide +kernel
theorem dX1_count_52 : decode cX1_count 52 = .ok (.aload_n 0, 1) := by decide +kernel
theorem dX1_count_53 : decode cX1_count 53 = .ok (.iload_n 3, 1) := by decide +kernel
theorem dX1_count_54 : decode cX1_count 54 = .ok (.invokevirtual 75, 3) := by decide +kernel
theorem dX1_count_57 : decode cX1_count 57 = .ok (.lconst 0, 1) := by decide +kernel
theorem dX1_count_58 : decode cX1_count 58 = .ok (.lcmp, 1) := by decide +kernel
theorem dX1_count_59 : decode cX1_count 59 = .ok (.ifCond .gt 6, 3) := by decide +kernel
theorem dX1_count_62 : decode cX1_count 62 = .ok (.iinc 2 1, 3) := by decide +kernel
theorem dX1_count_65 : decode cX1_count 65 = .ok (.iinc 3 1, 3) := by decide +kernel
theorem dX1_count_68 : decode cX1_count 68 = .ok (.goto (-32), 3) := by decide +kernel
theorem dX1_count_71 : decode cX1_count 71 = .ok (.iload_n 2, 1) := by decide +kernel
theorem dX1_count_72 : decode cX1_count 72 = .ok (.ireturn, 1) := by decide +kernel
end
section
theorem dL_put_0 : decode cL_put 0 = .ok (.aload 7, 2) := by decide +kernel
theorem dL_put_2 : decode cL_put 2 = .ok (.iconst 0, 1) := by decide +kernel
theorem dL_put_3 : decode cL_put 3 = .ok (.aload_n 0, 1) := by decide +kernel
theorem dL_put_4 : decode cL_put 4 = .ok (.iload_n 1, 1) := by decide +kernel
theorem dL_put_5 : decode cL_put 5 = .ok (.lload_n 2, 1) := by decide +kernel
theorem dL_put_6 : decode cL_put 6 = .ok (.lload 4, 2) := by decide +kernel
theorem dL_put_8 : decode cL_put 8 = .ok (.iload 6, 2) := by decide +kernel
theorem dL_put_10 : decode cL_put 10 = .ok (.invokevirtual 7, 3) := by decide +kernel
theorem dL_put_13 : decode cL_put 13 = .ok (.i2l, 1) := by decide +kernel
theorem dL_put_14 : decode cL_put 14 = .ok (.lastore, 1) := by decide +kernel
theorem dL_put_15 : decode cL_put 15 = .ok (.goto 7, 3) := by decide +kernel
theorem dL_put_18 : decode cL_put 18 = .ok (.astore 8, 2) := by decide +kernel
theorem dL_put_20 : decode cL_put 20 = .ok (.iconst 1, 1) := by decide +kernel
theorem dL_put_21 : decode cL_put 21 = .ok (.ireturn, 1) := by decide +kernel
theorem dL_put_22 : decode cL_put 22 = .ok (.iconst 0, 1) := by decide +kernel
theorem dL_put_23 : decode cL_put 23 = .ok (.ireturn, 1) := by decide +kernel
theorem dL_drop_0 : decode cL_drop 0 = .ok (.aload_n 2, 1) := by decide +kernel
theorem dL_drop_1 : decode cL_drop 1 = .ok (.iconst 0, 1) := by decide +kernel
theorem dL_drop_2 : decode cL_drop 2 = .ok (.aload_n 0, 1) := by decide +kernel
theorem dL_drop_3 : decode cL_drop 3 = .ok (.iload_n 1, 1) := by decide +kernel
theorem dL_drop_4 : decode cL_drop 4 = .ok (.invokevirtual 15, 3) := by decide +kernel
theorem dL_drop_7 : decode cL_drop 7 = .ok (.i2l, 1) := by decide +kernel
theorem dL_drop_8 : decode cL_drop 8 = .ok (.lastore, 1) := by decide +kernel
theorem dL_drop_9 : decode cL_drop 9 = .ok (.goto 6, 3) := by decide +kernel
theorem dL_drop_12 : decode cL_drop 12 = .ok (.astore_n 3, 1) := by decide +kernel
theorem dL_drop_13 : decode cL_drop 13 = .ok (.iconst 1, 1) := by decide +kernel
theorem dL_drop_14 : decode cL_drop 14 = .ok (.ireturn, 1) := by decide +kernel
theorem dL_drop_15 : decode cL_drop 15 = .ok (.iconst 0, 1) := by decide +kernel
theorem dL_drop_16 : decode cL_drop 16 = .ok (.ireturn, 1) := by decide +kernel
theorem dL_slide_0 : decode cL_slide 0 = .ok (.aload_n 3, 1) := by decide +kernel
theorem dL_slide_1 : decode cL_slide 1 = .ok (.iconst 0, 1) := by decide +kernel
theorem dL_slide_2 : decode cL_slide 2 = .ok (.aload_n 0, 1) := by decide +kernel
theorem dL_slide_3 : decode cL_slide 3 = .ok (.lload_n 1, 1) := by decide +kernel
theorem dL_slide_4 : decode cL_slide 4 = .ok (.invokevirtual 21, 3) := by decide +kernel
theorem dL_slide_7 : decode cL_slide 7 = .ok (.lastore, 1) := by decide +kernel
theorem dL_slide_8 : decode cL_slide 8 = .ok (.goto 11, 3) := by decide +kernel
theorem dL_slide_11 : decode cL_slide 11 = .ok (.astore 4, 2) := by decide +kernel
theorem dL_slide_13 : decode cL_slide 13 = .ok (.iconst 1, 1) := by decide +kernel
theorem dL_slide_14 : decode cL_slide 14 = .ok (.ireturn, 1) := by decide +kernel
theorem dL_slide_15 : decode cL_slide 15 = .ok (.astore 4, 2) := by decide +kernel
theorem dL_slide_17 : decode cL_slide 17 = .ok (.iconst 2, 1) := by decide +kernel
theorem dL_slide_18 : decode cL_slide 18 = .ok (.ireturn, 1) := by decide +kernel
theorem dL_slide_19 : decode cL_slide 19 = .ok (.iconst 0, 1) := by decide +kernel
theorem dL_slide_20 : decode cL_slide 20 = .ok (.ireturn, 1) := by decide +kernel
theorem dL_told_0 : decode cL_told 0 = .ok (.aload_n 3, 1) := by decide +kernel
theorem dL_told_1 : decode cL_told 1 = .ok (.iconst 0, 1) := by decide +kernel
theorem dL_told_2 : decode cL_told 2 = .ok (.aload_n 0, 1) := by decide +kernel
theorem dL_told_3 : decode cL_told 3 = .ok (.iload_n 1, 1) := by decide +kernel
theorem dL_told_4 : decode cL_told 4 = .ok (.iload_n 2, 1) := by decide +kernel
theorem dL_told_5 : decode cL_told 5 = .ok (.invokevirtual 25, 3) := by decide +kernel
theorem dL_told_8 : decode cL_told 8 = .ok (.lastore, 1) := by decide +kernel
theorem dL_told_9 : decode cL_told 9 = .ok (.goto 11, 3) := by decide +kernel
theorem dL_told_12 : decode cL_told 12 = .ok (.astore 4, 2) := by decide +kernel
theorem dL_told_14 : decode cL_told 14 = .ok (.iconst 1, 1) := by decide +kernel
theorem dL_told_15 : decode cL_told 15 = .ok (.ireturn, 1) := by decide +kernel
theorem dL_told_16 : decode cL_told 16 = .ok (.astore 4, 2) := by decide +kernel
theorem dL_told_18 : decode cL_told 18 = .ok (.iconst 2, 1) := by decide +kernel
theorem dL_told_19 : decode cL_told 19 = .ok (.ireturn, 1) := by decide +kernel
theorem dL_told_20 : decode cL_told 20 = .ok (.iconst 0, 1) := by decide +kernel
theorem dL_told_21 : decode cL_told 21 = .ok (.ireturn, 1) := by decide +kernel
theorem dL_at_0 : decode cL_at 0 = .ok (.aload_n 2, 1) := by decide +kernel
theorem dL_at_1 : decode cL_at 1 = .ok (.iconst 0, 1) := by decide +kernel
theorem dL_at_2 : decode cL_at 2 = .ok (.aload_n 0, 1) := by decide +kernel
theorem dL_at_3 : decode cL_at 3 = .ok (.iload_n 1, 1) := by decide +kernel
theorem dL_at_4 : decode cL_at 4 = .ok (.invokevirtual 29, 3) := by decide +kernel
theorem dL_at_7 : decode cL_at 7 = .ok (.i2l, 1) := by decide +kernel
theorem dL_at_8 : decode cL_at 8 = .ok (.lastore, 1) := by decide +kernel
theorem dL_at_9 : decode cL_at 9 = .ok (.goto 6, 3) := by decide +kernel
theorem dL_at_12 : decode cL_at 12 = .ok (.astore_n 3, 1) := by decide +kernel
theorem dL_at_13 : decode cL_at 13 = .ok (.iconst 1, 1) := by decide +kernel
theorem dL_at_14 : decode cL_at 14 = .ok (.ireturn, 1) := by decide +kernel
theorem dL_at_15 : decode cL_at 15 = .ok (.iconst 0, 1) := by decide +kernel
theorem dL_at_16 : decode cL_at 16 = .ok (.ireturn, 1) := by decide +kernel
theorem dL_rank_0 : decode cL_rank 0 = .ok (.aload_n 2, 1) := by decide +kernel
theorem dL_rank_1 : decode cL_rank 1 = .ok (.iconst 0, 1) := by decide +kernel
theorem dL_rank_2 : decode cL_rank 2 = .ok (.aload_n 0, 1) := by decide +kernel
theorem dL_rank_3 : decode cL_rank 3 = .ok (.iload_n 1, 1) := by decide +kernel
theorem dL_rank_4 : decode cL_rank 4 = .ok (.invokevirtual 32, 3) := by decide +kernel
theorem dL_rank_7 : decode cL_rank 7 = .ok (.i2l, 1) := by decide +kernel
theorem dL_rank_8 : decode cL_rank 8 = .ok (.lastore, 1) := by decide +kernel
theorem dL_rank_9 : decode cL_rank 9 = .ok (.goto 6, 3) := by decide +kernel
theorem dL_rank_12 : decode cL_rank 12 = .ok (.astore_n 3, 1) := by decide +kernel
theorem dL_rank_13 : decode cL_rank 13 = .ok (.iconst 1, 1) := by decide +kernel
theorem dL_rank_14 : decode cL_rank 14 = .ok (.ireturn, 1) := by decide +kernel
theorem dL_rank_15 : decode cL_rank 15 = .ok (.iconst 0, 1) := by decide +kernel
theorem dL_rank_16 : decode cL_rank 16 = .ok (.ireturn, 1) := by decide +kernel
theorem dL_earliest_0 : decode cL_earliest 0 = .ok (.aload_n 3, 1) := by decide +kernel
theorem dL_earliest_1 : decode cL_earliest 1 = .ok (.iconst 0, 1) := by decide +kernel
theorem dL_earliest_2 : decode cL_earliest 2 = .ok (.aload_n 0, 1) := by decide +kernel
theorem dL_earliest_3 : decode cL_earliest 3 = .ok (.lload_n 1, 1) := by decide +kernel
theorem dL_earliest_4 : decode cL_earliest 4 = .ok (.invokevirtual 35, 3) := by decide +kernel
theorem dL_earliest_7 : decode cL_earliest 7 = .ok (.i2l, 1) := by decide +kernel
theorem dL_earliest_8 : decode cL_earliest 8 = .ok (.lastore, 1) := by decide +kernel
theorem dL_earliest_9 : decode cL_earliest 9 = .ok (.goto 7, 3) := by decide +kernel
theorem dL_earliest_12 : decode cL_earliest 12 = .ok (.astore 4, 2) := by decide +kernel
theorem dL_earliest_14 : decode cL_earliest 14 = .ok (.iconst 1, 1) := by decide +kernel
theorem dL_earliest_15 : decode cL_earliest 15 = .ok (.ireturn, 1) := by decide +kernel
theorem dL_earliest_16 : decode cL_earliest 16 = .ok (.iconst 0, 1) := by decide +kernel
theorem dL_earliest_17 : decode cL_earliest 17 = .ok (.ireturn, 1) := by decide +kernel
theorem dL_between_0 : decode cL_between 0 = .ok (.aload 5, 2) := by decide +kernel
theorem dL_between_2 : decode cL_between 2 = .ok (.iconst 0, 1) := by decide +kernel
theorem dL_between_3 : decode cL_between 3 = .ok (.aload_n 0, 1) := by decide +kernel
theorem dL_between_4 : decode cL_between 4 = .ok (.lload_n 1, 1) := by decide +kernel
theorem dL_between_5 : decode cL_between 5 = .ok (.lload_n 3, 1) := by decide +kernel
theorem dL_between_6 : decode cL_between 6 = .ok (.invokevirtual 39, 3) := by decide +kernel
theorem dL_between_9 : decode cL_between 9 = .ok (.i2l, 1) := by decide +kernel
theorem dL_between_10 : decode cL_between 10 = .ok (.lastore, 1) := by decide +kernel
theorem dL_between_11 : decode cL_between 11 = .ok (.goto 7, 3) := by decide +kernel
theorem dL_between_14 : decode cL_between 14 = .ok (.astore 6, 2) := by decide +kernel
theorem dL_between_16 : decode cL_between 16 = .ok (.iconst 1, 1) := by decide +kernel
theorem dL_between_17 : decode cL_between 17 = .ok (.ireturn, 1) := by decide +kernel
theorem dL_between_18 : decode cL_between 18 = .ok (.iconst 0, 1) := by decide +kernel
theorem dL_between_19 : decode cL_between 19 = .ok (.ireturn, 1) := by decide +kernel
theorem dL_pick_0 : decode cL_pick 0 = .ok (.aload_n 1, 1) := by decide +kernel
theorem dL_pick_1 : decode cL_pick 1 = .ok (.iconst 0, 1) := by decide +kernel
theorem dL_pick_2 : decode cL_pick 2 = .ok (.aload_n 0, 1) := by decide +kernel
theorem dL_pick_3 : decode cL_pick 3 = .ok (.invokevirtual 43, 3) := by decide +kernel
theorem dL_pick_6 : decode cL_pick 6 = .ok (.i2l, 1) := by decide +kernel
theorem dL_pick_7 : decode cL_pick 7 = .ok (.lastore, 1) := by decide +kernel
theorem dL_pick_8 : decode cL_pick 8 = .ok (.goto 6, 3) := by decide +kernel
theorem dL_pick_11 : decode cL_pick 11 = .ok (.astore_n 2, 1) := by decide +kernel
theorem dL_pick_12 : decode cL_pick 12 = .ok (.iconst 1, 1) := by decide +kernel
theorem dL_pick_13 : decode cL_pick 13 = .ok (.ireturn, 1) := by decide +kernel
theorem dL_pick_14 : decode cL_pick 14 = .ok (.iconst 0, 1) := by decide +kernel
theorem dL_pick_15 : decode cL_pick 15 = .ok (.ireturn, 1) := by decide +kernel
theorem dL_ahead_0 : decode cL_ahead 0 = .ok (.aload_n 2, 1) := by decide +kernel
theorem dL_ahead_1 : decode cL_ahead 1 = .ok (.iconst 0, 1) := by decide +kernel
theorem dL_ahead_2 : decode cL_ahead 2 = .ok (.aload_n 0, 1) := by decide +kernel
theorem dL_ahead_3 : decode cL_ahead 3 = .ok (.iload_n 1, 1) := by decide +kernel
theorem dL_ahead_4 : decode cL_ahead 4 = .ok (.invokevirtual 47, 3) := by decide +kernel
theorem dL_ahead_7 : decode cL_ahead 7 = .ok (.lastore, 1) := by decide +kernel
theorem dL_ahead_8 : decode cL_ahead 8 = .ok (.goto 6, 3) := by decide +kernel
theorem dL_ahead_11 : decode cL_ahead 11 = .ok (.astore_n 3, 1) := by decide +kernel
theorem dL_ahead_12 : decode cL_ahead 12 = .ok (.iconst 1, 1) := by decide +kernel
theorem dL_ahead_13 : decode cL_ahead 13 = .ok (.ireturn, 1) := by decide +kernel
theorem dL_ahead_14 : decode cL_ahead 14 = .ok (.iconst 0, 1) := by decide +kernel
theorem dL_ahead_15 : decode cL_ahead 15 = .ok (.ireturn, 1) := by decide +kernel
theorem dL_half_0 : decode cL_half 0 = .ok (.aload_n 1, 1) := by decide +kernel
theorem dL_half_1 : decode cL_half 1 = .ok (.iconst 0, 1) := by decide +kernel
theorem dL_half_2 : decode cL_half 2 = .ok (.aload_n 0, 1) := by decide +kernel
theorem dL_half_3 : decode cL_half 3 = .ok (.invokevirtual 51, 3) := by decide +kernel
theorem dL_half_6 : decode cL_half 6 = .ok (.i2l, 1) := by decide +kernel
theorem dL_half_7 : decode cL_half 7 = .ok (.lastore, 1) := by decide +kernel
theorem dL_half_8 : decode cL_half 8 = .ok (.goto 6, 3) := by decide +kernel
theorem dL_half_11 : decode cL_half 11 = .ok (.astore_n 2, 1) := by decide +kernel
theorem dL_half_12 : decode cL_half 12 = .ok (.iconst 1, 1) := by decide +kernel
theorem dL_half_13 : decode cL_half 13 = .ok (.ireturn, 1) := by decide +kernel
theorem dL_half_14 : decode cL_half 14 = .ok (.iconst 0, 1) := by decide +kernel
theorem dL_half_15 : decode cL_half 15 = .ok (.ireturn, 1) := by decide +kernel
theorem dL_nearest_0 : decode cL_nearest 0 = .ok (.aload_n 1, 1) := by decide +kernel
theorem dL_nearest_1 : decode cL_nearest 1 = .ok (.iconst 0, 1) := by decide +kernel
theorem dL_nearest_2 : decode cL_nearest 2 = .ok (.aload_n 0, 1) := by decide +kernel
theorem dL_nearest_3 : decode cL_nearest 3 = .ok (.invokevirtual 54, 3) := by decide +kernel
theorem dL_nearest_6 : decode cL_nearest 6 = .ok (.lastore, 1) := by decide +kernel
theorem dL_nearest_7 : decode cL_nearest 7 = .ok (.goto 6, 3) := by decide +kernel
theorem dL_nearest_10 : decode cL_nearest 10 = .ok (.astore_n 2, 1) := by decide +kernel
theorem dL_nearest_11 : decode cL_nearest 11 = .ok (.iconst 1, 1) := by decide +kernel
theorem dL_nearest_12 : decode cL_nearest 12 = .ok (.ireturn, 1) := by decide +kernel
theorem dL_nearest_13 : decode cL_nearest 13 = .ok (.iconst 0, 1) := by decide +kernel
theorem dL_nearest_14 : decode cL_nearest 14 = .ok (.ireturn, 1) := by decide +kernel
theorem dL_law_0 : decode cL_law 0 = .ok (.new 8, 3) := by decide +kernel
theorem dL_law_3 : decode cL_law 3 = .ok (.dup, 1) := by decide +kernel
theorem dL_law_4 : decode cL_law 4 = .ok (.invokespecial 58, 3) := by decide +kernel
theorem dL_law_7 : decode cL_law 7 = .ok (.astore_n 1, 1) := by decide +kernel
theorem dL_law_8 : decode cL_law 8 = .ok (.new 59, 3) := by decide +kernel
theorem dL_law_11 : decode cL_law 11 = .ok (.dup, 1) := by decide +kernel
theorem dL_law_12 : decode cL_law 12 = .ok (.invokespecial 61, 3) := by decide +kernel
theorem dL_law_15 : decode cL_law 15 = .ok (.astore_n 2, 1) := by decide +kernel
theorem dL_law_16 : decode cL_law 16 = .ok (.iconst 1, 1) := by decide +kernel
theorem dL_law_17 : decode cL_law 17 = .ok (.newarray .long, 2) := by decide +kernel
theorem dL_law_19 : decode cL_law 19 = .ok (.astore_n 3, 1) := by decide +kernel
theorem dL_law_20 : decode cL_law 20 = .ok (.iconst 0, 1) := by decide +kernel
theorem dL_law_21 : decode cL_law 21 = .ok (.istore 4, 2) := by decide +kernel
theorem dL_law_23 : decode cL_law 23 = .ok (.iload 4, 2) := by decide +kernel
theorem dL_law_25 : decode cL_law 25 = .ok (.aload_n 0, 1) := by decide +kernel
theorem dL_law_26 : decode cL_law 26 = .ok (.arraylength, 1) := by decide +kernel
theorem dL_law_27 : decode cL_law 27 = .ok (.bipush 7, 2) := by decide +kernel
theorem dL_law_29 : decode cL_law 29 = .ok (.isub, 1) := by decide +kernel
theorem dL_law_30 : decode cL_law 30 = .ok (.if_icmp .gt 1161, 3) := by decide +kernel
theorem dL_law_33 : decode cL_law 33 = .ok (.aload_n 0, 1) := by decide +kernel
theorem dL_law_34 : decode cL_law 34 = .ok (.iload 4, 2) := by decide +kernel
theorem dL_law_36 : decode cL_law 36 = .ok (.iaload, 1) := by decide +kernel
theorem dL_law_37 : decode cL_law 37 = .ok (.bipush 15, 2) := by decide +kernel
theorem dL_law_39 : decode cL_law 39 = .ok (.iand, 1) := by decide +kernel
theorem dL_law_40 : decode cL_law 40 = .ok (.tableswitch 1145 0 14 #[76, 234, 290, 377, 444, 500, 556, 644, 776, 820, 875, 932, 976, 1019, 1120], 76) := by decide +kernel
theorem dL_law_116 : decode cL_law 116 = .ok (.aload_n 1, 1) := by decide +kernel
theorem dL_law_117 : decode cL_law 117 = .ok (.aload_n 0, 1) := by decide +kernel
theorem dL_law_118 : decode cL_law 118 = .ok (.iload 4, 2) := by decide +kernel
theorem dL_law_120 : decode cL_law 120 = .ok (.iconst 1, 1) := by decide +kernel
theorem dL_law_121 : decode cL_law 121 = .ok (.iadd, 1) := by decide +kernel
theorem dL_law_122 : decode cL_law 122 = .ok (.iaload, 1) := by decide +kernel
theorem dL_law_123 : decode cL_law 123 = .ok (.aload_n 0, 1) := by decide +kernel
theorem dL_law_124 : decode cL_law 124 = .ok (.iload 4, 2) := by decide +kernel
theorem dL_law_126 : decode cL_law 126 = .ok (.iconst 2, 1) := by decide +kernel
theorem dL_law_127 : decode cL_law 127 = .ok (.iadd, 1) := by decide +kernel
theorem dL_law_128 : decode cL_law 128 = .ok (.iaload, 1) := by decide +kernel
theorem dL_law_129 : decode cL_law 129 = .ok (.i2l, 1) := by decide +kernel
theorem dL_law_130 : decode cL_law 130 = .ok (.bipush 32, 2) := by decide +kernel
theorem dL_law_132 : decode cL_law 132 = .ok (.lshl, 1) := by decide +kernel
theorem dL_law_133 : decode cL_law 133 = .ok (.aload_n 0, 1) := by decide +kernel
theorem dL_law_134 : decode cL_law 134 = .ok (.iload 4, 2) := by decide +kernel
theorem dL_law_136 : decode cL_law 136 = .ok (.iconst 3, 1) := by decide +kernel
theorem dL_law_137 : decode cL_law 137 = .ok (.iadd, 1) := by decide +kernel
theorem dL_law_138 : decode cL_law 138 = .ok (.iaload, 1) := by decide +kernel
theorem dL_law_139 : decode cL_law 139 = .ok (.i2l, 1) := by decide +kernel
theorem dL_law_140 : decode cL_law 140 = .ok (.ldc2_w 62, 3) := by decide +kernel
theorem dL_law_143 : decode cL_law 143 = .ok (.land, 1) := by decide +kernel
theorem dL_law_144 : decode cL_law 144 = .ok (.lor, 1) := by decide +kernel
theorem dL_law_145 : decode cL_law 145 = .ok (.aload_n 0, 1) := by decide +kernel
theorem dL_law_146 : decode cL_law 146 = .ok (.iload 4, 2) := by decide +kernel
theorem dL_law_148 : decode cL_law 148 = .ok (.iconst 4, 1) := by decide +kernel
theorem dL_law_149 : decode cL_law 149 = .ok (.iadd, 1) := by decide +kernel
theorem dL_law_150 : decode cL_law 150 = .ok (.iaload, 1) := by decide +kernel
theorem dL_law_151 : decode cL_law 151 = .ok (.i2l, 1) := by decide +kernel
theorem dL_law_152 : decode cL_law 152 = .ok (.bipush 32, 2) := by decide +kernel
theorem dL_law_154 : decode cL_law 154 = .ok (.lshl, 1) := by decide +kernel
theorem dL_law_155 : decode cL_law 155 = .ok (.aload_n 0, 1) := by decide +kernel
theorem dL_law_156 : decode cL_law 156 = .ok (.iload 4, 2) := by decide +kernel
theorem dL_law_158 : decode cL_law 158 = .ok (.iconst 5, 1) := by decide +kernel
theorem dL_law_159 : decode cL_law 159 = .ok (.iadd, 1) := by decide +kernel
theorem dL_law_160 : decode cL_law 160 = .ok (.iaload, 1) := by decide +kernel
theorem dL_law_161 : decode cL_law 161 = .ok (.i2l, 1) := by decide +kernel
theorem dL_law_162 : decode cL_law 162 = .ok (.ldc2_w 62, 3) := by decide +kernel
theorem dL_law_165 : decode cL_law 165 = .ok (.land, 1) := by decide +kernel
theorem dL_law_166 : decode cL_law 166 = .ok (.lor, 1) := by decide +kernel
theorem dL_law_167 : decode cL_law 167 = .ok (.aload_n 0, 1) := by decide +kernel
theorem dL_law_168 : decode cL_law 168 = .ok (.iload 4, 2) := by decide +kernel
theorem dL_law_170 : decode cL_law 170 = .ok (.bipush 6, 2) := by decide +kernel
theorem dL_law_172 : decode cL_law 172 = .ok (.iadd, 1) := by decide +kernel
theorem dL_law_173 : decode cL_law 173 = .ok (.iaload, 1) := by decide +kernel
theorem dL_law_174 : decode cL_law 174 = .ok (.aload_n 3, 1) := by decide +kernel
theorem dL_law_175 : decode cL_law 175 = .ok (.invokestatic 64, 3) := by decide +kernel
theorem dL_law_178 : decode cL_law 178 = .ok (.istore 5, 2) := by decide +kernel
theorem dL_law_180 : decode cL_law 180 = .ok (.aload_n 2, 1) := by decide +kernel
theorem dL_law_181 : decode cL_law 181 = .ok (.aload_n 0, 1) := by decide +kernel
theorem dL_law_182 : decode cL_law 182 = .ok (.iload 4, 2) := by decide +kernel
theorem dL_law_184 : decode cL_law 184 = .ok (.iconst 1, 1) := by decide +kernel
theorem dL_law_185 : decode cL_law 185 = .ok (.iadd, 1) := by decide +kernel
theorem dL_law_186 : decode cL_law 186 = .ok (.iaload, 1) := by decide +kernel
theorem dL_law_187 : decode cL_law 187 = .ok (.aload_n 0, 1) := by decide +kernel
theorem dL_law_188 : decode cL_law 188 = .ok (.iload 4, 2) := by decide +kernel
theorem dL_law_190 : decode cL_law 190 = .ok (.iconst 2, 1) := by decide +kernel
theorem dL_law_191 : decode cL_law 191 = .ok (.iadd, 1) := by decide +kernel
theorem dL_law_192 : decode cL_law 192 = .ok (.iaload, 1) := by decide +kernel
theorem dL_law_193 : decode cL_law 193 = .ok (.i2l, 1) := by decide +kernel
theorem dL_law_194 : decode cL_law 194 = .ok (.bipush 32, 2) := by decide +kernel
theorem dL_law_196 : decode cL_law 196 = .ok (.lshl, 1) := by decide +kernel
theorem dL_law_197 : decode cL_law 197 = .ok (.aload_n 0, 1) := by decide +kernel
theorem dL_law_198 : decode cL_law 198 = .ok (.iload 4, 2) := by decide +kernel
theorem dL_law_200 : decode cL_law 200 = .ok (.iconst 3, 1) := by decide +kernel
theorem dL_law_201 : decode cL_law 201 = .ok (.iadd, 1) := by decide +kernel
theorem dL_law_202 : decode cL_law 202 = .ok (.iaload, 1) := by decide +kernel
theorem dL_law_203 : decode cL_law 203 = .ok (.i2l, 1) := by decide +kernel
theorem dL_law_204 : decode cL_law 204 = .ok (.ldc2_w 62, 3) := by decide +kernel
theorem dL_law_207 : decode cL_law 207 = .ok (.land, 1) := by decide +kernel
theorem dL_law_208 : decode cL_law 208 = .ok (.lor, 1) := by decide +kernel
theorem dL_law_209 : decode cL_law 209 = .ok (.aload_n 0, 1) := by decide +kernel
theorem dL_law_210 : decode cL_law 210 = .ok (.iload 4, 2) := by decide +kernel
theorem dL_law_212 : decode cL_law 212 = .ok (.iconst 4, 1) := by decide +kernel
theorem dL_law_213 : decode cL_law 213 = .ok (.iadd, 1) := by decide +kernel
theorem dL_law_214 : decode cL_law 214 = .ok (.iaload, 1) := by decide +kernel
theorem dL_law_215 : decode cL_law 215 = .ok (.i2l, 1) := by decide +kernel
theorem dL_law_216 : decode cL_law 216 = .ok (.bipush 32, 2) := by decide +kernel
theorem dL_law_218 : decode cL_law 218 = .ok (.lshl, 1) := by decide +kernel
theorem dL_law_219 : decode cL_law 219 = .ok (.aload_n 0, 1) := by decide +kernel
theorem dL_law_220 : decode cL_law 220 = .ok (.iload 4, 2) := by decide +kernel
theorem dL_law_222 : decode cL_law 222 = .ok (.iconst 5, 1) := by decide +kernel
theorem dL_law_223 : decode cL_law 223 = .ok (.iadd, 1) := by decide +kernel
theorem dL_law_224 : decode cL_law 224 = .ok (.iaload, 1) := by decide +kernel
theorem dL_law_225 : decode cL_law 225 = .ok (.i2l, 1) := by decide +kernel
theorem dL_law_226 : decode cL_law 226 = .ok (.ldc2_w 62, 3) := by decide +kernel
theorem dL_law_229 : decode cL_law 229 = .ok (.land, 1) := by decide +kernel
theorem dL_law_230 : decode cL_law 230 = .ok (.lor, 1) := by decide +kernel
theorem dL_law_231 : decode cL_law 231 = .ok (.aload_n 0, 1) := by decide +kernel
theorem dL_law_232 : decode cL_law 232 = .ok (.iload 4, 2) := by decide +kernel
theorem dL_law_234 : decode cL_law 234 = .ok (.bipush 6, 2) := by decide +kernel
theorem dL_law_236 : decode cL_law 236 = .ok (.iadd, 1) := by decide +kernel
theorem dL_law_237 : decode cL_law 237 = .ok (.iaload, 1) := by decide +kernel
theorem dL_law_238 : decode cL_law 238 = .ok (.invokevirtual 69, 3) := by decide +kernel
theorem dL_law_241 : decode cL_law 241 = .ok (.istore 6, 2) := by decide +kernel
theorem dL_law_243 : decode cL_law 243 = .ok (.aload_n 2, 1) := by decide +kernel
theorem dL_law_244 : decode cL_law 244 = .ok (.invokevirtual 70, 3) := by decide +kernel
theorem dL_law_247 : decode cL_law 247 = .ok (.iload 5, 2) := by decide +kernel
theorem dL_law_249 : decode cL_law 249 = .ok (.if_icmp .eq 5, 3) := by decide +kernel
theorem dL_law_252 : decode cL_law 252 = .ok (.iconst 0, 1) := by decide +kernel
theorem dL_law_253 : decode cL_law 253 = .ok (.ireturn, 1) := by decide +kernel
theorem dL_law_254 : decode cL_law 254 = .ok (.iload 5, 2) := by decide +kernel
theorem dL_law_256 : decode cL_law 256 = .ok (.ifCond .ne 15, 3) := by decide +kernel
theorem dL_law_259 : decode cL_law 259 = .ok (.aload_n 3, 1) := by decide +kernel
theorem dL_law_260 : decode cL_law 260 = .ok (.iconst 0, 1) := by decide +kernel
theorem dL_law_261 : decode cL_law 261 = .ok (.laload, 1) := by decide +kernel
theorem dL_law_262 : decode cL_law 262 = .ok (.iload 6, 2) := by decide +kernel
theorem dL_law_264 : decode cL_law 264 = .ok (.i2l, 1) := by decide +kernel
theorem dL_law_265 : decode cL_law 265 = .ok (.lcmp, 1) := by decide +kernel
theorem dL_law_266 : decode cL_law 266 = .ok (.ifCond .eq 5, 3) := by decide +kernel
theorem dL_law_269 : decode cL_law 269 = .ok (.iconst 0, 1) := by decide +kernel
theorem dL_law_270 : decode cL_law 270 = .ok (.ireturn, 1) := by decide +kernel
theorem dL_law_271 : decode cL_law 271 = .ok (.goto 914, 3) := by decide +kernel
theorem dL_law_274 : decode cL_law 274 = .ok (.aload_n 1, 1) := by decide +kernel
theorem dL_law_275 : decode cL_law 275 = .ok (.aload_n 0, 1) := by decide +kernel
theorem dL_law_276 : decode cL_law 276 = .ok (.iload 4, 2) := by decide +kernel
theorem dL_law_278 : decode cL_law 278 = .ok (.iconst 1, 1) := by decide +kernel
theorem dL_law_279 : decode cL_law 279 = .ok (.iadd, 1) := by decide +kernel
theorem dL_law_280 : decode cL_law 280 = .ok (.iaload, 1) := by decide +kernel
theorem dL_law_281 : decode cL_law 281 = .ok (.aload_n 3, 1) := by decide +kernel
theorem dL_law_282 : decode cL_law 282 = .ok (.invokestatic 73, 3) := by decide +kernel
theorem dL_law_285 : decode cL_law 285 = .ok (.istore 5, 2) := by decide +kernel
theorem dL_law_287 : decode cL_law 287 = .ok (.aload_n 2, 1) := by decide +kernel
theorem dL_law_288 : decode cL_law 288 = .ok (.aload_n 0, 1) := by decide +kernel
theorem dL_law_289 : decode cL_law 289 = .ok (.iload 4, 2) := by decide +kernel
theorem dL_law_291 : decode cL_law 291 = .ok (.iconst 1, 1) := by decide +kernel
theorem dL_law_292 : decode cL_law 292 = .ok (.iadd, 1) := by decide +kernel
theorem dL_law_293 : decode cL_law 293 = .ok (.iaload, 1) := by decide +kernel
theorem dL_law_294 : decode cL_law 294 = .ok (.invokevirtual 76, 3) := by decide +kernel
theorem dL_law_297 : decode cL_law 297 = .ok (.istore 6, 2) := by decide +kernel
theorem dL_law_299 : decode cL_law 299 = .ok (.aload_n 2, 1) := by decide +kernel
theorem dL_law_300 : decode cL_law 300 = .ok (.invokevirtual 70, 3) := by decide +kernel
theorem dL_law_303 : decode cL_law 303 = .ok (.iload 5, 2) := by decide +kernel
theorem dL_law_305 : decode cL_law 305 = .ok (.if_icmp .eq 5, 3) := by decide +kernel
theorem dL_law_308 : decode cL_law 308 = .ok (.iconst 0, 1) := by decide +kernel
theorem dL_law_309 : decode cL_law 309 = .ok (.ireturn, 1) := by decide +kernel
theorem dL_law_310 : decode cL_law 310 = .ok (.iload 5, 2) := by decide +kernel
theorem dL_law_312 : decode cL_law 312 = .ok (.ifCond .ne 15, 3) := by decide +kernel
theorem dL_law_315 : decode cL_law 315 = .ok (.aload_n 3, 1) := by decide +kernel
theorem dL_law_316 : decode cL_law 316 = .ok (.iconst 0, 1) := by decide +kernel
theorem dL_law_317 : decode cL_law 317 = .ok (.laload, 1) := by decide +kernel
theorem dL_law_318 : decode cL_law 318 = .ok (.iload 6, 2) := by decide +kernel
theorem dL_law_320 : decode cL_law 320 = .ok (.i2l, 1) := by decide +kernel
theorem dL_law_321 : decode cL_law 321 = .ok (.lcmp, 1) := by decide +kernel
theorem dL_law_322 : decode cL_law 322 = .ok (.ifCond .eq 5, 3) := by decide +kernel
theorem dL_law_325 : decode cL_law 325 = .ok (.iconst 0, 1) := by decide +kernel
theorem dL_law_326 : decode cL_law 326 = .ok (.ireturn, 1) := by decide +kernel
theorem dL_law_327 : decode cL_law 327 = .ok (.goto 858, 3) := by decide +kernel
theorem dL_law_330 : decode cL_law 330 = .ok (.aload_n 1, 1) := by decide +kernel
theorem dL_law_331 : decode cL_law 331 = .ok (.aload_n 0, 1) := by decide +kernel
theorem dL_law_332 : decode cL_law 332 = .ok (.iload 4, 2) := by decide +kernel
theorem dL_law_334 : decode cL_law 334 = .ok (.iconst 1, 1) := by decide +kernel
theorem dL_law_335 : decode cL_law 335 = .ok (.iadd, 1) := by decide +kernel
theorem dL_law_336 : decode cL_law 336 = .ok (.iaload, 1) := by decide +kernel
theorem dL_law_337 : decode cL_law 337 = .ok (.i2l, 1) := by decide +kernel
theorem dL_law_338 : decode cL_law 338 = .ok (.bipush 32, 2) := by decide +kernel
theorem dL_law_340 : decode cL_law 340 = .ok (.lshl, 1) := by decide +kernel
theorem dL_law_341 : decode cL_law 341 = .ok (.aload_n 0, 1) := by decide +kernel
theorem dL_law_342 : decode cL_law 342 = .ok (.iload 4, 2) := by decide +kernel
theorem dL_law_344 : decode cL_law 344 = .ok (.iconst 2, 1) := by decide +kernel
theorem dL_law_345 : decode cL_law 345 = .ok (.iadd, 1) := by decide +kernel
theorem dL_law_346 : decode cL_law 346 = .ok (.iaload, 1) := by decide +kernel
theorem dL_law_347 : decode cL_law 347 = .ok (.i2l, 1) := by decide +kernel
theorem dL_law_348 : decode cL_law 348 = .ok (.ldc2_w 62, 3) := by decide +kernel
theorem dL_law_351 : decode cL_law 351 = .ok (.land, 1) := by decide +kernel
theorem dL_law_352 : decode cL_law 352 = .ok (.lor, 1) := by decide +kernel
theorem dL_law_353 : decode cL_law 353 = .ok (.aload_n 3, 1) := by decide +kernel
theorem dL_law_354 : decode cL_law 354 = .ok (.invokestatic 77, 3) := by decide +kernel
theorem dL_law_357 : decode cL_law 357 = .ok (.istore 5, 2) := by decide +kernel
theorem dL_law_359 : decode cL_law 359 = .ok (.aload_n 2, 1) := by decide +kernel
theorem dL_law_360 : decode cL_law 360 = .ok (.aload_n 0, 1) := by decide +kernel
theorem dL_law_361 : decode cL_law 361 = .ok (.iload 4, 2) := by decide +kernel
theorem dL_law_363 : decode cL_law 363 = .ok (.iconst 1, 1) := by decide +kernel
theorem dL_law_364 : decode cL_law 364 = .ok (.iadd, 1) := by decide +kernel
theorem dL_law_365 : decode cL_law 365 = .ok (.iaload, 1) := by decide +kernel
theorem dL_law_366 : decode cL_law 366 = .ok (.i2l, 1) := by decide +kernel
theorem dL_law_367 : decode cL_law 367 = .ok (.bipush 32, 2) := by decide +kernel
theorem dL_law_369 : decode cL_law 369 = .ok (.lshl, 1) := by decide +kernel
theorem dL_law_370 : decode cL_law 370 = .ok (.aload_n 0, 1) := by decide +kernel
theorem dL_law_371 : decode cL_law 371 = .ok (.iload 4, 2) := by decide +kernel
theorem dL_law_373 : decode cL_law 373 = .ok (.iconst 2, 1) := by decide +kernel
theorem dL_law_374 : decode cL_law 374 = .ok (.iadd, 1) := by decide +kernel
theorem dL_law_375 : decode cL_law 375 = .ok (.iaload, 1) := by decide +kernel
theorem dL_law_376 : decode cL_law 376 = .ok (.i2l, 1) := by decide +kernel
theorem dL_law_377 : decode cL_law 377 = .ok (.ldc2_w 62, 3) := by decide +kernel
theorem dL_law_380 : decode cL_law 380 = .ok (.land, 1) := by decide +kernel
theorem dL_law_381 : decode cL_law 381 = .ok (.lor, 1) := by decide +kernel
theorem dL_law_382 : decode cL_law 382 = .ok (.invokevirtual 80, 3) := by decide +kernel
theorem dL_law_385 : decode cL_law 385 = .ok (.lstore 6, 2) := by decide +kernel
theorem dL_law_387 : decode cL_law 387 = .ok (.aload_n 2, 1) := by decide +kernel
theorem dL_law_388 : decode cL_law 388 = .ok (.invokevirtual 70, 3) := by decide +kernel
theorem dL_law_391 : decode cL_law 391 = .ok (.iload 5, 2) := by decide +kernel
theorem dL_law_393 : decode cL_law 393 = .ok (.if_icmp .eq 5, 3) := by decide +kernel
theorem dL_law_396 : decode cL_law 396 = .ok (.iconst 0, 1) := by decide +kernel
theorem dL_law_397 : decode cL_law 397 = .ok (.ireturn, 1) := by decide +kernel
theorem dL_law_398 : decode cL_law 398 = .ok (.iload 5, 2) := by decide +kernel
theorem dL_law_400 : decode cL_law 400 = .ok (.ifCond .ne 14, 3) := by decide +kernel
theorem dL_law_403 : decode cL_law 403 = .ok (.aload_n 3, 1) := by decide +kernel
theorem dL_law_404 : decode cL_law 404 = .ok (.iconst 0, 1) := by decide +kernel
theorem dL_law_405 : decode cL_law 405 = .ok (.laload, 1) := by decide +kernel
theorem dL_law_406 : decode cL_law 406 = .ok (.lload 6, 2) := by decide +kernel
theorem dL_law_408 : decode cL_law 408 = .ok (.lcmp, 1) := by decide +kernel
theorem dL_law_409 : decode cL_law 409 = .ok (.ifCond .eq 5, 3) := by decide +kernel
theorem dL_law_412 : decode cL_law 412 = .ok (.iconst 0, 1) := by decide +kernel
theorem dL_law_413 : decode cL_law 413 = .ok (.ireturn, 1) := by decide +kernel
theorem dL_law_414 : decode cL_law 414 = .ok (.goto 771, 3) := by decide +kernel
theorem dL_law_417 : decode cL_law 417 = .ok (.aload_n 1, 1) := by decide +kernel
theorem dL_law_418 : decode cL_law 418 = .ok (.aload_n 0, 1) := by decide +kernel
theorem dL_law_419 : decode cL_law 419 = .ok (.iload 4, 2) := by decide +kernel
theorem dL_law_421 : decode cL_law 421 = .ok (.iconst 1, 1) := by decide +kernel
theorem dL_law_422 : decode cL_law 422 = .ok (.iadd, 1) := by decide +kernel
theorem dL_law_423 : decode cL_law 423 = .ok (.iaload, 1) := by decide +kernel
theorem dL_law_424 : decode cL_law 424 = .ok (.aload_n 0, 1) := by decide +kernel
theorem dL_law_425 : decode cL_law 425 = .ok (.iload 4, 2) := by decide +kernel
theorem dL_law_427 : decode cL_law 427 = .ok (.iconst 2, 1) := by decide +kernel
theorem dL_law_428 : decode cL_law 428 = .ok (.iadd, 1) := by decide +kernel
theorem dL_law_429 : decode cL_law 429 = .ok (.iaload, 1) := by decide +kernel
theorem dL_law_430 : decode cL_law 430 = .ok (.aload_n 3, 1) := by decide +kernel
theorem dL_law_431 : decode cL_law 431 = .ok (.invokestatic 81, 3) := by decide +kernel
theorem dL_law_434 : decode cL_law 434 = .ok (.istore 5, 2) := by decide +kernel
theorem dL_law_436 : decode cL_law 436 = .ok (.aload_n 2, 1) := by decide +kernel
theorem dL_law_437 : decode cL_law 437 = .ok (.aload_n 0, 1) := by decide +kernel
theorem dL_law_438 : decode cL_law 438 = .ok (.iload 4, 2) := by decide +kernel
theorem dL_law_440 : decode cL_law 440 = .ok (.iconst 1, 1) := by decide +kernel
theorem dL_law_441 : decode cL_law 441 = .ok (.iadd, 1) := by decide +kernel
theorem dL_law_442 : decode cL_law 442 = .ok (.iaload, 1) := by decide +kernel
theorem dL_law_443 : decode cL_law 443 = .ok (.aload_n 0, 1) := by decide +kernel
theorem dL_law_444 : decode cL_law 444 = .ok (.iload 4, 2) := by decide +kernel
theorem dL_law_446 : decode cL_law 446 = .ok (.iconst 2, 1) := by decide +kernel
theorem dL_law_447 : decode cL_law 447 = .ok (.iadd, 1) := by decide +kernel
theorem dL_law_448 : decode cL_law 448 = .ok (.iaload, 1) := by decide +kernel
theorem dL_law_449 : decode cL_law 449 = .ok (.invokevirtual 84, 3) := by decide +kernel
theorem dL_law_452 : decode cL_law 452 = .ok (.lstore 6, 2) := by decide +kernel
theorem dL_law_454 : decode cL_law 454 = .ok (.aload_n 2, 1) := by decide +kernel
theorem dL_law_455 : decode cL_law 455 = .ok (.invokevirtual 70, 3) := by decide +kernel
theorem dL_law_458 : decode cL_law 458 = .ok (.iload 5, 2) := by decide +kernel
theorem dL_law_460 : decode cL_law 460 = .ok (.if_icmp .eq 5, 3) := by decide +kernel
theorem dL_law_463 : decode cL_law 463 = .ok (.iconst 0, 1) := by decide +kernel
theorem dL_law_464 : decode cL_law 464 = .ok (.ireturn, 1) := by decide +kernel
theorem dL_law_465 : decode cL_law 465 = .ok (.iload 5, 2) := by decide +kernel
theorem dL_law_467 : decode cL_law 467 = .ok (.ifCond .ne 14, 3) := by decide +kernel
theorem dL_law_470 : decode cL_law 470 = .ok (.aload_n 3, 1) := by decide +kernel
theorem dL_law_471 : decode cL_law 471 = .ok (.iconst 0, 1) := by decide +kernel
theorem dL_law_472 : decode cL_law 472 = .ok (.laload, 1) := by decide +kernel
theorem dL_law_473 : decode cL_law 473 = .ok (.lload 6, 2) := by decide +kernel
theorem dL_law_475 : decode cL_law 475 = .ok (.lcmp, 1) := by decide +kernel
theorem dL_law_476 : decode cL_law 476 = .ok (.ifCond .eq 5, 3) := by decide +kernel
theorem dL_law_479 : decode cL_law 479 = .ok (.iconst 0, 1) := by decide +kernel
theorem dL_law_480 : decode cL_law 480 = .ok (.ireturn, 1) := by decide +kernel
theorem dL_law_481 : decode cL_law 481 = .ok (.goto 704, 3) := by decide +kernel
theorem dL_law_484 : decode cL_law 484 = .ok (.aload_n 1, 1) := by decide +kernel
theorem dL_law_485 : decode cL_law 485 = .ok (.aload_n 0, 1) := by decide +kernel
theorem dL_law_486 : decode cL_law 486 = .ok (.iload 4, 2) := by decide +kernel
theorem dL_law_488 : decode cL_law 488 = .ok (.iconst 1, 1) := by decide +kernel
theorem dL_law_489 : decode cL_law 489 = .ok (.iadd, 1) := by decide +kernel
theorem dL_law_490 : decode cL_law 490 = .ok (.iaload, 1) := by decide +kernel
theorem dL_law_491 : decode cL_law 491 = .ok (.aload_n 3, 1) := by decide +kernel
theorem dL_law_492 : decode cL_law 492 = .ok (.invokestatic 85, 3) := by decide +kernel
theorem dL_law_495 : decode cL_law 495 = .ok (.istore 5, 2) := by decide +kernel
theorem dL_law_497 : decode cL_law 497 = .ok (.aload_n 2, 1) := by decide +kernel
theorem dL_law_498 : decode cL_law 498 = .ok (.aload_n 0, 1) := by decide +kernel
theorem dL_law_499 : decode cL_law 499 = .ok (.iload 4, 2) := by decide +kernel
theorem dL_law_501 : decode cL_law 501 = .ok (.iconst 1, 1) := by decide +kernel
theorem dL_law_502 : decode cL_law 502 = .ok (.iadd, 1) := by decide +kernel
theorem dL_law_503 : decode cL_law 503 = .ok (.iaload, 1) := by decide +kernel
theorem dL_law_504 : decode cL_law 504 = .ok (.invokevirtual 87, 3) := by decide +kernel
theorem dL_law_507 : decode cL_law 507 = .ok (.istore 6, 2) := by decide +kernel
theorem dL_law_509 : decode cL_law 509 = .ok (.aload_n 2, 1) := by decide +kernel
theorem dL_law_510 : decode cL_law 510 = .ok (.invokevirtual 70, 3) := by decide +kernel
theorem dL_law_513 : decode cL_law 513 = .ok (.iload 5, 2) := by decide +kernel
theorem dL_law_515 : decode cL_law 515 = .ok (.if_icmp .eq 5, 3) := by decide +kernel
theorem dL_law_518 : decode cL_law 518 = .ok (.iconst 0, 1) := by decide +kernel
theorem dL_law_519 : decode cL_law 519 = .ok (.ireturn, 1) := by decide +kernel
theorem dL_law_520 : decode cL_law 520 = .ok (.iload 5, 2) := by decide +kernel
theorem dL_law_522 : decode cL_law 522 = .ok (.ifCond .ne 15, 3) := by decide +kernel
theorem dL_law_525 : decode cL_law 525 = .ok (.aload_n 3, 1) := by decide +kernel
theorem dL_law_526 : decode cL_law 526 = .ok (.iconst 0, 1) := by decide +kernel
theorem dL_law_527 : decode cL_law 527 = .ok (.laload, 1) := by decide +kernel
theorem dL_law_528 : decode cL_law 528 = .ok (.iload 6, 2) := by decide +kernel
theorem dL_law_530 : decode cL_law 530 = .ok (.i2l, 1) := by decide +kernel
theorem dL_law_531 : decode cL_law 531 = .ok (.lcmp, 1) := by decide +kernel
theorem dL_law_532 : decode cL_law 532 = .ok (.ifCond .eq 5, 3) := by decide +kernel
theorem dL_law_535 : decode cL_law 535 = .ok (.iconst 0, 1) := by decide +kernel
theorem dL_law_536 : decode cL_law 536 = .ok (.ireturn, 1) := by decide +kernel
theorem dL_law_537 : decode cL_law 537 = .ok (.goto 648, 3) := by decide +kernel
theorem dL_law_540 : decode cL_law 540 = .ok (.aload_n 1, 1) := by decide +kernel
theorem dL_law_541 : decode cL_law 541 = .ok (.aload_n 0, 1) := by decide +kernel
theorem dL_law_542 : decode cL_law 542 = .ok (.iload 4, 2) := by decide +kernel
theorem dL_law_544 : decode cL_law 544 = .ok (.iconst 1, 1) := by decide +kernel
theorem dL_law_545 : decode cL_law 545 = .ok (.iadd, 1) := by decide +kernel
theorem dL_law_546 : decode cL_law 546 = .ok (.iaload, 1) := by decide +kernel
theorem dL_law_547 : decode cL_law 547 = .ok (.aload_n 3, 1) := by decide +kernel
theorem dL_law_548 : decode cL_law 548 = .ok (.invokestatic 88, 3) := by decide +kernel
theorem dL_law_551 : decode cL_law 551 = .ok (.istore 5, 2) := by decide +kernel
theorem dL_law_553 : decode cL_law 553 = .ok (.aload_n 2, 1) := by decide +kernel
theorem dL_law_554 : decode cL_law 554 = .ok (.aload_n 0, 1) := by decide +kernel
theorem dL_law_555 : decode cL_law 555 = .ok (.iload 4, 2) := by decide +kernel
theorem dL_law_557 : decode cL_law 557 = .ok (.iconst 1, 1) := by decide +kernel
theorem dL_law_558 : decode cL_law 558 = .ok (.iadd, 1) := by decide +kernel
theorem dL_law_559 : decode cL_law 559 = .ok (.iaload, 1) := by decide +kernel
theorem dL_law_560 : decode cL_law 560 = .ok (.invokevirtual 90, 3) := by decide +kernel
theorem dL_law_563 : decode cL_law 563 = .ok (.istore 6, 2) := by decide +kernel
theorem dL_law_565 : decode cL_law 565 = .ok (.aload_n 2, 1) := by decide +kernel
theorem dL_law_566 : decode cL_law 566 = .ok (.invokevirtual 70, 3) := by decide +kernel
theorem dL_law_569 : decode cL_law 569 = .ok (.iload 5, 2) := by decide +kernel
theorem dL_law_571 : decode cL_law 571 = .ok (.if_icmp .eq 5, 3) := by decide +kernel
theorem dL_law_574 : decode cL_law 574 = .ok (.iconst 0, 1) := by decide +kernel
theorem dL_law_575 : decode cL_law 575 = .ok (.ireturn, 1) := by decide +kernel
theorem dL_law_576 : decode cL_law 576 = .ok (.iload 5, 2) := by decide +kernel
theorem dL_law_578 : decode cL_law 578 = .ok (.ifCond .ne 15, 3) := by decide +kernel
theorem dL_law_581 : decode cL_law 581 = .ok (.aload_n 3, 1) := by decide +kernel
theorem dL_law_582 : decode cL_law 582 = .ok (.iconst 0, 1) := by decide +kernel
theorem dL_law_583 : decode cL_law 583 = .ok (.laload, 1) := by decide +kernel
theorem dL_law_584 : decode cL_law 584 = .ok (.iload 6, 2) := by decide +kernel
theorem dL_law_586 : decode cL_law 586 = .ok (.i2l, 1) := by decide +kernel
theorem dL_law_587 : decode cL_law 587 = .ok (.lcmp, 1) := by decide +kernel
theorem dL_law_588 : decode cL_law 588 = .ok (.ifCond .eq 5, 3) := by decide +kernel
theorem dL_law_591 : decode cL_law 591 = .ok (.iconst 0, 1) := by decide +kernel
theorem dL_law_592 : decode cL_law 592 = .ok (.ireturn, 1) := by decide +kernel
theorem dL_law_593 : decode cL_law 593 = .ok (.goto 592, 3) := by decide +kernel
theorem dL_law_596 : decode cL_law 596 = .ok (.aload_n 1, 1) := by decide +kernel
theorem dL_law_597 : decode cL_law 597 = .ok (.aload_n 0, 1) := by decide +kernel
theorem dL_law_598 : decode cL_law 598 = .ok (.iload 4, 2) := by decide +kernel
theorem dL_law_600 : decode cL_law 600 = .ok (.iconst 1, 1) := by decide +kernel
theorem dL_law_601 : decode cL_law 601 = .ok (.iadd, 1) := by decide +kernel
theorem dL_law_602 : decode cL_law 602 = .ok (.iaload, 1) := by decide +kernel
theorem dL_law_603 : decode cL_law 603 = .ok (.i2l, 1) := by decide +kernel
theorem dL_law_604 : decode cL_law 604 = .ok (.bipush 32, 2) := by decide +kernel
theorem dL_law_606 : decode cL_law 606 = .ok (.lshl, 1) := by decide +kernel
theorem dL_law_607 : decode cL_law 607 = .ok (.aload_n 0, 1) := by decide +kernel
theorem dL_law_608 : decode cL_law 608 = .ok (.iload 4, 2) := by decide +kernel
theorem dL_law_610 : decode cL_law 610 = .ok (.iconst 2, 1) := by decide +kernel
theorem dL_law_611 : decode cL_law 611 = .ok (.iadd, 1) := by decide +kernel
theorem dL_law_612 : decode cL_law 612 = .ok (.iaload, 1) := by decide +kernel
theorem dL_law_613 : decode cL_law 613 = .ok (.i2l, 1) := by decide +kernel
theorem dL_law_614 : decode cL_law 614 = .ok (.ldc2_w 62, 3) := by decide +kernel
theorem dL_law_617 : decode cL_law 617 = .ok (.land, 1) := by decide +kernel
theorem dL_law_618 : decode cL_law 618 = .ok (.lor, 1) := by decide +kernel
theorem dL_law_619 : decode cL_law 619 = .ok (.aload_n 3, 1) := by decide +kernel
theorem dL_law_620 : decode cL_law 620 = .ok (.invokestatic 91, 3) := by decide +kernel
theorem dL_law_623 : decode cL_law 623 = .ok (.istore 5, 2) := by decide +kernel
theorem dL_law_625 : decode cL_law 625 = .ok (.aload_n 2, 1) := by decide +kernel
theorem dL_law_626 : decode cL_law 626 = .ok (.aload_n 0, 1) := by decide +kernel
theorem dL_law_627 : decode cL_law 627 = .ok (.iload 4, 2) := by decide +kernel
theorem dL_law_629 : decode cL_law 629 = .ok (.iconst 1, 1) := by decide +kernel
theorem dL_law_630 : decode cL_law 630 = .ok (.iadd, 1) := by decide +kernel
theorem dL_law_631 : decode cL_law 631 = .ok (.iaload, 1) := by decide +kernel
theorem dL_law_632 : decode cL_law 632 = .ok (.i2l, 1) := by decide +kernel
theorem dL_law_633 : decode cL_law 633 = .ok (.bipush 32, 2) := by decide +kernel
theorem dL_law_635 : decode cL_law 635 = .ok (.lshl, 1) := by decide +kernel
theorem dL_law_636 : decode cL_law 636 = .ok (.aload_n 0, 1) := by decide +kernel
theorem dL_law_637 : decode cL_law 637 = .ok (.iload 4, 2) := by decide +kernel
theorem dL_law_639 : decode cL_law 639 = .ok (.iconst 2, 1) := by decide +kernel
theorem dL_law_640 : decode cL_law 640 = .ok (.iadd, 1) := by decide +kernel
theorem dL_law_641 : decode cL_law 641 = .ok (.iaload, 1) := by decide +kernel
theorem dL_law_642 : decode cL_law 642 = .ok (.i2l, 1) := by decide +kernel
theorem dL_law_643 : decode cL_law 643 = .ok (.ldc2_w 62, 3) := by decide +kernel
theorem dL_law_646 : decode cL_law 646 = .ok (.land, 1) := by decide +kernel
theorem dL_law_647 : decode cL_law 647 = .ok (.lor, 1) := by decide +kernel
theorem dL_law_648 : decode cL_law 648 = .ok (.invokevirtual 93, 3) := by decide +kernel
theorem dL_law_651 : decode cL_law 651 = .ok (.istore 6, 2) := by decide +kernel
theorem dL_law_653 : decode cL_law 653 = .ok (.aload_n 2, 1) := by decide +kernel
theorem dL_law_654 : decode cL_law 654 = .ok (.invokevirtual 70, 3) := by decide +kernel
theorem dL_law_657 : decode cL_law 657 = .ok (.iload 5, 2) := by decide +kernel
theorem dL_law_659 : decode cL_law 659 = .ok (.if_icmp .eq 5, 3) := by decide +kernel
theorem dL_law_662 : decode cL_law 662 = .ok (.iconst 0, 1) := by decide +kernel
theorem dL_law_663 : decode cL_law 663 = .ok (.ireturn, 1) := by decide +kernel
theorem dL_law_664 : decode cL_law 664 = .ok (.iload 5, 2) := by decide +kernel
theorem dL_law_666 : decode cL_law 666 = .ok (.ifCond .ne 15, 3) := by decide +kernel
theorem dL_law_669 : decode cL_law 669 = .ok (.aload_n 3, 1) := by decide +kernel
theorem dL_law_670 : decode cL_law 670 = .ok (.iconst 0, 1) := by decide +kernel
theorem dL_law_671 : decode cL_law 671 = .ok (.laload, 1) := by decide +kernel
theorem dL_law_672 : decode cL_law 672 = .ok (.iload 6, 2) := by decide +kernel
theorem dL_law_674 : decode cL_law 674 = .ok (.i2l, 1) := by decide +kernel
theorem dL_law_675 : decode cL_law 675 = .ok (.lcmp, 1) := by decide +kernel
theorem dL_law_676 : decode cL_law 676 = .ok (.ifCond .eq 5, 3) := by decide +kernel
theorem dL_law_679 : decode cL_law 679 = .ok (.iconst 0, 1) := by decide +kernel
theorem dL_law_680 : decode cL_law 680 = .ok (.ireturn, 1) := by decide +kernel
theorem dL_law_681 : decode cL_law 681 = .ok (.goto 504, 3) := by decide +kernel
theorem dL_law_684 : decode cL_law 684 = .ok (.aload_n 1, 1) := by decide +kernel
theorem dL_law_685 : decode cL_law 685 = .ok (.aload_n 0, 1) := by decide +kernel
theorem dL_law_686 : decode cL_law 686 = .ok (.iload 4, 2) := by decide +kernel
theorem dL_law_688 : decode cL_law 688 = .ok (.iconst 1, 1) := by decide +kernel
theorem dL_law_689 : decode cL_law 689 = .ok (.iadd, 1) := by decide +kernel
theorem dL_law_690 : decode cL_law 690 = .ok (.iaload, 1) := by decide +kernel
theorem dL_law_691 : decode cL_law 691 = .ok (.i2l, 1) := by decide +kernel
theorem dL_law_692 : decode cL_law 692 = .ok (.bipush 32, 2) := by decide +kernel
theorem dL_law_694 : decode cL_law 694 = .ok (.lshl, 1) := by decide +kernel
theorem dL_law_695 : decode cL_law 695 = .ok (.aload_n 0, 1) := by decide +kernel
theorem dL_law_696 : decode cL_law 696 = .ok (.iload 4, 2) := by decide +kernel
theorem dL_law_698 : decode cL_law 698 = .ok (.iconst 2, 1) := by decide +kernel
theorem dL_law_699 : decode cL_law 699 = .ok (.iadd, 1) := by decide +kernel
theorem dL_law_700 : decode cL_law 700 = .ok (.iaload, 1) := by decide +kernel
theorem dL_law_701 : decode cL_law 701 = .ok (.i2l, 1) := by decide +kernel
theorem dL_law_702 : decode cL_law 702 = .ok (.ldc2_w 62, 3) := by decide +kernel
theorem dL_law_705 : decode cL_law 705 = .ok (.land, 1) := by decide +kernel
theorem dL_law_706 : decode cL_law 706 = .ok (.lor, 1) := by decide +kernel
theorem dL_law_707 : decode cL_law 707 = .ok (.aload_n 0, 1) := by decide +kernel
theorem dL_law_708 : decode cL_law 708 = .ok (.iload 4, 2) := by decide +kernel
theorem dL_law_710 : decode cL_law 710 = .ok (.iconst 3, 1) := by decide +kernel
theorem dL_law_711 : decode cL_law 711 = .ok (.iadd, 1) := by decide +kernel
theorem dL_law_712 : decode cL_law 712 = .ok (.iaload, 1) := by decide +kernel
theorem dL_law_713 : decode cL_law 713 = .ok (.i2l, 1) := by decide +kernel
theorem dL_law_714 : decode cL_law 714 = .ok (.bipush 32, 2) := by decide +kernel
theorem dL_law_716 : decode cL_law 716 = .ok (.lshl, 1) := by decide +kernel
theorem dL_law_717 : decode cL_law 717 = .ok (.aload_n 0, 1) := by decide +kernel
theorem dL_law_718 : decode cL_law 718 = .ok (.iload 4, 2) := by decide +kernel
theorem dL_law_720 : decode cL_law 720 = .ok (.iconst 4, 1) := by decide +kernel
theorem dL_law_721 : decode cL_law 721 = .ok (.iadd, 1) := by decide +kernel
theorem dL_law_722 : decode cL_law 722 = .ok (.iaload, 1) := by decide +kernel
theorem dL_law_723 : decode cL_law 723 = .ok (.i2l, 1) := by decide +kernel
theorem dL_law_724 : decode cL_law 724 = .ok (.ldc2_w 62, 3) := by decide +kernel
theorem dL_law_727 : decode cL_law 727 = .ok (.land, 1) := by decide +kernel
theorem dL_law_728 : decode cL_law 728 = .ok (.lor, 1) := by decide +kernel
theorem dL_law_729 : decode cL_law 729 = .ok (.aload_n 3, 1) := by decide +kernel
theorem dL_law_730 : decode cL_law 730 = .ok (.invokestatic 94, 3) := by decide +kernel
theorem dL_law_733 : decode cL_law 733 = .ok (.istore 5, 2) := by decide +kernel
theorem dL_law_735 : decode cL_law 735 = .ok (.aload_n 2, 1) := by decide +kernel
theorem dL_law_736 : decode cL_law 736 = .ok (.aload_n 0, 1) := by decide +kernel
theorem dL_law_737 : decode cL_law 737 = .ok (.iload 4, 2) := by decide +kernel
theorem dL_law_739 : decode cL_law 739 = .ok (.iconst 1, 1) := by decide +kernel
theorem dL_law_740 : decode cL_law 740 = .ok (.iadd, 1) := by decide +kernel
theorem dL_law_741 : decode cL_law 741 = .ok (.iaload, 1) := by decide +kernel
theorem dL_law_742 : decode cL_law 742 = .ok (.i2l, 1) := by decide +kernel
theorem dL_law_743 : decode cL_law 743 = .ok (.bipush 32, 2) := by decide +kernel
theorem dL_law_745 : decode cL_law 745 = .ok (.lshl, 1) := by decide +kernel
theorem dL_law_746 : decode cL_law 746 = .ok (.aload_n 0, 1) := by decide +kernel
theorem dL_law_747 : decode cL_law 747 = .ok (.iload 4, 2) := by decide +kernel
theorem dL_law_749 : decode cL_law 749 = .ok (.iconst 2, 1) := by decide +kernel
theorem dL_law_750 : decode cL_law 750 = .ok (.iadd, 1) := by decide +kernel
theorem dL_law_751 : decode cL_law 751 = .ok (.iaload, 1) := by decide +kernel
theorem dL_law_752 : decode cL_law 752 = .ok (.i2l, 1) := by decide +kernel
theorem dL_law_753 : decode cL_law 753 = .ok (.ldc2_w 62, 3) := by decide +kernel
theorem dL_law_756 : decode cL_law 756 = .ok (.land, 1) := by decide +kernel
theorem dL_law_757 : decode cL_law 757 = .ok (.lor, 1) := by decide +kernel
theorem dL_law_758 : decode cL_law 758 = .ok (.aload_n 0, 1) := by decide +kernel
theorem dL_law_759 : decode cL_law 759 = .ok (.iload 4, 2) := by decide +kernel
theorem dL_law_761 : decode cL_law 761 = .ok (.iconst 3, 1) := by decide +kernel
theorem dL_law_762 : decode cL_law 762 = .ok (.iadd, 1) := by decide +kernel
theorem dL_law_763 : decode cL_law 763 = .ok (.iaload, 1) := by decide +kernel
theorem dL_law_764 : decode cL_law 764 = .ok (.i2l, 1) := by decide +kernel
theorem dL_law_765 : decode cL_law 765 = .ok (.bipush 32, 2) := by decide +kernel
theorem dL_law_767 : decode cL_law 767 = .ok (.lshl, 1) := by decide +kernel
theorem dL_law_768 : decode cL_law 768 = .ok (.aload_n 0, 1) := by decide +kernel
theorem dL_law_769 : decode cL_law 769 = .ok (.iload 4, 2) := by decide +kernel
theorem dL_law_771 : decode cL_law 771 = .ok (.iconst 4, 1) := by decide +kernel
theorem dL_law_772 : decode cL_law 772 = .ok (.iadd, 1) := by decide +kernel
theorem dL_law_773 : decode cL_law 773 = .ok (.iaload, 1) := by decide +kernel
theorem dL_law_774 : decode cL_law 774 = .ok (.i2l, 1) := by decide +kernel
theorem dL_law_775 : decode cL_law 775 = .ok (.ldc2_w 62, 3) := by decide +kernel
theorem dL_law_778 : decode cL_law 778 = .ok (.land, 1) := by decide +kernel
theorem dL_law_779 : decode cL_law 779 = .ok (.lor, 1) := by decide +kernel
theorem dL_law_780 : decode cL_law 780 = .ok (.invokevirtual 97, 3) := by decide +kernel
theorem dL_law_783 : decode cL_law 783 = .ok (.istore 6, 2) := by decide +kernel
theorem dL_law_785 : decode cL_law 785 = .ok (.aload_n 2, 1) := by decide +kernel
theorem dL_law_786 : decode cL_law 786 = .ok (.invokevirtual 70, 3) := by decide +kernel
theorem dL_law_789 : decode cL_law 789 = .ok (.iload 5, 2) := by decide +kernel
theorem dL_law_791 : decode cL_law 791 = .ok (.if_icmp .eq 5, 3) := by decide +kernel
theorem dL_law_794 : decode cL_law 794 = .ok (.iconst 0, 1) := by decide +kernel
theorem dL_law_795 : decode cL_law 795 = .ok (.ireturn, 1) := by decide +kernel
theorem dL_law_796 : decode cL_law 796 = .ok (.iload 5, 2) := by decide +kernel
theorem dL_law_798 : decode cL_law 798 = .ok (.ifCond .ne 15, 3) := by decide +kernel
theorem dL_law_801 : decode cL_law 801 = .ok (.aload_n 3, 1) := by decide +kernel
theorem dL_law_802 : decode cL_law 802 = .ok (.iconst 0, 1) := by decide +kernel
theorem dL_law_803 : decode cL_law 803 = .ok (.laload, 1) := by decide +kernel
theorem dL_law_804 : decode cL_law 804 = .ok (.iload 6, 2) := by decide +kernel
theorem dL_law_806 : decode cL_law 806 = .ok (.i2l, 1) := by decide +kernel
theorem dL_law_807 : decode cL_law 807 = .ok (.lcmp, 1) := by decide +kernel
theorem dL_law_808 : decode cL_law 808 = .ok (.ifCond .eq 5, 3) := by decide +kernel
theorem dL_law_811 : decode cL_law 811 = .ok (.iconst 0, 1) := by decide +kernel
theorem dL_law_812 : decode cL_law 812 = .ok (.ireturn, 1) := by decide +kernel
theorem dL_law_813 : decode cL_law 813 = .ok (.goto 372, 3) := by decide +kernel
theorem dL_law_816 : decode cL_law 816 = .ok (.aload_n 1, 1) := by decide +kernel
theorem dL_law_817 : decode cL_law 817 = .ok (.aload_n 3, 1) := by decide +kernel
theorem dL_law_818 : decode cL_law 818 = .ok (.invokestatic 98, 3) := by decide +kernel
theorem dL_law_821 : decode cL_law 821 = .ok (.istore 5, 2) := by decide +kernel
theorem dL_law_823 : decode cL_law 823 = .ok (.aload_n 2, 1) := by decide +kernel
theorem dL_law_824 : decode cL_law 824 = .ok (.invokevirtual 101, 3) := by decide +kernel
theorem dL_law_827 : decode cL_law 827 = .ok (.istore 6, 2) := by decide +kernel
theorem dL_law_829 : decode cL_law 829 = .ok (.aload_n 2, 1) := by decide +kernel
theorem dL_law_830 : decode cL_law 830 = .ok (.invokevirtual 70, 3) := by decide +kernel
theorem dL_law_833 : decode cL_law 833 = .ok (.iload 5, 2) := by decide +kernel
theorem dL_law_835 : decode cL_law 835 = .ok (.if_icmp .eq 5, 3) := by decide +kernel
theorem dL_law_838 : decode cL_law 838 = .ok (.iconst 0, 1) := by decide +kernel
theorem dL_law_839 : decode cL_law 839 = .ok (.ireturn, 1) := by decide +kernel
theorem dL_law_840 : decode cL_law 840 = .ok (.iload 5, 2) := by decide +kernel
theorem dL_law_842 : decode cL_law 842 = .ok (.ifCond .ne 15, 3) := by decide +kernel
theorem dL_law_845 : decode cL_law 845 = .ok (.aload_n 3, 1) := by decide +kernel
theorem dL_law_846 : decode cL_law 846 = .ok (.iconst 0, 1) := by decide +kernel
theorem dL_law_847 : decode cL_law 847 = .ok (.laload, 1) := by decide +kernel
theorem dL_law_848 : decode cL_law 848 = .ok (.iload 6, 2) := by decide +kernel
theorem dL_law_850 : decode cL_law 850 = .ok (.i2l, 1) := by decide +kernel
theorem dL_law_851 : decode cL_law 851 = .ok (.lcmp, 1) := by decide +kernel
theorem dL_law_852 : decode cL_law 852 = .ok (.ifCond .eq 5, 3) := by decide +kernel
theorem dL_law_855 : decode cL_law 855 = .ok (.iconst 0, 1) := by decide +kernel
theorem dL_law_856 : decode cL_law 856 = .ok (.ireturn, 1) := by decide +kernel
theorem dL_law_857 : decode cL_law 857 = .ok (.goto 328, 3) := by decide +kernel
theorem dL_law_860 : decode cL_law 860 = .ok (.aload_n 1, 1) := by decide +kernel
theorem dL_law_861 : decode cL_law 861 = .ok (.aload_n 0, 1) := by decide +kernel
theorem dL_law_862 : decode cL_law 862 = .ok (.iload 4, 2) := by decide +kernel
theorem dL_law_864 : decode cL_law 864 = .ok (.iconst 1, 1) := by decide +kernel
theorem dL_law_865 : decode cL_law 865 = .ok (.iadd, 1) := by decide +kernel
theorem dL_law_866 : decode cL_law 866 = .ok (.iaload, 1) := by decide +kernel
theorem dL_law_867 : decode cL_law 867 = .ok (.aload_n 3, 1) := by decide +kernel
theorem dL_law_868 : decode cL_law 868 = .ok (.invokestatic 102, 3) := by decide +kernel
theorem dL_law_871 : decode cL_law 871 = .ok (.istore 5, 2) := by decide +kernel
theorem dL_law_873 : decode cL_law 873 = .ok (.aload_n 2, 1) := by decide +kernel
theorem dL_law_874 : decode cL_law 874 = .ok (.aload_n 0, 1) := by decide +kernel
theorem dL_law_875 : decode cL_law 875 = .ok (.iload 4, 2) := by decide +kernel
theorem dL_law_877 : decode cL_law 877 = .ok (.iconst 1, 1) := by decide +kernel
theorem dL_law_878 : decode cL_law 878 = .ok (.iadd, 1) := by decide +kernel
theorem dL_law_879 : decode cL_law 879 = .ok (.iaload, 1) := by decide +kernel
theorem dL_law_880 : decode cL_law 880 = .ok (.invokevirtual 104, 3) := by decide +kernel
theorem dL_law_883 : decode cL_law 883 = .ok (.lstore 6, 2) := by decide +kernel
theorem dL_law_885 : decode cL_law 885 = .ok (.aload_n 2, 1) := by decide +kernel
theorem dL_law_886 : decode cL_law 886 = .ok (.invokevirtual 70, 3) := by decide +kernel
theorem dL_law_889 : decode cL_law 889 = .ok (.iload 5, 2) := by decide +kernel
theorem dL_law_891 : decode cL_law 891 = .ok (.if_icmp .eq 5, 3) := by decide +kernel
theorem dL_law_894 : decode cL_law 894 = .ok (.iconst 0, 1) := by decide +kernel
theorem dL_law_895 : decode cL_law 895 = .ok (.ireturn, 1) := by decide +kernel
theorem dL_law_896 : decode cL_law 896 = .ok (.iload 5, 2) := by decide +kernel
theorem dL_law_898 : decode cL_law 898 = .ok (.ifCond .ne 14, 3) := by decide +kernel
theorem dL_law_901 : decode cL_law 901 = .ok (.aload_n 3, 1) := by decide +kernel
theorem dL_law_902 : decode cL_law 902 = .ok (.iconst 0, 1) := by decide +kernel
theorem dL_law_903 : decode cL_law 903 = .ok (.laload, 1) := by decide +kernel
theorem dL_law_904 : decode cL_law 904 = .ok (.lload 6, 2) := by decide +kernel
theorem dL_law_906 : decode cL_law 906 = .ok (.lcmp, 1) := by decide +kernel
theorem dL_law_907 : decode cL_law 907 = .ok (.ifCond .eq 5, 3) := by decide +kernel
theorem dL_law_910 : decode cL_law 910 = .ok (.iconst 0, 1) := by decide +kernel
theorem dL_law_911 : decode cL_law 911 = .ok (.ireturn, 1) := by decide +kernel
theorem dL_law_912 : decode cL_law 912 = .ok (.goto 273, 3) := by decide +kernel
theorem dL_law_915 : decode cL_law 915 = .ok (.aload_n 1, 1) := by decide +kernel
theorem dL_law_916 : decode cL_law 916 = .ok (.aload_n 0, 1) := by decide +kernel
theorem dL_law_917 : decode cL_law 917 = .ok (.iload 4, 2) := by decide +kernel
theorem dL_law_919 : decode cL_law 919 = .ok (.iconst 1, 1) := by decide +kernel
theorem dL_law_920 : decode cL_law 920 = .ok (.iadd, 1) := by decide +kernel
theorem dL_law_921 : decode cL_law 921 = .ok (.iaload, 1) := by decide +kernel
theorem dL_law_922 : decode cL_law 922 = .ok (.i2l, 1) := by decide +kernel
theorem dL_law_923 : decode cL_law 923 = .ok (.bipush 32, 2) := by decide +kernel
theorem dL_law_925 : decode cL_law 925 = .ok (.lshl, 1) := by decide +kernel
theorem dL_law_926 : decode cL_law 926 = .ok (.aload_n 0, 1) := by decide +kernel
theorem dL_law_927 : decode cL_law 927 = .ok (.iload 4, 2) := by decide +kernel
theorem dL_law_929 : decode cL_law 929 = .ok (.iconst 2, 1) := by decide +kernel
theorem dL_law_930 : decode cL_law 930 = .ok (.iadd, 1) := by decide +kernel
theorem dL_law_931 : decode cL_law 931 = .ok (.iaload, 1) := by decide +kernel
theorem dL_law_932 : decode cL_law 932 = .ok (.i2l, 1) := by decide +kernel
theorem dL_law_933 : decode cL_law 933 = .ok (.ldc2_w 62, 3) := by decide +kernel
theorem dL_law_936 : decode cL_law 936 = .ok (.land, 1) := by decide +kernel
theorem dL_law_937 : decode cL_law 937 = .ok (.lor, 1) := by decide +kernel
theorem dL_law_938 : decode cL_law 938 = .ok (.invokevirtual 105, 3) := by decide +kernel
theorem dL_law_941 : decode cL_law 941 = .ok (.aload_n 2, 1) := by decide +kernel
theorem dL_law_942 : decode cL_law 942 = .ok (.aload_n 0, 1) := by decide +kernel
theorem dL_law_943 : decode cL_law 943 = .ok (.iload 4, 2) := by decide +kernel
theorem dL_law_945 : decode cL_law 945 = .ok (.iconst 1, 1) := by decide +kernel
theorem dL_law_946 : decode cL_law 946 = .ok (.iadd, 1) := by decide +kernel
theorem dL_law_947 : decode cL_law 947 = .ok (.iaload, 1) := by decide +kernel
theorem dL_law_948 : decode cL_law 948 = .ok (.i2l, 1) := by decide +kernel
theorem dL_law_949 : decode cL_law 949 = .ok (.bipush 32, 2) := by decide +kernel
theorem dL_law_951 : decode cL_law 951 = .ok (.lshl, 1) := by decide +kernel
theorem dL_law_952 : decode cL_law 952 = .ok (.aload_n 0, 1) := by decide +kernel
theorem dL_law_953 : decode cL_law 953 = .ok (.iload 4, 2) := by decide +kernel
theorem dL_law_955 : decode cL_law 955 = .ok (.iconst 2, 1) := by decide +kernel
theorem dL_law_956 : decode cL_law 956 = .ok (.iadd, 1) := by decide +kernel
theorem dL_law_957 : decode cL_law 957 = .ok (.iaload, 1) := by decide +kernel
theorem dL_law_958 : decode cL_law 958 = .ok (.i2l, 1) := by decide +kernel
theorem dL_law_959 : decode cL_law 959 = .ok (.ldc2_w 62, 3) := by decide +kernel
theorem dL_law_962 : decode cL_law 962 = .ok (.land, 1) := by decide +kernel
theorem dL_law_963 : decode cL_law 963 = .ok (.lor, 1) := by decide +kernel
theorem dL_law_964 : decode cL_law 964 = .ok (.invokevirtual 108, 3) := by decide +kernel
theorem dL_law_967 : decode cL_law 967 = .ok (.if_icmp .eq 218, 3) := by decide +kernel
theorem dL_law_970 : decode cL_law 970 = .ok (.iconst 0, 1) := by decide +kernel
theorem dL_law_971 : decode cL_law 971 = .ok (.ireturn, 1) := by decide +kernel
theorem dL_law_972 : decode cL_law 972 = .ok (.aload_n 1, 1) := by decide +kernel
theorem dL_law_973 : decode cL_law 973 = .ok (.aload_n 3, 1) := by decide +kernel
theorem dL_law_974 : decode cL_law 974 = .ok (.invokestatic 109, 3) := by decide +kernel
theorem dL_law_977 : decode cL_law 977 = .ok (.istore 5, 2) := by decide +kernel
theorem dL_law_979 : decode cL_law 979 = .ok (.aload_n 2, 1) := by decide +kernel
theorem dL_law_980 : decode cL_law 980 = .ok (.invokevirtual 111, 3) := by decide +kernel
theorem dL_law_983 : decode cL_law 983 = .ok (.istore 6, 2) := by decide +kernel
theorem dL_law_985 : decode cL_law 985 = .ok (.aload_n 2, 1) := by decide +kernel
theorem dL_law_986 : decode cL_law 986 = .ok (.invokevirtual 70, 3) := by decide +kernel
theorem dL_law_989 : decode cL_law 989 = .ok (.iload 5, 2) := by decide +kernel
theorem dL_law_991 : decode cL_law 991 = .ok (.if_icmp .eq 5, 3) := by decide +kernel
theorem dL_law_994 : decode cL_law 994 = .ok (.iconst 0, 1) := by decide +kernel
theorem dL_law_995 : decode cL_law 995 = .ok (.ireturn, 1) := by decide +kernel
theorem dL_law_996 : decode cL_law 996 = .ok (.iload 5, 2) := by decide +kernel
theorem dL_law_998 : decode cL_law 998 = .ok (.ifCond .ne 15, 3) := by decide +kernel
theorem dL_law_1001 : decode cL_law 1001 = .ok (.aload_n 3, 1) := by decide +kernel
theorem dL_law_1002 : decode cL_law 1002 = .ok (.iconst 0, 1) := by decide +kernel
theorem dL_law_1003 : decode cL_law 1003 = .ok (.laload, 1) := by decide +kernel
theorem dL_law_1004 : decode cL_law 1004 = .ok (.iload 6, 2) := by decide +kernel
theorem dL_law_1006 : decode cL_law 1006 = .ok (.i2l, 1) := by decide +kernel
theorem dL_law_1007 : decode cL_law 1007 = .ok (.lcmp, 1) := by decide +kernel
theorem dL_law_1008 : decode cL_law 1008 = .ok (.ifCond .eq 5, 3) := by decide +kernel
theorem dL_law_1011 : decode cL_law 1011 = .ok (.iconst 0, 1) := by decide +kernel
theorem dL_law_1012 : decode cL_law 1012 = .ok (.ireturn, 1) := by decide +kernel
theorem dL_law_1013 : decode cL_law 1013 = .ok (.goto 172, 3) := by decide +kernel
theorem dL_law_1016 : decode cL_law 1016 = .ok (.aload_n 1, 1) := by decide +kernel
theorem dL_law_1017 : decode cL_law 1017 = .ok (.aload_n 3, 1) := by decide +kernel
theorem dL_law_1018 : decode cL_law 1018 = .ok (.invokestatic 112, 3) := by decide +kernel
theorem dL_law_1021 : decode cL_law 1021 = .ok (.istore 5, 2) := by decide +kernel
theorem dL_law_1023 : decode cL_law 1023 = .ok (.aload_n 2, 1) := by decide +kernel
theorem dL_law_1024 : decode cL_law 1024 = .ok (.invokevirtual 114, 3) := by decide +kernel
theorem dL_law_1027 : decode cL_law 1027 = .ok (.lstore 6, 2) := by decide +kernel
theorem dL_law_1029 : decode cL_law 1029 = .ok (.aload_n 2, 1) := by decide +kernel
theorem dL_law_1030 : decode cL_law 1030 = .ok (.invokevirtual 70, 3) := by decide +kernel
theorem dL_law_1033 : decode cL_law 1033 = .ok (.iload 5, 2) := by decide +kernel
theorem dL_law_1035 : decode cL_law 1035 = .ok (.if_icmp .eq 5, 3) := by decide +kernel
theorem dL_law_1038 : decode cL_law 1038 = .ok (.iconst 0, 1) := by decide +kernel
theorem dL_law_1039 : decode cL_law 1039 = .ok (.ireturn, 1) := by decide +kernel
theorem dL_law_1040 : decode cL_law 1040 = .ok (.iload 5, 2) := by decide +kernel
theorem dL_law_1042 : decode cL_law 1042 = .ok (.ifCond .ne 14, 3) := by decide +kernel
theorem dL_law_1045 : decode cL_law 1045 = .ok (.aload_n 3, 1) := by decide +kernel
theorem dL_law_1046 : decode cL_law 1046 = .ok (.iconst 0, 1) := by decide +kernel
theorem dL_law_1047 : decode cL_law 1047 = .ok (.laload, 1) := by decide +kernel
theorem dL_law_1048 : decode cL_law 1048 = .ok (.lload 6, 2) := by decide +kernel
theorem dL_law_1050 : decode cL_law 1050 = .ok (.lcmp, 1) := by decide +kernel
theorem dL_law_1051 : decode cL_law 1051 = .ok (.ifCond .eq 5, 3) := by decide +kernel
theorem dL_law_1054 : decode cL_law 1054 = .ok (.iconst 0, 1) := by decide +kernel
theorem dL_law_1055 : decode cL_law 1055 = .ok (.ireturn, 1) := by decide +kernel
theorem dL_law_1056 : decode cL_law 1056 = .ok (.goto 129, 3) := by decide +kernel
theorem dL_law_1059 : decode cL_law 1059 = .ok (.aload_n 1, 1) := by decide +kernel
theorem dL_law_1060 : decode cL_law 1060 = .ok (.aload_n 0, 1) := by decide +kernel
theorem dL_law_1061 : decode cL_law 1061 = .ok (.iload 4, 2) := by decide +kernel
theorem dL_law_1063 : decode cL_law 1063 = .ok (.iconst 1, 1) := by decide +kernel
theorem dL_law_1064 : decode cL_law 1064 = .ok (.iadd, 1) := by decide +kernel
theorem dL_law_1065 : decode cL_law 1065 = .ok (.iaload, 1) := by decide +kernel
theorem dL_law_1066 : decode cL_law 1066 = .ok (.i2l, 1) := by decide +kernel
theorem dL_law_1067 : decode cL_law 1067 = .ok (.bipush 32, 2) := by decide +kernel
theorem dL_law_1069 : decode cL_law 1069 = .ok (.lshl, 1) := by decide +kernel
theorem dL_law_1070 : decode cL_law 1070 = .ok (.aload_n 0, 1) := by decide +kernel
theorem dL_law_1071 : decode cL_law 1071 = .ok (.iload 4, 2) := by decide +kernel
theorem dL_law_1073 : decode cL_law 1073 = .ok (.iconst 2, 1) := by decide +kernel
theorem dL_law_1074 : decode cL_law 1074 = .ok (.iadd, 1) := by decide +kernel
theorem dL_law_1075 : decode cL_law 1075 = .ok (.iaload, 1) := by decide +kernel
theorem dL_law_1076 : decode cL_law 1076 = .ok (.i2l, 1) := by decide +kernel
theorem dL_law_1077 : decode cL_law 1077 = .ok (.ldc2_w 62, 3) := by decide +kernel
theorem dL_law_1080 : decode cL_law 1080 = .ok (.land, 1) := by decide +kernel
theorem dL_law_1081 : decode cL_law 1081 = .ok (.lor, 1) := by decide +kernel
theorem dL_law_1082 : decode cL_law 1082 = .ok (.aload_n 0, 1) := by decide +kernel
theorem dL_law_1083 : decode cL_law 1083 = .ok (.iload 4, 2) := by decide +kernel
theorem dL_law_1085 : decode cL_law 1085 = .ok (.iconst 3, 1) := by decide +kernel
theorem dL_law_1086 : decode cL_law 1086 = .ok (.iadd, 1) := by decide +kernel
theorem dL_law_1087 : decode cL_law 1087 = .ok (.iaload, 1) := by decide +kernel
theorem dL_law_1088 : decode cL_law 1088 = .ok (.i2l, 1) := by decide +kernel
theorem dL_law_1089 : decode cL_law 1089 = .ok (.bipush 32, 2) := by decide +kernel
theorem dL_law_1091 : decode cL_law 1091 = .ok (.lshl, 1) := by decide +kernel
theorem dL_law_1092 : decode cL_law 1092 = .ok (.aload_n 0, 1) := by decide +kernel
theorem dL_law_1093 : decode cL_law 1093 = .ok (.iload 4, 2) := by decide +kernel
theorem dL_law_1095 : decode cL_law 1095 = .ok (.iconst 4, 1) := by decide +kernel
theorem dL_law_1096 : decode cL_law 1096 = .ok (.iadd, 1) := by decide +kernel
theorem dL_law_1097 : decode cL_law 1097 = .ok (.iaload, 1) := by decide +kernel
theorem dL_law_1098 : decode cL_law 1098 = .ok (.i2l, 1) := by decide +kernel
theorem dL_law_1099 : decode cL_law 1099 = .ok (.ldc2_w 62, 3) := by decide +kernel
theorem dL_law_1102 : decode cL_law 1102 = .ok (.land, 1) := by decide +kernel
theorem dL_law_1103 : decode cL_law 1103 = .ok (.lor, 1) := by decide +kernel
theorem dL_law_1104 : decode cL_law 1104 = .ok (.invokevirtual 115, 3) := by decide +kernel
theorem dL_law_1107 : decode cL_law 1107 = .ok (.aload_n 2, 1) := by decide +kernel
theorem dL_law_1108 : decode cL_law 1108 = .ok (.aload_n 0, 1) := by decide +kernel
theorem dL_law_1109 : decode cL_law 1109 = .ok (.iload 4, 2) := by decide +kernel
theorem dL_law_1111 : decode cL_law 1111 = .ok (.iconst 1, 1) := by decide +kernel
theorem dL_law_1112 : decode cL_law 1112 = .ok (.iadd, 1) := by decide +kernel
theorem dL_law_1113 : decode cL_law 1113 = .ok (.iaload, 1) := by decide +kernel
theorem dL_law_1114 : decode cL_law 1114 = .ok (.i2l, 1) := by decide +kernel
theorem dL_law_1115 : decode cL_law 1115 = .ok (.bipush 32, 2) := by decide +kernel
theorem dL_law_1117 : decode cL_law 1117 = .ok (.lshl, 1) := by decide +kernel
theorem dL_law_1118 : decode cL_law 1118 = .ok (.aload_n 0, 1) := by decide +kernel
theorem dL_law_1119 : decode cL_law 1119 = .ok (.iload 4, 2) := by decide +kernel
theorem dL_law_1121 : decode cL_law 1121 = .ok (.iconst 2, 1) := by decide +kernel
theorem dL_law_1122 : decode cL_law 1122 = .ok (.iadd, 1) := by decide +kernel
theorem dL_law_1123 : decode cL_law 1123 = .ok (.iaload, 1) := by decide +kernel
theorem dL_law_1124 : decode cL_law 1124 = .ok (.i2l, 1) := by decide +kernel
theorem dL_law_1125 : decode cL_law 1125 = .ok (.ldc2_w 62, 3) := by decide +kernel
theorem dL_law_1128 : decode cL_law 1128 = .ok (.land, 1) := by decide +kernel
theorem dL_law_1129 : decode cL_law 1129 = .ok (.lor, 1) := by decide +kernel
theorem dL_law_1130 : decode cL_law 1130 = .ok (.aload_n 0, 1) := by decide +kernel
theorem dL_law_1131 : decode cL_law 1131 = .ok (.iload 4, 2) := by decide +kernel
theorem dL_law_1133 : decode cL_law 1133 = .ok (.iconst 3, 1) := by decide +kernel
theorem dL_law_1134 : decode cL_law 1134 = .ok (.iadd, 1) := by decide +kernel
theorem dL_law_1135 : decode cL_law 1135 = .ok (.iaload, 1) := by decide +kernel
theorem dL_law_1136 : decode cL_law 1136 = .ok (.i2l, 1) := by decide +kernel
theorem dL_law_1137 : decode cL_law 1137 = .ok (.bipush 32, 2) := by decide +kernel
theorem dL_law_1139 : decode cL_law 1139 = .ok (.lshl, 1) := by decide +kernel
theorem dL_law_1140 : decode cL_law 1140 = .ok (.aload_n 0, 1) := by decide +kernel
theorem dL_law_1141 : decode cL_law 1141 = .ok (.iload 4, 2) := by decide +kernel
theorem dL_law_1143 : decode cL_law 1143 = .ok (.iconst 4, 1) := by decide +kernel
theorem dL_law_1144 : decode cL_law 1144 = .ok (.iadd, 1) := by decide +kernel
theorem dL_law_1145 : decode cL_law 1145 = .ok (.iaload, 1) := by decide +kernel
theorem dL_law_1146 : decode cL_law 1146 = .ok (.i2l, 1) := by decide +kernel
theorem dL_law_1147 : decode cL_law 1147 = .ok (.ldc2_w 62, 3) := by decide +kernel
theorem dL_law_1150 : decode cL_law 1150 = .ok (.land, 1) := by decide +kernel
theorem dL_law_1151 : decode cL_law 1151 = .ok (.lor, 1) := by decide +kernel
theorem dL_law_1152 : decode cL_law 1152 = .ok (.invokevirtual 118, 3) := by decide +kernel
theorem dL_law_1155 : decode cL_law 1155 = .ok (.if_icmp .eq 30, 3) := by decide +kernel
theorem dL_law_1158 : decode cL_law 1158 = .ok (.iconst 0, 1) := by decide +kernel
theorem dL_law_1159 : decode cL_law 1159 = .ok (.ireturn, 1) := by decide +kernel
theorem dL_law_1160 : decode cL_law 1160 = .ok (.aload_n 1, 1) := by decide +kernel
theorem dL_law_1161 : decode cL_law 1161 = .ok (.aload_n 0, 1) := by decide +kernel
theorem dL_law_1162 : decode cL_law 1162 = .ok (.iload 4, 2) := by decide +kernel
theorem dL_law_1164 : decode cL_law 1164 = .ok (.iconst 1, 1) := by decide +kernel
theorem dL_law_1165 : decode cL_law 1165 = .ok (.iadd, 1) := by decide +kernel
theorem dL_law_1166 : decode cL_law 1166 = .ok (.iaload, 1) := by decide +kernel
theorem dL_law_1167 : decode cL_law 1167 = .ok (.invokevirtual 119, 3) := by decide +kernel
theorem dL_law_1170 : decode cL_law 1170 = .ok (.aload_n 2, 1) := by decide +kernel
theorem dL_law_1171 : decode cL_law 1171 = .ok (.aload_n 0, 1) := by decide +kernel
theorem dL_law_1172 : decode cL_law 1172 = .ok (.iload 4, 2) := by decide +kernel
theorem dL_law_1174 : decode cL_law 1174 = .ok (.iconst 1, 1) := by decide +kernel
theorem dL_law_1175 : decode cL_law 1175 = .ok (.iadd, 1) := by decide +kernel
theorem dL_law_1176 : decode cL_law 1176 = .ok (.iaload, 1) := by decide +kernel
theorem dL_law_1177 : decode cL_law 1177 = .ok (.invokevirtual 122, 3) := by decide +kernel
theorem dL_law_1180 : decode cL_law 1180 = .ok (.if_icmp .eq 5, 3) := by decide +kernel
theorem dL_law_1183 : decode cL_law 1183 = .ok (.iconst 0, 1) := by decide +kernel
theorem dL_law_1184 : decode cL_law 1184 = .ok (.ireturn, 1) := by decide +kernel
theorem dL_law_1185 : decode cL_law 1185 = .ok (.iinc 4 7, 3) := by decide +kernel
theorem dL_law_1188 : decode cL_law 1188 = .ok (.goto (-1165), 3) := by decide +kernel
theorem dL_law_1191 : decode cL_law 1191 = .ok (.iconst 1, 1) := by decide +kernel
theorem dL_law_1192 : decode cL_law 1192 = .ok (.ireturn, 1) := by decide +kernel
end
section
/-! pure rows: sums over the first n, a list of numbers in an order against all numbers, the first place that fails, folds -/
def ft_sum {α : Type} (op : α → α → α) (z : α) (f : Nat → α) : Nat → α
  | 0 => z
  | n + 1 => op (ft_sum op z f n) (f n)
theorem ft_sum_congr {α : Type} {op : α → α → α} {z : α} {f g : Nat → α} {n : Nat} (h : ∀ i, i < n → f i = g i) : ft_sum op z f n = ft_sum op z g n := by
  induction n with
  | zero => rfl
  | succ n ih =>
    show op (ft_sum op z f n) (f n) = op (ft_sum op z g n) (g n)
    rw [ih (fun i hi => h i (by omega)), h n (by omega)]
theorem ft_sum_zero {α : Type} {op : α → α → α} {z : α} {f : Nat → α} {n : Nat} (hz : op z z = z) (h : ∀ i, i < n → f i = z) : ft_sum op z f n = z := by
  induction n with
  | zero => rfl
  | succ n ih =>
    show op (ft_sum op z f n) (f n) = z
    rw [ih (fun i hi => h i (by omega)), h n (by omega), hz]
theorem ft_sum_out {α : Type} {op : α → α → α} {z : α} (hc : ∀ a b, op a b = op b a) (ha : ∀ a b c, op (op a b) c = op a (op b c)) (hz : ∀ a, op a z = a) (f : Nat → α) (a : Nat) :
    ∀ n, a < n → ft_sum op z f n = op (ft_sum op z (fun i => if i = a then z else f i) n) (f a) := by
  intro n
  induction n with
  | zero => intro h; omega
  | succ n ih =>
    intro h
    show op (ft_sum op z f n) (f n) = op (op (ft_sum op z (fun i => if i = a then z else f i) n) (if n = a then z else f n)) (f a)
    by_cases e : n = a
    · have e2 : ft_sum op z f n = ft_sum op z (fun i => if i = a then z else f i) n := ft_sum_congr (fun i hi => by rw [if_neg (by omega)])
      rw [if_pos e, hz, ← e2, e]
    · rw [if_neg e, ih (by omega), ha, hc (f a) (f n), ← ha]
theorem ft_perm {α : Type} {op : α → α → α} {z : α} (hc : ∀ a b, op a b = op b a) (ha : ∀ a b c, op (op a b) c = op a (op b c)) (hz : ∀ a, op a z = a) (f : Nat → α) (N : Nat) :
    ∀ (sz : Nat) (T : Nat → Bool) (Lf : Nat → Nat), (∀ i, i < sz → Lf i < N ∧ T (Lf i) = true) → (∀ n, n < N → T n = true → ∃ i, i < sz ∧ Lf i = n) → (∀ i j, i < j → j < sz → Lf i ≠ Lf j) →
      ft_sum op z (fun i => f (Lf i)) sz = ft_sum op z (fun n => if T n = true then f n else z) N := by
  intro sz
  induction sz with
  | zero =>
    intro T Lf _ h2 _
    refine (ft_sum_zero (hz z) (fun n hn => ?_)).symm
    rw [if_neg]
    intro ht
    obtain ⟨i, hi, _⟩ := h2 n hn ht
    omega
  | succ k ih =>
    intro T Lf h1 h2 h3
    have hk := h1 k (by omega)
    rw [ft_sum_out hc ha hz (fun n => if T n = true then f n else z) (Lf k) N hk.1]
    show op (ft_sum op z (fun i => f (Lf i)) k) (f (Lf k)) = op (ft_sum op z (fun i => if i = Lf k then z else if T i = true then f i else z) N) (if T (Lf k) = true then f (Lf k) else z)
    have e2 := ih (fun n => if n = Lf k then false else T n) Lf (fun i hi => ⟨(h1 i (by omega)).1, by
        show (if Lf i = Lf k then false else T (Lf i)) = true
        rw [if_neg (h3 i k hi (by omega))]
        exact (h1 i (by omega)).2⟩) (fun n hn ht => by
        have ht : (if n = Lf k then false else T n) = true := ht
        by_cases e : n = Lf k
        · rw [if_pos e] at ht
          cases ht
        · rw [if_neg e] at ht
          obtain ⟨i, hi, hi2⟩ := h2 n hn ht
          refine ⟨i, ?_, hi2⟩
          by_cases e3 : i = k
          · exact absurd (by rw [← hi2, e3]) e
          · omega) (fun i j hi hj => h3 i j hi (by omega))
    rw [e2, if_pos hk.2]
    refine congrArg (fun q => op q (f (Lf k))) (ft_sum_congr (fun n _ => ?_))
    by_cases e : n = Lf k
    · simp [e]
    · simp [e]
theorem ft_sum_one (n : Nat) : ft_sum (fun a b : Nat => a + b) 0 (fun _ => 1) n = n := by
  induction n with
  | zero => rfl
  | succ n ih =>
    show ft_sum (fun a b : Nat => a + b) 0 (fun _ => 1) n + 1 = n + 1
    rw [ih]
/-- a fold from below -/
def ft_gf {α : Type} (step : Nat → α → α) (a0 : α) : Nat → α
  | 0 => a0
  | n + 1 => step n (ft_gf step a0 n)
theorem ft_gf_sum {α : Type} {op : α → α → α} {z : α} (hz : ∀ a, op a z = a) (P : Nat → Bool) (f : Nat → α) (n : Nat) :
    ft_gf (fun k acc => if P k = true then op acc (f k) else acc) z n = ft_sum op z (fun k => if P k = true then f k else z) n := by
  induction n with
  | zero => rfl
  | succ n ih =>
    show (if P n = true then op (ft_gf _ z n) (f n) else ft_gf _ z n) = op (ft_sum op z _ n) (if P n = true then f n else z)
    by_cases h : P n = true
    · rw [if_pos h, if_pos h, ih]
    · rw [if_neg h, if_neg h, ih, hz]
/-- the first place from i on, k more at the most, at which P fails -/
def ft_fb (P : Nat → Bool) : Nat → Nat → Nat
  | 0, i => i
  | k + 1, i => if P i = true then ft_fb P k (i + 1) else i
theorem ft_fb_spec (P : Nat → Bool) : ∀ k i, i ≤ ft_fb P k i ∧ ft_fb P k i ≤ i + k ∧ (∀ j, i ≤ j → j < ft_fb P k i → P j = true) ∧ (ft_fb P k i < i + k → P (ft_fb P k i) = false) := by
  intro k
  induction k with
  | zero =>
    intro i
    refine ⟨Nat.le_refl _, Nat.le_refl _, fun j h1 h2 => ?_, fun h => ?_⟩
    · have h2 : j < i := h2
      omega
    · have h : i < i + 0 := h
      omega
  | succ k ih =>
    intro i
    by_cases h : P i = true
    · have e : ft_fb P (k + 1) i = ft_fb P k (i + 1) := by
        show (if P i = true then ft_fb P k (i + 1) else i) = _
        rw [if_pos h]
      rw [e]
      obtain ⟨h1, h2, h3, h4⟩ := ih (i + 1)
      refine ⟨by omega, by omega, fun j hj hj2 => ?_, fun hh => h4 (by omega)⟩
      by_cases ej : j = i
      · rw [ej]; exact h
      · exact h3 j (by omega) hj2
    · have e : ft_fb P (k + 1) i = i := by
        show (if P i = true then ft_fb P k (i + 1) else i) = _
        rw [if_neg h]
      rw [e]
      refine ⟨Nat.le_refl _, by omega, fun j h1 h2 => by omega, fun _ => by simpa using h⟩
theorem ft_fb_congr {P P' : Nat → Bool} : ∀ k i, (∀ j, i ≤ j → j < i + k → P j = P' j) → ft_fb P k i = ft_fb P' k i := by
  intro k
  induction k with
  | zero => intro i _; rfl
  | succ k ih =>
    intro i h
    show (if P i = true then ft_fb P k (i + 1) else i) = (if P' i = true then ft_fb P' k (i + 1) else i)
    rw [h i (Nat.le_refl _) (by omega), ih (i + 1) (fun j h1 h2 => h j (by omega) (by omega))]
/-- it is the one place with all before it good and itself, if it is one, bad -/
theorem ft_fb_eq {P : Nat → Bool} {n p : Nat} (hp : p ≤ n) (h1 : ∀ j, j < p → P j = true) (h2 : p < n → P p = false) : ft_fb P n 0 = p := by
  obtain ⟨_, b2, b3, b4⟩ := ft_fb_spec P n 0
  by_cases c : ft_fb P n 0 < p
  · have := h1 _ c
    rw [b4 (by omega)] at this
    cases this
  · by_cases c2 : p < ft_fb P n 0
    · have := b3 p (by omega) c2
      rw [h2 (by omega)] at this
      cases this
    · omega
end
section
/-! the order: numbers in a row, by key and then by number -/
def ft_bf (K : Nat → Int64) (a b : Nat) : Prop := K a < K b ∨ (K a = K b ∧ a < b)
theorem ft_bf_irr {K : Nat → Int64} {a : Nat} : ¬ ft_bf K a a := by
  unfold ft_bf
  simp only [Int64.lt_iff_toInt_lt, ← Int64.toInt_inj]
  omega
theorem ft_bf_tr {K : Nat → Int64} {a b c : Nat} (h1 : ft_bf K a b) (h2 : ft_bf K b c) : ft_bf K a c := by
  unfold ft_bf at *
  simp only [Int64.lt_iff_toInt_lt, ← Int64.toInt_inj] at *
  omega
theorem ft_bf_tot {K : Nat → Int64} {a b : Nat} (h : a ≠ b) : ft_bf K a b ∨ ft_bf K b a := by
  unfold ft_bf
  simp only [Int64.lt_iff_toInt_lt, ← Int64.toInt_inj]
  omega
/-- T: who is there; K, w: keys and weights; the numbers that are there stand in the row Lf 0 .. Lf (sz - 1) in the order -/
def ft_iv (T : Nat → Bool) (K : Nat → Int64) (w : Nat → Int32) (Lf : Nat → Nat) (sz : Nat) : Prop :=
  (∀ n, T n = true → n < 200 ∧ 1 ≤ (w n).toInt ∧ (w n).toInt ≤ 1000 ∧ -2199023255552 ≤ (K n).toInt ∧ (K n).toInt ≤ 2199023255552) ∧
  (∀ i, i < sz → T (Lf i) = true) ∧ (∀ n, T n = true → ∃ i, i < sz ∧ Lf i = n) ∧ (∀ i j, i < j → j < sz → ft_bf K (Lf i) (Lf j))
theorem ft_iv_0 (K : Nat → Int64) (w : Nat → Int32) (Lf : Nat → Nat) : ft_iv (fun _ => false) K w Lf 0 :=
  ⟨fun _ h => (by cases h), fun _ h => (by omega), fun _ h => (by cases h), fun _ _ _ h => (by omega)⟩
theorem ft_iv_ne {T : Nat → Bool} {K : Nat → Int64} {w : Nat → Int32} {Lf : Nat → Nat} {sz : Nat} (h : ft_iv T K w Lf sz) {i j : Nat} (hij : i < j) (hj : j < sz) : Lf i ≠ Lf j := by
  intro e
  have h1 := h.2.2.2 i j hij hj
  rw [e] at h1
  exact ft_bf_irr h1
theorem ft_iv_inj {T : Nat → Bool} {K : Nat → Int64} {w : Nat → Int32} {Lf : Nat → Nat} {sz : Nat} (h : ft_iv T K w Lf sz) {i j : Nat} (hi : i < sz) (hj : j < sz) (e : Lf i = Lf j) : i = j := by
  rcases Nat.lt_trichotomy i j with c | c | c
  · exact absurd e (ft_iv_ne h c hj)
  · exact c
  · exact absurd e.symm (ft_iv_ne h c hi)
theorem ft_iv_lt {T : Nat → Bool} {K : Nat → Int64} {w : Nat → Int32} {Lf : Nat → Nat} {sz : Nat} (h : ft_iv T K w Lf sz) {i : Nat} (hi : i < sz) : Lf i < 200 := (h.1 _ (h.2.1 i hi)).1
/-- a beginning of the row against the numbers that it holds -/
theorem ft_iv_pre {α : Type} {op : α → α → α} {z : α} (hc : ∀ a b, op a b = op b a) (ha : ∀ a b c, op (op a b) c = op a (op b c)) (hz : ∀ a, op a z = a)
    {T : Nat → Bool} {K : Nat → Int64} {w : Nat → Int32} {Lf : Nat → Nat} {sz : Nat} (h : ft_iv T K w Lf sz) (f : Nat → α) (P : Nat → Bool) {p : Nat} (hp : p ≤ sz)
    (h1 : ∀ i, i < p → P (Lf i) = true) (h2 : ∀ i, p ≤ i → i < sz → P (Lf i) = false) :
    ft_sum op z (fun i => f (Lf i)) p = ft_sum op z (fun n => if (T n && P n) = true then f n else z) 200 := by
  refine ft_perm hc ha hz f 200 p (fun n => T n && P n) Lf (fun i hi => ⟨ft_iv_lt h (by omega), ?_⟩) (fun n _ ht => ?_) (fun i j hi hj => ft_iv_ne h hi (by omega))
  · show (T (Lf i) && P (Lf i)) = true
    rw [h.2.1 i (by omega), h1 i hi]; rfl
  · have ht : (T n && P n) = true := ht
    rw [Bool.and_eq_true] at ht
    obtain ⟨i, hi, e⟩ := h.2.2.1 n ht.1
    refine ⟨i, ?_, e⟩
    by_cases c : i < p
    · exact c
    · have := h2 i (by omega) hi
      rw [e, ht.2] at this
      cases this
theorem ft_iv_sum {α : Type} {op : α → α → α} {z : α} (hc : ∀ a b, op a b = op b a) (ha : ∀ a b c, op (op a b) c = op a (op b c)) (hz : ∀ a, op a z = a)
    {T : Nat → Bool} {K : Nat → Int64} {w : Nat → Int32} {Lf : Nat → Nat} {sz : Nat} (h : ft_iv T K w Lf sz) (f : Nat → α) :
    ft_sum op z (fun i => f (Lf i)) sz = ft_sum op z (fun n => if T n = true then f n else z) 200 :=
  ft_perm hc ha hz f 200 sz T Lf (fun i hi => ⟨ft_iv_lt h hi, h.2.1 i hi⟩) (fun n _ ht => h.2.2.1 n ht) (fun i j hi hj => ft_iv_ne h hi hj)
/-- how many there are -/
def ft_cnt (P : Nat → Bool) (n : Nat) : Nat := ft_sum (fun a b : Nat => a + b) 0 (fun k => if P k = true then 1 else 0) n
theorem ft_cnt_le (P : Nat → Bool) (n : Nat) : ft_cnt P n ≤ n := by
  induction n with
  | zero => exact Nat.le_refl _
  | succ n ih =>
    have h2 : (if P n = true then 1 else 0) ≤ 1 := by
      by_cases h : P n = true
      · rw [if_pos h]; omega
      · rw [if_neg h]; omega
    have e : ft_cnt P (n + 1) = ft_cnt P n + (if P n = true then 1 else 0) := rfl
    omega
theorem ft_iv_cnt {T : Nat → Bool} {K : Nat → Int64} {w : Nat → Int32} {Lf : Nat → Nat} {sz : Nat} (h : ft_iv T K w Lf sz) : ft_cnt T 200 = sz := by
  have e := ft_iv_sum (op := fun a b : Nat => a + b) (z := 0) (fun a b => Nat.add_comm a b) (fun a b c => Nat.add_assoc a b c) (fun a => Nat.add_zero a) h (fun _ => 1)
  rw [ft_sum_one] at e
  exact e.symm
theorem ft_iv_le {T : Nat → Bool} {K : Nat → Int64} {w : Nat → Int32} {Lf : Nat → Nat} {sz : Nat} (h : ft_iv T K w Lf sz) : sz ≤ 200 := by
  rw [← ft_iv_cnt h]
  exact ft_cnt_le T 200
theorem ft_iv_preCnt {T : Nat → Bool} {K : Nat → Int64} {w : Nat → Int32} {Lf : Nat → Nat} {sz : Nat} (h : ft_iv T K w Lf sz) (P : Nat → Bool) {p : Nat} (hp : p ≤ sz)
    (h1 : ∀ i, i < p → P (Lf i) = true) (h2 : ∀ i, p ≤ i → i < sz → P (Lf i) = false) : ft_cnt (fun n => T n && P n) 200 = p := by
  have e := ft_iv_pre (op := fun a b : Nat => a + b) (z := 0) (fun a b => Nat.add_comm a b) (fun a b c => Nat.add_assoc a b c) (fun a => Nat.add_zero a) h (fun _ => 1) P hp h1 h2
  rw [ft_sum_one] at e
  exact e.symm
/-- one more number at its place -/
theorem ft_iv_ins {T : Nat → Bool} {K : Nat → Int64} {w : Nat → Int32} {Lf : Nat → Nat} {sz : Nat} (h : ft_iv T K w Lf sz) {n : Nat} (hn : n < 200) (hT : T n = false) {k : Int64} {x : Int32}
    (hx : 1 ≤ x.toInt ∧ x.toInt ≤ 1000) (hk : -2199023255552 ≤ k.toInt ∧ k.toInt ≤ 2199023255552) {p : Nat} (hp : p ≤ sz)
    (h1 : ∀ i, i < p → (K (Lf i) < k ∨ (K (Lf i) = k ∧ Lf i < n))) (h2 : p < sz → ¬ (K (Lf p) < k ∨ (K (Lf p) = k ∧ Lf p < n))) :
    ft_iv (fun j => if j = n then true else T j) (vp_updL K n k) (upd w n x) (fun i => if i < p then Lf i else if i = p then n else Lf (i - 1)) (sz + 1) := by
  have hne : ∀ i, i < sz → Lf i ≠ n := fun i hi e => by
    have := h.2.1 i hi
    rw [e, hT] at this
    cases this
  have hKe : ∀ i, i < sz → vp_updL K n k (Lf i) = K (Lf i) := fun i hi => pk_uLn (hne i hi)
  have hKn : vp_updL K n k n = k := pk_uLs
  have lo : ∀ i, i < p → (fun i => if i < p then Lf i else if i = p then n else Lf (i - 1)) i = Lf i := fun i hi => by
    show (if i < p then Lf i else if i = p then n else Lf (i - 1)) = Lf i
    rw [if_pos hi]
  have mi : (fun i => if i < p then Lf i else if i = p then n else Lf (i - 1)) p = n := by
    show (if p < p then Lf p else if p = p then n else Lf (p - 1)) = n
    rw [if_neg (by omega), if_pos rfl]
  have hi : ∀ i, p < i → (fun i => if i < p then Lf i else if i = p then n else Lf (i - 1)) i = Lf (i - 1) := fun i hi => by
    show (if i < p then Lf i else if i = p then n else Lf (i - 1)) = Lf (i - 1)
    rw [if_neg (by omega), if_neg (by omega)]
  generalize (fun i => if i < p then Lf i else if i = p then n else Lf (i - 1)) = M at lo mi hi ⊢
  have old : ∀ i j, i < j → j < sz → ft_bf (vp_updL K n k) (Lf i) (Lf j) := fun i j hij hj => by
    have := h.2.2.2 i j hij hj
    unfold ft_bf at this ⊢
    rw [hKe i (by omega), hKe j hj]
    exact this
  have tol : ∀ i, i < p → ft_bf (vp_updL K n k) (Lf i) n := fun i hi => by
    unfold ft_bf
    rw [hKe i (by omega), hKn]
    exact h1 i hi
  have tor : ∀ i, p ≤ i → i < sz → ft_bf (vp_updL K n k) n (Lf i) := fun i hi hs => by
    have hq : ft_bf (vp_updL K n k) n (Lf p) := by
      rcases ft_bf_tot (K := vp_updL K n k) (hne p (by omega)) with c | c
      · exfalso
        refine h2 (by omega) ?_
        unfold ft_bf at c
        rw [hKe p (by omega), hKn] at c
        exact c
      · exact c
    by_cases e : i = p
    · rw [e]; exact hq
    · exact ft_bf_tr hq (old p i (by omega) hs)
  refine ⟨fun j hj => ?_, fun i hs => ?_, fun j hj => ?_, fun i j hij hj => ?_⟩
  · by_cases e : j = n
    · subst e
      rw [hKn, pk_us]
      exact ⟨hn, hx.1, hx.2, hk.1, hk.2⟩
    · have hj : (if j = n then true else T j) = true := hj
      rw [if_neg e] at hj
      rw [pk_un e, pk_uLn e]
      exact h.1 j hj
  · show (if M i = n then true else T (M i)) = true
    rcases Nat.lt_trichotomy i p with c | c | c
    · rw [lo i c, if_neg (hne i (by omega))]
      exact h.2.1 i (by omega)
    · rw [c, mi, if_pos rfl]
    · rw [hi i c, if_neg (hne (i - 1) (by omega))]
      exact h.2.1 (i - 1) (by omega)
  · have hj : (if j = n then true else T j) = true := hj
    by_cases e : j = n
    · exact ⟨p, by omega, by rw [mi, e]⟩
    · rw [if_neg e] at hj
      obtain ⟨i, hs, ei⟩ := h.2.2.1 j hj
      by_cases c : i < p
      · exact ⟨i, by omega, by rw [lo i c, ei]⟩
      · exact ⟨i + 1, by omega, by rw [hi (i + 1) (by omega), Nat.add_sub_cancel, ei]⟩
  · rcases Nat.lt_trichotomy j p with c | c | c
    · rw [lo i (by omega), lo j c]
      exact old i j hij (by omega)
    · rw [c, mi, lo i (by omega)]
      exact tol i (by omega)
    · rw [hi j c]
      rcases Nat.lt_trichotomy i p with d | d | d
      · rw [lo i d]
        exact old i (j - 1) (by omega) (by omega)
      · rw [d, mi]
        exact tor (j - 1) (by omega) (by omega)
      · rw [hi i d]
        exact old (i - 1) (j - 1) (by omega) (by omega)
/-- a stretch of places goes -/
theorem ft_iv_rem {T T' : Nat → Bool} {K : Nat → Int64} {w : Nat → Int32} {Lf : Nat → Nat} {sz : Nat} (h : ft_iv T K w Lf sz) {a b : Nat} (hab : a ≤ b) (hb : b ≤ sz)
    (hT : ∀ n, T' n = true ↔ T n = true ∧ ∀ i, a ≤ i → i < b → Lf i ≠ n) :
    ft_iv T' K w (fun i => if i < a then Lf i else Lf (i + (b - a))) (sz - (b - a)) := by
  have lo : ∀ i, i < a → (fun i => if i < a then Lf i else Lf (i + (b - a))) i = Lf i := fun i hi => by
    show (if i < a then Lf i else Lf (i + (b - a))) = Lf i
    rw [if_pos hi]
  have hi : ∀ i, a ≤ i → (fun i => if i < a then Lf i else Lf (i + (b - a))) i = Lf (i + (b - a)) := fun i hi => by
    show (if i < a then Lf i else Lf (i + (b - a))) = Lf (i + (b - a))
    rw [if_neg (by omega)]
  generalize (fun i => if i < a then Lf i else Lf (i + (b - a))) = M at lo hi ⊢
  refine ⟨fun n hn => h.1 n ((hT n).mp hn).1, fun i hs => ?_, fun n hn => ?_, fun i j hij hj => ?_⟩
  · by_cases c : i < a
    · rw [lo i c]
      exact (hT _).mpr ⟨h.2.1 i (by omega), fun q h1 h2 e => by have := ft_iv_inj h (by omega) (by omega) e; omega⟩
    · rw [hi i (by omega)]
      exact (hT _).mpr ⟨h.2.1 _ (by omega), fun q h1 h2 e => by have := ft_iv_inj h (by omega) (by omega) e; omega⟩
  · obtain ⟨h1, h2⟩ := (hT n).mp hn
    obtain ⟨i, hs, e⟩ := h.2.2.1 n h1
    by_cases c : i < a
    · exact ⟨i, by omega, by rw [lo i c, e]⟩
    · by_cases c2 : i < b
      · exact absurd e (h2 i (by omega) c2)
      · exact ⟨i - (b - a), by omega, by rw [hi _ (by omega), ← e]; congr 1; omega⟩
  · by_cases c : j < a
    · rw [lo i (by omega), lo j c]
      exact h.2.2.2 i j hij (by omega)
    · rw [hi j (by omega)]
      by_cases c2 : i < a
      · rw [lo i c2]
        exact h.2.2.2 i _ (by omega) (by omega)
      · rw [hi i (by omega)]
        exact h.2.2.2 _ _ (by omega) (by omega)
theorem ft_add64 {a b : Int64} (h1 : -9223372036854775808 ≤ a.toInt + b.toInt) (h2 : a.toInt + b.toInt < 9223372036854775808) : (a + b).toInt = a.toInt + b.toInt := by
  rw [Int64.toInt_add]
  exact Int.bmod_eq_of_le (by omega) (by omega)
theorem ft_sub64 {a b : Int64} (h1 : -9223372036854775808 ≤ a.toInt - b.toInt) (h2 : a.toInt - b.toInt < 9223372036854775808) : (a - b).toInt = a.toInt - b.toInt := by
  rw [Int64.toInt_sub]
  exact Int.bmod_eq_of_le (by omega) (by omega)
theorem ft_mul64 {a b : Int64} (h1 : -9223372036854775808 ≤ a.toInt * b.toInt) (h2 : a.toInt * b.toInt < 9223372036854775808) : (a * b).toInt = a.toInt * b.toInt := by
  rw [Int64.toInt_mul]
  exact Int.bmod_eq_of_le (by omega) (by omega)
theorem ft_add32 {a b : Int32} (h1 : -2147483648 ≤ a.toInt + b.toInt) (h2 : a.toInt + b.toInt < 2147483648) : (a + b).toInt = a.toInt + b.toInt := by
  rw [Int32.toInt_add]
  exact Int.bmod_eq_of_le (by omega) (by omega)
/-- all keys go by so much -/
theorem ft_iv_sld {T : Nat → Bool} {K : Nat → Int64} {w : Nat → Int32} {Lf : Nat → Nat} {sz : Nat} (h : ft_iv T K w Lf sz) {y : Int64}
    (hb : ∀ n, T n = true → -2199023255552 ≤ (K n).toInt + y.toInt ∧ (K n).toInt + y.toInt ≤ 2199023255552) : ft_iv T (fun n => if T n = true then K n + y else K n) w Lf sz := by
  have e : ∀ n, T n = true → ((fun n => if T n = true then K n + y else K n) n).toInt = (K n).toInt + y.toInt := fun n hn => by
    show (if T n = true then K n + y else K n).toInt = _
    rw [if_pos hn]
    have := hb n hn
    exact ft_add64 (by omega) (by omega)
  generalize (fun n => if T n = true then K n + y else K n) = K2 at e ⊢
  refine ⟨fun n hn => ?_, h.2.1, h.2.2.1, fun i j hij hj => ?_⟩
  · have h1 := h.1 n hn
    have h2 := hb n hn
    rw [e n hn]
    exact ⟨h1.1, h1.2.1, h1.2.2.1, h2.1, h2.2⟩
  · have h1 := h.2.2.2 i j hij hj
    have ei := e _ (h.2.1 i (by omega))
    have ej := e _ (h.2.1 j hj)
    unfold ft_bf at h1 ⊢
    simp only [Int64.lt_iff_toInt_lt, ← Int64.toInt_inj] at h1 ⊢
    rw [ei, ej]
    omega
end
section
/-! what the row answers and what all numbers answer: the same -/
def ft_sb (K : Nat → Int64) (key : Int64) (num : Int32) (j : Nat) : Bool := decide (K j < key) || (decide (K j = key) && decide (nI j < num))
theorem ft_sb_iff {K : Nat → Int64} {key : Int64} {num : Int32} {j : Nat} : ft_sb K key num j = true ↔ (K j < key ∨ (K j = key ∧ nI j < num)) := by
  unfold ft_sb
  simp
theorem ft_mono_fb {Lf : Nat → Nat} {P : Nat → Bool} {sz : Nat} (hm : ∀ i j, i < j → j < sz → P (Lf j) = true → P (Lf i) = true) :
    ft_fb (fun i => P (Lf i)) sz 0 ≤ sz ∧ (∀ i, i < ft_fb (fun i => P (Lf i)) sz 0 → P (Lf i) = true) ∧ (∀ i, ft_fb (fun i => P (Lf i)) sz 0 ≤ i → i < sz → P (Lf i) = false) := by
  obtain ⟨_, b2, b3, b4⟩ := ft_fb_spec (fun i => P (Lf i)) sz 0
  generalize ft_fb (fun i => P (Lf i)) sz 0 = p at b2 b3 b4 ⊢
  refine ⟨by omega, fun i hi => b3 i (by omega) hi, fun i h1 h2 => ?_⟩
  have e : P (Lf p) = false := b4 (by omega)
  cases hc : P (Lf i) with
  | false => rfl
  | true =>
    exfalso
    by_cases c : p = i
    · rw [c, hc] at e
      cases e
    · have := hm p i (by omega) h2 hc
      rw [this] at e
      cases e
theorem ft_sb_mono {T : Nat → Bool} {K : Nat → Int64} {w : Nat → Int32} {Lf : Nat → Nat} {sz : Nat} (h : ft_iv T K w Lf sz) (key : Int64) (num : Int32) :
    ∀ i j, i < j → j < sz → ft_sb K key num (Lf j) = true → ft_sb K key num (Lf i) = true := by
  intro i j hij hj
  have hb := h.2.2.2 i j hij hj
  have e1 := nI_toInt (n := Lf i) (by have := ft_iv_lt h (show i < sz by omega); omega)
  have e2 := nI_toInt (n := Lf j) (by have := ft_iv_lt h hj; omega)
  rw [ft_sb_iff, ft_sb_iff]
  unfold ft_bf at hb
  simp only [Int64.lt_iff_toInt_lt, Int32.lt_iff_toInt_lt, ← Int64.toInt_inj, e1, e2] at hb ⊢
  omega
theorem ft_rank {T : Nat → Bool} {K : Nat → Int64} {w : Nat → Int32} {Lf : Nat → Nat} {sz : Nat} (h : ft_iv T K w Lf sz) {n : Nat} (hT : T n = true) :
    ∃ p, p < sz ∧ Lf p = n ∧ ft_fb (fun i => ft_sb K (K n) (nI n) (Lf i)) sz 0 = p ∧ ft_cnt (fun k => T k && ft_sb K (K n) (nI n) k) 200 = p := by
  obtain ⟨p, hp, e⟩ := h.2.2.1 n hT
  have m := ft_mono_fb (ft_sb_mono h (K n) (nI n))
  have e1 : ft_fb (fun i => ft_sb K (K n) (nI n) (Lf i)) sz 0 = p := by
    refine ft_fb_eq (by omega) (fun j hj => ?_) (fun _ => ?_)
    · show ft_sb K (K n) (nI n) (Lf j) = true
      have hb := h.2.2.2 j p hj hp
      rw [e] at hb
      rw [ft_sb_iff]
      rcases hb with c | ⟨c1, c2⟩
      · exact Or.inl c
      · exact Or.inr ⟨c1, nI_lt c2 (by have := (h.1 n hT).1; omega)⟩
    · show ft_sb K (K n) (nI n) (Lf p) = false
      rw [e]
      cases hc : ft_sb K (K n) (nI n) n with
      | false => rfl
      | true =>
        rw [ft_sb_iff] at hc
        rcases hc with c | ⟨_, c⟩
        · exact absurd c Int64.lt_irrefl
        · exact absurd c Int32.lt_irrefl
  refine ⟨p, hp, e, e1, ?_⟩
  rw [e1] at m
  exact ft_iv_preCnt h (ft_sb K (K n) (nI n)) (by omega) m.2.1 m.2.2
/-- the number of which x comes before -/
def ft_atP (T : Nat → Bool) (K : Nat → Int64) (x : Int32) (n : Nat) : Bool := !(T n && decide (nI (ft_cnt (fun q => T q && ft_sb K (K n) (nI n) q) 200) = x))
theorem ft_at_in {T : Nat → Bool} {K : Nat → Int64} {w : Nat → Int32} {Lf : Nat → Nat} {sz : Nat} (h : ft_iv T K w Lf sz) {k : Nat} (hk : k < sz) : ft_fb (ft_atP T K (nI k)) 200 0 = Lf k := by
  have hl := ft_iv_le h
  refine ft_fb_eq (Nat.le_of_lt (ft_iv_lt h hk)) (fun j hj => ?_) (fun _ => ?_)
  · show (!(T j && decide (nI (ft_cnt (fun q => T q && ft_sb K (K j) (nI j) q) 200) = nI k))) = true
    cases hT : T j with
    | false => rfl
    | true =>
      obtain ⟨p, hp, e, _, e2⟩ := ft_rank h hT
      rw [e2]
      have : ¬ nI p = nI k := fun c => by
        rw [nI_eq (by omega) (by omega)] at c
        rw [c] at e
        omega
      simp [this]
  · obtain ⟨p, hp, e, _, e2⟩ := ft_rank h (h.2.1 k hk)
    have e3 := ft_iv_inj h hp hk e
    show (!(T (Lf k) && decide (nI (ft_cnt (fun q => T q && ft_sb K (K (Lf k)) (nI (Lf k)) q) 200) = nI k))) = false
    rw [e2, h.2.1 k hk, e3]
    simp
theorem ft_at_out {T : Nat → Bool} {K : Nat → Int64} {w : Nat → Int32} {Lf : Nat → Nat} {sz : Nat} (h : ft_iv T K w Lf sz) {x : Int32} (hx : ∀ k, k < sz → x ≠ nI k) : ft_fb (ft_atP T K x) 200 0 = 200 := by
  refine ft_fb_eq (Nat.le_refl _) (fun j hj => ?_) (fun c => by omega)
  show (!(T j && decide (nI (ft_cnt (fun q => T q && ft_sb K (K j) (nI j) q) 200) = x))) = true
  cases hT : T j with
  | false => rfl
  | true =>
    obtain ⟨p, hp, e, _, e2⟩ := ft_rank h hT
    rw [e2]
    have : ¬ nI p = x := fun c => hx p hp c.symm
    simp [this]
theorem ft_sb_200 {K : Nat → Int64} {key : Int64} {n : Nat} (hn : n < 200) : ft_sb K key 200 n = decide (K n ≤ key) := by
  have h1 : nI n < 200 := nI_lt (b := 200) hn (by omega)
  rw [Bool.eq_iff_iff, ft_sb_iff, decide_eq_true_iff]
  simp only [h1, and_true, Int64.le_iff_toInt_le, Int64.lt_iff_toInt_lt, ← Int64.toInt_inj]
  omega
theorem ft_sb_0 {K : Nat → Int64} {key : Int64} {n : Nat} (hn : n < 200) : ft_sb K key 0 n = decide (K n < key) := by
  have h1 : ¬ nI n < 0 := nI_pos (by omega)
  rw [Bool.eq_iff_iff, ft_sb_iff, decide_eq_true_iff]
  simp only [h1, and_false, or_false]
theorem ft_weight {T : Nat → Bool} {K : Nat → Int64} {w W : Nat → Int32} {Lf : Nat → Nat} {sz : Nat} (h : ft_iv T K w Lf sz) (hW : ∀ n, T n = true → W n = w n) (key : Int64) :
    ft_sum (fun a b : Int32 => a + b) 0 (fun i => W (Lf i)) (ft_fb (fun i => ft_sb K key 200 (Lf i)) sz 0) = ft_sum (fun a b : Int32 => a + b) 0 (fun n => if (T n && decide (K n ≤ key)) = true then w n else 0) 200 := by
  obtain ⟨m1, m2, m3⟩ := ft_mono_fb (ft_sb_mono h key 200)
  rw [ft_iv_pre (op := fun a b : Int32 => a + b) (z := 0) (fun a b => Int32.add_comm a b) (fun a b c => Int32.add_assoc a b c) (fun a => Int32.add_zero a) h W (ft_sb K key 200) m1 m2 m3]
  refine ft_sum_congr (fun n hn => ?_)
  rw [ft_sb_200 hn]
  cases hT : T n with
  | false => simp
  | true => rw [hW n hT]
theorem ft_all {T : Nat → Bool} {K : Nat → Int64} {w W : Nat → Int32} {Lf : Nat → Nat} {sz : Nat} (h : ft_iv T K w Lf sz) (hW : ∀ n, T n = true → W n = w n) :
    ft_sum (fun a b : Int32 => a + b) 0 (fun i => W (Lf i)) sz = ft_sum (fun a b : Int32 => a + b) 0 (fun n => if T n = true then w n else 0) 200 := by
  rw [ft_iv_sum (op := fun a b : Int32 => a + b) (z := 0) (fun a b => Int32.add_comm a b) (fun a b c => Int32.add_assoc a b c) (fun a => Int32.add_zero a) h W]
  refine ft_sum_congr (fun n hn => ?_)
  by_cases hT : T n = true
  · rw [if_pos hT, if_pos hT, hW n hT]
  · rw [if_neg hT, if_neg hT]
/-- small weights add up without wrapping, as ints and as longs -/
theorem ft_small (f : Nat → Int32) : ∀ n : Nat, n ≤ 200 → (∀ i, i < n → 0 ≤ (f i).toInt ∧ (f i).toInt ≤ 1000) →
    0 ≤ (ft_sum (fun a b : Int32 => a + b) 0 f n).toInt ∧ (ft_sum (fun a b : Int32 => a + b) 0 f n).toInt ≤ 1000 * n ∧
    ft_sum (fun a b : Int64 => a + b) 0 (fun i => (f i).toInt64) n = (ft_sum (fun a b : Int32 => a + b) 0 f n).toInt64 := by
  intro n
  induction n with
  | zero =>
    intro _ _
    show 0 ≤ (0 : Int32).toInt ∧ (0 : Int32).toInt ≤ 1000 * ((0 : Nat) : Int) ∧ (0 : Int64) = (0 : Int32).toInt64
    decide
  | succ n ih =>
    intro hn hf
    obtain ⟨h1, h2, h3⟩ := ih (by omega) (fun i hi => hf i (by omega))
    have hb := hf n (by omega)
    show 0 ≤ (ft_sum (fun a b : Int32 => a + b) 0 f n + f n).toInt ∧ (ft_sum (fun a b : Int32 => a + b) 0 f n + f n).toInt ≤ 1000 * ((n + 1 : Nat) : Int) ∧
      ft_sum (fun a b : Int64 => a + b) 0 (fun i => (f i).toInt64) n + (f n).toInt64 = (ft_sum (fun a b : Int32 => a + b) 0 f n + f n).toInt64
    rw [h3]
    generalize ft_sum (fun a b : Int32 => a + b) 0 f n = x at h1 h2 ⊢
    have e : (x + f n).toInt = x.toInt + (f n).toInt := ft_add32 (by omega) (by omega)
    refine ⟨by omega, by omega, ?_⟩
    apply Int64.toInt_inj.mp
    rw [ft_add64 (by rw [Int32.toInt_toInt64, Int32.toInt_toInt64]; omega) (by rw [Int32.toInt_toInt64, Int32.toInt_toInt64]; omega)]
    rw [Int32.toInt_toInt64, Int32.toInt_toInt64, Int32.toInt_toInt64, e]
/-- bounded longs add up without wrapping -/
theorem ft_big (g : Nat → Int64) (hg : ∀ i, -2199023255552000 ≤ (g i).toInt ∧ (g i).toInt ≤ 2199023255552000) : ∀ n : Nat, n ≤ 200 →
    -2199023255552000 * n ≤ (ft_sum (fun a b : Int64 => a + b) 0 g n).toInt ∧ (ft_sum (fun a b : Int64 => a + b) 0 g n).toInt ≤ 2199023255552000 * n := by
  intro n
  induction n with
  | zero =>
    intro _
    show -2199023255552000 * ((0 : Nat) : Int) ≤ (0 : Int64).toInt ∧ (0 : Int64).toInt ≤ 2199023255552000 * ((0 : Nat) : Int)
    decide
  | succ n ih =>
    intro hn
    obtain ⟨h1, h2⟩ := ih (by omega)
    have hb := hg n
    show -2199023255552000 * ((n + 1 : Nat) : Int) ≤ (ft_sum (fun a b : Int64 => a + b) 0 g n + g n).toInt ∧ (ft_sum (fun a b : Int64 => a + b) 0 g n + g n).toInt ≤ 2199023255552000 * ((n + 1 : Nat) : Int)
    generalize ft_sum (fun a b : Int64 => a + b) 0 g n = x at h1 h2 ⊢
    have e : (x + g n).toInt = x.toInt + (g n).toInt := ft_add64 (by omega) (by omega)
    rw [e]
    exact ⟨by omega, by omega⟩
theorem ft_mulb {a b A B : Int} (hA : 0 ≤ A) (ha : -A ≤ a ∧ a ≤ A) (hb : 0 ≤ b ∧ b ≤ B) : -(A * B) ≤ a * b ∧ a * b ≤ A * B := by
  have h1 : A * b ≤ A * B := Int.mul_le_mul_of_nonneg_left hb.2 hA
  have h2 : a * b ≤ A * b := Int.mul_le_mul_of_nonneg_right ha.2 hb.1
  have h3 : -A * b ≤ a * b := Int.mul_le_mul_of_nonneg_right ha.1 hb.1
  rw [Int.neg_mul] at h3
  exact ⟨by omega, by omega⟩
/-- the lead of a number: sum of its distances, as a product less a sum -/
theorem ft_lead (T : Nat → Bool) (K : Nat → Int64) (v : Nat → Int64) (c : Int64) (n : Nat) :
    ft_sum (fun a b : Int64 => a + b) 0 (fun k => if T k = true then (c - K k) * v k else 0) n =
      c * ft_sum (fun a b : Int64 => a + b) 0 (fun k => if T k = true then v k else 0) n - ft_sum (fun a b : Int64 => a + b) 0 (fun k => if T k = true then K k * v k else 0) n := by
  induction n with
  | zero =>
    show (0 : Int64) = c * 0 - 0
    rw [Int64.mul_zero, Int64.sub_zero]
  | succ n ih =>
    show ft_sum (fun a b : Int64 => a + b) 0 (fun k => if T k = true then (c - K k) * v k else 0) n + (if T n = true then (c - K n) * v n else 0) =
      c * (ft_sum (fun a b : Int64 => a + b) 0 (fun k => if T k = true then v k else 0) n + (if T n = true then v n else 0)) - (ft_sum (fun a b : Int64 => a + b) 0 (fun k => if T k = true then K k * v k else 0) n + (if T n = true then K n * v n else 0))
    rw [ih]
    generalize ft_sum (fun a b : Int64 => a + b) 0 (fun k => if T k = true then v k else 0) n = p
    generalize ft_sum (fun a b : Int64 => a + b) 0 (fun k => if T k = true then K k * v k else 0) n = q
    by_cases h : T n = true
    · rw [if_pos h, if_pos h, if_pos h]
      grind
    · rw [if_neg h, if_neg h, if_neg h]
      grind
end
section
/-! FAIR, EARLIEST, half, nearest -/
abbrev ft_W64 (T : Nat → Bool) (w : Nat → Int32) : Int64 := ft_sum (fun a b : Int64 => a + b) 0 (fun k => if T k = true then (w k).toInt64 else 0) 200
abbrev ft_S64 (T : Nat → Bool) (K : Nat → Int64) (w : Nat → Int32) : Int64 := ft_sum (fun a b : Int64 => a + b) 0 (fun k => if T k = true then K k * (w k).toInt64 else 0) 200
abbrev ft_ld (T : Nat → Bool) (K : Nat → Int64) (w : Nat → Int32) (c : Int64) : Int64 := ft_sum (fun a b : Int64 => a + b) 0 (fun k => if T k = true then (c - K k) * (w k).toInt64 else 0) 200
theorem ft_W_32 {T : Nat → Bool} {K : Nat → Int64} {w : Nat → Int32} {Lf : Nat → Nat} {sz : Nat} (h : ft_iv T K w Lf sz) :
    ft_W64 T w = (ft_sum (fun a b : Int32 => a + b) 0 (fun n => if T n = true then w n else 0) 200).toInt64 ∧ 0 ≤ (ft_W64 T w).toInt ∧ (ft_W64 T w).toInt ≤ 200000 := by
  have hs := ft_small (fun n => if T n = true then w n else 0) 200 (Nat.le_refl _) (fun n _ => by
    show 0 ≤ (if T n = true then w n else 0).toInt ∧ (if T n = true then w n else 0).toInt ≤ 1000
    by_cases c : T n = true
    · rw [if_pos c]
      have := h.1 n c
      omega
    · rw [if_neg c]
      exact ⟨by decide, by decide⟩)
  have e : ft_W64 T w = ft_sum (fun a b : Int64 => a + b) 0 (fun i => ((if T i = true then w i else 0) : Int32).toInt64) 200 := ft_sum_congr (fun n _ => by
    by_cases c : T n = true
    · rw [if_pos c, if_pos c]
    · rw [if_neg c, if_neg c]
      decide)
  rw [e, hs.2.2]
  refine ⟨rfl, ?_, ?_⟩
  · rw [Int32.toInt_toInt64]
    exact hs.1
  · rw [Int32.toInt_toInt64]
    have := hs.2.1
    omega
theorem ft_fair {T : Nat → Bool} {K : Nat → Int64} {w : Nat → Int32} {Lf : Nat → Nat} {sz : Nat} (h : ft_iv T K w Lf sz) {c : Int64} (hc : -2199023255552 ≤ c.toInt ∧ c.toInt ≤ 2199023255552) :
    (ft_ld T K w c ≤ 0 ↔ c * ft_W64 T w ≤ ft_S64 T K w) ∧ (c * ft_W64 T w).toInt = c.toInt * (ft_W64 T w).toInt := by
  obtain ⟨_, w1, w2⟩ := ft_W_32 h
  have e1 : ft_ld T K w c = c * ft_W64 T w - ft_S64 T K w := ft_lead T K (fun k => (w k).toInt64) c 200
  have hS := ft_big (fun k => if T k = true then K k * (w k).toInt64 else 0) (fun k => by
    show -2199023255552000 ≤ (if T k = true then K k * (w k).toInt64 else 0).toInt ∧ (if T k = true then K k * (w k).toInt64 else 0).toInt ≤ 2199023255552000
    by_cases t : T k = true
    · rw [if_pos t]
      obtain ⟨_, q1, q2, q3, q4⟩ := h.1 k t
      have hm := ft_mulb (a := (K k).toInt) (b := (w k).toInt) (A := 2199023255552) (B := 1000) (by omega) ⟨q3, q4⟩ ⟨by omega, q2⟩
      rw [ft_mul64 (by rw [Int32.toInt_toInt64]; omega) (by rw [Int32.toInt_toInt64]; omega), Int32.toInt_toInt64]
      omega
    · rw [if_neg t]
      exact ⟨by decide, by decide⟩) 200 (Nat.le_refl _)
  rw [e1]
  have hS1 : -439804651110400000 ≤ (ft_S64 T K w).toInt := by
    have q : -2199023255552000 * ((200 : Nat) : Int) ≤ (ft_S64 T K w).toInt := hS.1
    omega
  have hS2 : (ft_S64 T K w).toInt ≤ 439804651110400000 := by
    have q : (ft_S64 T K w).toInt ≤ 2199023255552000 * ((200 : Nat) : Int) := hS.2
    omega
  generalize ft_S64 T K w = S at hS1 hS2 ⊢
  generalize ft_W64 T w = V at w1 w2 ⊢
  have hm := ft_mulb (a := c.toInt) (b := V.toInt) (A := 2199023255552) (B := 200000) (by omega) hc ⟨w1, w2⟩
  have em : (c * V).toInt = c.toInt * V.toInt := ft_mul64 (by omega) (by omega)
  have es : (c * V - S).toInt = (c * V).toInt - S.toInt := ft_sub64 (by rw [em]; omega) (by rw [em]; omega)
  refine ⟨?_, em⟩
  rw [Int64.le_iff_toInt_le, Int64.le_iff_toInt_le, es]
  have e0 : (0 : Int64).toInt = 0 := by decide
  rw [e0]
  omega
theorem ft_fair_mono {T : Nat → Bool} {K : Nat → Int64} {w : Nat → Int32} {Lf : Nat → Nat} {sz : Nat} (h : ft_iv T K w Lf sz) :
    ∀ i j, i < j → j < sz → decide (K (Lf j) * ft_W64 T w ≤ ft_S64 T K w) = true → decide (K (Lf i) * ft_W64 T w ≤ ft_S64 T K w) = true := by
  intro i j hij hj hd
  have hd := of_decide_eq_true hd
  refine decide_eq_true ?_
  have hi := h.1 _ (h.2.1 i (by omega))
  have hj' := h.1 _ (h.2.1 j hj)
  have f1 := (ft_fair h (c := K (Lf i)) ⟨hi.2.2.2.1, hi.2.2.2.2⟩).2
  have f2 := (ft_fair h (c := K (Lf j)) ⟨hj'.2.2.2.1, hj'.2.2.2.2⟩).2
  obtain ⟨_, w1, _⟩ := ft_W_32 h
  have hb := h.2.2.2 i j hij hj
  have hle : (K (Lf i)).toInt ≤ (K (Lf j)).toInt := by
    unfold ft_bf at hb
    simp only [Int64.lt_iff_toInt_lt, ← Int64.toInt_inj] at hb
    omega
  have := Int.mul_le_mul_of_nonneg_right hle w1
  rw [Int64.le_iff_toInt_le] at hd ⊢
  rw [f1]
  rw [f2] at hd
  omega
/-- the row's sum of keys times weights -/
theorem ft_S_row {T : Nat → Bool} {K : Nat → Int64} {w W : Nat → Int32} {Lf : Nat → Nat} {sz : Nat} (h : ft_iv T K w Lf sz) (hW : ∀ n, T n = true → W n = w n) :
    ft_sum (fun a b : Int64 => a + b) 0 (fun i => K (Lf i) * (W (Lf i)).toInt64) sz = ft_S64 T K w := by
  rw [ft_iv_sum (op := fun a b : Int64 => a + b) (z := 0) (fun a b => Int64.add_comm a b) (fun a b c => Int64.add_assoc a b c) (fun a => Int64.add_zero a) h (fun n => K n * (W n).toInt64)]
  refine ft_sum_congr (fun n _ => ?_)
  by_cases t : T n = true
  · rw [if_pos t, if_pos t, hW n t]
  · rw [if_neg t, if_neg t]
theorem ft_W_row {T : Nat → Bool} {K : Nat → Int64} {w W : Nat → Int32} {Lf : Nat → Nat} {sz : Nat} (h : ft_iv T K w Lf sz) (hW : ∀ n, T n = true → W n = w n) :
    (ft_sum (fun a b : Int32 => a + b) 0 (fun i => W (Lf i)) sz).toInt64 = ft_W64 T w := by
  rw [ft_all h hW, (ft_W_32 h).1]
/-- the FAIR ones are the first of the row -/
theorem ft_fair_row {T : Nat → Bool} {K : Nat → Int64} {w : Nat → Int32} {Lf : Nat → Nat} {sz : Nat} (h : ft_iv T K w Lf sz) :
    ft_fb (fun i => decide (K (Lf i) * ft_W64 T w ≤ ft_S64 T K w)) sz 0 ≤ sz ∧
    (∀ i, i < ft_fb (fun i => decide (K (Lf i) * ft_W64 T w ≤ ft_S64 T K w)) sz 0 → ft_ld T K w (K (Lf i)) ≤ 0) ∧
    (∀ i, ft_fb (fun i => decide (K (Lf i) * ft_W64 T w ≤ ft_S64 T K w)) sz 0 ≤ i → i < sz → ¬ ft_ld T K w (K (Lf i)) ≤ 0) := by
  obtain ⟨m1, m2, m3⟩ := ft_mono_fb (P := fun n => decide (K n * ft_W64 T w ≤ ft_S64 T K w)) (ft_fair_mono h)
  refine ⟨m1, fun i hi => ?_, fun i h1 h2 => ?_⟩
  · have q := h.1 _ (h.2.1 i (by omega))
    exact (ft_fair h ⟨q.2.2.2.1, q.2.2.2.2⟩).1.mpr (of_decide_eq_true (m2 i hi))
  · have q := h.1 _ (h.2.1 i h2)
    intro c
    exact of_decide_eq_false (m3 i h1 h2) ((ft_fair h ⟨q.2.2.2.1, q.2.2.2.2⟩).1.mp c)
theorem ft_cnt_congr {P P' : Nat → Bool} {n : Nat} (h : ∀ k, k < n → P k = P' k) : ft_cnt P n = ft_cnt P' n := ft_sum_congr (fun k hk => by rw [h k hk])
theorem ft_fair_cnt {T : Nat → Bool} {K : Nat → Int64} {w : Nat → Int32} {Lf : Nat → Nat} {sz : Nat} (h : ft_iv T K w Lf sz) :
    ft_cnt (fun n => T n && decide (ft_ld T K w (K n) ≤ 0)) 200 = ft_fb (fun i => decide (K (Lf i) * ft_W64 T w ≤ ft_S64 T K w)) sz 0 := by
  obtain ⟨m1, m2, m3⟩ := ft_fair_row h
  exact ft_iv_preCnt h (fun n => decide (ft_ld T K w (K n) ≤ 0)) m1 (fun i hi => decide_eq_true (m2 i hi)) (fun i h1 h2 => decide_eq_false (m3 i h1 h2))
/-- the EARLIEST of a stretch of the row -/
def ft_em (D : Nat → Int64) (Lf : Nat → Nat) : Nat → Nat → Nat → Nat
  | 0, _, f => f
  | k + 1, i, f => ft_em D Lf k (i + 1) (if ft_sb D (D f) (nI f) (Lf i) = true then Lf i else f)
theorem ft_sb_bf {D : Nat → Int64} {a b : Nat} (ha : a < 200) (hb : b < 200) : ft_sb D (D b) (nI b) a = true ↔ ft_bf D a b := by
  rw [ft_sb_iff, nI_ltI (by omega) (by omega)]
  exact Iff.rfl
theorem ft_em_spec {D : Nat → Int64} {Lf : Nat → Nat} : ∀ k i f, f < 200 → (∀ j, i ≤ j → j < i + k → Lf j < 200) →
    (ft_em D Lf k i f = f ∨ ∃ j, i ≤ j ∧ j < i + k ∧ Lf j = ft_em D Lf k i f) ∧ ¬ ft_bf D f (ft_em D Lf k i f) ∧ (∀ j, i ≤ j → j < i + k → ¬ ft_bf D (Lf j) (ft_em D Lf k i f)) := by
  intro k
  induction k with
  | zero => intro i f _ _; exact ⟨Or.inl rfl, ft_bf_irr, fun j h1 h2 => by omega⟩
  | succ k ih =>
    intro i f hf hL
    have hLi := hL i (Nat.le_refl _) (by omega)
    have key := ft_sb_bf (D := D) hLi hf
    show (ft_em D Lf k (i + 1) (if ft_sb D (D f) (nI f) (Lf i) = true then Lf i else f) = f ∨ ∃ j, i ≤ j ∧ j < i + (k + 1) ∧ Lf j = ft_em D Lf k (i + 1) (if ft_sb D (D f) (nI f) (Lf i) = true then Lf i else f)) ∧
      ¬ ft_bf D f (ft_em D Lf k (i + 1) (if ft_sb D (D f) (nI f) (Lf i) = true then Lf i else f)) ∧ (∀ j, i ≤ j → j < i + (k + 1) → ¬ ft_bf D (Lf j) (ft_em D Lf k (i + 1) (if ft_sb D (D f) (nI f) (Lf i) = true then Lf i else f)))
    by_cases c : ft_sb D (D f) (nI f) (Lf i) = true
    · rw [if_pos c]
      have hb := key.mp c
      obtain ⟨h1, h2, h3⟩ := ih (i + 1) (Lf i) hLi (fun j a b => hL j (by omega) (by omega))
      generalize ft_em D Lf k (i + 1) (Lf i) = r at h1 h2 h3 ⊢
      refine ⟨Or.inr ?_, fun q => h2 (ft_bf_tr hb q), fun j a b => ?_⟩
      · rcases h1 with e | ⟨j, a, b, e⟩
        · exact ⟨i, Nat.le_refl _, by omega, e.symm⟩
        · exact ⟨j, by omega, by omega, e⟩
      · by_cases e : j = i
        · rw [e]; exact h2
        · exact h3 j (by omega) (by omega)
    · rw [if_neg c]
      have hb : ¬ ft_bf D (Lf i) f := fun q => c (key.mpr q)
      obtain ⟨h1, h2, h3⟩ := ih (i + 1) f hf (fun j a b => hL j (by omega) (by omega))
      generalize ft_em D Lf k (i + 1) f = r at h1 h2 h3 ⊢
      refine ⟨?_, h2, fun j a b => ?_⟩
      · rcases h1 with e | ⟨j, a, b, e⟩
        · exact Or.inl e
        · exact Or.inr ⟨j, by omega, by omega, e⟩
      · by_cases e : j = i
        · rw [e]
          intro q
          by_cases ef : f = r
          · rw [← ef] at q; exact hb q
          · rcases ft_bf_tot (K := D) ef with t | t
            · exact h2 t
            · exact hb (ft_bf_tr q t)
        · exact h3 j (by omega) (by omega)
/-- the least of those with P, by a strict order, kept as it is found -/
def ft_lto (lt : Nat → Nat → Bool) (n : Nat) : Option Nat → Bool
  | none => true
  | some b => lt n b
def ft_mnS (P : Nat → Bool) (lt : Nat → Nat → Bool) (n : Nat) (acc : Option Nat) : Option Nat := if (P n && ft_lto lt n acc) = true then some n else acc
theorem ft_mn_spec {P : Nat → Bool} {lt : Nat → Nat → Bool} {R : Nat → Nat → Prop} (irr : ∀ a, ¬ R a a) (tr : ∀ a b c, R a b → R b c → R a c)
    (hlt : ∀ n b, b < n → n < 200 → (lt n b = true ↔ R n b)) (tot : ∀ a b, a ≠ b → R a b ∨ R b a) : ∀ n, n ≤ 200 →
    (ft_gf (ft_mnS P lt) none n = none → ∀ k, k < n → P k = false) ∧ (∀ b, ft_gf (ft_mnS P lt) none n = some b → b < n ∧ P b = true ∧ ∀ k, k < n → P k = true → ¬ R k b) := by
  intro n
  induction n with
  | zero => intro _; exact ⟨fun _ k hk => by omega, fun b hb => by cases hb⟩
  | succ n ih =>
    intro hn
    obtain ⟨h1, h2⟩ := ih (by omega)
    show (ft_mnS P lt n (ft_gf (ft_mnS P lt) none n) = none → ∀ k, k < n + 1 → P k = false) ∧ (∀ b, ft_mnS P lt n (ft_gf (ft_mnS P lt) none n) = some b → b < n + 1 ∧ P b = true ∧ ∀ k, k < n + 1 → P k = true → ¬ R k b)
    generalize ft_gf (ft_mnS P lt) none n = acc at h1 h2 ⊢
    unfold ft_mnS
    by_cases c : (P n && ft_lto lt n acc) = true
    · rw [if_pos c]
      refine ⟨fun q => (by cases q), fun b hb => ?_⟩
      obtain rfl := Option.some.inj hb
      rw [Bool.and_eq_true] at c
      refine ⟨by omega, c.1, fun k hk hP q => ?_⟩
      by_cases e : k = n
      · rw [e] at q; exact irr _ q
      · cases acc with
        | none =>
          have := h1 rfl k (by omega)
          rw [hP] at this
          cases this
        | some b0 =>
          obtain ⟨b1, b2, b3⟩ := h2 b0 rfl
          have hr := (hlt n b0 b1 (by omega)).mp c.2
          exact b3 k (by omega) hP (tr _ _ _ q hr)
    · rw [if_neg c]
      refine ⟨fun q k hk => ?_, fun b hb => ?_⟩
      · by_cases e : k = n
        · rw [e]
          subst q
          have c : ¬ (P n && true) = true := c
          simpa using c
        · exact h1 q k (by omega)
      · obtain ⟨b1, b2, b3⟩ := h2 b hb
        refine ⟨by omega, b2, fun k hk hP q => ?_⟩
        by_cases e : k = n
        · rw [e] at q hP
          subst hb
          refine c ?_
          rw [Bool.and_eq_true]
          exact ⟨hP, (hlt n b b1 (by omega)).mpr q⟩
        · exact b3 k (by omega) hP q
theorem ft_mn_eq {P : Nat → Bool} {lt : Nat → Nat → Bool} {R : Nat → Nat → Prop} (irr : ∀ a, ¬ R a a) (tr : ∀ a b c, R a b → R b c → R a c)
    (hlt : ∀ n b, b < n → n < 200 → (lt n b = true ↔ R n b)) (tot : ∀ a b, a ≠ b → R a b ∨ R b a) {r : Nat} (hr : r < 200) (hP : P r = true) (hm : ∀ k, k < 200 → P k = true → ¬ R k r) :
    ft_gf (ft_mnS P lt) none 200 = some r := by
  obtain ⟨h1, h2⟩ := ft_mn_spec (P := P) irr tr hlt tot 200 (Nat.le_refl _)
  cases e : ft_gf (ft_mnS P lt) none 200 with
  | none =>
    have := h1 e r hr
    rw [hP] at this
    cases this
  | some b =>
    obtain ⟨b1, b2, b3⟩ := h2 b e
    by_cases c : b = r
    · rw [c]
    · rcases tot b r c with t | t
      · exact absurd t (hm b b1 b2)
      · exact absurd t (b3 r hr hP)
theorem ft_mn_none {P : Nat → Bool} {lt : Nat → Nat → Bool} (h : ∀ k, k < 200 → P k = false) : ∀ n, n ≤ 200 → ft_gf (ft_mnS P lt) none n = none := by
  intro n
  induction n with
  | zero => intro _; rfl
  | succ n ih =>
    intro hn
    show ft_mnS P lt n (ft_gf (ft_mnS P lt) none n) = none
    rw [ih (by omega)]
    unfold ft_mnS
    rw [h n (by omega)]
    rfl
/-- due first: the strict compare of dues alone, going upwards, is the order by due and number -/
theorem ft_dlt (D : Nat → Int64) : ∀ n b, b < n → n < 200 → (decide (D n < D b) = true ↔ ft_bf D n b) := by
  intro n b h1 _
  rw [decide_eq_true_iff]
  unfold ft_bf
  constructor
  · exact Or.inl
  · rintro (q | ⟨_, q⟩)
    · exact q
    · omega
/-- the EARLIEST of the stretch from a to b of the row is the EARLIEST of the numbers with P, if these are they -/
theorem ft_first {T : Nat → Bool} {K D : Nat → Int64} {w : Nat → Int32} {Lf : Nat → Nat} {sz : Nat} (h : ft_iv T K w Lf sz) {P : Nat → Bool} {a b : Nat} (hab : a < b) (hb : b ≤ sz)
    (h1 : ∀ i, a ≤ i → i < b → P (Lf i) = true) (h2 : ∀ n, n < 200 → P n = true → ∃ i, a ≤ i ∧ i < b ∧ Lf i = n) :
    ft_gf (ft_mnS P (fun n c => decide (D n < D c))) none 200 = some (ft_em D Lf (b - a - 1) (a + 1) (Lf a)) ∧ ft_em D Lf (b - a - 1) (a + 1) (Lf a) < 200 := by
  obtain ⟨q1, q2, q3⟩ := ft_em_spec (D := D) (Lf := Lf) (b - a - 1) (a + 1) (Lf a) (ft_iv_lt h (by omega)) (fun j _ c => ft_iv_lt h (by omega))
  generalize ft_em D Lf (b - a - 1) (a + 1) (Lf a) = r at q1 q2 q3 ⊢
  have hr : ∃ i, a ≤ i ∧ i < b ∧ Lf i = r := by
    rcases q1 with e | ⟨j, c1, c2, e⟩
    · exact ⟨a, Nat.le_refl _, hab, e.symm⟩
    · exact ⟨j, by omega, by omega, e⟩
  obtain ⟨i, c1, c2, e⟩ := hr
  have hlt : r < 200 := by rw [← e]; exact ft_iv_lt h (by omega)
  refine ⟨ft_mn_eq (R := ft_bf D) (fun _ => ft_bf_irr) (fun _ _ _ => ft_bf_tr) (ft_dlt D) (fun _ _ => ft_bf_tot) hlt (by rw [← e]; exact h1 i c1 c2) (fun k hk hP => ?_), hlt⟩
  obtain ⟨j, d1, d2, ej⟩ := h2 k hk hP
  rw [← ej]
  by_cases ea : j = a
  · rw [ea]; exact q2
  · exact q3 j (by omega) (by omega)
end
section
/-! half, nearest, slide, cut -/
theorem ft_gf_init (P : Nat → Bool) (f : Nat → Int64) (a : Int64) (n : Nat) : ft_gf (fun k acc => if P k = true then acc + f k else acc) a n = a + ft_sum (fun a b : Int64 => a + b) 0 (fun k => if P k = true then f k else 0) n := by
  induction n with
  | zero => exact (Int64.add_zero a).symm
  | succ n ih =>
    show (if P n = true then ft_gf (fun k acc => if P k = true then acc + f k else acc) a n + f n else ft_gf (fun k acc => if P k = true then acc + f k else acc) a n) = a + (ft_sum (fun a b : Int64 => a + b) 0 (fun k => if P k = true then f k else 0) n + (if P n = true then f n else 0))
    rw [ih]
    by_cases h : P n = true
    · rw [if_pos h, if_pos h, Int64.add_assoc]
    · rw [if_neg h, if_neg h, Int64.add_zero]
theorem ft_dbl32 {x : Int32} (h1 : 0 ≤ x.toInt) (h2 : x.toInt ≤ 200000) : ((2 : Int32) * x).toInt = 2 * x.toInt := by
  rw [Int32.toInt_mul]
  have e : (2 : Int32).toInt = 2 := by decide
  rw [e]
  exact Int.bmod_eq_of_le (by omega) (by omega)
theorem ft_dbl64 {x : Int64} (h1 : 0 ≤ x.toInt) (h2 : x.toInt ≤ 200000) : ((2 : Int64) * x).toInt = 2 * x.toInt := by
  rw [Int64.toInt_mul]
  have e : (2 : Int64).toInt = 2 := by decide
  rw [e]
  exact Int.bmod_eq_of_le (by omega) (by omega)
/-- the weight up to a number, itself with it, as the reference adds it -/
def ft_upto (T : Nat → Bool) (K : Nat → Int64) (w : Nat → Int32) (m : Nat) : Int64 := ft_gf (fun n acc => if (T n && ft_sb K (K m) (nI m) n) = true then acc + (w n).toInt64 else acc) (w m).toInt64 200
theorem ft_upto_row {T : Nat → Bool} {K : Nat → Int64} {w W : Nat → Int32} {Lf : Nat → Nat} {sz : Nat} (h : ft_iv T K w Lf sz) (hW : ∀ n, T n = true → W n = w n) {i : Nat} (hi : i < sz) :
    ft_upto T K w (Lf i) = (ft_sum (fun a b : Int32 => a + b) 0 (fun j => W (Lf j)) (i + 1)).toInt64 ∧ 0 ≤ (ft_sum (fun a b : Int32 => a + b) 0 (fun j => W (Lf j)) (i + 1)).toInt ∧ (ft_sum (fun a b : Int32 => a + b) 0 (fun j => W (Lf j)) (i + 1)).toInt ≤ 200000 := by
  have hl := ft_iv_le h
  obtain ⟨p, hp, e, e1, _⟩ := ft_rank h (h.2.1 i hi)
  have ep := ft_iv_inj h hp hi e
  obtain ⟨m1, m2, m3⟩ := ft_mono_fb (ft_sb_mono h (K (Lf i)) (nI (Lf i)))
  rw [e1, ep] at m1 m2 m3
  have e2 := ft_iv_pre (op := fun a b : Int64 => a + b) (z := 0) (fun a b => Int64.add_comm a b) (fun a b c => Int64.add_assoc a b c) (fun a => Int64.add_zero a) h (fun n => (w n).toInt64) (ft_sb K (K (Lf i)) (nI (Lf i))) m1 m2 m3
  have hs := ft_small (fun j => W (Lf j)) (i + 1) (by omega) (fun j hj => by
    have t := h.2.1 j (by omega)
    have q := h.1 _ t
    show 0 ≤ (W (Lf j)).toInt ∧ (W (Lf j)).toInt ≤ 1000
    rw [hW _ t]
    omega)
  refine ⟨?_, hs.1, by have := hs.2.1; omega⟩
  unfold ft_upto
  rw [ft_gf_init (fun n => T n && ft_sb K (K (Lf i)) (nI (Lf i)) n) (fun n => (w n).toInt64), ← hs.2.2, ← e2, Int64.add_comm]
  show ft_sum (fun a b : Int64 => a + b) 0 (fun j => (w (Lf j)).toInt64) i + (w (Lf i)).toInt64 = ft_sum (fun a b : Int64 => a + b) 0 (fun j => (W (Lf j)).toInt64) i + (W (Lf i)).toInt64
  rw [hW _ (h.2.1 i hi), ft_sum_congr (f := fun j => (w (Lf j)).toInt64) (g := fun j => (W (Lf j)).toInt64) (fun j hj => by
    show (w (Lf j)).toInt64 = (W (Lf j)).toInt64
    rw [hW _ (h.2.1 j (by omega))])]
def ft_halfP (T : Nat → Bool) (K : Nat → Int64) (w : Nat → Int32) (m : Nat) : Bool := T m && decide (ft_W64 T w ≤ (2 : Int64) * ft_upto T K w m)
theorem ft_halfP_row {T : Nat → Bool} {K : Nat → Int64} {w W : Nat → Int32} {Lf : Nat → Nat} {sz : Nat} (h : ft_iv T K w Lf sz) (hW : ∀ n, T n = true → W n = w n) {i : Nat} (hi : i < sz) :
    ft_halfP T K w (Lf i) = true ↔ ¬ ((2 : Int32) * ft_sum (fun a b : Int32 => a + b) 0 (fun j => W (Lf j)) (i + 1) < ft_sum (fun a b : Int32 => a + b) 0 (fun j => W (Lf j)) sz) := by
  obtain ⟨e, b1, b2⟩ := ft_upto_row h hW hi
  have ew := ft_W_row h hW
  unfold ft_halfP
  rw [h.2.1 i hi, Bool.true_and, decide_eq_true_iff, e, ← ew]
  generalize ft_sum (fun a b : Int32 => a + b) 0 (fun j => W (Lf j)) (i + 1) = x at b1 b2 ⊢
  generalize ft_sum (fun a b : Int32 => a + b) 0 (fun j => W (Lf j)) sz = y
  rw [Int64.le_iff_toInt_le, Int32.lt_iff_toInt_lt, ft_dbl32 b1 b2, ft_dbl64 (by rw [Int32.toInt_toInt64]; exact b1) (by rw [Int32.toInt_toInt64]; exact b2), Int32.toInt_toInt64, Int32.toInt_toInt64]
  omega
theorem ft_half {T : Nat → Bool} {K : Nat → Int64} {w W : Nat → Int32} {Lf : Nat → Nat} {sz : Nat} (h : ft_iv T K w Lf sz) (hW : ∀ n, T n = true → W n = w n) (hs : 0 < sz) :
    ft_fb (fun j => decide ((2 : Int32) * ft_sum (fun a b : Int32 => a + b) 0 (fun j => W (Lf j)) (j + 1) < ft_sum (fun a b : Int32 => a + b) 0 (fun j => W (Lf j)) sz)) (sz - 1) 0 < sz ∧
    ft_gf (ft_mnS (ft_halfP T K w) (fun n b => ft_sb K (K b) (nI b) n)) none 200 = some (Lf (ft_fb (fun j => decide ((2 : Int32) * ft_sum (fun a b : Int32 => a + b) 0 (fun j => W (Lf j)) (j + 1) < ft_sum (fun a b : Int32 => a + b) 0 (fun j => W (Lf j)) sz)) (sz - 1) 0)) := by
  obtain ⟨_, b2, b3, b4⟩ := ft_fb_spec (fun j => decide ((2 : Int32) * ft_sum (fun a b : Int32 => a + b) 0 (fun j => W (Lf j)) (j + 1) < ft_sum (fun a b : Int32 => a + b) 0 (fun j => W (Lf j)) sz)) (sz - 1) 0
  generalize ft_fb (fun j => decide ((2 : Int32) * ft_sum (fun a b : Int32 => a + b) 0 (fun j => W (Lf j)) (j + 1) < ft_sum (fun a b : Int32 => a + b) 0 (fun j => W (Lf j)) sz)) (sz - 1) 0 = p at b2 b3 b4 ⊢
  have hp : p < sz := by omega
  refine ⟨hp, ft_mn_eq (R := ft_bf K) (fun _ => ft_bf_irr) (fun _ _ _ => ft_bf_tr) (fun n b h1 h2 => ft_sb_bf h2 (by omega)) (fun _ _ => ft_bf_tot) (ft_iv_lt h hp) ?_ (fun k hk hP => ?_)⟩
  · rw [ft_halfP_row h hW hp]
    by_cases c : p < sz - 1
    · exact of_decide_eq_false (b4 (by omega))
    · have e : p + 1 = sz := by omega
      obtain ⟨_, q1, q2⟩ := ft_upto_row h hW hp
      rw [e] at q1 q2 ⊢
      rw [Int32.lt_iff_toInt_lt, ft_dbl32 q1 q2]
      omega
  · have hT : T k = true := by
      unfold ft_halfP at hP
      rw [Bool.and_eq_true] at hP
      exact hP.1
    obtain ⟨i, hi, e⟩ := h.2.2.1 k hT
    rw [← e] at hP ⊢
    rw [ft_halfP_row h hW hi] at hP
    by_cases c : i < p
    · exact absurd (of_decide_eq_true (b3 i (by omega) c)) hP
    · intro q
      by_cases e2 : i = p
      · rw [e2] at q; exact ft_bf_irr q
      · exact ft_bf_irr (ft_bf_tr q (h.2.2.2 p i (by omega) hi))
/-- the lesser of two longs, as Math.min has it -/
def ft_min (x y : Int64) : Int64 := if y < x then y else x
theorem ft_min_spec (x y : Int64) : (ft_min x y).toInt ≤ x.toInt ∧ (ft_min x y).toInt ≤ y.toInt ∧ (ft_min x y = x ∨ ft_min x y = y) := by
  unfold ft_min
  by_cases h : y < x
  · rw [if_pos h]
    rw [Int64.lt_iff_toInt_lt] at h
    exact ⟨by omega, by omega, Or.inr rfl⟩
  · rw [if_neg h]
    rw [Int64.lt_iff_toInt_lt] at h
    exact ⟨by omega, by omega, Or.inl rfl⟩
/-- a fold of the least over those with P -/
theorem ft_minf (P : Nat → Bool) (f : Nat → Int64) (a : Int64) : ∀ n, (ft_gf (fun k acc => if P k = true then ft_min acc (f k) else acc) a n).toInt ≤ a.toInt ∧ (∀ k, k < n → P k = true → (ft_gf (fun k acc => if P k = true then ft_min acc (f k) else acc) a n).toInt ≤ (f k).toInt) ∧
    (ft_gf (fun k acc => if P k = true then ft_min acc (f k) else acc) a n = a ∨ ∃ k, k < n ∧ P k = true ∧ ft_gf (fun k acc => if P k = true then ft_min acc (f k) else acc) a n = f k) := by
  intro n
  induction n with
  | zero => exact ⟨Int.le_refl _, fun k hk => by omega, Or.inl rfl⟩
  | succ n ih =>
    have e : ft_gf (fun k acc => if P k = true then ft_min acc (f k) else acc) a (n + 1) = (if P n = true then ft_min (ft_gf (fun k acc => if P k = true then ft_min acc (f k) else acc) a n) (f n) else ft_gf (fun k acc => if P k = true then ft_min acc (f k) else acc) a n) := rfl
    rw [e]
    generalize ft_gf (fun k acc => if P k = true then ft_min acc (f k) else acc) a n = r at ih ⊢
    obtain ⟨h1, h2, h3⟩ := ih
    by_cases c : P n = true
    · rw [if_pos c]
      obtain ⟨m1, m2, m3⟩ := ft_min_spec r (f n)
      refine ⟨by omega, fun k hk hP => ?_, ?_⟩
      · by_cases ek : k = n
        · rw [ek]; exact m2
        · have := h2 k (by omega) hP
          omega
      · rcases m3 with q | q
        · rw [q]
          rcases h3 with q2 | ⟨k, k1, k2, k3⟩
          · exact Or.inl q2
          · exact Or.inr ⟨k, by omega, k2, k3⟩
        · exact Or.inr ⟨n, by omega, c, q⟩
    · rw [if_neg c]
      refine ⟨h1, fun k hk hP => ?_, ?_⟩
      · by_cases ek : k = n
        · rw [ek] at hP; exact absurd hP c
        · exact h2 k (by omega) hP
      · rcases h3 with q2 | ⟨k, k1, k2, k3⟩
        · exact Or.inl q2
        · exact Or.inr ⟨k, by omega, k2, k3⟩
def ft_dist (K : Nat → Int64) (a b : Nat) : Int64 := if K a < K b then K b - K a else K a - K b
def ft_near (T : Nat → Bool) (K : Nat → Int64) (n : Nat) : Int64 := ft_gf (fun a acc => if T a = true then ft_gf (fun b acc2 => if T b = true then ft_min acc2 (ft_dist K a b) else acc2) acc a else acc) 9223372036854775807 n
theorem ft_near_spec (T : Nat → Bool) (K : Nat → Int64) : ∀ n, (∀ a b, b < a → a < n → T a = true → T b = true → (ft_near T K n).toInt ≤ (ft_dist K a b).toInt) ∧
    (ft_near T K n = 9223372036854775807 ∨ ∃ a b, b < a ∧ a < n ∧ T a = true ∧ T b = true ∧ ft_near T K n = ft_dist K a b) := by
  intro n
  induction n with
  | zero => exact ⟨fun a b _ h => by omega, Or.inl rfl⟩
  | succ n ih =>
    have e : ft_near T K (n + 1) = (if T n = true then ft_gf (fun b acc2 => if T b = true then ft_min acc2 (ft_dist K n b) else acc2) (ft_near T K n) n else ft_near T K n) := rfl
    rw [e]
    generalize ft_near T K n = r at ih ⊢
    obtain ⟨h1, h2⟩ := ih
    by_cases c : T n = true
    · rw [if_pos c]
      obtain ⟨m1, m2, m3⟩ := ft_minf T (fun b => ft_dist K n b) r n
      refine ⟨fun a b hb ha ta tb => ?_, ?_⟩
      · by_cases ea : a = n
        · rw [ea] at hb ⊢
          exact m2 b hb tb
        · have := h1 a b hb (by omega) ta tb
          omega
      · rcases m3 with q | ⟨k, k1, k2, k3⟩
        · rw [q]
          rcases h2 with q2 | ⟨a, b, x1, x2, x3, x4, x5⟩
          · exact Or.inl q2
          · exact Or.inr ⟨a, b, x1, by omega, x3, x4, x5⟩
        · exact Or.inr ⟨n, k, k1, by omega, c, k2, k3⟩
    · rw [if_neg c]
      refine ⟨fun a b hb ha ta tb => ?_, ?_⟩
      · by_cases ea : a = n
        · rw [ea] at ta; exact absurd ta c
        · exact h1 a b hb (by omega) ta tb
      · rcases h2 with q2 | ⟨a, b, x1, x2, x3, x4, x5⟩
        · exact Or.inl q2
        · exact Or.inr ⟨a, b, x1, by omega, x3, x4, x5⟩
theorem ft_dist_row {T : Nat → Bool} {K : Nat → Int64} {w : Nat → Int32} {Lf : Nat → Nat} {sz : Nat} (h : ft_iv T K w Lf sz) {i j : Nat} (hij : i < j) (hj : j < sz) :
    (ft_dist K (Lf i) (Lf j)).toInt = (K (Lf j)).toInt - (K (Lf i)).toInt ∧ (ft_dist K (Lf j) (Lf i)).toInt = (K (Lf j)).toInt - (K (Lf i)).toInt ∧ (K (Lf j) - K (Lf i)).toInt = (K (Lf j)).toInt - (K (Lf i)).toInt ∧ (K (Lf i)).toInt ≤ (K (Lf j)).toInt := by
  have qi := h.1 _ (h.2.1 i (by omega))
  have qj := h.1 _ (h.2.1 j hj)
  have hb := h.2.2.2 i j hij hj
  have hle : (K (Lf i)).toInt ≤ (K (Lf j)).toInt := by
    unfold ft_bf at hb
    simp only [Int64.lt_iff_toInt_lt, ← Int64.toInt_inj] at hb
    omega
  have e1 : (K (Lf j) - K (Lf i)).toInt = (K (Lf j)).toInt - (K (Lf i)).toInt := ft_sub64 (by omega) (by omega)
  have e2 : (K (Lf i) - K (Lf j)).toInt = (K (Lf i)).toInt - (K (Lf j)).toInt := ft_sub64 (by omega) (by omega)
  unfold ft_dist
  refine ⟨?_, ?_, e1, hle⟩
  · by_cases c : K (Lf i) < K (Lf j)
    · rw [if_pos c, e1]
    · rw [if_neg c, e2]
      rw [Int64.lt_iff_toInt_lt] at c
      omega
  · by_cases c : K (Lf j) < K (Lf i)
    · rw [if_pos c, e2]
      rw [Int64.lt_iff_toInt_lt] at c
      omega
    · rw [if_neg c, e1]
theorem ft_nearest {T : Nat → Bool} {K : Nat → Int64} {w : Nat → Int32} {Lf : Nat → Nat} {sz : Nat} (h : ft_iv T K w Lf sz) (hs : 2 ≤ sz) :
    ft_gf (fun i acc => ft_min acc (K (Lf (i + 2)) - K (Lf (i + 1)))) (K (Lf 1) - K (Lf 0)) (sz - 2) = ft_near T K 200 := by
  have hr := ft_minf (fun _ => true) (fun i => K (Lf (i + 2)) - K (Lf (i + 1))) (K (Lf 1) - K (Lf 0)) (sz - 2)
  have e0 : ft_gf (fun i acc => ft_min acc (K (Lf (i + 2)) - K (Lf (i + 1)))) (K (Lf 1) - K (Lf 0)) (sz - 2) = ft_gf (fun k acc => if (fun _ => true) k = true then ft_min acc ((fun i => K (Lf (i + 2)) - K (Lf (i + 1))) k) else acc) (K (Lf 1) - K (Lf 0)) (sz - 2) := by
    congr 1
  rw [e0]
  generalize ft_gf (fun k acc => if (fun _ => true) k = true then ft_min acc ((fun i => K (Lf (i + 2)) - K (Lf (i + 1))) k) else acc) (K (Lf 1) - K (Lf 0)) (sz - 2) = r at hr ⊢
  obtain ⟨r1, r2, r3⟩ := hr
  obtain ⟨n1, n2⟩ := ft_near_spec T K 200
  generalize ft_near T K 200 = q at n1 n2 ⊢
  have step : ∀ i, i + 1 < sz → r.toInt ≤ (K (Lf (i + 1))).toInt - (K (Lf i)).toInt := fun i hi => by
    have d := (ft_dist_row h (i := i) (j := i + 1) (by omega) hi).2.2.1
    by_cases c : i = 0
    · subst c
      rw [← d]
      exact r1
    · have := r2 (i - 1) (by omega) rfl
      have e : i - 1 + 2 = i + 1 := by omega
      have e' : i - 1 + 1 = i := by omega
      simp only [e, e'] at this
      omega
  have pair : ∀ i j, i < j → j < sz → r.toInt ≤ (K (Lf j)).toInt - (K (Lf i)).toInt := fun i j hij hj => by
    have s1 := step i (by omega)
    by_cases c : i + 1 = j
    · rw [← c]; exact s1
    · have := (ft_dist_row h (i := i + 1) (j := j) (by omega) hj).2.2.2
      omega
  have qle : ∀ i j, i < j → j < sz → q.toInt ≤ (K (Lf j)).toInt - (K (Lf i)).toInt := fun i j hij hj => by
    obtain ⟨d1, d2, _, _⟩ := ft_dist_row h hij hj
    have ti := h.2.1 i (by omega)
    have tj := h.2.1 j hj
    rcases Nat.lt_trichotomy (Lf i) (Lf j) with c | c | c
    · have := n1 _ _ c (ft_iv_lt h hj) tj ti
      omega
    · exact absurd c (ft_iv_ne h hij hj)
    · have := n1 _ _ c (ft_iv_lt h (by omega)) ti tj
      omega
  apply Int64.toInt_inj.mp
  have le1 : q.toInt ≤ r.toInt := by
    rcases r3 with e | ⟨k, k1, _, e⟩
    · have := qle 0 1 (by omega) (by omega)
      rw [e, (ft_dist_row h (i := 0) (j := 1) (by omega) (by omega)).2.2.1]
      exact this
    · have := qle (k + 1) (k + 2) (by omega) (by omega)
      rw [e]
      show q.toInt ≤ (K (Lf (k + 2)) - K (Lf (k + 1))).toInt
      rw [(ft_dist_row h (i := k + 1) (j := k + 2) (by omega) (by omega)).2.2.1]
      exact this
  have le2 : r.toInt ≤ q.toInt := by
    rcases n2 with e | ⟨a, b, x1, x2, ta, tb, e⟩
    · rw [e]
      have := r.toInt_lt
      have e9 : (9223372036854775807 : Int64).toInt = 9223372036854775807 := by decide
      omega
    · obtain ⟨i, hi, ei⟩ := h.2.2.1 a ta
      obtain ⟨j, hj, ej⟩ := h.2.2.1 b tb
      rw [e, ← ei, ← ej]
      rcases Nat.lt_trichotomy i j with c | c | c
      · rw [(ft_dist_row h c hj).1]
        exact pair i j c hj
      · rw [c, ej] at ei
        omega
      · rw [(ft_dist_row h c hi).2.1]
        exact pair j i c hi
  omega
/-- slide: the row's two ends say it for all -/
def ft_slP (T : Nat → Bool) (K : Nat → Int64) (y : Int64) (k : Nat) : Bool := !(T k && (decide ((8796093022208 : Int64) < y) || decide (y < -8796093022208) || decide (K k + y < -2199023255552) || decide ((2199023255552 : Int64) < K k + y)))
theorem ft_slP_iff {T : Nat → Bool} {K : Nat → Int64} {w : Nat → Int32} {Lf : Nat → Nat} {sz : Nat} (h : ft_iv T K w Lf sz) {y : Int64} {k : Nat} (hk : T k = true) :
    ft_slP T K y k = true ↔ -2199023255552 ≤ (K k).toInt + y.toInt ∧ (K k).toInt + y.toInt ≤ 2199023255552 := by
  have q := h.1 k hk
  have e1 : (8796093022208 : Int64).toInt = 8796093022208 := by decide
  have e2 : (-8796093022208 : Int64).toInt = -8796093022208 := by decide
  have e3 : (2199023255552 : Int64).toInt = 2199023255552 := by decide
  have e4 : (-2199023255552 : Int64).toInt = -2199023255552 := by decide
  unfold ft_slP
  rw [hk]
  simp only [Bool.true_and, Bool.not_eq_true', Bool.or_eq_false_iff, decide_eq_false_iff_not, Int64.lt_iff_toInt_lt, e1, e2, e3, e4]
  constructor
  · rintro ⟨⟨⟨a, b⟩, c⟩, d⟩
    have e : (K k + y).toInt = (K k).toInt + y.toInt := ft_add64 (by omega) (by omega)
    omega
  · intro ⟨a, b⟩
    have e : (K k + y).toInt = (K k).toInt + y.toInt := ft_add64 (by omega) (by omega)
    omega
theorem ft_slide_in {T : Nat → Bool} {K : Nat → Int64} {w : Nat → Int32} {Lf : Nat → Nat} {sz : Nat} (h : ft_iv T K w Lf sz) (hs : 0 < sz) {y : Int64} (h1 : ¬ y < (-2199023255552 : Int64) - K (Lf 0)) (h2 : ¬ (2199023255552 : Int64) - K (Lf (sz - 1)) < y) :
    (∀ n, T n = true → -2199023255552 ≤ (K n).toInt + y.toInt ∧ (K n).toInt + y.toInt ≤ 2199023255552) ∧ ft_fb (ft_slP T K y) 200 0 = 200 := by
  have q0 := h.1 _ (h.2.1 0 hs)
  have q1 := h.1 _ (h.2.1 (sz - 1) (by omega))
  have e3 : (2199023255552 : Int64).toInt = 2199023255552 := by decide
  have e4 : (-2199023255552 : Int64).toInt = -2199023255552 := by decide
  rw [Int64.lt_iff_toInt_lt, ft_sub64 (by rw [e4]; omega) (by rw [e4]; omega), e4] at h1
  rw [Int64.lt_iff_toInt_lt, ft_sub64 (by rw [e3]; omega) (by rw [e3]; omega), e3] at h2
  have key : ∀ n, T n = true → -2199023255552 ≤ (K n).toInt + y.toInt ∧ (K n).toInt + y.toInt ≤ 2199023255552 := fun n hn => by
    obtain ⟨i, hi, e⟩ := h.2.2.1 n hn
    have l1 : (K (Lf 0)).toInt ≤ (K (Lf i)).toInt := by
      by_cases c : i = 0
      · rw [c]; exact Int.le_refl _
      · exact (ft_dist_row h (i := 0) (j := i) (by omega) hi).2.2.2
    have l2 : (K (Lf i)).toInt ≤ (K (Lf (sz - 1))).toInt := by
      by_cases c : i = sz - 1
      · rw [c]; exact Int.le_refl _
      · exact (ft_dist_row h (i := i) (j := sz - 1) (by omega) (by omega)).2.2.2
    rw [e] at l1 l2
    omega
  refine ⟨key, ft_fb_eq (Nat.le_refl _) (fun j _ => ?_) (fun c => by omega)⟩
  by_cases t : T j = true
  · exact (ft_slP_iff h t).mpr (key j t)
  · unfold ft_slP
    have t : T j = false := by simpa using t
    rw [t]
    rfl
theorem ft_slide_out {T : Nat → Bool} {K : Nat → Int64} {w : Nat → Int32} {Lf : Nat → Nat} {sz : Nat} (h : ft_iv T K w Lf sz) (hs : 0 < sz) {y : Int64} (h1 : y < (-2199023255552 : Int64) - K (Lf 0) ∨ (2199023255552 : Int64) - K (Lf (sz - 1)) < y) :
    ft_fb (ft_slP T K y) 200 0 < 200 := by
  have q0 := h.1 _ (h.2.1 0 hs)
  have q1 := h.1 _ (h.2.1 (sz - 1) (by omega))
  have e3 : (2199023255552 : Int64).toInt = 2199023255552 := by decide
  have e4 : (-2199023255552 : Int64).toInt = -2199023255552 := by decide
  rw [Int64.lt_iff_toInt_lt, ft_sub64 (by rw [e4]; omega) (by rw [e4]; omega), e4, Int64.lt_iff_toInt_lt, ft_sub64 (by rw [e3]; omega) (by rw [e3]; omega), e3] at h1
  obtain ⟨_, b2, b3, _⟩ := ft_fb_spec (ft_slP T K y) 200 0
  generalize ft_fb (ft_slP T K y) 200 0 = p at b2 b3 ⊢
  by_cases c : p < 200
  · exact c
  · exfalso
    have k0 := (ft_slP_iff h (h.2.1 0 hs)).mp (b3 (Lf 0) (by omega) (by omega))
    have k1 := (ft_slP_iff h (h.2.1 (sz - 1) (by omega))).mp (b3 (Lf (sz - 1)) (by omega) (by omega))
    omega
/-- the least key behind a slide -/
theorem ft_slide_least {T : Nat → Bool} {K : Nat → Int64} {w : Nat → Int32} {Lf : Nat → Nat} {sz : Nat} (h : ft_iv T K w Lf sz) (hs : 0 < sz) {y : Int64} (hb : ∀ n, T n = true → -2199023255552 ≤ (K n).toInt + y.toInt ∧ (K n).toInt + y.toInt ≤ 2199023255552) :
    ft_gf (fun k acc => if T k = true then ft_min acc (K k + y) else acc) 9223372036854775807 200 = K (Lf 0) + y := by
  obtain ⟨m1, m2, m3⟩ := ft_minf T (fun k => K k + y) 9223372036854775807 200
  have m2 : ∀ k, k < 200 → T k = true → (ft_gf (fun k acc => if T k = true then ft_min acc (K k + y) else acc) 9223372036854775807 200).toInt ≤ (K k + y).toInt := m2
  have m3 : ft_gf (fun k acc => if T k = true then ft_min acc (K k + y) else acc) 9223372036854775807 200 = 9223372036854775807 ∨ ∃ k, k < 200 ∧ T k = true ∧ ft_gf (fun k acc => if T k = true then ft_min acc (K k + y) else acc) 9223372036854775807 200 = K k + y := m3
  generalize ft_gf (fun k acc => if T k = true then ft_min acc (K k + y) else acc) 9223372036854775807 200 = r at m2 m3 ⊢
  have ea : ∀ n, T n = true → (K n + y).toInt = (K n).toInt + y.toInt := fun n hn => by
    have := hb n hn
    exact ft_add64 (by omega) (by omega)
  have t0 := h.2.1 0 hs
  have l0 := m2 _ (ft_iv_lt h hs) t0
  apply Int64.toInt_inj.mp
  have e0 := ea _ t0
  have b0 := hb _ t0
  rcases m3 with e | ⟨k, k1, k2, e⟩
  · rw [e] at l0
    have e9 : (9223372036854775807 : Int64).toInt = 9223372036854775807 := by decide
    omega
  · obtain ⟨i, hi, ei⟩ := h.2.2.1 k k2
    have l1 : (K (Lf 0)).toInt ≤ (K (Lf i)).toInt := by
      by_cases c : i = 0
      · rw [c]; exact Int.le_refl _
      · exact (ft_dist_row h (i := 0) (j := i) (by omega) hi).2.2.2
    rw [ei] at l1
    have e2 := ea k k2
    rw [e] at l0 ⊢
    omega
/-- the stretch between two keys -/
theorem ft_stretch {T : Nat → Bool} {K : Nat → Int64} {w : Nat → Int32} {Lf : Nat → Nat} {sz : Nat} (h : ft_iv T K w Lf sz) (lo hi : Int64) :
    ft_fb (fun i => ft_sb K lo 0 (Lf i)) sz 0 ≤ sz ∧ ft_fb (fun i => ft_sb K hi 200 (Lf i)) sz 0 ≤ sz ∧
    (∀ i, i < sz → (ft_fb (fun i => ft_sb K lo 0 (Lf i)) sz 0 ≤ i ∧ i < ft_fb (fun i => ft_sb K hi 200 (Lf i)) sz 0 ↔ lo ≤ K (Lf i) ∧ K (Lf i) ≤ hi)) := by
  obtain ⟨a1, a2, a3⟩ := ft_mono_fb (ft_sb_mono h lo 0)
  obtain ⟨b1, b2, b3⟩ := ft_mono_fb (ft_sb_mono h hi 200)
  refine ⟨a1, b1, fun i hs => ?_⟩
  have l := ft_iv_lt h hs
  have ha : ft_fb (fun i => ft_sb K lo 0 (Lf i)) sz 0 ≤ i ↔ lo ≤ K (Lf i) := by
    constructor
    · intro c
      have := a3 i c hs
      rw [ft_sb_0 l] at this
      exact Int64.not_lt.mp (of_decide_eq_false this)
    · intro c
      by_cases d : ft_fb (fun i => ft_sb K lo 0 (Lf i)) sz 0 ≤ i
      · exact d
      · have := a2 i (by omega)
        rw [ft_sb_0 l] at this
        exact absurd (of_decide_eq_true this) (Int64.not_lt.mpr c)
  have hb : i < ft_fb (fun i => ft_sb K hi 200 (Lf i)) sz 0 ↔ K (Lf i) ≤ hi := by
    constructor
    · intro c
      have := b2 i c
      rw [ft_sb_200 l] at this
      exact of_decide_eq_true this
    · intro c
      by_cases d : i < ft_fb (fun i => ft_sb K hi 200 (Lf i)) sz 0
      · exact d
      · have := b3 i (by omega) hs
        rw [ft_sb_200 l] at this
        exact absurd c (of_decide_eq_false this)
  rw [ha, hb]
theorem ft_cut_cnt {T : Nat → Bool} {K : Nat → Int64} {w : Nat → Int32} {Lf : Nat → Nat} {sz : Nat} (h : ft_iv T K w Lf sz) (lo hi : Int64) :
    ft_cnt (fun n => T n && (decide (lo ≤ K n) && decide (K n ≤ hi))) 200 = ft_fb (fun i => ft_sb K hi 200 (Lf i)) sz 0 - ft_fb (fun i => ft_sb K lo 0 (Lf i)) sz 0 := by
  obtain ⟨s1, s2, s3⟩ := ft_stretch h lo hi
  generalize ft_fb (fun i => ft_sb K lo 0 (Lf i)) sz 0 = a at s1 s3 ⊢
  generalize ft_fb (fun i => ft_sb K hi 200 (Lf i)) sz 0 = b at s2 s3 ⊢
  have e := ft_perm (op := fun a b : Nat => a + b) (z := 0) (fun a b => Nat.add_comm a b) (fun a b c => Nat.add_assoc a b c) (fun a => Nat.add_zero a) (fun _ => 1) 200 (b - a) (fun n => T n && (decide (lo ≤ K n) && decide (K n ≤ hi))) (fun i => Lf (a + i))
    (fun i hi' => ⟨ft_iv_lt h (by omega), by
      have q := (s3 (a + i) (by omega)).mp ⟨by omega, by omega⟩
      show (T (Lf (a + i)) && (decide (lo ≤ K (Lf (a + i))) && decide (K (Lf (a + i)) ≤ hi))) = true
      rw [h.2.1 _ (by omega), decide_eq_true q.1, decide_eq_true q.2]
      rfl⟩)
    (fun n hn ht => by
      have ht : (T n && (decide (lo ≤ K n) && decide (K n ≤ hi))) = true := ht
      rw [Bool.and_eq_true, Bool.and_eq_true, decide_eq_true_iff, decide_eq_true_iff] at ht
      obtain ⟨i, h1, e⟩ := h.2.2.1 n ht.1
      have q := (s3 i h1).mpr (by rw [e]; exact ht.2)
      exact ⟨i - a, by omega, by show Lf (a + (i - a)) = n; rw [← e]; congr 1; omega⟩)
    (fun i j hij hj => ft_iv_ne h (by omega) (by omega))
  rw [ft_sum_one] at e
  exact e.symm
end
section
/-! methods that return or throw: their contract, the throw, the way out, the catch -/
section TXA
variable {p : Program} {l : Launch} {e : Env} {R : Room} {s : State} {m : MethodId} {args : Array Value} {below : List Frame} {meth : Method} {c : Code} {H : Heap} {locs : List Loc} {cells slots : Nat} {Q : State → Prop}
/-- what a method leaves, however it ends -/
def tx_End (first t : State) (L : List Loc) (k n : Nat) : Prop := first.WarmedH t.vm ∧ first.sameButNew ({ t with vm := first.vm } : State) L k n
/-- a contract whose end may be a throw -/
def tx_Met (l : Launch) (y : MethodName) (ws : List Cond) (rm : Room) (Pc : Array Value → State → Prop) (Qc : Array Value → State → Outcome → State → Prop) (mc ms : Nat) (free : Addr → Prop) : Prop :=
  MetFree l y (headSpec ws rm) Pc (fun _ _ _ _ _ => True) (fun a st o t => Qc a st o t ∧ ∃ L, tx_End st t L mc ms ∧ ∀ q ∈ L, free q.base)
def tx_MQ (below : List Frame) (Qc : Array Value → State → Outcome → State → Prop) (a : Array Value) (s : State) (mc ms : Nat) (free : Addr → Prop) : State → Prop := fun t =>
  ∃ o, t.status = .running ∧ Ended t below o ∧ Qc a s o t ∧ ∃ L, tx_End s t L mc ms ∧ ∀ q ∈ L, free q.base
theorem tx_W {Qc : Array Value → State → Outcome → State → Prop} {a : Array Value} {mc ms : Nat} {free : Addr → Prop} {g : JFrame} (k : W p l e R s m args below meth c H locs cells slots (MQ below Qc a s mc ms free) g) :
    W p l e R s m args below meth c H locs cells slots (tx_MQ below Qc a s mc ms free) g := by
  intro T hT X
  obtain ⟨t, h1, o, h2, h3, h4, L, ⟨_, h5, h6⟩, h7⟩ := k T hT X
  exact ⟨t, h1, o, h2, h3, h4, L, ⟨h5, h6⟩, h7⟩
theorem tx_ofMet {y : MethodName} {ws : List Cond} {rm : Room} {Pc : Array Value → State → Prop} {Qc : Array Value → State → Outcome → State → Prop} {mc ms : Nat} {free : Addr → Prop} (h : Met l y ws rm Pc Qc mc ms free) : tx_Met l y ws rm Pc Qc mc ms free := by
  intro p e ha hc hk s m args below hf happ hP hK
  obtain ⟨n, o, h1, h2, h3, h4, L, ⟨_, h5, h6⟩, h7⟩ := h p e ha hc hk s m args below hf happ hP hK
  exact ⟨n, o, h1, h2, h3, h4, L, ⟨h5, h6⟩, h7⟩
theorem tx_ofW {y : MethodName} {ws ws' : List Cond} {rm : Room} {Pc : Array Value → State → Prop} {Qc : Array Value → State → Outcome → State → Prop} {mc ms : Nat} {free : Addr → Prop} {cc : ByteArray} {maxL : Nat} {ret : Option FieldType}
    (hy : plainName y.cls = true) (hw : ws = Cond.code y cc maxL ret :: ws')
    (body : ∀ p e s m args below meth c s₁, BodyLoose p l y (headSpec ws rm) cc maxL ret e s m args below meth c s₁ → c.maxLocals = maxL → Pc args s →
      W p l e (headSpec ws rm).room s m args below meth c s.heap [] 0 0 (tx_MQ below Qc args s mc ms free) (entryFrame m args maxL)) : tx_Met l y ws rm Pc Qc mc ms free := by
  refine MetFree.of_bodyS (code := cc) (maxLocals := maxL) (ret := ret) hy ?_ ?_
  · intro args s m h hn
    obtain ⟨meth, c, h1, h2, h3, h4, h5, h6, -, -⟩ := Cond.code_spec hn (atoms_spec (ws := ws) h _ (by rw [hw]; exact List.mem_cons_self))
    exact ⟨meth, c, h1, h2, h3, h4, h5, h6⟩
  · intro p e s m args below meth c s₁ B hml hP _
    have hh0 : s₁.heap = s.heap := by rw [B.state]; rfl
    obtain ⟨t, a1, o, b1, b2, b3, b4⟩ := body p e s m args below meth c s₁ B hml hP s₁ hh0 (Stand.of_body B)
    exact ⟨t, o, a1, b1, b2, b3, b4⟩
/-- the note 'x is thrown' lies over the frame g -/
def tx_V (p : Program) (l : Launch) (e : Env) (R : Room) (s : State) (m : MethodId) (args : Array Value) (below : List Frame) (meth : Method) (c : Code) (H : Heap) (locs : List Loc) (cells slots : Nat) (Q : State → Prop) (g : JFrame) (x : Addr) : Prop :=
  ∀ T : State, T.heap = H → Stand p l e R s m args below meth c T locs cells slots → ∃ t, Steps p.tables e below ((T.setTop g).pushFrame (.throwing x)) t ∧ Q t
/-- no row of the table covers it: the method throws -/
theorem tx_out {Qc : Array Value → State → Outcome → State → Prop} {free : Addr → Prop} {pc : Nat} {ls : Array Slot} {st : List Value} {x : Addr} (hlocks : meth.locks = false) (hout : ∀ q ∈ c.exceptionTable.toList, covers q pc = false)
    (hq : ∀ t : State, t.heap = H → s.WarmedH t.vm → Qc args s (.threw x) t) (hf : ∀ q ∈ locs, free q.base) :
    tx_V p l e R s m args below meth c H locs cells slots (tx_MQ below Qc args s cells slots free) (F0 m pc ls st) x := by
  intro T hT X
  obtain ⟨h1, h2, h3, h4, h5⟩ := X.leaveThrown x (g := F0 m pc ls st) rfl rfl rfl hout hlocks
  exact ⟨_, h1, .threw x, h2, h3, hq _ hT h4, locs, ⟨h4, h5⟩, hf⟩
/-- 'new X(); athrow', from its constructor's call on -/
theorem tx_throw {Qc : Array Value → State → Outcome → State → Prop} {free : Addr → Prop} {cc : ByteArray} (hexec : p.tables.exec = Jvm.exec) (hb : c.code = cc) (htr : e.platform.stackTraces = false) (hlocks : meth.locks = false)
    {own cls : String} {names : List String} {ic : Nat} (hown : s.vm.findClass own = some m.cls) (hcls : Bundle.fit cls = true) (hnames : ∀ n ∈ names, Bundle.fit n = true) (h : ∀ a ∈ Bundle.ownAtoms0 own ic cls names, a.before args s = true)
    {a : Addr} {cX : ClassId} {kX : Class} (hfound : s.vm.findClass cls = some cX) (hk : s.vm.classes[cX]? = some kX) (hcell : H[a]? = some (freshCell cX kX)) (hnew : s.heap.size ≤ a)
    {pc : Nat} {ls : Array Slot} {rest : List Value} (hsize : ls.size = c.maxLocals) (hd6 : decode cc pc = .ok (.invokespecial ic, 3)) (hd9 : decode cc (pc + 3) = .ok (.athrow, 1)) (hout : ∀ q ∈ c.exceptionTable.toList, covers q (pc + 3) = false)
    (hRf : names.length + 3 < R.frames) (hRl : 2 * (F0 m pc ls (.ref a :: .ref a :: rest)).monitorRoom + ((Value.ref a :: rest).map fun v => v.category).sum + (13 * (names.length + 1) + 41) ≤ R.locals)
    (hq : ∀ (t : State) (ce : Cell), s.WarmedH t.vm → s.heap.size ≤ t.heap.size → (∀ q : Nat, q < s.heap.size → t.heap[q]? = s.heap[q]?) → t.heap[a]? = some ce → s.vm.findClass cls = some ce.cls → ce.vm = .none → Qc args s (.threw a) t) :
    W p l e R s m args below meth c H [] cells slots (tx_MQ below Qc args s cells slots free) (F0 m pc ls (.ref a :: .ref a :: rest)) := by
  intro T hT X
  obtain ⟨U, st, hrun, hend, hW, hsame, ce, hce, hO⟩ := X.ctorThrow0 hexec htr hown hcls hnames h (fun x hx => by cases hx) hfound hk (by rw [hT]; exact hcell) hnew (g := F0 m pc ls (.ref a :: .ref a :: rest)) rfl hsize rfl rfl rfl (by rw [hb]; exact hd6) (by rw [hb]; exact hd9) hout hRf hRl hlocks
  refine ⟨U, st, .threw a, hrun, hend, hq U ce hW hsame.2.1 (fun q hq => ?_) hce hO.cls hO.vm, [], ⟨hW, hsame⟩, fun q hq => by cases hq⟩
  have h0 : s.heap[q]? = some s.heap[q] := Array.getElem?_eq_getElem hq
  have h1 : ({ U with vm := s.vm } : State).heap[q]? = some s.heap[q] := State.sameButNew.old_cell hsame h0
  rw [h0]
  exact h1
/-- the whole throw: new, dup, the constructor, athrow -/
theorem tx_thr {Qc : Array Value → State → Outcome → State → Prop} {free : Addr → Prop} {cc : ByteArray} (hexec : p.tables.exec = Jvm.exec) (hb : c.code = cc) (hl : ∀ e : Env, l.admits e → e.platform.stackTraces = false) (hlocks : meth.locks = false)
    {own cls : String} {names : List String} {ic inw : Nat} (hown : s.vm.findClass own = some m.cls) (hcls : Bundle.fit cls = true) (hnames : ∀ n ∈ names, Bundle.fit n = true) (h : ∀ a ∈ Bundle.ownAtoms0 own ic cls names, a.before args s = true)
    (hcl : (Cond.classLink own inw cls).before args s = true) (hins : (Cond.instantiable cls 6).before args s = true) (hini : (Cond.initialized cls).before args s = true)
    {pc : Nat} {ls : Array Slot} {rest : List Value} (hsz : s.heap.size ≤ H.size) (hsize : ls.size = c.maxLocals) (hd0 : decode cc pc = .ok (.new inw, 3)) (hd3 : decode cc (pc + 3) = .ok (.dup, 1)) (hd6 : decode cc (pc + 4) = .ok (.invokespecial ic, 3)) (hd9 : decode cc (pc + 7) = .ok (.athrow, 1)) (hout : c.exceptionTable.toList = [])
    (hRf : names.length + 3 < R.frames) (hRl : (rest.map fun v => v.category).sum + 1 + (13 * (names.length + 1) + 41) ≤ R.locals) (hRc : cells + 1 ≤ R.cells) (hRs : slots + 6 ≤ R.slots)
    (hq : ∀ (t : State) (ce : Cell), s.WarmedH t.vm → s.heap.size ≤ t.heap.size → (∀ q : Nat, q < s.heap.size → t.heap[q]? = s.heap[q]?) → t.heap[H.size]? = some ce → s.vm.findClass cls = some ce.cls → ce.vm = .none → Qc args s (.threw H.size) t) :
    W p l e R s m args below meth c H [] cells slots (tx_MQ below Qc args s (cells + 1) (slots + 6) free) (F0 m pc ls rest) := by
  intro T0 hT0 X0
  have htr := hl e X0.admits
  refine W.newc (g := F0 m pc ls rest) hexec hb hown hcl hins hini rfl hd0 hRc hRs (fun cC kC h1 h2 h3 h4 => ?_) T0 hT0 X0
  refine W.eq (g2 := F0 m (pc + 3) ls (.ref H.size :: rest)) rfl ?_
  refine lv_dup hexec hb hd3 rfl ?_
  refine tx_throw (a := H.size) hexec hb htr hlocks hown hcls hnames h h1 h2 ?_ hsz hsize hd6 hd9 (fun q hq => by rw [hout] at hq; cases hq) hRf ?_ hq
  · rw [Array.getElem?_push_size]
  · simpa [JFrame.monitorRoom, Value.category, Nat.add_comm, Nat.add_left_comm, Nat.add_assoc] using hRl
end TXA
end
section
/-! calls of methods that return or throw -/
section TXB
variable {p : Program} {l : Launch} {e : Env} {R : Room} {s : State} {m : MethodId} {args : Array Value} {below : List Frame} {meth : Method} {c : Code} {H : Heap} {locs : List Loc} {cells slots : Nat} {Q : State → Prop} {T : State}
/-- the call's inside: the callee runs, and the walk stands again, or the note lies over its frame -/
theorem tx_core (X : Stand p l e R s m args below meth c T locs cells slots) {y : MethodName} {ws : List Cond} {rm : Room} {Pc : Array Value → State → Prop} {Qc : Array Value → State → Outcome → State → Prop} {mc ms maxL : Nat} {free : Addr → Prop}
    (hM : tx_Met l y ws rm Pc Qc mc ms free) (hrc : rm.cells = mc) (hrs : rm.slots = ms) (hfr : rm.frames + 1 ≤ R.frames) {mk : MethodId} {methY : Method} {cY : Code} {kY : Class}
    (hn : T.methodNamed? y = some mk) (hmY : T.vm.method? mk = some methY) (hcY : methY.code = some cY) (hlY : cY.maxLocals = maxL) (hkY : T.vm.classes[mk.cls]? = some kY) (hinitY : kY.init = .initialized)
    {g : JFrame} (hg : g.method = m) (hsize : g.locals.size = c.maxLocals) {ig : Instr} {len : Nat} (hdg : decode c.code g.pc = .ok (ig, len)) (hW : 2 * g.monitorRoom + (g.stack.map fun v => v.category).sum + (maxL + 11) + rm.locals ≤ R.locals)
    (hcells : cells + mc ≤ R.cells) (hslots : slots + ms ≤ R.slots) {a : Array Value} (hws : ∀ w ∈ ws, w.before a T = true) (hPc : Pc a (T.calling g mk a)) :
    ∃ (o : Outcome) (t T' : State) (L : List Loc), Stand p l e R s m args below meth c T' (locs ++ L) (cells + mc) (slots + ms) ∧ (∀ q ∈ L, free q.base) ∧ T'.heap = t.heap ∧ T'.vm = t.vm ∧ Qc a (T.calling g mk a) o t ∧
      (∀ v, o = .returned v → Steps p.tables e below (doInvoke e (T.setTop g) [] mk a).1 (T'.setTop { g with pc := g.pc + len, stack := v.toList ++ g.stack })) ∧
      (∀ x, o = .threw x → Steps p.tables e below (doInvoke e (T.setTop g) [] mk a).1 ((T'.setTop g).pushFrame (.throwing x))) := by
  have h : At T g.method c below := by rw [hg]; exact X.here
  have happ : (headSpec ws rm).appliesLoose y e.platform (T.calling g mk a) = true :=
    Spec.appliesLoose_calling (g := g) h hdg hn hkY hinitY
      (X.room_calling (g := g) (R' := rm) hsize hmY hcY hfr (by rw [hlY]; exact hW) (by rw [hrc]; exact hcells) (by rw [hrs]; exact hslots)) (atoms_intro hws)
  obtain ⟨mid, hmid⟩ := h.above
  have hfm : (T.setTop g).frames = (.java g :: mid) ++ below := by rw [State.frames_setTop' g h.top, hmid]; rfl
  obtain ⟨o, t, hsteps, -, hend, hq, L, ⟨hWt, hsame⟩, hL⟩ := Steps.callFree hM p X.admits X.cas X.clock (acts := []) hfm happ hPc trivial
  rw [State.frames_setTop' g h.top, X.tail] at hend
  have hsame : (T.calling g mk a).sameButNew ({ t with vm := (T.calling g mk a).vm } : State) L mc ms := hsame
  obtain ⟨e2, q2, q3, q4, q5, q6⟩ := hsame
  have hW' : T.WarmedH t.vm := hWt
  have e3 : t = ({ (T.calling g mk a).setFrames t.frames with heap := t.heap, slotsUsed := t.slotsUsed } : State).setVm t.vm := by
    have q : t = ({ t with vm := (T.calling g mk a).vm } : State).setVm t.vm := rfl
    rw [e2] at q
    exact q
  obtain ⟨g₀, hr⟩ := X.frames_eq
  have hr' : (({ T with heap := t.heap, slotsUsed := t.slotsUsed } : State).setVm t.vm).frames = .java g₀ :: below := hr
  obtain ⟨th, hth, -⟩ := State.frames_cons hr
  have hB : T.sameButNew ({ T with heap := t.heap, slotsUsed := t.slotsUsed } : State) L mc ms := by
    refine ⟨?_, q2, q3, q4, q5, q6⟩
    show ({ T with heap := t.heap, slotsUsed := t.slotsUsed } : State) = { T.setFrames T.frames with heap := t.heap, slotsUsed := t.slotsUsed }
    rw [State.setFrames_self hth]
  subst hg
  refine ⟨o, t, ({ T with heap := t.heap, slotsUsed := t.slotsUsed } : State).setVm t.vm, L,
    ⟨X.admits, X.cas, X.clock, X.frames, X.room, X.hears, X.method, X.code, (X.here.setHeapUsed t.heap t.slotsUsed).setVm hW'.alike, X.tail, State.WarmedH.trans X.warmed hW', X.limits, X.bytes, X.same.trans (hB.setVm s.vm)⟩,
    hL, rfl, rfl, hq, ?_, ?_⟩
  · intro v ho
    subst ho
    obtain ⟨c₂, i₂, len₂, hc₂, hd₂, hf₂⟩ := hend
    have hcc : c₂ = c := by
      have h1 : t.code? g.method = T.code? g.method := by rw [State.code?_eq, State.code?_eq, hW'.alike.method?]
      exact Option.some.inj (hc₂.symm.trans (h1.trans X.here.code))
    subst hcc
    have hlen : len₂ = len := by rw [hdg] at hd₂; cases hd₂; rfl
    subst hlen
    have ht : t = (({ T with heap := t.heap, slotsUsed := t.slotsUsed } : State).setVm t.vm).setTop { g with pc := g.pc + len₂, stack := v.toList ++ g.stack } := by
      refine e3.trans ?_
      rw [hf₂, State.calling_eq h.top, State.setFrames_setFrames, State.setTop_of_frames _ hr']
      rfl
    rw [← ht]
    exact hsteps
  · intro x ho
    subst ho
    have hf₂ : t.frames = .throwing x :: .java g :: below := hend
    have ht : t = ((({ T with heap := t.heap, slotsUsed := t.slotsUsed } : State).setVm t.vm).setTop g).pushFrame (.throwing x) := by
      refine e3.trans ?_
      have hcur : (({ T with heap := t.heap, slotsUsed := t.slotsUsed } : State).setVm t.vm).cur < (({ T with heap := t.heap, slotsUsed := t.slotsUsed } : State).setVm t.vm).threads.size := (Array.getElem?_eq_some_iff.mp hth).1
      rw [hf₂, State.calling_eq h.top, State.setFrames_setFrames, State.setTop_of_frames _ hr', State.pushFrame, State.frames_setFrames _ hcur, State.setFrames_setFrames]
      rfl
    rw [← ht]
    exact hsteps
/-- invokevirtual of a method that may throw -/
theorem tx_runV {cc bytes : ByteArray} {nL maxL index n mc ms : Nat} {own C : String} {y : MethodName} {ret : Option FieldType} {Ts ws : List Cond} {rm : Room} {Pc : Array Value → State → Prop} {Qc : Array Value → State → Outcome → State → Prop} {free : Addr → Prop}
    {b : Addr} {As rest st0 : List Value} {pc : Nat} {ls : Array Slot}
    (S : CallFix p m c cc nL s args Ts own) (hM : tx_Met l y ws rm Pc Qc mc ms free) (cw : CallW R s args own C index y bytes maxL ret ws rm mc ms n) (hp : PreV s H C b Pc As)
    (hn : As.length = n) (hsize : ls.size = nL) (hstack : st0 = As.reverse ++ .ref b :: rest) (hW : 2 * (F0 m pc ls rest).monitorRoom + (rest.map fun v => v.category).sum ≤ 8) (hdg : decode cc pc = .ok (.invokevirtual index, 3)) (hf : cells + mc ≤ R.cells ∧ slots + ms ≤ R.slots)
    (kk : ∀ (o : Outcome) (st t : State) (H1 : Heap) (L : List Loc), st.heap = H → t.heap = H1 → s.vm.Alike t.vm → Qc (Value.ref b :: As).toArray st o t → (∀ q ∈ L, free q.base) →
      (∀ v, o = .returned v → W p l e R s m args below meth c H1 (locs ++ L) (cells + mc) (slots + ms) Q (F0 m (pc + 3) ls (v.toList ++ rest))) ∧
      (∀ x, o = .threw x → tx_V p l e R s m args below meth c H1 (locs ++ L) (cells + mc) (slots + ms) Q (F0 m pc ls rest) x)) :
    W p l e R s m args below meth c H locs cells slots Q (F0 m pc ls st0) := by
  obtain ⟨⟨hrc, hrs, hfr, hlo, hws, hcw, hcode, hini, hy, hlen, hl⟩, hinst, hsel⟩ := cw
  obtain ⟨hexec, hb, hml, hown, -⟩ := S
  obtain ⟨hbl, ⟨cellB, hcB, hoB, hclB⟩, hPc⟩ := hp
  intro T hT X
  obtain ⟨mk, methM, hnamed, hmethM, hstM, habM⟩ := Cond.instanceMethod_spec hinst
  obtain ⟨methM', cM, hmethM', hcM, -, hlM, -, -, -, hsigM⟩ := Cond.code_spec hnamed hcode
  cases hmethM.symm.trans hmethM'
  obtain ⟨c2, r2, m2, q1, q2, q3, q4, kP, hkP, hkPi⟩ := Cond.selects_spec hsel
  cases hclB.symm.trans q1
  cases (State.methodFound?_of_named hnamed hy).symm.trans q2
  cases hnamed.symm.trans q3
  have hselP : selectMethod e.platform s.vm cellB.cls mk = .method mk := by rw [Launch.admits_selectMethod X.admits]; exact q4
  obtain ⟨vm₁, X₁, hstep₁⟩ := X.invokevirtual hexec hown hl hnamed hmethM hstM hkP hkPi hy (a := b) (cell := cellB) (by rw [hT]; exact hcB)
    (fun z h => by rw [h] at hoB; cases hoB) hselP hmethM habM hkP hkPi (g := F0 m pc ls st0) rfl (argsL := As) (rest := rest) (by rw [hn]; exact hlen _ hsigM) hstack (by rw [hb]; exact hdg)
  have hinitP : kP.init = .initialized := Cond.initialized_spec (findClass_of_methodNamed hnamed) hkP hini
  have hal : s.vm.Alike (T.setVm vm₁).vm := X₁.warmed.alike
  obtain ⟨kP', hkP', hke⟩ := hal.2.2 _ _ hkP
  have hPcT : Pc (Value.ref b :: As).toArray ((T.setVm vm₁).calling (F0 m pc ls rest) mk (Value.ref b :: As).toArray) := hbl _ _ _ _ (hPc (T.setVm vm₁) hT X₁.warmed)
  obtain ⟨o, t, T', L, X', hL, hh, hv, hq, hR, hX⟩ := tx_core X₁ (maxL := maxL) hM hrc hrs hfr (mk := mk) (methY := methM) (cY := cM) (kY := kP') (X₁.named hnamed) (by rw [hal.method?]; exact hmethM) hcM hlM hkP' (by rw [hke]; exact hinitP)
    (g := F0 m pc ls rest) rfl (hsize.trans hml.symm) (by rw [hb]; exact hdg) (by have q9 : 2 * (F0 m pc ls rest).monitorRoom + ((F0 m pc ls rest).stack.map fun v => v.category).sum ≤ 8 := hW; omega) hf.1 hf.2 (fun w hw => hws w hw _ _ X₁.warmed) hPcT
  have ha : s.vm.Alike t.vm := by rw [← hv]; exact X'.warmed.alike
  obtain ⟨k1, k2⟩ := kk o _ t t.heap L (show ((T.setVm vm₁).calling (F0 m pc ls rest) mk (Value.ref b :: As).toArray).heap = H from hT) rfl ha hq hL
  cases o with
  | returned v =>
    obtain ⟨u, a1, b1⟩ := k1 v rfl T' hh X'
    exact ⟨u, hstep₁ _ (fun acts => by rw [doInvoke_state]; exact (hR v rfl).trans a1), b1⟩
  | threw x =>
    obtain ⟨u, a1, b1⟩ := k2 x rfl T' hh X'
    exact ⟨u, hstep₁ _ (fun acts => by rw [doInvoke_state]; exact (hX x rfl).trans a1), b1⟩
end TXB
end
section
/-! invokestatic of a method with a table of handlers -/
section TXD
variable {p : Program} {l : Launch} {e : Env} {R : Room} {s : State} {m : MethodId} {args : Array Value} {below : List Frame} {meth : Method} {c : Code} {H : Heap} {locs : List Loc} {cells slots : Nat} {Q : State → Prop}
theorem tx_runSW {cc bytes : ByteArray} {nL maxL index n mc ms : Nat} {own : String} {y : MethodName} {ret : Option FieldType} {hh : List (Nat × Nat × Nat × Nat)} {Ts ws : List Cond} {rm : Room} {Pc : Array Value → State → Prop} {Qc : Array Value → State → Outcome → State → Prop} {free : Addr → Prop}
    {As rest st0 : List Value} {pc : Nat} {ls : Array Slot}
    (S : CallFix p m c cc nL s args Ts own) (hM : tx_Met l y ws rm Pc Qc mc ms free) (hrc : rm.cells = mc) (hrs : rm.slots = ms) (hR : rm.frames + 1 ≤ R.frames ∧ 8 + (maxL + 11) + rm.locals ≤ R.locals)
    (hG : GoodIn Ts ws) (hcode : (Cond.codeWith y bytes maxL ret hh).before args s = true) (hstat : (Cond.static y).before args s = true) (hini : (Cond.initialized y.cls).before args s = true) (hl : (Cond.methodLink own index y).before args s = true)
    (hd : y.cls ≠ "java/lang/invoke/MethodHandle" ∧ y.cls ≠ "java/lang/invoke/VarHandle" ∧ (parseMethodDescriptor y.desc).map (fun d => d.parameters.length) = some n) (hp : PreS s H Pc As)
    (hn : As.length = n) (hsize : ls.size = nL) (hstack : st0 = As.reverse ++ rest) (hW : 2 * (F0 m pc ls rest).monitorRoom + (rest.map fun v => v.category).sum ≤ 8) (hdg : decode cc pc = .ok (.invokestatic index, 3)) (hf : cells + mc ≤ R.cells ∧ slots + ms ≤ R.slots)
    (kk : ∀ (o : Outcome) (st t : State) (H1 : Heap) (L : List Loc), st.heap = H → t.heap = H1 → s.vm.Alike t.vm → Qc As.toArray st o t → (∀ q ∈ L, free q.base) →
      (∀ v, o = .returned v → W p l e R s m args below meth c H1 (locs ++ L) (cells + mc) (slots + ms) Q (F0 m (pc + 3) ls (v.toList ++ rest))) ∧
      (∀ x, o = .threw x → tx_V p l e R s m args below meth c H1 (locs ++ L) (cells + mc) (slots + ms) Q (F0 m pc ls rest) x)) :
    W p l e R s m args below meth c H locs cells slots Q (F0 m pc ls st0) := by
  obtain ⟨hexec, hb, hml, hown, hts⟩ := S
  intro T hT X
  obtain ⟨mk, methM, cM, hnamed, hmethM, hcM, -, hlM, -, -, -, hsigM⟩ := Cond.codeWith_spec hcode
  have hstatic : methM.isStatic = true := Cond.static_spec hnamed hmethM hstat
  obtain ⟨kP, hkP, -⟩ := className_of_methodNamed hnamed
  have hinitP : kP.init = .initialized := Cond.initialized_spec (findClass_of_methodNamed hnamed) hkP hini
  have hlen : As.length = methM.sig.parameters.length := by
    have h2 := hd.2.2
    rw [hsigM] at h2
    rw [hn]
    exact (Option.some.inj h2).symm
  obtain ⟨vm₁, X₁, hstep₁⟩ := X.invokestatic hexec hown hl hnamed hmethM hstatic hkP hinitP ⟨hd.1, hd.2.1⟩ (g := F0 m pc ls st0) rfl (argsL := As) (rest := rest) hlen hstack (by rw [hb]; exact hdg)
  have hal : s.vm.Alike (T.setVm vm₁).vm := X₁.warmed.alike
  obtain ⟨kP', hkP', hke⟩ := hal.2.2 _ _ hkP
  have hPcT : Pc As.toArray ((T.setVm vm₁).calling (F0 m pc ls rest) mk As.toArray) := hp.1 _ _ _ _ (hp.2 (T.setVm vm₁) hT X₁.warmed)
  obtain ⟨o, t, T', L, X', hL, hh', hv, hq, hRt, hX⟩ := tx_core X₁ (maxL := maxL) hM hrc hrs hR.1 (mk := mk) (methY := methM) (cY := cM) (kY := kP') (X₁.named hnamed) (by rw [hal.method?]; exact hmethM) hcM hlM hkP' (by rw [hke]; exact hinitP)
    (g := F0 m pc ls rest) rfl (hsize.trans hml.symm) (by rw [hb]; exact hdg) (by have q9 : 2 * (F0 m pc ls rest).monitorRoom + ((F0 m pc ls rest).stack.map fun v => v.category).sum ≤ 8 := hW; have := hR.2; omega) hf.1 hf.2 (fun w hw => pay_in hts hG w hw _ _ X₁.warmed) hPcT
  have ha : s.vm.Alike t.vm := by rw [← hv]; exact X'.warmed.alike
  obtain ⟨k1, k2⟩ := kk o _ t t.heap L (show ((T.setVm vm₁).calling (F0 m pc ls rest) mk As.toArray).heap = H from hT) rfl ha hq hL
  cases o with
  | returned v =>
    obtain ⟨u, a1, b1⟩ := k1 v rfl T' hh' X'
    exact ⟨u, hstep₁ _ (fun acts => by rw [doInvoke_state]; exact (hRt v rfl).trans a1), b1⟩
  | threw x =>
    obtain ⟨u, a1, b1⟩ := k2 x rfl T' hh' X'
    exact ⟨u, hstep₁ _ (fun acts => by rw [doInvoke_state]; exact (hX x rfl).trans a1), b1⟩
end TXD
end
section
/-! the catch: a row of the method's own table, her class linked already or not -/
section TXC
variable {p : Program} {l : Launch} {e : Env} {R : Room} {s : State} {m : MethodId} {args : Array Value} {below : List Frame} {meth : Method} {c : Code} {H : Heap} {locs : List Loc} {cells slots : Nat} {Q : State → Prop}
/-- what the search of the frame's table gives, and the tables that it leaves -/
def tx_Seek (e : Env) (u : State) (f : JFrame) (a : Addr) (rows : List ExceptionTableEntry) (h : Handler) (vm' : Vm) : Prop :=
  ∀ (P : Handler → Pre) (E : CtlPost) (d : Bool) (acts : List Action), Sem.wp (findHandler.go f a rows) P E e d acts u ↔ P h d acts (u.setVm vm')
theorem tx_seekRow {u : State} {f : JFrame} {a : Addr} {x : ExceptionTableEntry} {t : List ExceptionTableEntry} {cT : ClassId} {cell : Cell} (hx : covers x f.pc = true) (h0 : x.catchType ≠ 0)
    (hl : u.vm.ClassLinks e.platform f.method.cls x.catchType cT) (hcell : u.heap[a]? = some cell) (hobj : ∀ k, cell.vm ≠ .statics k) (hk : ∃ k, u.vm.classes[cell.cls]? = some k) (hc : ∃ k, u.vm.classes[cT]? = some k)
    (P : Handler → Pre) (E : CtlPost) (d : Bool) (acts : List Action) :
    Sem.wp (findHandler.go f a (x :: t)) P E e d acts u ↔
      if u.vm.assignable cell.cls cT = true then P (.found x.handlerPc) d acts (u.setVm (u.vm.noted f.method.cls x.catchType (.cls cT)))
      else Sem.wp (findHandler.go f a t) P E e d acts (u.setVm (u.vm.noted f.method.cls x.catchType (.cls cT))) := by
  simp only [covers] at hx
  obtain ⟨ha, ht⟩ := (resolveClass_links e.toSetting hl).op (op := VmOp.resolveClass f.method.cls x.catchType) rfl
  have hal : u.vm.Alike (u.vm.noted f.method.cls x.catchType (.cls cT)) := (Vm.Alike.refl u.vm).noted _ _ _
  obtain ⟨k1, hk1⟩ := hk
  obtain ⟨k2, hk2⟩ := hc
  obtain ⟨j1, hj1, -⟩ := hal.2.2 _ _ hk1
  obtain ⟨j2, hj2, -⟩ := hal.2.2 _ _ hk2
  have has : (u.vm.noted f.method.cls x.catchType (.cls cT)).assignable cell.cls cT = u.vm.assignable cell.cls cT := hal.assignable _ _
  cases hfit : u.vm.assignable cell.cls cT <;>
    (rw [hfit] at has; simp [findHandler.go, hx, h0, ha, ht, hcell, hobj, hj1, hj2, has, VmOp.dirties, VmOp.acts])
theorem tx_refl (vm : Vm) (c : ClassId) : vm.assignable c c = true := by
  show vm.assignableAux (255 + 1) c c = true
  rw [Vm.assignableAux]
  simp
theorem tx_castable {args : Array Value} {s : State} {cls : String} {k : ClassId} (h : s.vm.findClass cls = some k) : (Cond.castable cls cls).before args s = true := by
  simp [Cond.before, Cond.holds, Cond.value, h, tx_refl]
/-- into the handler that the search has found -/
theorem tx_into {T : State} (X : Stand p l e R s m args below meth c T locs cells slots) {a : Addr} {g : JFrame} (hg : g.method = m) {pc : Nat} {vm' : Vm} (hW : s.WarmedH vm') (hs : tx_Seek e ((T.setTop g).pushFrame (.throwing a)) g a c.exceptionTable.toList (.found pc) vm') :
    Stand p l e R s m args below meth c (T.setVm vm') locs cells slots ∧
      ∀ tg, Steps p.tables e below ((T.setVm vm').setTop { g with pc := pc, stack := [.ref a] }) tg → Steps p.tables e below ((T.setTop g).pushFrame (.throwing a)) tg := by
  refine ⟨X.noted hW, fun tg hrest => ?_⟩
  subst hg
  obtain ⟨hgo, hw⟩ := X.here.throwing a
  refine Steps.head hgo hw ?_
  have hstep : (stepThrowing e ((T.setTop g).pushFrame (.throwing a)) a (.java g :: T.frames.tail)).1 = (((T.setTop g).pushFrame (.throwing a)).setVm vm').setFrames (.java { g with pc := pc, stack := [.ref a] } :: T.frames.tail) := by
    simp only [stepThrowing, searchFrame, vmDo]
    generalize hr : Sem.go _ e false [] ((T.setTop g).pushFrame (.throwing a)) = res
    obtain ⟨as, rfl, -⟩ := Sem.eq_ok_of hr (a := Handler.found pc) (s' := ((T.setTop g).pushFrame (.throwing a)).setVm vm') (acts' := [])
      (by
        have hm : ((T.setTop g).pushFrame (.throwing a)).vm.method? g.method = some meth := X.method'
        have key : ∀ (P : Handler → Pre) (E : CtlPost) (d : Bool) (acts : List Action), Sem.wp (findHandler g a) P E e d acts ((T.setTop g).pushFrame (.throwing a)) ↔ P (.found pc) d acts (((T.setTop g).pushFrame (.throwing a)).setVm vm') :=
          fun P E d acts => (Jvm.W.findHandler_eq hm X.code).trans (hs P E d acts)
        simp [key _ _ _ _])
    rfl
  rw [stepThread_throwing (frames_entered X.here.top _), hstep]
  obtain ⟨g₀, hr⟩ := X.frames_eq
  have hr' : (T.setVm vm').frames = .java g₀ :: below := hr
  rw [State.setTop_of_frames _ hr'] at hrest
  have e1 : (((T.setTop g).pushFrame (.throwing a)).setVm vm').setFrames (.java { g with pc := pc, stack := [.ref a] } :: T.frames.tail) = (T.setVm vm').setFrames (.java { g with pc := pc, stack := [.ref a] } :: below) := by
    rw [State.pushFrame, State.setTop_of_frames _ hr, State.setFrames_setFrames, X.tail]
    show ((T.setVm vm').setFrames _).setFrames _ = _
    rw [State.setFrames_setFrames]
  rw [e1]
  exact hrest
/-- the first row takes it -/
theorem tx_catch1 {x : ExceptionTableEntry} {rows : List ExceptionTableEntry} {own cls : String} {a : Addr} {cell : Cell} {pc : Nat} {ls : Array Slot} {st : List Value} (htab : c.exceptionTable.toList = x :: rows) (hx : covers x pc = true) (h0 : x.catchType ≠ 0)
    (hown : s.vm.findClass own = some m.cls) (hlink : (Cond.classLink own x.catchType cls).before args s = true) (hcell : H[a]? = some cell) (hobj : cell.vm = .none) (hcls : s.vm.findClass cls = some cell.cls)
    (kk : W p l e R s m args below meth c H locs cells slots Q (F0 m x.handlerPc ls [.ref a])) : tx_V p l e R s m args below meth c H locs cells slots Q (F0 m pc ls st) a := by
  intro T hT X
  have hpl : e.platform.magicAccessors = ({} : Platform).magicAccessors := by rw [X.admits.platform]
  obtain ⟨cT, hcT, hcl⟩ := Cond.classLink_spec hown hlink e.platform hpl
  cases Option.some.inj (hcls.symm.trans hcT)
  obtain ⟨dk, _, _, kt, hd, _, _, _, _, hkt, _, hopen⟩ := hcl.here
  have hW1 := X.warmed.noted hd hopen (State.rightAt_cls hcl)
  obtain ⟨j, hj, -⟩ := X.warmed.alike.2.2 _ _ hkt
  obtain ⟨X', st'⟩ := tx_into X (g := F0 m pc ls st) (a := a) rfl hW1 (pc := x.handlerPc) (fun P E d acts => by
    rw [htab, tx_seekRow (u := (T.setTop (F0 m pc ls st)).pushFrame (.throwing a)) (f := F0 m pc ls st) hx h0 (X.warmed.classLinks hcl) (show T.heap[a]? = some cell by rw [hT]; exact hcell) (fun k => by rw [hobj]; simp) ⟨j, hj⟩ ⟨j, hj⟩ P E d acts, if_pos (by
      show T.vm.assignable cell.cls cell.cls = true
      exact tx_refl _ _)]
    exact Iff.rfl)
  obtain ⟨t, a1, b1⟩ := kk (T.setVm (T.vm.noted m.cls x.catchType (.cls cell.cls))) hT X'
  exact ⟨t, st' t a1, b1⟩
/-- the first row passes it, the second takes it -/
theorem tx_catch2 {x y : ExceptionTableEntry} {rows : List ExceptionTableEntry} {own cls other : String} {a : Addr} {cell : Cell} {pc : Nat} {ls : Array Slot} {st : List Value} (htab : c.exceptionTable.toList = x :: y :: rows) (hx : covers x pc = true) (h0 : x.catchType ≠ 0) (hy : covers y pc = true) (h1 : y.catchType ≠ 0)
    (hown : s.vm.findClass own = some m.cls) (hlinkx : (Cond.classLink own x.catchType other).before args s = true) (hno : va_Nc cls other s) (hlink : (Cond.classLink own y.catchType cls).before args s = true) (hcell : H[a]? = some cell) (hobj : cell.vm = .none) (hcls : s.vm.findClass cls = some cell.cls)
    (kk : W p l e R s m args below meth c H locs cells slots Q (F0 m y.handlerPc ls [.ref a])) : tx_V p l e R s m args below meth c H locs cells slots Q (F0 m pc ls st) a := by
  intro T hT X
  have hpl : e.platform.magicAccessors = ({} : Platform).magicAccessors := by rw [X.admits.platform]
  obtain ⟨cO, hcO, hclO⟩ := Cond.classLink_spec hown hlinkx e.platform hpl
  obtain ⟨cT, hcT, hcl⟩ := Cond.classLink_spec hown hlink e.platform hpl
  cases Option.some.inj (hcls.symm.trans hcT)
  obtain ⟨c5, c6, hc5, hc6, hnot⟩ := hno
  cases Option.some.inj (hc5.symm.trans hcls)
  cases Option.some.inj (hc6.symm.trans hcO)
  obtain ⟨dO, _, _, kO, hdO, _, _, _, _, hkO, _, hopenO⟩ := hclO.here
  obtain ⟨dk, _, _, kt, hd, _, _, _, _, hkt, _, hopen⟩ := hcl.here
  have hW1 := X.warmed.noted hdO hopenO (State.rightAt_cls hclO)
  have hW2 := hW1.noted hd hopen (State.rightAt_cls hcl)
  obtain ⟨j, hj, -⟩ := X.warmed.alike.2.2 _ _ hkt
  obtain ⟨i, hi, -⟩ := X.warmed.alike.2.2 _ _ hkO
  obtain ⟨j2, hj2, -⟩ := hW1.alike.2.2 _ _ hkt
  obtain ⟨X', st'⟩ := tx_into X (g := F0 m pc ls st) (a := a) rfl hW2 (pc := y.handlerPc) (fun P E d acts => by
    rw [htab, tx_seekRow (u := (T.setTop (F0 m pc ls st)).pushFrame (.throwing a)) (f := F0 m pc ls st) hx h0 (X.warmed.classLinks hclO) (show T.heap[a]? = some cell by rw [hT]; exact hcell) (fun k => by rw [hobj]; simp) ⟨j, hj⟩ ⟨i, hi⟩ P E d acts, if_neg (by
      show ¬ T.vm.assignable cell.cls cO = true
      rw [X.warmed.alike.assignable, hnot]; simp)]
    refine (tx_seekRow (u := ((T.setTop (F0 m pc ls st)).pushFrame (.throwing a)).setVm (T.vm.noted m.cls x.catchType (.cls cO))) (f := F0 m pc ls st) hy h1 (hW1.classLinks hcl) (show T.heap[a]? = some cell by rw [hT]; exact hcell) (fun k => by rw [hobj]; simp) ⟨j2, hj2⟩ ⟨j2, hj2⟩ P E d acts).trans ?_
    rw [if_pos (tx_refl _ _)]
    exact Iff.rfl)
  obtain ⟨t, a1, b1⟩ := kk (T.setVm ((T.vm.noted m.cls x.catchType (.cls cO)).noted m.cls y.catchType (.cls cell.cls))) hT X'
  exact ⟨t, st' t a1, b1⟩
end TXC
end
section
/-! rows of my own over the kit's: shorter forms -/
section QWA
variable {p : Program} {l : Launch} {e : Env} {R : Room} {s : State} {m : MethodId} {args : Array Value} {below : List Frame} {meth : Method} {c : Code} {H H0 : Heap} {locs : List Loc} {cells slots : Nat} {Q : State → Prop} {pc : Nat} {ls : Array Slot} {rest : List Value} {cc : ByteArray} {D : va_G} {cl : List vw_C} {tys : List (ClassId × FieldType)} {ws : va_W} {A : Nat → Prop} {a : Nat}
theorem q_topi {x y : Int32} (e1 : x = y) (k : W p l e R s m args below meth c H locs cells slots Q (F0 m pc ls (.int y :: rest))) : W p l e R s m args below meth c H locs cells slots Q (F0 m pc ls (.int x :: rest)) := by
  rw [e1]
  exact k
theorem q_topl {x y : Int64} (e1 : x = y) (k : W p l e R s m args below meth c H locs cells slots Q (F0 m pc ls (.long y :: rest))) : W p l e R s m args below meth c H locs cells slots Q (F0 m pc ls (.long x :: rest)) := by
  rw [e1]
  exact k
theorem q_iald (hexec : p.tables.exec = Jvm.exec) (hb : c.code = cc) (hK : va_K D cl tys s) (hP : va_P D cl ws H) (q0 t0 : Nat) {cA : ClassId} {n : Nat} {f : Nat → Int32} (ha : ws[q0]? = some (a, .inl (cA, n, .inl f))) (ht : tys[t0]? = some (cA, .int)) {i : Int32} (j : Nat) (hi : i = nI j) (hj : j < n) (hn : n < 2 ^ 31) (hdg : decode cc pc = .ok (.iaload, 1))
    (kk : W p l e R s m args below meth c H locs cells slots Q (F0 m (pc + 1) ls (.int (f j) :: rest))) : W p l e R s m args below meth c H locs cells slots Q (F0 m pc ls (.int i :: .ref a :: rest)) := by
  subst hi
  refine va_iald hexec hb hK hP q0 t0 ha ht (vp_in_nI hj hn) hdg ?_
  rw [nI_clamp (by omega)]
  exact kk
theorem q_zald (hexec : p.tables.exec = Jvm.exec) (hb : c.code = cc) (hK : va_K D cl tys s) (hP : va_P D cl ws H) (q0 t0 : Nat) {cA : ClassId} {n : Nat} {f : Nat → Int32} (ha : ws[q0]? = some (a, .inl (cA, n, .inl f))) (ht : tys[t0]? = some (cA, .boolean)) {i : Int32} (j : Nat) (hi : i = nI j) (hj : j < n) (hn : n < 2 ^ 31) (hdg : decode cc pc = .ok (.baload, 1))
    (kk : W p l e R s m args below meth c H locs cells slots Q (F0 m (pc + 1) ls (.int (f j) :: rest))) : W p l e R s m args below meth c H locs cells slots Q (F0 m pc ls (.int i :: .ref a :: rest)) := by
  subst hi
  refine va_zald hexec hb hK hP q0 t0 ha ht (vp_in_nI hj hn) hdg ?_
  rw [nI_clamp (by omega)]
  exact kk
theorem q_lald (hexec : p.tables.exec = Jvm.exec) (hb : c.code = cc) (hK : va_K D cl tys s) (hP : va_P D cl ws H) (q0 t0 : Nat) {cA : ClassId} {n : Nat} {f : Nat → Int64} (ha : ws[q0]? = some (a, .inl (cA, n, .inr (.inl f)))) (ht : tys[t0]? = some (cA, .long)) {i : Int32} (j : Nat) (hi : i = nI j) (hj : j < n) (hn : n < 2 ^ 31) (hdg : decode cc pc = .ok (.laload, 1))
    (kk : W p l e R s m args below meth c H locs cells slots Q (F0 m (pc + 1) ls (.long (f j) :: rest))) : W p l e R s m args below meth c H locs cells slots Q (F0 m pc ls (.int i :: .ref a :: rest)) := by
  subst hi
  refine va_lald hexec hb hK hP q0 t0 ha ht (vp_in_nI hj hn) hdg ?_
  rw [nI_clamp (by omega)]
  exact kk
theorem q_iast (hexec : p.tables.exec = Jvm.exec) (hb : c.code = cc) (hK : va_K D cl tys s) (hP : va_P D cl ws H) (hD : va_D A ws) (hS : va_S A H0 H locs) (q0 t0 : Nat) {cA : ClassId} {n : Nat} {f : Nat → Int32} (ha : ws[q0]? = some (a, .inl (cA, n, .inl f))) (ht : tys[t0]? = some (cA, .int)) {i x : Int32} (j : Nat) (hi : i = nI j) (hj : j < n) (hn : n < 2 ^ 31) (hdg : decode cc pc = .ok (.iastore, 1))
    (kk : ∀ (H1 : Heap) (locs1 : List Loc), va_P D cl (ws.set q0 (a, .inl (cA, n, .inl (upd f j x)))) H1 → va_S A H0 H1 locs1 → W p l e R s m args below meth c H1 locs1 cells slots Q (F0 m (pc + 1) ls rest)) : W p l e R s m args below meth c H locs cells slots Q (F0 m pc ls (.int x :: .int i :: .ref a :: rest)) := by
  subst hi
  refine va_iast hexec hb hK hP hD hS q0 t0 ha ht (vp_in_nI hj hn) hdg (fun H1 locs1 h1 _ h3 => ?_)
  rw [nI_clamp (by omega)] at h1
  exact kk H1 locs1 h1 h3
theorem q_last (hexec : p.tables.exec = Jvm.exec) (hb : c.code = cc) (hK : va_K D cl tys s) (hP : va_P D cl ws H) (hD : va_D A ws) (hS : va_S A H0 H locs) (q0 t0 : Nat) {cA : ClassId} {n : Nat} {f : Nat → Int64} (ha : ws[q0]? = some (a, .inl (cA, n, .inr (.inl f)))) (ht : tys[t0]? = some (cA, .long)) {i : Int32} {x : Int64} (j : Nat) (hi : i = nI j) (hj : j < n) (hn : n < 2 ^ 31) (hdg : decode cc pc = .ok (.lastore, 1))
    (kk : ∀ (H1 : Heap) (locs1 : List Loc), va_P D cl (ws.set q0 (a, .inl (cA, n, .inr (.inl (vp_updL f j x))))) H1 → va_S A H0 H1 locs1 → W p l e R s m args below meth c H1 locs1 cells slots Q (F0 m (pc + 1) ls rest)) : W p l e R s m args below meth c H locs cells slots Q (F0 m pc ls (.long x :: .int i :: .ref a :: rest)) := by
  subst hi
  refine va_last hexec hb hK hP hD hS q0 t0 ha ht (vp_in_nI hj hn) hdg (fun H1 locs1 h1 _ h3 => ?_)
  rw [nI_clamp (by omega)] at h1
  exact kk H1 locs1 h1 h3
theorem q_zast (hexec : p.tables.exec = Jvm.exec) (hb : c.code = cc) (hK : va_K D cl tys s) (hP : va_P D cl ws H) (hD : va_D A ws) (hS : va_S A H0 H locs) (q0 t0 : Nat) {cA : ClassId} {n : Nat} {f : Nat → Int32} (ha : ws[q0]? = some (a, .inl (cA, n, .inl f))) (ht : tys[t0]? = some (cA, .boolean)) {i x : Int32} (j : Nat) (hi : i = nI j) (hj : j < n) (hn : n < 2 ^ 31) (hx : vp_nar .boolean x = x) (hdg : decode cc pc = .ok (.bastore, 1))
    (kk : ∀ (H1 : Heap) (locs1 : List Loc), va_P D cl (ws.set q0 (a, .inl (cA, n, .inl (upd f j x)))) H1 → va_S A H0 H1 locs1 → W p l e R s m args below meth c H1 locs1 cells slots Q (F0 m (pc + 1) ls rest)) : W p l e R s m args below meth c H locs cells slots Q (F0 m pc ls (.int x :: .int i :: .ref a :: rest)) := by
  subst hi
  refine va_zast hexec hb hK hP hD hS q0 t0 ha ht (vp_in_nI hj hn) hdg (fun H1 locs1 h1 _ h3 => ?_)
  rw [nI_clamp (by omega), hx] at h1
  exact kk H1 locs1 h1 h3
/-- a method that reads: its answer, the heap as it was -/
def rd_Q (v : Value) : Array Value → State → Outcome → State → Prop := fun _ st oc t => oc = .returned (some v) ∧ t.heap = st.heap
theorem rd_call {v : Value} {av : Array Value} {st0 : List Value} (hr : CallRun p l e R s m args below meth c H locs cells slots 0 0 (F0 m pc ls st0) rest (rd_Q v av) (fun _ => False))
    (kk : W p l e R s m args below meth c H locs cells slots Q (F0 m (pc + 3) ls (v :: rest))) : W p l e R s m args below meth c H locs cells slots Q (F0 m pc ls st0) := by
  intro T hT X
  obtain ⟨v', st₀, t, T', L, h0, X', hL, e1, ⟨hv, hh⟩, st⟩ := hr T hT X
  cases hv
  obtain ⟨t2, a1, b1⟩ := kk T' (by rw [e1, hh, h0]) (Stand.forget X' (fun q h => (hL q h).elim))
  exact ⟨t2, st t2 a1, b1⟩
/-- a method that writes: its answer, the cells behind it, nothing else changed but what A names -/
def wr_Q (D : va_G) (cl : List vw_C) (v : Option Value) (ws1 : va_W) (A : Nat → Prop) : Array Value → State → Outcome → State → Prop := fun _ st oc t => oc = .returned v ∧ va_P D cl ws1 t.heap ∧ va_F A st t
theorem wr_call {v : Option Value} {av : Array Value} {st0 : List Value} {mc ms : Nat} {ws1 : va_W} {A1 : Nat → Prop} (hr : CallRun p l e R s m args below meth c H locs cells slots mc ms (F0 m pc ls st0) rest (wr_Q D cl v ws1 A1 av) A1) (hS : va_S A H0 H locs) (hsub : ∀ q, A1 q → A q)
    (kk : ∀ (H1 : Heap) (locs1 : List Loc), va_P D cl ws1 H1 → va_S A H0 H1 locs1 → H.size ≤ H1.size → (∀ q : Nat, q < H.size → ¬ A1 q → H1[q]? = H[q]?) → W p l e R s m args below meth c H1 locs1 (cells + mc) (slots + ms) Q (F0 m (pc + 3) ls (v.toList ++ rest))) :
    W p l e R s m args below meth c H locs cells slots Q (F0 m pc ls st0) := by
  intro T hT X
  obtain ⟨v', st₀, t, T', L, h0, X', hL, e1, ⟨hv, hP1, hF⟩, st⟩ := hr T hT X
  cases hv
  have hF1 : H.size ≤ t.heap.size := by rw [← h0]; exact hF.1
  have hF2 : ∀ q : Nat, q < H.size → ¬ A1 q → t.heap[q]? = H[q]? := fun q hq hA => by rw [hF.2 q (by rw [h0]; exact hq) hA, h0]
  have hS1 : va_S A H0 t.heap (locs ++ L) := ⟨Nat.le_trans hS.1 hF1, fun q hq hA => by
      rw [hF2 q (Nat.lt_of_lt_of_le hq hS.1) (fun z => hA (hsub q z))]
      exact hS.2.1 q hq hA, fun q hq => by
      rcases List.mem_append.mp hq with h | h
      · exact hS.2.2 q h
      · exact hsub _ (hL q h)⟩
  obtain ⟨t2, a1, b1⟩ := kk t.heap (locs ++ L) hP1 hS1 hF1 hF2 T' e1 X'
  exact ⟨t2, st t2 a1, b1⟩
end QWA
section QWB
variable {l : Launch}
/-- a method's walk begins: no handlers -/
theorem q_open {y : MethodName} {ws ws' : List Cond} {rm : Room} {cc : ByteArray} {maxL : Nat} {ret : Option FieldType} {av : List Value} {B : State → Prop} {Qc : Array Value → State → Outcome → State → Prop} {mc ms : Nat} {free : Addr → Prop}
    (hy : plainName y.cls = true) (hw : ws = Cond.code y cc maxL ret :: ws') (hlen : (lg_sl av).length ≤ maxL)
    (body : ∀ (p : Program) (e : Env) (s : State) (m : MethodId) (below : List Frame) (meth : Method) (c : Code) (ls : Array Slot), CallFix p m c cc maxL s av.toArray ws y.cls → meth.sig.returnType = ret → meth.locks = false → B s → lv_has ls maxL (lv_args 0 av) →
      W p l e rm s m av.toArray below meth c s.heap [] 0 0 (MQ below Qc av.toArray s mc ms free) (F0 m 0 ls [])) : Met l y ws rm (va_Pc av B) Qc mc ms free := by
  refine Met.ofW (cc := cc) (maxL := maxL) (ret := ret) hy hw ?_
  intro p e s m args below meth c s₁ Bd hml hv
  obtain ⟨rfl, hB⟩ := hv
  rw [lg_entry_eq]
  exact body p e s m below meth c _ ⟨Bd.exec, Bd.bytes, hml, findClass_of_methodNamed Bd.named, atoms_spec (ws := ws) Bd.pre⟩ Bd.returns Bd.notSynchronized hB (lv_entry av hlen)
/-- the same for a method that may throw -/
theorem q_openT {y : MethodName} {ws ws' : List Cond} {rm : Room} {cc : ByteArray} {maxL : Nat} {ret : Option FieldType} {av : List Value} {B : State → Prop} {Qc : Array Value → State → Outcome → State → Prop} {mc ms : Nat} {free : Addr → Prop}
    (hy : plainName y.cls = true) (hw : ws = Cond.code y cc maxL ret :: ws') (hlen : (lg_sl av).length ≤ maxL)
    (body : ∀ (p : Program) (e : Env) (s : State) (m : MethodId) (below : List Frame) (meth : Method) (c : Code) (ls : Array Slot), CallFix p m c cc maxL s av.toArray ws y.cls → meth.sig.returnType = ret → meth.locks = false → c.exceptionTable.toList = [] → B s → lv_has ls maxL (lv_args 0 av) →
      W p l e rm s m av.toArray below meth c s.heap [] 0 0 (tx_MQ below Qc av.toArray s mc ms free) (F0 m 0 ls [])) : tx_Met l y ws rm (va_Pc av B) Qc mc ms free := by
  refine tx_ofW (cc := cc) (maxL := maxL) (ret := ret) hy hw ?_
  intro p e s m args below meth c s₁ Bd hml hv
  obtain ⟨rfl, hB⟩ := hv
  rw [lg_entry_eq]
  have hts := atoms_spec (ws := ws) Bd.pre
  have hno : c.exceptionTable.toList = [] := by
    have h := BodyLoose.noHandlers Bd (hts _ (by rw [hw]; exact List.mem_cons_self))
    have h2 : c.exceptionTable = #[] := by simpa [Array.isEmpty] using h
    rw [h2]
  exact body p e s m below meth c _ ⟨Bd.exec, Bd.bytes, hml, findClass_of_methodNamed Bd.named, hts⟩ Bd.returns Bd.notSynchronized hno hB (lv_entry av hlen)
/-- the same for a method with a table of handlers, that returns -/
theorem q_openW {y : MethodName} {ws ws' : List Cond} {rm : Room} {cc : ByteArray} {maxL : Nat} {ret : Option FieldType} {hh : List (Nat × Nat × Nat × Nat)} {av : List Value} {B : State → Prop} {Qc : Array Value → State → Outcome → State → Prop} {mc ms : Nat} {free : Addr → Prop}
    (hy : plainName y.cls = true) (hw : ws = Cond.codeWith y cc maxL ret hh :: ws') (hlen : (lg_sl av).length ≤ maxL)
    (body : ∀ (p : Program) (e : Env) (s : State) (m : MethodId) (below : List Frame) (meth : Method) (c : Code) (ls : Array Slot), CallFix p m c cc maxL s av.toArray ws y.cls → meth.sig.returnType = ret → meth.locks = false → c.exceptionTable.toList = tableOf hh → B s → lv_has ls maxL (lv_args 0 av) →
      W p l e rm s m av.toArray below meth c s.heap [] 0 0 (MQ below Qc av.toArray s mc ms free) (F0 m 0 ls [])) : Met l y ws rm (va_Pc av B) Qc mc ms free := by
  refine va_MetW (cc := cc) (maxL := maxL) (ret := ret) (hh := hh) hy hw ?_
  intro p e s m args below meth c s₁ Bd hml hv
  obtain ⟨rfl, hB⟩ := hv
  rw [lg_entry_eq]
  have hts := atoms_spec (ws := ws) Bd.pre
  have htab : c.exceptionTable.toList = tableOf hh := by
    obtain ⟨m9, meth9, c9, hn9, hm9, hc9, -, -, ht9, -⟩ := Cond.codeWith_spec (hts _ (by rw [hw]; exact List.mem_cons_self))
    cases Bd.named.symm.trans hn9
    cases Bd.method.symm.trans hm9
    cases (Stand.of_body Bd).code.symm.trans hc9
    rw [← ht9, table_eq]
  exact body p e s m below meth c _ ⟨Bd.exec, Bd.bytes, hml, findClass_of_methodNamed Bd.named, hts⟩ Bd.returns Bd.notSynchronized htab hB (lv_entry av hlen)
end QWB
end
section
/-! the class's cells: the object and its four arrays; K keys, D dues, Wt weights, O the row, n its length -/
abbrev wX (a : Nat → Nat) (C : Nat → ClassId) (K D : Nat → Int64) (Wt O : Nat → Int32) (n : Int32) : va_W :=
  [(a 0, .inr (0, [.ref (a 1), .ref (a 2), .ref (a 3), .ref (a 4), .int n])), (a 1, .inl (C 1, 200, .inr (.inl K))), (a 2, .inl (C 2, 200, .inr (.inl D))), (a 3, .inl (C 3, 200, .inl Wt)), (a 4, .inl (C 4, 200, .inl O))]
abbrev tX (C : Nat → ClassId) : List (ClassId × FieldType) := [(C 1, .long), (C 2, .long), (C 3, .int), (C 4, .int)]
def rX (G : va_G) (a : Nat → Nat) (C : Nat → ClassId) (K D : Nat → Int64) (Wt O : Nat → Int32) (n : Int32) (U : State) : Prop := va_P G vwCl (wX a C K D Wt O n) U.heap ∧ va_K G vwCl (tX C) U
theorem rX_blind {G : va_G} {a : Nat → Nat} {C : Nat → ClassId} {K D : Nat → Int64} {Wt O : Nat → Int32} {n : Int32} {av : List Value} : FrameBlind (va_Pc av (rX G a C K D Wt O n)) :=
  fun v U g mk q => ⟨q.1, q.2.1, va_K.moved (u := U) (U := U.calling g mk v) (Vm.Alike.refl U.vm) q.2.2⟩
theorem pX_V {G : va_G} {a : Nat → Nat} {C : Nat → ClassId} {K D : Nat → Int64} {Wt O : Nat → Int32} {n : Int32} {s : State} {H : Heap} {As : List Value} (hP : va_P G vwCl (wX a C K D Wt O n) H) (hK : va_K G vwCl (tX C) s) :
    PreV s H RX0 (a 0) (va_Pc (.ref (a 0) :: As) (rX G a C K D Wt O n)) As :=
  ⟨rX_blind, va_recv (q0 := 0) hK hP rfl rfl, fun U hU hW => ⟨rfl, by rw [hU]; exact hP, va_K.moved hW.alike hK⟩⟩
/-- the five addresses are apart and lie in A, whatever the cells hold -/
theorem dX {A : Nat → Prop} {a : Nat → Nat} (h1 : ∀ i j, i < 5 → j < 5 → a i = a j → i = j) (h2 : ∀ i, i < 5 → A (a i)) (C : Nat → ClassId) (K D : Nat → Int64) (Wt O : Nat → Int32) (n : Int32) : va_D A (wX a C K D Wt O n) := by
  have key : ∀ (k : Nat) (q : Nat × va_E), (wX a C K D Wt O n)[k]? = some q → k < 5 ∧ q.1 = a k := by
    intro k q hq
    match k, hq with
    | 0, hq => cases hq; exact ⟨by omega, rfl⟩
    | 1, hq => cases hq; exact ⟨by omega, rfl⟩
    | 2, hq => cases hq; exact ⟨by omega, rfl⟩
    | 3, hq => cases hq; exact ⟨by omega, rfl⟩
    | 4, hq => cases hq; exact ⟨by omega, rfl⟩
    | k + 5, hq => simp at hq
  refine ⟨fun i j x y hx hy e => ?_, fun k q hq => ?_⟩
  · obtain ⟨i5, ex⟩ := key i x hx
    obtain ⟨j5, ey⟩ := key j y hy
    exact h1 i j i5 j5 (by rw [← ex, ← ey]; exact e)
  · obtain ⟨k5, e⟩ := key k q hq
    rw [e]
    exact h2 k k5
/-! the reference's cells: the object and its four arrays; T who is there, K keys, D dues, w weights, th what was thrown -/
def ft_tb (T : Nat → Bool) (n : Nat) : Int32 := if T n = true then 1 else 0
theorem ft_tb_t {T : Nat → Bool} {n : Nat} (h : T n = true) : ft_tb T n = 1 := if_pos h
theorem ft_tb_f {T : Nat → Bool} {n : Nat} (h : ¬ T n = true) : ft_tb T n = 0 := if_neg h
abbrev wM (a : Nat → Nat) (C : Nat → ClassId) (T : Nat → Bool) (K D : Nat → Int64) (w : Nat → Int32) (th : Int32) : va_W :=
  [(a 0, .inr (1, [.ref (a 1), .ref (a 2), .ref (a 3), .ref (a 4), .int th])), (a 1, .inl (C 1, 200, .inl (ft_tb T))), (a 2, .inl (C 2, 200, .inr (.inl K))), (a 3, .inl (C 3, 200, .inr (.inl D))), (a 4, .inl (C 4, 200, .inl w))]
abbrev tM (C : Nat → ClassId) : List (ClassId × FieldType) := [(C 1, .boolean), (C 2, .long), (C 3, .long), (C 4, .int)]
def rM (G : va_G) (a : Nat → Nat) (C : Nat → ClassId) (T : Nat → Bool) (K D : Nat → Int64) (w : Nat → Int32) (th : Int32) (U : State) : Prop := va_P G vwCl (wM a C T K D w th) U.heap ∧ va_K G vwCl (tM C) U
theorem rM_blind {G : va_G} {a : Nat → Nat} {C : Nat → ClassId} {T : Nat → Bool} {K D : Nat → Int64} {w : Nat → Int32} {th : Int32} {av : List Value} : FrameBlind (va_Pc av (rM G a C T K D w th)) :=
  fun v U g mk q => ⟨q.1, q.2.1, va_K.moved (u := U) (U := U.calling g mk v) (Vm.Alike.refl U.vm) q.2.2⟩
theorem pM_V {G : va_G} {a : Nat → Nat} {C : Nat → ClassId} {T : Nat → Bool} {K D : Nat → Int64} {w : Nat → Int32} {th : Int32} {s : State} {H : Heap} {As : List Value} (hP : va_P G vwCl (wM a C T K D w th) H) (hK : va_K G vwCl (tM C) s) :
    PreV s H RX1 (a 0) (va_Pc (.ref (a 0) :: As) (rM G a C T K D w th)) As :=
  ⟨rM_blind, va_recv (q0 := 0) hK hP rfl rfl, fun U hU hW => ⟨rfl, by rw [hU]; exact hP, va_K.moved hW.alike hK⟩⟩
theorem dM {A : Nat → Prop} {a : Nat → Nat} (h1 : ∀ i j, i < 5 → j < 5 → a i = a j → i = j) (h2 : ∀ i, i < 5 → A (a i)) (C : Nat → ClassId) (T : Nat → Bool) (K D : Nat → Int64) (w : Nat → Int32) (th : Int32) : va_D A (wM a C T K D w th) := by
  have key : ∀ (k : Nat) (q : Nat × va_E), (wM a C T K D w th)[k]? = some q → k < 5 ∧ q.1 = a k := by
    intro k q hq
    match k, hq with
    | 0, hq => cases hq; exact ⟨by omega, rfl⟩
    | 1, hq => cases hq; exact ⟨by omega, rfl⟩
    | 2, hq => cases hq; exact ⟨by omega, rfl⟩
    | 3, hq => cases hq; exact ⟨by omega, rfl⟩
    | 4, hq => cases hq; exact ⟨by omega, rfl⟩
    | k + 5, hq => simp at hq
  refine ⟨fun i j x y hx hy e => ?_, fun k q hq => ?_⟩
  · obtain ⟨i5, ex⟩ := key i x hx
    obtain ⟨j5, ey⟩ := key j y hy
    exact h1 i j i5 j5 (by rw [← ex, ← ey]; exact e)
  · obtain ⟨k5, e⟩ := key k q hq
    rw [e]
    exact h2 k k5
theorem ft_cnt_t {P : Nat → Bool} {i : Nat} (h : P i = true) : nI (ft_cnt P i) + 1 = nI (ft_cnt P (i + 1)) := by
  have e : ft_cnt P (i + 1) = ft_cnt P i + (if P i = true then 1 else 0) := rfl
  rw [e, if_pos h, nI_succ]
theorem ft_cnt_f {P : Nat → Bool} {i : Nat} (h : ¬ P i = true) : ft_cnt P (i + 1) = ft_cnt P i := by
  have e : ft_cnt P (i + 1) = ft_cnt P i + (if P i = true then 1 else 0) := rfl
  rw [e, if_neg h, Nat.add_zero]
theorem ft_sum_t {α : Type} {op : α → α → α} {z : α} {P : Nat → Bool} {f : Nat → α} {i : Nat} (h : P i = true) : op (ft_sum op z (fun k => if P k = true then f k else z) i) (f i) = ft_sum op z (fun k => if P k = true then f k else z) (i + 1) := by
  show _ = op (ft_sum op z (fun k => if P k = true then f k else z) i) (if P i = true then f i else z)
  rw [if_pos h]
theorem ft_sum_f {α : Type} {op : α → α → α} {z : α} (hz : ∀ a, op a z = a) {P : Nat → Bool} {f : Nat → α} {i : Nat} (h : ¬ P i = true) : ft_sum op z (fun k => if P k = true then f k else z) (i + 1) = ft_sum op z (fun k => if P k = true then f k else z) i := by
  show op (ft_sum op z (fun k => if P k = true then f k else z) i) (if P i = true then f i else z) = _
  rw [if_neg h, hz]
end
section
/-! rows for methods that write -/
section QWC
variable {p : Program} {l : Launch} {e : Env} {R : Room} {s : State} {m : MethodId} {args : Array Value} {below : List Frame} {meth : Method} {c : Code} {H H0 : Heap} {locs : List Loc} {cells slots : Nat} {Q : State → Prop} {pc : Nat} {ls : Array Slot} {rest : List Value} {cc : ByteArray} {D : va_G} {cl : List vw_C} {tys : List (ClassId × FieldType)} {ws : va_W} {A : Nat → Prop} {a : Nat}
theorem q_copyi (hexec : p.tables.exec = Jvm.exec) (hb : c.code = cc) (hml : c.maxLocals = ls.size) {own : String} {index : Nat} (hown : s.vm.findClass own = some m.cls) (hlink : (Cond.methodLink own index arraycopyName).before args s = true) (hnat : (Cond.native arraycopyName).before args s = true) (hstat : (Cond.static arraycopyName).before args s = true) (hini : (Cond.initialized "java/lang/System").before args s = true)
    (hK : va_K D cl tys s) (hP : va_P D cl ws H) (hD : va_D A ws) (hS : va_S A H0 H locs) (q0 q1 t0 t1 : Nat) {a0 : Nat} {c0 c1 : ClassId} {n0 n1 : Nat} {f g : Nat → Int32} (ha0 : ws[q0]? = some (a0, .inl (c0, n0, .inl f))) (ha1 : ws[q1]? = some (a, .inl (c1, n1, .inl g))) (ht0 : tys[t0]? = some (c0, .int)) (ht1 : tys[t1]? = some (c1, .int))
    {sp dp n : Int32} (u v k : Nat) (e1 : sp = nI u) (e2 : dp = nI v) (e3 : n = nI k) (h4 : u + k ≤ n0) (h5 : v + k ≤ n1) (h6 : n0 < 2 ^ 31) (h7 : n1 < 2 ^ 31)
    (hframes : 1 ≤ R.frames) (hlocals : (rest.map fun v => v.category).sum + (nativeFrameWords "java/lang/System" "arraycopy" 5 + 11) ≤ R.locals) (hdg : decode cc pc = .ok (.invokestatic index, 3))
    (kk : ∀ (H1 : Heap) (locs1 : List Loc), va_P D cl (ws.set q1 (a, .inl (c1, n1, .inl (va_cpy f g u v k)))) H1 → va_S A H0 H1 locs1 → W p l e R s m args below meth c H1 locs1 cells slots Q (F0 m (pc + 3) ls rest)) :
    W p l e R s m args below meth c H locs cells slots Q (F0 m pc ls (.int n :: .int dp :: .ref a :: .int sp :: .ref a0 :: rest)) := by
  subst e1 e2 e3
  have c1' : (nI u).toNatClampNeg = u := nI_clamp (by omega)
  have c2' : (nI v).toNatClampNeg = v := nI_clamp (by omega)
  have c3' : (nI k).toNatClampNeg = k := nI_clamp (by omega)
  refine va_copyi (ty := .int) hexec hb hml hown hlink hnat hstat hini hK hP hD hS q0 q1 t0 t1 ha0 ha1 ht0 ht1 rfl (nI_pos (by omega)) (nI_pos (by omega)) (nI_pos (by omega)) (by rw [c1', c3']; exact h4) (by rw [c2', c3']; exact h5) (fun _ _ => rfl) hframes hlocals hdg (fun H1 locs1 h1 _ h3 => ?_)
  rw [c1', c2', c3'] at h1
  exact kk H1 locs1 h1 h3
end QWC
/-- the weights of a stretch of the row go to 0 -/
def ft_zr (Lf : Nat → Nat) : Nat → Nat → (Nat → Int32) → (Nat → Int32)
  | 0, _, Wt => Wt
  | k + 1, i, Wt => ft_zr Lf k (i + 1) (upd Wt (Lf i) 0)
theorem ft_zr_in (Lf : Nat → Nat) : ∀ k i Wt n, (∃ j, i ≤ j ∧ j < i + k ∧ Lf j = n) → ft_zr Lf k i Wt n = 0 := by
  intro k
  induction k with
  | zero => intro i Wt n ⟨j, h1, h2, _⟩; omega
  | succ k ih =>
    intro i Wt n ⟨j, h1, h2, e⟩
    show ft_zr Lf k (i + 1) (upd Wt (Lf i) 0) n = 0
    by_cases c : ∃ j, i + 1 ≤ j ∧ j < i + 1 + k ∧ Lf j = n
    · exact ih (i + 1) _ n c
    · have ej : j = i := by
        by_cases ej : j = i
        · exact ej
        · exact absurd ⟨j, by omega, by omega, e⟩ c
      have out : ∀ k i Wt n, (¬ ∃ j, i ≤ j ∧ j < i + k ∧ Lf j = n) → ft_zr Lf k i Wt n = Wt n := by
        intro k
        induction k with
        | zero => intro i Wt n _; rfl
        | succ k ih2 =>
          intro i Wt n h
          show ft_zr Lf k (i + 1) (upd Wt (Lf i) 0) n = Wt n
          rw [ih2 (i + 1) _ n (fun ⟨j, a, b, c⟩ => h ⟨j, by omega, by omega, c⟩)]
          exact pk_un (fun q => h ⟨i, by omega, by omega, q.symm⟩)
      rw [out k (i + 1) _ n c, ← e, ej]
      exact pk_us
theorem ft_zr_out (Lf : Nat → Nat) : ∀ k i Wt n, (¬ ∃ j, i ≤ j ∧ j < i + k ∧ Lf j = n) → ft_zr Lf k i Wt n = Wt n := by
  intro k
  induction k with
  | zero => intro i Wt n _; rfl
  | succ k ih2 =>
    intro i Wt n h
    show ft_zr Lf k (i + 1) (upd Wt (Lf i) 0) n = Wt n
    rw [ih2 (i + 1) _ n (fun ⟨j, a, b, c⟩ => h ⟨j, by omega, by omega, c⟩)]
    exact pk_un (fun q => h ⟨i, by omega, by omega, q.symm⟩)
/-- all keys of the row go by y -/
def ft_sl (Lf : Nat → Nat) (y : Int64) : Nat → Nat → (Nat → Int64) → (Nat → Int64)
  | 0, _, K => K
  | k + 1, i, K => ft_sl Lf y k (i + 1) (vp_updL K (Lf i) (K (Lf i) + y))
theorem ft_sl_out (Lf : Nat → Nat) (y : Int64) : ∀ k i K n, (¬ ∃ j, i ≤ j ∧ j < i + k ∧ Lf j = n) → ft_sl Lf y k i K n = K n := by
  intro k
  induction k with
  | zero => intro i K n _; rfl
  | succ k ih =>
    intro i K n h
    show ft_sl Lf y k (i + 1) (vp_updL K (Lf i) (K (Lf i) + y)) n = K n
    rw [ih (i + 1) _ n (fun ⟨j, a, b, c⟩ => h ⟨j, by omega, by omega, c⟩)]
    exact pk_uLn (fun q => h ⟨i, by omega, by omega, q.symm⟩)
theorem ft_sl_in (Lf : Nat → Nat) (y : Int64) : ∀ k i K n, (∀ j j', i ≤ j → j < j' → j' < i + k → Lf j ≠ Lf j') → (∃ j, i ≤ j ∧ j < i + k ∧ Lf j = n) → ft_sl Lf y k i K n = K n + y := by
  intro k
  induction k with
  | zero => intro i K n _ ⟨j, h1, h2, _⟩; omega
  | succ k ih =>
    intro i K n hi ⟨j, h1, h2, e⟩
    show ft_sl Lf y k (i + 1) (vp_updL K (Lf i) (K (Lf i) + y)) n = K n + y
    by_cases ej : j = i
    · rw [ft_sl_out Lf y k (i + 1) _ n (fun ⟨j', a, b, c⟩ => hi i j' (by omega) (by omega) (by omega) (by rw [c, ← e, ej])), ← e, ej]
      exact pk_uLs
    · rw [ih (i + 1) _ n (fun j j' a b c => hi j j' (by omega) b (by omega)) ⟨j, by omega, by omega, e⟩]
      rw [pk_uLn]
      intro q
      exact hi i j (by omega) (by omega) (by omega) (by rw [e, q])
theorem ft_sl_eq {T : Nat → Bool} {K : Nat → Int64} {w : Nat → Int32} {Lf : Nat → Nat} {sz : Nat} (h : ft_iv T K w Lf sz) (y : Int64) : ft_sl Lf y sz 0 K = fun n => if T n = true then K n + y else K n := by
  funext n
  by_cases t : T n = true
  · rw [if_pos t]
    obtain ⟨i, hi, e⟩ := h.2.2.1 n t
    exact ft_sl_in Lf y sz 0 K n (fun j j' _ a b => ft_iv_ne h a (by omega)) ⟨i, by omega, by omega, e⟩
  · rw [if_neg t]
    exact ft_sl_out Lf y sz 0 K n (fun ⟨j, _, b, c⟩ => t (by rw [← c]; exact h.2.1 j (by omega)))
end
section
/-! a row with a stretch taken out, a row with a number put in -/
theorem q_pred {n : Nat} (h : 0 < n) : nI n - 1 = nI (n - 1) := pk_sub (a := n) (b := 1) h
abbrev ft_rm (Lf : Nat → Nat) (a b : Nat) : Nat → Nat := fun i => if i < a then Lf i else Lf (i + (b - a))
abbrev ft_in (Lf : Nat → Nat) (p n : Nat) : Nat → Nat := fun i => if i < p then Lf i else if i = p then n else Lf (i - 1)
theorem hO_rm {O : Nat → Int32} {Lf : Nat → Nat} {sz : Nat} (hO : ∀ i, i < sz → O i = nI (Lf i) ∧ Lf i < 200) {a b : Nat} (hab : a ≤ b) (hb : b ≤ sz) : ∀ i, i < sz - (b - a) → va_cpy O O b a (sz - b) i = nI (ft_rm Lf a b i) ∧ ft_rm Lf a b i < 200 := by
  intro i hi
  by_cases c : i < a
  · rw [pk_cpy_out (Or.inl c)]
    show O i = nI (if i < a then Lf i else Lf (i + (b - a))) ∧ (if i < a then Lf i else Lf (i + (b - a))) < 200
    rw [if_pos c]
    exact hO i (by omega)
  · rw [pk_cpy_in (by omega) (by omega)]
    show O (b + (i - a)) = nI (if i < a then Lf i else Lf (i + (b - a))) ∧ (if i < a then Lf i else Lf (i + (b - a))) < 200
    rw [if_neg c]
    have e : b + (i - a) = i + (b - a) := by omega
    rw [e]
    exact hO _ (by omega)
theorem hO_in {O : Nat → Int32} {Lf : Nat → Nat} {sz : Nat} (hO : ∀ i, i < sz → O i = nI (Lf i) ∧ Lf i < 200) {q n : Nat} (hq : q ≤ sz) (hn : n < 200) : ∀ i, i < sz + 1 → upd (va_cpy O O q (q + 1) (sz - q)) q (nI n) i = nI (ft_in Lf q n i) ∧ ft_in Lf q n i < 200 := by
  intro i hi
  show upd (va_cpy O O q (q + 1) (sz - q)) q (nI n) i = nI (if i < q then Lf i else if i = q then n else Lf (i - 1)) ∧ (if i < q then Lf i else if i = q then n else Lf (i - 1)) < 200
  rcases Nat.lt_trichotomy i q with c | c | c
  · rw [pk_un (by omega), pk_cpy_out (Or.inl (by omega)), if_pos c]
    exact hO i (by omega)
  · subst c
    rw [pk_us, if_neg (by omega), if_pos rfl]
    exact ⟨rfl, hn⟩
  · rw [pk_un (by omega), pk_cpy_in (by omega) (by omega), if_neg (by omega), if_neg (by omega)]
    have e : q + (i - (q + 1)) = i - 1 := by omega
    rw [e]
    exact hO _ (by omega)
end
section
/-! what a throw needs of the start, and what it leaves -/
abbrev EIA : String := "java/lang/IllegalArgumentException"
abbrev ENS : String := "java/util/NoSuchElementException"
abbrev ENM : List String := ["java/lang/RuntimeException", "java/lang/Exception"]
/-- the static's place: its class's statics cell, a slot of it of the field's type -/
def tx_Pl (C n d : String) (A : Nat → Prop) (U : State) (H : Heap) : Prop :=
  ∃ (ci : ClassId) (kc : Class) (j : Nat) (fd : Field) (b : Nat) (ce : Cell), (U.vm.findClass C = some ci ∧ U.fieldFound? C n d = some (ci, kc, j, fd) ∧ fd.isStatic = true ∧ kc.statics = some b ∧ kc.staticTypes[fd.slot]? = some fd.type) ∧ (H[b]? = some ce ∧ ¬ A b) ∧ ce.vm.isStatics = true ∧ ce.cls = ci ∧ fd.slot < ce.slots.size
theorem tx_Pl_of {C n d : String} {A : Nat → Prop} {s : State} {args : Array Value} (h : (Cond.laysStatic C n d).before args s = true) (hA : ∀ b : Nat, b < s.heap.size → ¬ A b) : tx_Pl C n d A s s.heap := by
  obtain ⟨ci, kc, j, fd, b, ce, q1, q2, q3, q4, q5, q6, q7, q8, q9⟩ := Cond.laysStatic_spec h
  exact ⟨ci, kc, j, fd, b, ce, ⟨q1, q2, q3, q4, q9⟩, ⟨q5, hA b (Array.getElem?_eq_some_iff.mp q5).1⟩, q6, q7, q8⟩
theorem tx_Pl_word {C n d : String} {A : Nat → Prop} {s : State} {args : Array Value} (h : tx_Pl C n d A s s.heap) : (Cond.laysStatic C n d).before args s = true := by
  obtain ⟨ci, kc, j, fd, b, ce, ⟨q1, q2, q3, q4, q9⟩, ⟨q5, _⟩, q6, q7, q8⟩ := h
  have z : (Cond.laysStatic C n d).holds args s none s [] = true := Cond.laysStatic_of q1 q2 q3 q4 q5 q6 q7 q8 q9
  exact z
theorem tx_Pl_to {C n d : String} {A B : Nat → Prop} {s U : State} {H H1 : Heap} (h : tx_Pl C n d A s H) (ha : s.vm.Alike U.vm) (hh : ∀ b : Nat, b < H.size → ¬ A b → H1[b]? = H[b]?) (hAB : ∀ q, B q → A q) : tx_Pl C n d B U H1 := by
  obtain ⟨ci, kc, j, fd, b, ce, ⟨q1, q2, q3, q4, q9⟩, ⟨q5, q0⟩, q6⟩ := h
  obtain ⟨kc', z, e⟩ := State.fieldFound?_setVm ha q2
  exact ⟨ci, kc', j, fd, b, ce, ⟨by rw [ha.findClass]; exact q1, z, q3, by rw [e]; exact q4, by rw [e]; exact q9⟩, ⟨by rw [hh b (Array.getElem?_eq_some_iff.mp q5).1 q0]; exact q5, fun w => q0 (hAB _ w)⟩, q6⟩
/-- a static of Throwable: its place, and a reference or null there -/
def tx_Zs (n d : String) (A : Nat → Prop) (U : State) (H : Heap) : Prop := va_Zq Bundle.tN n d A U H ∧ tx_Pl Bundle.tN n d A U H
theorem tx_Zs_to {n d : String} {A B : Nat → Prop} {s U : State} {H H1 : Heap} (h : tx_Zs n d A s H) (ha : s.vm.Alike U.vm) (hh : ∀ b : Nat, b < H.size → ¬ A b → H1[b]? = H[b]?) (hAB : ∀ q, B q → A q) : tx_Zs n d B U H1 :=
  ⟨((h.1.kept hh).narrow hAB).moved ha, tx_Pl_to h.2 ha hh hAB⟩
abbrev tx_FL : List Cond := [.declares (Bundle.init0 "java/lang/RuntimeException"), .declares (Bundle.init0 "java/lang/Exception"), .declares (Bundle.init0 Bundle.tN)]
def tx_D (U : State) : Prop := ∀ w ∈ tx_FL, ∀ args : Array Value, w.before args U = true
theorem tx_face {s U : State} {w : Cond} {args a' : Array Value} (ha : s.vm.Alike U.vm) (hf : w.faceAtom = true) (ho : w.onTables = true) (h : w.before args s = true) : w.before a' U = true := by
  have h1 := Cond.faceAtom_setVm (args := args) ha w hf h
  have e := Cond.onTables_vm (A := args) (A' := a') (U := s) (U' := U) U.vm w ho
  have hU : U.setVm U.vm = U := rfl
  rw [hU] at e
  rw [← e]
  exact h1
theorem tx_D_to {s U : State} (h : tx_D s) (ha : s.vm.Alike U.vm) : tx_D U := by
  intro w hw args
  have q := h w hw #[]
  simp only [tx_FL, List.mem_cons, List.not_mem_nil, or_false] at hw
  rcases hw with rfl | rfl | rfl
  · exact tx_face ha rfl rfl q
  · exact tx_face ha rfl rfl q
  · exact tx_face ha rfl rfl q
def tx_G2 (A : Nat → Prop) (U : State) (H : Heap) : Prop := tx_Zs "UNASSIGNED_STACK" Bundle.steD A U H ∧ tx_Zs "SUPPRESSED_SENTINEL" Bundle.listD A U H ∧ tx_D U
/-- the two statics of Throwable hold a reference or null -/
def tx_G (U : State) : Prop := tx_G2 (fun _ => False) U U.heap
theorem tx_G2_to {A B : Nat → Prop} {s U : State} {H H1 : Heap} (h : tx_G2 A s H) (ha : s.vm.Alike U.vm) (hh : ∀ b : Nat, b < H.size → ¬ A b → H1[b]? = H[b]?) (hAB : ∀ q, B q → A q) : tx_G2 B U H1 := ⟨tx_Zs_to h.1 ha hh hAB, tx_Zs_to h.2.1 ha hh hAB, tx_D_to h.2.2 ha⟩
theorem tx_isRef {C n d : String} {A : Nat → Prop} {s : State} {args : Array Value} (h : va_Zq C n d A s s.heap) : (Cond.isRef (.static C n d)).before args s = true := by
  rcases h with h | ⟨t, h⟩
  · obtain ⟨cf, kf, fi, f, a, cell, h1, h2, h3, h4, h5, h6, h7, h8⟩ := h
    simp [Cond.before, Cond.holds, Cond.value, Term.eval, State.fieldNamed?, h1, h2, h4, h5, h6, h7]
  · obtain ⟨cf, kf, fi, f, a, cell, h1, h2, h3, h4, h5, h6, h7, h8⟩ := h
    simp [Cond.before, Cond.holds, Cond.value, Term.eval, State.fieldNamed?, h1, h2, h4, h5, h6, h7]
set_option maxRecDepth 100000 in
theorem own_IA : ∀ w ∈ Bundle.ownAtoms0 RX0 37 EIA ENM, w ∈ TB ∨ w = .isRef (.static Bundle.tN "UNASSIGNED_STACK" Bundle.steD) ∨ w = .isRef (.static Bundle.tN "SUPPRESSED_SENTINEL" Bundle.listD) ∨ w = .castable EIA EIA ∨ w = .laysStatic Bundle.tN "UNASSIGNED_STACK" Bundle.steD ∨ w = .laysStatic Bundle.tN "SUPPRESSED_SENTINEL" Bundle.listD ∨ w ∈ tx_FL := by decide +kernel
set_option maxRecDepth 100000 in
theorem own_NS : ∀ w ∈ Bundle.ownAtoms0 RX0 50 ENS ENM, w ∈ TB ∨ w = .isRef (.static Bundle.tN "UNASSIGNED_STACK" Bundle.steD) ∨ w = .isRef (.static Bundle.tN "SUPPRESSED_SENTINEL" Bundle.listD) ∨ w = .castable ENS ENS ∨ w = .laysStatic Bundle.tN "UNASSIGNED_STACK" Bundle.steD ∨ w = .laysStatic Bundle.tN "SUPPRESSED_SENTINEL" Bundle.listD ∨ w ∈ tx_FL := by decide +kernel
theorem own_ok {s : State} {args : Array Value} {cls : String} {ic : Nat} (hq : ∀ w ∈ Bundle.ownAtoms0 RX0 ic cls ENM, w ∈ TB ∨ w = .isRef (.static Bundle.tN "UNASSIGNED_STACK" Bundle.steD) ∨ w = .isRef (.static Bundle.tN "SUPPRESSED_SENTINEL" Bundle.listD) ∨ w = .castable cls cls ∨ w = .laysStatic Bundle.tN "UNASSIGNED_STACK" Bundle.steD ∨ w = .laysStatic Bundle.tN "SUPPRESSED_SENTINEL" Bundle.listD ∨ w ∈ tx_FL)
    (hts : ∀ w ∈ TB, w.before args s = true) (hG : tx_G s) (hins : (Cond.instantiable cls 6).before args s = true) : ∀ w ∈ Bundle.ownAtoms0 RX0 ic cls ENM, w.before args s = true := by
  intro w hw
  rcases hq w hw with h | h | h | h | h | h | h
  · exact hts w h
  · rw [h]; exact tx_isRef hG.1.1
  · rw [h]; exact tx_isRef hG.2.1.1
  · rw [h]
    obtain ⟨c1, k1, hc1, -⟩ := Cond.instantiable_spec hins
    exact tx_castable hc1
  · rw [h]; exact tx_Pl_word hG.1.2
  · rw [h]; exact tx_Pl_word hG.2.1.2
  · exact hG.2.2 w h args
/-- behind a throw of an object of the class cls: old cells as they were -/
def th_Q (cls : String) : Array Value → State → Outcome → State → Prop := fun _ st oc t => ∃ (x : Addr) (ce : Cell), oc = .threw x ∧ t.heap[x]? = some ce ∧ ce.vm = .none ∧ t.vm.findClass cls = some ce.cls ∧ st.heap.size ≤ t.heap.size ∧ ∀ q : Nat, q < st.heap.size → t.heap[q]? = st.heap[q]?
def bX (G : va_G) (a : Nat → Nat) (C : Nat → ClassId) (K D : Nat → Int64) (Wt O : Nat → Int32) (n : Int32) (U : State) : Prop := rX G a C K D Wt O n U ∧ tx_G U
theorem tx_G_moved {s U : State} (h : tx_G s) (hh : U.heap = s.heap) (ha : s.vm.Alike U.vm) : tx_G U := by
  unfold tx_G
  rw [hh]
  exact tx_G2_to h ha (fun _ _ _ => rfl) (fun _ z => z)
theorem pXb_V {G : va_G} {a : Nat → Nat} {C : Nat → ClassId} {K D : Nat → Int64} {Wt O : Nat → Int32} {n : Int32} {s : State} {As : List Value} (hP : va_P G vwCl (wX a C K D Wt O n) s.heap) (hK : va_K G vwCl (tX C) s) (hG : tx_G s) :
    PreV s s.heap RX0 (a 0) (va_Pc (.ref (a 0) :: As) (bX G a C K D Wt O n)) As :=
  ⟨fun v U g mk q => ⟨q.1, (rX_blind (av := .ref (a 0) :: As) v U g mk ⟨q.1, q.2.1⟩).2, tx_G_moved (s := U) (U := U.calling g mk v) q.2.2 rfl (Vm.Alike.refl U.vm)⟩, va_recv (q0 := 0) hK hP rfl rfl,
    fun U hU hW => ⟨rfl, ⟨by rw [hU]; exact hP, va_K.moved hW.alike hK⟩, tx_G_moved hG hU hW.alike⟩⟩
end
section
/-! rows for the reference -/
theorem nand1 {a b : Bool} (h : ¬ a = true) : ¬ (a && b) = true := fun z => h (by cases a <;> cases b <;> simp_all)
theorem nand2 {a b : Bool} (h : ¬ b = true) : ¬ (a && b) = true := fun z => h (by cases a <;> cases b <;> simp_all)
theorem yand {a b : Bool} (h : a = true) (h2 : b = true) : (a && b) = true := by rw [h, h2]; rfl
theorem ft_tb_up1 (T : Nat → Bool) (j : Nat) : upd (ft_tb T) j 1 = ft_tb (fun i => if i = j then true else T i) := by
  funext i
  show (if i = j then (1 : Int32) else ft_tb T i) = (if (if i = j then true else T i) = true then 1 else 0)
  by_cases e : i = j
  · rw [if_pos e, if_pos e, if_pos rfl]
  · rw [if_neg e, if_neg e]
    rfl
theorem ft_tb_up0 (T : Nat → Bool) (j : Nat) : upd (ft_tb T) j 0 = ft_tb (fun i => if i = j then false else T i) := by
  funext i
  show (if i = j then (0 : Int32) else ft_tb T i) = (if (if i = j then false else T i) = true then 1 else 0)
  by_cases e : i = j
  · rw [if_pos e, if_pos e, if_neg (by decide)]
  · rw [if_neg e, if_neg e]
    rfl
/-- the best so far, as an int; the answer and the thrown code out of it -/
def ft_ob : Option Nat → Int32
  | none => -1
  | some b => nI b
def ft_or : Option Nat → Int32
  | none => 0
  | some b => nI b
def ft_ot : Option Nat → Int32
  | none => 1
  | some _ => 0
theorem ft_mnS_t {P : Nat → Bool} {lt : Nat → Nat → Bool} {i : Nat} {acc : Option Nat} (h1 : P i = true) (h2 : ft_lto lt i acc = true) : ft_mnS P lt i acc = some i := by
  unfold ft_mnS
  rw [if_pos (yand h1 h2)]
theorem ft_mnS_f1 {P : Nat → Bool} {lt : Nat → Nat → Bool} {i : Nat} {acc : Option Nat} (h1 : ¬ P i = true) : ft_mnS P lt i acc = acc := by
  unfold ft_mnS
  rw [if_neg (nand1 h1)]
theorem ft_mnS_f2 {P : Nat → Bool} {lt : Nat → Nat → Bool} {i : Nat} {acc : Option Nat} (h2 : ¬ ft_lto lt i acc = true) : ft_mnS P lt i acc = acc := by
  unfold ft_mnS
  rw [if_neg (nand2 h2)]
theorem ft_gf_s {α : Type} {step : Nat → α → α} {a0 acc x : α} {i : Nat} (h : ft_gf step a0 i = acc) (h2 : step i acc = x) : ft_gf step a0 (i + 1) = x := by
  show step i (ft_gf step a0 i) = x
  rw [h, h2]
theorem nI_ne_m1 {b : Nat} (h : b < 200) : ¬ nI b = -1 := by
  intro e
  have e1 := congrArg Int32.toInt e
  rw [nI_toInt (by omega)] at e1
  have e2 : (-1 : Int32).toInt = -1 := by decide
  omega
/-- keys slid up to the number i -/
def ft_ks (T : Nat → Bool) (K : Nat → Int64) (y : Int64) (i : Nat) : Nat → Int64 := fun n => if (decide (n < i) && T n) = true then K n + y else K n
theorem ft_ks_0 (T : Nat → Bool) (K : Nat → Int64) (y : Int64) : ft_ks T K y 0 = K := by
  funext n
  unfold ft_ks
  rw [if_neg (nand1 (by simp))]
theorem ft_ks_at {T : Nat → Bool} {K : Nat → Int64} {y : Int64} {i : Nat} : ft_ks T K y i i = K i := by
  unfold ft_ks
  rw [if_neg (nand1 (by simp))]
theorem ft_ks_t {T : Nat → Bool} {K : Nat → Int64} {y : Int64} {i : Nat} (h : T i = true) : vp_updL (ft_ks T K y i) i (K i + y) = ft_ks T K y (i + 1) := by
  funext n
  show (if n = i then K i + y else ft_ks T K y i n) = ft_ks T K y (i + 1) n
  unfold ft_ks
  by_cases e : n = i
  · rw [if_pos e, e, if_pos (yand (by simp) h)]
  · rw [if_neg e]
    have : decide (n < i + 1) = decide (n < i) := by
      rw [decide_eq_decide]
      omega
    rw [this]
theorem ft_ks_f {T : Nat → Bool} {K : Nat → Int64} {y : Int64} {i : Nat} (h : ¬ T i = true) : ft_ks T K y (i + 1) = ft_ks T K y i := by
  funext n
  unfold ft_ks
  by_cases e : n = i
  · rw [e, if_neg (nand2 h), if_neg (nand2 h)]
  · have : decide (n < i + 1) = decide (n < i) := by
      rw [decide_eq_decide]
      omega
    rw [this]
theorem ft_ks_at1 {T : Nat → Bool} {K : Nat → Int64} {y : Int64} {i : Nat} (h : T i = true) : ft_ks T K y (i + 1) i = K i + y := by
  unfold ft_ks
  rw [if_pos (yand (by simp) h)]
theorem ft_ks_200 {T : Nat → Bool} {K : Nat → Int64} {y : Int64} (h : ∀ n, T n = true → n < 200) : ft_ks T K y 200 = fun n => if T n = true then K n + y else K n := by
  funext n
  unfold ft_ks
  by_cases t : T n = true
  · rw [if_pos (yand (by simpa using h n t) t), if_pos t]
  · rw [if_neg (nand2 t), if_neg t]
/-- who is still there when the numbers below i with P are gone -/
def ft_tc (T P : Nat → Bool) (i : Nat) : Nat → Bool := fun n => T n && !(decide (n < i) && P n)
theorem ft_tc_0 (T P : Nat → Bool) : ft_tc T P 0 = T := by
  funext n
  unfold ft_tc
  simp
theorem ft_tc_at {T P : Nat → Bool} {i : Nat} : ft_tc T P i i = T i := by
  unfold ft_tc
  simp
theorem ft_tc_t {T P : Nat → Bool} {i : Nat} (h : P i = true) : (fun n => if n = i then false else ft_tc T P i n) = ft_tc T P (i + 1) := by
  funext n
  by_cases e : n = i
  · rw [if_pos e, e]
    unfold ft_tc
    simp [h]
  · rw [if_neg e]
    unfold ft_tc
    have : decide (n < i + 1) = decide (n < i) := by
      rw [decide_eq_decide]
      omega
    rw [this]
theorem ft_tc_f {T P : Nat → Bool} {i : Nat} (h : ¬ (T i && P i) = true) : ft_tc T P (i + 1) = ft_tc T P i := by
  funext n
  by_cases e : n = i
  · rw [e]
    unfold ft_tc
    cases hT : T i <;> cases hP : P i <;> simp_all
  · unfold ft_tc
    have : decide (n < i + 1) = decide (n < i) := by
      rw [decide_eq_decide]
      omega
    rw [this]
theorem ft_slP_t {T : Nat → Bool} {K : Nat → Int64} {y : Int64} {i : Nat} (h : ft_slP T K y i = true) (hT : T i = true) : ¬ (8796093022208 : Int64) < y ∧ ¬ y < -8796093022208 ∧ ¬ K i + y < -2199023255552 ∧ ¬ (2199023255552 : Int64) < K i + y := by
  unfold ft_slP at h
  rw [hT] at h
  simp only [Bool.true_and, Bool.not_eq_true', Bool.or_eq_false_iff, decide_eq_false_iff_not] at h
  exact ⟨h.1.1.1, h.1.1.2, h.1.2, h.2⟩
theorem ft_slP_of {T : Nat → Bool} {K : Nat → Int64} {y : Int64} {i : Nat} (h1 : ¬ (8796093022208 : Int64) < y) (h2 : ¬ y < -8796093022208) (h3 : ¬ K i + y < -2199023255552) (h4 : ¬ (2199023255552 : Int64) < K i + y) : ft_slP T K y i = true := by
  unfold ft_slP
  simp only [Bool.not_eq_true', Bool.and_eq_false_iff, Bool.or_eq_false_iff, decide_eq_false_iff_not]
  exact Or.inr ⟨⟨⟨h1, h2⟩, h3⟩, h4⟩
theorem ft_slP_no {T : Nat → Bool} {K : Nat → Int64} {y : Int64} {i : Nat} (h : ¬ T i = true) : ft_slP T K y i = true := by
  unfold ft_slP
  rw [show T i = false by simpa using h]
  rfl
theorem ft_gf_t {α : Type} {P : Nat → Bool} {g : Nat → α → α} {a0 : α} {i : Nat} (h : P i = true) : g i (ft_gf (fun k acc => if P k = true then g k acc else acc) a0 i) = ft_gf (fun k acc => if P k = true then g k acc else acc) a0 (i + 1) := by
  show _ = (if P i = true then g i (ft_gf (fun k acc => if P k = true then g k acc else acc) a0 i) else _)
  rw [if_pos h]
theorem ft_gf_f {α : Type} {P : Nat → Bool} {g : Nat → α → α} {a0 : α} {i : Nat} (h : ¬ P i = true) : ft_gf (fun k acc => if P k = true then g k acc else acc) a0 (i + 1) = ft_gf (fun k acc => if P k = true then g k acc else acc) a0 i := by
  show (if P i = true then g i (ft_gf (fun k acc => if P k = true then g k acc else acc) a0 i) else ft_gf (fun k acc => if P k = true then g k acc else acc) a0 i) = _
  rw [if_neg h]
end
section
set_option maxHeartbeats 4000000 in
set_option maxRecDepth 100000 in
theorem cx_isNumber_in (l : Launch) {j : Nat} (hj : j < 200) : Met l yX0_isNumber wsX0_isNumber rm0 (va_Pc [.int (nI j)] (fun _ => True)) (rd_Q (.int 1)) 0 0 (fun _ => False) := by
  refine q_open (cc := cX0_isNumber) (maxL := 1) (ret := (some .boolean)) (by decide) rfl (Nat.le_of_ble_eq_true rfl) ?_
  intro p e s m below meth c ls S hr hlk hB hl
  obtain ⟨hx, hb, hml, hown, hts⟩ := id S
  have hl : lv_has ls 1 [(0, .int (nI j))] := hl
  refine lv_iload_n hx hb dX0_isNumber_0 rfl (lv_at hl 0 rfl) ?_
  refine lv_if_lt (tgt := 15) hx hb dX0_isNumber_1 (by decide) (fun hc => absurd hc (nI_pos (by omega))) (fun _ => ?_)
  refine lv_iload_n hx hb dX0_isNumber_4 rfl (lv_at hl 0 rfl) ?_
  refine lv_sipush (v := 200) hx hb dX0_isNumber_5 (by decide) ?_
  refine lv_icmp_ge (tgt := 15) hx hb dX0_isNumber_8 (by decide) (fun hc => absurd hc (nI_ge (a := j) (b := 200) hj (by decide))) (fun _ => ?_)
  refine lv_iconst (v := 1) hx hb dX0_isNumber_11 (by decide) ?_
  refine lv_goto (tgt := 16) hx hb dX0_isNumber_12 (by decide) ?_
  exact W.zret hx hb hr rfl (fun t ht _ => ⟨rfl, ht⟩) (fun q h => by cases h) dX0_isNumber_16
set_option maxHeartbeats 4000000 in
set_option maxRecDepth 100000 in
theorem cx_isNumber_out (l : Launch) {x : Int32} (h : x < 0 ∨ 200 ≤ x) : Met l yX0_isNumber wsX0_isNumber rm0 (va_Pc [.int x] (fun _ => True)) (rd_Q (.int 0)) 0 0 (fun _ => False) := by
  refine q_open (cc := cX0_isNumber) (maxL := 1) (ret := (some .boolean)) (by decide) rfl (Nat.le_of_ble_eq_true rfl) ?_
  intro p e s m below meth c ls S hr hlk hB hl
  obtain ⟨hx, hb, hml, hown, hts⟩ := id S
  have hl : lv_has ls 1 [(0, .int x)] := hl
  refine lv_iload_n hx hb dX0_isNumber_0 rfl (lv_at hl 0 rfl) ?_
  refine lv_if_lt (tgt := 15) hx hb dX0_isNumber_1 (by decide) (fun hc => ?_) (fun hc => ?_)
  · refine lv_iconst (v := 0) hx hb dX0_isNumber_15 (by decide) ?_
    exact W.zret hx hb hr rfl (fun t ht _ => ⟨rfl, ht⟩) (fun q h => by cases h) dX0_isNumber_16
  · refine lv_iload_n hx hb dX0_isNumber_4 rfl (lv_at hl 0 rfl) ?_
    refine lv_sipush (v := 200) hx hb dX0_isNumber_5 (by decide) ?_
    refine lv_icmp_ge (tgt := 15) hx hb dX0_isNumber_8 (by decide) (fun _ => ?_) (fun hc2 => absurd (h.resolve_left hc) hc2)
    refine lv_iconst (v := 0) hx hb dX0_isNumber_15 (by decide) ?_
    exact W.zret hx hb hr rfl (fun t ht _ => ⟨rfl, ht⟩) (fun q h => by cases h) dX0_isNumber_16
set_option maxHeartbeats 4000000 in
set_option maxRecDepth 100000 in
theorem cx_mayBePut_in (l : Launch) {k : Int64} (h : ¬ k < (-1099511627776) ∧ ¬ 1099511627776 < k) : Met l yX0_mayBePut wsX0_mayBePut rm0 (va_Pc [.long k] (fun _ => True)) (rd_Q (.int 1)) 0 0 (fun _ => False) := by
  refine q_open (cc := cX0_mayBePut) (maxL := 2) (ret := (some .boolean)) (by decide) rfl (Nat.le_of_ble_eq_true rfl) ?_
  intro p e s m below meth c ls S hr hlk hB hl
  obtain ⟨hx, hb, hml, hown, hts⟩ := id S
  have hl : lv_has ls 2 [(0, .long k)] := hl
  refine lv_lload_n hx hb dX0_mayBePut_0 rfl (lv_at hl 0 rfl) ?_
  refine lv_ldc2 (v := (-1099511627776)) hx hb hown (hts _ (tb_cons _ w_k_X0_96)) dX0_mayBePut_1 ?_
  refine W.lcmp hx hb dX0_mayBePut_4 ?_
  refine lv_if_lt (tgt := 20) hx hb dX0_mayBePut_5 (by decide) (fun hc => absurd hc (fun q => h.1 ((lg_cmp_lt _ _).mp q))) (fun _ => ?_)
  refine lv_lload_n hx hb dX0_mayBePut_8 rfl (lv_at hl 0 rfl) ?_
  refine lv_ldc2 (v := 1099511627776) hx hb hown (hts _ (tb_cons _ w_k_X0_98)) dX0_mayBePut_9 ?_
  refine W.lcmp hx hb dX0_mayBePut_12 ?_
  refine lv_if_gt (tgt := 20) hx hb dX0_mayBePut_13 (by decide) (fun hc => absurd hc (fun q => h.2 ((lg_cmp_gt _ _).mp q))) (fun _ => ?_)
  refine lv_iconst (v := 1) hx hb dX0_mayBePut_16 (by decide) ?_
  refine lv_goto (tgt := 21) hx hb dX0_mayBePut_17 (by decide) ?_
  exact W.zret hx hb hr rfl (fun t ht _ => ⟨rfl, ht⟩) (fun q h => by cases h) dX0_mayBePut_21
set_option maxHeartbeats 4000000 in
set_option maxRecDepth 100000 in
theorem cx_mayBePut_out (l : Launch) {k : Int64} (h : k < (-1099511627776) ∨ 1099511627776 < k) : Met l yX0_mayBePut wsX0_mayBePut rm0 (va_Pc [.long k] (fun _ => True)) (rd_Q (.int 0)) 0 0 (fun _ => False) := by
  refine q_open (cc := cX0_mayBePut) (maxL := 2) (ret := (some .boolean)) (by decide) rfl (Nat.le_of_ble_eq_true rfl) ?_
  intro p e s m below meth c ls S hr hlk hB hl
  obtain ⟨hx, hb, hml, hown, hts⟩ := id S
  have hl : lv_has ls 2 [(0, .long k)] := hl
  refine lv_lload_n hx hb dX0_mayBePut_0 rfl (lv_at hl 0 rfl) ?_
  refine lv_ldc2 (v := (-1099511627776)) hx hb hown (hts _ (tb_cons _ w_k_X0_96)) dX0_mayBePut_1 ?_
  refine W.lcmp hx hb dX0_mayBePut_4 ?_
  refine lv_if_lt (tgt := 20) hx hb dX0_mayBePut_5 (by decide) (fun hc => ?_) (fun hc => ?_)
  · refine lv_iconst (v := 0) hx hb dX0_mayBePut_20 (by decide) ?_
    exact W.zret hx hb hr rfl (fun t ht _ => ⟨rfl, ht⟩) (fun q h => by cases h) dX0_mayBePut_21
  · refine lv_lload_n hx hb dX0_mayBePut_8 rfl (lv_at hl 0 rfl) ?_
    refine lv_ldc2 (v := 1099511627776) hx hb hown (hts _ (tb_cons _ w_k_X0_98)) dX0_mayBePut_9 ?_
    refine W.lcmp hx hb dX0_mayBePut_12 ?_
    refine lv_if_gt (tgt := 20) hx hb dX0_mayBePut_13 (by decide) (fun _ => ?_) (fun hc2 => absurd ((lg_cmp_gt _ _).mpr (h.resolve_left (fun q => hc ((lg_cmp_lt _ _).mpr q)))) hc2)
    refine lv_iconst (v := 0) hx hb dX0_mayBePut_20 (by decide) ?_
    exact W.zret hx hb hr rfl (fun t ht _ => ⟨rfl, ht⟩) (fun q h => by cases h) dX0_mayBePut_21
set_option maxHeartbeats 4000000 in
set_option maxRecDepth 100000 in
theorem cx_isThere_yes (l : Launch) (G : va_G) (a : Nat → Nat) (C : Nat → ClassId) (K D : Nat → Int64) (Wt O : Nat → Int32) (n : Int32) {j : Nat} (hj : j < 200) (h : 0 < Wt j) : Met l yX0_isThere wsX0_isThere { frames := 1, cells := 0, slots := 0, locals := 30 } (va_Pc [.ref (a 0), .int (nI j)] (rX G a C K D Wt O n)) (rd_Q (.int 1)) 0 0 (fun _ => False) := by
  refine q_open (cc := cX0_isThere) (maxL := 2) (ret := (some .boolean)) (by decide) rfl (Nat.le_of_ble_eq_true rfl) ?_
  intro p e s m below meth c ls S hr hlk hB hl
  obtain ⟨hx, hb, hml, hown, hts⟩ := id S
  obtain ⟨hP, hK⟩ := hB
  have hin : ∀ w ∈ u_ws RX0 TX0 5, w ∈ wsX0_isThere := fun w h => tb_cons w (hinX0 w h)
  have hl : lv_has ls 2 [(0, .ref (a 0)), (1, .int (nI j))] := hl
  refine lv_iload_n hx hb dX0_isThere_0 rfl (lv_at hl 1 rfl) ?_
  refine rd_call (W.runS (As := [.int (nI j)]) (rest := []) S (cx_isNumber_in l hj) (cwS 1 hts (gX0_27 tb_cons) rfl rfl rfl (by decide +kernel) ⟨Nat.le_of_ble_eq_true rfl, Nat.le_of_ble_eq_true rfl⟩) ⟨fun _ _ _ _ q => q, fun U _ _ => ⟨rfl, trivial⟩⟩ rfl rfl hl.1 rfl (lv_room (Nat.le_of_ble_eq_true rfl)) dX0_isThere_1 ⟨Nat.zero_le _, Nat.zero_le _⟩) ?_
  refine lv_if_eq (tgt := 20) hx hb dX0_isThere_4 (by decide) (fun hc => absurd hc (by decide)) (fun _ => ?_)
  refine lv_aload_n hx hb dX0_isThere_7 rfl (lv_at hl 0 rfl) ?_
  refine va_get (D := G) (ci := 0) (C := RX0) (T := TX0) (N := 5) hx hb hts hin hown hK hP 0 rfl rfl 2 (by decide) (hts _ (tb_cons _ w_fl_X0_16)) (fun _ h9 => h9) rfl dX0_isThere_8 ?_
  refine lv_iload_n hx hb dX0_isThere_11 rfl (lv_at hl 1 rfl) ?_
  refine q_iald hx hb hK hP 3 2 rfl rfl (j) rfl hj (by decide) dX0_isThere_12 ?_
  refine lv_if_le (tgt := 20) hx hb dX0_isThere_13 (by decide) (fun hc => absurd hc (Int32.not_le.mpr h)) (fun _ => ?_)
  refine lv_iconst (v := 1) hx hb dX0_isThere_16 (by decide) ?_
  refine lv_goto (tgt := 21) hx hb dX0_isThere_17 (by decide) ?_
  exact W.zret hx hb hr rfl (fun t ht _ => ⟨rfl, ht⟩) (fun q h => by cases h) dX0_isThere_21
set_option maxHeartbeats 4000000 in
set_option maxRecDepth 100000 in
theorem cx_isThere_no (l : Launch) (G : va_G) (a : Nat → Nat) (C : Nat → ClassId) (K D : Nat → Int64) (Wt O : Nat → Int32) (n : Int32) {j : Nat} (hj : j < 200) (h : Wt j ≤ 0) : Met l yX0_isThere wsX0_isThere { frames := 1, cells := 0, slots := 0, locals := 30 } (va_Pc [.ref (a 0), .int (nI j)] (rX G a C K D Wt O n)) (rd_Q (.int 0)) 0 0 (fun _ => False) := by
  refine q_open (cc := cX0_isThere) (maxL := 2) (ret := (some .boolean)) (by decide) rfl (Nat.le_of_ble_eq_true rfl) ?_
  intro p e s m below meth c ls S hr hlk hB hl
  obtain ⟨hx, hb, hml, hown, hts⟩ := id S
  obtain ⟨hP, hK⟩ := hB
  have hin : ∀ w ∈ u_ws RX0 TX0 5, w ∈ wsX0_isThere := fun w h => tb_cons w (hinX0 w h)
  have hl : lv_has ls 2 [(0, .ref (a 0)), (1, .int (nI j))] := hl
  refine lv_iload_n hx hb dX0_isThere_0 rfl (lv_at hl 1 rfl) ?_
  refine rd_call (W.runS (As := [.int (nI j)]) (rest := []) S (cx_isNumber_in l hj) (cwS 1 hts (gX0_27 tb_cons) rfl rfl rfl (by decide +kernel) ⟨Nat.le_of_ble_eq_true rfl, Nat.le_of_ble_eq_true rfl⟩) ⟨fun _ _ _ _ q => q, fun U _ _ => ⟨rfl, trivial⟩⟩ rfl rfl hl.1 rfl (lv_room (Nat.le_of_ble_eq_true rfl)) dX0_isThere_1 ⟨Nat.zero_le _, Nat.zero_le _⟩) ?_
  refine lv_if_eq (tgt := 20) hx hb dX0_isThere_4 (by decide) (fun hc => absurd hc (by decide)) (fun _ => ?_)
  refine lv_aload_n hx hb dX0_isThere_7 rfl (lv_at hl 0 rfl) ?_
  refine va_get (D := G) (ci := 0) (C := RX0) (T := TX0) (N := 5) hx hb hts hin hown hK hP 0 rfl rfl 2 (by decide) (hts _ (tb_cons _ w_fl_X0_16)) (fun _ h9 => h9) rfl dX0_isThere_8 ?_
  refine lv_iload_n hx hb dX0_isThere_11 rfl (lv_at hl 1 rfl) ?_
  refine q_iald hx hb hK hP 3 2 rfl rfl (j) rfl hj (by decide) dX0_isThere_12 ?_
  refine lv_if_le (tgt := 20) hx hb dX0_isThere_13 (by decide) (fun _ => ?_) (fun hc => absurd (h) hc)
  refine lv_iconst (v := 0) hx hb dX0_isThere_20 (by decide) ?_
  exact W.zret hx hb hr rfl (fun t ht _ => ⟨rfl, ht⟩) (fun q h => by cases h) dX0_isThere_21
set_option maxHeartbeats 4000000 in
set_option maxRecDepth 100000 in
theorem cx_isThere_out (l : Launch) (G : va_G) (a : Nat → Nat) (C : Nat → ClassId) (K D : Nat → Int64) (Wt O : Nat → Int32) (n : Int32) {x : Int32} (h : x < 0 ∨ 200 ≤ x) : Met l yX0_isThere wsX0_isThere { frames := 1, cells := 0, slots := 0, locals := 30 } (va_Pc [.ref (a 0), .int x] (rX G a C K D Wt O n)) (rd_Q (.int 0)) 0 0 (fun _ => False) := by
  refine q_open (cc := cX0_isThere) (maxL := 2) (ret := (some .boolean)) (by decide) rfl (Nat.le_of_ble_eq_true rfl) ?_
  intro p e s m below meth c ls S hr hlk hB hl
  obtain ⟨hx, hb, hml, hown, hts⟩ := id S
  obtain ⟨hP, hK⟩ := hB
  have hin : ∀ w ∈ u_ws RX0 TX0 5, w ∈ wsX0_isThere := fun w h => tb_cons w (hinX0 w h)
  have hl : lv_has ls 2 [(0, .ref (a 0)), (1, .int x)] := hl
  refine lv_iload_n hx hb dX0_isThere_0 rfl (lv_at hl 1 rfl) ?_
  refine rd_call (W.runS (As := [.int x]) (rest := []) S (cx_isNumber_out l h) (cwS 1 hts (gX0_27 tb_cons) rfl rfl rfl (by decide +kernel) ⟨Nat.le_of_ble_eq_true rfl, Nat.le_of_ble_eq_true rfl⟩) ⟨fun _ _ _ _ q => q, fun U _ _ => ⟨rfl, trivial⟩⟩ rfl rfl hl.1 rfl (lv_room (Nat.le_of_ble_eq_true rfl)) dX0_isThere_1 ⟨Nat.zero_le _, Nat.zero_le _⟩) ?_
  refine lv_if_eq (tgt := 20) hx hb dX0_isThere_4 (by decide) (fun _ => ?_) (fun hc => absurd (rfl) hc)
  refine lv_iconst (v := 0) hx hb dX0_isThere_20 (by decide) ?_
  exact W.zret hx hb hr rfl (fun t ht _ => ⟨rfl, ht⟩) (fun q h => by cases h) dX0_isThere_21
set_option maxHeartbeats 4000000 in
set_option maxRecDepth 100000 in
theorem cx_keyAt (l : Launch) (G : va_G) (a : Nat → Nat) (C : Nat → ClassId) (K D : Nat → Int64) (Wt O : Nat → Int32) (n : Int32) {i j : Nat} (hi : i < 200) (hO : O i = nI j) (hj : j < 200) : Met l yX0_keyAt wsX0_keyAt rm0 (va_Pc [.ref (a 0), .int (nI i)] (rX G a C K D Wt O n)) (rd_Q (.long (K j))) 0 0 (fun _ => False) := by
  refine q_open (cc := cX0_keyAt) (maxL := 2) (ret := (some .long)) (by decide) rfl (Nat.le_of_ble_eq_true rfl) ?_
  intro p e s m below meth c ls S hr hlk hB hl
  obtain ⟨hx, hb, hml, hown, hts⟩ := id S
  obtain ⟨hP, hK⟩ := hB
  have hin : ∀ w ∈ u_ws RX0 TX0 5, w ∈ wsX0_keyAt := fun w h => tb_cons w (hinX0 w h)
  have hl : lv_has ls 2 [(0, .ref (a 0)), (1, .int (nI i))] := hl
  refine lv_aload_n hx hb dX0_keyAt_0 rfl (lv_at hl 0 rfl) ?_
  refine va_get (D := G) (ci := 0) (C := RX0) (T := TX0) (N := 5) hx hb hts hin hown hK hP 0 rfl rfl 0 (by decide) (hts _ (tb_cons _ w_fl_X0_9)) (fun _ h9 => h9) rfl dX0_keyAt_1 ?_
  refine lv_aload_n hx hb dX0_keyAt_4 rfl (lv_at hl 0 rfl) ?_
  refine va_get (D := G) (ci := 0) (C := RX0) (T := TX0) (N := 5) hx hb hts hin hown hK hP 0 rfl rfl 3 (by decide) (hts _ (tb_cons _ w_fl_X0_20)) (fun _ h9 => h9) rfl dX0_keyAt_5 ?_
  refine lv_iload_n hx hb dX0_keyAt_8 rfl (lv_at hl 1 rfl) ?_
  refine q_iald hx hb hK hP 4 3 rfl rfl (i) rfl hi (by decide) dX0_keyAt_9 ?_
  refine q_topi (y := nI j) hO ?_
  refine q_lald hx hb hK hP 1 0 rfl rfl (j) rfl hj (by decide) dX0_keyAt_10 ?_
  exact W.lret hx hb hr (fun t ht _ => ⟨rfl, ht⟩) (fun q h => by cases h) dX0_keyAt_11
set_option maxHeartbeats 4000000 in
set_option maxRecDepth 100000 in
theorem cx_standsBefore (l : Launch) (G : va_G) (a : Nat → Nat) (C : Nat → ClassId) (K D : Nat → Int64) (Wt O : Nat → Int32) (n : Int32) {j : Nat} (hj : j < 200) (key : Int64) (num : Int32) : Met l yX0_standsBefore wsX0_standsBefore rm0 (va_Pc [.ref (a 0), .int (nI j), .long key, .int num] (rX G a C K D Wt O n)) (rd_Q (.int (if ft_sb K key num j = true then 1 else 0))) 0 0 (fun _ => False) := by
  refine q_open (cc := cX0_standsBefore) (maxL := 5) (ret := (some .boolean)) (by decide) rfl (Nat.le_of_ble_eq_true rfl) ?_
  intro p e s m below meth c ls S hr hlk hB hl
  obtain ⟨hx, hb, hml, hown, hts⟩ := id S
  obtain ⟨hP, hK⟩ := hB
  have hin : ∀ w ∈ u_ws RX0 TX0 5, w ∈ wsX0_standsBefore := fun w h => tb_cons w (hinX0 w h)
  have hl : lv_has ls 5 [(0, .ref (a 0)), (1, .int (nI j)), (2, .long key), (4, .int num)] := hl
  refine lv_aload_n hx hb dX0_standsBefore_0 rfl (lv_at hl 0 rfl) ?_
  refine va_get (D := G) (ci := 0) (C := RX0) (T := TX0) (N := 5) hx hb hts hin hown hK hP 0 rfl rfl 0 (by decide) (hts _ (tb_cons _ w_fl_X0_9)) (fun _ h9 => h9) rfl dX0_standsBefore_1 ?_
  refine lv_iload_n hx hb dX0_standsBefore_4 rfl (lv_at hl 1 rfl) ?_
  refine q_lald hx hb hK hP 1 0 rfl rfl (j) rfl hj (by decide) dX0_standsBefore_5 ?_
  refine lv_lload_n hx hb dX0_standsBefore_6 rfl (lv_at hl 2 rfl) ?_
  refine W.lcmp hx hb dX0_standsBefore_7 ?_
  refine lv_if_lt (tgt := 28) hx hb dX0_standsBefore_8 (by decide) (fun h1 => ?_) (fun h1 => ?_)
  · refine lv_iconst (v := 1) hx hb dX0_standsBefore_28 (by decide) ?_
    refine lv_goto (tgt := 33) hx hb dX0_standsBefore_29 (by decide) ?_
    exact W.zret hx hb hr rfl (fun t ht _ => ⟨by rw [if_pos (ft_sb_iff.mpr (Or.inl ((lg_cmp_lt _ _).mp h1)))], ht⟩) (fun q h => by cases h) dX0_standsBefore_33
  · refine lv_aload_n hx hb dX0_standsBefore_11 rfl (lv_at hl 0 rfl) ?_
    refine va_get (D := G) (ci := 0) (C := RX0) (T := TX0) (N := 5) hx hb hts hin hown hK hP 0 rfl rfl 0 (by decide) (hts _ (tb_cons _ w_fl_X0_9)) (fun _ h9 => h9) rfl dX0_standsBefore_12 ?_
    refine lv_iload_n hx hb dX0_standsBefore_15 rfl (lv_at hl 1 rfl) ?_
    refine q_lald hx hb hK hP 1 0 rfl rfl (j) rfl hj (by decide) dX0_standsBefore_16 ?_
    refine lv_lload_n hx hb dX0_standsBefore_17 rfl (lv_at hl 2 rfl) ?_
    refine W.lcmp hx hb dX0_standsBefore_18 ?_
    refine lv_if_ne (tgt := 32) hx hb dX0_standsBefore_19 (by decide) (fun h2 => ?_) (fun h2 => ?_)
    · refine lv_iconst (v := 0) hx hb dX0_standsBefore_32 (by decide) ?_
      exact W.zret hx hb hr rfl (fun t ht _ => ⟨by rw [if_neg (fun q => (ft_sb_iff.mp q).elim (fun z => h1 ((lg_cmp_lt _ _).mpr z)) (fun z => h2 ((lg_cmp_eq _ _).mpr z.1)))], ht⟩) (fun q h => by cases h) dX0_standsBefore_33
    · refine lv_iload_n hx hb dX0_standsBefore_22 rfl (lv_at hl 1 rfl) ?_
      refine lv_iload hx hb dX0_standsBefore_23 (lv_at hl 3 rfl) ?_
      refine lv_icmp_ge (tgt := 32) hx hb dX0_standsBefore_25 (by decide) (fun h3 => ?_) (fun h3 => ?_)
      · refine lv_iconst (v := 0) hx hb dX0_standsBefore_32 (by decide) ?_
        exact W.zret hx hb hr rfl (fun t ht _ => ⟨by rw [if_neg (fun q => (ft_sb_iff.mp q).elim (fun z => h1 ((lg_cmp_lt _ _).mpr z)) (fun z => Int32.not_le.mpr z.2 h3))], ht⟩) (fun q h => by cases h) dX0_standsBefore_33
      · refine lv_iconst (v := 1) hx hb dX0_standsBefore_28 (by decide) ?_
        refine lv_goto (tgt := 33) hx hb dX0_standsBefore_29 (by decide) ?_
        exact W.zret hx hb hr rfl (fun t ht _ => ⟨by rw [if_pos (ft_sb_iff.mpr (Or.inr ⟨(lg_cmp_eq _ _).mp h2, Int32.not_le.mp h3⟩))], ht⟩) (fun q h => by cases h) dX0_standsBefore_33
set_option maxHeartbeats 4000000 in
set_option maxRecDepth 100000 in
theorem cx_isEarlier (l : Launch) (G : va_G) (a : Nat → Nat) (C : Nat → ClassId) (K D : Nat → Int64) (Wt O : Nat → Int32) (n : Int32) {j f : Nat} (hj : j < 200) (hf : f < 200) : Met l yX0_isEarlier wsX0_isEarlier rm0 (va_Pc [.ref (a 0), .int (nI j), .int (nI f)] (rX G a C K D Wt O n)) (rd_Q (.int (if ft_sb D (D f) (nI f) j = true then 1 else 0))) 0 0 (fun _ => False) := by
  refine q_open (cc := cX0_isEarlier) (maxL := 3) (ret := (some .boolean)) (by decide) rfl (Nat.le_of_ble_eq_true rfl) ?_
  intro p e s m below meth c ls S hr hlk hB hl
  obtain ⟨hx, hb, hml, hown, hts⟩ := id S
  obtain ⟨hP, hK⟩ := hB
  have hin : ∀ w ∈ u_ws RX0 TX0 5, w ∈ wsX0_isEarlier := fun w h => tb_cons w (hinX0 w h)
  have hl : lv_has ls 3 [(0, .ref (a 0)), (1, .int (nI j)), (2, .int (nI f))] := hl
  refine lv_aload_n hx hb dX0_isEarlier_0 rfl (lv_at hl 0 rfl) ?_
  refine va_get (D := G) (ci := 0) (C := RX0) (T := TX0) (N := 5) hx hb hts hin hown hK hP 0 rfl rfl 1 (by decide) (hts _ (tb_cons _ w_fl_X0_13)) (fun _ h9 => h9) rfl dX0_isEarlier_1 ?_
  refine lv_iload_n hx hb dX0_isEarlier_4 rfl (lv_at hl 1 rfl) ?_
  refine q_lald hx hb hK hP 2 1 rfl rfl (j) rfl hj (by decide) dX0_isEarlier_5 ?_
  refine lv_aload_n hx hb dX0_isEarlier_6 rfl (lv_at hl 0 rfl) ?_
  refine va_get (D := G) (ci := 0) (C := RX0) (T := TX0) (N := 5) hx hb hts hin hown hK hP 0 rfl rfl 1 (by decide) (hts _ (tb_cons _ w_fl_X0_13)) (fun _ h9 => h9) rfl dX0_isEarlier_7 ?_
  refine lv_iload_n hx hb dX0_isEarlier_10 rfl (lv_at hl 2 rfl) ?_
  refine q_lald hx hb hK hP 2 1 rfl rfl (f) rfl hf (by decide) dX0_isEarlier_11 ?_
  refine W.lcmp hx hb dX0_isEarlier_12 ?_
  refine lv_if_lt (tgt := 37) hx hb dX0_isEarlier_13 (by decide) (fun h1 => ?_) (fun h1 => ?_)
  · refine lv_iconst (v := 1) hx hb dX0_isEarlier_37 (by decide) ?_
    refine lv_goto (tgt := 42) hx hb dX0_isEarlier_38 (by decide) ?_
    exact W.zret hx hb hr rfl (fun t ht _ => ⟨by rw [if_pos (ft_sb_iff.mpr (Or.inl ((lg_cmp_lt _ _).mp h1)))], ht⟩) (fun q h => by cases h) dX0_isEarlier_42
  · refine lv_aload_n hx hb dX0_isEarlier_16 rfl (lv_at hl 0 rfl) ?_
    refine va_get (D := G) (ci := 0) (C := RX0) (T := TX0) (N := 5) hx hb hts hin hown hK hP 0 rfl rfl 1 (by decide) (hts _ (tb_cons _ w_fl_X0_13)) (fun _ h9 => h9) rfl dX0_isEarlier_17 ?_
    refine lv_iload_n hx hb dX0_isEarlier_20 rfl (lv_at hl 1 rfl) ?_
    refine q_lald hx hb hK hP 2 1 rfl rfl (j) rfl hj (by decide) dX0_isEarlier_21 ?_
    refine lv_aload_n hx hb dX0_isEarlier_22 rfl (lv_at hl 0 rfl) ?_
    refine va_get (D := G) (ci := 0) (C := RX0) (T := TX0) (N := 5) hx hb hts hin hown hK hP 0 rfl rfl 1 (by decide) (hts _ (tb_cons _ w_fl_X0_13)) (fun _ h9 => h9) rfl dX0_isEarlier_23 ?_
    refine lv_iload_n hx hb dX0_isEarlier_26 rfl (lv_at hl 2 rfl) ?_
    refine q_lald hx hb hK hP 2 1 rfl rfl (f) rfl hf (by decide) dX0_isEarlier_27 ?_
    refine W.lcmp hx hb dX0_isEarlier_28 ?_
    refine lv_if_ne (tgt := 41) hx hb dX0_isEarlier_29 (by decide) (fun h2 => ?_) (fun h2 => ?_)
    · refine lv_iconst (v := 0) hx hb dX0_isEarlier_41 (by decide) ?_
      exact W.zret hx hb hr rfl (fun t ht _ => ⟨by rw [if_neg (fun q => (ft_sb_iff.mp q).elim (fun z => h1 ((lg_cmp_lt _ _).mpr z)) (fun z => h2 ((lg_cmp_eq _ _).mpr z.1)))], ht⟩) (fun q h => by cases h) dX0_isEarlier_42
    · refine lv_iload_n hx hb dX0_isEarlier_32 rfl (lv_at hl 1 rfl) ?_
      refine lv_iload_n hx hb dX0_isEarlier_33 rfl (lv_at hl 2 rfl) ?_
      refine lv_icmp_ge (tgt := 41) hx hb dX0_isEarlier_34 (by decide) (fun h3 => ?_) (fun h3 => ?_)
      · refine lv_iconst (v := 0) hx hb dX0_isEarlier_41 (by decide) ?_
        exact W.zret hx hb hr rfl (fun t ht _ => ⟨by rw [if_neg (fun q => (ft_sb_iff.mp q).elim (fun z => h1 ((lg_cmp_lt _ _).mpr z)) (fun z => Int32.not_le.mpr z.2 h3))], ht⟩) (fun q h => by cases h) dX0_isEarlier_42
      · refine lv_iconst (v := 1) hx hb dX0_isEarlier_37 (by decide) ?_
        refine lv_goto (tgt := 42) hx hb dX0_isEarlier_38 (by decide) ?_
        exact W.zret hx hb hr rfl (fun t ht _ => ⟨by rw [if_pos (ft_sb_iff.mpr (Or.inr ⟨(lg_cmp_eq _ _).mp h2, Int32.not_le.mp h3⟩))], ht⟩) (fun q h => by cases h) dX0_isEarlier_42
end
section
set_option maxHeartbeats 4000000 in
set_option maxRecDepth 100000 in
theorem cx_placesBefore (l : Launch) (G : va_G) (a : Nat → Nat) (C : Nat → ClassId) (K D : Nat → Int64) (Wt O : Nat → Int32) (Lf : Nat → Nat) (sz : Nat) (hs : sz ≤ 200) (hO : ∀ i, i < sz → O i = nI (Lf i) ∧ Lf i < 200) (key : Int64) (num : Int32) : Met l yX0_placesBefore wsX0_placesBefore { frames := 1, cells := 0, slots := 0, locals := 30 } (va_Pc [.ref (a 0), .long key, .int num] (rX G a C K D Wt O (nI sz))) (rd_Q (.int (nI (ft_fb (fun i => ft_sb K key num (Lf i)) sz 0)))) 0 0 (fun _ => False) := by
  refine q_open (cc := cX0_placesBefore) (maxL := 5) (ret := (some .int)) (by decide) rfl (Nat.le_of_ble_eq_true rfl) ?_
  intro p e s m below meth c ls S hr hlk hB hl
  obtain ⟨hx, hb, hml, hown, hts⟩ := id S
  obtain ⟨hP, hK⟩ := hB
  have hin : ∀ w ∈ u_ws RX0 TX0 5, w ∈ wsX0_placesBefore := fun w h => tb_cons w (hinX0 w h)
  have hl : lv_has ls 5 [(0, .ref (a 0)), (1, .long key), (3, .int num)] := hl
  refine lv_iconst (v := 0) hx hb dX0_placesBefore_0 (by decide) ?_
  refine lv_istore hx hb dX0_placesBefore_1 hl (by decide) rfl (fun ls hl => ?_)
  have hl : lv_has ls 5 [(4, .int 0), (0, .ref (a 0)), (1, .long key), (3, .int num)] := hl
  have loop : ∀ (k : Nat) (i : Nat), i + k = sz → ft_fb (fun i => ft_sb K key num (Lf i)) k i = ft_fb (fun i => ft_sb K key num (Lf i)) sz 0 → ∀ ls : Array Slot, lv_has ls 5 [(4, .int (nI i)), (0, .ref (a 0)), (1, .long key), (3, .int num)] → W p l e { frames := 1, cells := 0, slots := 0, locals := 30 } s m ([.ref (a 0), .long key, .int num] : List Value).toArray below meth c s.heap [] 0 0 (MQ below (rd_Q (.int (nI (ft_fb (fun i => ft_sb K key num (Lf i)) sz 0)))) ([.ref (a 0), .long key, .int num] : List Value).toArray s 0 0 (fun _ => False)) (F0 m 3 ls []) := by
    intro k
    induction k with
    | zero =>
      intro i hi hf ls hl
      refine lv_iload hx hb dX0_placesBefore_3 (lv_at hl 0 rfl) ?_
      refine lv_aload_n hx hb dX0_placesBefore_5 rfl (lv_at hl 1 rfl) ?_
      refine va_get (D := G) (ci := 0) (C := RX0) (T := TX0) (N := 5) hx hb hts hin hown hK hP 0 rfl rfl 4 (by decide) (hts _ (tb_cons _ w_fl_X0_23)) (fun _ h9 => h9) rfl dX0_placesBefore_6 ?_
      refine lv_icmp_ge (tgt := 34) hx hb dX0_placesBefore_9 (by decide) (fun _ => ?_) (fun hc => absurd (nI_le (by omega) (by omega)) hc)
      refine lv_iload hx hb dX0_placesBefore_34 (lv_at hl 0 rfl) ?_
      have hf : i = ft_fb (fun i => ft_sb K key num (Lf i)) sz 0 := hf
      exact W.iret hx hb hr (fun t ht _ => ⟨by rw [← hf], ht⟩) (fun q h => by cases h) dX0_placesBefore_36
    | succ k ih =>
      intro i hi hf ls hl
      refine lv_iload hx hb dX0_placesBefore_3 (lv_at hl 0 rfl) ?_
      refine lv_aload_n hx hb dX0_placesBefore_5 rfl (lv_at hl 1 rfl) ?_
      refine va_get (D := G) (ci := 0) (C := RX0) (T := TX0) (N := 5) hx hb hts hin hown hK hP 0 rfl rfl 4 (by decide) (hts _ (tb_cons _ w_fl_X0_23)) (fun _ h9 => h9) rfl dX0_placesBefore_6 ?_
      refine lv_icmp_ge (tgt := 34) hx hb dX0_placesBefore_9 (by decide) (fun hc => absurd hc (nI_ge (by omega) (by omega))) (fun _ => ?_)
      refine lv_aload_n hx hb dX0_placesBefore_12 rfl (lv_at hl 1 rfl) ?_
      refine lv_aload_n hx hb dX0_placesBefore_13 rfl (lv_at hl 1 rfl) ?_
      refine va_get (D := G) (ci := 0) (C := RX0) (T := TX0) (N := 5) hx hb hts hin hown hK hP 0 rfl rfl 3 (by decide) (hts _ (tb_cons _ w_fl_X0_20)) (fun _ h9 => h9) rfl dX0_placesBefore_14 ?_
      refine lv_iload hx hb dX0_placesBefore_17 (lv_at hl 0 rfl) ?_
      refine q_iald hx hb hK hP 4 3 rfl rfl (i) rfl (by omega) (by decide) dX0_placesBefore_19 ?_
      refine q_topi (y := nI (Lf i)) (hO i (by omega)).1 ?_
      refine lv_lload_n hx hb dX0_placesBefore_20 rfl (lv_at hl 2 rfl) ?_
      refine lv_iload_n hx hb dX0_placesBefore_21 rfl (lv_at hl 3 rfl) ?_
      refine rd_call (W.runV (As := [.int (nI (Lf i)), .long key, .int num]) (rest := []) S (cx_standsBefore l G a C K D Wt O (nI sz) (hO i (by omega)).2 key num) (cwV 3 hts (gX0_100 tb_cons) rfl rfl rfl (by decide +kernel) ⟨Nat.le_of_ble_eq_true rfl, Nat.le_of_ble_eq_true rfl⟩) (pX_V hP hK) rfl rfl hl.1 rfl (lv_room (Nat.le_of_ble_eq_true rfl)) dX0_placesBefore_22 ⟨Nat.zero_le _, Nat.zero_le _⟩) ?_
      have hf : (if ft_sb K key num (Lf i) = true then ft_fb (fun i => ft_sb K key num (Lf i)) k (i + 1) else i) = ft_fb (fun i => ft_sb K key num (Lf i)) sz 0 := hf
      by_cases hq : ft_sb K key num (Lf i) = true
      · rw [if_pos hq] at hf ⊢
        refine lv_if_eq (tgt := 34) hx hb dX0_placesBefore_25 (by decide) (fun hc => absurd hc (by decide)) (fun _ => ?_)
        refine lv_iinc (k := 0) (v := nI (i + 1)) hx hb dX0_placesBefore_28 hl rfl (nI_succ i).symm (by decide) rfl (fun ls hl => ?_)
        have hl : lv_has ls 5 [(4, .int (nI (i + 1))), (0, .ref (a 0)), (1, .long key), (3, .int num)] := hl
        refine lv_goto (tgt := 3) hx hb dX0_placesBefore_31 (by decide) ?_
        exact ih (i + 1) (by omega) hf ls hl
      · rw [if_neg hq] at hf ⊢
        refine lv_if_eq (tgt := 34) hx hb dX0_placesBefore_25 (by decide) (fun _ => ?_) (fun hc => absurd (rfl) hc)
        refine lv_iload hx hb dX0_placesBefore_34 (lv_at hl 0 rfl) ?_
        exact W.iret hx hb hr (fun t ht _ => ⟨by rw [← hf], ht⟩) (fun q h => by cases h) dX0_placesBefore_36
  exact loop sz 0 (by omega) rfl ls hl
set_option maxHeartbeats 4000000 in
set_option maxRecDepth 100000 in
theorem cx_placesBelow (l : Launch) (G : va_G) (a : Nat → Nat) (C : Nat → ClassId) (K D : Nat → Int64) (Wt O : Nat → Int32) (Lf : Nat → Nat) (sz : Nat) (hs : sz ≤ 200) (hO : ∀ i, i < sz → O i = nI (Lf i) ∧ Lf i < 200) (key : Int64) : Met l yX0_placesBelow wsX0_placesBelow { frames := 2, cells := 0, slots := 0, locals := 60 } (va_Pc [.ref (a 0), .long key] (rX G a C K D Wt O (nI sz))) (rd_Q (.int (nI (ft_fb (fun i => ft_sb K key 0 (Lf i)) sz 0)))) 0 0 (fun _ => False) := by
  refine q_open (cc := cX0_placesBelow) (maxL := 3) (ret := (some .int)) (by decide) rfl (Nat.le_of_ble_eq_true rfl) ?_
  intro p e s m below meth c ls S hr hlk hB hl
  obtain ⟨hx, hb, hml, hown, hts⟩ := id S
  obtain ⟨hP, hK⟩ := hB
  have hin : ∀ w ∈ u_ws RX0 TX0 5, w ∈ wsX0_placesBelow := fun w h => tb_cons w (hinX0 w h)
  have hl : lv_has ls 3 [(0, .ref (a 0)), (1, .long key)] := hl
  refine lv_aload_n hx hb dX0_placesBelow_0 rfl (lv_at hl 0 rfl) ?_
  refine lv_lload_n hx hb dX0_placesBelow_1 rfl (lv_at hl 1 rfl) ?_
  refine lv_iconst (v := 0) hx hb dX0_placesBelow_2 (by decide) ?_
  refine rd_call (W.runV (As := [.long key, .int 0]) (rest := []) S (cx_placesBefore l G a C K D Wt O Lf sz hs hO key 0) (cwV 2 hts (gX0_59 tb_cons) rfl rfl rfl (by decide +kernel) ⟨Nat.le_of_ble_eq_true rfl, Nat.le_of_ble_eq_true rfl⟩) (pX_V hP hK) rfl rfl hl.1 rfl (lv_room (Nat.le_of_ble_eq_true rfl)) dX0_placesBelow_3 ⟨Nat.zero_le _, Nat.zero_le _⟩) ?_
  exact W.iret hx hb hr (fun t ht _ => ⟨rfl, ht⟩) (fun q h => by cases h) dX0_placesBelow_6
set_option maxHeartbeats 4000000 in
set_option maxRecDepth 100000 in
theorem cx_placesNotAbove (l : Launch) (G : va_G) (a : Nat → Nat) (C : Nat → ClassId) (K D : Nat → Int64) (Wt O : Nat → Int32) (Lf : Nat → Nat) (sz : Nat) (hs : sz ≤ 200) (hO : ∀ i, i < sz → O i = nI (Lf i) ∧ Lf i < 200) (key : Int64) : Met l yX0_placesNotAbove wsX0_placesNotAbove { frames := 2, cells := 0, slots := 0, locals := 60 } (va_Pc [.ref (a 0), .long key] (rX G a C K D Wt O (nI sz))) (rd_Q (.int (nI (ft_fb (fun i => ft_sb K key 200 (Lf i)) sz 0)))) 0 0 (fun _ => False) := by
  refine q_open (cc := cX0_placesNotAbove) (maxL := 3) (ret := (some .int)) (by decide) rfl (Nat.le_of_ble_eq_true rfl) ?_
  intro p e s m below meth c ls S hr hlk hB hl
  obtain ⟨hx, hb, hml, hown, hts⟩ := id S
  obtain ⟨hP, hK⟩ := hB
  have hin : ∀ w ∈ u_ws RX0 TX0 5, w ∈ wsX0_placesNotAbove := fun w h => tb_cons w (hinX0 w h)
  have hl : lv_has ls 3 [(0, .ref (a 0)), (1, .long key)] := hl
  refine lv_aload_n hx hb dX0_placesNotAbove_0 rfl (lv_at hl 0 rfl) ?_
  refine lv_lload_n hx hb dX0_placesNotAbove_1 rfl (lv_at hl 1 rfl) ?_
  refine lv_sipush (v := 200) hx hb dX0_placesNotAbove_2 (by decide) ?_
  refine rd_call (W.runV (As := [.long key, .int 200]) (rest := []) S (cx_placesBefore l G a C K D Wt O Lf sz hs hO key 200) (cwV 2 hts (gX0_59 tb_cons) rfl rfl rfl (by decide +kernel) ⟨Nat.le_of_ble_eq_true rfl, Nat.le_of_ble_eq_true rfl⟩) (pX_V hP hK) rfl rfl hl.1 rfl (lv_room (Nat.le_of_ble_eq_true rfl)) dX0_placesNotAbove_5 ⟨Nat.zero_le _, Nat.zero_le _⟩) ?_
  exact W.iret hx hb hr (fun t ht _ => ⟨rfl, ht⟩) (fun q h => by cases h) dX0_placesNotAbove_8
set_option maxHeartbeats 4000000 in
set_option maxRecDepth 100000 in
theorem cx_weightOfFirst (l : Launch) (G : va_G) (a : Nat → Nat) (C : Nat → ClassId) (K D : Nat → Int64) (Wt O : Nat → Int32) (Lf : Nat → Nat) (sz : Nat) (hs : sz ≤ 200) (hO : ∀ i, i < sz → O i = nI (Lf i) ∧ Lf i < 200) {q : Nat} (hq : q ≤ sz) : Met l yX0_weightOfFirst wsX0_weightOfFirst rm0 (va_Pc [.ref (a 0), .int (nI q)] (rX G a C K D Wt O (nI sz))) (rd_Q (.int (ft_sum (fun a b : Int32 => a + b) 0 (fun i => Wt (Lf i)) q))) 0 0 (fun _ => False) := by
  refine q_open (cc := cX0_weightOfFirst) (maxL := 4) (ret := (some .int)) (by decide) rfl (Nat.le_of_ble_eq_true rfl) ?_
  intro p e s m below meth c ls S hr hlk hB hl
  obtain ⟨hx, hb, hml, hown, hts⟩ := id S
  obtain ⟨hP, hK⟩ := hB
  have hin : ∀ w ∈ u_ws RX0 TX0 5, w ∈ wsX0_weightOfFirst := fun w h => tb_cons w (hinX0 w h)
  have hl : lv_has ls 4 [(0, .ref (a 0)), (1, .int (nI q))] := hl
  refine lv_iconst (v := 0) hx hb dX0_weightOfFirst_0 (by decide) ?_
  refine lv_istore_n hx hb dX0_weightOfFirst_1 rfl hl (by decide) rfl (fun ls hl => ?_)
  have hl : lv_has ls 4 [(2, .int 0), (0, .ref (a 0)), (1, .int (nI q))] := hl
  refine lv_iconst (v := 0) hx hb dX0_weightOfFirst_2 (by decide) ?_
  refine lv_istore_n hx hb dX0_weightOfFirst_3 rfl hl (by decide) rfl (fun ls hl => ?_)
  have hl : lv_has ls 4 [(3, .int 0), (2, .int 0), (0, .ref (a 0)), (1, .int (nI q))] := hl
  have loop : ∀ (k : Nat) (i : Nat), i + k = q → ∀ ls : Array Slot, lv_has ls 4 [(3, .int (nI i)), (2, .int (ft_sum (fun a b : Int32 => a + b) 0 (fun i => Wt (Lf i)) i)), (0, .ref (a 0)), (1, .int (nI q))] → W p l e rm0 s m ([.ref (a 0), .int (nI q)] : List Value).toArray below meth c s.heap [] 0 0 (MQ below (rd_Q (.int (ft_sum (fun a b : Int32 => a + b) 0 (fun i => Wt (Lf i)) q))) ([.ref (a 0), .int (nI q)] : List Value).toArray s 0 0 (fun _ => False)) (F0 m 4 ls []) := by
    intro k
    induction k with
    | zero =>
      intro i hi ls hl
      refine lv_iload_n hx hb dX0_weightOfFirst_4 rfl (lv_at hl 0 rfl) ?_
      refine lv_iload_n hx hb dX0_weightOfFirst_5 rfl (lv_at hl 3 rfl) ?_
      refine lv_icmp_ge (tgt := 29) hx hb dX0_weightOfFirst_6 (by decide) (fun _ => ?_) (fun hc => absurd (nI_le (by omega) (by omega)) hc)
      refine lv_iload_n hx hb dX0_weightOfFirst_29 rfl (lv_at hl 1 rfl) ?_
      have hi : i = q := hi
      exact W.iret hx hb hr (fun t ht _ => ⟨by rw [hi], ht⟩) (fun q h => by cases h) dX0_weightOfFirst_30
    | succ k ih =>
      intro i hi ls hl
      refine lv_iload_n hx hb dX0_weightOfFirst_4 rfl (lv_at hl 0 rfl) ?_
      refine lv_iload_n hx hb dX0_weightOfFirst_5 rfl (lv_at hl 3 rfl) ?_
      refine lv_icmp_ge (tgt := 29) hx hb dX0_weightOfFirst_6 (by decide) (fun hc => absurd hc (nI_ge (by omega) (by omega))) (fun _ => ?_)
      refine lv_iload_n hx hb dX0_weightOfFirst_9 rfl (lv_at hl 1 rfl) ?_
      refine lv_aload_n hx hb dX0_weightOfFirst_10 rfl (lv_at hl 2 rfl) ?_
      refine va_get (D := G) (ci := 0) (C := RX0) (T := TX0) (N := 5) hx hb hts hin hown hK hP 0 rfl rfl 2 (by decide) (hts _ (tb_cons _ w_fl_X0_16)) (fun _ h9 => h9) rfl dX0_weightOfFirst_11 ?_
      refine lv_aload_n hx hb dX0_weightOfFirst_14 rfl (lv_at hl 2 rfl) ?_
      refine va_get (D := G) (ci := 0) (C := RX0) (T := TX0) (N := 5) hx hb hts hin hown hK hP 0 rfl rfl 3 (by decide) (hts _ (tb_cons _ w_fl_X0_20)) (fun _ h9 => h9) rfl dX0_weightOfFirst_15 ?_
      refine lv_iload_n hx hb dX0_weightOfFirst_18 rfl (lv_at hl 0 rfl) ?_
      refine q_iald hx hb hK hP 4 3 rfl rfl (i) rfl (by omega) (by decide) dX0_weightOfFirst_19 ?_
      refine q_topi (y := nI (Lf i)) (hO i (by omega)).1 ?_
      refine q_iald hx hb hK hP 3 2 rfl rfl (Lf i) rfl (hO i (by omega)).2 (by decide) dX0_weightOfFirst_20 ?_
      refine lv_iadd hx hb dX0_weightOfFirst_21 ?_
      refine lv_istore_n hx hb dX0_weightOfFirst_22 rfl hl (by decide) rfl (fun ls hl => ?_)
      have hl : lv_has ls 4 [(2, .int ((ft_sum (fun a b : Int32 => a + b) 0 (fun i => Wt (Lf i)) i) + (Wt (Lf i)))), (3, .int (nI i)), (0, .ref (a 0)), (1, .int (nI q))] := hl
      refine lv_iinc (k := 1) (v := nI (i + 1)) hx hb dX0_weightOfFirst_23 hl rfl (nI_succ i).symm (by decide) rfl (fun ls hl => ?_)
      have hl : lv_has ls 4 [(3, .int (nI (i + 1))), (2, .int ((ft_sum (fun a b : Int32 => a + b) 0 (fun i => Wt (Lf i)) i) + (Wt (Lf i)))), (0, .ref (a 0)), (1, .int (nI q))] := hl
      refine lv_goto (tgt := 4) hx hb dX0_weightOfFirst_26 (by decide) ?_
      exact ih (i + 1) (by omega) ls hl
  exact loop q 0 (by omega) ls hl
set_option maxHeartbeats 4000000 in
set_option maxRecDepth 100000 in
theorem cx_sumOfKeysTimesWeights (l : Launch) (G : va_G) (a : Nat → Nat) (C : Nat → ClassId) (K D : Nat → Int64) (Wt O : Nat → Int32) (Lf : Nat → Nat) (sz : Nat) (hs : sz ≤ 200) (hO : ∀ i, i < sz → O i = nI (Lf i) ∧ Lf i < 200) : Met l yX0_sumOfKeysTimesWeights wsX0_sumOfKeysTimesWeights { frames := 1, cells := 0, slots := 0, locals := 30 } (va_Pc [.ref (a 0)] (rX G a C K D Wt O (nI sz))) (rd_Q (.long (ft_sum (fun a b : Int64 => a + b) 0 (fun i => K (Lf i) * (Wt (Lf i)).toInt64) sz))) 0 0 (fun _ => False) := by
  refine q_open (cc := cX0_sumOfKeysTimesWeights) (maxL := 4) (ret := (some .long)) (by decide) rfl (Nat.le_of_ble_eq_true rfl) ?_
  intro p e s m below meth c ls S hr hlk hB hl
  obtain ⟨hx, hb, hml, hown, hts⟩ := id S
  obtain ⟨hP, hK⟩ := hB
  have hin : ∀ w ∈ u_ws RX0 TX0 5, w ∈ wsX0_sumOfKeysTimesWeights := fun w h => tb_cons w (hinX0 w h)
  have hl : lv_has ls 4 [(0, .ref (a 0))] := hl
  refine lv_lconst (v := 0) hx hb dX0_sumOfKeysTimesWeights_0 (by decide) ?_
  refine lv_lstore_n hx hb dX0_sumOfKeysTimesWeights_1 rfl hl (by decide) rfl (fun ls hl => ?_)
  have hl : lv_has ls 4 [(1, .long 0), (0, .ref (a 0))] := hl
  refine lv_iconst (v := 0) hx hb dX0_sumOfKeysTimesWeights_2 (by decide) ?_
  refine lv_istore_n hx hb dX0_sumOfKeysTimesWeights_3 rfl hl (by decide) rfl (fun ls hl => ?_)
  have hl : lv_has ls 4 [(3, .int 0), (1, .long 0), (0, .ref (a 0))] := hl
  have loop : ∀ (k : Nat) (i : Nat), i + k = sz → ∀ ls : Array Slot, lv_has ls 4 [(3, .int (nI i)), (1, .long (ft_sum (fun a b : Int64 => a + b) 0 (fun i => K (Lf i) * (Wt (Lf i)).toInt64) i)), (0, .ref (a 0))] → W p l e { frames := 1, cells := 0, slots := 0, locals := 30 } s m ([.ref (a 0)] : List Value).toArray below meth c s.heap [] 0 0 (MQ below (rd_Q (.long (ft_sum (fun a b : Int64 => a + b) 0 (fun i => K (Lf i) * (Wt (Lf i)).toInt64) sz))) ([.ref (a 0)] : List Value).toArray s 0 0 (fun _ => False)) (F0 m 4 ls []) := by
    intro k
    induction k with
    | zero =>
      intro i hi ls hl
      refine lv_iload_n hx hb dX0_sumOfKeysTimesWeights_4 rfl (lv_at hl 0 rfl) ?_
      refine lv_aload_n hx hb dX0_sumOfKeysTimesWeights_5 rfl (lv_at hl 2 rfl) ?_
      refine va_get (D := G) (ci := 0) (C := RX0) (T := TX0) (N := 5) hx hb hts hin hown hK hP 0 rfl rfl 4 (by decide) (hts _ (tb_cons _ w_fl_X0_23)) (fun _ h9 => h9) rfl dX0_sumOfKeysTimesWeights_6 ?_
      refine lv_icmp_ge (tgt := 39) hx hb dX0_sumOfKeysTimesWeights_9 (by decide) (fun _ => ?_) (fun hc => absurd (nI_le (by omega) (by omega)) hc)
      refine lv_lload_n hx hb dX0_sumOfKeysTimesWeights_39 rfl (lv_at hl 1 rfl) ?_
      have hi : i = sz := hi
      exact W.lret hx hb hr (fun t ht _ => ⟨by rw [hi], ht⟩) (fun q h => by cases h) dX0_sumOfKeysTimesWeights_40
    | succ k ih =>
      intro i hi ls hl
      refine lv_iload_n hx hb dX0_sumOfKeysTimesWeights_4 rfl (lv_at hl 0 rfl) ?_
      refine lv_aload_n hx hb dX0_sumOfKeysTimesWeights_5 rfl (lv_at hl 2 rfl) ?_
      refine va_get (D := G) (ci := 0) (C := RX0) (T := TX0) (N := 5) hx hb hts hin hown hK hP 0 rfl rfl 4 (by decide) (hts _ (tb_cons _ w_fl_X0_23)) (fun _ h9 => h9) rfl dX0_sumOfKeysTimesWeights_6 ?_
      refine lv_icmp_ge (tgt := 39) hx hb dX0_sumOfKeysTimesWeights_9 (by decide) (fun hc => absurd hc (nI_ge (by omega) (by omega))) (fun _ => ?_)
      refine lv_lload_n hx hb dX0_sumOfKeysTimesWeights_12 rfl (lv_at hl 1 rfl) ?_
      refine lv_aload_n hx hb dX0_sumOfKeysTimesWeights_13 rfl (lv_at hl 2 rfl) ?_
      refine lv_iload_n hx hb dX0_sumOfKeysTimesWeights_14 rfl (lv_at hl 0 rfl) ?_
      refine rd_call (W.runV (As := [.int (nI i)]) (rest := [.long (ft_sum (fun a b : Int64 => a + b) 0 (fun i => K (Lf i) * (Wt (Lf i)).toInt64) i)]) S (cx_keyAt l G a C K D Wt O (nI sz) (i := i) (by omega) (hO i (by omega)).1 (hO i (by omega)).2) (cwV 1 hts (gX0_53 tb_cons) rfl rfl rfl (by decide +kernel) ⟨Nat.le_of_ble_eq_true rfl, Nat.le_of_ble_eq_true rfl⟩) (pX_V hP hK) rfl rfl hl.1 rfl (lv_room (Nat.le_of_ble_eq_true rfl)) dX0_sumOfKeysTimesWeights_15 ⟨Nat.zero_le _, Nat.zero_le _⟩) ?_
      refine lv_aload_n hx hb dX0_sumOfKeysTimesWeights_18 rfl (lv_at hl 2 rfl) ?_
      refine va_get (D := G) (ci := 0) (C := RX0) (T := TX0) (N := 5) hx hb hts hin hown hK hP 0 rfl rfl 2 (by decide) (hts _ (tb_cons _ w_fl_X0_16)) (fun _ h9 => h9) rfl dX0_sumOfKeysTimesWeights_19 ?_
      refine lv_aload_n hx hb dX0_sumOfKeysTimesWeights_22 rfl (lv_at hl 2 rfl) ?_
      refine va_get (D := G) (ci := 0) (C := RX0) (T := TX0) (N := 5) hx hb hts hin hown hK hP 0 rfl rfl 3 (by decide) (hts _ (tb_cons _ w_fl_X0_20)) (fun _ h9 => h9) rfl dX0_sumOfKeysTimesWeights_23 ?_
      refine lv_iload_n hx hb dX0_sumOfKeysTimesWeights_26 rfl (lv_at hl 0 rfl) ?_
      refine q_iald hx hb hK hP 4 3 rfl rfl (i) rfl (by omega) (by decide) dX0_sumOfKeysTimesWeights_27 ?_
      refine q_topi (y := nI (Lf i)) (hO i (by omega)).1 ?_
      refine q_iald hx hb hK hP 3 2 rfl rfl (Lf i) rfl (hO i (by omega)).2 (by decide) dX0_sumOfKeysTimesWeights_28 ?_
      refine lv_i2l hx hb dX0_sumOfKeysTimesWeights_29 rfl ?_
      refine lv_lmul hx hb dX0_sumOfKeysTimesWeights_30 ?_
      refine lv_ladd hx hb dX0_sumOfKeysTimesWeights_31 ?_
      refine lv_lstore_n hx hb dX0_sumOfKeysTimesWeights_32 rfl hl (by decide) rfl (fun ls hl => ?_)
      have hl : lv_has ls 4 [(1, .long ((ft_sum (fun a b : Int64 => a + b) 0 (fun i => K (Lf i) * (Wt (Lf i)).toInt64) i) + ((K (Lf i)) * ((Wt (Lf i))).toInt64))), (3, .int (nI i)), (0, .ref (a 0))] := hl
      refine lv_iinc (k := 1) (v := nI (i + 1)) hx hb dX0_sumOfKeysTimesWeights_33 hl rfl (nI_succ i).symm (by decide) rfl (fun ls hl => ?_)
      have hl : lv_has ls 4 [(3, .int (nI (i + 1))), (1, .long ((ft_sum (fun a b : Int64 => a + b) 0 (fun i => K (Lf i) * (Wt (Lf i)).toInt64) i) + ((K (Lf i)) * ((Wt (Lf i))).toInt64))), (0, .ref (a 0))] := hl
      refine lv_goto (tgt := 4) hx hb dX0_sumOfKeysTimesWeights_36 (by decide) ?_
      exact ih (i + 1) (by omega) ls hl
  exact loop sz 0 (by omega) ls hl
set_option maxHeartbeats 4000000 in
set_option maxRecDepth 100000 in
theorem cx_fairPlaces (l : Launch) (G : va_G) (a : Nat → Nat) (C : Nat → ClassId) (K D : Nat → Int64) (Wt O : Nat → Int32) (Lf : Nat → Nat) (sz : Nat) (hs : sz ≤ 200) (hO : ∀ i, i < sz → O i = nI (Lf i) ∧ Lf i < 200) : Met l yX0_fairPlaces wsX0_fairPlaces { frames := 2, cells := 0, slots := 0, locals := 60 } (va_Pc [.ref (a 0)] (rX G a C K D Wt O (nI sz))) (rd_Q (.int (nI (ft_fb (fun i => decide (K (Lf i) * (ft_sum (fun a b : Int32 => a + b) 0 (fun i => Wt (Lf i)) sz).toInt64 ≤ (ft_sum (fun a b : Int64 => a + b) 0 (fun i => K (Lf i) * (Wt (Lf i)).toInt64) sz))) sz 0)))) 0 0 (fun _ => False) := by
  refine q_open (cc := cX0_fairPlaces) (maxL := 6) (ret := (some .int)) (by decide) rfl (Nat.le_of_ble_eq_true rfl) ?_
  intro p e s m below meth c ls S hr hlk hB hl
  obtain ⟨hx, hb, hml, hown, hts⟩ := id S
  obtain ⟨hP, hK⟩ := hB
  have hin : ∀ w ∈ u_ws RX0 TX0 5, w ∈ wsX0_fairPlaces := fun w h => tb_cons w (hinX0 w h)
  have hl : lv_has ls 6 [(0, .ref (a 0))] := hl
  refine lv_aload_n hx hb dX0_fairPlaces_0 rfl (lv_at hl 0 rfl) ?_
  refine lv_aload_n hx hb dX0_fairPlaces_1 rfl (lv_at hl 0 rfl) ?_
  refine va_get (D := G) (ci := 0) (C := RX0) (T := TX0) (N := 5) hx hb hts hin hown hK hP 0 rfl rfl 4 (by decide) (hts _ (tb_cons _ w_fl_X0_23)) (fun _ h9 => h9) rfl dX0_fairPlaces_2 ?_
  refine rd_call (W.runV (As := [.int (nI sz)]) (rest := []) S (cx_weightOfFirst l G a C K D Wt O Lf sz hs hO (Nat.le_refl sz)) (cwV 1 hts (gX0_78 tb_cons) rfl rfl rfl (by decide +kernel) ⟨Nat.le_of_ble_eq_true rfl, Nat.le_of_ble_eq_true rfl⟩) (pX_V hP hK) rfl rfl hl.1 rfl (lv_room (Nat.le_of_ble_eq_true rfl)) dX0_fairPlaces_5 ⟨Nat.zero_le _, Nat.zero_le _⟩) ?_
  refine lv_i2l hx hb dX0_fairPlaces_8 rfl ?_
  refine lv_lstore_n hx hb dX0_fairPlaces_9 rfl hl (by decide) rfl (fun ls hl => ?_)
  have hl : lv_has ls 6 [(1, .long ((ft_sum (fun a b : Int32 => a + b) 0 (fun i => Wt (Lf i)) sz)).toInt64), (0, .ref (a 0))] := hl
  refine lv_aload_n hx hb dX0_fairPlaces_10 rfl (lv_at hl 1 rfl) ?_
  refine rd_call (W.runV (As := []) (rest := []) S (cx_sumOfKeysTimesWeights l G a C K D Wt O Lf sz hs hO) (cwV 0 hts (gX0_82 tb_cons) rfl rfl rfl (by decide +kernel) ⟨Nat.le_of_ble_eq_true rfl, Nat.le_of_ble_eq_true rfl⟩) (pX_V hP hK) rfl rfl hl.1 rfl (lv_room (Nat.le_of_ble_eq_true rfl)) dX0_fairPlaces_11 ⟨Nat.zero_le _, Nat.zero_le _⟩) ?_
  refine lv_lstore_n hx hb dX0_fairPlaces_14 rfl hl (by decide) rfl (fun ls hl => ?_)
  have hl : lv_has ls 6 [(3, .long (ft_sum (fun a b : Int64 => a + b) 0 (fun i => K (Lf i) * (Wt (Lf i)).toInt64) sz)), (1, .long ((ft_sum (fun a b : Int32 => a + b) 0 (fun i => Wt (Lf i)) sz)).toInt64), (0, .ref (a 0))] := hl
  refine lv_iconst (v := 0) hx hb dX0_fairPlaces_15 (by decide) ?_
  refine lv_istore hx hb dX0_fairPlaces_16 hl (by decide) rfl (fun ls hl => ?_)
  have hl : lv_has ls 6 [(5, .int 0), (3, .long (ft_sum (fun a b : Int64 => a + b) 0 (fun i => K (Lf i) * (Wt (Lf i)).toInt64) sz)), (1, .long ((ft_sum (fun a b : Int32 => a + b) 0 (fun i => Wt (Lf i)) sz)).toInt64), (0, .ref (a 0))] := hl
  have loop : ∀ (k : Nat) (i : Nat), i + k = sz → ft_fb (fun i => decide (K (Lf i) * (ft_sum (fun a b : Int32 => a + b) 0 (fun i => Wt (Lf i)) sz).toInt64 ≤ (ft_sum (fun a b : Int64 => a + b) 0 (fun i => K (Lf i) * (Wt (Lf i)).toInt64) sz))) k i = ft_fb (fun i => decide (K (Lf i) * (ft_sum (fun a b : Int32 => a + b) 0 (fun i => Wt (Lf i)) sz).toInt64 ≤ (ft_sum (fun a b : Int64 => a + b) 0 (fun i => K (Lf i) * (Wt (Lf i)).toInt64) sz))) sz 0 → ∀ ls : Array Slot, lv_has ls 6 [(5, .int (nI i)), (3, .long (ft_sum (fun a b : Int64 => a + b) 0 (fun i => K (Lf i) * (Wt (Lf i)).toInt64) sz)), (1, .long (ft_sum (fun a b : Int32 => a + b) 0 (fun i => Wt (Lf i)) sz).toInt64), (0, .ref (a 0))] → W p l e { frames := 2, cells := 0, slots := 0, locals := 60 } s m ([.ref (a 0)] : List Value).toArray below meth c s.heap [] 0 0 (MQ below (rd_Q (.int (nI (ft_fb (fun i => decide (K (Lf i) * (ft_sum (fun a b : Int32 => a + b) 0 (fun i => Wt (Lf i)) sz).toInt64 ≤ (ft_sum (fun a b : Int64 => a + b) 0 (fun i => K (Lf i) * (Wt (Lf i)).toInt64) sz))) sz 0)))) ([.ref (a 0)] : List Value).toArray s 0 0 (fun _ => False)) (F0 m 18 ls []) := by
    intro k
    induction k with
    | zero =>
      intro i hi hf ls hl
      refine lv_iload hx hb dX0_fairPlaces_18 (lv_at hl 0 rfl) ?_
      refine lv_aload_n hx hb dX0_fairPlaces_20 rfl (lv_at hl 3 rfl) ?_
      refine va_get (D := G) (ci := 0) (C := RX0) (T := TX0) (N := 5) hx hb hts hin hown hK hP 0 rfl rfl 4 (by decide) (hts _ (tb_cons _ w_fl_X0_23)) (fun _ h9 => h9) rfl dX0_fairPlaces_21 ?_
      refine lv_icmp_ge (tgt := 46) hx hb dX0_fairPlaces_24 (by decide) (fun _ => ?_) (fun hc => absurd (nI_le (by omega) (by omega)) hc)
      refine lv_iload hx hb dX0_fairPlaces_46 (lv_at hl 0 rfl) ?_
      have hf : i = ft_fb (fun i => decide (K (Lf i) * (ft_sum (fun a b : Int32 => a + b) 0 (fun i => Wt (Lf i)) sz).toInt64 ≤ (ft_sum (fun a b : Int64 => a + b) 0 (fun i => K (Lf i) * (Wt (Lf i)).toInt64) sz))) sz 0 := hf
      exact W.iret hx hb hr (fun t ht _ => ⟨by rw [← hf], ht⟩) (fun q h => by cases h) dX0_fairPlaces_48
    | succ k ih =>
      intro i hi hf ls hl
      refine lv_iload hx hb dX0_fairPlaces_18 (lv_at hl 0 rfl) ?_
      refine lv_aload_n hx hb dX0_fairPlaces_20 rfl (lv_at hl 3 rfl) ?_
      refine va_get (D := G) (ci := 0) (C := RX0) (T := TX0) (N := 5) hx hb hts hin hown hK hP 0 rfl rfl 4 (by decide) (hts _ (tb_cons _ w_fl_X0_23)) (fun _ h9 => h9) rfl dX0_fairPlaces_21 ?_
      refine lv_icmp_ge (tgt := 46) hx hb dX0_fairPlaces_24 (by decide) (fun hc => absurd hc (nI_ge (by omega) (by omega))) (fun _ => ?_)
      refine lv_aload_n hx hb dX0_fairPlaces_27 rfl (lv_at hl 3 rfl) ?_
      refine lv_iload hx hb dX0_fairPlaces_28 (lv_at hl 0 rfl) ?_
      refine rd_call (W.runV (As := [.int (nI i)]) (rest := []) S (cx_keyAt l G a C K D Wt O (nI sz) (i := i) (by omega) (hO i (by omega)).1 (hO i (by omega)).2) (cwV 1 hts (gX0_53 tb_cons) rfl rfl rfl (by decide +kernel) ⟨Nat.le_of_ble_eq_true rfl, Nat.le_of_ble_eq_true rfl⟩) (pX_V hP hK) rfl rfl hl.1 rfl (lv_room (Nat.le_of_ble_eq_true rfl)) dX0_fairPlaces_30 ⟨Nat.zero_le _, Nat.zero_le _⟩) ?_
      refine lv_lload_n hx hb dX0_fairPlaces_33 rfl (lv_at hl 2 rfl) ?_
      refine lv_lmul hx hb dX0_fairPlaces_34 ?_
      refine lv_lload_n hx hb dX0_fairPlaces_35 rfl (lv_at hl 1 rfl) ?_
      refine W.lcmp hx hb dX0_fairPlaces_36 ?_
      have hf : (if decide (K (Lf i) * (ft_sum (fun a b : Int32 => a + b) 0 (fun i => Wt (Lf i)) sz).toInt64 ≤ (ft_sum (fun a b : Int64 => a + b) 0 (fun i => K (Lf i) * (Wt (Lf i)).toInt64) sz)) = true then ft_fb (fun i => decide (K (Lf i) * (ft_sum (fun a b : Int32 => a + b) 0 (fun i => Wt (Lf i)) sz).toInt64 ≤ (ft_sum (fun a b : Int64 => a + b) 0 (fun i => K (Lf i) * (Wt (Lf i)).toInt64) sz))) k (i + 1) else i) = ft_fb (fun i => decide (K (Lf i) * (ft_sum (fun a b : Int32 => a + b) 0 (fun i => Wt (Lf i)) sz).toInt64 ≤ (ft_sum (fun a b : Int64 => a + b) 0 (fun i => K (Lf i) * (Wt (Lf i)).toInt64) sz))) sz 0 := hf
      refine lv_if_gt (tgt := 46) hx hb dX0_fairPlaces_37 (by decide) (fun hq => ?_) (fun hq => ?_)
      · rw [if_neg (fun z => Int64.not_le.mpr ((lg_cmp_gt _ _).mp hq) (of_decide_eq_true z))] at hf
        refine lv_iload hx hb dX0_fairPlaces_46 (lv_at hl 0 rfl) ?_
        exact W.iret hx hb hr (fun t ht _ => ⟨by rw [← hf], ht⟩) (fun q h => by cases h) dX0_fairPlaces_48
      · rw [if_pos (decide_eq_true (Int64.not_lt.mp (fun z => hq ((lg_cmp_gt _ _).mpr z))))] at hf
        refine lv_iinc (k := 0) (v := nI (i + 1)) hx hb dX0_fairPlaces_40 hl rfl (nI_succ i).symm (by decide) rfl (fun ls hl => ?_)
        have hl : lv_has ls 6 [(5, .int (nI (i + 1))), (3, .long (ft_sum (fun a b : Int64 => a + b) 0 (fun i => K (Lf i) * (Wt (Lf i)).toInt64) sz)), (1, .long (ft_sum (fun a b : Int32 => a + b) 0 (fun i => Wt (Lf i)) sz).toInt64), (0, .ref (a 0))] := hl
        refine lv_goto (tgt := 18) hx hb dX0_fairPlaces_43 (by decide) ?_
        exact ih (i + 1) (by omega) hf ls hl
  exact loop sz 0 (by omega) rfl ls hl
set_option maxHeartbeats 4000000 in
set_option maxRecDepth 100000 in
theorem cx_earliestOfPlaces (l : Launch) (G : va_G) (a : Nat → Nat) (C : Nat → ClassId) (K D : Nat → Int64) (Wt O : Nat → Int32) (Lf : Nat → Nat) (sz : Nat) (hs : sz ≤ 200) (hO : ∀ i, i < sz → O i = nI (Lf i) ∧ Lf i < 200) {u v : Nat} (huv : u < v) (hv : v ≤ sz) : Met l yX0_earliestOfPlaces wsX0_earliestOfPlaces { frames := 1, cells := 0, slots := 0, locals := 30 } (va_Pc [.ref (a 0), .int (nI u), .int (nI v)] (rX G a C K D Wt O (nI sz))) (rd_Q (.int (nI (ft_em D Lf (v - u - 1) (u + 1) (Lf u))))) 0 0 (fun _ => False) := by
  refine q_open (cc := cX0_earliestOfPlaces) (maxL := 5) (ret := (some .int)) (by decide) rfl (Nat.le_of_ble_eq_true rfl) ?_
  intro p e s m below meth c ls S hr hlk hB hl
  obtain ⟨hx, hb, hml, hown, hts⟩ := id S
  obtain ⟨hP, hK⟩ := hB
  have hin : ∀ w ∈ u_ws RX0 TX0 5, w ∈ wsX0_earliestOfPlaces := fun w h => tb_cons w (hinX0 w h)
  have hl : lv_has ls 5 [(0, .ref (a 0)), (1, .int (nI u)), (2, .int (nI v))] := hl
  refine lv_iload_n hx hb dX0_earliestOfPlaces_0 rfl (lv_at hl 1 rfl) ?_
  refine lv_iload_n hx hb dX0_earliestOfPlaces_1 rfl (lv_at hl 2 rfl) ?_
  refine lv_icmp_lt (tgt := 13) hx hb dX0_earliestOfPlaces_2 (by decide) (fun _ => ?_) (fun hc => absurd (nI_lt huv (by omega)) hc)
  refine lv_aload_n hx hb dX0_earliestOfPlaces_13 rfl (lv_at hl 0 rfl) ?_
  refine va_get (D := G) (ci := 0) (C := RX0) (T := TX0) (N := 5) hx hb hts hin hown hK hP 0 rfl rfl 3 (by decide) (hts _ (tb_cons _ w_fl_X0_20)) (fun _ h9 => h9) rfl dX0_earliestOfPlaces_14 ?_
  refine lv_iload_n hx hb dX0_earliestOfPlaces_17 rfl (lv_at hl 1 rfl) ?_
  refine q_iald hx hb hK hP 4 3 rfl rfl (u) rfl (by omega) (by decide) dX0_earliestOfPlaces_18 ?_
  refine q_topi (y := nI (Lf u)) (hO u (by omega)).1 ?_
  refine lv_istore_n hx hb dX0_earliestOfPlaces_19 rfl hl (by decide) rfl (fun ls hl => ?_)
  have hl : lv_has ls 5 [(3, .int (nI (Lf u))), (0, .ref (a 0)), (1, .int (nI u)), (2, .int (nI v))] := hl
  refine lv_iload_n hx hb dX0_earliestOfPlaces_20 rfl (lv_at hl 2 rfl) ?_
  refine lv_iconst (v := 1) hx hb dX0_earliestOfPlaces_21 (by decide) ?_
  refine lv_iadd hx hb dX0_earliestOfPlaces_22 ?_
  refine q_topi (y := nI (u + 1)) (nI_succ u).symm ?_
  refine lv_istore hx hb dX0_earliestOfPlaces_23 hl (by decide) rfl (fun ls hl => ?_)
  have hl : lv_has ls 5 [(4, .int (nI (u + 1))), (3, .int (nI (Lf u))), (0, .ref (a 0)), (1, .int (nI u)), (2, .int (nI v))] := hl
  have loop : ∀ (k : Nat) (i f : Nat), i + k = v → f < 200 → (ft_em D Lf k i f) = (ft_em D Lf (v - u - 1) (u + 1) (Lf u)) → ∀ ls : Array Slot, lv_has ls 5 [(4, .int (nI i)), (3, .int (nI f)), (0, .ref (a 0)), (1, .int (nI u)), (2, .int (nI v))] → W p l e { frames := 1, cells := 0, slots := 0, locals := 30 } s m ([.ref (a 0), .int (nI u), .int (nI v)] : List Value).toArray below meth c s.heap [] 0 0 (MQ below (rd_Q (.int (nI (ft_em D Lf (v - u - 1) (u + 1) (Lf u))))) ([.ref (a 0), .int (nI u), .int (nI v)] : List Value).toArray s 0 0 (fun _ => False)) (F0 m 25 ls []) := by
    intro k
    induction k with
    | zero =>
      intro i f hi hf he ls hl
      refine lv_iload hx hb dX0_earliestOfPlaces_25 (lv_at hl 0 rfl) ?_
      refine lv_iload_n hx hb dX0_earliestOfPlaces_27 rfl (lv_at hl 4 rfl) ?_
      refine lv_icmp_ge (tgt := 60) hx hb dX0_earliestOfPlaces_28 (by decide) (fun _ => ?_) (fun hc => absurd (nI_le (by omega) (by omega)) hc)
      refine lv_iload_n hx hb dX0_earliestOfPlaces_60 rfl (lv_at hl 1 rfl) ?_
      have he : f = (ft_em D Lf (v - u - 1) (u + 1) (Lf u)) := he
      exact W.iret hx hb hr (fun t ht _ => ⟨by rw [← he], ht⟩) (fun q h => by cases h) dX0_earliestOfPlaces_61
    | succ k ih =>
      intro i f hi hf he ls hl
      refine lv_iload hx hb dX0_earliestOfPlaces_25 (lv_at hl 0 rfl) ?_
      refine lv_iload_n hx hb dX0_earliestOfPlaces_27 rfl (lv_at hl 4 rfl) ?_
      refine lv_icmp_ge (tgt := 60) hx hb dX0_earliestOfPlaces_28 (by decide) (fun hc => absurd hc (nI_ge (by omega) (by omega))) (fun _ => ?_)
      refine lv_aload_n hx hb dX0_earliestOfPlaces_31 rfl (lv_at hl 2 rfl) ?_
      refine lv_aload_n hx hb dX0_earliestOfPlaces_32 rfl (lv_at hl 2 rfl) ?_
      refine va_get (D := G) (ci := 0) (C := RX0) (T := TX0) (N := 5) hx hb hts hin hown hK hP 0 rfl rfl 3 (by decide) (hts _ (tb_cons _ w_fl_X0_20)) (fun _ h9 => h9) rfl dX0_earliestOfPlaces_33 ?_
      refine lv_iload hx hb dX0_earliestOfPlaces_36 (lv_at hl 0 rfl) ?_
      refine q_iald hx hb hK hP 4 3 rfl rfl (i) rfl (by omega) (by decide) dX0_earliestOfPlaces_38 ?_
      refine q_topi (y := nI (Lf i)) (hO i (by omega)).1 ?_
      refine lv_iload_n hx hb dX0_earliestOfPlaces_39 rfl (lv_at hl 1 rfl) ?_
      refine rd_call (W.runV (As := [.int (nI (Lf i)), .int (nI f)]) (rest := []) S (cx_isEarlier l G a C K D Wt O (nI sz) (hO i (by omega)).2 hf) (cwV 2 hts (gX0_104 tb_cons) rfl rfl rfl (by decide +kernel) ⟨Nat.le_of_ble_eq_true rfl, Nat.le_of_ble_eq_true rfl⟩) (pX_V hP hK) rfl rfl hl.1 rfl (lv_room (Nat.le_of_ble_eq_true rfl)) dX0_earliestOfPlaces_40 ⟨Nat.zero_le _, Nat.zero_le _⟩) ?_
      have he : ft_em D Lf k (i + 1) (if ft_sb D (D f) (nI f) (Lf i) = true then Lf i else f) = (ft_em D Lf (v - u - 1) (u + 1) (Lf u)) := he
      by_cases hq : ft_sb D (D f) (nI f) (Lf i) = true
      · rw [if_pos hq] at he ⊢
        refine lv_if_eq (tgt := 54) hx hb dX0_earliestOfPlaces_43 (by decide) (fun hc => absurd hc (by decide)) (fun _ => ?_)
        refine lv_aload_n hx hb dX0_earliestOfPlaces_46 rfl (lv_at hl 2 rfl) ?_
        refine va_get (D := G) (ci := 0) (C := RX0) (T := TX0) (N := 5) hx hb hts hin hown hK hP 0 rfl rfl 3 (by decide) (hts _ (tb_cons _ w_fl_X0_20)) (fun _ h9 => h9) rfl dX0_earliestOfPlaces_47 ?_
        refine lv_iload hx hb dX0_earliestOfPlaces_50 (lv_at hl 0 rfl) ?_
        refine q_iald hx hb hK hP 4 3 rfl rfl (i) rfl (by omega) (by decide) dX0_earliestOfPlaces_52 ?_
        refine q_topi (y := nI (Lf i)) (hO i (by omega)).1 ?_
        refine lv_istore_n hx hb dX0_earliestOfPlaces_53 rfl hl (by decide) rfl (fun ls hl => ?_)
        have hl : lv_has ls 5 [(3, .int (nI (Lf i))), (4, .int (nI i)), (0, .ref (a 0)), (1, .int (nI u)), (2, .int (nI v))] := hl
        refine lv_iinc (k := 1) (v := nI (i + 1)) hx hb dX0_earliestOfPlaces_54 hl rfl (nI_succ i).symm (by decide) rfl (fun ls hl => ?_)
        have hl : lv_has ls 5 [(4, .int (nI (i + 1))), (3, .int (nI (Lf i))), (0, .ref (a 0)), (1, .int (nI u)), (2, .int (nI v))] := hl
        refine lv_goto (tgt := 25) hx hb dX0_earliestOfPlaces_57 (by decide) ?_
        exact ih (i + 1) (Lf i) (by omega) (hO i (by omega)).2 he ls (lv_sub hl [0, 1, 2, 3, 4] rfl)
      · rw [if_neg hq] at he ⊢
        refine lv_if_eq (tgt := 54) hx hb dX0_earliestOfPlaces_43 (by decide) (fun _ => ?_) (fun hc => absurd (rfl) hc)
        refine lv_iinc (k := 0) (v := nI (i + 1)) hx hb dX0_earliestOfPlaces_54 hl rfl (nI_succ i).symm (by decide) rfl (fun ls hl => ?_)
        have hl : lv_has ls 5 [(4, .int (nI (i + 1))), (3, .int (nI f)), (0, .ref (a 0)), (1, .int (nI u)), (2, .int (nI v))] := hl
        refine lv_goto (tgt := 25) hx hb dX0_earliestOfPlaces_57 (by decide) ?_
        exact ih (i + 1) f (by omega) hf he ls hl
  exact loop (v - u - 1) (u + 1) (Lf u) (by omega) (hO u (by omega)).2 rfl ls hl
end
section
set_option maxHeartbeats 4000000 in
set_option maxRecDepth 100000 in
theorem cx_removePlaces (l : Launch) (G : va_G) (a : Nat → Nat) (C : Nat → ClassId) {A : Nat → Prop} (hD : ∀ K D Wt O n, va_D A (wX a C K D Wt O n)) (K D : Nat → Int64) (Wt O : Nat → Int32) (Lf : Nat → Nat) (sz : Nat) (hs : sz ≤ 200) (hO : ∀ i, i < sz → O i = nI (Lf i) ∧ Lf i < 200) {u v : Nat} (huv : u ≤ v) (hv : v ≤ sz) : Met l yX0_removePlaces wsX0_removePlaces { frames := 1, cells := 0, slots := 0, locals := 30 } (va_Pc [.ref (a 0), .int (nI u), .int (nI v)] (rX G a C K D Wt O (nI sz))) (wr_Q G vwCl (none) (wX a C K D (ft_zr Lf (v - u) u Wt) (va_cpy O O v u (sz - v)) (nI (sz - (v - u)))) A) 0 0 A := by
  refine q_open (cc := cX0_removePlaces) (maxL := 4) (ret := none) (by decide) rfl (Nat.le_of_ble_eq_true rfl) ?_
  intro p e s m below meth c ls S hr hlk hB hl
  obtain ⟨hx, hb, hml, hown, hts⟩ := id S
  obtain ⟨hP, hK⟩ := hB
  have hin : ∀ w ∈ u_ws RX0 TX0 5, w ∈ wsX0_removePlaces := fun w h => tb_cons w (hinX0 w h)
  have hS : va_S A s.heap s.heap [] := va_S.rf
  have hl : lv_has ls 4 [(0, .ref (a 0)), (1, .int (nI u)), (2, .int (nI v))] := hl
  refine lv_iload_n hx hb dX0_removePlaces_0 rfl (lv_at hl 1 rfl) ?_
  refine lv_istore_n hx hb dX0_removePlaces_1 rfl hl (by decide) rfl (fun ls hl => ?_)
  have hl : lv_has ls 4 [(3, .int (nI u)), (0, .ref (a 0)), (1, .int (nI u)), (2, .int (nI v))] := hl
  have loop : ∀ (k : Nat) (i : Nat) (Wz : Nat → Int32), i + k = v → ft_zr Lf k i Wz = ft_zr Lf (v - u) u Wt → ∀ (H : Heap) (locs : List Loc), va_P G vwCl (wX a C K D Wz O (nI sz)) H → va_S A s.heap H locs → ∀ ls : Array Slot, lv_has ls 4 [(3, .int (nI i)), (0, .ref (a 0)), (1, .int (nI u)), (2, .int (nI v))] → W p l e { frames := 1, cells := 0, slots := 0, locals := 30 } s m ([.ref (a 0), .int (nI u), .int (nI v)] : List Value).toArray below meth c H locs 0 0 (MQ below (wr_Q G vwCl none (wX a C K D (ft_zr Lf (v - u) u Wt) (va_cpy O O v u (sz - v)) (nI (sz - (v - u)))) A) ([.ref (a 0), .int (nI u), .int (nI v)] : List Value).toArray s 0 0 A) (F0 m 2 ls []) := by
    intro k
    induction k with
    | zero =>
      intro i Wz hi he H locs hP hS ls hl
      refine lv_iload_n hx hb dX0_removePlaces_2 rfl (lv_at hl 0 rfl) ?_
      refine lv_iload_n hx hb dX0_removePlaces_3 rfl (lv_at hl 3 rfl) ?_
      refine lv_icmp_ge (tgt := 25) hx hb dX0_removePlaces_4 (by decide) (fun _ => ?_) (fun hc => absurd (nI_le (by omega) (by omega)) hc)
      refine lv_aload_n hx hb dX0_removePlaces_25 rfl (lv_at hl 1 rfl) ?_
      refine va_get (D := G) (ci := 0) (C := RX0) (T := TX0) (N := 5) hx hb hts hin hown hK hP 0 rfl rfl 3 (by decide) (hts _ (tb_cons _ w_fl_X0_20)) (fun _ h9 => h9) rfl dX0_removePlaces_26 ?_
      refine lv_iload_n hx hb dX0_removePlaces_29 rfl (lv_at hl 3 rfl) ?_
      refine lv_aload_n hx hb dX0_removePlaces_30 rfl (lv_at hl 1 rfl) ?_
      refine va_get (D := G) (ci := 0) (C := RX0) (T := TX0) (N := 5) hx hb hts hin hown hK hP 0 rfl rfl 3 (by decide) (hts _ (tb_cons _ w_fl_X0_20)) (fun _ h9 => h9) rfl dX0_removePlaces_31 ?_
      refine lv_iload_n hx hb dX0_removePlaces_34 rfl (lv_at hl 2 rfl) ?_
      refine lv_aload_n hx hb dX0_removePlaces_35 rfl (lv_at hl 1 rfl) ?_
      refine va_get (D := G) (ci := 0) (C := RX0) (T := TX0) (N := 5) hx hb hts hin hown hK hP 0 rfl rfl 4 (by decide) (hts _ (tb_cons _ w_fl_X0_23)) (fun _ h9 => h9) rfl dX0_removePlaces_36 ?_
      refine lv_iload_n hx hb dX0_removePlaces_39 rfl (lv_at hl 3 rfl) ?_
      refine lv_isub hx hb dX0_removePlaces_40 ?_
      refine q_copyi hx hb (hml.trans hl.1.symm) hown (hts _ (tb_cons _ w_ml_X0_108)) (hts _ (tb_cons _ w_nat_arraycopy)) (hts _ (tb_cons _ w_st_arraycopy)) (hts _ (tb_cons _ w_in_System)) hK hP (hD _ _ _ _ _) hS 4 4 3 3 rfl rfl rfl rfl (v) (u) (sz - v) rfl rfl (pk_sub hv) (by omega) (by omega) (by decide) (by decide) (Nat.le_of_ble_eq_true rfl) (Nat.le_of_ble_eq_true rfl) dX0_removePlaces_41 (fun H locs hP hS => ?_)
      have hP : va_P G vwCl (wX a C K D Wz (va_cpy O O v u (sz - v)) (nI sz)) H := hP
      refine lv_aload_n hx hb dX0_removePlaces_44 rfl (lv_at hl 1 rfl) ?_
      refine lv_dup hx hb dX0_removePlaces_45 rfl ?_
      refine va_get (D := G) (ci := 0) (C := RX0) (T := TX0) (N := 5) hx hb hts hin hown hK hP 0 rfl rfl 4 (by decide) (hts _ (tb_cons _ w_fl_X0_23)) (fun _ h9 => h9) rfl dX0_removePlaces_46 ?_
      refine lv_iload_n hx hb dX0_removePlaces_49 rfl (lv_at hl 3 rfl) ?_
      refine lv_iload_n hx hb dX0_removePlaces_50 rfl (lv_at hl 2 rfl) ?_
      refine lv_isub hx hb dX0_removePlaces_51 ?_
      refine lv_isub hx hb dX0_removePlaces_52 ?_
      refine va_put (D := G) (ci := 0) (v := .int (nI sz - (nI v - nI u))) (ty := .int) (C := RX0) (T := TX0) (N := 5) hx hb hts hin tyX0 tyX0_ok nmX0 hown hK hP (hD _ _ _ _ _) hS 0 rfl rfl 4 (by decide) (hts _ (tb_cons _ w_fl_X0_23)) (fun _ h9 => h9) rfl (by decide +kernel) rfl rfl (Nat.le_of_ble_eq_true rfl) dX0_removePlaces_53 (fun H locs hP _ hS => ?_)
      have hP : va_P G vwCl (wX a C K D Wz (va_cpy O O v u (sz - v)) (nI sz - (nI v - nI u))) H := hP
      have e9 : nI sz - (nI v - nI u) = nI (sz - (v - u)) := by rw [pk_sub huv, pk_sub (by omega)]
      rw [e9] at hP
      have he : Wz = ft_zr Lf (v - u) u Wt := he
      rw [he] at hP
      exact W.vret hx hb hr (fun t ht _ => ⟨rfl, by rw [ht]; exact hP, hS.F ht⟩) hS.2.2 dX0_removePlaces_56
    | succ k ih =>
      intro i Wz hi he H locs hP hS ls hl
      refine lv_iload_n hx hb dX0_removePlaces_2 rfl (lv_at hl 0 rfl) ?_
      refine lv_iload_n hx hb dX0_removePlaces_3 rfl (lv_at hl 3 rfl) ?_
      refine lv_icmp_ge (tgt := 25) hx hb dX0_removePlaces_4 (by decide) (fun hc => absurd hc (nI_ge (by omega) (by omega))) (fun _ => ?_)
      refine lv_aload_n hx hb dX0_removePlaces_7 rfl (lv_at hl 1 rfl) ?_
      refine va_get (D := G) (ci := 0) (C := RX0) (T := TX0) (N := 5) hx hb hts hin hown hK hP 0 rfl rfl 2 (by decide) (hts _ (tb_cons _ w_fl_X0_16)) (fun _ h9 => h9) rfl dX0_removePlaces_8 ?_
      refine lv_aload_n hx hb dX0_removePlaces_11 rfl (lv_at hl 1 rfl) ?_
      refine va_get (D := G) (ci := 0) (C := RX0) (T := TX0) (N := 5) hx hb hts hin hown hK hP 0 rfl rfl 3 (by decide) (hts _ (tb_cons _ w_fl_X0_20)) (fun _ h9 => h9) rfl dX0_removePlaces_12 ?_
      refine lv_iload_n hx hb dX0_removePlaces_15 rfl (lv_at hl 0 rfl) ?_
      refine q_iald hx hb hK hP 4 3 rfl rfl (i) rfl (by omega) (by decide) dX0_removePlaces_16 ?_
      refine q_topi (y := nI (Lf i)) (hO i (by omega)).1 ?_
      refine lv_iconst (v := 0) hx hb dX0_removePlaces_17 (by decide) ?_
      refine q_iast hx hb hK hP (hD _ _ _ _ _) hS 3 2 rfl rfl (Lf i) rfl (hO i (by omega)).2 (by decide) dX0_removePlaces_18 (fun H locs hP hS => ?_)
      have hP : va_P G vwCl (wX a C K D (upd Wz (Lf i) 0) O (nI sz)) H := hP
      refine lv_iinc (k := 0) (v := nI (i + 1)) hx hb dX0_removePlaces_19 hl rfl (nI_succ i).symm (by decide) rfl (fun ls hl => ?_)
      have hl : lv_has ls 4 [(3, .int (nI (i + 1))), (0, .ref (a 0)), (1, .int (nI u)), (2, .int (nI v))] := hl
      refine lv_goto (tgt := 2) hx hb dX0_removePlaces_22 (by decide) ?_
      exact ih (i + 1) (upd Wz (Lf i) 0) (by omega) he H locs hP hS ls hl
  exact loop (v - u) u Wt (by omega) rfl s.heap [] hP hS ls hl
set_option maxHeartbeats 4000000 in
set_option maxRecDepth 100000 in
theorem cx_removeItem (l : Launch) (G : va_G) (a : Nat → Nat) (C : Nat → ClassId) {A : Nat → Prop} (hD : ∀ K D Wt O n, va_D A (wX a C K D Wt O n)) (K D : Nat → Int64) (Wt O : Nat → Int32) (Lf : Nat → Nat) (sz : Nat) (hs : sz ≤ 200) (hO : ∀ i, i < sz → O i = nI (Lf i) ∧ Lf i < 200) {j : Nat} (hj : j < 200) (hq : (ft_fb (fun i => ft_sb K (K j) (nI j) (Lf i)) sz 0) < sz) : Met l yX0_removeItem wsX0_removeItem { frames := 2, cells := 0, slots := 0, locals := 60 } (va_Pc [.ref (a 0), .int (nI j)] (rX G a C K D Wt O (nI sz))) (wr_Q G vwCl (none) (wX a C K D (ft_zr Lf 1 (ft_fb (fun i => ft_sb K (K j) (nI j) (Lf i)) sz 0) Wt) (va_cpy O O ((ft_fb (fun i => ft_sb K (K j) (nI j) (Lf i)) sz 0) + 1) (ft_fb (fun i => ft_sb K (K j) (nI j) (Lf i)) sz 0) (sz - ((ft_fb (fun i => ft_sb K (K j) (nI j) (Lf i)) sz 0) + 1))) (nI (sz - 1))) A) 0 0 A := by
  refine q_open (cc := cX0_removeItem) (maxL := 3) (ret := none) (by decide) rfl (Nat.le_of_ble_eq_true rfl) ?_
  intro p e s m below meth c ls S hr hlk hB hl
  obtain ⟨hx, hb, hml, hown, hts⟩ := id S
  obtain ⟨hP, hK⟩ := hB
  have hin : ∀ w ∈ u_ws RX0 TX0 5, w ∈ wsX0_removeItem := fun w h => tb_cons w (hinX0 w h)
  have hS : va_S A s.heap s.heap [] := va_S.rf
  have hl : lv_has ls 3 [(0, .ref (a 0)), (1, .int (nI j))] := hl
  refine lv_aload_n hx hb dX0_removeItem_0 rfl (lv_at hl 0 rfl) ?_
  refine lv_aload_n hx hb dX0_removeItem_1 rfl (lv_at hl 0 rfl) ?_
  refine va_get (D := G) (ci := 0) (C := RX0) (T := TX0) (N := 5) hx hb hts hin hown hK hP 0 rfl rfl 0 (by decide) (hts _ (tb_cons _ w_fl_X0_9)) (fun _ h9 => h9) rfl dX0_removeItem_2 ?_
  refine lv_iload_n hx hb dX0_removeItem_5 rfl (lv_at hl 1 rfl) ?_
  refine q_lald hx hb hK hP 1 0 rfl rfl (j) rfl hj (by decide) dX0_removeItem_6 ?_
  refine lv_iload_n hx hb dX0_removeItem_7 rfl (lv_at hl 1 rfl) ?_
  refine rd_call (W.runV (As := [.long (K j), .int (nI j)]) (rest := []) S (cx_placesBefore l G a C K D Wt O Lf sz hs hO (K j) (nI j)) (cwV 2 hts (gX0_59 tb_cons) rfl rfl rfl (by decide +kernel) ⟨Nat.le_of_ble_eq_true rfl, Nat.le_of_ble_eq_true rfl⟩) (pX_V hP hK) rfl rfl hl.1 rfl (lv_room (Nat.le_of_ble_eq_true rfl)) dX0_removeItem_8 ⟨Nat.zero_le _, Nat.zero_le _⟩) ?_
  generalize hp9 : (ft_fb (fun i => ft_sb K (K j) (nI j) (Lf i)) sz 0) = q at hq ⊢
  refine lv_istore_n hx hb dX0_removeItem_11 rfl hl (by decide) rfl (fun ls hl => ?_)
  have hl : lv_has ls 3 [(2, .int (nI q)), (0, .ref (a 0)), (1, .int (nI j))] := hl
  refine lv_aload_n hx hb dX0_removeItem_12 rfl (lv_at hl 1 rfl) ?_
  refine lv_iload_n hx hb dX0_removeItem_13 rfl (lv_at hl 0 rfl) ?_
  refine lv_iload_n hx hb dX0_removeItem_14 rfl (lv_at hl 0 rfl) ?_
  refine lv_iconst (v := 1) hx hb dX0_removeItem_15 (by decide) ?_
  refine lv_iadd hx hb dX0_removeItem_16 ?_
  refine q_topi (y := nI (q + 1)) (nI_succ q).symm ?_
  refine wr_call (W.runV (As := [.int (nI q), .int (nI (q + 1))]) (rest := []) S (cx_removePlaces l G a C hD K D Wt O Lf sz hs hO (u := q) (v := q + 1) (by omega) (by omega)) (cwV 2 hts (gX0_92 tb_cons) rfl rfl rfl (by decide +kernel) ⟨Nat.le_of_ble_eq_true rfl, Nat.le_of_ble_eq_true rfl⟩) (pX_V hP hK) rfl rfl hl.1 rfl (lv_room (Nat.le_of_ble_eq_true rfl)) dX0_removeItem_17 ⟨Nat.zero_le _, Nat.zero_le _⟩) hS (fun _ h => h) (fun H locs hP hS _ _ => ?_)
  have hP : va_P G vwCl (wX a C K D (ft_zr Lf (q + 1 - q) q Wt) (va_cpy O O (q + 1) q (sz - (q + 1))) (nI (sz - (q + 1 - q)))) H := hP
  refine W.eq (g2 := F0 m 20 ls []) rfl ?_
  rw [Nat.add_sub_cancel_left] at hP
  exact W.vret hx hb hr (fun t ht _ => ⟨rfl, by rw [ht]; exact hP, hS.F ht⟩) hS.2.2 dX0_removeItem_20
set_option maxHeartbeats 4000000 in
set_option maxRecDepth 100000 in
theorem cx_insertItem (l : Launch) (G : va_G) (a : Nat → Nat) (C : Nat → ClassId) {A : Nat → Prop} (hD : ∀ K D Wt O n, va_D A (wX a C K D Wt O n)) (K D : Nat → Int64) (Wt O : Nat → Int32) (Lf : Nat → Nat) (sz : Nat) (hs : sz ≤ 200) (hO : ∀ i, i < sz → O i = nI (Lf i) ∧ Lf i < 200) {j : Nat} (hj : j < 200) (hz : sz < 200) : Met l yX0_insertItem wsX0_insertItem { frames := 2, cells := 0, slots := 0, locals := 60 } (va_Pc [.ref (a 0), .int (nI j)] (rX G a C K D Wt O (nI sz))) (wr_Q G vwCl (none) (wX a C K D Wt (upd (va_cpy O O (ft_fb (fun i => ft_sb K (K j) (nI j) (Lf i)) sz 0) ((ft_fb (fun i => ft_sb K (K j) (nI j) (Lf i)) sz 0) + 1) (sz - (ft_fb (fun i => ft_sb K (K j) (nI j) (Lf i)) sz 0))) (ft_fb (fun i => ft_sb K (K j) (nI j) (Lf i)) sz 0) (nI j)) (nI (sz + 1))) A) 0 0 A := by
  refine q_open (cc := cX0_insertItem) (maxL := 3) (ret := none) (by decide) rfl (Nat.le_of_ble_eq_true rfl) ?_
  intro p e s m below meth c ls S hr hlk hB hl
  obtain ⟨hx, hb, hml, hown, hts⟩ := id S
  obtain ⟨hP, hK⟩ := hB
  have hin : ∀ w ∈ u_ws RX0 TX0 5, w ∈ wsX0_insertItem := fun w h => tb_cons w (hinX0 w h)
  have hS : va_S A s.heap s.heap [] := va_S.rf
  have hl : lv_has ls 3 [(0, .ref (a 0)), (1, .int (nI j))] := hl
  refine lv_aload_n hx hb dX0_insertItem_0 rfl (lv_at hl 0 rfl) ?_
  refine lv_aload_n hx hb dX0_insertItem_1 rfl (lv_at hl 0 rfl) ?_
  refine va_get (D := G) (ci := 0) (C := RX0) (T := TX0) (N := 5) hx hb hts hin hown hK hP 0 rfl rfl 0 (by decide) (hts _ (tb_cons _ w_fl_X0_9)) (fun _ h9 => h9) rfl dX0_insertItem_2 ?_
  refine lv_iload_n hx hb dX0_insertItem_5 rfl (lv_at hl 1 rfl) ?_
  refine q_lald hx hb hK hP 1 0 rfl rfl (j) rfl hj (by decide) dX0_insertItem_6 ?_
  refine lv_iload_n hx hb dX0_insertItem_7 rfl (lv_at hl 1 rfl) ?_
  refine rd_call (W.runV (As := [.long (K j), .int (nI j)]) (rest := []) S (cx_placesBefore l G a C K D Wt O Lf sz hs hO (K j) (nI j)) (cwV 2 hts (gX0_59 tb_cons) rfl rfl rfl (by decide +kernel) ⟨Nat.le_of_ble_eq_true rfl, Nat.le_of_ble_eq_true rfl⟩) (pX_V hP hK) rfl rfl hl.1 rfl (lv_room (Nat.le_of_ble_eq_true rfl)) dX0_insertItem_8 ⟨Nat.zero_le _, Nat.zero_le _⟩) ?_
  have hq : (ft_fb (fun i => ft_sb K (K j) (nI j) (Lf i)) sz 0) ≤ sz := by have := (ft_fb_spec (fun i => ft_sb K (K j) (nI j) (Lf i)) sz 0).2.1; omega
  generalize hp9 : (ft_fb (fun i => ft_sb K (K j) (nI j) (Lf i)) sz 0) = q at hq ⊢
  refine lv_istore_n hx hb dX0_insertItem_11 rfl hl (by decide) rfl (fun ls hl => ?_)
  have hl : lv_has ls 3 [(2, .int (nI q)), (0, .ref (a 0)), (1, .int (nI j))] := hl
  refine lv_aload_n hx hb dX0_insertItem_12 rfl (lv_at hl 1 rfl) ?_
  refine va_get (D := G) (ci := 0) (C := RX0) (T := TX0) (N := 5) hx hb hts hin hown hK hP 0 rfl rfl 3 (by decide) (hts _ (tb_cons _ w_fl_X0_20)) (fun _ h9 => h9) rfl dX0_insertItem_13 ?_
  refine lv_iload_n hx hb dX0_insertItem_16 rfl (lv_at hl 0 rfl) ?_
  refine lv_aload_n hx hb dX0_insertItem_17 rfl (lv_at hl 1 rfl) ?_
  refine va_get (D := G) (ci := 0) (C := RX0) (T := TX0) (N := 5) hx hb hts hin hown hK hP 0 rfl rfl 3 (by decide) (hts _ (tb_cons _ w_fl_X0_20)) (fun _ h9 => h9) rfl dX0_insertItem_18 ?_
  refine lv_iload_n hx hb dX0_insertItem_21 rfl (lv_at hl 0 rfl) ?_
  refine lv_iconst (v := 1) hx hb dX0_insertItem_22 (by decide) ?_
  refine lv_iadd hx hb dX0_insertItem_23 ?_
  refine lv_aload_n hx hb dX0_insertItem_24 rfl (lv_at hl 1 rfl) ?_
  refine va_get (D := G) (ci := 0) (C := RX0) (T := TX0) (N := 5) hx hb hts hin hown hK hP 0 rfl rfl 4 (by decide) (hts _ (tb_cons _ w_fl_X0_23)) (fun _ h9 => h9) rfl dX0_insertItem_25 ?_
  refine lv_iload_n hx hb dX0_insertItem_28 rfl (lv_at hl 0 rfl) ?_
  refine lv_isub hx hb dX0_insertItem_29 ?_
  refine q_copyi hx hb (hml.trans hl.1.symm) hown (hts _ (tb_cons _ w_ml_X0_108)) (hts _ (tb_cons _ w_nat_arraycopy)) (hts _ (tb_cons _ w_st_arraycopy)) (hts _ (tb_cons _ w_in_System)) hK hP (hD _ _ _ _ _) hS 4 4 3 3 rfl rfl rfl rfl (q) (q + 1) (sz - q) rfl (nI_succ q).symm (pk_sub hq) (by omega) (by omega) (by decide) (by decide) (Nat.le_of_ble_eq_true rfl) (Nat.le_of_ble_eq_true rfl) dX0_insertItem_30 (fun H locs hP hS => ?_)
  have hP : va_P G vwCl (wX a C K D Wt (va_cpy O O q (q + 1) (sz - q)) (nI sz)) H := hP
  refine lv_aload_n hx hb dX0_insertItem_33 rfl (lv_at hl 1 rfl) ?_
  refine va_get (D := G) (ci := 0) (C := RX0) (T := TX0) (N := 5) hx hb hts hin hown hK hP 0 rfl rfl 3 (by decide) (hts _ (tb_cons _ w_fl_X0_20)) (fun _ h9 => h9) rfl dX0_insertItem_34 ?_
  refine lv_iload_n hx hb dX0_insertItem_37 rfl (lv_at hl 0 rfl) ?_
  refine lv_iload_n hx hb dX0_insertItem_38 rfl (lv_at hl 2 rfl) ?_
  refine q_iast hx hb hK hP (hD _ _ _ _ _) hS 4 3 rfl rfl (q) rfl (by omega) (by decide) dX0_insertItem_39 (fun H locs hP hS => ?_)
  have hP : va_P G vwCl (wX a C K D Wt (upd (va_cpy O O q (q + 1) (sz - q)) q (nI j)) (nI sz)) H := hP
  refine lv_aload_n hx hb dX0_insertItem_40 rfl (lv_at hl 1 rfl) ?_
  refine lv_dup hx hb dX0_insertItem_41 rfl ?_
  refine va_get (D := G) (ci := 0) (C := RX0) (T := TX0) (N := 5) hx hb hts hin hown hK hP 0 rfl rfl 4 (by decide) (hts _ (tb_cons _ w_fl_X0_23)) (fun _ h9 => h9) rfl dX0_insertItem_42 ?_
  refine lv_iconst (v := 1) hx hb dX0_insertItem_45 (by decide) ?_
  refine lv_iadd hx hb dX0_insertItem_46 ?_
  refine va_put (D := G) (ci := 0) (v := .int (nI sz + 1)) (ty := .int) (C := RX0) (T := TX0) (N := 5) hx hb hts hin tyX0 tyX0_ok nmX0 hown hK hP (hD _ _ _ _ _) hS 0 rfl rfl 4 (by decide) (hts _ (tb_cons _ w_fl_X0_23)) (fun _ h9 => h9) rfl (by decide +kernel) rfl rfl (Nat.le_of_ble_eq_true rfl) dX0_insertItem_47 (fun H locs hP _ hS => ?_)
  have hP : va_P G vwCl (wX a C K D Wt (upd (va_cpy O O q (q + 1) (sz - q)) q (nI j)) (nI sz + 1)) H := hP
  rw [← nI_succ] at hP
  exact W.vret hx hb hr (fun t ht _ => ⟨rfl, by rw [ht]; exact hP, hS.F ht⟩) hS.2.2 dX0_insertItem_50
end
section
set_option maxHeartbeats 4000000 in
set_option maxRecDepth 100000 in
theorem cx_at (l : Launch) (G : va_G) (a : Nat → Nat) (C : Nat → ClassId) (K D : Nat → Int64) (Wt O : Nat → Int32) (Lf : Nat → Nat) (sz : Nat) (hs : sz ≤ 200) (hO : ∀ i, i < sz → O i = nI (Lf i) ∧ Lf i < 200) {i : Nat} (hi : i < sz) : Met l yX0_at wsX0_at rm0 (va_Pc [.ref (a 0), .int (nI i)] (rX G a C K D Wt O (nI sz))) (rd_Q (.int (nI (Lf i)))) 0 0 (fun _ => False) := by
  refine q_open (cc := cX0_at) (maxL := 2) (ret := (some .int)) (by decide) rfl (Nat.le_of_ble_eq_true rfl) ?_
  intro p e s m below meth c ls S hr hlk hB hl
  obtain ⟨hx, hb, hml, hown, hts⟩ := id S
  obtain ⟨hP, hK⟩ := hB
  have hin : ∀ w ∈ u_ws RX0 TX0 5, w ∈ wsX0_at := fun w h => tb_cons w (hinX0 w h)
  have hl : lv_has ls 2 [(0, .ref (a 0)), (1, .int (nI i))] := hl
  refine lv_iload_n hx hb dX0_at_0 rfl (lv_at hl 1 rfl) ?_
  refine lv_if_lt (tgt := 12) hx hb dX0_at_1 (by decide) (fun hc => absurd hc (nI_pos (by omega))) (fun _ => ?_)
  refine lv_iload_n hx hb dX0_at_4 rfl (lv_at hl 1 rfl) ?_
  refine lv_aload_n hx hb dX0_at_5 rfl (lv_at hl 0 rfl) ?_
  refine va_get (D := G) (ci := 0) (C := RX0) (T := TX0) (N := 5) hx hb hts hin hown hK hP 0 rfl rfl 4 (by decide) (hts _ (tb_cons _ w_fl_X0_23)) (fun _ h9 => h9) rfl dX0_at_6 ?_
  refine lv_icmp_lt (tgt := 20) hx hb dX0_at_9 (by decide) (fun _ => ?_) (fun hc => absurd (nI_lt hi (by omega)) hc)
  refine lv_aload_n hx hb dX0_at_20 rfl (lv_at hl 0 rfl) ?_
  refine va_get (D := G) (ci := 0) (C := RX0) (T := TX0) (N := 5) hx hb hts hin hown hK hP 0 rfl rfl 3 (by decide) (hts _ (tb_cons _ w_fl_X0_20)) (fun _ h9 => h9) rfl dX0_at_21 ?_
  refine lv_iload_n hx hb dX0_at_24 rfl (lv_at hl 1 rfl) ?_
  refine q_iald hx hb hK hP 4 3 rfl rfl (i) rfl (by omega) (by decide) dX0_at_25 ?_
  exact W.iret hx hb hr (fun t ht _ => ⟨by rw [(hO i hi).1], ht⟩) (fun q h => by cases h) dX0_at_26
set_option maxHeartbeats 4000000 in
set_option maxRecDepth 100000 in
theorem cx_rank (l : Launch) (G : va_G) (a : Nat → Nat) (C : Nat → ClassId) (K D : Nat → Int64) (Wt O : Nat → Int32) (Lf : Nat → Nat) (sz : Nat) (hs : sz ≤ 200) (hO : ∀ i, i < sz → O i = nI (Lf i) ∧ Lf i < 200) {j : Nat} (hj : j < 200) (ht : 0 < Wt j) : Met l yX0_rank wsX0_rank { frames := 2, cells := 0, slots := 0, locals := 60 } (va_Pc [.ref (a 0), .int (nI j)] (rX G a C K D Wt O (nI sz))) (rd_Q (.int (nI (ft_fb (fun i => ft_sb K (K j) (nI j) (Lf i)) sz 0)))) 0 0 (fun _ => False) := by
  refine q_open (cc := cX0_rank) (maxL := 2) (ret := (some .int)) (by decide) rfl (Nat.le_of_ble_eq_true rfl) ?_
  intro p e s m below meth c ls S hr hlk hB hl
  obtain ⟨hx, hb, hml, hown, hts⟩ := id S
  obtain ⟨hP, hK⟩ := hB
  have hin : ∀ w ∈ u_ws RX0 TX0 5, w ∈ wsX0_rank := fun w h => tb_cons w (hinX0 w h)
  have hl : lv_has ls 2 [(0, .ref (a 0)), (1, .int (nI j))] := hl
  refine lv_aload_n hx hb dX0_rank_0 rfl (lv_at hl 0 rfl) ?_
  refine lv_iload_n hx hb dX0_rank_1 rfl (lv_at hl 1 rfl) ?_
  refine rd_call (W.runV (As := [.int (nI j)]) (rest := []) S (cx_isThere_yes l G a C K D Wt O (nI sz) hj ht) (cwV 1 hts (gX0_38 tb_cons) rfl rfl rfl (by decide +kernel) ⟨Nat.le_of_ble_eq_true rfl, Nat.le_of_ble_eq_true rfl⟩) (pX_V hP hK) rfl rfl hl.1 rfl (lv_room (Nat.le_of_ble_eq_true rfl)) dX0_rank_2 ⟨Nat.zero_le _, Nat.zero_le _⟩) ?_
  refine lv_if_ne (tgt := 16) hx hb dX0_rank_5 (by decide) (fun _ => ?_) (fun hc => absurd hc (by decide))
  refine lv_aload_n hx hb dX0_rank_16 rfl (lv_at hl 0 rfl) ?_
  refine lv_aload_n hx hb dX0_rank_17 rfl (lv_at hl 0 rfl) ?_
  refine va_get (D := G) (ci := 0) (C := RX0) (T := TX0) (N := 5) hx hb hts hin hown hK hP 0 rfl rfl 0 (by decide) (hts _ (tb_cons _ w_fl_X0_9)) (fun _ h9 => h9) rfl dX0_rank_18 ?_
  refine lv_iload_n hx hb dX0_rank_21 rfl (lv_at hl 1 rfl) ?_
  refine q_lald hx hb hK hP 1 0 rfl rfl (j) rfl hj (by decide) dX0_rank_22 ?_
  refine lv_iload_n hx hb dX0_rank_23 rfl (lv_at hl 1 rfl) ?_
  refine rd_call (W.runV (As := [.long (K j), .int (nI j)]) (rest := []) S (cx_placesBefore l G a C K D Wt O Lf sz hs hO (K j) (nI j)) (cwV 2 hts (gX0_59 tb_cons) rfl rfl rfl (by decide +kernel) ⟨Nat.le_of_ble_eq_true rfl, Nat.le_of_ble_eq_true rfl⟩) (pX_V hP hK) rfl rfl hl.1 rfl (lv_room (Nat.le_of_ble_eq_true rfl)) dX0_rank_24 ⟨Nat.zero_le _, Nat.zero_le _⟩) ?_
  exact W.iret hx hb hr (fun t ht _ => ⟨rfl, ht⟩) (fun q h => by cases h) dX0_rank_27
set_option maxHeartbeats 4000000 in
set_option maxRecDepth 100000 in
theorem cx_told_k (l : Launch) (G : va_G) (a : Nat → Nat) (C : Nat → ClassId) (K D : Nat → Int64) (Wt O : Nat → Int32) (Lf : Nat → Nat) (sz : Nat) (hs : sz ≤ 200) (hO : ∀ i, i < sz → O i = nI (Lf i) ∧ Lf i < 200) {j : Nat} (hj : j < 200) (ht : 0 < Wt j) : Met l yX0_told wsX0_told { frames := 2, cells := 0, slots := 0, locals := 60 } (va_Pc [.ref (a 0), .int (nI j), .int 0] (rX G a C K D Wt O (nI sz))) (rd_Q (.long (K j))) 0 0 (fun _ => False) := by
  refine q_open (cc := cX0_told) (maxL := 3) (ret := (some .long)) (by decide) rfl (Nat.le_of_ble_eq_true rfl) ?_
  intro p e s m below meth c ls S hr hlk hB hl
  obtain ⟨hx, hb, hml, hown, hts⟩ := id S
  obtain ⟨hP, hK⟩ := hB
  have hin : ∀ w ∈ u_ws RX0 TX0 5, w ∈ wsX0_told := fun w h => tb_cons w (hinX0 w h)
  have hl : lv_has ls 3 [(0, .ref (a 0)), (1, .int (nI j)), (2, .int 0)] := hl
  refine lv_aload_n hx hb dX0_told_0 rfl (lv_at hl 0 rfl) ?_
  refine lv_iload_n hx hb dX0_told_1 rfl (lv_at hl 1 rfl) ?_
  refine rd_call (W.runV (As := [.int (nI j)]) (rest := []) S (cx_isThere_yes l G a C K D Wt O (nI sz) hj ht) (cwV 1 hts (gX0_38 tb_cons) rfl rfl rfl (by decide +kernel) ⟨Nat.le_of_ble_eq_true rfl, Nat.le_of_ble_eq_true rfl⟩) (pX_V hP hK) rfl rfl hl.1 rfl (lv_room (Nat.le_of_ble_eq_true rfl)) dX0_told_2 ⟨Nat.zero_le _, Nat.zero_le _⟩) ?_
  refine lv_if_ne (tgt := 16) hx hb dX0_told_5 (by decide) (fun _ => ?_) (fun hc => absurd hc (by decide))
  refine lv_iload_n hx hb dX0_told_16 rfl (lv_at hl 2 rfl) ?_
  refine lv_tableIn (off := 27) (tgt := 44) hx hb dX0_told_17 (by decide) (by decide) (by decide) (by decide) ?_
  refine lv_aload_n hx hb dX0_told_44 rfl (lv_at hl 0 rfl) ?_
  refine va_get (D := G) (ci := 0) (C := RX0) (T := TX0) (N := 5) hx hb hts hin hown hK hP 0 rfl rfl 0 (by decide) (hts _ (tb_cons _ w_fl_X0_9)) (fun _ h9 => h9) rfl dX0_told_45 ?_
  refine lv_iload_n hx hb dX0_told_48 rfl (lv_at hl 1 rfl) ?_
  refine q_lald hx hb hK hP 1 0 rfl rfl (j) rfl hj (by decide) dX0_told_49 ?_
  exact W.lret hx hb hr (fun t ht _ => ⟨rfl, ht⟩) (fun q h => by cases h) dX0_told_50
set_option maxHeartbeats 4000000 in
set_option maxRecDepth 100000 in
theorem cx_told_d (l : Launch) (G : va_G) (a : Nat → Nat) (C : Nat → ClassId) (K D : Nat → Int64) (Wt O : Nat → Int32) (Lf : Nat → Nat) (sz : Nat) (hs : sz ≤ 200) (hO : ∀ i, i < sz → O i = nI (Lf i) ∧ Lf i < 200) {j : Nat} (hj : j < 200) (ht : 0 < Wt j) : Met l yX0_told wsX0_told { frames := 2, cells := 0, slots := 0, locals := 60 } (va_Pc [.ref (a 0), .int (nI j), .int 1] (rX G a C K D Wt O (nI sz))) (rd_Q (.long (D j))) 0 0 (fun _ => False) := by
  refine q_open (cc := cX0_told) (maxL := 3) (ret := (some .long)) (by decide) rfl (Nat.le_of_ble_eq_true rfl) ?_
  intro p e s m below meth c ls S hr hlk hB hl
  obtain ⟨hx, hb, hml, hown, hts⟩ := id S
  obtain ⟨hP, hK⟩ := hB
  have hin : ∀ w ∈ u_ws RX0 TX0 5, w ∈ wsX0_told := fun w h => tb_cons w (hinX0 w h)
  have hl : lv_has ls 3 [(0, .ref (a 0)), (1, .int (nI j)), (2, .int 1)] := hl
  refine lv_aload_n hx hb dX0_told_0 rfl (lv_at hl 0 rfl) ?_
  refine lv_iload_n hx hb dX0_told_1 rfl (lv_at hl 1 rfl) ?_
  refine rd_call (W.runV (As := [.int (nI j)]) (rest := []) S (cx_isThere_yes l G a C K D Wt O (nI sz) hj ht) (cwV 1 hts (gX0_38 tb_cons) rfl rfl rfl (by decide +kernel) ⟨Nat.le_of_ble_eq_true rfl, Nat.le_of_ble_eq_true rfl⟩) (pX_V hP hK) rfl rfl hl.1 rfl (lv_room (Nat.le_of_ble_eq_true rfl)) dX0_told_2 ⟨Nat.zero_le _, Nat.zero_le _⟩) ?_
  refine lv_if_ne (tgt := 16) hx hb dX0_told_5 (by decide) (fun _ => ?_) (fun hc => absurd hc (by decide))
  refine lv_iload_n hx hb dX0_told_16 rfl (lv_at hl 2 rfl) ?_
  refine lv_tableIn (off := 34) (tgt := 51) hx hb dX0_told_17 (by decide) (by decide) (by decide) (by decide) ?_
  refine lv_aload_n hx hb dX0_told_51 rfl (lv_at hl 0 rfl) ?_
  refine va_get (D := G) (ci := 0) (C := RX0) (T := TX0) (N := 5) hx hb hts hin hown hK hP 0 rfl rfl 1 (by decide) (hts _ (tb_cons _ w_fl_X0_13)) (fun _ h9 => h9) rfl dX0_told_52 ?_
  refine lv_iload_n hx hb dX0_told_55 rfl (lv_at hl 1 rfl) ?_
  refine q_lald hx hb hK hP 2 1 rfl rfl (j) rfl hj (by decide) dX0_told_56 ?_
  exact W.lret hx hb hr (fun t ht _ => ⟨rfl, ht⟩) (fun q h => by cases h) dX0_told_57
set_option maxHeartbeats 4000000 in
set_option maxRecDepth 100000 in
theorem cx_told_w (l : Launch) (G : va_G) (a : Nat → Nat) (C : Nat → ClassId) (K D : Nat → Int64) (Wt O : Nat → Int32) (Lf : Nat → Nat) (sz : Nat) (hs : sz ≤ 200) (hO : ∀ i, i < sz → O i = nI (Lf i) ∧ Lf i < 200) {j : Nat} (hj : j < 200) (ht : 0 < Wt j) : Met l yX0_told wsX0_told { frames := 2, cells := 0, slots := 0, locals := 60 } (va_Pc [.ref (a 0), .int (nI j), .int 2] (rX G a C K D Wt O (nI sz))) (rd_Q (.long ((Wt j).toInt64))) 0 0 (fun _ => False) := by
  refine q_open (cc := cX0_told) (maxL := 3) (ret := (some .long)) (by decide) rfl (Nat.le_of_ble_eq_true rfl) ?_
  intro p e s m below meth c ls S hr hlk hB hl
  obtain ⟨hx, hb, hml, hown, hts⟩ := id S
  obtain ⟨hP, hK⟩ := hB
  have hin : ∀ w ∈ u_ws RX0 TX0 5, w ∈ wsX0_told := fun w h => tb_cons w (hinX0 w h)
  have hl : lv_has ls 3 [(0, .ref (a 0)), (1, .int (nI j)), (2, .int 2)] := hl
  refine lv_aload_n hx hb dX0_told_0 rfl (lv_at hl 0 rfl) ?_
  refine lv_iload_n hx hb dX0_told_1 rfl (lv_at hl 1 rfl) ?_
  refine rd_call (W.runV (As := [.int (nI j)]) (rest := []) S (cx_isThere_yes l G a C K D Wt O (nI sz) hj ht) (cwV 1 hts (gX0_38 tb_cons) rfl rfl rfl (by decide +kernel) ⟨Nat.le_of_ble_eq_true rfl, Nat.le_of_ble_eq_true rfl⟩) (pX_V hP hK) rfl rfl hl.1 rfl (lv_room (Nat.le_of_ble_eq_true rfl)) dX0_told_2 ⟨Nat.zero_le _, Nat.zero_le _⟩) ?_
  refine lv_if_ne (tgt := 16) hx hb dX0_told_5 (by decide) (fun _ => ?_) (fun hc => absurd hc (by decide))
  refine lv_iload_n hx hb dX0_told_16 rfl (lv_at hl 2 rfl) ?_
  refine lv_tableIn (off := 41) (tgt := 58) hx hb dX0_told_17 (by decide) (by decide) (by decide) (by decide) ?_
  refine lv_aload_n hx hb dX0_told_58 rfl (lv_at hl 0 rfl) ?_
  refine va_get (D := G) (ci := 0) (C := RX0) (T := TX0) (N := 5) hx hb hts hin hown hK hP 0 rfl rfl 2 (by decide) (hts _ (tb_cons _ w_fl_X0_16)) (fun _ h9 => h9) rfl dX0_told_59 ?_
  refine lv_iload_n hx hb dX0_told_62 rfl (lv_at hl 1 rfl) ?_
  refine q_iald hx hb hK hP 3 2 rfl rfl (j) rfl hj (by decide) dX0_told_63 ?_
  refine lv_i2l hx hb dX0_told_64 rfl ?_
  exact W.lret hx hb hr (fun t ht _ => ⟨rfl, ht⟩) (fun q h => by cases h) dX0_told_65
set_option maxHeartbeats 4000000 in
set_option maxRecDepth 100000 in
theorem cx_earliest (l : Launch) (G : va_G) (a : Nat → Nat) (C : Nat → ClassId) (K D : Nat → Int64) (Wt O : Nat → Int32) (Lf : Nat → Nat) (sz : Nat) (hs : sz ≤ 200) (hO : ∀ i, i < sz → O i = nI (Lf i) ∧ Lf i < 200) (key : Int64) (h0 : 0 < (ft_fb (fun i => ft_sb K key 200 (Lf i)) sz 0)) : Met l yX0_earliest wsX0_earliest { frames := 3, cells := 0, slots := 0, locals := 90 } (va_Pc [.ref (a 0), .long key] (rX G a C K D Wt O (nI sz))) (rd_Q (.int (nI (ft_em D Lf ((ft_fb (fun i => ft_sb K key 200 (Lf i)) sz 0) - 0 - 1) (0 + 1) (Lf 0))))) 0 0 (fun _ => False) := by
  refine q_open (cc := cX0_earliest) (maxL := 3) (ret := (some .int)) (by decide) rfl (Nat.le_of_ble_eq_true rfl) ?_
  intro p e s m below meth c ls S hr hlk hB hl
  obtain ⟨hx, hb, hml, hown, hts⟩ := id S
  obtain ⟨hP, hK⟩ := hB
  have hin : ∀ w ∈ u_ws RX0 TX0 5, w ∈ wsX0_earliest := fun w h => tb_cons w (hinX0 w h)
  have hl : lv_has ls 3 [(0, .ref (a 0)), (1, .long key)] := hl
  refine lv_aload_n hx hb dX0_earliest_0 rfl (lv_at hl 0 rfl) ?_
  refine lv_iconst (v := 0) hx hb dX0_earliest_1 (by decide) ?_
  refine q_topi (y := nI 0) rfl ?_
  refine lv_aload_n hx hb dX0_earliest_2 rfl (lv_at hl 0 rfl) ?_
  refine lv_lload_n hx hb dX0_earliest_3 rfl (lv_at hl 1 rfl) ?_
  refine rd_call (W.runV (As := [.long key]) (rest := [.int (nI 0), .ref (a 0)]) S (cx_placesNotAbove l G a C K D Wt O Lf sz hs hO key) (cwV 1 hts (gX0_63 tb_cons) rfl rfl rfl (by decide +kernel) ⟨Nat.le_of_ble_eq_true rfl, Nat.le_of_ble_eq_true rfl⟩) (pX_V hP hK) rfl rfl hl.1 rfl (lv_room (Nat.le_of_ble_eq_true rfl)) dX0_earliest_4 ⟨Nat.zero_le _, Nat.zero_le _⟩) ?_
  refine rd_call (W.runV (As := [.int (nI 0), .int (nI (ft_fb (fun i => ft_sb K key 200 (Lf i)) sz 0))]) (rest := []) S (cx_earliestOfPlaces l G a C K D Wt O Lf sz hs hO (u := 0) (v := (ft_fb (fun i => ft_sb K key 200 (Lf i)) sz 0)) h0 (by have := (ft_fb_spec (fun i => ft_sb K key 200 (Lf i)) sz 0).2.1; omega)) (cwV 2 hts (gX0_67 tb_cons) rfl rfl rfl (by decide +kernel) ⟨Nat.le_of_ble_eq_true rfl, Nat.le_of_ble_eq_true rfl⟩) (pX_V hP hK) rfl rfl hl.1 rfl (lv_room (Nat.le_of_ble_eq_true rfl)) dX0_earliest_7 ⟨Nat.zero_le _, Nat.zero_le _⟩) ?_
  exact W.iret hx hb hr (fun t ht _ => ⟨rfl, ht⟩) (fun q h => by cases h) dX0_earliest_10
set_option maxHeartbeats 4000000 in
set_option maxRecDepth 100000 in
theorem cx_between (l : Launch) (G : va_G) (a : Nat → Nat) (C : Nat → ClassId) (K D : Nat → Int64) (Wt O : Nat → Int32) (Lf : Nat → Nat) (sz : Nat) (hs : sz ≤ 200) (hO : ∀ i, i < sz → O i = nI (Lf i) ∧ Lf i < 200) (lo hi : Int64) (h0 : (ft_fb (fun i => ft_sb K lo 0 (Lf i)) sz 0) < (ft_fb (fun i => ft_sb K hi 200 (Lf i)) sz 0)) : Met l yX0_between wsX0_between { frames := 3, cells := 0, slots := 0, locals := 90 } (va_Pc [.ref (a 0), .long lo, .long hi] (rX G a C K D Wt O (nI sz))) (rd_Q (.int (nI (ft_em D Lf ((ft_fb (fun i => ft_sb K hi 200 (Lf i)) sz 0) - (ft_fb (fun i => ft_sb K lo 0 (Lf i)) sz 0) - 1) ((ft_fb (fun i => ft_sb K lo 0 (Lf i)) sz 0) + 1) (Lf (ft_fb (fun i => ft_sb K lo 0 (Lf i)) sz 0)))))) 0 0 (fun _ => False) := by
  refine q_open (cc := cX0_between) (maxL := 5) (ret := (some .int)) (by decide) rfl (Nat.le_of_ble_eq_true rfl) ?_
  intro p e s m below meth c ls S hr hlk hB hl
  obtain ⟨hx, hb, hml, hown, hts⟩ := id S
  obtain ⟨hP, hK⟩ := hB
  have hin : ∀ w ∈ u_ws RX0 TX0 5, w ∈ wsX0_between := fun w h => tb_cons w (hinX0 w h)
  have hl : lv_has ls 5 [(0, .ref (a 0)), (1, .long lo), (3, .long hi)] := hl
  refine lv_aload_n hx hb dX0_between_0 rfl (lv_at hl 0 rfl) ?_
  refine lv_aload_n hx hb dX0_between_1 rfl (lv_at hl 0 rfl) ?_
  refine lv_lload_n hx hb dX0_between_2 rfl (lv_at hl 1 rfl) ?_
  refine rd_call (W.runV (As := [.long lo]) (rest := [.ref (a 0)]) S (cx_placesBelow l G a C K D Wt O Lf sz hs hO lo) (cwV 1 hts (gX0_71 tb_cons) rfl rfl rfl (by decide +kernel) ⟨Nat.le_of_ble_eq_true rfl, Nat.le_of_ble_eq_true rfl⟩) (pX_V hP hK) rfl rfl hl.1 rfl (lv_room (Nat.le_of_ble_eq_true rfl)) dX0_between_3 ⟨Nat.zero_le _, Nat.zero_le _⟩) ?_
  refine lv_aload_n hx hb dX0_between_6 rfl (lv_at hl 0 rfl) ?_
  refine lv_lload_n hx hb dX0_between_7 rfl (lv_at hl 2 rfl) ?_
  refine rd_call (W.runV (As := [.long hi]) (rest := [.int (nI (ft_fb (fun i => ft_sb K lo 0 (Lf i)) sz 0)), .ref (a 0)]) S (cx_placesNotAbove l G a C K D Wt O Lf sz hs hO hi) (cwV 1 hts (gX0_63 tb_cons) rfl rfl rfl (by decide +kernel) ⟨Nat.le_of_ble_eq_true rfl, Nat.le_of_ble_eq_true rfl⟩) (pX_V hP hK) rfl rfl hl.1 rfl (lv_room (Nat.le_of_ble_eq_true rfl)) dX0_between_8 ⟨Nat.zero_le _, Nat.zero_le _⟩) ?_
  refine rd_call (W.runV (As := [.int (nI (ft_fb (fun i => ft_sb K lo 0 (Lf i)) sz 0)), .int (nI (ft_fb (fun i => ft_sb K hi 200 (Lf i)) sz 0))]) (rest := []) S (cx_earliestOfPlaces l G a C K D Wt O Lf sz hs hO (u := (ft_fb (fun i => ft_sb K lo 0 (Lf i)) sz 0)) (v := (ft_fb (fun i => ft_sb K hi 200 (Lf i)) sz 0)) h0 (by have := (ft_fb_spec (fun i => ft_sb K hi 200 (Lf i)) sz 0).2.1; omega)) (cwV 2 hts (gX0_67 tb_cons) rfl rfl rfl (by decide +kernel) ⟨Nat.le_of_ble_eq_true rfl, Nat.le_of_ble_eq_true rfl⟩) (pX_V hP hK) rfl rfl hl.1 rfl (lv_room (Nat.le_of_ble_eq_true rfl)) dX0_between_11 ⟨Nat.zero_le _, Nat.zero_le _⟩) ?_
  exact W.iret hx hb hr (fun t ht _ => ⟨rfl, ht⟩) (fun q h => by cases h) dX0_between_14
set_option maxHeartbeats 4000000 in
set_option maxRecDepth 100000 in
theorem cx_pick (l : Launch) (G : va_G) (a : Nat → Nat) (C : Nat → ClassId) (K D : Nat → Int64) (Wt O : Nat → Int32) (Lf : Nat → Nat) (sz : Nat) (hs : sz ≤ 200) (hO : ∀ i, i < sz → O i = nI (Lf i) ∧ Lf i < 200) (h0 : 0 < (ft_fb (fun i => decide (K (Lf i) * (ft_sum (fun a b : Int32 => a + b) 0 (fun i => Wt (Lf i)) sz).toInt64 ≤ (ft_sum (fun a b : Int64 => a + b) 0 (fun i => K (Lf i) * (Wt (Lf i)).toInt64) sz))) sz 0)) : Met l yX0_pick wsX0_pick { frames := 3, cells := 0, slots := 0, locals := 90 } (va_Pc [.ref (a 0)] (rX G a C K D Wt O (nI sz))) (rd_Q (.int (nI (ft_em D Lf ((ft_fb (fun i => decide (K (Lf i) * (ft_sum (fun a b : Int32 => a + b) 0 (fun i => Wt (Lf i)) sz).toInt64 ≤ (ft_sum (fun a b : Int64 => a + b) 0 (fun i => K (Lf i) * (Wt (Lf i)).toInt64) sz))) sz 0) - 0 - 1) (0 + 1) (Lf 0))))) 0 0 (fun _ => False) := by
  refine q_open (cc := cX0_pick) (maxL := 1) (ret := (some .int)) (by decide) rfl (Nat.le_of_ble_eq_true rfl) ?_
  intro p e s m below meth c ls S hr hlk hB hl
  obtain ⟨hx, hb, hml, hown, hts⟩ := id S
  obtain ⟨hP, hK⟩ := hB
  have hin : ∀ w ∈ u_ws RX0 TX0 5, w ∈ wsX0_pick := fun w h => tb_cons w (hinX0 w h)
  have hl : lv_has ls 1 [(0, .ref (a 0))] := hl
  refine lv_aload_n hx hb dX0_pick_0 rfl (lv_at hl 0 rfl) ?_
  refine lv_iconst (v := 0) hx hb dX0_pick_1 (by decide) ?_
  refine q_topi (y := nI 0) rfl ?_
  refine lv_aload_n hx hb dX0_pick_2 rfl (lv_at hl 0 rfl) ?_
  refine rd_call (W.runV (As := []) (rest := [.int (nI 0), .ref (a 0)]) S (cx_fairPlaces l G a C K D Wt O Lf sz hs hO) (cwV 0 hts (gX0_74 tb_cons) rfl rfl rfl (by decide +kernel) ⟨Nat.le_of_ble_eq_true rfl, Nat.le_of_ble_eq_true rfl⟩) (pX_V hP hK) rfl rfl hl.1 rfl (lv_room (Nat.le_of_ble_eq_true rfl)) dX0_pick_3 ⟨Nat.zero_le _, Nat.zero_le _⟩) ?_
  refine rd_call (W.runV (As := [.int (nI 0), .int (nI (ft_fb (fun i => decide (K (Lf i) * (ft_sum (fun a b : Int32 => a + b) 0 (fun i => Wt (Lf i)) sz).toInt64 ≤ (ft_sum (fun a b : Int64 => a + b) 0 (fun i => K (Lf i) * (Wt (Lf i)).toInt64) sz))) sz 0))]) (rest := []) S (cx_earliestOfPlaces l G a C K D Wt O Lf sz hs hO (u := 0) (v := (ft_fb (fun i => decide (K (Lf i) * (ft_sum (fun a b : Int32 => a + b) 0 (fun i => Wt (Lf i)) sz).toInt64 ≤ (ft_sum (fun a b : Int64 => a + b) 0 (fun i => K (Lf i) * (Wt (Lf i)).toInt64) sz))) sz 0)) h0 (by have := (ft_fb_spec (fun i => decide (K (Lf i) * (ft_sum (fun a b : Int32 => a + b) 0 (fun i => Wt (Lf i)) sz).toInt64 ≤ (ft_sum (fun a b : Int64 => a + b) 0 (fun i => K (Lf i) * (Wt (Lf i)).toInt64) sz))) sz 0).2.1; omega)) (cwV 2 hts (gX0_67 tb_cons) rfl rfl rfl (by decide +kernel) ⟨Nat.le_of_ble_eq_true rfl, Nat.le_of_ble_eq_true rfl⟩) (pX_V hP hK) rfl rfl hl.1 rfl (lv_room (Nat.le_of_ble_eq_true rfl)) dX0_pick_6 ⟨Nat.zero_le _, Nat.zero_le _⟩) ?_
  exact W.iret hx hb hr (fun t ht _ => ⟨rfl, ht⟩) (fun q h => by cases h) dX0_pick_9
set_option maxHeartbeats 4000000 in
set_option maxRecDepth 100000 in
theorem cx_ahead (l : Launch) (G : va_G) (a : Nat → Nat) (C : Nat → ClassId) (K D : Nat → Int64) (Wt O : Nat → Int32) (Lf : Nat → Nat) (sz : Nat) (hs : sz ≤ 200) (hO : ∀ i, i < sz → O i = nI (Lf i) ∧ Lf i < 200) {j : Nat} (hj : j < 200) (ht : 0 < Wt j) : Met l yX0_ahead wsX0_ahead { frames := 3, cells := 0, slots := 0, locals := 90 } (va_Pc [.ref (a 0), .int (nI j)] (rX G a C K D Wt O (nI sz))) (rd_Q (.long (K j * (ft_sum (fun a b : Int32 => a + b) 0 (fun i => Wt (Lf i)) sz).toInt64 - (ft_sum (fun a b : Int64 => a + b) 0 (fun i => K (Lf i) * (Wt (Lf i)).toInt64) sz)))) 0 0 (fun _ => False) := by
  refine q_open (cc := cX0_ahead) (maxL := 2) (ret := (some .long)) (by decide) rfl (Nat.le_of_ble_eq_true rfl) ?_
  intro p e s m below meth c ls S hr hlk hB hl
  obtain ⟨hx, hb, hml, hown, hts⟩ := id S
  obtain ⟨hP, hK⟩ := hB
  have hin : ∀ w ∈ u_ws RX0 TX0 5, w ∈ wsX0_ahead := fun w h => tb_cons w (hinX0 w h)
  have hl : lv_has ls 2 [(0, .ref (a 0)), (1, .int (nI j))] := hl
  refine lv_aload_n hx hb dX0_ahead_0 rfl (lv_at hl 0 rfl) ?_
  refine lv_iload_n hx hb dX0_ahead_1 rfl (lv_at hl 1 rfl) ?_
  refine rd_call (W.runV (As := [.int (nI j)]) (rest := []) S (cx_isThere_yes l G a C K D Wt O (nI sz) hj ht) (cwV 1 hts (gX0_38 tb_cons) rfl rfl rfl (by decide +kernel) ⟨Nat.le_of_ble_eq_true rfl, Nat.le_of_ble_eq_true rfl⟩) (pX_V hP hK) rfl rfl hl.1 rfl (lv_room (Nat.le_of_ble_eq_true rfl)) dX0_ahead_2 ⟨Nat.zero_le _, Nat.zero_le _⟩) ?_
  refine lv_if_ne (tgt := 16) hx hb dX0_ahead_5 (by decide) (fun _ => ?_) (fun hc => absurd hc (by decide))
  refine lv_aload_n hx hb dX0_ahead_16 rfl (lv_at hl 0 rfl) ?_
  refine va_get (D := G) (ci := 0) (C := RX0) (T := TX0) (N := 5) hx hb hts hin hown hK hP 0 rfl rfl 0 (by decide) (hts _ (tb_cons _ w_fl_X0_9)) (fun _ h9 => h9) rfl dX0_ahead_17 ?_
  refine lv_iload_n hx hb dX0_ahead_20 rfl (lv_at hl 1 rfl) ?_
  refine q_lald hx hb hK hP 1 0 rfl rfl (j) rfl hj (by decide) dX0_ahead_21 ?_
  refine lv_aload_n hx hb dX0_ahead_22 rfl (lv_at hl 0 rfl) ?_
  refine lv_aload_n hx hb dX0_ahead_23 rfl (lv_at hl 0 rfl) ?_
  refine va_get (D := G) (ci := 0) (C := RX0) (T := TX0) (N := 5) hx hb hts hin hown hK hP 0 rfl rfl 4 (by decide) (hts _ (tb_cons _ w_fl_X0_23)) (fun _ h9 => h9) rfl dX0_ahead_24 ?_
  refine rd_call (W.runV (As := [.int (nI sz)]) (rest := [.long (K j)]) S (cx_weightOfFirst l G a C K D Wt O Lf sz hs hO (Nat.le_refl sz)) (cwV 1 hts (gX0_78 tb_cons) rfl rfl rfl (by decide +kernel) ⟨Nat.le_of_ble_eq_true rfl, Nat.le_of_ble_eq_true rfl⟩) (pX_V hP hK) rfl rfl hl.1 rfl (lv_room (Nat.le_of_ble_eq_true rfl)) dX0_ahead_27 ⟨Nat.zero_le _, Nat.zero_le _⟩) ?_
  refine lv_i2l hx hb dX0_ahead_30 rfl ?_
  refine lv_lmul hx hb dX0_ahead_31 ?_
  refine lv_aload_n hx hb dX0_ahead_32 rfl (lv_at hl 0 rfl) ?_
  refine rd_call (W.runV (As := []) (rest := [.long ((K j) * ((ft_sum (fun a b : Int32 => a + b) 0 (fun i => Wt (Lf i)) sz)).toInt64)]) S (cx_sumOfKeysTimesWeights l G a C K D Wt O Lf sz hs hO) (cwV 0 hts (gX0_82 tb_cons) rfl rfl rfl (by decide +kernel) ⟨Nat.le_of_ble_eq_true rfl, Nat.le_of_ble_eq_true rfl⟩) (pX_V hP hK) rfl rfl hl.1 rfl (lv_room (Nat.le_of_ble_eq_true rfl)) dX0_ahead_33 ⟨Nat.zero_le _, Nat.zero_le _⟩) ?_
  refine lv_lsub hx hb dX0_ahead_36 ?_
  exact W.lret hx hb hr (fun t ht _ => ⟨rfl, ht⟩) (fun q h => by cases h) dX0_ahead_37
set_option maxHeartbeats 4000000 in
set_option maxRecDepth 100000 in
theorem cx_weight (l : Launch) (G : va_G) (a : Nat → Nat) (C : Nat → ClassId) (K D : Nat → Int64) (Wt O : Nat → Int32) (Lf : Nat → Nat) (sz : Nat) (hs : sz ≤ 200) (hO : ∀ i, i < sz → O i = nI (Lf i) ∧ Lf i < 200) (key : Int64) : Met l yX0_weight wsX0_weight { frames := 3, cells := 0, slots := 0, locals := 90 } (va_Pc [.ref (a 0), .long key] (rX G a C K D Wt O (nI sz))) (rd_Q (.int (ft_sum (fun a b : Int32 => a + b) 0 (fun i => Wt (Lf i)) (ft_fb (fun i => ft_sb K key 200 (Lf i)) sz 0)))) 0 0 (fun _ => False) := by
  refine q_open (cc := cX0_weight) (maxL := 3) (ret := (some .int)) (by decide) rfl (Nat.le_of_ble_eq_true rfl) ?_
  intro p e s m below meth c ls S hr hlk hB hl
  obtain ⟨hx, hb, hml, hown, hts⟩ := id S
  obtain ⟨hP, hK⟩ := hB
  have hin : ∀ w ∈ u_ws RX0 TX0 5, w ∈ wsX0_weight := fun w h => tb_cons w (hinX0 w h)
  have hl : lv_has ls 3 [(0, .ref (a 0)), (1, .long key)] := hl
  refine lv_aload_n hx hb dX0_weight_0 rfl (lv_at hl 0 rfl) ?_
  refine lv_aload_n hx hb dX0_weight_1 rfl (lv_at hl 0 rfl) ?_
  refine lv_lload_n hx hb dX0_weight_2 rfl (lv_at hl 1 rfl) ?_
  refine rd_call (W.runV (As := [.long key]) (rest := [.ref (a 0)]) S (cx_placesNotAbove l G a C K D Wt O Lf sz hs hO key) (cwV 1 hts (gX0_63 tb_cons) rfl rfl rfl (by decide +kernel) ⟨Nat.le_of_ble_eq_true rfl, Nat.le_of_ble_eq_true rfl⟩) (pX_V hP hK) rfl rfl hl.1 rfl (lv_room (Nat.le_of_ble_eq_true rfl)) dX0_weight_3 ⟨Nat.zero_le _, Nat.zero_le _⟩) ?_
  refine rd_call (W.runV (As := [.int (nI (ft_fb (fun i => ft_sb K key 200 (Lf i)) sz 0))]) (rest := []) S (cx_weightOfFirst l G a C K D Wt O Lf sz hs hO (q := (ft_fb (fun i => ft_sb K key 200 (Lf i)) sz 0)) (by have := (ft_fb_spec (fun i => ft_sb K key 200 (Lf i)) sz 0).2.1; omega)) (cwV 1 hts (gX0_78 tb_cons) rfl rfl rfl (by decide +kernel) ⟨Nat.le_of_ble_eq_true rfl, Nat.le_of_ble_eq_true rfl⟩) (pX_V hP hK) rfl rfl hl.1 rfl (lv_room (Nat.le_of_ble_eq_true rfl)) dX0_weight_6 ⟨Nat.zero_le _, Nat.zero_le _⟩) ?_
  exact W.iret hx hb hr (fun t ht _ => ⟨rfl, ht⟩) (fun q h => by cases h) dX0_weight_9
set_option maxHeartbeats 4000000 in
set_option maxRecDepth 100000 in
theorem cx_count_0 (l : Launch) (G : va_G) (a : Nat → Nat) (C : Nat → ClassId) (K D : Nat → Int64) (Wt O : Nat → Int32) (Lf : Nat → Nat) (sz : Nat) (hs : sz ≤ 200) (hO : ∀ i, i < sz → O i = nI (Lf i) ∧ Lf i < 200) : Met l yX0_count wsX0_count { frames := 3, cells := 0, slots := 0, locals := 90 } (va_Pc [.ref (a 0), .int 0] (rX G a C K D Wt O (nI sz))) (rd_Q (.int (nI sz))) 0 0 (fun _ => False) := by
  refine q_open (cc := cX0_count) (maxL := 2) (ret := (some .int)) (by decide) rfl (Nat.le_of_ble_eq_true rfl) ?_
  intro p e s m below meth c ls S hr hlk hB hl
  obtain ⟨hx, hb, hml, hown, hts⟩ := id S
  obtain ⟨hP, hK⟩ := hB
  have hin : ∀ w ∈ u_ws RX0 TX0 5, w ∈ wsX0_count := fun w h => tb_cons w (hinX0 w h)
  have hl : lv_has ls 2 [(0, .ref (a 0)), (1, .int 0)] := hl
  refine lv_iload_n hx hb dX0_count_0 rfl (lv_at hl 1 rfl) ?_
  refine lv_tableIn (off := 27) (tgt := 28) hx hb dX0_count_1 (by decide) (by decide) (by decide) (by decide) ?_
  refine lv_aload_n hx hb dX0_count_28 rfl (lv_at hl 0 rfl) ?_
  refine va_get (D := G) (ci := 0) (C := RX0) (T := TX0) (N := 5) hx hb hts hin hown hK hP 0 rfl rfl 4 (by decide) (hts _ (tb_cons _ w_fl_X0_23)) (fun _ h9 => h9) rfl dX0_count_29 ?_
  exact W.iret hx hb hr (fun t ht _ => ⟨rfl, ht⟩) (fun q h => by cases h) dX0_count_32
set_option maxHeartbeats 4000000 in
set_option maxRecDepth 100000 in
theorem cx_count_1 (l : Launch) (G : va_G) (a : Nat → Nat) (C : Nat → ClassId) (K D : Nat → Int64) (Wt O : Nat → Int32) (Lf : Nat → Nat) (sz : Nat) (hs : sz ≤ 200) (hO : ∀ i, i < sz → O i = nI (Lf i) ∧ Lf i < 200) : Met l yX0_count wsX0_count { frames := 3, cells := 0, slots := 0, locals := 90 } (va_Pc [.ref (a 0), .int 1] (rX G a C K D Wt O (nI sz))) (rd_Q (.int (ft_sum (fun a b : Int32 => a + b) 0 (fun i => Wt (Lf i)) sz))) 0 0 (fun _ => False) := by
  refine q_open (cc := cX0_count) (maxL := 2) (ret := (some .int)) (by decide) rfl (Nat.le_of_ble_eq_true rfl) ?_
  intro p e s m below meth c ls S hr hlk hB hl
  obtain ⟨hx, hb, hml, hown, hts⟩ := id S
  obtain ⟨hP, hK⟩ := hB
  have hin : ∀ w ∈ u_ws RX0 TX0 5, w ∈ wsX0_count := fun w h => tb_cons w (hinX0 w h)
  have hl : lv_has ls 2 [(0, .ref (a 0)), (1, .int 1)] := hl
  refine lv_iload_n hx hb dX0_count_0 rfl (lv_at hl 1 rfl) ?_
  refine lv_tableIn (off := 32) (tgt := 33) hx hb dX0_count_1 (by decide) (by decide) (by decide) (by decide) ?_
  refine lv_aload_n hx hb dX0_count_33 rfl (lv_at hl 0 rfl) ?_
  refine lv_aload_n hx hb dX0_count_34 rfl (lv_at hl 0 rfl) ?_
  refine va_get (D := G) (ci := 0) (C := RX0) (T := TX0) (N := 5) hx hb hts hin hown hK hP 0 rfl rfl 4 (by decide) (hts _ (tb_cons _ w_fl_X0_23)) (fun _ h9 => h9) rfl dX0_count_35 ?_
  refine rd_call (W.runV (As := [.int (nI sz)]) (rest := []) S (cx_weightOfFirst l G a C K D Wt O Lf sz hs hO (Nat.le_refl sz)) (cwV 1 hts (gX0_78 tb_cons) rfl rfl rfl (by decide +kernel) ⟨Nat.le_of_ble_eq_true rfl, Nat.le_of_ble_eq_true rfl⟩) (pX_V hP hK) rfl rfl hl.1 rfl (lv_room (Nat.le_of_ble_eq_true rfl)) dX0_count_38 ⟨Nat.zero_le _, Nat.zero_le _⟩) ?_
  exact W.iret hx hb hr (fun t ht _ => ⟨rfl, ht⟩) (fun q h => by cases h) dX0_count_41
set_option maxHeartbeats 4000000 in
set_option maxRecDepth 100000 in
theorem cx_count_2 (l : Launch) (G : va_G) (a : Nat → Nat) (C : Nat → ClassId) (K D : Nat → Int64) (Wt O : Nat → Int32) (Lf : Nat → Nat) (sz : Nat) (hs : sz ≤ 200) (hO : ∀ i, i < sz → O i = nI (Lf i) ∧ Lf i < 200) : Met l yX0_count wsX0_count { frames := 3, cells := 0, slots := 0, locals := 90 } (va_Pc [.ref (a 0), .int 2] (rX G a C K D Wt O (nI sz))) (rd_Q (.int (nI (ft_fb (fun i => decide (K (Lf i) * (ft_sum (fun a b : Int32 => a + b) 0 (fun i => Wt (Lf i)) sz).toInt64 ≤ (ft_sum (fun a b : Int64 => a + b) 0 (fun i => K (Lf i) * (Wt (Lf i)).toInt64) sz))) sz 0)))) 0 0 (fun _ => False) := by
  refine q_open (cc := cX0_count) (maxL := 2) (ret := (some .int)) (by decide) rfl (Nat.le_of_ble_eq_true rfl) ?_
  intro p e s m below meth c ls S hr hlk hB hl
  obtain ⟨hx, hb, hml, hown, hts⟩ := id S
  obtain ⟨hP, hK⟩ := hB
  have hin : ∀ w ∈ u_ws RX0 TX0 5, w ∈ wsX0_count := fun w h => tb_cons w (hinX0 w h)
  have hl : lv_has ls 2 [(0, .ref (a 0)), (1, .int 2)] := hl
  refine lv_iload_n hx hb dX0_count_0 rfl (lv_at hl 1 rfl) ?_
  refine lv_tableIn (off := 41) (tgt := 42) hx hb dX0_count_1 (by decide) (by decide) (by decide) (by decide) ?_
  refine lv_aload_n hx hb dX0_count_42 rfl (lv_at hl 0 rfl) ?_
  refine rd_call (W.runV (As := []) (rest := []) S (cx_fairPlaces l G a C K D Wt O Lf sz hs hO) (cwV 0 hts (gX0_74 tb_cons) rfl rfl rfl (by decide +kernel) ⟨Nat.le_of_ble_eq_true rfl, Nat.le_of_ble_eq_true rfl⟩) (pX_V hP hK) rfl rfl hl.1 rfl (lv_room (Nat.le_of_ble_eq_true rfl)) dX0_count_43 ⟨Nat.zero_le _, Nat.zero_le _⟩) ?_
  exact W.iret hx hb hr (fun t ht _ => ⟨rfl, ht⟩) (fun q h => by cases h) dX0_count_46
set_option maxHeartbeats 4000000 in
set_option maxRecDepth 100000 in
theorem cx_count_x (l : Launch) (G : va_G) (a : Nat → Nat) (C : Nat → ClassId) (K D : Nat → Int64) (Wt O : Nat → Int32) (Lf : Nat → Nat) (sz : Nat) (hs : sz ≤ 200) (hO : ∀ i, i < sz → O i = nI (Lf i) ∧ Lf i < 200) {x : Int32} (h : x.toInt < 0 ∨ 2 < x.toInt) : Met l yX0_count wsX0_count { frames := 3, cells := 0, slots := 0, locals := 90 } (va_Pc [.ref (a 0), .int x] (rX G a C K D Wt O (nI sz))) (rd_Q (.int (-1))) 0 0 (fun _ => False) := by
  refine q_open (cc := cX0_count) (maxL := 2) (ret := (some .int)) (by decide) rfl (Nat.le_of_ble_eq_true rfl) ?_
  intro p e s m below meth c ls S hr hlk hB hl
  obtain ⟨hx, hb, hml, hown, hts⟩ := id S
  obtain ⟨hP, hK⟩ := hB
  have hin : ∀ w ∈ u_ws RX0 TX0 5, w ∈ wsX0_count := fun w h => tb_cons w (hinX0 w h)
  have hl : lv_has ls 2 [(0, .ref (a 0)), (1, .int x)] := hl
  refine lv_iload_n hx hb dX0_count_0 rfl (lv_at hl 1 rfl) ?_
  refine lv_tableOut (tgt := 47) hx hb dX0_count_1 (h) (by decide) ?_
  refine lv_iconst (v := (-1)) hx hb dX0_count_47 (by decide) ?_
  exact W.iret hx hb hr (fun t ht _ => ⟨rfl, ht⟩) (fun q h => by cases h) dX0_count_48
set_option maxHeartbeats 4000000 in
set_option maxRecDepth 100000 in
theorem cx_half (l : Launch) (G : va_G) (a : Nat → Nat) (C : Nat → ClassId) (K D : Nat → Int64) (Wt O : Nat → Int32) (Lf : Nat → Nat) (sz : Nat) (hs : sz ≤ 200) (hO : ∀ i, i < sz → O i = nI (Lf i) ∧ Lf i < 200) (hs0 : 0 < sz) : Met l yX0_half wsX0_half { frames := 1, cells := 0, slots := 0, locals := 30 } (va_Pc [.ref (a 0)] (rX G a C K D Wt O (nI sz))) (rd_Q (.int (nI (Lf (ft_fb (fun j => decide ((2 : Int32) * ft_sum (fun a b : Int32 => a + b) 0 (fun j => Wt (Lf j)) (j + 1) < ft_sum (fun a b : Int32 => a + b) 0 (fun j => Wt (Lf j)) sz)) (sz - 1) 0))))) 0 0 (fun _ => False) := by
  refine q_open (cc := cX0_half) (maxL := 4) (ret := (some .int)) (by decide) rfl (Nat.le_of_ble_eq_true rfl) ?_
  intro p e s m below meth c ls S hr hlk hB hl
  obtain ⟨hx, hb, hml, hown, hts⟩ := id S
  obtain ⟨hP, hK⟩ := hB
  have hin : ∀ w ∈ u_ws RX0 TX0 5, w ∈ wsX0_half := fun w h => tb_cons w (hinX0 w h)
  have hl : lv_has ls 4 [(0, .ref (a 0))] := hl
  refine lv_aload_n hx hb dX0_half_0 rfl (lv_at hl 0 rfl) ?_
  refine va_get (D := G) (ci := 0) (C := RX0) (T := TX0) (N := 5) hx hb hts hin hown hK hP 0 rfl rfl 4 (by decide) (hts _ (tb_cons _ w_fl_X0_23)) (fun _ h9 => h9) rfl dX0_half_1 ?_
  refine lv_if_ne (tgt := 15) hx hb dX0_half_4 (by decide) (fun _ => ?_) (fun hc => absurd hc (nI_ne0 hs0 (by omega)))
  refine lv_aload_n hx hb dX0_half_15 rfl (lv_at hl 0 rfl) ?_
  refine lv_aload_n hx hb dX0_half_16 rfl (lv_at hl 0 rfl) ?_
  refine va_get (D := G) (ci := 0) (C := RX0) (T := TX0) (N := 5) hx hb hts hin hown hK hP 0 rfl rfl 4 (by decide) (hts _ (tb_cons _ w_fl_X0_23)) (fun _ h9 => h9) rfl dX0_half_17 ?_
  refine rd_call (W.runV (As := [.int (nI sz)]) (rest := []) S (cx_weightOfFirst l G a C K D Wt O Lf sz hs hO (Nat.le_refl sz)) (cwV 1 hts (gX0_78 tb_cons) rfl rfl rfl (by decide +kernel) ⟨Nat.le_of_ble_eq_true rfl, Nat.le_of_ble_eq_true rfl⟩) (pX_V hP hK) rfl rfl hl.1 rfl (lv_room (Nat.le_of_ble_eq_true rfl)) dX0_half_20 ⟨Nat.zero_le _, Nat.zero_le _⟩) ?_
  refine lv_istore_n hx hb dX0_half_23 rfl hl (by decide) rfl (fun ls hl => ?_)
  have hl : lv_has ls 4 [(1, .int (ft_sum (fun a b : Int32 => a + b) 0 (fun i => Wt (Lf i)) sz)), (0, .ref (a 0))] := hl
  refine lv_iconst (v := 0) hx hb dX0_half_24 (by decide) ?_
  refine lv_istore_n hx hb dX0_half_25 rfl hl (by decide) rfl (fun ls hl => ?_)
  have hl : lv_has ls 4 [(2, .int 0), (1, .int (ft_sum (fun a b : Int32 => a + b) 0 (fun i => Wt (Lf i)) sz)), (0, .ref (a 0))] := hl
  refine lv_aload_n hx hb dX0_half_26 rfl (lv_at hl 2 rfl) ?_
  refine va_get (D := G) (ci := 0) (C := RX0) (T := TX0) (N := 5) hx hb hts hin hown hK hP 0 rfl rfl 2 (by decide) (hts _ (tb_cons _ w_fl_X0_16)) (fun _ h9 => h9) rfl dX0_half_27 ?_
  refine lv_aload_n hx hb dX0_half_30 rfl (lv_at hl 2 rfl) ?_
  refine va_get (D := G) (ci := 0) (C := RX0) (T := TX0) (N := 5) hx hb hts hin hown hK hP 0 rfl rfl 3 (by decide) (hts _ (tb_cons _ w_fl_X0_20)) (fun _ h9 => h9) rfl dX0_half_31 ?_
  refine lv_iconst (v := 0) hx hb dX0_half_34 (by decide) ?_
  refine q_iald hx hb hK hP 4 3 rfl rfl (0) rfl (by omega) (by decide) dX0_half_35 ?_
  refine q_topi (y := nI (Lf 0)) (hO 0 hs0).1 ?_
  refine q_iald hx hb hK hP 3 2 rfl rfl (Lf 0) rfl (hO 0 hs0).2 (by decide) dX0_half_36 ?_
  refine q_topi (y := (ft_sum (fun a b : Int32 => a + b) 0 (fun i => Wt (Lf i)) (0 + 1))) (by show Wt (Lf 0) = 0 + Wt (Lf 0); rw [Int32.zero_add]) ?_
  refine lv_istore_n hx hb dX0_half_37 rfl hl (by decide) rfl (fun ls hl => ?_)
  have hl : lv_has ls 4 [(3, .int (ft_sum (fun a b : Int32 => a + b) 0 (fun i => Wt (Lf i)) (0 + 1))), (2, .int 0), (1, .int (ft_sum (fun a b : Int32 => a + b) 0 (fun i => Wt (Lf i)) sz)), (0, .ref (a 0))] := hl
  have loop : ∀ (k : Nat) (i : Nat), i + k = sz - 1 → ft_fb (fun j => decide ((2 : Int32) * ft_sum (fun a b : Int32 => a + b) 0 (fun j => Wt (Lf j)) (j + 1) < ft_sum (fun a b : Int32 => a + b) 0 (fun j => Wt (Lf j)) sz)) k i = ft_fb (fun j => decide ((2 : Int32) * ft_sum (fun a b : Int32 => a + b) 0 (fun j => Wt (Lf j)) (j + 1) < ft_sum (fun a b : Int32 => a + b) 0 (fun j => Wt (Lf j)) sz)) (sz - 1) 0 → ∀ ls : Array Slot, lv_has ls 4 [(3, .int (ft_sum (fun a b : Int32 => a + b) 0 (fun i => Wt (Lf i)) (i + 1))), (2, .int (nI i)), (1, .int (ft_sum (fun a b : Int32 => a + b) 0 (fun i => Wt (Lf i)) sz)), (0, .ref (a 0))] → W p l e { frames := 1, cells := 0, slots := 0, locals := 30 } s m ([.ref (a 0)] : List Value).toArray below meth c s.heap [] 0 0 (MQ below (rd_Q (.int (nI (Lf (ft_fb (fun j => decide ((2 : Int32) * ft_sum (fun a b : Int32 => a + b) 0 (fun j => Wt (Lf j)) (j + 1) < ft_sum (fun a b : Int32 => a + b) 0 (fun j => Wt (Lf j)) sz)) (sz - 1) 0))))) ([.ref (a 0)] : List Value).toArray s 0 0 (fun _ => False)) (F0 m 38 ls []) := by
    intro k
    induction k with
    | zero =>
      intro i hi hf ls hl
      refine lv_iload_n hx hb dX0_half_38 rfl (lv_at hl 1 rfl) ?_
      refine lv_aload_n hx hb dX0_half_39 rfl (lv_at hl 3 rfl) ?_
      refine va_get (D := G) (ci := 0) (C := RX0) (T := TX0) (N := 5) hx hb hts hin hown hK hP 0 rfl rfl 4 (by decide) (hts _ (tb_cons _ w_fl_X0_23)) (fun _ h9 => h9) rfl dX0_half_40 ?_
      refine lv_iconst (v := 1) hx hb dX0_half_43 (by decide) ?_
      refine lv_isub hx hb dX0_half_44 ?_
      refine q_topi (y := nI (sz - 1)) (q_pred hs0) ?_
      refine lv_icmp_ge (tgt := 75) hx hb dX0_half_45 (by decide) (fun _ => ?_) (fun hc => absurd (nI_le (by omega) (by omega)) hc)
      have hf : i = ft_fb (fun j => decide ((2 : Int32) * ft_sum (fun a b : Int32 => a + b) 0 (fun j => Wt (Lf j)) (j + 1) < ft_sum (fun a b : Int32 => a + b) 0 (fun j => Wt (Lf j)) sz)) (sz - 1) 0 := hf
      refine lv_aload_n hx hb dX0_half_75 rfl (lv_at hl 3 rfl) ?_
      refine va_get (D := G) (ci := 0) (C := RX0) (T := TX0) (N := 5) hx hb hts hin hown hK hP 0 rfl rfl 3 (by decide) (hts _ (tb_cons _ w_fl_X0_20)) (fun _ h9 => h9) rfl dX0_half_76 ?_
      refine lv_iload_n hx hb dX0_half_79 rfl (lv_at hl 1 rfl) ?_
      refine q_iald hx hb hK hP 4 3 rfl rfl (i) rfl (by omega) (by decide) dX0_half_80 ?_
      refine q_topi (y := nI (Lf i)) (hO i (by omega)).1 ?_
      exact W.iret hx hb hr (fun t ht _ => ⟨by rw [← hf], ht⟩) (fun q h => by cases h) dX0_half_81
    | succ k ih =>
      intro i hi hf ls hl
      refine lv_iload_n hx hb dX0_half_38 rfl (lv_at hl 1 rfl) ?_
      refine lv_aload_n hx hb dX0_half_39 rfl (lv_at hl 3 rfl) ?_
      refine va_get (D := G) (ci := 0) (C := RX0) (T := TX0) (N := 5) hx hb hts hin hown hK hP 0 rfl rfl 4 (by decide) (hts _ (tb_cons _ w_fl_X0_23)) (fun _ h9 => h9) rfl dX0_half_40 ?_
      refine lv_iconst (v := 1) hx hb dX0_half_43 (by decide) ?_
      refine lv_isub hx hb dX0_half_44 ?_
      refine q_topi (y := nI (sz - 1)) (q_pred hs0) ?_
      refine lv_icmp_ge (tgt := 75) hx hb dX0_half_45 (by decide) (fun hc => absurd hc (nI_ge (by omega) (by omega))) (fun _ => ?_)
      refine lv_iconst (v := 2) hx hb dX0_half_48 (by decide) ?_
      refine lv_iload_n hx hb dX0_half_49 rfl (lv_at hl 0 rfl) ?_
      refine lv_imul hx hb dX0_half_50 ?_
      refine lv_iload_n hx hb dX0_half_51 rfl (lv_at hl 2 rfl) ?_
      have hf : (if decide ((2 : Int32) * (ft_sum (fun a b : Int32 => a + b) 0 (fun i => Wt (Lf i)) (i + 1)) < (ft_sum (fun a b : Int32 => a + b) 0 (fun i => Wt (Lf i)) sz)) = true then ft_fb (fun j => decide ((2 : Int32) * ft_sum (fun a b : Int32 => a + b) 0 (fun j => Wt (Lf j)) (j + 1) < ft_sum (fun a b : Int32 => a + b) 0 (fun j => Wt (Lf j)) sz)) k (i + 1) else i) = ft_fb (fun j => decide ((2 : Int32) * ft_sum (fun a b : Int32 => a + b) 0 (fun j => Wt (Lf j)) (j + 1) < ft_sum (fun a b : Int32 => a + b) 0 (fun j => Wt (Lf j)) sz)) (sz - 1) 0 := hf
      refine lv_icmp_ge (tgt := 75) hx hb dX0_half_52 (by decide) (fun hq => ?_) (fun hq => ?_)
      · rw [if_neg (fun z => Int32.not_le.mpr (of_decide_eq_true z) hq)] at hf
        refine lv_aload_n hx hb dX0_half_75 rfl (lv_at hl 3 rfl) ?_
        refine va_get (D := G) (ci := 0) (C := RX0) (T := TX0) (N := 5) hx hb hts hin hown hK hP 0 rfl rfl 3 (by decide) (hts _ (tb_cons _ w_fl_X0_20)) (fun _ h9 => h9) rfl dX0_half_76 ?_
        refine lv_iload_n hx hb dX0_half_79 rfl (lv_at hl 1 rfl) ?_
        refine q_iald hx hb hK hP 4 3 rfl rfl (i) rfl (by omega) (by decide) dX0_half_80 ?_
        refine q_topi (y := nI (Lf i)) (hO i (by omega)).1 ?_
        exact W.iret hx hb hr (fun t ht _ => ⟨by rw [← hf], ht⟩) (fun q h => by cases h) dX0_half_81
      · rw [if_pos (decide_eq_true (Int32.not_le.mp hq))] at hf
        refine lv_iinc (k := 1) (v := nI (i + 1)) hx hb dX0_half_55 hl rfl (nI_succ i).symm (by decide) rfl (fun ls hl => ?_)
        have hl : lv_has ls 4 [(2, .int (nI (i + 1))), (3, .int (ft_sum (fun a b : Int32 => a + b) 0 (fun i => Wt (Lf i)) (i + 1))), (1, .int (ft_sum (fun a b : Int32 => a + b) 0 (fun i => Wt (Lf i)) sz)), (0, .ref (a 0))] := hl
        refine lv_iload_n hx hb dX0_half_58 rfl (lv_at hl 1 rfl) ?_
        refine lv_aload_n hx hb dX0_half_59 rfl (lv_at hl 3 rfl) ?_
        refine va_get (D := G) (ci := 0) (C := RX0) (T := TX0) (N := 5) hx hb hts hin hown hK hP 0 rfl rfl 2 (by decide) (hts _ (tb_cons _ w_fl_X0_16)) (fun _ h9 => h9) rfl dX0_half_60 ?_
        refine lv_aload_n hx hb dX0_half_63 rfl (lv_at hl 3 rfl) ?_
        refine va_get (D := G) (ci := 0) (C := RX0) (T := TX0) (N := 5) hx hb hts hin hown hK hP 0 rfl rfl 3 (by decide) (hts _ (tb_cons _ w_fl_X0_20)) (fun _ h9 => h9) rfl dX0_half_64 ?_
        refine lv_iload_n hx hb dX0_half_67 rfl (lv_at hl 0 rfl) ?_
        refine q_iald hx hb hK hP 4 3 rfl rfl (i + 1) rfl (by omega) (by decide) dX0_half_68 ?_
        refine q_topi (y := nI (Lf (i + 1))) (hO (i + 1) (by omega)).1 ?_
        refine q_iald hx hb hK hP 3 2 rfl rfl (Lf (i + 1)) rfl (hO (i + 1) (by omega)).2 (by decide) dX0_half_69 ?_
        refine lv_iadd hx hb dX0_half_70 ?_
        refine lv_istore_n hx hb dX0_half_71 rfl hl (by decide) rfl (fun ls hl => ?_)
        have hl : lv_has ls 4 [(3, .int ((ft_sum (fun a b : Int32 => a + b) 0 (fun i => Wt (Lf i)) (i + 1)) + (Wt (Lf (i + 1))))), (2, .int (nI (i + 1))), (1, .int (ft_sum (fun a b : Int32 => a + b) 0 (fun i => Wt (Lf i)) sz)), (0, .ref (a 0))] := hl
        refine lv_goto (tgt := 38) hx hb dX0_half_72 (by decide) ?_
        exact ih (i + 1) (by omega) hf ls hl
  exact loop (sz - 1) 0 (by omega) rfl ls (lv_sub hl [0, 1, 2, 3] rfl)
set_option maxHeartbeats 4000000 in
set_option maxRecDepth 100000 in
theorem cx_nearest (l : Launch) (G : va_G) (a : Nat → Nat) (C : Nat → ClassId) (K D : Nat → Int64) (Wt O : Nat → Int32) (Lf : Nat → Nat) (sz : Nat) (hs : sz ≤ 200) (hO : ∀ i, i < sz → O i = nI (Lf i) ∧ Lf i < 200) (hs0 : 2 ≤ sz) : Met l yX0_nearest wsX0_nearest { frames := 1, cells := 0, slots := 0, locals := 30 } (va_Pc [.ref (a 0)] (rX G a C K D Wt O (nI sz))) (rd_Q (.long (ft_gf (fun i acc => ft_min acc (K (Lf (i + 2)) - K (Lf (i + 1)))) (K (Lf 1) - K (Lf 0)) (sz - 2)))) 0 0 (fun _ => False) := by
  refine q_open (cc := cX0_nearest) (maxL := 4) (ret := (some .long)) (by decide) rfl (Nat.le_of_ble_eq_true rfl) ?_
  intro p e s m below meth c ls S hr hlk hB hl
  obtain ⟨hx, hb, hml, hown, hts⟩ := id S
  obtain ⟨hP, hK⟩ := hB
  have hin : ∀ w ∈ u_ws RX0 TX0 5, w ∈ wsX0_nearest := fun w h => tb_cons w (hinX0 w h)
  have hl : lv_has ls 4 [(0, .ref (a 0))] := hl
  refine lv_aload_n hx hb dX0_nearest_0 rfl (lv_at hl 0 rfl) ?_
  refine va_get (D := G) (ci := 0) (C := RX0) (T := TX0) (N := 5) hx hb hts hin hown hK hP 0 rfl rfl 4 (by decide) (hts _ (tb_cons _ w_fl_X0_23)) (fun _ h9 => h9) rfl dX0_nearest_1 ?_
  refine lv_iconst (v := 2) hx hb dX0_nearest_4 (by decide) ?_
  refine lv_icmp_ge (tgt := 16) hx hb dX0_nearest_5 (by decide) (fun _ => ?_) (fun hc => absurd (nI_le (a := 2) hs0 (by omega)) hc)
  refine lv_aload_n hx hb dX0_nearest_16 rfl (lv_at hl 0 rfl) ?_
  refine lv_iconst (v := 1) hx hb dX0_nearest_17 (by decide) ?_
  refine q_topi (y := nI 1) rfl ?_
  refine rd_call (W.runV (As := [.int (nI 1)]) (rest := []) S (cx_keyAt l G a C K D Wt O (nI sz) (i := 1) (by omega) (hO (1) (by omega)).1 (hO (1) (by omega)).2) (cwV 1 hts (gX0_53 tb_cons) rfl rfl rfl (by decide +kernel) ⟨Nat.le_of_ble_eq_true rfl, Nat.le_of_ble_eq_true rfl⟩) (pX_V hP hK) rfl rfl hl.1 rfl (lv_room (Nat.le_of_ble_eq_true rfl)) dX0_nearest_18 ⟨Nat.zero_le _, Nat.zero_le _⟩) ?_
  refine lv_aload_n hx hb dX0_nearest_21 rfl (lv_at hl 0 rfl) ?_
  refine lv_iconst (v := 0) hx hb dX0_nearest_22 (by decide) ?_
  refine q_topi (y := nI 0) rfl ?_
  refine rd_call (W.runV (As := [.int (nI 0)]) (rest := [.long (K (Lf 1))]) S (cx_keyAt l G a C K D Wt O (nI sz) (i := 0) (by omega) (hO (0) (by omega)).1 (hO (0) (by omega)).2) (cwV 1 hts (gX0_53 tb_cons) rfl rfl rfl (by decide +kernel) ⟨Nat.le_of_ble_eq_true rfl, Nat.le_of_ble_eq_true rfl⟩) (pX_V hP hK) rfl rfl hl.1 rfl (lv_room (Nat.le_of_ble_eq_true rfl)) dX0_nearest_23 ⟨Nat.zero_le _, Nat.zero_le _⟩) ?_
  refine lv_lsub hx hb dX0_nearest_26 ?_
  refine q_topl (y := (ft_gf (fun i acc => ft_min acc (K (Lf (i + 2)) - K (Lf (i + 1)))) (K (Lf 1) - K (Lf 0)) 0)) rfl ?_
  refine lv_lstore_n hx hb dX0_nearest_27 rfl hl (by decide) rfl (fun ls hl => ?_)
  have hl : lv_has ls 4 [(1, .long (ft_gf (fun i acc => ft_min acc (K (Lf (i + 2)) - K (Lf (i + 1)))) (K (Lf 1) - K (Lf 0)) 0)), (0, .ref (a 0))] := hl
  refine lv_iconst (v := 2) hx hb dX0_nearest_28 (by decide) ?_
  refine q_topi (y := nI (0 + 2)) rfl ?_
  refine lv_istore_n hx hb dX0_nearest_29 rfl hl (by decide) rfl (fun ls hl => ?_)
  have hl : lv_has ls 4 [(3, .int (nI (0 + 2))), (1, .long (ft_gf (fun i acc => ft_min acc (K (Lf (i + 2)) - K (Lf (i + 1)))) (K (Lf 1) - K (Lf 0)) 0)), (0, .ref (a 0))] := hl
  have loop : ∀ (k : Nat) (t : Nat), t + k = sz - 2 → ∀ ls : Array Slot, lv_has ls 4 [(3, .int (nI (t + 2))), (1, .long (ft_gf (fun i acc => ft_min acc (K (Lf (i + 2)) - K (Lf (i + 1)))) (K (Lf 1) - K (Lf 0)) t)), (0, .ref (a 0))] → W p l e { frames := 1, cells := 0, slots := 0, locals := 30 } s m ([.ref (a 0)] : List Value).toArray below meth c s.heap [] 0 0 (MQ below (rd_Q (.long (ft_gf (fun i acc => ft_min acc (K (Lf (i + 2)) - K (Lf (i + 1)))) (K (Lf 1) - K (Lf 0)) (sz - 2)))) ([.ref (a 0)] : List Value).toArray s 0 0 (fun _ => False)) (F0 m 30 ls []) := by
    intro k
    induction k with
    | zero =>
      intro t he ls hl
      refine lv_iload_n hx hb dX0_nearest_30 rfl (lv_at hl 0 rfl) ?_
      refine lv_aload_n hx hb dX0_nearest_31 rfl (lv_at hl 2 rfl) ?_
      refine va_get (D := G) (ci := 0) (C := RX0) (T := TX0) (N := 5) hx hb hts hin hown hK hP 0 rfl rfl 4 (by decide) (hts _ (tb_cons _ w_fl_X0_23)) (fun _ h9 => h9) rfl dX0_nearest_32 ?_
      refine lv_icmp_ge (tgt := 62) hx hb dX0_nearest_35 (by decide) (fun _ => ?_) (fun hc => absurd (nI_le (by omega) (by omega)) hc)
      refine lv_lload_n hx hb dX0_nearest_62 rfl (lv_at hl 1 rfl) ?_
      have he : t = sz - 2 := he
      exact W.lret hx hb hr (fun t ht _ => ⟨by rw [he], ht⟩) (fun q h => by cases h) dX0_nearest_63
    | succ k ih =>
      intro t ht ls hl
      refine lv_iload_n hx hb dX0_nearest_30 rfl (lv_at hl 0 rfl) ?_
      refine lv_aload_n hx hb dX0_nearest_31 rfl (lv_at hl 2 rfl) ?_
      refine va_get (D := G) (ci := 0) (C := RX0) (T := TX0) (N := 5) hx hb hts hin hown hK hP 0 rfl rfl 4 (by decide) (hts _ (tb_cons _ w_fl_X0_23)) (fun _ h9 => h9) rfl dX0_nearest_32 ?_
      refine lv_icmp_ge (tgt := 62) hx hb dX0_nearest_35 (by decide) (fun hc => absurd hc (nI_ge (by omega) (by omega))) (fun _ => ?_)
      refine lv_lload_n hx hb dX0_nearest_38 rfl (lv_at hl 1 rfl) ?_
      refine lv_aload_n hx hb dX0_nearest_39 rfl (lv_at hl 2 rfl) ?_
      refine lv_iload_n hx hb dX0_nearest_40 rfl (lv_at hl 0 rfl) ?_
      refine rd_call (W.runV (As := [.int (nI (t + 2))]) (rest := [.long (ft_gf (fun i acc => ft_min acc (K (Lf (i + 2)) - K (Lf (i + 1)))) (K (Lf 1) - K (Lf 0)) t)]) S (cx_keyAt l G a C K D Wt O (nI sz) (i := t + 2) (by omega) (hO (t + 2) (by omega)).1 (hO (t + 2) (by omega)).2) (cwV 1 hts (gX0_53 tb_cons) rfl rfl rfl (by decide +kernel) ⟨Nat.le_of_ble_eq_true rfl, Nat.le_of_ble_eq_true rfl⟩) (pX_V hP hK) rfl rfl hl.1 rfl (lv_room (Nat.le_of_ble_eq_true rfl)) dX0_nearest_41 ⟨Nat.zero_le _, Nat.zero_le _⟩) ?_
      refine lv_aload_n hx hb dX0_nearest_44 rfl (lv_at hl 2 rfl) ?_
      refine lv_iload_n hx hb dX0_nearest_45 rfl (lv_at hl 0 rfl) ?_
      refine lv_iconst (v := 1) hx hb dX0_nearest_46 (by decide) ?_
      refine lv_isub hx hb dX0_nearest_47 ?_
      refine q_topi (y := nI (t + 1)) (q_pred (by omega)) ?_
      refine rd_call (W.runV (As := [.int (nI (t + 1))]) (rest := [.long (K (Lf (t + 2))), .long (ft_gf (fun i acc => ft_min acc (K (Lf (i + 2)) - K (Lf (i + 1)))) (K (Lf 1) - K (Lf 0)) t)]) S (cx_keyAt l G a C K D Wt O (nI sz) (i := t + 1) (by omega) (hO (t + 1) (by omega)).1 (hO (t + 1) (by omega)).2) (cwV 1 hts (gX0_53 tb_cons) rfl rfl rfl (by decide +kernel) ⟨Nat.le_of_ble_eq_true rfl, Nat.le_of_ble_eq_true rfl⟩) (pX_V hP hK) rfl rfl hl.1 rfl (lv_room (Nat.le_of_ble_eq_true rfl)) dX0_nearest_48 ⟨Nat.zero_le _, Nat.zero_le _⟩) ?_
      refine lv_lsub hx hb dX0_nearest_51 ?_
      refine va_mmin_long hx hb (hml.trans hl.1.symm) hown (hts _ (tb_cons _ w_ml_X0_86)) (hts _ (tb_cons _ w_st_min)) (hts _ (tb_cons _ w_in_Math)) (hts _ (tb_cons _ w_co_min)) (Nat.le_of_ble_eq_true rfl) (Nat.le_of_ble_eq_true rfl) (Nat.zero_le _) (Nat.zero_le _) dX0_nearest_52 ?_
      refine q_topl (y := (ft_gf (fun i acc => ft_min acc (K (Lf (i + 2)) - K (Lf (i + 1)))) (K (Lf 1) - K (Lf 0)) (t + 1))) rfl ?_
      refine lv_lstore_n hx hb dX0_nearest_55 rfl hl (by decide) rfl (fun ls hl => ?_)
      have hl : lv_has ls 4 [(1, .long (ft_gf (fun i acc => ft_min acc (K (Lf (i + 2)) - K (Lf (i + 1)))) (K (Lf 1) - K (Lf 0)) (t + 1))), (3, .int (nI (t + 2))), (0, .ref (a 0))] := hl
      refine lv_iinc (k := 1) (v := nI (t + 1 + 2)) hx hb dX0_nearest_56 hl rfl (nI_succ (t + 2)).symm (by decide) rfl (fun ls hl => ?_)
      have hl : lv_has ls 4 [(3, .int (nI (t + 1 + 2))), (1, .long (ft_gf (fun i acc => ft_min acc (K (Lf (i + 2)) - K (Lf (i + 1)))) (K (Lf 1) - K (Lf 0)) (t + 1))), (0, .ref (a 0))] := hl
      refine lv_goto (tgt := 30) hx hb dX0_nearest_59 (by decide) ?_
      exact ih (t + 1) (by omega) ls (lv_sub hl [0, 1, 2] rfl)
  exact loop (sz - 2) 0 (by omega) ls hl
end
section
set_option maxHeartbeats 4000000 in
set_option maxRecDepth 100000 in
theorem cx_drop (l : Launch) (G : va_G) (a : Nat → Nat) (C : Nat → ClassId) {A : Nat → Prop} (hD : ∀ K D Wt O n, va_D A (wX a C K D Wt O n)) (K D : Nat → Int64) (Wt O : Nat → Int32) (Lf : Nat → Nat) (sz : Nat) (hs : sz ≤ 200) (hO : ∀ i, i < sz → O i = nI (Lf i) ∧ Lf i < 200) {j : Nat} (hj : j < 200) (ht : 0 < Wt j) (hq : (ft_fb (fun i => ft_sb K (K j) (nI j) (Lf i)) sz 0) < sz) : Met l yX0_drop wsX0_drop { frames := 3, cells := 0, slots := 0, locals := 90 } (va_Pc [.ref (a 0), .int (nI j)] (rX G a C K D Wt O (nI sz))) (wr_Q G vwCl (some (.int (Wt j))) (wX a C K D (ft_zr Lf 1 (ft_fb (fun i => ft_sb K (K j) (nI j) (Lf i)) sz 0) Wt) (va_cpy O O ((ft_fb (fun i => ft_sb K (K j) (nI j) (Lf i)) sz 0) + 1) (ft_fb (fun i => ft_sb K (K j) (nI j) (Lf i)) sz 0) (sz - ((ft_fb (fun i => ft_sb K (K j) (nI j) (Lf i)) sz 0) + 1))) (nI (sz - 1))) A) 0 0 A := by
  refine q_open (cc := cX0_drop) (maxL := 3) (ret := (some .int)) (by decide) rfl (Nat.le_of_ble_eq_true rfl) ?_
  intro p e s m below meth c ls S hr hlk hB hl
  obtain ⟨hx, hb, hml, hown, hts⟩ := id S
  obtain ⟨hP, hK⟩ := hB
  have hin : ∀ w ∈ u_ws RX0 TX0 5, w ∈ wsX0_drop := fun w h => tb_cons w (hinX0 w h)
  have hS : va_S A s.heap s.heap [] := va_S.rf
  have hl : lv_has ls 3 [(0, .ref (a 0)), (1, .int (nI j))] := hl
  refine lv_aload_n hx hb dX0_drop_0 rfl (lv_at hl 0 rfl) ?_
  refine lv_iload_n hx hb dX0_drop_1 rfl (lv_at hl 1 rfl) ?_
  refine rd_call (W.runV (As := [.int (nI j)]) (rest := []) S (cx_isThere_yes l G a C K D Wt O (nI sz) hj ht) (cwV 1 hts (gX0_38 tb_cons) rfl rfl rfl (by decide +kernel) ⟨Nat.le_of_ble_eq_true rfl, Nat.le_of_ble_eq_true rfl⟩) (pX_V hP hK) rfl rfl hl.1 rfl (lv_room (Nat.le_of_ble_eq_true rfl)) dX0_drop_2 ⟨Nat.zero_le _, Nat.zero_le _⟩) ?_
  refine lv_if_ne (tgt := 16) hx hb dX0_drop_5 (by decide) (fun _ => ?_) (fun hc => absurd hc (by decide))
  refine lv_aload_n hx hb dX0_drop_16 rfl (lv_at hl 0 rfl) ?_
  refine va_get (D := G) (ci := 0) (C := RX0) (T := TX0) (N := 5) hx hb hts hin hown hK hP 0 rfl rfl 2 (by decide) (hts _ (tb_cons _ w_fl_X0_16)) (fun _ h9 => h9) rfl dX0_drop_17 ?_
  refine lv_iload_n hx hb dX0_drop_20 rfl (lv_at hl 1 rfl) ?_
  refine q_iald hx hb hK hP 3 2 rfl rfl (j) rfl hj (by decide) dX0_drop_21 ?_
  refine lv_istore_n hx hb dX0_drop_22 rfl hl (by decide) rfl (fun ls hl => ?_)
  have hl : lv_has ls 3 [(2, .int (Wt j)), (0, .ref (a 0)), (1, .int (nI j))] := hl
  refine lv_aload_n hx hb dX0_drop_23 rfl (lv_at hl 1 rfl) ?_
  refine lv_iload_n hx hb dX0_drop_24 rfl (lv_at hl 2 rfl) ?_
  refine wr_call (W.runV (As := [.int (nI j)]) (rest := []) S (cx_removeItem l G a C hD K D Wt O Lf sz hs hO hj hq) (cwV 1 hts (gX0_41 tb_cons) rfl rfl rfl (by decide +kernel) ⟨Nat.le_of_ble_eq_true rfl, Nat.le_of_ble_eq_true rfl⟩) (pX_V hP hK) rfl rfl hl.1 rfl (lv_room (Nat.le_of_ble_eq_true rfl)) dX0_drop_25 ⟨Nat.zero_le _, Nat.zero_le _⟩) hS (fun _ h => h) (fun H locs hP hS _ _ => ?_)
  have hP : va_P G vwCl (wX a C K D (ft_zr Lf 1 (ft_fb (fun i => ft_sb K (K j) (nI j) (Lf i)) sz 0) Wt) (va_cpy O O ((ft_fb (fun i => ft_sb K (K j) (nI j) (Lf i)) sz 0) + 1) (ft_fb (fun i => ft_sb K (K j) (nI j) (Lf i)) sz 0) (sz - ((ft_fb (fun i => ft_sb K (K j) (nI j) (Lf i)) sz 0) + 1))) (nI (sz - 1))) H := hP
  refine W.eq (g2 := F0 m 28 ls []) rfl ?_
  refine lv_iload_n hx hb dX0_drop_28 rfl (lv_at hl 0 rfl) ?_
  exact W.iret hx hb hr (fun t ht _ => ⟨rfl, by rw [ht]; exact hP, hS.F ht⟩) hS.2.2 dX0_drop_29
set_option maxHeartbeats 4000000 in
set_option maxRecDepth 100000 in
theorem cx_put_new (l : Launch) (G : va_G) (a : Nat → Nat) (C : Nat → ClassId) {A : Nat → Prop} (hD : ∀ K D Wt O n, va_D A (wX a C K D Wt O n)) (K D : Nat → Int64) (Wt O : Nat → Int32) (Lf : Nat → Nat) (sz : Nat) (hs : sz ≤ 200) (hO : ∀ i, i < sz → O i = nI (Lf i) ∧ Lf i < 200) {j : Nat} (hj : j < 200) {key due : Int64} {x : Int32} (hk : ¬ key < (-1099511627776) ∧ ¬ 1099511627776 < key) (h1 : ¬ x < 1) (h2 : x ≤ 1000) (ht : Wt j ≤ 0) (hz : sz < 200) : Met l yX0_put wsX0_put { frames := 3, cells := 0, slots := 0, locals := 90 } (va_Pc [.ref (a 0), .int (nI j), .long key, .long due, .int x] (rX G a C K D Wt O (nI sz))) (wr_Q G vwCl (some (.int (nI (sz + 1)))) (wX a C (vp_updL K j key) (vp_updL D j due) (upd Wt j x) (upd (va_cpy O O (ft_fb (fun i => ft_sb (vp_updL K j key) ((vp_updL K j key) j) (nI j) (Lf i)) sz 0) ((ft_fb (fun i => ft_sb (vp_updL K j key) ((vp_updL K j key) j) (nI j) (Lf i)) sz 0) + 1) (sz - (ft_fb (fun i => ft_sb (vp_updL K j key) ((vp_updL K j key) j) (nI j) (Lf i)) sz 0))) (ft_fb (fun i => ft_sb (vp_updL K j key) ((vp_updL K j key) j) (nI j) (Lf i)) sz 0) (nI j)) (nI (sz + 1))) A) 0 0 A := by
  refine q_open (cc := cX0_put) (maxL := 7) (ret := (some .int)) (by decide) rfl (Nat.le_of_ble_eq_true rfl) ?_
  intro p e s m below meth c ls S hr hlk hB hl
  obtain ⟨hx, hb, hml, hown, hts⟩ := id S
  obtain ⟨hP, hK⟩ := hB
  have hin : ∀ w ∈ u_ws RX0 TX0 5, w ∈ wsX0_put := fun w h => tb_cons w (hinX0 w h)
  have hS : va_S A s.heap s.heap [] := va_S.rf
  have hl : lv_has ls 7 [(0, .ref (a 0)), (1, .int (nI j)), (2, .long key), (4, .long due), (6, .int x)] := hl
  refine lv_iload_n hx hb dX0_put_0 rfl (lv_at hl 1 rfl) ?_
  refine rd_call (W.runS (As := [.int (nI j)]) (rest := []) S (cx_isNumber_in l hj) (cwS 1 hts (gX0_27 tb_cons) rfl rfl rfl (by decide +kernel) ⟨Nat.le_of_ble_eq_true rfl, Nat.le_of_ble_eq_true rfl⟩) ⟨fun _ _ _ _ q => q, fun U _ _ => ⟨rfl, trivial⟩⟩ rfl rfl hl.1 rfl (lv_room (Nat.le_of_ble_eq_true rfl)) dX0_put_1 ⟨Nat.zero_le _, Nat.zero_le _⟩) ?_
  refine lv_if_eq (tgt := 28) hx hb dX0_put_4 (by decide) (fun hc => absurd hc (by decide)) (fun _ => ?_)
  refine lv_lload_n hx hb dX0_put_7 rfl (lv_at hl 2 rfl) ?_
  refine rd_call (W.runS (As := [.long key]) (rest := []) S (cx_mayBePut_in l hk) (cwS 1 hts (gX0_31 tb_cons) rfl rfl rfl (by decide +kernel) ⟨Nat.le_of_ble_eq_true rfl, Nat.le_of_ble_eq_true rfl⟩) ⟨fun _ _ _ _ q => q, fun U _ _ => ⟨rfl, trivial⟩⟩ rfl rfl hl.1 rfl (lv_room (Nat.le_of_ble_eq_true rfl)) dX0_put_8 ⟨Nat.zero_le _, Nat.zero_le _⟩) ?_
  refine lv_if_eq (tgt := 28) hx hb dX0_put_11 (by decide) (fun hc => absurd hc (by decide)) (fun _ => ?_)
  refine lv_iload hx hb dX0_put_14 (lv_at hl 4 rfl) ?_
  refine lv_iconst (v := 1) hx hb dX0_put_16 (by decide) ?_
  refine lv_icmp_lt (tgt := 28) hx hb dX0_put_17 (by decide) (fun hc => absurd hc (h1)) (fun _ => ?_)
  refine lv_iload hx hb dX0_put_20 (lv_at hl 4 rfl) ?_
  refine lv_sipush (v := 1000) hx hb dX0_put_22 (by decide) ?_
  refine lv_icmp_le (tgt := 36) hx hb dX0_put_25 (by decide) (fun _ => ?_) (fun hc => absurd (h2) hc)
  refine lv_aload_n hx hb dX0_put_36 rfl (lv_at hl 0 rfl) ?_
  refine lv_iload_n hx hb dX0_put_37 rfl (lv_at hl 1 rfl) ?_
  refine rd_call (W.runV (As := [.int (nI j)]) (rest := []) S (cx_isThere_no l G a C K D Wt O (nI sz) hj ht) (cwV 1 hts (gX0_38 tb_cons) rfl rfl rfl (by decide +kernel) ⟨Nat.le_of_ble_eq_true rfl, Nat.le_of_ble_eq_true rfl⟩) (pX_V hP hK) rfl rfl hl.1 rfl (lv_room (Nat.le_of_ble_eq_true rfl)) dX0_put_38 ⟨Nat.zero_le _, Nat.zero_le _⟩) ?_
  refine lv_if_eq (tgt := 49) hx hb dX0_put_41 (by decide) (fun _ => ?_) (fun hc => absurd (rfl) hc)
  refine lv_aload_n hx hb dX0_put_49 rfl (lv_at hl 0 rfl) ?_
  refine va_get (D := G) (ci := 0) (C := RX0) (T := TX0) (N := 5) hx hb hts hin hown hK hP 0 rfl rfl 0 (by decide) (hts _ (tb_cons _ w_fl_X0_9)) (fun _ h9 => h9) rfl dX0_put_50 ?_
  refine lv_iload_n hx hb dX0_put_53 rfl (lv_at hl 1 rfl) ?_
  refine lv_lload_n hx hb dX0_put_54 rfl (lv_at hl 2 rfl) ?_
  refine q_last hx hb hK hP (hD _ _ _ _ _) hS 1 0 rfl rfl (j) rfl hj (by decide) dX0_put_55 (fun H locs hP hS => ?_)
  have hP : va_P G vwCl (wX a C (vp_updL K j key) D Wt O (nI sz)) H := hP
  refine lv_aload_n hx hb dX0_put_56 rfl (lv_at hl 0 rfl) ?_
  refine va_get (D := G) (ci := 0) (C := RX0) (T := TX0) (N := 5) hx hb hts hin hown hK hP 0 rfl rfl 1 (by decide) (hts _ (tb_cons _ w_fl_X0_13)) (fun _ h9 => h9) rfl dX0_put_57 ?_
  refine lv_iload_n hx hb dX0_put_60 rfl (lv_at hl 1 rfl) ?_
  refine lv_lload hx hb dX0_put_61 (lv_at hl 3 rfl) ?_
  refine q_last hx hb hK hP (hD _ _ _ _ _) hS 2 1 rfl rfl (j) rfl hj (by decide) dX0_put_63 (fun H locs hP hS => ?_)
  have hP : va_P G vwCl (wX a C (vp_updL K j key) (vp_updL D j due) Wt O (nI sz)) H := hP
  refine lv_aload_n hx hb dX0_put_64 rfl (lv_at hl 0 rfl) ?_
  refine va_get (D := G) (ci := 0) (C := RX0) (T := TX0) (N := 5) hx hb hts hin hown hK hP 0 rfl rfl 2 (by decide) (hts _ (tb_cons _ w_fl_X0_16)) (fun _ h9 => h9) rfl dX0_put_65 ?_
  refine lv_iload_n hx hb dX0_put_68 rfl (lv_at hl 1 rfl) ?_
  refine lv_iload hx hb dX0_put_69 (lv_at hl 4 rfl) ?_
  refine q_iast hx hb hK hP (hD _ _ _ _ _) hS 3 2 rfl rfl (j) rfl hj (by decide) dX0_put_71 (fun H locs hP hS => ?_)
  have hP : va_P G vwCl (wX a C (vp_updL K j key) (vp_updL D j due) (upd Wt j x) O (nI sz)) H := hP
  refine lv_aload_n hx hb dX0_put_72 rfl (lv_at hl 0 rfl) ?_
  refine lv_iload_n hx hb dX0_put_73 rfl (lv_at hl 1 rfl) ?_
  refine wr_call (W.runV (As := [.int (nI j)]) (rest := []) S (cx_insertItem l G a C hD (vp_updL K j key) (vp_updL D j due) (upd Wt j x) O Lf sz hs hO hj hz) (cwV 1 hts (gX0_45 tb_cons) rfl rfl rfl (by decide +kernel) ⟨Nat.le_of_ble_eq_true rfl, Nat.le_of_ble_eq_true rfl⟩) (pX_V hP hK) rfl rfl hl.1 rfl (lv_room (Nat.le_of_ble_eq_true rfl)) dX0_put_74 ⟨Nat.zero_le _, Nat.zero_le _⟩) hS (fun _ h => h) (fun H locs hP hS _ _ => ?_)
  have hP : va_P G vwCl (wX a C (vp_updL K j key) (vp_updL D j due) (upd Wt j x) (upd (va_cpy O O (ft_fb (fun i => ft_sb (vp_updL K j key) ((vp_updL K j key) j) (nI j) (Lf i)) sz 0) ((ft_fb (fun i => ft_sb (vp_updL K j key) ((vp_updL K j key) j) (nI j) (Lf i)) sz 0) + 1) (sz - (ft_fb (fun i => ft_sb (vp_updL K j key) ((vp_updL K j key) j) (nI j) (Lf i)) sz 0))) (ft_fb (fun i => ft_sb (vp_updL K j key) ((vp_updL K j key) j) (nI j) (Lf i)) sz 0) (nI j)) (nI (sz + 1))) H := hP
  refine W.eq (g2 := F0 m 77 ls []) rfl ?_
  refine lv_aload_n hx hb dX0_put_77 rfl (lv_at hl 0 rfl) ?_
  refine va_get (D := G) (ci := 0) (C := RX0) (T := TX0) (N := 5) hx hb hts hin hown hK hP 0 rfl rfl 4 (by decide) (hts _ (tb_cons _ w_fl_X0_23)) (fun _ h9 => h9) rfl dX0_put_78 ?_
  exact W.iret hx hb hr (fun t ht _ => ⟨rfl, by rw [ht]; exact hP, hS.F ht⟩) hS.2.2 dX0_put_81
set_option maxHeartbeats 4000000 in
set_option maxRecDepth 100000 in
theorem cx_put_old (l : Launch) (G : va_G) (a : Nat → Nat) (C : Nat → ClassId) {A : Nat → Prop} (hD : ∀ K D Wt O n, va_D A (wX a C K D Wt O n)) (K D : Nat → Int64) (Wt O : Nat → Int32) (Lf : Nat → Nat) (sz : Nat) (hs : sz ≤ 200) (hO : ∀ i, i < sz → O i = nI (Lf i) ∧ Lf i < 200) {j : Nat} (hj : j < 200) {key due : Int64} {x : Int32} (hk : ¬ key < (-1099511627776) ∧ ¬ 1099511627776 < key) (h1 : ¬ x < 1) (h2 : x ≤ 1000) (ht : 0 < Wt j) (hq : (ft_fb (fun i => ft_sb K (K j) (nI j) (Lf i)) sz 0) < sz) : Met l yX0_put wsX0_put { frames := 3, cells := 0, slots := 0, locals := 90 } (va_Pc [.ref (a 0), .int (nI j), .long key, .long due, .int x] (rX G a C K D Wt O (nI sz))) (wr_Q G vwCl (some (.int (nI (sz - 1 + 1)))) (wX a C (vp_updL K j key) (vp_updL D j due) (upd (ft_zr Lf 1 (ft_fb (fun i => ft_sb K (K j) (nI j) (Lf i)) sz 0) Wt) j x) (upd (va_cpy (va_cpy O O ((ft_fb (fun i => ft_sb K (K j) (nI j) (Lf i)) sz 0) + 1) (ft_fb (fun i => ft_sb K (K j) (nI j) (Lf i)) sz 0) (sz - ((ft_fb (fun i => ft_sb K (K j) (nI j) (Lf i)) sz 0) + 1))) (va_cpy O O ((ft_fb (fun i => ft_sb K (K j) (nI j) (Lf i)) sz 0) + 1) (ft_fb (fun i => ft_sb K (K j) (nI j) (Lf i)) sz 0) (sz - ((ft_fb (fun i => ft_sb K (K j) (nI j) (Lf i)) sz 0) + 1))) (ft_fb (fun i => ft_sb (vp_updL K j key) ((vp_updL K j key) j) (nI j) ((ft_rm Lf (ft_fb (fun i => ft_sb K (K j) (nI j) (Lf i)) sz 0) ((ft_fb (fun i => ft_sb K (K j) (nI j) (Lf i)) sz 0) + 1)) i)) (sz - 1) 0) ((ft_fb (fun i => ft_sb (vp_updL K j key) ((vp_updL K j key) j) (nI j) ((ft_rm Lf (ft_fb (fun i => ft_sb K (K j) (nI j) (Lf i)) sz 0) ((ft_fb (fun i => ft_sb K (K j) (nI j) (Lf i)) sz 0) + 1)) i)) (sz - 1) 0) + 1) ((sz - 1) - (ft_fb (fun i => ft_sb (vp_updL K j key) ((vp_updL K j key) j) (nI j) ((ft_rm Lf (ft_fb (fun i => ft_sb K (K j) (nI j) (Lf i)) sz 0) ((ft_fb (fun i => ft_sb K (K j) (nI j) (Lf i)) sz 0) + 1)) i)) (sz - 1) 0))) (ft_fb (fun i => ft_sb (vp_updL K j key) ((vp_updL K j key) j) (nI j) ((ft_rm Lf (ft_fb (fun i => ft_sb K (K j) (nI j) (Lf i)) sz 0) ((ft_fb (fun i => ft_sb K (K j) (nI j) (Lf i)) sz 0) + 1)) i)) (sz - 1) 0) (nI j)) (nI ((sz - 1) + 1))) A) 0 0 A := by
  refine q_open (cc := cX0_put) (maxL := 7) (ret := (some .int)) (by decide) rfl (Nat.le_of_ble_eq_true rfl) ?_
  intro p e s m below meth c ls S hr hlk hB hl
  obtain ⟨hx, hb, hml, hown, hts⟩ := id S
  obtain ⟨hP, hK⟩ := hB
  have hin : ∀ w ∈ u_ws RX0 TX0 5, w ∈ wsX0_put := fun w h => tb_cons w (hinX0 w h)
  have hS : va_S A s.heap s.heap [] := va_S.rf
  have hl : lv_has ls 7 [(0, .ref (a 0)), (1, .int (nI j)), (2, .long key), (4, .long due), (6, .int x)] := hl
  refine lv_iload_n hx hb dX0_put_0 rfl (lv_at hl 1 rfl) ?_
  refine rd_call (W.runS (As := [.int (nI j)]) (rest := []) S (cx_isNumber_in l hj) (cwS 1 hts (gX0_27 tb_cons) rfl rfl rfl (by decide +kernel) ⟨Nat.le_of_ble_eq_true rfl, Nat.le_of_ble_eq_true rfl⟩) ⟨fun _ _ _ _ q => q, fun U _ _ => ⟨rfl, trivial⟩⟩ rfl rfl hl.1 rfl (lv_room (Nat.le_of_ble_eq_true rfl)) dX0_put_1 ⟨Nat.zero_le _, Nat.zero_le _⟩) ?_
  refine lv_if_eq (tgt := 28) hx hb dX0_put_4 (by decide) (fun hc => absurd hc (by decide)) (fun _ => ?_)
  refine lv_lload_n hx hb dX0_put_7 rfl (lv_at hl 2 rfl) ?_
  refine rd_call (W.runS (As := [.long key]) (rest := []) S (cx_mayBePut_in l hk) (cwS 1 hts (gX0_31 tb_cons) rfl rfl rfl (by decide +kernel) ⟨Nat.le_of_ble_eq_true rfl, Nat.le_of_ble_eq_true rfl⟩) ⟨fun _ _ _ _ q => q, fun U _ _ => ⟨rfl, trivial⟩⟩ rfl rfl hl.1 rfl (lv_room (Nat.le_of_ble_eq_true rfl)) dX0_put_8 ⟨Nat.zero_le _, Nat.zero_le _⟩) ?_
  refine lv_if_eq (tgt := 28) hx hb dX0_put_11 (by decide) (fun hc => absurd hc (by decide)) (fun _ => ?_)
  refine lv_iload hx hb dX0_put_14 (lv_at hl 4 rfl) ?_
  refine lv_iconst (v := 1) hx hb dX0_put_16 (by decide) ?_
  refine lv_icmp_lt (tgt := 28) hx hb dX0_put_17 (by decide) (fun hc => absurd hc (h1)) (fun _ => ?_)
  refine lv_iload hx hb dX0_put_20 (lv_at hl 4 rfl) ?_
  refine lv_sipush (v := 1000) hx hb dX0_put_22 (by decide) ?_
  refine lv_icmp_le (tgt := 36) hx hb dX0_put_25 (by decide) (fun _ => ?_) (fun hc => absurd (h2) hc)
  refine lv_aload_n hx hb dX0_put_36 rfl (lv_at hl 0 rfl) ?_
  refine lv_iload_n hx hb dX0_put_37 rfl (lv_at hl 1 rfl) ?_
  refine rd_call (W.runV (As := [.int (nI j)]) (rest := []) S (cx_isThere_yes l G a C K D Wt O (nI sz) hj ht) (cwV 1 hts (gX0_38 tb_cons) rfl rfl rfl (by decide +kernel) ⟨Nat.le_of_ble_eq_true rfl, Nat.le_of_ble_eq_true rfl⟩) (pX_V hP hK) rfl rfl hl.1 rfl (lv_room (Nat.le_of_ble_eq_true rfl)) dX0_put_38 ⟨Nat.zero_le _, Nat.zero_le _⟩) ?_
  refine lv_if_eq (tgt := 49) hx hb dX0_put_41 (by decide) (fun hc => absurd hc (by decide)) (fun _ => ?_)
  refine lv_aload_n hx hb dX0_put_44 rfl (lv_at hl 0 rfl) ?_
  refine lv_iload_n hx hb dX0_put_45 rfl (lv_at hl 1 rfl) ?_
  refine wr_call (W.runV (As := [.int (nI j)]) (rest := []) S (cx_removeItem l G a C hD K D Wt O Lf sz hs hO hj hq) (cwV 1 hts (gX0_41 tb_cons) rfl rfl rfl (by decide +kernel) ⟨Nat.le_of_ble_eq_true rfl, Nat.le_of_ble_eq_true rfl⟩) (pX_V hP hK) rfl rfl hl.1 rfl (lv_room (Nat.le_of_ble_eq_true rfl)) dX0_put_46 ⟨Nat.zero_le _, Nat.zero_le _⟩) hS (fun _ h => h) (fun H locs hP hS _ _ => ?_)
  have hP : va_P G vwCl (wX a C K D (ft_zr Lf 1 (ft_fb (fun i => ft_sb K (K j) (nI j) (Lf i)) sz 0) Wt) (va_cpy O O ((ft_fb (fun i => ft_sb K (K j) (nI j) (Lf i)) sz 0) + 1) (ft_fb (fun i => ft_sb K (K j) (nI j) (Lf i)) sz 0) (sz - ((ft_fb (fun i => ft_sb K (K j) (nI j) (Lf i)) sz 0) + 1))) (nI (sz - 1))) H := hP
  refine W.eq (g2 := F0 m 49 ls []) rfl ?_
  have hO1 : ∀ i, i < sz - 1 → (va_cpy O O ((ft_fb (fun i => ft_sb K (K j) (nI j) (Lf i)) sz 0) + 1) (ft_fb (fun i => ft_sb K (K j) (nI j) (Lf i)) sz 0) (sz - ((ft_fb (fun i => ft_sb K (K j) (nI j) (Lf i)) sz 0) + 1))) i = nI ((ft_rm Lf (ft_fb (fun i => ft_sb K (K j) (nI j) (Lf i)) sz 0) ((ft_fb (fun i => ft_sb K (K j) (nI j) (Lf i)) sz 0) + 1)) i) ∧ (ft_rm Lf (ft_fb (fun i => ft_sb K (K j) (nI j) (Lf i)) sz 0) ((ft_fb (fun i => ft_sb K (K j) (nI j) (Lf i)) sz 0) + 1)) i < 200 := by
    have q := hO_rm hO (a := (ft_fb (fun i => ft_sb K (K j) (nI j) (Lf i)) sz 0)) (b := (ft_fb (fun i => ft_sb K (K j) (nI j) (Lf i)) sz 0) + 1) (by omega) (by omega)
    rw [Nat.add_sub_cancel_left] at q
    intro i hi
    have z := q i hi
    exact z
  refine lv_aload_n hx hb dX0_put_49 rfl (lv_at hl 0 rfl) ?_
  refine va_get (D := G) (ci := 0) (C := RX0) (T := TX0) (N := 5) hx hb hts hin hown hK hP 0 rfl rfl 0 (by decide) (hts _ (tb_cons _ w_fl_X0_9)) (fun _ h9 => h9) rfl dX0_put_50 ?_
  refine lv_iload_n hx hb dX0_put_53 rfl (lv_at hl 1 rfl) ?_
  refine lv_lload_n hx hb dX0_put_54 rfl (lv_at hl 2 rfl) ?_
  refine q_last hx hb hK hP (hD _ _ _ _ _) hS 1 0 rfl rfl (j) rfl hj (by decide) dX0_put_55 (fun H locs hP hS => ?_)
  have hP : va_P G vwCl (wX a C (vp_updL K j key) D (ft_zr Lf 1 (ft_fb (fun i => ft_sb K (K j) (nI j) (Lf i)) sz 0) Wt) (va_cpy O O ((ft_fb (fun i => ft_sb K (K j) (nI j) (Lf i)) sz 0) + 1) (ft_fb (fun i => ft_sb K (K j) (nI j) (Lf i)) sz 0) (sz - ((ft_fb (fun i => ft_sb K (K j) (nI j) (Lf i)) sz 0) + 1))) (nI (sz - 1))) H := hP
  refine lv_aload_n hx hb dX0_put_56 rfl (lv_at hl 0 rfl) ?_
  refine va_get (D := G) (ci := 0) (C := RX0) (T := TX0) (N := 5) hx hb hts hin hown hK hP 0 rfl rfl 1 (by decide) (hts _ (tb_cons _ w_fl_X0_13)) (fun _ h9 => h9) rfl dX0_put_57 ?_
  refine lv_iload_n hx hb dX0_put_60 rfl (lv_at hl 1 rfl) ?_
  refine lv_lload hx hb dX0_put_61 (lv_at hl 3 rfl) ?_
  refine q_last hx hb hK hP (hD _ _ _ _ _) hS 2 1 rfl rfl (j) rfl hj (by decide) dX0_put_63 (fun H locs hP hS => ?_)
  have hP : va_P G vwCl (wX a C (vp_updL K j key) (vp_updL D j due) (ft_zr Lf 1 (ft_fb (fun i => ft_sb K (K j) (nI j) (Lf i)) sz 0) Wt) (va_cpy O O ((ft_fb (fun i => ft_sb K (K j) (nI j) (Lf i)) sz 0) + 1) (ft_fb (fun i => ft_sb K (K j) (nI j) (Lf i)) sz 0) (sz - ((ft_fb (fun i => ft_sb K (K j) (nI j) (Lf i)) sz 0) + 1))) (nI (sz - 1))) H := hP
  refine lv_aload_n hx hb dX0_put_64 rfl (lv_at hl 0 rfl) ?_
  refine va_get (D := G) (ci := 0) (C := RX0) (T := TX0) (N := 5) hx hb hts hin hown hK hP 0 rfl rfl 2 (by decide) (hts _ (tb_cons _ w_fl_X0_16)) (fun _ h9 => h9) rfl dX0_put_65 ?_
  refine lv_iload_n hx hb dX0_put_68 rfl (lv_at hl 1 rfl) ?_
  refine lv_iload hx hb dX0_put_69 (lv_at hl 4 rfl) ?_
  refine q_iast hx hb hK hP (hD _ _ _ _ _) hS 3 2 rfl rfl (j) rfl hj (by decide) dX0_put_71 (fun H locs hP hS => ?_)
  have hP : va_P G vwCl (wX a C (vp_updL K j key) (vp_updL D j due) (upd (ft_zr Lf 1 (ft_fb (fun i => ft_sb K (K j) (nI j) (Lf i)) sz 0) Wt) j x) (va_cpy O O ((ft_fb (fun i => ft_sb K (K j) (nI j) (Lf i)) sz 0) + 1) (ft_fb (fun i => ft_sb K (K j) (nI j) (Lf i)) sz 0) (sz - ((ft_fb (fun i => ft_sb K (K j) (nI j) (Lf i)) sz 0) + 1))) (nI (sz - 1))) H := hP
  refine lv_aload_n hx hb dX0_put_72 rfl (lv_at hl 0 rfl) ?_
  refine lv_iload_n hx hb dX0_put_73 rfl (lv_at hl 1 rfl) ?_
  refine wr_call (W.runV (As := [.int (nI j)]) (rest := []) S (cx_insertItem l G a C hD (vp_updL K j key) (vp_updL D j due) (upd (ft_zr Lf 1 (ft_fb (fun i => ft_sb K (K j) (nI j) (Lf i)) sz 0) Wt) j x) (va_cpy O O ((ft_fb (fun i => ft_sb K (K j) (nI j) (Lf i)) sz 0) + 1) (ft_fb (fun i => ft_sb K (K j) (nI j) (Lf i)) sz 0) (sz - ((ft_fb (fun i => ft_sb K (K j) (nI j) (Lf i)) sz 0) + 1))) (ft_rm Lf (ft_fb (fun i => ft_sb K (K j) (nI j) (Lf i)) sz 0) ((ft_fb (fun i => ft_sb K (K j) (nI j) (Lf i)) sz 0) + 1)) (sz - 1) (by omega) hO1 hj (by omega)) (cwV 1 hts (gX0_45 tb_cons) rfl rfl rfl (by decide +kernel) ⟨Nat.le_of_ble_eq_true rfl, Nat.le_of_ble_eq_true rfl⟩) (pX_V hP hK) rfl rfl hl.1 rfl (lv_room (Nat.le_of_ble_eq_true rfl)) dX0_put_74 ⟨Nat.zero_le _, Nat.zero_le _⟩) hS (fun _ h => h) (fun H locs hP hS _ _ => ?_)
  have hP : va_P G vwCl (wX a C (vp_updL K j key) (vp_updL D j due) (upd (ft_zr Lf 1 (ft_fb (fun i => ft_sb K (K j) (nI j) (Lf i)) sz 0) Wt) j x) (upd (va_cpy (va_cpy O O ((ft_fb (fun i => ft_sb K (K j) (nI j) (Lf i)) sz 0) + 1) (ft_fb (fun i => ft_sb K (K j) (nI j) (Lf i)) sz 0) (sz - ((ft_fb (fun i => ft_sb K (K j) (nI j) (Lf i)) sz 0) + 1))) (va_cpy O O ((ft_fb (fun i => ft_sb K (K j) (nI j) (Lf i)) sz 0) + 1) (ft_fb (fun i => ft_sb K (K j) (nI j) (Lf i)) sz 0) (sz - ((ft_fb (fun i => ft_sb K (K j) (nI j) (Lf i)) sz 0) + 1))) (ft_fb (fun i => ft_sb (vp_updL K j key) ((vp_updL K j key) j) (nI j) ((ft_rm Lf (ft_fb (fun i => ft_sb K (K j) (nI j) (Lf i)) sz 0) ((ft_fb (fun i => ft_sb K (K j) (nI j) (Lf i)) sz 0) + 1)) i)) (sz - 1) 0) ((ft_fb (fun i => ft_sb (vp_updL K j key) ((vp_updL K j key) j) (nI j) ((ft_rm Lf (ft_fb (fun i => ft_sb K (K j) (nI j) (Lf i)) sz 0) ((ft_fb (fun i => ft_sb K (K j) (nI j) (Lf i)) sz 0) + 1)) i)) (sz - 1) 0) + 1) ((sz - 1) - (ft_fb (fun i => ft_sb (vp_updL K j key) ((vp_updL K j key) j) (nI j) ((ft_rm Lf (ft_fb (fun i => ft_sb K (K j) (nI j) (Lf i)) sz 0) ((ft_fb (fun i => ft_sb K (K j) (nI j) (Lf i)) sz 0) + 1)) i)) (sz - 1) 0))) (ft_fb (fun i => ft_sb (vp_updL K j key) ((vp_updL K j key) j) (nI j) ((ft_rm Lf (ft_fb (fun i => ft_sb K (K j) (nI j) (Lf i)) sz 0) ((ft_fb (fun i => ft_sb K (K j) (nI j) (Lf i)) sz 0) + 1)) i)) (sz - 1) 0) (nI j)) (nI ((sz - 1) + 1))) H := hP
  refine W.eq (g2 := F0 m 77 ls []) rfl ?_
  refine lv_aload_n hx hb dX0_put_77 rfl (lv_at hl 0 rfl) ?_
  refine va_get (D := G) (ci := 0) (C := RX0) (T := TX0) (N := 5) hx hb hts hin hown hK hP 0 rfl rfl 4 (by decide) (hts _ (tb_cons _ w_fl_X0_23)) (fun _ h9 => h9) rfl dX0_put_78 ?_
  exact W.iret hx hb hr (fun t ht _ => ⟨rfl, by rw [ht]; exact hP, hS.F ht⟩) hS.2.2 dX0_put_81
set_option maxHeartbeats 4000000 in
set_option maxRecDepth 100000 in
theorem cx_slide (l : Launch) (G : va_G) (a : Nat → Nat) (C : Nat → ClassId) {A : Nat → Prop} (hD : ∀ K D Wt O n, va_D A (wX a C K D Wt O n)) (K D : Nat → Int64) (Wt O : Nat → Int32) (Lf : Nat → Nat) (sz : Nat) (hs : sz ≤ 200) (hO : ∀ i, i < sz → O i = nI (Lf i) ∧ Lf i < 200) (hs0 : 0 < sz) {y : Int64} (h1 : ¬ y < (-2199023255552 : Int64) - K (Lf 0)) (h2 : ¬ (2199023255552 : Int64) - K (Lf (sz - 1)) < y) : Met l yX0_slide wsX0_slide { frames := 1, cells := 0, slots := 0, locals := 30 } (va_Pc [.ref (a 0), .long y] (rX G a C K D Wt O (nI sz))) (wr_Q G vwCl (some (.long (ft_sl Lf y sz 0 K (Lf 0)))) (wX a C (ft_sl Lf y sz 0 K) D Wt O (nI sz)) A) 0 0 A := by
  refine q_open (cc := cX0_slide) (maxL := 8) (ret := (some .long)) (by decide) rfl (Nat.le_of_ble_eq_true rfl) ?_
  intro p e s m below meth c ls S hr hlk hB hl
  obtain ⟨hx, hb, hml, hown, hts⟩ := id S
  obtain ⟨hP, hK⟩ := hB
  have hin : ∀ w ∈ u_ws RX0 TX0 5, w ∈ wsX0_slide := fun w h => tb_cons w (hinX0 w h)
  have hS : va_S A s.heap s.heap [] := va_S.rf
  have hl : lv_has ls 8 [(0, .ref (a 0)), (1, .long y)] := hl
  refine lv_aload_n hx hb dX0_slide_0 rfl (lv_at hl 0 rfl) ?_
  refine va_get (D := G) (ci := 0) (C := RX0) (T := TX0) (N := 5) hx hb hts hin hown hK hP 0 rfl rfl 4 (by decide) (hts _ (tb_cons _ w_fl_X0_23)) (fun _ h9 => h9) rfl dX0_slide_1 ?_
  refine lv_if_ne (tgt := 15) hx hb dX0_slide_4 (by decide) (fun _ => ?_) (fun hc => absurd hc (nI_ne0 hs0 (by omega)))
  refine lv_ldc2 (v := (-2199023255552)) hx hb hown (hts _ (tb_cons _ w_k_X0_51)) dX0_slide_15 ?_
  refine lv_aload_n hx hb dX0_slide_18 rfl (lv_at hl 0 rfl) ?_
  refine lv_iconst (v := 0) hx hb dX0_slide_19 (by decide) ?_
  refine q_topi (y := nI 0) rfl ?_
  refine rd_call (W.runV (As := [.int (nI 0)]) (rest := [.long (-2199023255552)]) S (cx_keyAt l G a C K D Wt O (nI sz) (i := 0) (by omega) (hO (0) (by omega)).1 (hO (0) (by omega)).2) (cwV 1 hts (gX0_53 tb_cons) rfl rfl rfl (by decide +kernel) ⟨Nat.le_of_ble_eq_true rfl, Nat.le_of_ble_eq_true rfl⟩) (pX_V hP hK) rfl rfl hl.1 rfl (lv_room (Nat.le_of_ble_eq_true rfl)) dX0_slide_20 ⟨Nat.zero_le _, Nat.zero_le _⟩) ?_
  refine lv_lsub hx hb dX0_slide_23 ?_
  refine lv_lstore_n hx hb dX0_slide_24 rfl hl (by decide) rfl (fun ls hl => ?_)
  have hl : lv_has ls 8 [(3, .long ((-2199023255552) - (K (Lf 0)))), (0, .ref (a 0)), (1, .long y)] := hl
  refine lv_ldc2 (v := 2199023255552) hx hb hown (hts _ (tb_cons _ w_k_X0_57)) dX0_slide_25 ?_
  refine lv_aload_n hx hb dX0_slide_28 rfl (lv_at hl 1 rfl) ?_
  refine lv_aload_n hx hb dX0_slide_29 rfl (lv_at hl 1 rfl) ?_
  refine va_get (D := G) (ci := 0) (C := RX0) (T := TX0) (N := 5) hx hb hts hin hown hK hP 0 rfl rfl 4 (by decide) (hts _ (tb_cons _ w_fl_X0_23)) (fun _ h9 => h9) rfl dX0_slide_30 ?_
  refine lv_iconst (v := 1) hx hb dX0_slide_33 (by decide) ?_
  refine lv_isub hx hb dX0_slide_34 ?_
  refine q_topi (y := nI (sz - 1)) (q_pred hs0) ?_
  refine rd_call (W.runV (As := [.int (nI (sz - 1))]) (rest := [.long 2199023255552]) S (cx_keyAt l G a C K D Wt O (nI sz) (i := sz - 1) (by omega) (hO (sz - 1) (by omega)).1 (hO (sz - 1) (by omega)).2) (cwV 1 hts (gX0_53 tb_cons) rfl rfl rfl (by decide +kernel) ⟨Nat.le_of_ble_eq_true rfl, Nat.le_of_ble_eq_true rfl⟩) (pX_V hP hK) rfl rfl hl.1 rfl (lv_room (Nat.le_of_ble_eq_true rfl)) dX0_slide_35 ⟨Nat.zero_le _, Nat.zero_le _⟩) ?_
  refine lv_lsub hx hb dX0_slide_38 ?_
  refine lv_lstore hx hb dX0_slide_39 hl (by decide) rfl (fun ls hl => ?_)
  have hl : lv_has ls 8 [(5, .long (2199023255552 - (K (Lf (sz - 1))))), (3, .long ((-2199023255552) - (K (Lf 0)))), (0, .ref (a 0)), (1, .long y)] := hl
  refine lv_lload_n hx hb dX0_slide_41 rfl (lv_at hl 3 rfl) ?_
  refine lv_lload_n hx hb dX0_slide_42 rfl (lv_at hl 1 rfl) ?_
  refine W.lcmp hx hb dX0_slide_43 ?_
  refine lv_if_lt (tgt := 54) hx hb dX0_slide_44 (by decide) (fun hc => absurd hc (fun q => h1 ((lg_cmp_lt _ _).mp q))) (fun _ => ?_)
  refine lv_lload_n hx hb dX0_slide_47 rfl (lv_at hl 3 rfl) ?_
  refine lv_lload hx hb dX0_slide_48 (lv_at hl 0 rfl) ?_
  refine W.lcmp hx hb dX0_slide_50 ?_
  refine lv_if_le (tgt := 62) hx hb dX0_slide_51 (by decide) (fun _ => ?_) (fun hc => absurd ((lg_cmp_le _ _).mpr (Int64.not_lt.mp h2)) hc)
  refine lv_iconst (v := 0) hx hb dX0_slide_62 (by decide) ?_
  refine lv_istore hx hb dX0_slide_63 hl (by decide) rfl (fun ls hl => ?_)
  have hl : lv_has ls 8 [(7, .int 0), (5, .long (2199023255552 - (K (Lf (sz - 1))))), (3, .long ((-2199023255552) - (K (Lf 0)))), (0, .ref (a 0)), (1, .long y)] := hl
  have loop : ∀ (k : Nat) (i : Nat) (Kz : Nat → Int64), i + k = sz → ft_sl Lf y k i Kz = ft_sl Lf y sz 0 K → ∀ (H : Heap) (locs : List Loc), va_P G vwCl (wX a C Kz D Wt O (nI sz)) H → va_S A s.heap H locs → ∀ ls : Array Slot, lv_has ls 8 [(7, .int (nI i)), (1, .long y), (0, .ref (a 0))] → W p l e { frames := 1, cells := 0, slots := 0, locals := 30 } s m ([.ref (a 0), .long y] : List Value).toArray below meth c H locs 0 0 (MQ below (wr_Q G vwCl (some (.long (ft_sl Lf y sz 0 K (Lf 0)))) (wX a C (ft_sl Lf y sz 0 K) D Wt O (nI sz)) A) ([.ref (a 0), .long y] : List Value).toArray s 0 0 A) (F0 m 65 ls []) := by
    intro k
    induction k with
    | zero =>
      intro i Kz hi he H locs hP hS ls hl
      refine lv_iload hx hb dX0_slide_65 (lv_at hl 0 rfl) ?_
      refine lv_aload_n hx hb dX0_slide_67 rfl (lv_at hl 2 rfl) ?_
      refine va_get (D := G) (ci := 0) (C := RX0) (T := TX0) (N := 5) hx hb hts hin hown hK hP 0 rfl rfl 4 (by decide) (hts _ (tb_cons _ w_fl_X0_23)) (fun _ h9 => h9) rfl dX0_slide_68 ?_
      refine lv_icmp_ge (tgt := 96) hx hb dX0_slide_71 (by decide) (fun _ => ?_) (fun hc => absurd (nI_le (by omega) (by omega)) hc)
      refine lv_aload_n hx hb dX0_slide_96 rfl (lv_at hl 2 rfl) ?_
      refine lv_iconst (v := 0) hx hb dX0_slide_97 (by decide) ?_
      refine q_topi (y := nI 0) rfl ?_
      refine rd_call (W.runV (As := [.int (nI 0)]) (rest := []) S (cx_keyAt l G a C Kz D Wt O (nI sz) (i := 0) (by omega) (hO (0) (by omega)).1 (hO (0) (by omega)).2) (cwV 1 hts (gX0_53 tb_cons) rfl rfl rfl (by decide +kernel) ⟨Nat.le_of_ble_eq_true rfl, Nat.le_of_ble_eq_true rfl⟩) (pX_V hP hK) rfl rfl hl.1 rfl (lv_room (Nat.le_of_ble_eq_true rfl)) dX0_slide_98 ⟨Nat.zero_le _, Nat.zero_le _⟩) ?_
      have he : Kz = ft_sl Lf y sz 0 K := he
      rw [he] at hP ⊢
      exact W.lret hx hb hr (fun t ht _ => ⟨rfl, by rw [ht]; exact hP, hS.F ht⟩) hS.2.2 dX0_slide_101
    | succ k ih =>
      intro i Kz hi he H locs hP hS ls hl
      refine lv_iload hx hb dX0_slide_65 (lv_at hl 0 rfl) ?_
      refine lv_aload_n hx hb dX0_slide_67 rfl (lv_at hl 2 rfl) ?_
      refine va_get (D := G) (ci := 0) (C := RX0) (T := TX0) (N := 5) hx hb hts hin hown hK hP 0 rfl rfl 4 (by decide) (hts _ (tb_cons _ w_fl_X0_23)) (fun _ h9 => h9) rfl dX0_slide_68 ?_
      refine lv_icmp_ge (tgt := 96) hx hb dX0_slide_71 (by decide) (fun hc => absurd hc (nI_ge (by omega) (by omega))) (fun _ => ?_)
      refine lv_aload_n hx hb dX0_slide_74 rfl (lv_at hl 2 rfl) ?_
      refine va_get (D := G) (ci := 0) (C := RX0) (T := TX0) (N := 5) hx hb hts hin hown hK hP 0 rfl rfl 0 (by decide) (hts _ (tb_cons _ w_fl_X0_9)) (fun _ h9 => h9) rfl dX0_slide_75 ?_
      refine lv_aload_n hx hb dX0_slide_78 rfl (lv_at hl 2 rfl) ?_
      refine va_get (D := G) (ci := 0) (C := RX0) (T := TX0) (N := 5) hx hb hts hin hown hK hP 0 rfl rfl 3 (by decide) (hts _ (tb_cons _ w_fl_X0_20)) (fun _ h9 => h9) rfl dX0_slide_79 ?_
      refine lv_iload hx hb dX0_slide_82 (lv_at hl 0 rfl) ?_
      refine q_iald hx hb hK hP 4 3 rfl rfl (i) rfl (by omega) (by decide) dX0_slide_84 ?_
      refine q_topi (y := nI (Lf i)) (hO i (by omega)).1 ?_
      refine lv_dup2_11 hx hb dX0_slide_85 rfl rfl ?_
      refine q_lald hx hb hK hP 1 0 rfl rfl (Lf i) rfl (hO i (by omega)).2 (by decide) dX0_slide_86 ?_
      refine lv_lload_n hx hb dX0_slide_87 rfl (lv_at hl 1 rfl) ?_
      refine lv_ladd hx hb dX0_slide_88 ?_
      refine q_last hx hb hK hP (hD _ _ _ _ _) hS 1 0 rfl rfl (Lf i) rfl (hO i (by omega)).2 (by decide) dX0_slide_89 (fun H locs hP hS => ?_)
      have hP : va_P G vwCl (wX a C (vp_updL Kz (Lf i) ((Kz (Lf i)) + y)) D Wt O (nI sz)) H := hP
      refine lv_iinc (k := 0) (v := nI (i + 1)) hx hb dX0_slide_90 hl rfl (nI_succ i).symm (by decide) rfl (fun ls hl => ?_)
      have hl : lv_has ls 8 [(7, .int (nI (i + 1))), (1, .long y), (0, .ref (a 0))] := hl
      refine lv_goto (tgt := 65) hx hb dX0_slide_93 (by decide) ?_
      exact ih (i + 1) (vp_updL Kz (Lf i) (Kz (Lf i) + y)) (by omega) he H locs hP hS ls hl
  exact loop sz 0 K (by omega) rfl s.heap [] hP hS ls (lv_sub hl [0, 4, 3] rfl)
set_option maxHeartbeats 4000000 in
set_option maxRecDepth 100000 in
theorem cx_cut_some (l : Launch) (G : va_G) (a : Nat → Nat) (C : Nat → ClassId) {A : Nat → Prop} (hD : ∀ K D Wt O n, va_D A (wX a C K D Wt O n)) (K D : Nat → Int64) (Wt O : Nat → Int32) (Lf : Nat → Nat) (sz : Nat) (hs : sz ≤ 200) (hO : ∀ i, i < sz → O i = nI (Lf i) ∧ Lf i < 200) (lo hi : Int64) (h0 : (ft_fb (fun i => ft_sb K lo 0 (Lf i)) sz 0) < (ft_fb (fun i => ft_sb K hi 200 (Lf i)) sz 0)) : Met l yX0_cut wsX0_cut { frames := 3, cells := 0, slots := 0, locals := 90 } (va_Pc [.ref (a 0), .long lo, .long hi] (rX G a C K D Wt O (nI sz))) (wr_Q G vwCl (some (.int (nI ((ft_fb (fun i => ft_sb K hi 200 (Lf i)) sz 0) - (ft_fb (fun i => ft_sb K lo 0 (Lf i)) sz 0))))) (wX a C K D (ft_zr Lf ((ft_fb (fun i => ft_sb K hi 200 (Lf i)) sz 0) - (ft_fb (fun i => ft_sb K lo 0 (Lf i)) sz 0)) (ft_fb (fun i => ft_sb K lo 0 (Lf i)) sz 0) Wt) (va_cpy O O (ft_fb (fun i => ft_sb K hi 200 (Lf i)) sz 0) (ft_fb (fun i => ft_sb K lo 0 (Lf i)) sz 0) (sz - (ft_fb (fun i => ft_sb K hi 200 (Lf i)) sz 0))) (nI (sz - ((ft_fb (fun i => ft_sb K hi 200 (Lf i)) sz 0) - (ft_fb (fun i => ft_sb K lo 0 (Lf i)) sz 0))))) A) 0 0 A := by
  refine q_open (cc := cX0_cut) (maxL := 7) (ret := (some .int)) (by decide) rfl (Nat.le_of_ble_eq_true rfl) ?_
  intro p e s m below meth c ls S hr hlk hB hl
  obtain ⟨hx, hb, hml, hown, hts⟩ := id S
  obtain ⟨hP, hK⟩ := hB
  have hin : ∀ w ∈ u_ws RX0 TX0 5, w ∈ wsX0_cut := fun w h => tb_cons w (hinX0 w h)
  have hS : va_S A s.heap s.heap [] := va_S.rf
  have hl : lv_has ls 7 [(0, .ref (a 0)), (1, .long lo), (3, .long hi)] := hl
  refine lv_aload_n hx hb dX0_cut_0 rfl (lv_at hl 0 rfl) ?_
  refine lv_lload_n hx hb dX0_cut_1 rfl (lv_at hl 1 rfl) ?_
  refine rd_call (W.runV (As := [.long lo]) (rest := []) S (cx_placesBelow l G a C K D Wt O Lf sz hs hO lo) (cwV 1 hts (gX0_71 tb_cons) rfl rfl rfl (by decide +kernel) ⟨Nat.le_of_ble_eq_true rfl, Nat.le_of_ble_eq_true rfl⟩) (pX_V hP hK) rfl rfl hl.1 rfl (lv_room (Nat.le_of_ble_eq_true rfl)) dX0_cut_2 ⟨Nat.zero_le _, Nat.zero_le _⟩) ?_
  refine lv_istore hx hb dX0_cut_5 hl (by decide) rfl (fun ls hl => ?_)
  have hl : lv_has ls 7 [(5, .int (nI (ft_fb (fun i => ft_sb K lo 0 (Lf i)) sz 0))), (0, .ref (a 0)), (1, .long lo), (3, .long hi)] := hl
  refine lv_aload_n hx hb dX0_cut_7 rfl (lv_at hl 1 rfl) ?_
  refine lv_lload_n hx hb dX0_cut_8 rfl (lv_at hl 3 rfl) ?_
  refine rd_call (W.runV (As := [.long hi]) (rest := []) S (cx_placesNotAbove l G a C K D Wt O Lf sz hs hO hi) (cwV 1 hts (gX0_63 tb_cons) rfl rfl rfl (by decide +kernel) ⟨Nat.le_of_ble_eq_true rfl, Nat.le_of_ble_eq_true rfl⟩) (pX_V hP hK) rfl rfl hl.1 rfl (lv_room (Nat.le_of_ble_eq_true rfl)) dX0_cut_9 ⟨Nat.zero_le _, Nat.zero_le _⟩) ?_
  refine lv_istore hx hb dX0_cut_12 hl (by decide) rfl (fun ls hl => ?_)
  have hl : lv_has ls 7 [(6, .int (nI (ft_fb (fun i => ft_sb K hi 200 (Lf i)) sz 0))), (5, .int (nI (ft_fb (fun i => ft_sb K lo 0 (Lf i)) sz 0))), (0, .ref (a 0)), (1, .long lo), (3, .long hi)] := hl
  refine lv_iload hx hb dX0_cut_14 (lv_at hl 1 rfl) ?_
  refine lv_iload hx hb dX0_cut_16 (lv_at hl 0 rfl) ?_
  have hv : (ft_fb (fun i => ft_sb K hi 200 (Lf i)) sz 0) ≤ sz := by have := (ft_fb_spec (fun i => ft_sb K hi 200 (Lf i)) sz 0).2.1; omega
  refine lv_icmp_lt (tgt := 23) hx hb dX0_cut_18 (by decide) (fun _ => ?_) (fun hc => absurd (nI_lt h0 (by omega)) hc)
  refine lv_aload_n hx hb dX0_cut_23 rfl (lv_at hl 2 rfl) ?_
  refine lv_iload hx hb dX0_cut_24 (lv_at hl 1 rfl) ?_
  refine lv_iload hx hb dX0_cut_26 (lv_at hl 0 rfl) ?_
  refine wr_call (W.runV (As := [.int (nI (ft_fb (fun i => ft_sb K lo 0 (Lf i)) sz 0)), .int (nI (ft_fb (fun i => ft_sb K hi 200 (Lf i)) sz 0))]) (rest := []) S (cx_removePlaces l G a C hD K D Wt O Lf sz hs hO (u := (ft_fb (fun i => ft_sb K lo 0 (Lf i)) sz 0)) (v := (ft_fb (fun i => ft_sb K hi 200 (Lf i)) sz 0)) (by omega) hv) (cwV 2 hts (gX0_92 tb_cons) rfl rfl rfl (by decide +kernel) ⟨Nat.le_of_ble_eq_true rfl, Nat.le_of_ble_eq_true rfl⟩) (pX_V hP hK) rfl rfl hl.1 rfl (lv_room (Nat.le_of_ble_eq_true rfl)) dX0_cut_28 ⟨Nat.zero_le _, Nat.zero_le _⟩) hS (fun _ h => h) (fun H locs hP hS _ _ => ?_)
  have hP : va_P G vwCl (wX a C K D (ft_zr Lf ((ft_fb (fun i => ft_sb K hi 200 (Lf i)) sz 0) - (ft_fb (fun i => ft_sb K lo 0 (Lf i)) sz 0)) (ft_fb (fun i => ft_sb K lo 0 (Lf i)) sz 0) Wt) (va_cpy O O (ft_fb (fun i => ft_sb K hi 200 (Lf i)) sz 0) (ft_fb (fun i => ft_sb K lo 0 (Lf i)) sz 0) (sz - (ft_fb (fun i => ft_sb K hi 200 (Lf i)) sz 0))) (nI (sz - ((ft_fb (fun i => ft_sb K hi 200 (Lf i)) sz 0) - (ft_fb (fun i => ft_sb K lo 0 (Lf i)) sz 0))))) H := hP
  refine W.eq (g2 := F0 m 31 ls []) rfl ?_
  refine lv_iload hx hb dX0_cut_31 (lv_at hl 0 rfl) ?_
  refine lv_iload hx hb dX0_cut_33 (lv_at hl 1 rfl) ?_
  refine lv_isub hx hb dX0_cut_35 ?_
  refine q_topi (y := nI ((ft_fb (fun i => ft_sb K hi 200 (Lf i)) sz 0) - (ft_fb (fun i => ft_sb K lo 0 (Lf i)) sz 0))) (pk_sub (by omega)) ?_
  exact W.iret hx hb hr (fun t ht _ => ⟨rfl, by rw [ht]; exact hP, hS.F ht⟩) hS.2.2 dX0_cut_36
set_option maxHeartbeats 4000000 in
set_option maxRecDepth 100000 in
theorem cx_cut_none (l : Launch) (G : va_G) (a : Nat → Nat) (C : Nat → ClassId) {A : Nat → Prop} (hD : ∀ K D Wt O n, va_D A (wX a C K D Wt O n)) (K D : Nat → Int64) (Wt O : Nat → Int32) (Lf : Nat → Nat) (sz : Nat) (hs : sz ≤ 200) (hO : ∀ i, i < sz → O i = nI (Lf i) ∧ Lf i < 200) (lo hi : Int64) (h0 : (ft_fb (fun i => ft_sb K hi 200 (Lf i)) sz 0) ≤ (ft_fb (fun i => ft_sb K lo 0 (Lf i)) sz 0)) : Met l yX0_cut wsX0_cut { frames := 3, cells := 0, slots := 0, locals := 90 } (va_Pc [.ref (a 0), .long lo, .long hi] (rX G a C K D Wt O (nI sz))) (wr_Q G vwCl (some (.int 0)) (wX a C K D Wt O (nI sz)) A) 0 0 A := by
  refine q_open (cc := cX0_cut) (maxL := 7) (ret := (some .int)) (by decide) rfl (Nat.le_of_ble_eq_true rfl) ?_
  intro p e s m below meth c ls S hr hlk hB hl
  obtain ⟨hx, hb, hml, hown, hts⟩ := id S
  obtain ⟨hP, hK⟩ := hB
  have hin : ∀ w ∈ u_ws RX0 TX0 5, w ∈ wsX0_cut := fun w h => tb_cons w (hinX0 w h)
  have hS : va_S A s.heap s.heap [] := va_S.rf
  have hl : lv_has ls 7 [(0, .ref (a 0)), (1, .long lo), (3, .long hi)] := hl
  refine lv_aload_n hx hb dX0_cut_0 rfl (lv_at hl 0 rfl) ?_
  refine lv_lload_n hx hb dX0_cut_1 rfl (lv_at hl 1 rfl) ?_
  refine rd_call (W.runV (As := [.long lo]) (rest := []) S (cx_placesBelow l G a C K D Wt O Lf sz hs hO lo) (cwV 1 hts (gX0_71 tb_cons) rfl rfl rfl (by decide +kernel) ⟨Nat.le_of_ble_eq_true rfl, Nat.le_of_ble_eq_true rfl⟩) (pX_V hP hK) rfl rfl hl.1 rfl (lv_room (Nat.le_of_ble_eq_true rfl)) dX0_cut_2 ⟨Nat.zero_le _, Nat.zero_le _⟩) ?_
  refine lv_istore hx hb dX0_cut_5 hl (by decide) rfl (fun ls hl => ?_)
  have hl : lv_has ls 7 [(5, .int (nI (ft_fb (fun i => ft_sb K lo 0 (Lf i)) sz 0))), (0, .ref (a 0)), (1, .long lo), (3, .long hi)] := hl
  refine lv_aload_n hx hb dX0_cut_7 rfl (lv_at hl 1 rfl) ?_
  refine lv_lload_n hx hb dX0_cut_8 rfl (lv_at hl 3 rfl) ?_
  refine rd_call (W.runV (As := [.long hi]) (rest := []) S (cx_placesNotAbove l G a C K D Wt O Lf sz hs hO hi) (cwV 1 hts (gX0_63 tb_cons) rfl rfl rfl (by decide +kernel) ⟨Nat.le_of_ble_eq_true rfl, Nat.le_of_ble_eq_true rfl⟩) (pX_V hP hK) rfl rfl hl.1 rfl (lv_room (Nat.le_of_ble_eq_true rfl)) dX0_cut_9 ⟨Nat.zero_le _, Nat.zero_le _⟩) ?_
  refine lv_istore hx hb dX0_cut_12 hl (by decide) rfl (fun ls hl => ?_)
  have hl : lv_has ls 7 [(6, .int (nI (ft_fb (fun i => ft_sb K hi 200 (Lf i)) sz 0))), (5, .int (nI (ft_fb (fun i => ft_sb K lo 0 (Lf i)) sz 0))), (0, .ref (a 0)), (1, .long lo), (3, .long hi)] := hl
  refine lv_iload hx hb dX0_cut_14 (lv_at hl 1 rfl) ?_
  refine lv_iload hx hb dX0_cut_16 (lv_at hl 0 rfl) ?_
  have hu : (ft_fb (fun i => ft_sb K lo 0 (Lf i)) sz 0) ≤ sz := by have := (ft_fb_spec (fun i => ft_sb K lo 0 (Lf i)) sz 0).2.1; omega
  refine lv_icmp_lt (tgt := 23) hx hb dX0_cut_18 (by decide) (fun hc => absurd hc (nI_nlt h0 (by omega))) (fun _ => ?_)
  refine lv_iconst (v := 0) hx hb dX0_cut_21 (by decide) ?_
  exact W.iret hx hb hr (fun t ht _ => ⟨rfl, by rw [ht]; exact hP, hS.F ht⟩) hS.2.2 dX0_cut_22
end
section
set_option maxHeartbeats 4000000 in
set_option maxRecDepth 100000 in
theorem bx_put_1 (l : Launch) (hL : ∀ e : Env, l.admits e → e.platform.stackTraces = false) (G : va_G) (a : Nat → Nat) (C : Nat → ClassId) (K D : Nat → Int64) (Wt O : Nat → Int32) (n : Int32) {j : Int32} {key due : Int64} {x : Int32} (h : j < 0 ∨ 200 ≤ j) : tx_Met l yX0_put wsX0_put { frames := 6, cells := 1, slots := 6, locals := 90 } (va_Pc [.ref (a 0), .int j, .long key, .long due, .int x] (bX G a C K D Wt O n)) (th_Q EIA) 1 6 (fun _ => False) := by
  refine q_openT (cc := cX0_put) (maxL := 7) (ret := (some .int)) (by decide) rfl (Nat.le_of_ble_eq_true rfl) ?_
  intro p e s m below meth c ls S hr hlk hno hB hl
  obtain ⟨hx, hb, hml, hown, hts⟩ := id S
  obtain ⟨⟨hP, hK⟩, hG⟩ := hB
  have hin : ∀ w ∈ u_ws RX0 TX0 5, w ∈ wsX0_put := fun w h => tb_cons w (hinX0 w h)
  have hl : lv_has ls 7 [(0, .ref (a 0)), (1, .int j), (2, .long key), (4, .long due), (6, .int x)] := hl
  refine lv_iload_n hx hb dX0_put_0 rfl (lv_at hl 1 rfl) ?_
  refine rd_call (W.runS (As := [.int j]) (rest := []) S (cx_isNumber_out l h) (cwS 1 hts (gX0_27 tb_cons) rfl rfl rfl (by decide +kernel) ⟨Nat.le_of_ble_eq_true rfl, Nat.le_of_ble_eq_true rfl⟩) ⟨fun _ _ _ _ q => q, fun U _ _ => ⟨rfl, trivial⟩⟩ rfl rfl hl.1 rfl (lv_room (Nat.le_of_ble_eq_true rfl)) dX0_put_1 ⟨Nat.zero_le _, Nat.zero_le _⟩) ?_
  refine lv_if_eq (tgt := 28) hx hb dX0_put_4 (by decide) (fun _ => ?_) (fun hc => absurd (rfl) hc)
  exact tx_thr (names := ENM) hx hb hL hlk hown rfl (by decide) (own_ok own_IA (fun w h => hts w (tb_cons w h)) hG (hts _ (tb_cons _ w_inst_IllegalArgumentException))) (hts _ (tb_cons _ w_cl_X0_35)) (hts _ (tb_cons _ w_inst_IllegalArgumentException)) (hts _ (tb_cons _ w_in_IllegalArgumentException)) (Nat.le_refl _) (hl.1.trans hml.symm) dX0_put_28 dX0_put_31 dX0_put_32 dX0_put_35 hno (Nat.le_of_ble_eq_true rfl) (Nat.le_of_ble_eq_true rfl) (Nat.le_of_ble_eq_true rfl) (Nat.le_of_ble_eq_true rfl) (fun t ce hW h1 h2 h3 h4 h5 => ⟨_, ce, rfl, h3, h5, by rw [hW.alike.findClass]; exact h4, h1, h2⟩)
set_option maxHeartbeats 4000000 in
set_option maxRecDepth 100000 in
theorem bx_put_2 (l : Launch) (hL : ∀ e : Env, l.admits e → e.platform.stackTraces = false) (G : va_G) (a : Nat → Nat) (C : Nat → ClassId) (K D : Nat → Int64) (Wt O : Nat → Int32) (n : Int32) {j : Nat} (hj : j < 200) {key due : Int64} {x : Int32} (h : key < (-1099511627776) ∨ 1099511627776 < key) : tx_Met l yX0_put wsX0_put { frames := 6, cells := 1, slots := 6, locals := 90 } (va_Pc [.ref (a 0), .int (nI j), .long key, .long due, .int x] (bX G a C K D Wt O n)) (th_Q EIA) 1 6 (fun _ => False) := by
  refine q_openT (cc := cX0_put) (maxL := 7) (ret := (some .int)) (by decide) rfl (Nat.le_of_ble_eq_true rfl) ?_
  intro p e s m below meth c ls S hr hlk hno hB hl
  obtain ⟨hx, hb, hml, hown, hts⟩ := id S
  obtain ⟨⟨hP, hK⟩, hG⟩ := hB
  have hin : ∀ w ∈ u_ws RX0 TX0 5, w ∈ wsX0_put := fun w h => tb_cons w (hinX0 w h)
  have hl : lv_has ls 7 [(0, .ref (a 0)), (1, .int (nI j)), (2, .long key), (4, .long due), (6, .int x)] := hl
  refine lv_iload_n hx hb dX0_put_0 rfl (lv_at hl 1 rfl) ?_
  refine rd_call (W.runS (As := [.int (nI j)]) (rest := []) S (cx_isNumber_in l hj) (cwS 1 hts (gX0_27 tb_cons) rfl rfl rfl (by decide +kernel) ⟨Nat.le_of_ble_eq_true rfl, Nat.le_of_ble_eq_true rfl⟩) ⟨fun _ _ _ _ q => q, fun U _ _ => ⟨rfl, trivial⟩⟩ rfl rfl hl.1 rfl (lv_room (Nat.le_of_ble_eq_true rfl)) dX0_put_1 ⟨Nat.zero_le _, Nat.zero_le _⟩) ?_
  refine lv_if_eq (tgt := 28) hx hb dX0_put_4 (by decide) (fun hc => absurd hc (by decide)) (fun _ => ?_)
  refine lv_lload_n hx hb dX0_put_7 rfl (lv_at hl 2 rfl) ?_
  refine rd_call (W.runS (As := [.long key]) (rest := []) S (cx_mayBePut_out l h) (cwS 1 hts (gX0_31 tb_cons) rfl rfl rfl (by decide +kernel) ⟨Nat.le_of_ble_eq_true rfl, Nat.le_of_ble_eq_true rfl⟩) ⟨fun _ _ _ _ q => q, fun U _ _ => ⟨rfl, trivial⟩⟩ rfl rfl hl.1 rfl (lv_room (Nat.le_of_ble_eq_true rfl)) dX0_put_8 ⟨Nat.zero_le _, Nat.zero_le _⟩) ?_
  refine lv_if_eq (tgt := 28) hx hb dX0_put_11 (by decide) (fun _ => ?_) (fun hc => absurd (rfl) hc)
  exact tx_thr (names := ENM) hx hb hL hlk hown rfl (by decide) (own_ok own_IA (fun w h => hts w (tb_cons w h)) hG (hts _ (tb_cons _ w_inst_IllegalArgumentException))) (hts _ (tb_cons _ w_cl_X0_35)) (hts _ (tb_cons _ w_inst_IllegalArgumentException)) (hts _ (tb_cons _ w_in_IllegalArgumentException)) (Nat.le_refl _) (hl.1.trans hml.symm) dX0_put_28 dX0_put_31 dX0_put_32 dX0_put_35 hno (Nat.le_of_ble_eq_true rfl) (Nat.le_of_ble_eq_true rfl) (Nat.le_of_ble_eq_true rfl) (Nat.le_of_ble_eq_true rfl) (fun t ce hW h1 h2 h3 h4 h5 => ⟨_, ce, rfl, h3, h5, by rw [hW.alike.findClass]; exact h4, h1, h2⟩)
set_option maxHeartbeats 4000000 in
set_option maxRecDepth 100000 in
theorem bx_put_3 (l : Launch) (hL : ∀ e : Env, l.admits e → e.platform.stackTraces = false) (G : va_G) (a : Nat → Nat) (C : Nat → ClassId) (K D : Nat → Int64) (Wt O : Nat → Int32) (n : Int32) {j : Nat} (hj : j < 200) {key due : Int64} {x : Int32} (hk : ¬ key < (-1099511627776) ∧ ¬ 1099511627776 < key) (h : x < 1) : tx_Met l yX0_put wsX0_put { frames := 6, cells := 1, slots := 6, locals := 90 } (va_Pc [.ref (a 0), .int (nI j), .long key, .long due, .int x] (bX G a C K D Wt O n)) (th_Q EIA) 1 6 (fun _ => False) := by
  refine q_openT (cc := cX0_put) (maxL := 7) (ret := (some .int)) (by decide) rfl (Nat.le_of_ble_eq_true rfl) ?_
  intro p e s m below meth c ls S hr hlk hno hB hl
  obtain ⟨hx, hb, hml, hown, hts⟩ := id S
  obtain ⟨⟨hP, hK⟩, hG⟩ := hB
  have hin : ∀ w ∈ u_ws RX0 TX0 5, w ∈ wsX0_put := fun w h => tb_cons w (hinX0 w h)
  have hl : lv_has ls 7 [(0, .ref (a 0)), (1, .int (nI j)), (2, .long key), (4, .long due), (6, .int x)] := hl
  refine lv_iload_n hx hb dX0_put_0 rfl (lv_at hl 1 rfl) ?_
  refine rd_call (W.runS (As := [.int (nI j)]) (rest := []) S (cx_isNumber_in l hj) (cwS 1 hts (gX0_27 tb_cons) rfl rfl rfl (by decide +kernel) ⟨Nat.le_of_ble_eq_true rfl, Nat.le_of_ble_eq_true rfl⟩) ⟨fun _ _ _ _ q => q, fun U _ _ => ⟨rfl, trivial⟩⟩ rfl rfl hl.1 rfl (lv_room (Nat.le_of_ble_eq_true rfl)) dX0_put_1 ⟨Nat.zero_le _, Nat.zero_le _⟩) ?_
  refine lv_if_eq (tgt := 28) hx hb dX0_put_4 (by decide) (fun hc => absurd hc (by decide)) (fun _ => ?_)
  refine lv_lload_n hx hb dX0_put_7 rfl (lv_at hl 2 rfl) ?_
  refine rd_call (W.runS (As := [.long key]) (rest := []) S (cx_mayBePut_in l hk) (cwS 1 hts (gX0_31 tb_cons) rfl rfl rfl (by decide +kernel) ⟨Nat.le_of_ble_eq_true rfl, Nat.le_of_ble_eq_true rfl⟩) ⟨fun _ _ _ _ q => q, fun U _ _ => ⟨rfl, trivial⟩⟩ rfl rfl hl.1 rfl (lv_room (Nat.le_of_ble_eq_true rfl)) dX0_put_8 ⟨Nat.zero_le _, Nat.zero_le _⟩) ?_
  refine lv_if_eq (tgt := 28) hx hb dX0_put_11 (by decide) (fun hc => absurd hc (by decide)) (fun _ => ?_)
  refine lv_iload hx hb dX0_put_14 (lv_at hl 4 rfl) ?_
  refine lv_iconst (v := 1) hx hb dX0_put_16 (by decide) ?_
  refine lv_icmp_lt (tgt := 28) hx hb dX0_put_17 (by decide) (fun _ => ?_) (fun hc => absurd (h) hc)
  exact tx_thr (names := ENM) hx hb hL hlk hown rfl (by decide) (own_ok own_IA (fun w h => hts w (tb_cons w h)) hG (hts _ (tb_cons _ w_inst_IllegalArgumentException))) (hts _ (tb_cons _ w_cl_X0_35)) (hts _ (tb_cons _ w_inst_IllegalArgumentException)) (hts _ (tb_cons _ w_in_IllegalArgumentException)) (Nat.le_refl _) (hl.1.trans hml.symm) dX0_put_28 dX0_put_31 dX0_put_32 dX0_put_35 hno (Nat.le_of_ble_eq_true rfl) (Nat.le_of_ble_eq_true rfl) (Nat.le_of_ble_eq_true rfl) (Nat.le_of_ble_eq_true rfl) (fun t ce hW h1 h2 h3 h4 h5 => ⟨_, ce, rfl, h3, h5, by rw [hW.alike.findClass]; exact h4, h1, h2⟩)
set_option maxHeartbeats 4000000 in
set_option maxRecDepth 100000 in
theorem bx_put_4 (l : Launch) (hL : ∀ e : Env, l.admits e → e.platform.stackTraces = false) (G : va_G) (a : Nat → Nat) (C : Nat → ClassId) (K D : Nat → Int64) (Wt O : Nat → Int32) (n : Int32) {j : Nat} (hj : j < 200) {key due : Int64} {x : Int32} (hk : ¬ key < (-1099511627776) ∧ ¬ 1099511627776 < key) (h1 : ¬ x < 1) (h : 1000 < x) : tx_Met l yX0_put wsX0_put { frames := 6, cells := 1, slots := 6, locals := 90 } (va_Pc [.ref (a 0), .int (nI j), .long key, .long due, .int x] (bX G a C K D Wt O n)) (th_Q EIA) 1 6 (fun _ => False) := by
  refine q_openT (cc := cX0_put) (maxL := 7) (ret := (some .int)) (by decide) rfl (Nat.le_of_ble_eq_true rfl) ?_
  intro p e s m below meth c ls S hr hlk hno hB hl
  obtain ⟨hx, hb, hml, hown, hts⟩ := id S
  obtain ⟨⟨hP, hK⟩, hG⟩ := hB
  have hin : ∀ w ∈ u_ws RX0 TX0 5, w ∈ wsX0_put := fun w h => tb_cons w (hinX0 w h)
  have hl : lv_has ls 7 [(0, .ref (a 0)), (1, .int (nI j)), (2, .long key), (4, .long due), (6, .int x)] := hl
  refine lv_iload_n hx hb dX0_put_0 rfl (lv_at hl 1 rfl) ?_
  refine rd_call (W.runS (As := [.int (nI j)]) (rest := []) S (cx_isNumber_in l hj) (cwS 1 hts (gX0_27 tb_cons) rfl rfl rfl (by decide +kernel) ⟨Nat.le_of_ble_eq_true rfl, Nat.le_of_ble_eq_true rfl⟩) ⟨fun _ _ _ _ q => q, fun U _ _ => ⟨rfl, trivial⟩⟩ rfl rfl hl.1 rfl (lv_room (Nat.le_of_ble_eq_true rfl)) dX0_put_1 ⟨Nat.zero_le _, Nat.zero_le _⟩) ?_
  refine lv_if_eq (tgt := 28) hx hb dX0_put_4 (by decide) (fun hc => absurd hc (by decide)) (fun _ => ?_)
  refine lv_lload_n hx hb dX0_put_7 rfl (lv_at hl 2 rfl) ?_
  refine rd_call (W.runS (As := [.long key]) (rest := []) S (cx_mayBePut_in l hk) (cwS 1 hts (gX0_31 tb_cons) rfl rfl rfl (by decide +kernel) ⟨Nat.le_of_ble_eq_true rfl, Nat.le_of_ble_eq_true rfl⟩) ⟨fun _ _ _ _ q => q, fun U _ _ => ⟨rfl, trivial⟩⟩ rfl rfl hl.1 rfl (lv_room (Nat.le_of_ble_eq_true rfl)) dX0_put_8 ⟨Nat.zero_le _, Nat.zero_le _⟩) ?_
  refine lv_if_eq (tgt := 28) hx hb dX0_put_11 (by decide) (fun hc => absurd hc (by decide)) (fun _ => ?_)
  refine lv_iload hx hb dX0_put_14 (lv_at hl 4 rfl) ?_
  refine lv_iconst (v := 1) hx hb dX0_put_16 (by decide) ?_
  refine lv_icmp_lt (tgt := 28) hx hb dX0_put_17 (by decide) (fun hc => absurd hc (h1)) (fun _ => ?_)
  refine lv_iload hx hb dX0_put_20 (lv_at hl 4 rfl) ?_
  refine lv_sipush (v := 1000) hx hb dX0_put_22 (by decide) ?_
  refine lv_icmp_le (tgt := 36) hx hb dX0_put_25 (by decide) (fun hc => absurd hc (Int32.not_le.mpr h)) (fun _ => ?_)
  exact tx_thr (names := ENM) hx hb hL hlk hown rfl (by decide) (own_ok own_IA (fun w h => hts w (tb_cons w h)) hG (hts _ (tb_cons _ w_inst_IllegalArgumentException))) (hts _ (tb_cons _ w_cl_X0_35)) (hts _ (tb_cons _ w_inst_IllegalArgumentException)) (hts _ (tb_cons _ w_in_IllegalArgumentException)) (Nat.le_refl _) (hl.1.trans hml.symm) dX0_put_28 dX0_put_31 dX0_put_32 dX0_put_35 hno (Nat.le_of_ble_eq_true rfl) (Nat.le_of_ble_eq_true rfl) (Nat.le_of_ble_eq_true rfl) (Nat.le_of_ble_eq_true rfl) (fun t ce hW h1 h2 h3 h4 h5 => ⟨_, ce, rfl, h3, h5, by rw [hW.alike.findClass]; exact h4, h1, h2⟩)
set_option maxHeartbeats 4000000 in
set_option maxRecDepth 100000 in
theorem bx_drop (l : Launch) (hL : ∀ e : Env, l.admits e → e.platform.stackTraces = false) (G : va_G) (a : Nat → Nat) (C : Nat → ClassId) (K D : Nat → Int64) (Wt O : Nat → Int32) (n : Int32) {x : Int32} (hI : Met l yX0_isThere wsX0_isThere { frames := 1, cells := 0, slots := 0, locals := 30 } (va_Pc [.ref (a 0), .int x] (rX G a C K D Wt O n)) (rd_Q (.int 0)) 0 0 (fun _ => False)) : tx_Met l yX0_drop wsX0_drop { frames := 6, cells := 1, slots := 6, locals := 90 } (va_Pc [.ref (a 0), .int x] (bX G a C K D Wt O n)) (th_Q ENS) 1 6 (fun _ => False) := by
  refine q_openT (cc := cX0_drop) (maxL := 3) (ret := (some .int)) (by decide) rfl (Nat.le_of_ble_eq_true rfl) ?_
  intro p e s m below meth c ls S hr hlk hno hB hl
  obtain ⟨hx, hb, hml, hown, hts⟩ := id S
  obtain ⟨⟨hP, hK⟩, hG⟩ := hB
  have hin : ∀ w ∈ u_ws RX0 TX0 5, w ∈ wsX0_drop := fun w h => tb_cons w (hinX0 w h)
  have hl : lv_has ls 3 [(0, .ref (a 0)), (1, .int x)] := hl
  refine lv_aload_n hx hb dX0_drop_0 rfl (lv_at hl 0 rfl) ?_
  refine lv_iload_n hx hb dX0_drop_1 rfl (lv_at hl 1 rfl) ?_
  refine rd_call (W.runV (As := [.int x]) (rest := []) S (hI) (cwV 1 hts (gX0_38 tb_cons) rfl rfl rfl (by decide +kernel) ⟨Nat.le_of_ble_eq_true rfl, Nat.le_of_ble_eq_true rfl⟩) (pX_V hP hK) rfl rfl hl.1 rfl (lv_room (Nat.le_of_ble_eq_true rfl)) dX0_drop_2 ⟨Nat.zero_le _, Nat.zero_le _⟩) ?_
  refine lv_if_ne (tgt := 16) hx hb dX0_drop_5 (by decide) (fun hc => absurd (rfl) hc) (fun _ => ?_)
  exact tx_thr (names := ENM) hx hb hL hlk hown rfl (by decide) (own_ok own_NS (fun w h => hts w (tb_cons w h)) hG (hts _ (tb_cons _ w_inst_NoSuchElementException))) (hts _ (tb_cons _ w_cl_X0_48)) (hts _ (tb_cons _ w_inst_NoSuchElementException)) (hts _ (tb_cons _ w_in_NoSuchElementException)) (Nat.le_refl _) (hl.1.trans hml.symm) dX0_drop_8 dX0_drop_11 dX0_drop_12 dX0_drop_15 hno (Nat.le_of_ble_eq_true rfl) (Nat.le_of_ble_eq_true rfl) (Nat.le_of_ble_eq_true rfl) (Nat.le_of_ble_eq_true rfl) (fun t ce hW h1 h2 h3 h4 h5 => ⟨_, ce, rfl, h3, h5, by rw [hW.alike.findClass]; exact h4, h1, h2⟩)
set_option maxHeartbeats 4000000 in
set_option maxRecDepth 100000 in
theorem bx_told (l : Launch) (hL : ∀ e : Env, l.admits e → e.platform.stackTraces = false) (G : va_G) (a : Nat → Nat) (C : Nat → ClassId) (K D : Nat → Int64) (Wt O : Nat → Int32) (n : Int32) {x : Int32} (hI : Met l yX0_isThere wsX0_isThere { frames := 1, cells := 0, slots := 0, locals := 30 } (va_Pc [.ref (a 0), .int x] (rX G a C K D Wt O n)) (rd_Q (.int 0)) 0 0 (fun _ => False)) {y : Int32} : tx_Met l yX0_told wsX0_told { frames := 6, cells := 1, slots := 6, locals := 90 } (va_Pc [.ref (a 0), .int x, .int y] (bX G a C K D Wt O n)) (th_Q ENS) 1 6 (fun _ => False) := by
  refine q_openT (cc := cX0_told) (maxL := 3) (ret := (some .long)) (by decide) rfl (Nat.le_of_ble_eq_true rfl) ?_
  intro p e s m below meth c ls S hr hlk hno hB hl
  obtain ⟨hx, hb, hml, hown, hts⟩ := id S
  obtain ⟨⟨hP, hK⟩, hG⟩ := hB
  have hin : ∀ w ∈ u_ws RX0 TX0 5, w ∈ wsX0_told := fun w h => tb_cons w (hinX0 w h)
  have hl : lv_has ls 3 [(0, .ref (a 0)), (1, .int x), (2, .int y)] := hl
  refine lv_aload_n hx hb dX0_told_0 rfl (lv_at hl 0 rfl) ?_
  refine lv_iload_n hx hb dX0_told_1 rfl (lv_at hl 1 rfl) ?_
  refine rd_call (W.runV (As := [.int x]) (rest := []) S (hI) (cwV 1 hts (gX0_38 tb_cons) rfl rfl rfl (by decide +kernel) ⟨Nat.le_of_ble_eq_true rfl, Nat.le_of_ble_eq_true rfl⟩) (pX_V hP hK) rfl rfl hl.1 rfl (lv_room (Nat.le_of_ble_eq_true rfl)) dX0_told_2 ⟨Nat.zero_le _, Nat.zero_le _⟩) ?_
  refine lv_if_ne (tgt := 16) hx hb dX0_told_5 (by decide) (fun hc => absurd (rfl) hc) (fun _ => ?_)
  exact tx_thr (names := ENM) hx hb hL hlk hown rfl (by decide) (own_ok own_NS (fun w h => hts w (tb_cons w h)) hG (hts _ (tb_cons _ w_inst_NoSuchElementException))) (hts _ (tb_cons _ w_cl_X0_48)) (hts _ (tb_cons _ w_inst_NoSuchElementException)) (hts _ (tb_cons _ w_in_NoSuchElementException)) (Nat.le_refl _) (hl.1.trans hml.symm) dX0_told_8 dX0_told_11 dX0_told_12 dX0_told_15 hno (Nat.le_of_ble_eq_true rfl) (Nat.le_of_ble_eq_true rfl) (Nat.le_of_ble_eq_true rfl) (Nat.le_of_ble_eq_true rfl) (fun t ce hW h1 h2 h3 h4 h5 => ⟨_, ce, rfl, h3, h5, by rw [hW.alike.findClass]; exact h4, h1, h2⟩)
set_option maxHeartbeats 4000000 in
set_option maxRecDepth 100000 in
theorem bx_rank (l : Launch) (hL : ∀ e : Env, l.admits e → e.platform.stackTraces = false) (G : va_G) (a : Nat → Nat) (C : Nat → ClassId) (K D : Nat → Int64) (Wt O : Nat → Int32) (n : Int32) {x : Int32} (hI : Met l yX0_isThere wsX0_isThere { frames := 1, cells := 0, slots := 0, locals := 30 } (va_Pc [.ref (a 0), .int x] (rX G a C K D Wt O n)) (rd_Q (.int 0)) 0 0 (fun _ => False)) : tx_Met l yX0_rank wsX0_rank { frames := 6, cells := 1, slots := 6, locals := 90 } (va_Pc [.ref (a 0), .int x] (bX G a C K D Wt O n)) (th_Q ENS) 1 6 (fun _ => False) := by
  refine q_openT (cc := cX0_rank) (maxL := 2) (ret := (some .int)) (by decide) rfl (Nat.le_of_ble_eq_true rfl) ?_
  intro p e s m below meth c ls S hr hlk hno hB hl
  obtain ⟨hx, hb, hml, hown, hts⟩ := id S
  obtain ⟨⟨hP, hK⟩, hG⟩ := hB
  have hin : ∀ w ∈ u_ws RX0 TX0 5, w ∈ wsX0_rank := fun w h => tb_cons w (hinX0 w h)
  have hl : lv_has ls 2 [(0, .ref (a 0)), (1, .int x)] := hl
  refine lv_aload_n hx hb dX0_rank_0 rfl (lv_at hl 0 rfl) ?_
  refine lv_iload_n hx hb dX0_rank_1 rfl (lv_at hl 1 rfl) ?_
  refine rd_call (W.runV (As := [.int x]) (rest := []) S (hI) (cwV 1 hts (gX0_38 tb_cons) rfl rfl rfl (by decide +kernel) ⟨Nat.le_of_ble_eq_true rfl, Nat.le_of_ble_eq_true rfl⟩) (pX_V hP hK) rfl rfl hl.1 rfl (lv_room (Nat.le_of_ble_eq_true rfl)) dX0_rank_2 ⟨Nat.zero_le _, Nat.zero_le _⟩) ?_
  refine lv_if_ne (tgt := 16) hx hb dX0_rank_5 (by decide) (fun hc => absurd (rfl) hc) (fun _ => ?_)
  exact tx_thr (names := ENM) hx hb hL hlk hown rfl (by decide) (own_ok own_NS (fun w h => hts w (tb_cons w h)) hG (hts _ (tb_cons _ w_inst_NoSuchElementException))) (hts _ (tb_cons _ w_cl_X0_48)) (hts _ (tb_cons _ w_inst_NoSuchElementException)) (hts _ (tb_cons _ w_in_NoSuchElementException)) (Nat.le_refl _) (hl.1.trans hml.symm) dX0_rank_8 dX0_rank_11 dX0_rank_12 dX0_rank_15 hno (Nat.le_of_ble_eq_true rfl) (Nat.le_of_ble_eq_true rfl) (Nat.le_of_ble_eq_true rfl) (Nat.le_of_ble_eq_true rfl) (fun t ce hW h1 h2 h3 h4 h5 => ⟨_, ce, rfl, h3, h5, by rw [hW.alike.findClass]; exact h4, h1, h2⟩)
set_option maxHeartbeats 4000000 in
set_option maxRecDepth 100000 in
theorem bx_ahead (l : Launch) (hL : ∀ e : Env, l.admits e → e.platform.stackTraces = false) (G : va_G) (a : Nat → Nat) (C : Nat → ClassId) (K D : Nat → Int64) (Wt O : Nat → Int32) (n : Int32) {x : Int32} (hI : Met l yX0_isThere wsX0_isThere { frames := 1, cells := 0, slots := 0, locals := 30 } (va_Pc [.ref (a 0), .int x] (rX G a C K D Wt O n)) (rd_Q (.int 0)) 0 0 (fun _ => False)) : tx_Met l yX0_ahead wsX0_ahead { frames := 6, cells := 1, slots := 6, locals := 90 } (va_Pc [.ref (a 0), .int x] (bX G a C K D Wt O n)) (th_Q ENS) 1 6 (fun _ => False) := by
  refine q_openT (cc := cX0_ahead) (maxL := 2) (ret := (some .long)) (by decide) rfl (Nat.le_of_ble_eq_true rfl) ?_
  intro p e s m below meth c ls S hr hlk hno hB hl
  obtain ⟨hx, hb, hml, hown, hts⟩ := id S
  obtain ⟨⟨hP, hK⟩, hG⟩ := hB
  have hin : ∀ w ∈ u_ws RX0 TX0 5, w ∈ wsX0_ahead := fun w h => tb_cons w (hinX0 w h)
  have hl : lv_has ls 2 [(0, .ref (a 0)), (1, .int x)] := hl
  refine lv_aload_n hx hb dX0_ahead_0 rfl (lv_at hl 0 rfl) ?_
  refine lv_iload_n hx hb dX0_ahead_1 rfl (lv_at hl 1 rfl) ?_
  refine rd_call (W.runV (As := [.int x]) (rest := []) S (hI) (cwV 1 hts (gX0_38 tb_cons) rfl rfl rfl (by decide +kernel) ⟨Nat.le_of_ble_eq_true rfl, Nat.le_of_ble_eq_true rfl⟩) (pX_V hP hK) rfl rfl hl.1 rfl (lv_room (Nat.le_of_ble_eq_true rfl)) dX0_ahead_2 ⟨Nat.zero_le _, Nat.zero_le _⟩) ?_
  refine lv_if_ne (tgt := 16) hx hb dX0_ahead_5 (by decide) (fun hc => absurd (rfl) hc) (fun _ => ?_)
  exact tx_thr (names := ENM) hx hb hL hlk hown rfl (by decide) (own_ok own_NS (fun w h => hts w (tb_cons w h)) hG (hts _ (tb_cons _ w_inst_NoSuchElementException))) (hts _ (tb_cons _ w_cl_X0_48)) (hts _ (tb_cons _ w_inst_NoSuchElementException)) (hts _ (tb_cons _ w_in_NoSuchElementException)) (Nat.le_refl _) (hl.1.trans hml.symm) dX0_ahead_8 dX0_ahead_11 dX0_ahead_12 dX0_ahead_15 hno (Nat.le_of_ble_eq_true rfl) (Nat.le_of_ble_eq_true rfl) (Nat.le_of_ble_eq_true rfl) (Nat.le_of_ble_eq_true rfl) (fun t ce hW h1 h2 h3 h4 h5 => ⟨_, ce, rfl, h3, h5, by rw [hW.alike.findClass]; exact h4, h1, h2⟩)
set_option maxHeartbeats 4000000 in
set_option maxRecDepth 100000 in
theorem bx_told_what (l : Launch) (hL : ∀ e : Env, l.admits e → e.platform.stackTraces = false) (G : va_G) (a : Nat → Nat) (C : Nat → ClassId) (K D : Nat → Int64) (Wt O : Nat → Int32) (n : Int32) {j : Nat} (hj : j < 200) (ht : 0 < Wt j) {y : Int32} (hy : y.toInt < 0 ∨ 2 < y.toInt) : tx_Met l yX0_told wsX0_told { frames := 6, cells := 1, slots := 6, locals := 90 } (va_Pc [.ref (a 0), .int (nI j), .int y] (bX G a C K D Wt O n)) (th_Q EIA) 1 6 (fun _ => False) := by
  refine q_openT (cc := cX0_told) (maxL := 3) (ret := (some .long)) (by decide) rfl (Nat.le_of_ble_eq_true rfl) ?_
  intro p e s m below meth c ls S hr hlk hno hB hl
  obtain ⟨hx, hb, hml, hown, hts⟩ := id S
  obtain ⟨⟨hP, hK⟩, hG⟩ := hB
  have hin : ∀ w ∈ u_ws RX0 TX0 5, w ∈ wsX0_told := fun w h => tb_cons w (hinX0 w h)
  have hl : lv_has ls 3 [(0, .ref (a 0)), (1, .int (nI j)), (2, .int y)] := hl
  refine lv_aload_n hx hb dX0_told_0 rfl (lv_at hl 0 rfl) ?_
  refine lv_iload_n hx hb dX0_told_1 rfl (lv_at hl 1 rfl) ?_
  refine rd_call (W.runV (As := [.int (nI j)]) (rest := []) S (cx_isThere_yes l G a C K D Wt O n hj ht) (cwV 1 hts (gX0_38 tb_cons) rfl rfl rfl (by decide +kernel) ⟨Nat.le_of_ble_eq_true rfl, Nat.le_of_ble_eq_true rfl⟩) (pX_V hP hK) rfl rfl hl.1 rfl (lv_room (Nat.le_of_ble_eq_true rfl)) dX0_told_2 ⟨Nat.zero_le _, Nat.zero_le _⟩) ?_
  refine lv_if_ne (tgt := 16) hx hb dX0_told_5 (by decide) (fun _ => ?_) (fun hc => absurd hc (by decide))
  refine lv_iload_n hx hb dX0_told_16 rfl (lv_at hl 2 rfl) ?_
  refine lv_tableOut (tgt := 66) hx hb dX0_told_17 (hy) (by decide) ?_
  exact tx_thr (names := ENM) hx hb hL hlk hown rfl (by decide) (own_ok own_IA (fun w h => hts w (tb_cons w h)) hG (hts _ (tb_cons _ w_inst_IllegalArgumentException))) (hts _ (tb_cons _ w_cl_X0_35)) (hts _ (tb_cons _ w_inst_IllegalArgumentException)) (hts _ (tb_cons _ w_in_IllegalArgumentException)) (Nat.le_refl _) (hl.1.trans hml.symm) dX0_told_66 dX0_told_69 dX0_told_70 dX0_told_73 hno (Nat.le_of_ble_eq_true rfl) (Nat.le_of_ble_eq_true rfl) (Nat.le_of_ble_eq_true rfl) (Nat.le_of_ble_eq_true rfl) (fun t ce hW h1 h2 h3 h4 h5 => ⟨_, ce, rfl, h3, h5, by rw [hW.alike.findClass]; exact h4, h1, h2⟩)
set_option maxHeartbeats 4000000 in
set_option maxRecDepth 100000 in
theorem bx_at_1 (l : Launch) (hL : ∀ e : Env, l.admits e → e.platform.stackTraces = false) (G : va_G) (a : Nat → Nat) (C : Nat → ClassId) (K D : Nat → Int64) (Wt O : Nat → Int32) (n : Int32) {x : Int32} (h : x < 0) : tx_Met l yX0_at wsX0_at { frames := 6, cells := 1, slots := 6, locals := 90 } (va_Pc [.ref (a 0), .int x] (bX G a C K D Wt O n)) (th_Q ENS) 1 6 (fun _ => False) := by
  refine q_openT (cc := cX0_at) (maxL := 2) (ret := (some .int)) (by decide) rfl (Nat.le_of_ble_eq_true rfl) ?_
  intro p e s m below meth c ls S hr hlk hno hB hl
  obtain ⟨hx, hb, hml, hown, hts⟩ := id S
  obtain ⟨⟨hP, hK⟩, hG⟩ := hB
  have hin : ∀ w ∈ u_ws RX0 TX0 5, w ∈ wsX0_at := fun w h => tb_cons w (hinX0 w h)
  have hl : lv_has ls 2 [(0, .ref (a 0)), (1, .int x)] := hl
  refine lv_iload_n hx hb dX0_at_0 rfl (lv_at hl 1 rfl) ?_
  refine lv_if_lt (tgt := 12) hx hb dX0_at_1 (by decide) (fun _ => ?_) (fun hc => absurd (h) hc)
  exact tx_thr (names := ENM) hx hb hL hlk hown rfl (by decide) (own_ok own_NS (fun w h => hts w (tb_cons w h)) hG (hts _ (tb_cons _ w_inst_NoSuchElementException))) (hts _ (tb_cons _ w_cl_X0_48)) (hts _ (tb_cons _ w_inst_NoSuchElementException)) (hts _ (tb_cons _ w_in_NoSuchElementException)) (Nat.le_refl _) (hl.1.trans hml.symm) dX0_at_12 dX0_at_15 dX0_at_16 dX0_at_19 hno (Nat.le_of_ble_eq_true rfl) (Nat.le_of_ble_eq_true rfl) (Nat.le_of_ble_eq_true rfl) (Nat.le_of_ble_eq_true rfl) (fun t ce hW h1 h2 h3 h4 h5 => ⟨_, ce, rfl, h3, h5, by rw [hW.alike.findClass]; exact h4, h1, h2⟩)
set_option maxHeartbeats 4000000 in
set_option maxRecDepth 100000 in
theorem bx_at_2 (l : Launch) (hL : ∀ e : Env, l.admits e → e.platform.stackTraces = false) (G : va_G) (a : Nat → Nat) (C : Nat → ClassId) (K D : Nat → Int64) (Wt O : Nat → Int32) (n : Int32) {x : Int32} (h : ¬ x < 0) (h2 : n ≤ x) : tx_Met l yX0_at wsX0_at { frames := 6, cells := 1, slots := 6, locals := 90 } (va_Pc [.ref (a 0), .int x] (bX G a C K D Wt O n)) (th_Q ENS) 1 6 (fun _ => False) := by
  refine q_openT (cc := cX0_at) (maxL := 2) (ret := (some .int)) (by decide) rfl (Nat.le_of_ble_eq_true rfl) ?_
  intro p e s m below meth c ls S hr hlk hno hB hl
  obtain ⟨hx, hb, hml, hown, hts⟩ := id S
  obtain ⟨⟨hP, hK⟩, hG⟩ := hB
  have hin : ∀ w ∈ u_ws RX0 TX0 5, w ∈ wsX0_at := fun w h => tb_cons w (hinX0 w h)
  have hl : lv_has ls 2 [(0, .ref (a 0)), (1, .int x)] := hl
  refine lv_iload_n hx hb dX0_at_0 rfl (lv_at hl 1 rfl) ?_
  refine lv_if_lt (tgt := 12) hx hb dX0_at_1 (by decide) (fun hc => absurd hc (h)) (fun _ => ?_)
  refine lv_iload_n hx hb dX0_at_4 rfl (lv_at hl 1 rfl) ?_
  refine lv_aload_n hx hb dX0_at_5 rfl (lv_at hl 0 rfl) ?_
  refine va_get (D := G) (ci := 0) (C := RX0) (T := TX0) (N := 5) hx hb hts hin hown hK hP 0 rfl rfl 4 (by decide) (hts _ (tb_cons _ w_fl_X0_23)) (fun _ h9 => h9) rfl dX0_at_6 ?_
  refine lv_icmp_lt (tgt := 20) hx hb dX0_at_9 (by decide) (fun hc => absurd hc (Int32.not_lt.mpr h2)) (fun _ => ?_)
  exact tx_thr (names := ENM) hx hb hL hlk hown rfl (by decide) (own_ok own_NS (fun w h => hts w (tb_cons w h)) hG (hts _ (tb_cons _ w_inst_NoSuchElementException))) (hts _ (tb_cons _ w_cl_X0_48)) (hts _ (tb_cons _ w_inst_NoSuchElementException)) (hts _ (tb_cons _ w_in_NoSuchElementException)) (Nat.le_refl _) (hl.1.trans hml.symm) dX0_at_12 dX0_at_15 dX0_at_16 dX0_at_19 hno (Nat.le_of_ble_eq_true rfl) (Nat.le_of_ble_eq_true rfl) (Nat.le_of_ble_eq_true rfl) (Nat.le_of_ble_eq_true rfl) (fun t ce hW h1 h2 h3 h4 h5 => ⟨_, ce, rfl, h3, h5, by rw [hW.alike.findClass]; exact h4, h1, h2⟩)
set_option maxHeartbeats 4000000 in
set_option maxRecDepth 100000 in
theorem bx_slide (l : Launch) (hL : ∀ e : Env, l.admits e → e.platform.stackTraces = false) (G : va_G) (a : Nat → Nat) (C : Nat → ClassId) (K D : Nat → Int64) (Wt O : Nat → Int32) {y : Int64} : tx_Met l yX0_slide wsX0_slide { frames := 6, cells := 1, slots := 6, locals := 90 } (va_Pc [.ref (a 0), .long y] (bX G a C K D Wt O 0)) (th_Q ENS) 1 6 (fun _ => False) := by
  refine q_openT (cc := cX0_slide) (maxL := 8) (ret := (some .long)) (by decide) rfl (Nat.le_of_ble_eq_true rfl) ?_
  intro p e s m below meth c ls S hr hlk hno hB hl
  obtain ⟨hx, hb, hml, hown, hts⟩ := id S
  obtain ⟨⟨hP, hK⟩, hG⟩ := hB
  have hin : ∀ w ∈ u_ws RX0 TX0 5, w ∈ wsX0_slide := fun w h => tb_cons w (hinX0 w h)
  have hl : lv_has ls 8 [(0, .ref (a 0)), (1, .long y)] := hl
  refine lv_aload_n hx hb dX0_slide_0 rfl (lv_at hl 0 rfl) ?_
  refine va_get (D := G) (ci := 0) (C := RX0) (T := TX0) (N := 5) hx hb hts hin hown hK hP 0 rfl rfl 4 (by decide) (hts _ (tb_cons _ w_fl_X0_23)) (fun _ h9 => h9) rfl dX0_slide_1 ?_
  refine lv_if_ne (tgt := 15) hx hb dX0_slide_4 (by decide) (fun hc => absurd (rfl) hc) (fun _ => ?_)
  exact tx_thr (names := ENM) hx hb hL hlk hown rfl (by decide) (own_ok own_NS (fun w h => hts w (tb_cons w h)) hG (hts _ (tb_cons _ w_inst_NoSuchElementException))) (hts _ (tb_cons _ w_cl_X0_48)) (hts _ (tb_cons _ w_inst_NoSuchElementException)) (hts _ (tb_cons _ w_in_NoSuchElementException)) (Nat.le_refl _) (hl.1.trans hml.symm) dX0_slide_7 dX0_slide_10 dX0_slide_11 dX0_slide_14 hno (Nat.le_of_ble_eq_true rfl) (Nat.le_of_ble_eq_true rfl) (Nat.le_of_ble_eq_true rfl) (Nat.le_of_ble_eq_true rfl) (fun t ce hW h1 h2 h3 h4 h5 => ⟨_, ce, rfl, h3, h5, by rw [hW.alike.findClass]; exact h4, h1, h2⟩)
set_option maxHeartbeats 4000000 in
set_option maxRecDepth 100000 in
theorem bx_half (l : Launch) (hL : ∀ e : Env, l.admits e → e.platform.stackTraces = false) (G : va_G) (a : Nat → Nat) (C : Nat → ClassId) (K D : Nat → Int64) (Wt O : Nat → Int32) : tx_Met l yX0_half wsX0_half { frames := 6, cells := 1, slots := 6, locals := 90 } (va_Pc [.ref (a 0)] (bX G a C K D Wt O 0)) (th_Q ENS) 1 6 (fun _ => False) := by
  refine q_openT (cc := cX0_half) (maxL := 4) (ret := (some .int)) (by decide) rfl (Nat.le_of_ble_eq_true rfl) ?_
  intro p e s m below meth c ls S hr hlk hno hB hl
  obtain ⟨hx, hb, hml, hown, hts⟩ := id S
  obtain ⟨⟨hP, hK⟩, hG⟩ := hB
  have hin : ∀ w ∈ u_ws RX0 TX0 5, w ∈ wsX0_half := fun w h => tb_cons w (hinX0 w h)
  have hl : lv_has ls 4 [(0, .ref (a 0))] := hl
  refine lv_aload_n hx hb dX0_half_0 rfl (lv_at hl 0 rfl) ?_
  refine va_get (D := G) (ci := 0) (C := RX0) (T := TX0) (N := 5) hx hb hts hin hown hK hP 0 rfl rfl 4 (by decide) (hts _ (tb_cons _ w_fl_X0_23)) (fun _ h9 => h9) rfl dX0_half_1 ?_
  refine lv_if_ne (tgt := 15) hx hb dX0_half_4 (by decide) (fun hc => absurd (rfl) hc) (fun _ => ?_)
  exact tx_thr (names := ENM) hx hb hL hlk hown rfl (by decide) (own_ok own_NS (fun w h => hts w (tb_cons w h)) hG (hts _ (tb_cons _ w_inst_NoSuchElementException))) (hts _ (tb_cons _ w_cl_X0_48)) (hts _ (tb_cons _ w_inst_NoSuchElementException)) (hts _ (tb_cons _ w_in_NoSuchElementException)) (Nat.le_refl _) (hl.1.trans hml.symm) dX0_half_7 dX0_half_10 dX0_half_11 dX0_half_14 hno (Nat.le_of_ble_eq_true rfl) (Nat.le_of_ble_eq_true rfl) (Nat.le_of_ble_eq_true rfl) (Nat.le_of_ble_eq_true rfl) (fun t ce hW h1 h2 h3 h4 h5 => ⟨_, ce, rfl, h3, h5, by rw [hW.alike.findClass]; exact h4, h1, h2⟩)
set_option maxHeartbeats 4000000 in
set_option maxRecDepth 100000 in
theorem bx_nearest (l : Launch) (hL : ∀ e : Env, l.admits e → e.platform.stackTraces = false) (G : va_G) (a : Nat → Nat) (C : Nat → ClassId) (K D : Nat → Int64) (Wt O : Nat → Int32) (n : Int32) (h : n < 2) : tx_Met l yX0_nearest wsX0_nearest { frames := 6, cells := 1, slots := 6, locals := 90 } (va_Pc [.ref (a 0)] (bX G a C K D Wt O n)) (th_Q ENS) 1 6 (fun _ => False) := by
  refine q_openT (cc := cX0_nearest) (maxL := 4) (ret := (some .long)) (by decide) rfl (Nat.le_of_ble_eq_true rfl) ?_
  intro p e s m below meth c ls S hr hlk hno hB hl
  obtain ⟨hx, hb, hml, hown, hts⟩ := id S
  obtain ⟨⟨hP, hK⟩, hG⟩ := hB
  have hin : ∀ w ∈ u_ws RX0 TX0 5, w ∈ wsX0_nearest := fun w h => tb_cons w (hinX0 w h)
  have hl : lv_has ls 4 [(0, .ref (a 0))] := hl
  refine lv_aload_n hx hb dX0_nearest_0 rfl (lv_at hl 0 rfl) ?_
  refine va_get (D := G) (ci := 0) (C := RX0) (T := TX0) (N := 5) hx hb hts hin hown hK hP 0 rfl rfl 4 (by decide) (hts _ (tb_cons _ w_fl_X0_23)) (fun _ h9 => h9) rfl dX0_nearest_1 ?_
  refine lv_iconst (v := 2) hx hb dX0_nearest_4 (by decide) ?_
  refine lv_icmp_ge (tgt := 16) hx hb dX0_nearest_5 (by decide) (fun hc => absurd hc (Int32.not_le.mpr h)) (fun _ => ?_)
  exact tx_thr (names := ENM) hx hb hL hlk hown rfl (by decide) (own_ok own_NS (fun w h => hts w (tb_cons w h)) hG (hts _ (tb_cons _ w_inst_NoSuchElementException))) (hts _ (tb_cons _ w_cl_X0_48)) (hts _ (tb_cons _ w_inst_NoSuchElementException)) (hts _ (tb_cons _ w_in_NoSuchElementException)) (Nat.le_refl _) (hl.1.trans hml.symm) dX0_nearest_8 dX0_nearest_11 dX0_nearest_12 dX0_nearest_15 hno (Nat.le_of_ble_eq_true rfl) (Nat.le_of_ble_eq_true rfl) (Nat.le_of_ble_eq_true rfl) (Nat.le_of_ble_eq_true rfl) (fun t ce hW h1 h2 h3 h4 h5 => ⟨_, ce, rfl, h3, h5, by rw [hW.alike.findClass]; exact h4, h1, h2⟩)
set_option maxHeartbeats 4000000 in
set_option maxRecDepth 100000 in
theorem bx_slide_2 (l : Launch) (hL : ∀ e : Env, l.admits e → e.platform.stackTraces = false) (G : va_G) (a : Nat → Nat) (C : Nat → ClassId) (K D : Nat → Int64) (Wt O : Nat → Int32) (Lf : Nat → Nat) (sz : Nat) (hs : sz ≤ 200) (hO : ∀ i, i < sz → O i = nI (Lf i) ∧ Lf i < 200) (hs0 : 0 < sz) {y : Int64} (h : y < (-2199023255552 : Int64) - K (Lf 0) ∨ (2199023255552 : Int64) - K (Lf (sz - 1)) < y) : tx_Met l yX0_slide wsX0_slide { frames := 6, cells := 1, slots := 6, locals := 90 } (va_Pc [.ref (a 0), .long y] (bX G a C K D Wt O (nI sz))) (th_Q EIA) 1 6 (fun _ => False) := by
  refine q_openT (cc := cX0_slide) (maxL := 8) (ret := (some .long)) (by decide) rfl (Nat.le_of_ble_eq_true rfl) ?_
  intro p e s m below meth c ls S hr hlk hno hB hl
  obtain ⟨hx, hb, hml, hown, hts⟩ := id S
  obtain ⟨⟨hP, hK⟩, hG⟩ := hB
  have hin : ∀ w ∈ u_ws RX0 TX0 5, w ∈ wsX0_slide := fun w h => tb_cons w (hinX0 w h)
  have hl : lv_has ls 8 [(0, .ref (a 0)), (1, .long y)] := hl
  refine lv_aload_n hx hb dX0_slide_0 rfl (lv_at hl 0 rfl) ?_
  refine va_get (D := G) (ci := 0) (C := RX0) (T := TX0) (N := 5) hx hb hts hin hown hK hP 0 rfl rfl 4 (by decide) (hts _ (tb_cons _ w_fl_X0_23)) (fun _ h9 => h9) rfl dX0_slide_1 ?_
  refine lv_if_ne (tgt := 15) hx hb dX0_slide_4 (by decide) (fun _ => ?_) (fun hc => absurd hc (nI_ne0 hs0 (by omega)))
  refine lv_ldc2 (v := (-2199023255552)) hx hb hown (hts _ (tb_cons _ w_k_X0_51)) dX0_slide_15 ?_
  refine lv_aload_n hx hb dX0_slide_18 rfl (lv_at hl 0 rfl) ?_
  refine lv_iconst (v := 0) hx hb dX0_slide_19 (by decide) ?_
  refine q_topi (y := nI 0) rfl ?_
  refine rd_call (W.runV (As := [.int (nI 0)]) (rest := [.long (-2199023255552)]) S (cx_keyAt l G a C K D Wt O (nI sz) (i := 0) (by omega) (hO (0) (by omega)).1 (hO (0) (by omega)).2) (cwV 1 hts (gX0_53 tb_cons) rfl rfl rfl (by decide +kernel) ⟨Nat.le_of_ble_eq_true rfl, Nat.le_of_ble_eq_true rfl⟩) (pX_V hP hK) rfl rfl hl.1 rfl (lv_room (Nat.le_of_ble_eq_true rfl)) dX0_slide_20 ⟨Nat.zero_le _, Nat.zero_le _⟩) ?_
  refine lv_lsub hx hb dX0_slide_23 ?_
  refine lv_lstore_n hx hb dX0_slide_24 rfl hl (by decide) rfl (fun ls hl => ?_)
  have hl : lv_has ls 8 [(3, .long ((-2199023255552) - (K (Lf 0)))), (0, .ref (a 0)), (1, .long y)] := hl
  refine lv_ldc2 (v := 2199023255552) hx hb hown (hts _ (tb_cons _ w_k_X0_57)) dX0_slide_25 ?_
  refine lv_aload_n hx hb dX0_slide_28 rfl (lv_at hl 1 rfl) ?_
  refine lv_aload_n hx hb dX0_slide_29 rfl (lv_at hl 1 rfl) ?_
  refine va_get (D := G) (ci := 0) (C := RX0) (T := TX0) (N := 5) hx hb hts hin hown hK hP 0 rfl rfl 4 (by decide) (hts _ (tb_cons _ w_fl_X0_23)) (fun _ h9 => h9) rfl dX0_slide_30 ?_
  refine lv_iconst (v := 1) hx hb dX0_slide_33 (by decide) ?_
  refine lv_isub hx hb dX0_slide_34 ?_
  refine q_topi (y := nI (sz - 1)) (q_pred hs0) ?_
  refine rd_call (W.runV (As := [.int (nI (sz - 1))]) (rest := [.long 2199023255552]) S (cx_keyAt l G a C K D Wt O (nI sz) (i := sz - 1) (by omega) (hO (sz - 1) (by omega)).1 (hO (sz - 1) (by omega)).2) (cwV 1 hts (gX0_53 tb_cons) rfl rfl rfl (by decide +kernel) ⟨Nat.le_of_ble_eq_true rfl, Nat.le_of_ble_eq_true rfl⟩) (pX_V hP hK) rfl rfl hl.1 rfl (lv_room (Nat.le_of_ble_eq_true rfl)) dX0_slide_35 ⟨Nat.zero_le _, Nat.zero_le _⟩) ?_
  refine lv_lsub hx hb dX0_slide_38 ?_
  refine lv_lstore hx hb dX0_slide_39 hl (by decide) rfl (fun ls hl => ?_)
  have hl : lv_has ls 8 [(5, .long (2199023255552 - (K (Lf (sz - 1))))), (3, .long ((-2199023255552) - (K (Lf 0)))), (0, .ref (a 0)), (1, .long y)] := hl
  refine lv_lload_n hx hb dX0_slide_41 rfl (lv_at hl 3 rfl) ?_
  refine lv_lload_n hx hb dX0_slide_42 rfl (lv_at hl 1 rfl) ?_
  refine W.lcmp hx hb dX0_slide_43 ?_
  refine lv_if_lt (tgt := 54) hx hb dX0_slide_44 (by decide) (fun hc => ?_) (fun hc => ?_)
  · exact tx_thr (names := ENM) hx hb hL hlk hown rfl (by decide) (own_ok own_IA (fun w h => hts w (tb_cons w h)) hG (hts _ (tb_cons _ w_inst_IllegalArgumentException))) (hts _ (tb_cons _ w_cl_X0_35)) (hts _ (tb_cons _ w_inst_IllegalArgumentException)) (hts _ (tb_cons _ w_in_IllegalArgumentException)) (Nat.le_refl _) (hl.1.trans hml.symm) dX0_slide_54 dX0_slide_57 dX0_slide_58 dX0_slide_61 hno (Nat.le_of_ble_eq_true rfl) (Nat.le_of_ble_eq_true rfl) (Nat.le_of_ble_eq_true rfl) (Nat.le_of_ble_eq_true rfl) (fun t ce hW h1 h2 h3 h4 h5 => ⟨_, ce, rfl, h3, h5, by rw [hW.alike.findClass]; exact h4, h1, h2⟩)
  · refine lv_lload_n hx hb dX0_slide_47 rfl (lv_at hl 3 rfl) ?_
    refine lv_lload hx hb dX0_slide_48 (lv_at hl 0 rfl) ?_
    refine W.lcmp hx hb dX0_slide_50 ?_
    refine lv_if_le (tgt := 62) hx hb dX0_slide_51 (by decide) (fun hc2 => absurd hc2 (fun q => Int64.not_le.mpr (h.resolve_left (fun r => hc ((lg_cmp_lt _ _).mpr r))) ((lg_cmp_le _ _).mp q))) (fun _ => ?_)
    exact tx_thr (names := ENM) hx hb hL hlk hown rfl (by decide) (own_ok own_IA (fun w h => hts w (tb_cons w h)) hG (hts _ (tb_cons _ w_inst_IllegalArgumentException))) (hts _ (tb_cons _ w_cl_X0_35)) (hts _ (tb_cons _ w_inst_IllegalArgumentException)) (hts _ (tb_cons _ w_in_IllegalArgumentException)) (Nat.le_refl _) (hl.1.trans hml.symm) dX0_slide_54 dX0_slide_57 dX0_slide_58 dX0_slide_61 hno (Nat.le_of_ble_eq_true rfl) (Nat.le_of_ble_eq_true rfl) (Nat.le_of_ble_eq_true rfl) (Nat.le_of_ble_eq_true rfl) (fun t ce hW h1 h2 h3 h4 h5 => ⟨_, ce, rfl, h3, h5, by rw [hW.alike.findClass]; exact h4, h1, h2⟩)
set_option maxHeartbeats 4000000 in
set_option maxRecDepth 100000 in
theorem bx_earliestOfPlaces (l : Launch) (hL : ∀ e : Env, l.admits e → e.platform.stackTraces = false) (G : va_G) (a : Nat → Nat) (C : Nat → ClassId) (K D : Nat → Int64) (Wt O : Nat → Int32) (n : Int32) {u v : Nat} (h : v ≤ u) (hu : u < 2 ^ 31) : tx_Met l yX0_earliestOfPlaces wsX0_earliestOfPlaces { frames := 6, cells := 1, slots := 6, locals := 90 } (va_Pc [.ref (a 0), .int (nI u), .int (nI v)] (bX G a C K D Wt O n)) (th_Q ENS) 1 6 (fun _ => False) := by
  refine q_openT (cc := cX0_earliestOfPlaces) (maxL := 5) (ret := (some .int)) (by decide) rfl (Nat.le_of_ble_eq_true rfl) ?_
  intro p e s m below meth c ls S hr hlk hno hB hl
  obtain ⟨hx, hb, hml, hown, hts⟩ := id S
  obtain ⟨⟨hP, hK⟩, hG⟩ := hB
  have hin : ∀ w ∈ u_ws RX0 TX0 5, w ∈ wsX0_earliestOfPlaces := fun w h => tb_cons w (hinX0 w h)
  have hl : lv_has ls 5 [(0, .ref (a 0)), (1, .int (nI u)), (2, .int (nI v))] := hl
  refine lv_iload_n hx hb dX0_earliestOfPlaces_0 rfl (lv_at hl 1 rfl) ?_
  refine lv_iload_n hx hb dX0_earliestOfPlaces_1 rfl (lv_at hl 2 rfl) ?_
  refine lv_icmp_lt (tgt := 13) hx hb dX0_earliestOfPlaces_2 (by decide) (fun hc => absurd hc (nI_nlt h hu)) (fun _ => ?_)
  exact tx_thr (names := ENM) hx hb hL hlk hown rfl (by decide) (own_ok own_NS (fun w h => hts w (tb_cons w h)) hG (hts _ (tb_cons _ w_inst_NoSuchElementException))) (hts _ (tb_cons _ w_cl_X0_48)) (hts _ (tb_cons _ w_inst_NoSuchElementException)) (hts _ (tb_cons _ w_in_NoSuchElementException)) (Nat.le_refl _) (hl.1.trans hml.symm) dX0_earliestOfPlaces_5 dX0_earliestOfPlaces_8 dX0_earliestOfPlaces_9 dX0_earliestOfPlaces_12 hno (Nat.le_of_ble_eq_true rfl) (Nat.le_of_ble_eq_true rfl) (Nat.le_of_ble_eq_true rfl) (Nat.le_of_ble_eq_true rfl) (fun t ce hW h1 h2 h3 h4 h5 => ⟨_, ce, rfl, h3, h5, by rw [hW.alike.findClass]; exact h4, h1, h2⟩)
set_option maxHeartbeats 4000000 in
set_option maxRecDepth 100000 in
theorem bx_earliest (l : Launch) (hL : ∀ e : Env, l.admits e → e.platform.stackTraces = false) (G : va_G) (a : Nat → Nat) (C : Nat → ClassId) (K D : Nat → Int64) (Wt O : Nat → Int32) (Lf : Nat → Nat) (sz : Nat) (hs : sz ≤ 200) (hO : ∀ i, i < sz → O i = nI (Lf i) ∧ Lf i < 200) {key : Int64} (h : (ft_fb (fun i => ft_sb K key 200 (Lf i)) sz 0) ≤ 0) : tx_Met l yX0_earliest wsX0_earliest { frames := 7, cells := 1, slots := 6, locals := 120 } (va_Pc [.ref (a 0), .long key] (bX G a C K D Wt O (nI sz))) (th_Q ENS) 1 6 (fun _ => False) := by
  refine q_openT (cc := cX0_earliest) (maxL := 3) (ret := (some .int)) (by decide) rfl (Nat.le_of_ble_eq_true rfl) ?_
  intro p e s m below meth c ls S hr hlk hno hB hl
  obtain ⟨hx, hb, hml, hown, hts⟩ := id S
  obtain ⟨⟨hP, hK⟩, hG⟩ := hB
  have hin : ∀ w ∈ u_ws RX0 TX0 5, w ∈ wsX0_earliest := fun w h => tb_cons w (hinX0 w h)
  have hl : lv_has ls 3 [(0, .ref (a 0)), (1, .long key)] := hl
  refine lv_aload_n hx hb dX0_earliest_0 rfl (lv_at hl 0 rfl) ?_
  refine lv_iconst (v := 0) hx hb dX0_earliest_1 (by decide) ?_
  refine q_topi (y := nI 0) rfl ?_
  refine lv_aload_n hx hb dX0_earliest_2 rfl (lv_at hl 0 rfl) ?_
  refine lv_lload_n hx hb dX0_earliest_3 rfl (lv_at hl 1 rfl) ?_
  refine rd_call (W.runV (As := [.long key]) (rest := [.int (nI 0), .ref (a 0)]) S (cx_placesNotAbove l G a C K D Wt O Lf sz hs hO key) (cwV 1 hts (gX0_63 tb_cons) rfl rfl rfl (by decide +kernel) ⟨Nat.le_of_ble_eq_true rfl, Nat.le_of_ble_eq_true rfl⟩) (pX_V hP hK) rfl rfl hl.1 rfl (lv_room (Nat.le_of_ble_eq_true rfl)) dX0_earliest_4 ⟨Nat.zero_le _, Nat.zero_le _⟩) ?_
  refine tx_runV (As := [.int (nI 0), .int (nI (ft_fb (fun i => ft_sb K key 200 (Lf i)) sz 0))]) (rest := []) S (bx_earliestOfPlaces l hL G a C K D Wt O (nI sz) (u := 0) (v := (ft_fb (fun i => ft_sb K key 200 (Lf i)) sz 0)) h (by decide)) (cwV 2 hts (gX0_67 tb_cons) rfl rfl rfl (by decide +kernel) ⟨Nat.le_of_ble_eq_true rfl, Nat.le_of_ble_eq_true rfl⟩) (pXb_V hP hK hG) rfl hl.1 rfl (lv_room (Nat.le_of_ble_eq_true rfl)) dX0_earliest_7 ⟨Nat.le_of_ble_eq_true rfl, Nat.le_of_ble_eq_true rfl⟩ (fun o st t H1 L h0 h1 ha9 hq hL9 => ?_)
  obtain ⟨x9, ce, ho, h3, h5, h4, h6, h7⟩ := hq
  subst ho
  refine ⟨fun v hv => (by cases hv), fun x hx9 => ?_⟩
  cases hx9
  exact tx_out hlk (fun q hq => by rw [hno] at hq; cases hq) (fun u hu hW9 => ⟨x9, ce, rfl, by rw [hu, ← h1]; exact h3, h5, by rw [hW9.alike.findClass, ← ha9.findClass]; exact h4, by rw [hu, ← h1, ← h0]; exact h6, fun q hq => by rw [hu, ← h1, ← h0]; exact h7 q (by rw [h0]; exact hq)⟩) (fun q hq => (hL9 q hq).elim)
set_option maxHeartbeats 4000000 in
set_option maxRecDepth 100000 in
theorem bx_between (l : Launch) (hL : ∀ e : Env, l.admits e → e.platform.stackTraces = false) (G : va_G) (a : Nat → Nat) (C : Nat → ClassId) (K D : Nat → Int64) (Wt O : Nat → Int32) (Lf : Nat → Nat) (sz : Nat) (hs : sz ≤ 200) (hO : ∀ i, i < sz → O i = nI (Lf i) ∧ Lf i < 200) {lo hi : Int64} (h : (ft_fb (fun i => ft_sb K hi 200 (Lf i)) sz 0) ≤ (ft_fb (fun i => ft_sb K lo 0 (Lf i)) sz 0)) : tx_Met l yX0_between wsX0_between { frames := 7, cells := 1, slots := 6, locals := 120 } (va_Pc [.ref (a 0), .long lo, .long hi] (bX G a C K D Wt O (nI sz))) (th_Q ENS) 1 6 (fun _ => False) := by
  refine q_openT (cc := cX0_between) (maxL := 5) (ret := (some .int)) (by decide) rfl (Nat.le_of_ble_eq_true rfl) ?_
  intro p e s m below meth c ls S hr hlk hno hB hl
  obtain ⟨hx, hb, hml, hown, hts⟩ := id S
  obtain ⟨⟨hP, hK⟩, hG⟩ := hB
  have hin : ∀ w ∈ u_ws RX0 TX0 5, w ∈ wsX0_between := fun w h => tb_cons w (hinX0 w h)
  have hl : lv_has ls 5 [(0, .ref (a 0)), (1, .long lo), (3, .long hi)] := hl
  refine lv_aload_n hx hb dX0_between_0 rfl (lv_at hl 0 rfl) ?_
  refine lv_aload_n hx hb dX0_between_1 rfl (lv_at hl 0 rfl) ?_
  refine lv_lload_n hx hb dX0_between_2 rfl (lv_at hl 1 rfl) ?_
  refine rd_call (W.runV (As := [.long lo]) (rest := [.ref (a 0)]) S (cx_placesBelow l G a C K D Wt O Lf sz hs hO lo) (cwV 1 hts (gX0_71 tb_cons) rfl rfl rfl (by decide +kernel) ⟨Nat.le_of_ble_eq_true rfl, Nat.le_of_ble_eq_true rfl⟩) (pX_V hP hK) rfl rfl hl.1 rfl (lv_room (Nat.le_of_ble_eq_true rfl)) dX0_between_3 ⟨Nat.zero_le _, Nat.zero_le _⟩) ?_
  refine lv_aload_n hx hb dX0_between_6 rfl (lv_at hl 0 rfl) ?_
  refine lv_lload_n hx hb dX0_between_7 rfl (lv_at hl 2 rfl) ?_
  refine rd_call (W.runV (As := [.long hi]) (rest := [.int (nI (ft_fb (fun i => ft_sb K lo 0 (Lf i)) sz 0)), .ref (a 0)]) S (cx_placesNotAbove l G a C K D Wt O Lf sz hs hO hi) (cwV 1 hts (gX0_63 tb_cons) rfl rfl rfl (by decide +kernel) ⟨Nat.le_of_ble_eq_true rfl, Nat.le_of_ble_eq_true rfl⟩) (pX_V hP hK) rfl rfl hl.1 rfl (lv_room (Nat.le_of_ble_eq_true rfl)) dX0_between_8 ⟨Nat.zero_le _, Nat.zero_le _⟩) ?_
  refine tx_runV (As := [.int (nI (ft_fb (fun i => ft_sb K lo 0 (Lf i)) sz 0)), .int (nI (ft_fb (fun i => ft_sb K hi 200 (Lf i)) sz 0))]) (rest := []) S (bx_earliestOfPlaces l hL G a C K D Wt O (nI sz) (u := (ft_fb (fun i => ft_sb K lo 0 (Lf i)) sz 0)) (v := (ft_fb (fun i => ft_sb K hi 200 (Lf i)) sz 0)) h (by have := (ft_fb_spec (fun i => ft_sb K lo 0 (Lf i)) sz 0).2.1; omega)) (cwV 2 hts (gX0_67 tb_cons) rfl rfl rfl (by decide +kernel) ⟨Nat.le_of_ble_eq_true rfl, Nat.le_of_ble_eq_true rfl⟩) (pXb_V hP hK hG) rfl hl.1 rfl (lv_room (Nat.le_of_ble_eq_true rfl)) dX0_between_11 ⟨Nat.le_of_ble_eq_true rfl, Nat.le_of_ble_eq_true rfl⟩ (fun o st t H1 L h0 h1 ha9 hq hL9 => ?_)
  obtain ⟨x9, ce, ho, h3, h5, h4, h6, h7⟩ := hq
  subst ho
  refine ⟨fun v hv => (by cases hv), fun x hx9 => ?_⟩
  cases hx9
  exact tx_out hlk (fun q hq => by rw [hno] at hq; cases hq) (fun u hu hW9 => ⟨x9, ce, rfl, by rw [hu, ← h1]; exact h3, h5, by rw [hW9.alike.findClass, ← ha9.findClass]; exact h4, by rw [hu, ← h1, ← h0]; exact h6, fun q hq => by rw [hu, ← h1, ← h0]; exact h7 q (by rw [h0]; exact hq)⟩) (fun q hq => (hL9 q hq).elim)
set_option maxHeartbeats 4000000 in
set_option maxRecDepth 100000 in
theorem bx_pick (l : Launch) (hL : ∀ e : Env, l.admits e → e.platform.stackTraces = false) (G : va_G) (a : Nat → Nat) (C : Nat → ClassId) (K D : Nat → Int64) (Wt O : Nat → Int32) (Lf : Nat → Nat) (sz : Nat) (hs : sz ≤ 200) (hO : ∀ i, i < sz → O i = nI (Lf i) ∧ Lf i < 200) (h : (ft_fb (fun i => decide (K (Lf i) * (ft_sum (fun a b : Int32 => a + b) 0 (fun i => Wt (Lf i)) sz).toInt64 ≤ (ft_sum (fun a b : Int64 => a + b) 0 (fun i => K (Lf i) * (Wt (Lf i)).toInt64) sz))) sz 0) ≤ 0) : tx_Met l yX0_pick wsX0_pick { frames := 7, cells := 1, slots := 6, locals := 120 } (va_Pc [.ref (a 0)] (bX G a C K D Wt O (nI sz))) (th_Q ENS) 1 6 (fun _ => False) := by
  refine q_openT (cc := cX0_pick) (maxL := 1) (ret := (some .int)) (by decide) rfl (Nat.le_of_ble_eq_true rfl) ?_
  intro p e s m below meth c ls S hr hlk hno hB hl
  obtain ⟨hx, hb, hml, hown, hts⟩ := id S
  obtain ⟨⟨hP, hK⟩, hG⟩ := hB
  have hin : ∀ w ∈ u_ws RX0 TX0 5, w ∈ wsX0_pick := fun w h => tb_cons w (hinX0 w h)
  have hl : lv_has ls 1 [(0, .ref (a 0))] := hl
  refine lv_aload_n hx hb dX0_pick_0 rfl (lv_at hl 0 rfl) ?_
  refine lv_iconst (v := 0) hx hb dX0_pick_1 (by decide) ?_
  refine q_topi (y := nI 0) rfl ?_
  refine lv_aload_n hx hb dX0_pick_2 rfl (lv_at hl 0 rfl) ?_
  refine rd_call (W.runV (As := []) (rest := [.int (nI 0), .ref (a 0)]) S (cx_fairPlaces l G a C K D Wt O Lf sz hs hO) (cwV 0 hts (gX0_74 tb_cons) rfl rfl rfl (by decide +kernel) ⟨Nat.le_of_ble_eq_true rfl, Nat.le_of_ble_eq_true rfl⟩) (pX_V hP hK) rfl rfl hl.1 rfl (lv_room (Nat.le_of_ble_eq_true rfl)) dX0_pick_3 ⟨Nat.zero_le _, Nat.zero_le _⟩) ?_
  refine tx_runV (As := [.int (nI 0), .int (nI (ft_fb (fun i => decide (K (Lf i) * (ft_sum (fun a b : Int32 => a + b) 0 (fun i => Wt (Lf i)) sz).toInt64 ≤ (ft_sum (fun a b : Int64 => a + b) 0 (fun i => K (Lf i) * (Wt (Lf i)).toInt64) sz))) sz 0))]) (rest := []) S (bx_earliestOfPlaces l hL G a C K D Wt O (nI sz) (u := 0) (v := (ft_fb (fun i => decide (K (Lf i) * (ft_sum (fun a b : Int32 => a + b) 0 (fun i => Wt (Lf i)) sz).toInt64 ≤ (ft_sum (fun a b : Int64 => a + b) 0 (fun i => K (Lf i) * (Wt (Lf i)).toInt64) sz))) sz 0)) h (by decide)) (cwV 2 hts (gX0_67 tb_cons) rfl rfl rfl (by decide +kernel) ⟨Nat.le_of_ble_eq_true rfl, Nat.le_of_ble_eq_true rfl⟩) (pXb_V hP hK hG) rfl hl.1 rfl (lv_room (Nat.le_of_ble_eq_true rfl)) dX0_pick_6 ⟨Nat.le_of_ble_eq_true rfl, Nat.le_of_ble_eq_true rfl⟩ (fun o st t H1 L h0 h1 ha9 hq hL9 => ?_)
  obtain ⟨x9, ce, ho, h3, h5, h4, h6, h7⟩ := hq
  subst ho
  refine ⟨fun v hv => (by cases hv), fun x hx9 => ?_⟩
  cases hx9
  exact tx_out hlk (fun q hq => by rw [hno] at hq; cases hq) (fun u hu hW9 => ⟨x9, ce, rfl, by rw [hu, ← h1]; exact h3, h5, by rw [hW9.alike.findClass, ← ha9.findClass]; exact h4, by rw [hu, ← h1, ← h0]; exact h6, fun q hq => by rw [hu, ← h1, ← h0]; exact h7 q (by rw [h0]; exact hq)⟩) (fun q hq => (hL9 q hq).elim)
end
section
set_option maxHeartbeats 4000000 in
set_option maxRecDepth 100000 in
theorem cm_thrown (l : Launch) (G : va_G) (a : Nat → Nat) (C : Nat → ClassId) (T : Nat → Bool) (K D : Nat → Int64) (w : Nat → Int32) (th : Int32) : Met l yX1_thrown wsX1_thrown rm0 (va_Pc [.ref (a 0)] (rM G a C T K D w th)) (rd_Q (.int th)) 0 0 (fun _ => False) := by
  refine q_open (cc := cX1_thrown) (maxL := 1) (ret := (some .int)) (by decide) rfl (Nat.le_of_ble_eq_true rfl) ?_
  intro p e s m below meth c ls S hr hlk hB hl
  obtain ⟨hx, hb, hml, hown, hts⟩ := id S
  obtain ⟨hP, hK⟩ := hB
  have hin : ∀ w ∈ u_ws RX1 TX1 5, w ∈ wsX1_thrown := fun w h => tb_cons w (hinX1 w h)
  have hl : lv_has ls 1 [(0, .ref (a 0))] := hl
  refine lv_aload_n hx hb dX1_thrown_0 rfl (lv_at hl 0 rfl) ?_
  refine va_get (D := G) (ci := 1) (C := RX1) (T := TX1) (N := 5) hx hb hts hin hown hK hP 0 rfl rfl 4 (by decide) (hts _ (tb_cons _ w_fl_X1_24)) (fun _ h9 => h9) rfl dX1_thrown_1 ?_
  exact W.iret hx hb hr (fun t ht _ => ⟨rfl, ht⟩) (fun q h => by cases h) dX1_thrown_4
set_option maxHeartbeats 4000000 in
set_option maxRecDepth 100000 in
theorem cm_before (l : Launch) (G : va_G) (a : Nat → Nat) (C : Nat → ClassId) (T : Nat → Bool) (K D : Nat → Int64) (w : Nat → Int32) (th : Int32) {j f : Nat} (hj : j < 200) (hf : f < 200) : Met l yX1_before wsX1_before rm0 (va_Pc [.ref (a 0), .int (nI j), .int (nI f)] (rM G a C T K D w th)) (rd_Q (.int (if ft_sb K (K f) (nI f) j = true then 1 else 0))) 0 0 (fun _ => False) := by
  refine q_open (cc := cX1_before) (maxL := 3) (ret := (some .boolean)) (by decide) rfl (Nat.le_of_ble_eq_true rfl) ?_
  intro p e s m below meth c ls S hr hlk hB hl
  obtain ⟨hx, hb, hml, hown, hts⟩ := id S
  obtain ⟨hP, hK⟩ := hB
  have hin : ∀ w ∈ u_ws RX1 TX1 5, w ∈ wsX1_before := fun w h => tb_cons w (hinX1 w h)
  have hl : lv_has ls 3 [(0, .ref (a 0)), (1, .int (nI j)), (2, .int (nI f))] := hl
  refine lv_aload_n hx hb dX1_before_0 rfl (lv_at hl 0 rfl) ?_
  refine va_get (D := G) (ci := 1) (C := RX1) (T := TX1) (N := 5) hx hb hts hin hown hK hP 0 rfl rfl 1 (by decide) (hts _ (tb_cons _ w_fl_X1_13)) (fun _ h9 => h9) rfl dX1_before_1 ?_
  refine lv_iload_n hx hb dX1_before_4 rfl (lv_at hl 1 rfl) ?_
  refine q_lald hx hb hK hP 2 1 rfl rfl (j) rfl hj (by decide) dX1_before_5 ?_
  refine lv_aload_n hx hb dX1_before_6 rfl (lv_at hl 0 rfl) ?_
  refine va_get (D := G) (ci := 1) (C := RX1) (T := TX1) (N := 5) hx hb hts hin hown hK hP 0 rfl rfl 1 (by decide) (hts _ (tb_cons _ w_fl_X1_13)) (fun _ h9 => h9) rfl dX1_before_7 ?_
  refine lv_iload_n hx hb dX1_before_10 rfl (lv_at hl 2 rfl) ?_
  refine q_lald hx hb hK hP 2 1 rfl rfl (f) rfl hf (by decide) dX1_before_11 ?_
  refine W.lcmp hx hb dX1_before_12 ?_
  refine lv_if_lt (tgt := 37) hx hb dX1_before_13 (by decide) (fun h1 => ?_) (fun h1 => ?_)
  · refine lv_iconst (v := 1) hx hb dX1_before_37 (by decide) ?_
    refine lv_goto (tgt := 42) hx hb dX1_before_38 (by decide) ?_
    exact W.zret hx hb hr rfl (fun t ht _ => ⟨by rw [if_pos (ft_sb_iff.mpr (Or.inl ((lg_cmp_lt _ _).mp h1)))], ht⟩) (fun q h => by cases h) dX1_before_42
  · refine lv_aload_n hx hb dX1_before_16 rfl (lv_at hl 0 rfl) ?_
    refine va_get (D := G) (ci := 1) (C := RX1) (T := TX1) (N := 5) hx hb hts hin hown hK hP 0 rfl rfl 1 (by decide) (hts _ (tb_cons _ w_fl_X1_13)) (fun _ h9 => h9) rfl dX1_before_17 ?_
    refine lv_iload_n hx hb dX1_before_20 rfl (lv_at hl 1 rfl) ?_
    refine q_lald hx hb hK hP 2 1 rfl rfl (j) rfl hj (by decide) dX1_before_21 ?_
    refine lv_aload_n hx hb dX1_before_22 rfl (lv_at hl 0 rfl) ?_
    refine va_get (D := G) (ci := 1) (C := RX1) (T := TX1) (N := 5) hx hb hts hin hown hK hP 0 rfl rfl 1 (by decide) (hts _ (tb_cons _ w_fl_X1_13)) (fun _ h9 => h9) rfl dX1_before_23 ?_
    refine lv_iload_n hx hb dX1_before_26 rfl (lv_at hl 2 rfl) ?_
    refine q_lald hx hb hK hP 2 1 rfl rfl (f) rfl hf (by decide) dX1_before_27 ?_
    refine W.lcmp hx hb dX1_before_28 ?_
    refine lv_if_ne (tgt := 41) hx hb dX1_before_29 (by decide) (fun h2 => ?_) (fun h2 => ?_)
    · refine lv_iconst (v := 0) hx hb dX1_before_41 (by decide) ?_
      exact W.zret hx hb hr rfl (fun t ht _ => ⟨by rw [if_neg (fun q => (ft_sb_iff.mp q).elim (fun z => h1 ((lg_cmp_lt _ _).mpr z)) (fun z => h2 ((lg_cmp_eq _ _).mpr z.1)))], ht⟩) (fun q h => by cases h) dX1_before_42
    · refine lv_iload_n hx hb dX1_before_32 rfl (lv_at hl 1 rfl) ?_
      refine lv_iload_n hx hb dX1_before_33 rfl (lv_at hl 2 rfl) ?_
      refine lv_icmp_ge (tgt := 41) hx hb dX1_before_34 (by decide) (fun h3 => ?_) (fun h3 => ?_)
      · refine lv_iconst (v := 0) hx hb dX1_before_41 (by decide) ?_
        exact W.zret hx hb hr rfl (fun t ht _ => ⟨by rw [if_neg (fun q => (ft_sb_iff.mp q).elim (fun z => h1 ((lg_cmp_lt _ _).mpr z)) (fun z => Int32.not_le.mpr z.2 h3))], ht⟩) (fun q h => by cases h) dX1_before_42
      · refine lv_iconst (v := 1) hx hb dX1_before_37 (by decide) ?_
        refine lv_goto (tgt := 42) hx hb dX1_before_38 (by decide) ?_
        exact W.zret hx hb hr rfl (fun t ht _ => ⟨by rw [if_pos (ft_sb_iff.mpr (Or.inr ⟨(lg_cmp_eq _ _).mp h2, Int32.not_le.mp h3⟩))], ht⟩) (fun q h => by cases h) dX1_before_42
set_option maxHeartbeats 4000000 in
set_option maxRecDepth 100000 in
theorem cm_many (l : Launch) (G : va_G) (a : Nat → Nat) (C : Nat → ClassId) (T : Nat → Bool) (K D : Nat → Int64) (w : Nat → Int32) (th : Int32) : Met l yX1_many wsX1_many rm0 (va_Pc [.ref (a 0)] (rM G a C T K D w th)) (rd_Q (.int (nI (ft_cnt T 200)))) 0 0 (fun _ => False) := by
  refine q_open (cc := cX1_many) (maxL := 3) (ret := (some .int)) (by decide) rfl (Nat.le_of_ble_eq_true rfl) ?_
  intro p e s m below meth c ls S hr hlk hB hl
  obtain ⟨hx, hb, hml, hown, hts⟩ := id S
  obtain ⟨hP, hK⟩ := hB
  have hin : ∀ w ∈ u_ws RX1 TX1 5, w ∈ wsX1_many := fun w h => tb_cons w (hinX1 w h)
  have hl : lv_has ls 3 [(0, .ref (a 0))] := hl
  refine lv_iconst (v := 0) hx hb dX1_many_0 (by decide) ?_
  refine q_topi (y := nI (ft_cnt T 0)) rfl ?_
  refine lv_istore_n hx hb dX1_many_1 rfl hl (by decide) rfl (fun ls hl => ?_)
  have hl : lv_has ls 3 [(1, .int (nI (ft_cnt T 0))), (0, .ref (a 0))] := hl
  refine lv_iconst (v := 0) hx hb dX1_many_2 (by decide) ?_
  refine lv_istore_n hx hb dX1_many_3 rfl hl (by decide) rfl (fun ls hl => ?_)
  have hl : lv_has ls 3 [(2, .int 0), (1, .int (nI (ft_cnt T 0))), (0, .ref (a 0))] := hl
  have loop : ∀ (k : Nat) (i : Nat), i + k = 200 → ∀ ls : Array Slot, lv_has ls 3 [(2, .int (nI i)), (1, .int (nI (ft_cnt T i))), (0, .ref (a 0))] → W p l e rm0 s m ([.ref (a 0)] : List Value).toArray below meth c s.heap [] 0 0 (MQ below (rd_Q (.int (nI (ft_cnt T 200)))) ([.ref (a 0)] : List Value).toArray s 0 0 (fun _ => False)) (F0 m 4 ls []) := by
    intro k
    induction k with
    | zero =>
      intro i hi ls hl
      refine lv_iload_n hx hb dX1_many_4 rfl (lv_at hl 0 rfl) ?_
      refine lv_sipush (v := 200) hx hb dX1_many_5 (by decide) ?_
      refine lv_icmp_ge (tgt := 29) hx hb dX1_many_8 (by decide) (fun _ => ?_) (fun hc => absurd (nI_le (a := 200) (by omega) (by omega)) hc)
      refine lv_iload_n hx hb dX1_many_29 rfl (lv_at hl 1 rfl) ?_
      have hi : i = 200 := hi
      exact W.iret hx hb hr (fun t ht _ => ⟨by rw [hi], ht⟩) (fun q h => by cases h) dX1_many_30
    | succ k ih =>
      intro i hi ls hl
      refine lv_iload_n hx hb dX1_many_4 rfl (lv_at hl 0 rfl) ?_
      refine lv_sipush (v := 200) hx hb dX1_many_5 (by decide) ?_
      refine lv_icmp_ge (tgt := 29) hx hb dX1_many_8 (by decide) (fun hc => absurd hc (nI_ge (b := 200) (by omega) (by decide))) (fun _ => ?_)
      refine lv_aload_n hx hb dX1_many_11 rfl (lv_at hl 2 rfl) ?_
      refine va_get (D := G) (ci := 1) (C := RX1) (T := TX1) (N := 5) hx hb hts hin hown hK hP 0 rfl rfl 0 (by decide) (hts _ (tb_cons _ w_fl_X1_9)) (fun _ h9 => h9) rfl dX1_many_12 ?_
      refine lv_iload_n hx hb dX1_many_15 rfl (lv_at hl 0 rfl) ?_
      refine q_zald hx hb hK hP 1 0 rfl rfl (i) rfl (by omega) (by decide) dX1_many_16 ?_
      by_cases hT : T i = true
      · refine q_topi (y := 1) (ft_tb_t hT) ?_
        refine lv_if_eq (tgt := 23) hx hb dX1_many_17 (by decide) (fun hc => absurd hc (by decide)) (fun _ => ?_)
        refine lv_iinc (k := 1) (v := nI (ft_cnt T (i + 1))) hx hb dX1_many_20 hl rfl (ft_cnt_t hT) (by decide) rfl (fun ls hl => ?_)
        have hl : lv_has ls 3 [(1, .int (nI (ft_cnt T (i + 1)))), (2, .int (nI i)), (0, .ref (a 0))] := hl
        refine lv_iinc (k := 1) (v := nI (i + 1)) hx hb dX1_many_23 hl rfl (nI_succ i).symm (by decide) rfl (fun ls hl => ?_)
        have hl : lv_has ls 3 [(2, .int (nI (i + 1))), (1, .int (nI (ft_cnt T (i + 1)))), (0, .ref (a 0))] := hl
        refine lv_goto (tgt := 4) hx hb dX1_many_26 (by decide) ?_
        exact ih (i + 1) (by omega) ls hl
      · refine q_topi (y := 0) (ft_tb_f hT) ?_
        refine lv_if_eq (tgt := 23) hx hb dX1_many_17 (by decide) (fun _ => ?_) (fun hc => absurd (rfl) hc)
        refine lv_iinc (k := 0) (v := nI (i + 1)) hx hb dX1_many_23 hl rfl (nI_succ i).symm (by decide) rfl (fun ls hl => ?_)
        have hl : lv_has ls 3 [(2, .int (nI (i + 1))), (1, .int (nI (ft_cnt T i))), (0, .ref (a 0))] := hl
        refine lv_goto (tgt := 4) hx hb dX1_many_26 (by decide) ?_
        exact ih (i + 1) (by omega) ls (by rw [ft_cnt_f hT]; exact hl)
  exact loop 200 0 (by omega) ls hl
set_option maxHeartbeats 4000000 in
set_option maxRecDepth 100000 in
theorem cm_place (l : Launch) (G : va_G) (a : Nat → Nat) (C : Nat → ClassId) (T : Nat → Bool) (K D : Nat → Int64) (w : Nat → Int32) (th : Int32) {j : Nat} (hj : j < 200) : Met l yX1_place wsX1_place { frames := 1, cells := 0, slots := 0, locals := 30 } (va_Pc [.ref (a 0), .int (nI j)] (rM G a C T K D w th)) (rd_Q (.int (nI (ft_cnt (fun k => T k && ft_sb K (K j) (nI j) k) 200)))) 0 0 (fun _ => False) := by
  refine q_open (cc := cX1_place) (maxL := 4) (ret := (some .int)) (by decide) rfl (Nat.le_of_ble_eq_true rfl) ?_
  intro p e s m below meth c ls S hr hlk hB hl
  obtain ⟨hx, hb, hml, hown, hts⟩ := id S
  obtain ⟨hP, hK⟩ := hB
  have hin : ∀ w ∈ u_ws RX1 TX1 5, w ∈ wsX1_place := fun w h => tb_cons w (hinX1 w h)
  have hl : lv_has ls 4 [(0, .ref (a 0)), (1, .int (nI j))] := hl
  refine lv_iconst (v := 0) hx hb dX1_place_0 (by decide) ?_
  refine q_topi (y := nI (ft_cnt (fun k => T k && ft_sb K (K j) (nI j) k) 0)) rfl ?_
  refine lv_istore_n hx hb dX1_place_1 rfl hl (by decide) rfl (fun ls hl => ?_)
  have hl : lv_has ls 4 [(2, .int (nI (ft_cnt (fun k => T k && ft_sb K (K j) (nI j) k) 0))), (0, .ref (a 0)), (1, .int (nI j))] := hl
  refine lv_iconst (v := 0) hx hb dX1_place_2 (by decide) ?_
  refine lv_istore_n hx hb dX1_place_3 rfl hl (by decide) rfl (fun ls hl => ?_)
  have hl : lv_has ls 4 [(3, .int 0), (2, .int (nI (ft_cnt (fun k => T k && ft_sb K (K j) (nI j) k) 0))), (0, .ref (a 0)), (1, .int (nI j))] := hl
  have loop : ∀ (k : Nat) (i : Nat), i + k = 200 → ∀ ls : Array Slot, lv_has ls 4 [(3, .int (nI i)), (2, .int (nI (ft_cnt (fun k => T k && ft_sb K (K j) (nI j) k) i))), (0, .ref (a 0)), (1, .int (nI j))] → W p l e { frames := 1, cells := 0, slots := 0, locals := 30 } s m ([.ref (a 0), .int (nI j)] : List Value).toArray below meth c s.heap [] 0 0 (MQ below (rd_Q (.int (nI (ft_cnt (fun k => T k && ft_sb K (K j) (nI j) k) 200)))) ([.ref (a 0), .int (nI j)] : List Value).toArray s 0 0 (fun _ => False)) (F0 m 4 ls []) := by
    intro k
    induction k with
    | zero =>
      intro i hi ls hl
      refine lv_iload_n hx hb dX1_place_4 rfl (lv_at hl 0 rfl) ?_
      refine lv_sipush (v := 200) hx hb dX1_place_5 (by decide) ?_
      refine lv_icmp_ge (tgt := 38) hx hb dX1_place_8 (by decide) (fun _ => ?_) (fun hc => absurd (nI_le (a := 200) (by omega) (by omega)) hc)
      refine lv_iload_n hx hb dX1_place_38 rfl (lv_at hl 1 rfl) ?_
      have hi : i = 200 := hi
      exact W.iret hx hb hr (fun t ht _ => ⟨by rw [hi], ht⟩) (fun q h => by cases h) dX1_place_39
    | succ k ih =>
      intro i hi ls hl
      refine lv_iload_n hx hb dX1_place_4 rfl (lv_at hl 0 rfl) ?_
      refine lv_sipush (v := 200) hx hb dX1_place_5 (by decide) ?_
      refine lv_icmp_ge (tgt := 38) hx hb dX1_place_8 (by decide) (fun hc => absurd hc (nI_ge (b := 200) (by omega) (by decide))) (fun _ => ?_)
      refine lv_aload_n hx hb dX1_place_11 rfl (lv_at hl 2 rfl) ?_
      refine va_get (D := G) (ci := 1) (C := RX1) (T := TX1) (N := 5) hx hb hts hin hown hK hP 0 rfl rfl 0 (by decide) (hts _ (tb_cons _ w_fl_X1_9)) (fun _ h9 => h9) rfl dX1_place_12 ?_
      refine lv_iload_n hx hb dX1_place_15 rfl (lv_at hl 0 rfl) ?_
      refine q_zald hx hb hK hP 1 0 rfl rfl (i) rfl (by omega) (by decide) dX1_place_16 ?_
      by_cases hT : T i = true
      · refine q_topi (y := 1) (ft_tb_t hT) ?_
        refine lv_if_eq (tgt := 32) hx hb dX1_place_17 (by decide) (fun hc => absurd hc (by decide)) (fun _ => ?_)
        refine lv_aload_n hx hb dX1_place_20 rfl (lv_at hl 2 rfl) ?_
        refine lv_iload_n hx hb dX1_place_21 rfl (lv_at hl 0 rfl) ?_
        refine lv_iload_n hx hb dX1_place_22 rfl (lv_at hl 3 rfl) ?_
        refine rd_call (W.runV (As := [.int (nI i), .int (nI j)]) (rest := []) S (cm_before l G a C T K D w th (j := i) (f := j) (by omega) hj) (cwV 2 hts (gX1_62 tb_cons) rfl rfl rfl (by decide +kernel) ⟨Nat.le_of_ble_eq_true rfl, Nat.le_of_ble_eq_true rfl⟩) (pM_V hP hK) rfl rfl hl.1 rfl (lv_room (Nat.le_of_ble_eq_true rfl)) dX1_place_23 ⟨Nat.zero_le _, Nat.zero_le _⟩) ?_
        by_cases hq : ft_sb K (K j) (nI j) i = true
        · rw [if_pos hq]
          refine lv_if_eq (tgt := 32) hx hb dX1_place_26 (by decide) (fun hc => absurd hc (by decide)) (fun _ => ?_)
          refine lv_iinc (k := 1) (v := nI (ft_cnt (fun k => T k && ft_sb K (K j) (nI j) k) (i + 1))) hx hb dX1_place_29 hl rfl (ft_cnt_t (P := (fun k => T k && ft_sb K (K j) (nI j) k)) (yand hT hq)) (by decide) rfl (fun ls hl => ?_)
          have hl : lv_has ls 4 [(2, .int (nI (ft_cnt (fun k => T k && ft_sb K (K j) (nI j) k) (i + 1)))), (3, .int (nI i)), (0, .ref (a 0)), (1, .int (nI j))] := hl
          refine lv_iinc (k := 1) (v := nI (i + 1)) hx hb dX1_place_32 hl rfl (nI_succ i).symm (by decide) rfl (fun ls hl => ?_)
          have hl : lv_has ls 4 [(3, .int (nI (i + 1))), (2, .int (nI (ft_cnt (fun k => T k && ft_sb K (K j) (nI j) k) (i + 1)))), (0, .ref (a 0)), (1, .int (nI j))] := hl
          refine lv_goto (tgt := 4) hx hb dX1_place_35 (by decide) ?_
          exact ih (i + 1) (by omega) ls hl
        · rw [if_neg hq]
          refine lv_if_eq (tgt := 32) hx hb dX1_place_26 (by decide) (fun _ => ?_) (fun hc => absurd (rfl) hc)
          refine lv_iinc (k := 0) (v := nI (i + 1)) hx hb dX1_place_32 hl rfl (nI_succ i).symm (by decide) rfl (fun ls hl => ?_)
          have hl : lv_has ls 4 [(3, .int (nI (i + 1))), (2, .int (nI (ft_cnt (fun k => T k && ft_sb K (K j) (nI j) k) i))), (0, .ref (a 0)), (1, .int (nI j))] := hl
          refine lv_goto (tgt := 4) hx hb dX1_place_35 (by decide) ?_
          exact ih (i + 1) (by omega) ls (by rw [ft_cnt_f (P := (fun k => T k && ft_sb K (K j) (nI j) k)) (nand2 hq)]; exact hl)
      · refine q_topi (y := 0) (ft_tb_f hT) ?_
        refine lv_if_eq (tgt := 32) hx hb dX1_place_17 (by decide) (fun _ => ?_) (fun hc => absurd (rfl) hc)
        refine lv_iinc (k := 0) (v := nI (i + 1)) hx hb dX1_place_32 hl rfl (nI_succ i).symm (by decide) rfl (fun ls hl => ?_)
        have hl : lv_has ls 4 [(3, .int (nI (i + 1))), (2, .int (nI (ft_cnt (fun k => T k && ft_sb K (K j) (nI j) k) i))), (0, .ref (a 0)), (1, .int (nI j))] := hl
        refine lv_goto (tgt := 4) hx hb dX1_place_35 (by decide) ?_
        exact ih (i + 1) (by omega) ls (by rw [ft_cnt_f (P := (fun k => T k && ft_sb K (K j) (nI j) k)) (nand1 hT)]; exact hl)
  exact loop 200 0 (by omega) ls hl
set_option maxHeartbeats 4000000 in
set_option maxRecDepth 100000 in
theorem cm_all (l : Launch) (G : va_G) (a : Nat → Nat) (C : Nat → ClassId) (T : Nat → Bool) (K D : Nat → Int64) (w : Nat → Int32) (th : Int32) : Met l yX1_all wsX1_all rm0 (va_Pc [.ref (a 0)] (rM G a C T K D w th)) (rd_Q (.long (ft_W64 T w))) 0 0 (fun _ => False) := by
  refine q_open (cc := cX1_all) (maxL := 4) (ret := (some .long)) (by decide) rfl (Nat.le_of_ble_eq_true rfl) ?_
  intro p e s m below meth c ls S hr hlk hB hl
  obtain ⟨hx, hb, hml, hown, hts⟩ := id S
  obtain ⟨hP, hK⟩ := hB
  have hin : ∀ w ∈ u_ws RX1 TX1 5, w ∈ wsX1_all := fun w h => tb_cons w (hinX1 w h)
  have hl : lv_has ls 4 [(0, .ref (a 0))] := hl
  refine lv_lconst (v := 0) hx hb dX1_all_0 (by decide) ?_
  refine q_topl (y := (ft_sum (fun a b : Int64 => a + b) 0 (fun k => if T k = true then (w k).toInt64 else 0) 0)) rfl ?_
  refine lv_lstore_n hx hb dX1_all_1 rfl hl (by decide) rfl (fun ls hl => ?_)
  have hl : lv_has ls 4 [(1, .long (ft_sum (fun a b : Int64 => a + b) 0 (fun k => if T k = true then (w k).toInt64 else 0) 0)), (0, .ref (a 0))] := hl
  refine lv_iconst (v := 0) hx hb dX1_all_2 (by decide) ?_
  refine lv_istore_n hx hb dX1_all_3 rfl hl (by decide) rfl (fun ls hl => ?_)
  have hl : lv_has ls 4 [(3, .int 0), (1, .long (ft_sum (fun a b : Int64 => a + b) 0 (fun k => if T k = true then (w k).toInt64 else 0) 0)), (0, .ref (a 0))] := hl
  have loop : ∀ (k : Nat) (i : Nat), i + k = 200 → ∀ ls : Array Slot, lv_has ls 4 [(3, .int (nI i)), (1, .long (ft_sum (fun a b : Int64 => a + b) 0 (fun k => if T k = true then (w k).toInt64 else 0) i)), (0, .ref (a 0))] → W p l e rm0 s m ([.ref (a 0)] : List Value).toArray below meth c s.heap [] 0 0 (MQ below (rd_Q (.long (ft_sum (fun a b : Int64 => a + b) 0 (fun k => if T k = true then (w k).toInt64 else 0) 200))) ([.ref (a 0)] : List Value).toArray s 0 0 (fun _ => False)) (F0 m 4 ls []) := by
    intro k
    induction k with
    | zero =>
      intro i hi ls hl
      refine lv_iload_n hx hb dX1_all_4 rfl (lv_at hl 0 rfl) ?_
      refine lv_sipush (v := 200) hx hb dX1_all_5 (by decide) ?_
      refine lv_icmp_ge (tgt := 36) hx hb dX1_all_8 (by decide) (fun _ => ?_) (fun hc => absurd (nI_le (a := 200) (by omega) (by omega)) hc)
      refine lv_lload_n hx hb dX1_all_36 rfl (lv_at hl 1 rfl) ?_
      have hi : i = 200 := hi
      exact W.lret hx hb hr (fun t ht _ => ⟨by rw [hi], ht⟩) (fun q h => by cases h) dX1_all_37
    | succ k ih =>
      intro i hi ls hl
      refine lv_iload_n hx hb dX1_all_4 rfl (lv_at hl 0 rfl) ?_
      refine lv_sipush (v := 200) hx hb dX1_all_5 (by decide) ?_
      refine lv_icmp_ge (tgt := 36) hx hb dX1_all_8 (by decide) (fun hc => absurd hc (nI_ge (b := 200) (by omega) (by decide))) (fun _ => ?_)
      refine lv_aload_n hx hb dX1_all_11 rfl (lv_at hl 2 rfl) ?_
      refine va_get (D := G) (ci := 1) (C := RX1) (T := TX1) (N := 5) hx hb hts hin hown hK hP 0 rfl rfl 0 (by decide) (hts _ (tb_cons _ w_fl_X1_9)) (fun _ h9 => h9) rfl dX1_all_12 ?_
      refine lv_iload_n hx hb dX1_all_15 rfl (lv_at hl 0 rfl) ?_
      refine q_zald hx hb hK hP 1 0 rfl rfl (i) rfl (by omega) (by decide) dX1_all_16 ?_
      by_cases hT : T i = true
      · refine q_topi (y := 1) (ft_tb_t hT) ?_
        refine lv_if_eq (tgt := 30) hx hb dX1_all_17 (by decide) (fun hc => absurd hc (by decide)) (fun _ => ?_)
        refine lv_lload_n hx hb dX1_all_20 rfl (lv_at hl 1 rfl) ?_
        refine lv_aload_n hx hb dX1_all_21 rfl (lv_at hl 2 rfl) ?_
        refine va_get (D := G) (ci := 1) (C := RX1) (T := TX1) (N := 5) hx hb hts hin hown hK hP 0 rfl rfl 3 (by decide) (hts _ (tb_cons _ w_fl_X1_20)) (fun _ h9 => h9) rfl dX1_all_22 ?_
        refine lv_iload_n hx hb dX1_all_25 rfl (lv_at hl 0 rfl) ?_
        refine q_iald hx hb hK hP 4 3 rfl rfl (i) rfl (by omega) (by decide) dX1_all_26 ?_
        refine lv_i2l hx hb dX1_all_27 rfl ?_
        refine lv_ladd hx hb dX1_all_28 ?_
        refine q_topl (y := (ft_sum (fun a b : Int64 => a + b) 0 (fun k => if T k = true then (w k).toInt64 else 0) (i + 1))) (ft_sum_t (op := fun a b : Int64 => a + b) (P := T) (f := fun k => (w k).toInt64) hT) ?_
        refine lv_lstore_n hx hb dX1_all_29 rfl hl (by decide) rfl (fun ls hl => ?_)
        have hl : lv_has ls 4 [(1, .long (ft_sum (fun a b : Int64 => a + b) 0 (fun k => if T k = true then (w k).toInt64 else 0) (i + 1))), (3, .int (nI i)), (0, .ref (a 0))] := hl
        refine lv_iinc (k := 1) (v := nI (i + 1)) hx hb dX1_all_30 hl rfl (nI_succ i).symm (by decide) rfl (fun ls hl => ?_)
        have hl : lv_has ls 4 [(3, .int (nI (i + 1))), (1, .long (ft_sum (fun a b : Int64 => a + b) 0 (fun k => if T k = true then (w k).toInt64 else 0) (i + 1))), (0, .ref (a 0))] := hl
        refine lv_goto (tgt := 4) hx hb dX1_all_33 (by decide) ?_
        exact ih (i + 1) (by omega) ls (lv_sub hl [0, 1, 2] rfl)
      · refine q_topi (y := 0) (ft_tb_f hT) ?_
        refine lv_if_eq (tgt := 30) hx hb dX1_all_17 (by decide) (fun _ => ?_) (fun hc => absurd (rfl) hc)
        refine lv_iinc (k := 0) (v := nI (i + 1)) hx hb dX1_all_30 hl rfl (nI_succ i).symm (by decide) rfl (fun ls hl => ?_)
        have hl : lv_has ls 4 [(3, .int (nI (i + 1))), (1, .long (ft_sum (fun a b : Int64 => a + b) 0 (fun k => if T k = true then (w k).toInt64 else 0) i)), (0, .ref (a 0))] := hl
        refine lv_goto (tgt := 4) hx hb dX1_all_33 (by decide) ?_
        exact ih (i + 1) (by omega) ls (by rw [ft_sum_f (fun a => Int64.add_zero a) hT]; exact hl)
  exact loop 200 0 (by omega) ls hl
set_option maxHeartbeats 4000000 in
set_option maxRecDepth 100000 in
theorem cm_lead (l : Launch) (G : va_G) (a : Nat → Nat) (C : Nat → ClassId) (T : Nat → Bool) (K D : Nat → Int64) (w : Nat → Int32) (th : Int32) {j : Nat} (hj : j < 200) : Met l yX1_lead wsX1_lead rm0 (va_Pc [.ref (a 0), .int (nI j)] (rM G a C T K D w th)) (rd_Q (.long (ft_ld T K w (K j)))) 0 0 (fun _ => False) := by
  refine q_open (cc := cX1_lead) (maxL := 5) (ret := (some .long)) (by decide) rfl (Nat.le_of_ble_eq_true rfl) ?_
  intro p e s m below meth c ls S hr hlk hB hl
  obtain ⟨hx, hb, hml, hown, hts⟩ := id S
  obtain ⟨hP, hK⟩ := hB
  have hin : ∀ w ∈ u_ws RX1 TX1 5, w ∈ wsX1_lead := fun w h => tb_cons w (hinX1 w h)
  have hl : lv_has ls 5 [(0, .ref (a 0)), (1, .int (nI j))] := hl
  refine lv_lconst (v := 0) hx hb dX1_lead_0 (by decide) ?_
  refine q_topl (y := (ft_sum (fun a b : Int64 => a + b) 0 (fun k => if T k = true then (K j - K k) * (w k).toInt64 else 0) 0)) rfl ?_
  refine lv_lstore_n hx hb dX1_lead_1 rfl hl (by decide) rfl (fun ls hl => ?_)
  have hl : lv_has ls 5 [(2, .long (ft_sum (fun a b : Int64 => a + b) 0 (fun k => if T k = true then (K j - K k) * (w k).toInt64 else 0) 0)), (0, .ref (a 0)), (1, .int (nI j))] := hl
  refine lv_iconst (v := 0) hx hb dX1_lead_2 (by decide) ?_
  refine lv_istore hx hb dX1_lead_3 hl (by decide) rfl (fun ls hl => ?_)
  have hl : lv_has ls 5 [(4, .int 0), (2, .long (ft_sum (fun a b : Int64 => a + b) 0 (fun k => if T k = true then (K j - K k) * (w k).toInt64 else 0) 0)), (0, .ref (a 0)), (1, .int (nI j))] := hl
  have loop : ∀ (k : Nat) (i : Nat), i + k = 200 → ∀ ls : Array Slot, lv_has ls 5 [(4, .int (nI i)), (2, .long (ft_sum (fun a b : Int64 => a + b) 0 (fun k => if T k = true then (K j - K k) * (w k).toInt64 else 0) i)), (0, .ref (a 0)), (1, .int (nI j))] → W p l e rm0 s m ([.ref (a 0), .int (nI j)] : List Value).toArray below meth c s.heap [] 0 0 (MQ below (rd_Q (.long (ft_sum (fun a b : Int64 => a + b) 0 (fun k => if T k = true then (K j - K k) * (w k).toInt64 else 0) 200))) ([.ref (a 0), .int (nI j)] : List Value).toArray s 0 0 (fun _ => False)) (F0 m 5 ls []) := by
    intro k
    induction k with
    | zero =>
      intro i hi ls hl
      refine lv_iload hx hb dX1_lead_5 (lv_at hl 0 rfl) ?_
      refine lv_sipush (v := 200) hx hb dX1_lead_7 (by decide) ?_
      refine lv_icmp_ge (tgt := 55) hx hb dX1_lead_10 (by decide) (fun _ => ?_) (fun hc => absurd (nI_le (a := 200) (by omega) (by omega)) hc)
      refine lv_lload_n hx hb dX1_lead_55 rfl (lv_at hl 1 rfl) ?_
      have hi : i = 200 := hi
      exact W.lret hx hb hr (fun t ht _ => ⟨by rw [hi], ht⟩) (fun q h => by cases h) dX1_lead_56
    | succ k ih =>
      intro i hi ls hl
      refine lv_iload hx hb dX1_lead_5 (lv_at hl 0 rfl) ?_
      refine lv_sipush (v := 200) hx hb dX1_lead_7 (by decide) ?_
      refine lv_icmp_ge (tgt := 55) hx hb dX1_lead_10 (by decide) (fun hc => absurd hc (nI_ge (b := 200) (by omega) (by decide))) (fun _ => ?_)
      refine lv_aload_n hx hb dX1_lead_13 rfl (lv_at hl 2 rfl) ?_
      refine va_get (D := G) (ci := 1) (C := RX1) (T := TX1) (N := 5) hx hb hts hin hown hK hP 0 rfl rfl 0 (by decide) (hts _ (tb_cons _ w_fl_X1_9)) (fun _ h9 => h9) rfl dX1_lead_14 ?_
      refine lv_iload hx hb dX1_lead_17 (lv_at hl 0 rfl) ?_
      refine q_zald hx hb hK hP 1 0 rfl rfl (i) rfl (by omega) (by decide) dX1_lead_19 ?_
      by_cases hT : T i = true
      · refine q_topi (y := 1) (ft_tb_t hT) ?_
        refine lv_if_eq (tgt := 49) hx hb dX1_lead_20 (by decide) (fun hc => absurd hc (by decide)) (fun _ => ?_)
        refine lv_lload_n hx hb dX1_lead_23 rfl (lv_at hl 1 rfl) ?_
        refine lv_aload_n hx hb dX1_lead_24 rfl (lv_at hl 2 rfl) ?_
        refine va_get (D := G) (ci := 1) (C := RX1) (T := TX1) (N := 5) hx hb hts hin hown hK hP 0 rfl rfl 1 (by decide) (hts _ (tb_cons _ w_fl_X1_13)) (fun _ h9 => h9) rfl dX1_lead_25 ?_
        refine lv_iload_n hx hb dX1_lead_28 rfl (lv_at hl 3 rfl) ?_
        refine q_lald hx hb hK hP 2 1 rfl rfl (j) rfl hj (by decide) dX1_lead_29 ?_
        refine lv_aload_n hx hb dX1_lead_30 rfl (lv_at hl 2 rfl) ?_
        refine va_get (D := G) (ci := 1) (C := RX1) (T := TX1) (N := 5) hx hb hts hin hown hK hP 0 rfl rfl 1 (by decide) (hts _ (tb_cons _ w_fl_X1_13)) (fun _ h9 => h9) rfl dX1_lead_31 ?_
        refine lv_iload hx hb dX1_lead_34 (lv_at hl 0 rfl) ?_
        refine q_lald hx hb hK hP 2 1 rfl rfl (i) rfl (by omega) (by decide) dX1_lead_36 ?_
        refine lv_lsub hx hb dX1_lead_37 ?_
        refine lv_aload_n hx hb dX1_lead_38 rfl (lv_at hl 2 rfl) ?_
        refine va_get (D := G) (ci := 1) (C := RX1) (T := TX1) (N := 5) hx hb hts hin hown hK hP 0 rfl rfl 3 (by decide) (hts _ (tb_cons _ w_fl_X1_20)) (fun _ h9 => h9) rfl dX1_lead_39 ?_
        refine lv_iload hx hb dX1_lead_42 (lv_at hl 0 rfl) ?_
        refine q_iald hx hb hK hP 4 3 rfl rfl (i) rfl (by omega) (by decide) dX1_lead_44 ?_
        refine lv_i2l hx hb dX1_lead_45 rfl ?_
        refine lv_lmul hx hb dX1_lead_46 ?_
        refine lv_ladd hx hb dX1_lead_47 ?_
        refine q_topl (y := (ft_sum (fun a b : Int64 => a + b) 0 (fun k => if T k = true then (K j - K k) * (w k).toInt64 else 0) (i + 1))) (ft_sum_t (op := fun a b : Int64 => a + b) (P := T) (f := fun k => (K j - K k) * (w k).toInt64) hT) ?_
        refine lv_lstore_n hx hb dX1_lead_48 rfl hl (by decide) rfl (fun ls hl => ?_)
        have hl : lv_has ls 5 [(2, .long (ft_sum (fun a b : Int64 => a + b) 0 (fun k => if T k = true then (K j - K k) * (w k).toInt64 else 0) (i + 1))), (4, .int (nI i)), (0, .ref (a 0)), (1, .int (nI j))] := hl
        refine lv_iinc (k := 1) (v := nI (i + 1)) hx hb dX1_lead_49 hl rfl (nI_succ i).symm (by decide) rfl (fun ls hl => ?_)
        have hl : lv_has ls 5 [(4, .int (nI (i + 1))), (2, .long (ft_sum (fun a b : Int64 => a + b) 0 (fun k => if T k = true then (K j - K k) * (w k).toInt64 else 0) (i + 1))), (0, .ref (a 0)), (1, .int (nI j))] := hl
        refine lv_goto (tgt := 5) hx hb dX1_lead_52 (by decide) ?_
        exact ih (i + 1) (by omega) ls (lv_sub hl [0, 1, 2, 3] rfl)
      · refine q_topi (y := 0) (ft_tb_f hT) ?_
        refine lv_if_eq (tgt := 49) hx hb dX1_lead_20 (by decide) (fun _ => ?_) (fun hc => absurd (rfl) hc)
        refine lv_iinc (k := 0) (v := nI (i + 1)) hx hb dX1_lead_49 hl rfl (nI_succ i).symm (by decide) rfl (fun ls hl => ?_)
        have hl : lv_has ls 5 [(4, .int (nI (i + 1))), (2, .long (ft_sum (fun a b : Int64 => a + b) 0 (fun k => if T k = true then (K j - K k) * (w k).toInt64 else 0) i)), (0, .ref (a 0)), (1, .int (nI j))] := hl
        refine lv_goto (tgt := 5) hx hb dX1_lead_52 (by decide) ?_
        exact ih (i + 1) (by omega) ls (by rw [ft_sum_f (fun a => Int64.add_zero a) hT]; exact hl)
  exact loop 200 0 (by omega) ls hl
end
section
set_option maxHeartbeats 4000000 in
set_option maxRecDepth 100000 in
theorem cm_fail (l : Launch) (G : va_G) (a : Nat → Nat) (C : Nat → ClassId) {A : Nat → Prop} (hD : ∀ T K D w th, va_D A (wM a C T K D w th)) (T : Nat → Bool) (K D : Nat → Int64) (w : Nat → Int32) (th : Int32) {x : Int32} : Met l yX1_fail wsX1_fail rm0 (va_Pc [.ref (a 0), .int x] (rM G a C T K D w th)) (wr_Q G vwCl (some (.int 0)) (wM a C T K D w x) A) 0 0 A := by
  refine q_open (cc := cX1_fail) (maxL := 2) (ret := (some .int)) (by decide) rfl (Nat.le_of_ble_eq_true rfl) ?_
  intro p e s m below meth c ls S hr hlk hB hl
  obtain ⟨hx, hb, hml, hown, hts⟩ := id S
  obtain ⟨hP, hK⟩ := hB
  have hin : ∀ w ∈ u_ws RX1 TX1 5, w ∈ wsX1_fail := fun w h => tb_cons w (hinX1 w h)
  have hS : va_S A s.heap s.heap [] := va_S.rf
  have hl : lv_has ls 2 [(0, .ref (a 0)), (1, .int x)] := hl
  refine lv_aload_n hx hb dX1_fail_0 rfl (lv_at hl 0 rfl) ?_
  refine lv_iload_n hx hb dX1_fail_1 rfl (lv_at hl 1 rfl) ?_
  refine va_put (D := G) (ci := 1) (v := .int x) (ty := .int) (C := RX1) (T := TX1) (N := 5) hx hb hts hin tyX1 tyX1_ok nmX1 hown hK hP (hD _ _ _ _ _) hS 0 rfl rfl 4 (by decide) (hts _ (tb_cons _ w_fl_X1_24)) (fun _ h9 => h9) rfl (by decide +kernel) rfl rfl (Nat.le_of_ble_eq_true rfl) dX1_fail_2 (fun H locs hP _ hS => ?_)
  have hP : va_P G vwCl (wM a C T K D w x) H := hP
  refine lv_iconst (v := 0) hx hb dX1_fail_5 (by decide) ?_
  exact W.iret hx hb hr (fun t ht _ => ⟨rfl, by rw [ht]; exact hP, hS.F ht⟩) hS.2.2 dX1_fail_6
set_option maxHeartbeats 4000000 in
set_option maxRecDepth 100000 in
theorem cm_no_yes (l : Launch) (G : va_G) (a : Nat → Nat) (C : Nat → ClassId) {A : Nat → Prop} (hD : ∀ T K D w th, va_D A (wM a C T K D w th)) (T : Nat → Bool) (K D : Nat → Int64) (w : Nat → Int32) (th : Int32) {j : Nat} (hj : j < 200) (hT : T j = true) : Met l yX1_no wsX1_no rm0 (va_Pc [.ref (a 0), .int (nI j)] (rM G a C T K D w th)) (wr_Q G vwCl (some (.int 0)) (wM a C T K D w 0) A) 0 0 A := by
  refine q_open (cc := cX1_no) (maxL := 2) (ret := (some .boolean)) (by decide) rfl (Nat.le_of_ble_eq_true rfl) ?_
  intro p e s m below meth c ls S hr hlk hB hl
  obtain ⟨hx, hb, hml, hown, hts⟩ := id S
  obtain ⟨hP, hK⟩ := hB
  have hin : ∀ w ∈ u_ws RX1 TX1 5, w ∈ wsX1_no := fun w h => tb_cons w (hinX1 w h)
  have hS : va_S A s.heap s.heap [] := va_S.rf
  have hl : lv_has ls 2 [(0, .ref (a 0)), (1, .int (nI j))] := hl
  refine lv_aload_n hx hb dX1_no_0 rfl (lv_at hl 0 rfl) ?_
  refine lv_iload_n hx hb dX1_no_1 rfl (lv_at hl 1 rfl) ?_
  refine lv_if_lt (tgt := 21) hx hb dX1_no_2 (by decide) (fun hc => absurd hc (nI_pos (by omega))) (fun _ => ?_)
  refine lv_iload_n hx hb dX1_no_5 rfl (lv_at hl 1 rfl) ?_
  refine lv_sipush (v := 200) hx hb dX1_no_6 (by decide) ?_
  refine lv_icmp_ge (tgt := 21) hx hb dX1_no_9 (by decide) (fun hc => absurd hc (nI_ge (b := 200) hj (by decide))) (fun _ => ?_)
  refine lv_aload_n hx hb dX1_no_12 rfl (lv_at hl 0 rfl) ?_
  refine va_get (D := G) (ci := 1) (C := RX1) (T := TX1) (N := 5) hx hb hts hin hown hK hP 0 rfl rfl 0 (by decide) (hts _ (tb_cons _ w_fl_X1_9)) (fun _ h9 => h9) rfl dX1_no_13 ?_
  refine lv_iload_n hx hb dX1_no_16 rfl (lv_at hl 1 rfl) ?_
  refine q_zald hx hb hK hP 1 0 rfl rfl (j) rfl hj (by decide) dX1_no_17 ?_
  refine q_topi (y := 1) (ft_tb_t hT) ?_
  refine lv_if_ne (tgt := 25) hx hb dX1_no_18 (by decide) (fun _ => ?_) (fun hc => absurd hc (by decide))
  refine lv_iconst (v := 0) hx hb dX1_no_25 (by decide) ?_
  refine va_put (D := G) (ci := 1) (v := .int 0) (ty := .int) (C := RX1) (T := TX1) (N := 5) hx hb hts hin tyX1 tyX1_ok nmX1 hown hK hP (hD _ _ _ _ _) hS 0 rfl rfl 4 (by decide) (hts _ (tb_cons _ w_fl_X1_24)) (fun _ h9 => h9) rfl (by decide +kernel) rfl rfl (Nat.le_of_ble_eq_true rfl) dX1_no_26 (fun H locs hP _ hS => ?_)
  have hP : va_P G vwCl (wM a C T K D w 0) H := hP
  refine lv_aload_n hx hb dX1_no_29 rfl (lv_at hl 0 rfl) ?_
  refine va_get (D := G) (ci := 1) (C := RX1) (T := TX1) (N := 5) hx hb hts hin hown hK hP 0 rfl rfl 4 (by decide) (hts _ (tb_cons _ w_fl_X1_24)) (fun _ h9 => h9) rfl dX1_no_30 ?_
  refine lv_if_le (tgt := 40) hx hb dX1_no_33 (by decide) (fun _ => ?_) (fun hc => absurd (by decide) hc)
  refine lv_iconst (v := 0) hx hb dX1_no_40 (by decide) ?_
  exact W.zret hx hb hr rfl (fun t ht _ => ⟨rfl, by rw [ht]; exact hP, hS.F ht⟩) hS.2.2 dX1_no_41
set_option maxHeartbeats 4000000 in
set_option maxRecDepth 100000 in
theorem cm_no_not (l : Launch) (G : va_G) (a : Nat → Nat) (C : Nat → ClassId) {A : Nat → Prop} (hD : ∀ T K D w th, va_D A (wM a C T K D w th)) (T : Nat → Bool) (K D : Nat → Int64) (w : Nat → Int32) (th : Int32) {j : Nat} (hj : j < 200) (hT : ¬ T j = true) : Met l yX1_no wsX1_no rm0 (va_Pc [.ref (a 0), .int (nI j)] (rM G a C T K D w th)) (wr_Q G vwCl (some (.int 1)) (wM a C T K D w 1) A) 0 0 A := by
  refine q_open (cc := cX1_no) (maxL := 2) (ret := (some .boolean)) (by decide) rfl (Nat.le_of_ble_eq_true rfl) ?_
  intro p e s m below meth c ls S hr hlk hB hl
  obtain ⟨hx, hb, hml, hown, hts⟩ := id S
  obtain ⟨hP, hK⟩ := hB
  have hin : ∀ w ∈ u_ws RX1 TX1 5, w ∈ wsX1_no := fun w h => tb_cons w (hinX1 w h)
  have hS : va_S A s.heap s.heap [] := va_S.rf
  have hl : lv_has ls 2 [(0, .ref (a 0)), (1, .int (nI j))] := hl
  refine lv_aload_n hx hb dX1_no_0 rfl (lv_at hl 0 rfl) ?_
  refine lv_iload_n hx hb dX1_no_1 rfl (lv_at hl 1 rfl) ?_
  refine lv_if_lt (tgt := 21) hx hb dX1_no_2 (by decide) (fun hc => absurd hc (nI_pos (by omega))) (fun _ => ?_)
  refine lv_iload_n hx hb dX1_no_5 rfl (lv_at hl 1 rfl) ?_
  refine lv_sipush (v := 200) hx hb dX1_no_6 (by decide) ?_
  refine lv_icmp_ge (tgt := 21) hx hb dX1_no_9 (by decide) (fun hc => absurd hc (nI_ge (b := 200) hj (by decide))) (fun _ => ?_)
  refine lv_aload_n hx hb dX1_no_12 rfl (lv_at hl 0 rfl) ?_
  refine va_get (D := G) (ci := 1) (C := RX1) (T := TX1) (N := 5) hx hb hts hin hown hK hP 0 rfl rfl 0 (by decide) (hts _ (tb_cons _ w_fl_X1_9)) (fun _ h9 => h9) rfl dX1_no_13 ?_
  refine lv_iload_n hx hb dX1_no_16 rfl (lv_at hl 1 rfl) ?_
  refine q_zald hx hb hK hP 1 0 rfl rfl (j) rfl hj (by decide) dX1_no_17 ?_
  refine q_topi (y := 0) (ft_tb_f hT) ?_
  refine lv_if_ne (tgt := 25) hx hb dX1_no_18 (by decide) (fun hc => absurd (rfl) hc) (fun _ => ?_)
  refine lv_iconst (v := 1) hx hb dX1_no_21 (by decide) ?_
  refine lv_goto (tgt := 26) hx hb dX1_no_22 (by decide) ?_
  refine va_put (D := G) (ci := 1) (v := .int 1) (ty := .int) (C := RX1) (T := TX1) (N := 5) hx hb hts hin tyX1 tyX1_ok nmX1 hown hK hP (hD _ _ _ _ _) hS 0 rfl rfl 4 (by decide) (hts _ (tb_cons _ w_fl_X1_24)) (fun _ h9 => h9) rfl (by decide +kernel) rfl rfl (Nat.le_of_ble_eq_true rfl) dX1_no_26 (fun H locs hP _ hS => ?_)
  have hP : va_P G vwCl (wM a C T K D w 1) H := hP
  refine lv_aload_n hx hb dX1_no_29 rfl (lv_at hl 0 rfl) ?_
  refine va_get (D := G) (ci := 1) (C := RX1) (T := TX1) (N := 5) hx hb hts hin hown hK hP 0 rfl rfl 4 (by decide) (hts _ (tb_cons _ w_fl_X1_24)) (fun _ h9 => h9) rfl dX1_no_30 ?_
  refine lv_if_le (tgt := 40) hx hb dX1_no_33 (by decide) (fun hc => absurd hc (by decide)) (fun _ => ?_)
  refine lv_iconst (v := 1) hx hb dX1_no_36 (by decide) ?_
  refine lv_goto (tgt := 41) hx hb dX1_no_37 (by decide) ?_
  exact W.zret hx hb hr rfl (fun t ht _ => ⟨rfl, by rw [ht]; exact hP, hS.F ht⟩) hS.2.2 dX1_no_41
set_option maxHeartbeats 4000000 in
set_option maxRecDepth 100000 in
theorem cm_no_out (l : Launch) (G : va_G) (a : Nat → Nat) (C : Nat → ClassId) {A : Nat → Prop} (hD : ∀ T K D w th, va_D A (wM a C T K D w th)) (T : Nat → Bool) (K D : Nat → Int64) (w : Nat → Int32) (th : Int32) {x : Int32} (h : x < 0 ∨ 200 ≤ x) : Met l yX1_no wsX1_no rm0 (va_Pc [.ref (a 0), .int x] (rM G a C T K D w th)) (wr_Q G vwCl (some (.int 1)) (wM a C T K D w 1) A) 0 0 A := by
  refine q_open (cc := cX1_no) (maxL := 2) (ret := (some .boolean)) (by decide) rfl (Nat.le_of_ble_eq_true rfl) ?_
  intro p e s m below meth c ls S hr hlk hB hl
  obtain ⟨hx, hb, hml, hown, hts⟩ := id S
  obtain ⟨hP, hK⟩ := hB
  have hin : ∀ w ∈ u_ws RX1 TX1 5, w ∈ wsX1_no := fun w h => tb_cons w (hinX1 w h)
  have hS : va_S A s.heap s.heap [] := va_S.rf
  have hl : lv_has ls 2 [(0, .ref (a 0)), (1, .int x)] := hl
  refine lv_aload_n hx hb dX1_no_0 rfl (lv_at hl 0 rfl) ?_
  refine lv_iload_n hx hb dX1_no_1 rfl (lv_at hl 1 rfl) ?_
  refine lv_if_lt (tgt := 21) hx hb dX1_no_2 (by decide) (fun hc => ?_) (fun hc => ?_)
  · refine lv_iconst (v := 1) hx hb dX1_no_21 (by decide) ?_
    refine lv_goto (tgt := 26) hx hb dX1_no_22 (by decide) ?_
    refine va_put (D := G) (ci := 1) (v := .int 1) (ty := .int) (C := RX1) (T := TX1) (N := 5) hx hb hts hin tyX1 tyX1_ok nmX1 hown hK hP (hD _ _ _ _ _) hS 0 rfl rfl 4 (by decide) (hts _ (tb_cons _ w_fl_X1_24)) (fun _ h9 => h9) rfl (by decide +kernel) rfl rfl (Nat.le_of_ble_eq_true rfl) dX1_no_26 (fun H locs hP _ hS => ?_)
    have hP : va_P G vwCl (wM a C T K D w 1) H := hP
    refine lv_aload_n hx hb dX1_no_29 rfl (lv_at hl 0 rfl) ?_
    refine va_get (D := G) (ci := 1) (C := RX1) (T := TX1) (N := 5) hx hb hts hin hown hK hP 0 rfl rfl 4 (by decide) (hts _ (tb_cons _ w_fl_X1_24)) (fun _ h9 => h9) rfl dX1_no_30 ?_
    refine lv_if_le (tgt := 40) hx hb dX1_no_33 (by decide) (fun hc => absurd hc (by decide)) (fun _ => ?_)
    refine lv_iconst (v := 1) hx hb dX1_no_36 (by decide) ?_
    refine lv_goto (tgt := 41) hx hb dX1_no_37 (by decide) ?_
    exact W.zret hx hb hr rfl (fun t ht _ => ⟨rfl, by rw [ht]; exact hP, hS.F ht⟩) hS.2.2 dX1_no_41
  · refine lv_iload_n hx hb dX1_no_5 rfl (lv_at hl 1 rfl) ?_
    refine lv_sipush (v := 200) hx hb dX1_no_6 (by decide) ?_
    refine lv_icmp_ge (tgt := 21) hx hb dX1_no_9 (by decide) (fun _ => ?_) (fun hc2 => absurd (h.resolve_left hc) hc2)
    refine lv_iconst (v := 1) hx hb dX1_no_21 (by decide) ?_
    refine lv_goto (tgt := 26) hx hb dX1_no_22 (by decide) ?_
    refine va_put (D := G) (ci := 1) (v := .int 1) (ty := .int) (C := RX1) (T := TX1) (N := 5) hx hb hts hin tyX1 tyX1_ok nmX1 hown hK hP (hD _ _ _ _ _) hS 0 rfl rfl 4 (by decide) (hts _ (tb_cons _ w_fl_X1_24)) (fun _ h9 => h9) rfl (by decide +kernel) rfl rfl (Nat.le_of_ble_eq_true rfl) dX1_no_26 (fun H locs hP _ hS => ?_)
    have hP : va_P G vwCl (wM a C T K D w 1) H := hP
    refine lv_aload_n hx hb dX1_no_29 rfl (lv_at hl 0 rfl) ?_
    refine va_get (D := G) (ci := 1) (C := RX1) (T := TX1) (N := 5) hx hb hts hin hown hK hP 0 rfl rfl 4 (by decide) (hts _ (tb_cons _ w_fl_X1_24)) (fun _ h9 => h9) rfl dX1_no_30 ?_
    refine lv_if_le (tgt := 40) hx hb dX1_no_33 (by decide) (fun hc => absurd hc (by decide)) (fun _ => ?_)
    refine lv_iconst (v := 1) hx hb dX1_no_36 (by decide) ?_
    refine lv_goto (tgt := 41) hx hb dX1_no_37 (by decide) ?_
    exact W.zret hx hb hr rfl (fun t ht _ => ⟨rfl, by rw [ht]; exact hP, hS.F ht⟩) hS.2.2 dX1_no_41
set_option maxHeartbeats 4000000 in
set_option maxRecDepth 100000 in
theorem cm_drop_no (l : Launch) (G : va_G) (a : Nat → Nat) (C : Nat → ClassId) {A : Nat → Prop} (hD : ∀ T K D w th, va_D A (wM a C T K D w th)) (T : Nat → Bool) (K D : Nat → Int64) (w : Nat → Int32) (th : Int32) {x : Int32} (hN : Met l yX1_no wsX1_no rm0 (va_Pc [.ref (a 0), .int x] (rM G a C T K D w th)) (wr_Q G vwCl (some (.int 1)) (wM a C T K D w 1) A) 0 0 A) : Met l yX1_drop wsX1_drop { frames := 1, cells := 0, slots := 0, locals := 30 } (va_Pc [.ref (a 0), .int x] (rM G a C T K D w th)) (wr_Q G vwCl (some (.int 0)) (wM a C T K D w 1) A) 0 0 A := by
  refine q_open (cc := cX1_drop) (maxL := 2) (ret := (some .int)) (by decide) rfl (Nat.le_of_ble_eq_true rfl) ?_
  intro p e s m below meth c ls S hr hlk hB hl
  obtain ⟨hx, hb, hml, hown, hts⟩ := id S
  obtain ⟨hP, hK⟩ := hB
  have hin : ∀ w ∈ u_ws RX1 TX1 5, w ∈ wsX1_drop := fun w h => tb_cons w (hinX1 w h)
  have hS : va_S A s.heap s.heap [] := va_S.rf
  have hl : lv_has ls 2 [(0, .ref (a 0)), (1, .int x)] := hl
  refine lv_aload_n hx hb dX1_drop_0 rfl (lv_at hl 0 rfl) ?_
  refine lv_iload_n hx hb dX1_drop_1 rfl (lv_at hl 1 rfl) ?_
  refine wr_call (W.runV (As := [.int x]) (rest := []) S (hN) (cwV 1 hts (gX1_36 tb_cons) rfl rfl rfl (by decide +kernel) ⟨Nat.le_of_ble_eq_true rfl, Nat.le_of_ble_eq_true rfl⟩) (pM_V hP hK) rfl rfl hl.1 rfl (lv_room (Nat.le_of_ble_eq_true rfl)) dX1_drop_2 ⟨Nat.zero_le _, Nat.zero_le _⟩) hS (fun _ h => h) (fun H locs hP hS _ _ => ?_)
  have hP : va_P G vwCl (wM a C T K D w 1) H := hP
  refine W.eq (g2 := F0 m 5 ls [.int 1]) rfl ?_
  refine lv_if_eq (tgt := 10) hx hb dX1_drop_5 (by decide) (fun hc => absurd hc (by decide)) (fun _ => ?_)
  refine lv_iconst (v := 0) hx hb dX1_drop_8 (by decide) ?_
  exact W.iret hx hb hr (fun t ht _ => ⟨rfl, by rw [ht]; exact hP, hS.F ht⟩) hS.2.2 dX1_drop_9
set_option maxHeartbeats 4000000 in
set_option maxRecDepth 100000 in
theorem cm_drop (l : Launch) (G : va_G) (a : Nat → Nat) (C : Nat → ClassId) {A : Nat → Prop} (hD : ∀ T K D w th, va_D A (wM a C T K D w th)) (T : Nat → Bool) (K D : Nat → Int64) (w : Nat → Int32) (th : Int32) {j : Nat} (hj : j < 200) (hT : T j = true) : Met l yX1_drop wsX1_drop { frames := 1, cells := 0, slots := 0, locals := 30 } (va_Pc [.ref (a 0), .int (nI j)] (rM G a C T K D w th)) (wr_Q G vwCl (some (.int (w j))) (wM a C (fun i => if i = j then false else T i) K D w 0) A) 0 0 A := by
  refine q_open (cc := cX1_drop) (maxL := 2) (ret := (some .int)) (by decide) rfl (Nat.le_of_ble_eq_true rfl) ?_
  intro p e s m below meth c ls S hr hlk hB hl
  obtain ⟨hx, hb, hml, hown, hts⟩ := id S
  obtain ⟨hP, hK⟩ := hB
  have hin : ∀ w ∈ u_ws RX1 TX1 5, w ∈ wsX1_drop := fun w h => tb_cons w (hinX1 w h)
  have hS : va_S A s.heap s.heap [] := va_S.rf
  have hl : lv_has ls 2 [(0, .ref (a 0)), (1, .int (nI j))] := hl
  refine lv_aload_n hx hb dX1_drop_0 rfl (lv_at hl 0 rfl) ?_
  refine lv_iload_n hx hb dX1_drop_1 rfl (lv_at hl 1 rfl) ?_
  refine wr_call (W.runV (As := [.int (nI j)]) (rest := []) S (cm_no_yes l G a C hD T K D w th hj hT) (cwV 1 hts (gX1_36 tb_cons) rfl rfl rfl (by decide +kernel) ⟨Nat.le_of_ble_eq_true rfl, Nat.le_of_ble_eq_true rfl⟩) (pM_V hP hK) rfl rfl hl.1 rfl (lv_room (Nat.le_of_ble_eq_true rfl)) dX1_drop_2 ⟨Nat.zero_le _, Nat.zero_le _⟩) hS (fun _ h => h) (fun H locs hP hS _ _ => ?_)
  have hP : va_P G vwCl (wM a C T K D w 0) H := hP
  refine W.eq (g2 := F0 m 5 ls [.int 0]) rfl ?_
  refine lv_if_eq (tgt := 10) hx hb dX1_drop_5 (by decide) (fun _ => ?_) (fun hc => absurd (rfl) hc)
  refine lv_aload_n hx hb dX1_drop_10 rfl (lv_at hl 0 rfl) ?_
  refine va_get (D := G) (ci := 1) (C := RX1) (T := TX1) (N := 5) hx hb hts hin hown hK hP 0 rfl rfl 0 (by decide) (hts _ (tb_cons _ w_fl_X1_9)) (fun _ h9 => h9) rfl dX1_drop_11 ?_
  refine lv_iload_n hx hb dX1_drop_14 rfl (lv_at hl 1 rfl) ?_
  refine lv_iconst (v := 0) hx hb dX1_drop_15 (by decide) ?_
  refine q_zast hx hb hK hP (hD _ _ _ _ _) hS 1 0 rfl rfl (j) rfl hj (by decide) rfl dX1_drop_16 (fun H locs hP hS => ?_)
  rw [ft_tb_up0] at hP
  have hP : va_P G vwCl (wM a C (fun i9 => if i9 = j then false else T i9) K D w 0) H := hP
  refine lv_aload_n hx hb dX1_drop_17 rfl (lv_at hl 0 rfl) ?_
  refine va_get (D := G) (ci := 1) (C := RX1) (T := TX1) (N := 5) hx hb hts hin hown hK hP 0 rfl rfl 3 (by decide) (hts _ (tb_cons _ w_fl_X1_20)) (fun _ h9 => h9) rfl dX1_drop_18 ?_
  refine lv_iload_n hx hb dX1_drop_21 rfl (lv_at hl 1 rfl) ?_
  refine q_iald hx hb hK hP 4 3 rfl rfl (j) rfl hj (by decide) dX1_drop_22 ?_
  exact W.iret hx hb hr (fun t ht _ => ⟨rfl, by rw [ht]; exact hP, hS.F ht⟩) hS.2.2 dX1_drop_23
set_option maxHeartbeats 4000000 in
set_option maxRecDepth 100000 in
theorem cm_rank_no (l : Launch) (G : va_G) (a : Nat → Nat) (C : Nat → ClassId) {A : Nat → Prop} (hD : ∀ T K D w th, va_D A (wM a C T K D w th)) (T : Nat → Bool) (K D : Nat → Int64) (w : Nat → Int32) (th : Int32) {x : Int32} (hN : Met l yX1_no wsX1_no rm0 (va_Pc [.ref (a 0), .int x] (rM G a C T K D w th)) (wr_Q G vwCl (some (.int 1)) (wM a C T K D w 1) A) 0 0 A) : Met l yX1_rank wsX1_rank { frames := 2, cells := 0, slots := 0, locals := 60 } (va_Pc [.ref (a 0), .int x] (rM G a C T K D w th)) (wr_Q G vwCl (some (.int 0)) (wM a C T K D w 1) A) 0 0 A := by
  refine q_open (cc := cX1_rank) (maxL := 2) (ret := (some .int)) (by decide) rfl (Nat.le_of_ble_eq_true rfl) ?_
  intro p e s m below meth c ls S hr hlk hB hl
  obtain ⟨hx, hb, hml, hown, hts⟩ := id S
  obtain ⟨hP, hK⟩ := hB
  have hin : ∀ w ∈ u_ws RX1 TX1 5, w ∈ wsX1_rank := fun w h => tb_cons w (hinX1 w h)
  have hS : va_S A s.heap s.heap [] := va_S.rf
  have hl : lv_has ls 2 [(0, .ref (a 0)), (1, .int x)] := hl
  refine lv_aload_n hx hb dX1_rank_0 rfl (lv_at hl 0 rfl) ?_
  refine lv_iload_n hx hb dX1_rank_1 rfl (lv_at hl 1 rfl) ?_
  refine wr_call (W.runV (As := [.int x]) (rest := []) S (hN) (cwV 1 hts (gX1_36 tb_cons) rfl rfl rfl (by decide +kernel) ⟨Nat.le_of_ble_eq_true rfl, Nat.le_of_ble_eq_true rfl⟩) (pM_V hP hK) rfl rfl hl.1 rfl (lv_room (Nat.le_of_ble_eq_true rfl)) dX1_rank_2 ⟨Nat.zero_le _, Nat.zero_le _⟩) hS (fun _ h => h) (fun H locs hP hS _ _ => ?_)
  have hP : va_P G vwCl (wM a C T K D w 1) H := hP
  refine W.eq (g2 := F0 m 5 ls [.int 1]) rfl ?_
  refine lv_if_eq (tgt := 12) hx hb dX1_rank_5 (by decide) (fun hc => absurd hc (by decide)) (fun _ => ?_)
  refine lv_iconst (v := 0) hx hb dX1_rank_8 (by decide) ?_
  refine lv_goto (tgt := 17) hx hb dX1_rank_9 (by decide) ?_
  exact W.iret hx hb hr (fun t ht _ => ⟨rfl, by rw [ht]; exact hP, hS.F ht⟩) hS.2.2 dX1_rank_17
set_option maxHeartbeats 4000000 in
set_option maxRecDepth 100000 in
theorem cm_rank (l : Launch) (G : va_G) (a : Nat → Nat) (C : Nat → ClassId) {A : Nat → Prop} (hD : ∀ T K D w th, va_D A (wM a C T K D w th)) (T : Nat → Bool) (K D : Nat → Int64) (w : Nat → Int32) (th : Int32) {j : Nat} (hj : j < 200) (hT : T j = true) : Met l yX1_rank wsX1_rank { frames := 2, cells := 0, slots := 0, locals := 60 } (va_Pc [.ref (a 0), .int (nI j)] (rM G a C T K D w th)) (wr_Q G vwCl (some (.int (nI (ft_cnt (fun k => T k && ft_sb K (K j) (nI j) k) 200)))) (wM a C T K D w 0) A) 0 0 A := by
  refine q_open (cc := cX1_rank) (maxL := 2) (ret := (some .int)) (by decide) rfl (Nat.le_of_ble_eq_true rfl) ?_
  intro p e s m below meth c ls S hr hlk hB hl
  obtain ⟨hx, hb, hml, hown, hts⟩ := id S
  obtain ⟨hP, hK⟩ := hB
  have hin : ∀ w ∈ u_ws RX1 TX1 5, w ∈ wsX1_rank := fun w h => tb_cons w (hinX1 w h)
  have hS : va_S A s.heap s.heap [] := va_S.rf
  have hl : lv_has ls 2 [(0, .ref (a 0)), (1, .int (nI j))] := hl
  refine lv_aload_n hx hb dX1_rank_0 rfl (lv_at hl 0 rfl) ?_
  refine lv_iload_n hx hb dX1_rank_1 rfl (lv_at hl 1 rfl) ?_
  refine wr_call (W.runV (As := [.int (nI j)]) (rest := []) S (cm_no_yes l G a C hD T K D w th hj hT) (cwV 1 hts (gX1_36 tb_cons) rfl rfl rfl (by decide +kernel) ⟨Nat.le_of_ble_eq_true rfl, Nat.le_of_ble_eq_true rfl⟩) (pM_V hP hK) rfl rfl hl.1 rfl (lv_room (Nat.le_of_ble_eq_true rfl)) dX1_rank_2 ⟨Nat.zero_le _, Nat.zero_le _⟩) hS (fun _ h => h) (fun H locs hP hS _ _ => ?_)
  have hP : va_P G vwCl (wM a C T K D w 0) H := hP
  refine W.eq (g2 := F0 m 5 ls [.int 0]) rfl ?_
  refine lv_if_eq (tgt := 12) hx hb dX1_rank_5 (by decide) (fun _ => ?_) (fun hc => absurd (rfl) hc)
  refine lv_aload_n hx hb dX1_rank_12 rfl (lv_at hl 0 rfl) ?_
  refine lv_iload_n hx hb dX1_rank_13 rfl (lv_at hl 1 rfl) ?_
  refine rd_call (W.runV (As := [.int (nI j)]) (rest := []) S (cm_place l G a C T K D w 0 hj) (cwV 1 hts (gX1_66 tb_cons) rfl rfl rfl (by decide +kernel) ⟨Nat.le_of_ble_eq_true rfl, Nat.le_of_ble_eq_true rfl⟩) (pM_V hP hK) rfl rfl hl.1 rfl (lv_room (Nat.le_of_ble_eq_true rfl)) dX1_rank_14 ⟨Nat.zero_le _, Nat.zero_le _⟩) ?_
  exact W.iret hx hb hr (fun t ht _ => ⟨rfl, by rw [ht]; exact hP, hS.F ht⟩) hS.2.2 dX1_rank_17
set_option maxHeartbeats 4000000 in
set_option maxRecDepth 100000 in
theorem cm_ahead_no (l : Launch) (G : va_G) (a : Nat → Nat) (C : Nat → ClassId) {A : Nat → Prop} (hD : ∀ T K D w th, va_D A (wM a C T K D w th)) (T : Nat → Bool) (K D : Nat → Int64) (w : Nat → Int32) (th : Int32) {x : Int32} (hN : Met l yX1_no wsX1_no rm0 (va_Pc [.ref (a 0), .int x] (rM G a C T K D w th)) (wr_Q G vwCl (some (.int 1)) (wM a C T K D w 1) A) 0 0 A) : Met l yX1_ahead wsX1_ahead { frames := 2, cells := 0, slots := 0, locals := 60 } (va_Pc [.ref (a 0), .int x] (rM G a C T K D w th)) (wr_Q G vwCl (some (.long 0)) (wM a C T K D w 1) A) 0 0 A := by
  refine q_open (cc := cX1_ahead) (maxL := 2) (ret := (some .long)) (by decide) rfl (Nat.le_of_ble_eq_true rfl) ?_
  intro p e s m below meth c ls S hr hlk hB hl
  obtain ⟨hx, hb, hml, hown, hts⟩ := id S
  obtain ⟨hP, hK⟩ := hB
  have hin : ∀ w ∈ u_ws RX1 TX1 5, w ∈ wsX1_ahead := fun w h => tb_cons w (hinX1 w h)
  have hS : va_S A s.heap s.heap [] := va_S.rf
  have hl : lv_has ls 2 [(0, .ref (a 0)), (1, .int x)] := hl
  refine lv_aload_n hx hb dX1_ahead_0 rfl (lv_at hl 0 rfl) ?_
  refine lv_iload_n hx hb dX1_ahead_1 rfl (lv_at hl 1 rfl) ?_
  refine wr_call (W.runV (As := [.int x]) (rest := []) S (hN) (cwV 1 hts (gX1_36 tb_cons) rfl rfl rfl (by decide +kernel) ⟨Nat.le_of_ble_eq_true rfl, Nat.le_of_ble_eq_true rfl⟩) (pM_V hP hK) rfl rfl hl.1 rfl (lv_room (Nat.le_of_ble_eq_true rfl)) dX1_ahead_2 ⟨Nat.zero_le _, Nat.zero_le _⟩) hS (fun _ h => h) (fun H locs hP hS _ _ => ?_)
  have hP : va_P G vwCl (wM a C T K D w 1) H := hP
  refine W.eq (g2 := F0 m 5 ls [.int 1]) rfl ?_
  refine lv_if_eq (tgt := 12) hx hb dX1_ahead_5 (by decide) (fun hc => absurd hc (by decide)) (fun _ => ?_)
  refine lv_lconst (v := 0) hx hb dX1_ahead_8 (by decide) ?_
  refine lv_goto (tgt := 17) hx hb dX1_ahead_9 (by decide) ?_
  exact W.lret hx hb hr (fun t ht _ => ⟨rfl, by rw [ht]; exact hP, hS.F ht⟩) hS.2.2 dX1_ahead_17
set_option maxHeartbeats 4000000 in
set_option maxRecDepth 100000 in
theorem cm_ahead (l : Launch) (G : va_G) (a : Nat → Nat) (C : Nat → ClassId) {A : Nat → Prop} (hD : ∀ T K D w th, va_D A (wM a C T K D w th)) (T : Nat → Bool) (K D : Nat → Int64) (w : Nat → Int32) (th : Int32) {j : Nat} (hj : j < 200) (hT : T j = true) : Met l yX1_ahead wsX1_ahead { frames := 2, cells := 0, slots := 0, locals := 60 } (va_Pc [.ref (a 0), .int (nI j)] (rM G a C T K D w th)) (wr_Q G vwCl (some (.long (ft_ld T K w (K j)))) (wM a C T K D w 0) A) 0 0 A := by
  refine q_open (cc := cX1_ahead) (maxL := 2) (ret := (some .long)) (by decide) rfl (Nat.le_of_ble_eq_true rfl) ?_
  intro p e s m below meth c ls S hr hlk hB hl
  obtain ⟨hx, hb, hml, hown, hts⟩ := id S
  obtain ⟨hP, hK⟩ := hB
  have hin : ∀ w ∈ u_ws RX1 TX1 5, w ∈ wsX1_ahead := fun w h => tb_cons w (hinX1 w h)
  have hS : va_S A s.heap s.heap [] := va_S.rf
  have hl : lv_has ls 2 [(0, .ref (a 0)), (1, .int (nI j))] := hl
  refine lv_aload_n hx hb dX1_ahead_0 rfl (lv_at hl 0 rfl) ?_
  refine lv_iload_n hx hb dX1_ahead_1 rfl (lv_at hl 1 rfl) ?_
  refine wr_call (W.runV (As := [.int (nI j)]) (rest := []) S (cm_no_yes l G a C hD T K D w th hj hT) (cwV 1 hts (gX1_36 tb_cons) rfl rfl rfl (by decide +kernel) ⟨Nat.le_of_ble_eq_true rfl, Nat.le_of_ble_eq_true rfl⟩) (pM_V hP hK) rfl rfl hl.1 rfl (lv_room (Nat.le_of_ble_eq_true rfl)) dX1_ahead_2 ⟨Nat.zero_le _, Nat.zero_le _⟩) hS (fun _ h => h) (fun H locs hP hS _ _ => ?_)
  have hP : va_P G vwCl (wM a C T K D w 0) H := hP
  refine W.eq (g2 := F0 m 5 ls [.int 0]) rfl ?_
  refine lv_if_eq (tgt := 12) hx hb dX1_ahead_5 (by decide) (fun _ => ?_) (fun hc => absurd (rfl) hc)
  refine lv_aload_n hx hb dX1_ahead_12 rfl (lv_at hl 0 rfl) ?_
  refine lv_iload_n hx hb dX1_ahead_13 rfl (lv_at hl 1 rfl) ?_
  refine rd_call (W.runV (As := [.int (nI j)]) (rest := []) S (cm_lead l G a C T K D w 0 hj) (cwV 1 hts (gX1_75 tb_cons) rfl rfl rfl (by decide +kernel) ⟨Nat.le_of_ble_eq_true rfl, Nat.le_of_ble_eq_true rfl⟩) (pM_V hP hK) rfl rfl hl.1 rfl (lv_room (Nat.le_of_ble_eq_true rfl)) dX1_ahead_14 ⟨Nat.zero_le _, Nat.zero_le _⟩) ?_
  exact W.lret hx hb hr (fun t ht _ => ⟨rfl, by rw [ht]; exact hP, hS.F ht⟩) hS.2.2 dX1_ahead_17
set_option maxHeartbeats 4000000 in
set_option maxRecDepth 100000 in
theorem cm_told_no (l : Launch) (G : va_G) (a : Nat → Nat) (C : Nat → ClassId) {A : Nat → Prop} (hD : ∀ T K D w th, va_D A (wM a C T K D w th)) (T : Nat → Bool) (K D : Nat → Int64) (w : Nat → Int32) (th : Int32) {x : Int32} (hN : Met l yX1_no wsX1_no rm0 (va_Pc [.ref (a 0), .int x] (rM G a C T K D w th)) (wr_Q G vwCl (some (.int 1)) (wM a C T K D w 1) A) 0 0 A) {y : Int32} : Met l yX1_told wsX1_told { frames := 1, cells := 0, slots := 0, locals := 30 } (va_Pc [.ref (a 0), .int x, .int y] (rM G a C T K D w th)) (wr_Q G vwCl (some (.long 0)) (wM a C T K D w 1) A) 0 0 A := by
  refine q_open (cc := cX1_told) (maxL := 3) (ret := (some .long)) (by decide) rfl (Nat.le_of_ble_eq_true rfl) ?_
  intro p e s m below meth c ls S hr hlk hB hl
  obtain ⟨hx, hb, hml, hown, hts⟩ := id S
  obtain ⟨hP, hK⟩ := hB
  have hin : ∀ w ∈ u_ws RX1 TX1 5, w ∈ wsX1_told := fun w h => tb_cons w (hinX1 w h)
  have hS : va_S A s.heap s.heap [] := va_S.rf
  have hl : lv_has ls 3 [(0, .ref (a 0)), (1, .int x), (2, .int y)] := hl
  refine lv_aload_n hx hb dX1_told_0 rfl (lv_at hl 0 rfl) ?_
  refine lv_iload_n hx hb dX1_told_1 rfl (lv_at hl 1 rfl) ?_
  refine wr_call (W.runV (As := [.int x]) (rest := []) S (hN) (cwV 1 hts (gX1_36 tb_cons) rfl rfl rfl (by decide +kernel) ⟨Nat.le_of_ble_eq_true rfl, Nat.le_of_ble_eq_true rfl⟩) (pM_V hP hK) rfl rfl hl.1 rfl (lv_room (Nat.le_of_ble_eq_true rfl)) dX1_told_2 ⟨Nat.zero_le _, Nat.zero_le _⟩) hS (fun _ h => h) (fun H locs hP hS _ _ => ?_)
  have hP : va_P G vwCl (wM a C T K D w 1) H := hP
  refine W.eq (g2 := F0 m 5 ls [.int 1]) rfl ?_
  refine lv_if_eq (tgt := 10) hx hb dX1_told_5 (by decide) (fun hc => absurd hc (by decide)) (fun _ => ?_)
  refine lv_lconst (v := 0) hx hb dX1_told_8 (by decide) ?_
  exact W.lret hx hb hr (fun t ht _ => ⟨rfl, by rw [ht]; exact hP, hS.F ht⟩) hS.2.2 dX1_told_9
set_option maxHeartbeats 4000000 in
set_option maxRecDepth 100000 in
theorem cm_told_what (l : Launch) (G : va_G) (a : Nat → Nat) (C : Nat → ClassId) {A : Nat → Prop} (hD : ∀ T K D w th, va_D A (wM a C T K D w th)) (T : Nat → Bool) (K D : Nat → Int64) (w : Nat → Int32) (th : Int32) {j : Nat} (hj : j < 200) (hT : T j = true) {y : Int32} (h : y < 0 ∨ 2 < y) : Met l yX1_told wsX1_told { frames := 1, cells := 0, slots := 0, locals := 30 } (va_Pc [.ref (a 0), .int (nI j), .int y] (rM G a C T K D w th)) (wr_Q G vwCl (some (.long 0)) (wM a C T K D w 2) A) 0 0 A := by
  refine q_open (cc := cX1_told) (maxL := 3) (ret := (some .long)) (by decide) rfl (Nat.le_of_ble_eq_true rfl) ?_
  intro p e s m below meth c ls S hr hlk hB hl
  obtain ⟨hx, hb, hml, hown, hts⟩ := id S
  obtain ⟨hP, hK⟩ := hB
  have hin : ∀ w ∈ u_ws RX1 TX1 5, w ∈ wsX1_told := fun w h => tb_cons w (hinX1 w h)
  have hS : va_S A s.heap s.heap [] := va_S.rf
  have hl : lv_has ls 3 [(0, .ref (a 0)), (1, .int (nI j)), (2, .int y)] := hl
  refine lv_aload_n hx hb dX1_told_0 rfl (lv_at hl 0 rfl) ?_
  refine lv_iload_n hx hb dX1_told_1 rfl (lv_at hl 1 rfl) ?_
  refine wr_call (W.runV (As := [.int (nI j)]) (rest := []) S (cm_no_yes l G a C hD T K D w th hj hT) (cwV 1 hts (gX1_36 tb_cons) rfl rfl rfl (by decide +kernel) ⟨Nat.le_of_ble_eq_true rfl, Nat.le_of_ble_eq_true rfl⟩) (pM_V hP hK) rfl rfl hl.1 rfl (lv_room (Nat.le_of_ble_eq_true rfl)) dX1_told_2 ⟨Nat.zero_le _, Nat.zero_le _⟩) hS (fun _ h => h) (fun H locs hP hS _ _ => ?_)
  have hP : va_P G vwCl (wM a C T K D w 0) H := hP
  refine W.eq (g2 := F0 m 5 ls [.int 0]) rfl ?_
  refine lv_if_eq (tgt := 10) hx hb dX1_told_5 (by decide) (fun _ => ?_) (fun hc => absurd (rfl) hc)
  refine lv_iload_n hx hb dX1_told_10 rfl (lv_at hl 2 rfl) ?_
  refine lv_if_lt (tgt := 19) hx hb dX1_told_11 (by decide) (fun hc => ?_) (fun hc => ?_)
  · refine lv_aload_n hx hb dX1_told_19 rfl (lv_at hl 0 rfl) ?_
    refine lv_iconst (v := 2) hx hb dX1_told_20 (by decide) ?_
    refine wr_call (W.runV (As := [.int 2]) (rest := []) S (cm_fail l G a C hD T K D w 0) (cwV 1 hts (gX1_52 tb_cons) rfl rfl rfl (by decide +kernel) ⟨Nat.le_of_ble_eq_true rfl, Nat.le_of_ble_eq_true rfl⟩) (pM_V hP hK) rfl rfl hl.1 rfl (lv_room (Nat.le_of_ble_eq_true rfl)) dX1_told_21 ⟨Nat.zero_le _, Nat.zero_le _⟩) hS (fun _ h => h) (fun H locs hP hS _ _ => ?_)
    have hP : va_P G vwCl (wM a C T K D w 2) H := hP
    refine W.eq (g2 := F0 m 24 ls [.int 0]) rfl ?_
    refine lv_i2l hx hb dX1_told_24 rfl ?_
    exact W.lret hx hb hr (fun t ht _ => ⟨rfl, by rw [ht]; exact hP, hS.F ht⟩) hS.2.2 dX1_told_25
  · refine lv_iload_n hx hb dX1_told_14 rfl (lv_at hl 2 rfl) ?_
    refine lv_iconst (v := 2) hx hb dX1_told_15 (by decide) ?_
    refine lv_icmp_le (tgt := 26) hx hb dX1_told_16 (by decide) (fun hc2 => absurd hc2 (Int32.not_le.mpr (h.resolve_left hc))) (fun _ => ?_)
    refine lv_aload_n hx hb dX1_told_19 rfl (lv_at hl 0 rfl) ?_
    refine lv_iconst (v := 2) hx hb dX1_told_20 (by decide) ?_
    refine wr_call (W.runV (As := [.int 2]) (rest := []) S (cm_fail l G a C hD T K D w 0) (cwV 1 hts (gX1_52 tb_cons) rfl rfl rfl (by decide +kernel) ⟨Nat.le_of_ble_eq_true rfl, Nat.le_of_ble_eq_true rfl⟩) (pM_V hP hK) rfl rfl hl.1 rfl (lv_room (Nat.le_of_ble_eq_true rfl)) dX1_told_21 ⟨Nat.zero_le _, Nat.zero_le _⟩) hS (fun _ h => h) (fun H locs hP hS _ _ => ?_)
    have hP : va_P G vwCl (wM a C T K D w 2) H := hP
    refine W.eq (g2 := F0 m 24 ls [.int 0]) rfl ?_
    refine lv_i2l hx hb dX1_told_24 rfl ?_
    exact W.lret hx hb hr (fun t ht _ => ⟨rfl, by rw [ht]; exact hP, hS.F ht⟩) hS.2.2 dX1_told_25
set_option maxHeartbeats 4000000 in
set_option maxRecDepth 100000 in
theorem cm_told_k (l : Launch) (G : va_G) (a : Nat → Nat) (C : Nat → ClassId) {A : Nat → Prop} (hD : ∀ T K D w th, va_D A (wM a C T K D w th)) (T : Nat → Bool) (K D : Nat → Int64) (w : Nat → Int32) (th : Int32) {j : Nat} (hj : j < 200) (hT : T j = true) : Met l yX1_told wsX1_told { frames := 1, cells := 0, slots := 0, locals := 30 } (va_Pc [.ref (a 0), .int (nI j), .int 0] (rM G a C T K D w th)) (wr_Q G vwCl (some (.long (K j))) (wM a C T K D w 0) A) 0 0 A := by
  refine q_open (cc := cX1_told) (maxL := 3) (ret := (some .long)) (by decide) rfl (Nat.le_of_ble_eq_true rfl) ?_
  intro p e s m below meth c ls S hr hlk hB hl
  obtain ⟨hx, hb, hml, hown, hts⟩ := id S
  obtain ⟨hP, hK⟩ := hB
  have hin : ∀ w ∈ u_ws RX1 TX1 5, w ∈ wsX1_told := fun w h => tb_cons w (hinX1 w h)
  have hS : va_S A s.heap s.heap [] := va_S.rf
  have hl : lv_has ls 3 [(0, .ref (a 0)), (1, .int (nI j)), (2, .int 0)] := hl
  refine lv_aload_n hx hb dX1_told_0 rfl (lv_at hl 0 rfl) ?_
  refine lv_iload_n hx hb dX1_told_1 rfl (lv_at hl 1 rfl) ?_
  refine wr_call (W.runV (As := [.int (nI j)]) (rest := []) S (cm_no_yes l G a C hD T K D w th hj hT) (cwV 1 hts (gX1_36 tb_cons) rfl rfl rfl (by decide +kernel) ⟨Nat.le_of_ble_eq_true rfl, Nat.le_of_ble_eq_true rfl⟩) (pM_V hP hK) rfl rfl hl.1 rfl (lv_room (Nat.le_of_ble_eq_true rfl)) dX1_told_2 ⟨Nat.zero_le _, Nat.zero_le _⟩) hS (fun _ h => h) (fun H locs hP hS _ _ => ?_)
  have hP : va_P G vwCl (wM a C T K D w 0) H := hP
  refine W.eq (g2 := F0 m 5 ls [.int 0]) rfl ?_
  refine lv_if_eq (tgt := 10) hx hb dX1_told_5 (by decide) (fun _ => ?_) (fun hc => absurd (rfl) hc)
  refine lv_iload_n hx hb dX1_told_10 rfl (lv_at hl 2 rfl) ?_
  refine lv_if_lt (tgt := 19) hx hb dX1_told_11 (by decide) (fun hc => absurd hc (by decide)) (fun _ => ?_)
  refine lv_iload_n hx hb dX1_told_14 rfl (lv_at hl 2 rfl) ?_
  refine lv_iconst (v := 2) hx hb dX1_told_15 (by decide) ?_
  refine lv_icmp_le (tgt := 26) hx hb dX1_told_16 (by decide) (fun _ => ?_) (fun hc => absurd (by decide) hc)
  refine lv_iload_n hx hb dX1_told_26 rfl (lv_at hl 2 rfl) ?_
  refine lv_if_ne (tgt := 39) hx hb dX1_told_27 (by decide) (fun hc => absurd (rfl) hc) (fun _ => ?_)
  refine lv_aload_n hx hb dX1_told_30 rfl (lv_at hl 0 rfl) ?_
  refine va_get (D := G) (ci := 1) (C := RX1) (T := TX1) (N := 5) hx hb hts hin hown hK hP 0 rfl rfl 1 (by decide) (hts _ (tb_cons _ w_fl_X1_13)) (fun _ h9 => h9) rfl dX1_told_31 ?_
  refine lv_iload_n hx hb dX1_told_34 rfl (lv_at hl 1 rfl) ?_
  refine q_lald hx hb hK hP 2 1 rfl rfl (j) rfl hj (by decide) dX1_told_35 ?_
  refine lv_goto (tgt := 60) hx hb dX1_told_36 (by decide) ?_
  exact W.lret hx hb hr (fun t ht _ => ⟨rfl, by rw [ht]; exact hP, hS.F ht⟩) hS.2.2 dX1_told_60
set_option maxHeartbeats 4000000 in
set_option maxRecDepth 100000 in
theorem cm_told_d (l : Launch) (G : va_G) (a : Nat → Nat) (C : Nat → ClassId) {A : Nat → Prop} (hD : ∀ T K D w th, va_D A (wM a C T K D w th)) (T : Nat → Bool) (K D : Nat → Int64) (w : Nat → Int32) (th : Int32) {j : Nat} (hj : j < 200) (hT : T j = true) : Met l yX1_told wsX1_told { frames := 1, cells := 0, slots := 0, locals := 30 } (va_Pc [.ref (a 0), .int (nI j), .int 1] (rM G a C T K D w th)) (wr_Q G vwCl (some (.long (D j))) (wM a C T K D w 0) A) 0 0 A := by
  refine q_open (cc := cX1_told) (maxL := 3) (ret := (some .long)) (by decide) rfl (Nat.le_of_ble_eq_true rfl) ?_
  intro p e s m below meth c ls S hr hlk hB hl
  obtain ⟨hx, hb, hml, hown, hts⟩ := id S
  obtain ⟨hP, hK⟩ := hB
  have hin : ∀ w ∈ u_ws RX1 TX1 5, w ∈ wsX1_told := fun w h => tb_cons w (hinX1 w h)
  have hS : va_S A s.heap s.heap [] := va_S.rf
  have hl : lv_has ls 3 [(0, .ref (a 0)), (1, .int (nI j)), (2, .int 1)] := hl
  refine lv_aload_n hx hb dX1_told_0 rfl (lv_at hl 0 rfl) ?_
  refine lv_iload_n hx hb dX1_told_1 rfl (lv_at hl 1 rfl) ?_
  refine wr_call (W.runV (As := [.int (nI j)]) (rest := []) S (cm_no_yes l G a C hD T K D w th hj hT) (cwV 1 hts (gX1_36 tb_cons) rfl rfl rfl (by decide +kernel) ⟨Nat.le_of_ble_eq_true rfl, Nat.le_of_ble_eq_true rfl⟩) (pM_V hP hK) rfl rfl hl.1 rfl (lv_room (Nat.le_of_ble_eq_true rfl)) dX1_told_2 ⟨Nat.zero_le _, Nat.zero_le _⟩) hS (fun _ h => h) (fun H locs hP hS _ _ => ?_)
  have hP : va_P G vwCl (wM a C T K D w 0) H := hP
  refine W.eq (g2 := F0 m 5 ls [.int 0]) rfl ?_
  refine lv_if_eq (tgt := 10) hx hb dX1_told_5 (by decide) (fun _ => ?_) (fun hc => absurd (rfl) hc)
  refine lv_iload_n hx hb dX1_told_10 rfl (lv_at hl 2 rfl) ?_
  refine lv_if_lt (tgt := 19) hx hb dX1_told_11 (by decide) (fun hc => absurd hc (by decide)) (fun _ => ?_)
  refine lv_iload_n hx hb dX1_told_14 rfl (lv_at hl 2 rfl) ?_
  refine lv_iconst (v := 2) hx hb dX1_told_15 (by decide) ?_
  refine lv_icmp_le (tgt := 26) hx hb dX1_told_16 (by decide) (fun _ => ?_) (fun hc => absurd (by decide) hc)
  refine lv_iload_n hx hb dX1_told_26 rfl (lv_at hl 2 rfl) ?_
  refine lv_if_ne (tgt := 39) hx hb dX1_told_27 (by decide) (fun _ => ?_) (fun hc => absurd hc (by decide))
  refine lv_iload_n hx hb dX1_told_39 rfl (lv_at hl 2 rfl) ?_
  refine lv_iconst (v := 1) hx hb dX1_told_40 (by decide) ?_
  refine lv_icmp_ne (tgt := 53) hx hb dX1_told_41 (by decide) (fun hc => absurd (rfl) hc) (fun _ => ?_)
  refine lv_aload_n hx hb dX1_told_44 rfl (lv_at hl 0 rfl) ?_
  refine va_get (D := G) (ci := 1) (C := RX1) (T := TX1) (N := 5) hx hb hts hin hown hK hP 0 rfl rfl 2 (by decide) (hts _ (tb_cons _ w_fl_X1_17)) (fun _ h9 => h9) rfl dX1_told_45 ?_
  refine lv_iload_n hx hb dX1_told_48 rfl (lv_at hl 1 rfl) ?_
  refine q_lald hx hb hK hP 3 2 rfl rfl (j) rfl hj (by decide) dX1_told_49 ?_
  refine lv_goto (tgt := 60) hx hb dX1_told_50 (by decide) ?_
  exact W.lret hx hb hr (fun t ht _ => ⟨rfl, by rw [ht]; exact hP, hS.F ht⟩) hS.2.2 dX1_told_60
set_option maxHeartbeats 4000000 in
set_option maxRecDepth 100000 in
theorem cm_told_w (l : Launch) (G : va_G) (a : Nat → Nat) (C : Nat → ClassId) {A : Nat → Prop} (hD : ∀ T K D w th, va_D A (wM a C T K D w th)) (T : Nat → Bool) (K D : Nat → Int64) (w : Nat → Int32) (th : Int32) {j : Nat} (hj : j < 200) (hT : T j = true) : Met l yX1_told wsX1_told { frames := 1, cells := 0, slots := 0, locals := 30 } (va_Pc [.ref (a 0), .int (nI j), .int 2] (rM G a C T K D w th)) (wr_Q G vwCl (some (.long ((w j).toInt64))) (wM a C T K D w 0) A) 0 0 A := by
  refine q_open (cc := cX1_told) (maxL := 3) (ret := (some .long)) (by decide) rfl (Nat.le_of_ble_eq_true rfl) ?_
  intro p e s m below meth c ls S hr hlk hB hl
  obtain ⟨hx, hb, hml, hown, hts⟩ := id S
  obtain ⟨hP, hK⟩ := hB
  have hin : ∀ w ∈ u_ws RX1 TX1 5, w ∈ wsX1_told := fun w h => tb_cons w (hinX1 w h)
  have hS : va_S A s.heap s.heap [] := va_S.rf
  have hl : lv_has ls 3 [(0, .ref (a 0)), (1, .int (nI j)), (2, .int 2)] := hl
  refine lv_aload_n hx hb dX1_told_0 rfl (lv_at hl 0 rfl) ?_
  refine lv_iload_n hx hb dX1_told_1 rfl (lv_at hl 1 rfl) ?_
  refine wr_call (W.runV (As := [.int (nI j)]) (rest := []) S (cm_no_yes l G a C hD T K D w th hj hT) (cwV 1 hts (gX1_36 tb_cons) rfl rfl rfl (by decide +kernel) ⟨Nat.le_of_ble_eq_true rfl, Nat.le_of_ble_eq_true rfl⟩) (pM_V hP hK) rfl rfl hl.1 rfl (lv_room (Nat.le_of_ble_eq_true rfl)) dX1_told_2 ⟨Nat.zero_le _, Nat.zero_le _⟩) hS (fun _ h => h) (fun H locs hP hS _ _ => ?_)
  have hP : va_P G vwCl (wM a C T K D w 0) H := hP
  refine W.eq (g2 := F0 m 5 ls [.int 0]) rfl ?_
  refine lv_if_eq (tgt := 10) hx hb dX1_told_5 (by decide) (fun _ => ?_) (fun hc => absurd (rfl) hc)
  refine lv_iload_n hx hb dX1_told_10 rfl (lv_at hl 2 rfl) ?_
  refine lv_if_lt (tgt := 19) hx hb dX1_told_11 (by decide) (fun hc => absurd hc (by decide)) (fun _ => ?_)
  refine lv_iload_n hx hb dX1_told_14 rfl (lv_at hl 2 rfl) ?_
  refine lv_iconst (v := 2) hx hb dX1_told_15 (by decide) ?_
  refine lv_icmp_le (tgt := 26) hx hb dX1_told_16 (by decide) (fun _ => ?_) (fun hc => absurd (by decide) hc)
  refine lv_iload_n hx hb dX1_told_26 rfl (lv_at hl 2 rfl) ?_
  refine lv_if_ne (tgt := 39) hx hb dX1_told_27 (by decide) (fun _ => ?_) (fun hc => absurd hc (by decide))
  refine lv_iload_n hx hb dX1_told_39 rfl (lv_at hl 2 rfl) ?_
  refine lv_iconst (v := 1) hx hb dX1_told_40 (by decide) ?_
  refine lv_icmp_ne (tgt := 53) hx hb dX1_told_41 (by decide) (fun _ => ?_) (fun hc => absurd hc (by decide))
  refine lv_aload_n hx hb dX1_told_53 rfl (lv_at hl 0 rfl) ?_
  refine va_get (D := G) (ci := 1) (C := RX1) (T := TX1) (N := 5) hx hb hts hin hown hK hP 0 rfl rfl 3 (by decide) (hts _ (tb_cons _ w_fl_X1_20)) (fun _ h9 => h9) rfl dX1_told_54 ?_
  refine lv_iload_n hx hb dX1_told_57 rfl (lv_at hl 1 rfl) ?_
  refine q_iald hx hb hK hP 4 3 rfl rfl (j) rfl hj (by decide) dX1_told_58 ?_
  refine lv_i2l hx hb dX1_told_59 rfl ?_
  exact W.lret hx hb hr (fun t ht _ => ⟨rfl, by rw [ht]; exact hP, hS.F ht⟩) hS.2.2 dX1_told_60
set_option maxHeartbeats 4000000 in
set_option maxRecDepth 100000 in
theorem cm_put_1 (l : Launch) (G : va_G) (a : Nat → Nat) (C : Nat → ClassId) {A : Nat → Prop} (hD : ∀ T K D w th, va_D A (wM a C T K D w th)) (T : Nat → Bool) (K D : Nat → Int64) (w : Nat → Int32) (th : Int32) {j : Int32} {key due : Int64} {x : Int32} (h : j < 0 ∨ 200 ≤ j) : Met l yX1_put wsX1_put rm0 (va_Pc [.ref (a 0), .int j, .long key, .long due, .int x] (rM G a C T K D w th)) (wr_Q G vwCl (some (.int 0)) (wM a C T K D w 1) A) 0 0 A := by
  refine q_open (cc := cX1_put) (maxL := 7) (ret := (some .int)) (by decide) rfl (Nat.le_of_ble_eq_true rfl) ?_
  intro p e s m below meth c ls S hr hlk hB hl
  obtain ⟨hx, hb, hml, hown, hts⟩ := id S
  obtain ⟨hP, hK⟩ := hB
  have hin : ∀ w ∈ u_ws RX1 TX1 5, w ∈ wsX1_put := fun w h => tb_cons w (hinX1 w h)
  have hS : va_S A s.heap s.heap [] := va_S.rf
  have hl : lv_has ls 7 [(0, .ref (a 0)), (1, .int j), (2, .long key), (4, .long due), (6, .int x)] := hl
  refine lv_aload_n hx hb dX1_put_0 rfl (lv_at hl 0 rfl) ?_
  refine lv_iload_n hx hb dX1_put_1 rfl (lv_at hl 1 rfl) ?_
  refine lv_if_lt (tgt := 42) hx hb dX1_put_2 (by decide) (fun hc => ?_) (fun hc => ?_)
  · refine lv_iconst (v := 1) hx hb dX1_put_42 (by decide) ?_
    refine lv_goto (tgt := 47) hx hb dX1_put_43 (by decide) ?_
    refine va_put (D := G) (ci := 1) (v := .int 1) (ty := .int) (C := RX1) (T := TX1) (N := 5) hx hb hts hin tyX1 tyX1_ok nmX1 hown hK hP (hD _ _ _ _ _) hS 0 rfl rfl 4 (by decide) (hts _ (tb_cons _ w_fl_X1_24)) (fun _ h9 => h9) rfl (by decide +kernel) rfl rfl (Nat.le_of_ble_eq_true rfl) dX1_put_47 (fun H locs hP _ hS => ?_)
    have hP : va_P G vwCl (wM a C T K D w 1) H := hP
    refine lv_aload_n hx hb dX1_put_50 rfl (lv_at hl 0 rfl) ?_
    refine va_get (D := G) (ci := 1) (C := RX1) (T := TX1) (N := 5) hx hb hts hin hown hK hP 0 rfl rfl 4 (by decide) (hts _ (tb_cons _ w_fl_X1_24)) (fun _ h9 => h9) rfl dX1_put_51 ?_
    refine lv_if_le (tgt := 59) hx hb dX1_put_54 (by decide) (fun hc => absurd hc (by decide)) (fun _ => ?_)
    refine lv_iconst (v := 0) hx hb dX1_put_57 (by decide) ?_
    exact W.iret hx hb hr (fun t ht _ => ⟨rfl, by rw [ht]; exact hP, hS.F ht⟩) hS.2.2 dX1_put_58
  · refine lv_iload_n hx hb dX1_put_5 rfl (lv_at hl 1 rfl) ?_
    refine lv_sipush (v := 200) hx hb dX1_put_6 (by decide) ?_
    refine lv_icmp_ge (tgt := 42) hx hb dX1_put_9 (by decide) (fun _ => ?_) (fun hc2 => absurd (h.resolve_left hc) hc2)
    refine lv_iconst (v := 1) hx hb dX1_put_42 (by decide) ?_
    refine lv_goto (tgt := 47) hx hb dX1_put_43 (by decide) ?_
    refine va_put (D := G) (ci := 1) (v := .int 1) (ty := .int) (C := RX1) (T := TX1) (N := 5) hx hb hts hin tyX1 tyX1_ok nmX1 hown hK hP (hD _ _ _ _ _) hS 0 rfl rfl 4 (by decide) (hts _ (tb_cons _ w_fl_X1_24)) (fun _ h9 => h9) rfl (by decide +kernel) rfl rfl (Nat.le_of_ble_eq_true rfl) dX1_put_47 (fun H locs hP _ hS => ?_)
    have hP : va_P G vwCl (wM a C T K D w 1) H := hP
    refine lv_aload_n hx hb dX1_put_50 rfl (lv_at hl 0 rfl) ?_
    refine va_get (D := G) (ci := 1) (C := RX1) (T := TX1) (N := 5) hx hb hts hin hown hK hP 0 rfl rfl 4 (by decide) (hts _ (tb_cons _ w_fl_X1_24)) (fun _ h9 => h9) rfl dX1_put_51 ?_
    refine lv_if_le (tgt := 59) hx hb dX1_put_54 (by decide) (fun hc => absurd hc (by decide)) (fun _ => ?_)
    refine lv_iconst (v := 0) hx hb dX1_put_57 (by decide) ?_
    exact W.iret hx hb hr (fun t ht _ => ⟨rfl, by rw [ht]; exact hP, hS.F ht⟩) hS.2.2 dX1_put_58
set_option maxHeartbeats 4000000 in
set_option maxRecDepth 100000 in
theorem cm_put_2 (l : Launch) (G : va_G) (a : Nat → Nat) (C : Nat → ClassId) {A : Nat → Prop} (hD : ∀ T K D w th, va_D A (wM a C T K D w th)) (T : Nat → Bool) (K D : Nat → Int64) (w : Nat → Int32) (th : Int32) {j : Nat} (hj : j < 200) {key due : Int64} {x : Int32} (h : key < (-1099511627776) ∨ 1099511627776 < key) : Met l yX1_put wsX1_put rm0 (va_Pc [.ref (a 0), .int (nI j), .long key, .long due, .int x] (rM G a C T K D w th)) (wr_Q G vwCl (some (.int 0)) (wM a C T K D w 1) A) 0 0 A := by
  refine q_open (cc := cX1_put) (maxL := 7) (ret := (some .int)) (by decide) rfl (Nat.le_of_ble_eq_true rfl) ?_
  intro p e s m below meth c ls S hr hlk hB hl
  obtain ⟨hx, hb, hml, hown, hts⟩ := id S
  obtain ⟨hP, hK⟩ := hB
  have hin : ∀ w ∈ u_ws RX1 TX1 5, w ∈ wsX1_put := fun w h => tb_cons w (hinX1 w h)
  have hS : va_S A s.heap s.heap [] := va_S.rf
  have hl : lv_has ls 7 [(0, .ref (a 0)), (1, .int (nI j)), (2, .long key), (4, .long due), (6, .int x)] := hl
  refine lv_aload_n hx hb dX1_put_0 rfl (lv_at hl 0 rfl) ?_
  refine lv_iload_n hx hb dX1_put_1 rfl (lv_at hl 1 rfl) ?_
  refine lv_if_lt (tgt := 42) hx hb dX1_put_2 (by decide) (fun hc => absurd hc (nI_pos (by omega))) (fun _ => ?_)
  refine lv_iload_n hx hb dX1_put_5 rfl (lv_at hl 1 rfl) ?_
  refine lv_sipush (v := 200) hx hb dX1_put_6 (by decide) ?_
  refine lv_icmp_ge (tgt := 42) hx hb dX1_put_9 (by decide) (fun hc => absurd hc (nI_ge (b := 200) hj (by decide))) (fun _ => ?_)
  refine lv_lload_n hx hb dX1_put_12 rfl (lv_at hl 2 rfl) ?_
  refine lv_ldc2 (v := (-1099511627776)) hx hb hown (hts _ (tb_cons _ w_k_X1_28)) dX1_put_13 ?_
  refine W.lcmp hx hb dX1_put_16 ?_
  refine lv_if_lt (tgt := 42) hx hb dX1_put_17 (by decide) (fun hc => ?_) (fun hc => ?_)
  · refine lv_iconst (v := 1) hx hb dX1_put_42 (by decide) ?_
    refine lv_goto (tgt := 47) hx hb dX1_put_43 (by decide) ?_
    refine va_put (D := G) (ci := 1) (v := .int 1) (ty := .int) (C := RX1) (T := TX1) (N := 5) hx hb hts hin tyX1 tyX1_ok nmX1 hown hK hP (hD _ _ _ _ _) hS 0 rfl rfl 4 (by decide) (hts _ (tb_cons _ w_fl_X1_24)) (fun _ h9 => h9) rfl (by decide +kernel) rfl rfl (Nat.le_of_ble_eq_true rfl) dX1_put_47 (fun H locs hP _ hS => ?_)
    have hP : va_P G vwCl (wM a C T K D w 1) H := hP
    refine lv_aload_n hx hb dX1_put_50 rfl (lv_at hl 0 rfl) ?_
    refine va_get (D := G) (ci := 1) (C := RX1) (T := TX1) (N := 5) hx hb hts hin hown hK hP 0 rfl rfl 4 (by decide) (hts _ (tb_cons _ w_fl_X1_24)) (fun _ h9 => h9) rfl dX1_put_51 ?_
    refine lv_if_le (tgt := 59) hx hb dX1_put_54 (by decide) (fun hc => absurd hc (by decide)) (fun _ => ?_)
    refine lv_iconst (v := 0) hx hb dX1_put_57 (by decide) ?_
    exact W.iret hx hb hr (fun t ht _ => ⟨rfl, by rw [ht]; exact hP, hS.F ht⟩) hS.2.2 dX1_put_58
  · refine lv_lload_n hx hb dX1_put_20 rfl (lv_at hl 2 rfl) ?_
    refine lv_ldc2 (v := 1099511627776) hx hb hown (hts _ (tb_cons _ w_k_X1_30)) dX1_put_21 ?_
    refine W.lcmp hx hb dX1_put_24 ?_
    refine lv_if_gt (tgt := 42) hx hb dX1_put_25 (by decide) (fun _ => ?_) (fun hc2 => absurd ((lg_cmp_gt _ _).mpr (h.resolve_left (fun q => hc ((lg_cmp_lt _ _).mpr q)))) hc2)
    refine lv_iconst (v := 1) hx hb dX1_put_42 (by decide) ?_
    refine lv_goto (tgt := 47) hx hb dX1_put_43 (by decide) ?_
    refine va_put (D := G) (ci := 1) (v := .int 1) (ty := .int) (C := RX1) (T := TX1) (N := 5) hx hb hts hin tyX1 tyX1_ok nmX1 hown hK hP (hD _ _ _ _ _) hS 0 rfl rfl 4 (by decide) (hts _ (tb_cons _ w_fl_X1_24)) (fun _ h9 => h9) rfl (by decide +kernel) rfl rfl (Nat.le_of_ble_eq_true rfl) dX1_put_47 (fun H locs hP _ hS => ?_)
    have hP : va_P G vwCl (wM a C T K D w 1) H := hP
    refine lv_aload_n hx hb dX1_put_50 rfl (lv_at hl 0 rfl) ?_
    refine va_get (D := G) (ci := 1) (C := RX1) (T := TX1) (N := 5) hx hb hts hin hown hK hP 0 rfl rfl 4 (by decide) (hts _ (tb_cons _ w_fl_X1_24)) (fun _ h9 => h9) rfl dX1_put_51 ?_
    refine lv_if_le (tgt := 59) hx hb dX1_put_54 (by decide) (fun hc => absurd hc (by decide)) (fun _ => ?_)
    refine lv_iconst (v := 0) hx hb dX1_put_57 (by decide) ?_
    exact W.iret hx hb hr (fun t ht _ => ⟨rfl, by rw [ht]; exact hP, hS.F ht⟩) hS.2.2 dX1_put_58
set_option maxHeartbeats 4000000 in
set_option maxRecDepth 100000 in
theorem cm_put_3 (l : Launch) (G : va_G) (a : Nat → Nat) (C : Nat → ClassId) {A : Nat → Prop} (hD : ∀ T K D w th, va_D A (wM a C T K D w th)) (T : Nat → Bool) (K D : Nat → Int64) (w : Nat → Int32) (th : Int32) {j : Nat} (hj : j < 200) {key due : Int64} {x : Int32} (hk : ¬ key < (-1099511627776) ∧ ¬ 1099511627776 < key) (h : x < 1) : Met l yX1_put wsX1_put rm0 (va_Pc [.ref (a 0), .int (nI j), .long key, .long due, .int x] (rM G a C T K D w th)) (wr_Q G vwCl (some (.int 0)) (wM a C T K D w 1) A) 0 0 A := by
  refine q_open (cc := cX1_put) (maxL := 7) (ret := (some .int)) (by decide) rfl (Nat.le_of_ble_eq_true rfl) ?_
  intro p e s m below meth c ls S hr hlk hB hl
  obtain ⟨hx, hb, hml, hown, hts⟩ := id S
  obtain ⟨hP, hK⟩ := hB
  have hin : ∀ w ∈ u_ws RX1 TX1 5, w ∈ wsX1_put := fun w h => tb_cons w (hinX1 w h)
  have hS : va_S A s.heap s.heap [] := va_S.rf
  have hl : lv_has ls 7 [(0, .ref (a 0)), (1, .int (nI j)), (2, .long key), (4, .long due), (6, .int x)] := hl
  refine lv_aload_n hx hb dX1_put_0 rfl (lv_at hl 0 rfl) ?_
  refine lv_iload_n hx hb dX1_put_1 rfl (lv_at hl 1 rfl) ?_
  refine lv_if_lt (tgt := 42) hx hb dX1_put_2 (by decide) (fun hc => absurd hc (nI_pos (by omega))) (fun _ => ?_)
  refine lv_iload_n hx hb dX1_put_5 rfl (lv_at hl 1 rfl) ?_
  refine lv_sipush (v := 200) hx hb dX1_put_6 (by decide) ?_
  refine lv_icmp_ge (tgt := 42) hx hb dX1_put_9 (by decide) (fun hc => absurd hc (nI_ge (b := 200) hj (by decide))) (fun _ => ?_)
  refine lv_lload_n hx hb dX1_put_12 rfl (lv_at hl 2 rfl) ?_
  refine lv_ldc2 (v := (-1099511627776)) hx hb hown (hts _ (tb_cons _ w_k_X1_28)) dX1_put_13 ?_
  refine W.lcmp hx hb dX1_put_16 ?_
  refine lv_if_lt (tgt := 42) hx hb dX1_put_17 (by decide) (fun hc => absurd hc (fun q => hk.1 ((lg_cmp_lt _ _).mp q))) (fun _ => ?_)
  refine lv_lload_n hx hb dX1_put_20 rfl (lv_at hl 2 rfl) ?_
  refine lv_ldc2 (v := 1099511627776) hx hb hown (hts _ (tb_cons _ w_k_X1_30)) dX1_put_21 ?_
  refine W.lcmp hx hb dX1_put_24 ?_
  refine lv_if_gt (tgt := 42) hx hb dX1_put_25 (by decide) (fun hc => absurd hc (fun q => hk.2 ((lg_cmp_gt _ _).mp q))) (fun _ => ?_)
  refine lv_iload hx hb dX1_put_28 (lv_at hl 4 rfl) ?_
  refine lv_iconst (v := 1) hx hb dX1_put_30 (by decide) ?_
  refine lv_icmp_lt (tgt := 42) hx hb dX1_put_31 (by decide) (fun _ => ?_) (fun hc => absurd (h) hc)
  refine lv_iconst (v := 1) hx hb dX1_put_42 (by decide) ?_
  refine lv_goto (tgt := 47) hx hb dX1_put_43 (by decide) ?_
  refine va_put (D := G) (ci := 1) (v := .int 1) (ty := .int) (C := RX1) (T := TX1) (N := 5) hx hb hts hin tyX1 tyX1_ok nmX1 hown hK hP (hD _ _ _ _ _) hS 0 rfl rfl 4 (by decide) (hts _ (tb_cons _ w_fl_X1_24)) (fun _ h9 => h9) rfl (by decide +kernel) rfl rfl (Nat.le_of_ble_eq_true rfl) dX1_put_47 (fun H locs hP _ hS => ?_)
  have hP : va_P G vwCl (wM a C T K D w 1) H := hP
  refine lv_aload_n hx hb dX1_put_50 rfl (lv_at hl 0 rfl) ?_
  refine va_get (D := G) (ci := 1) (C := RX1) (T := TX1) (N := 5) hx hb hts hin hown hK hP 0 rfl rfl 4 (by decide) (hts _ (tb_cons _ w_fl_X1_24)) (fun _ h9 => h9) rfl dX1_put_51 ?_
  refine lv_if_le (tgt := 59) hx hb dX1_put_54 (by decide) (fun hc => absurd hc (by decide)) (fun _ => ?_)
  refine lv_iconst (v := 0) hx hb dX1_put_57 (by decide) ?_
  exact W.iret hx hb hr (fun t ht _ => ⟨rfl, by rw [ht]; exact hP, hS.F ht⟩) hS.2.2 dX1_put_58
set_option maxHeartbeats 4000000 in
set_option maxRecDepth 100000 in
theorem cm_put_4 (l : Launch) (G : va_G) (a : Nat → Nat) (C : Nat → ClassId) {A : Nat → Prop} (hD : ∀ T K D w th, va_D A (wM a C T K D w th)) (T : Nat → Bool) (K D : Nat → Int64) (w : Nat → Int32) (th : Int32) {j : Nat} (hj : j < 200) {key due : Int64} {x : Int32} (hk : ¬ key < (-1099511627776) ∧ ¬ 1099511627776 < key) (h1 : ¬ x < 1) (h : 1000 < x) : Met l yX1_put wsX1_put rm0 (va_Pc [.ref (a 0), .int (nI j), .long key, .long due, .int x] (rM G a C T K D w th)) (wr_Q G vwCl (some (.int 0)) (wM a C T K D w 1) A) 0 0 A := by
  refine q_open (cc := cX1_put) (maxL := 7) (ret := (some .int)) (by decide) rfl (Nat.le_of_ble_eq_true rfl) ?_
  intro p e s m below meth c ls S hr hlk hB hl
  obtain ⟨hx, hb, hml, hown, hts⟩ := id S
  obtain ⟨hP, hK⟩ := hB
  have hin : ∀ w ∈ u_ws RX1 TX1 5, w ∈ wsX1_put := fun w h => tb_cons w (hinX1 w h)
  have hS : va_S A s.heap s.heap [] := va_S.rf
  have hl : lv_has ls 7 [(0, .ref (a 0)), (1, .int (nI j)), (2, .long key), (4, .long due), (6, .int x)] := hl
  refine lv_aload_n hx hb dX1_put_0 rfl (lv_at hl 0 rfl) ?_
  refine lv_iload_n hx hb dX1_put_1 rfl (lv_at hl 1 rfl) ?_
  refine lv_if_lt (tgt := 42) hx hb dX1_put_2 (by decide) (fun hc => absurd hc (nI_pos (by omega))) (fun _ => ?_)
  refine lv_iload_n hx hb dX1_put_5 rfl (lv_at hl 1 rfl) ?_
  refine lv_sipush (v := 200) hx hb dX1_put_6 (by decide) ?_
  refine lv_icmp_ge (tgt := 42) hx hb dX1_put_9 (by decide) (fun hc => absurd hc (nI_ge (b := 200) hj (by decide))) (fun _ => ?_)
  refine lv_lload_n hx hb dX1_put_12 rfl (lv_at hl 2 rfl) ?_
  refine lv_ldc2 (v := (-1099511627776)) hx hb hown (hts _ (tb_cons _ w_k_X1_28)) dX1_put_13 ?_
  refine W.lcmp hx hb dX1_put_16 ?_
  refine lv_if_lt (tgt := 42) hx hb dX1_put_17 (by decide) (fun hc => absurd hc (fun q => hk.1 ((lg_cmp_lt _ _).mp q))) (fun _ => ?_)
  refine lv_lload_n hx hb dX1_put_20 rfl (lv_at hl 2 rfl) ?_
  refine lv_ldc2 (v := 1099511627776) hx hb hown (hts _ (tb_cons _ w_k_X1_30)) dX1_put_21 ?_
  refine W.lcmp hx hb dX1_put_24 ?_
  refine lv_if_gt (tgt := 42) hx hb dX1_put_25 (by decide) (fun hc => absurd hc (fun q => hk.2 ((lg_cmp_gt _ _).mp q))) (fun _ => ?_)
  refine lv_iload hx hb dX1_put_28 (lv_at hl 4 rfl) ?_
  refine lv_iconst (v := 1) hx hb dX1_put_30 (by decide) ?_
  refine lv_icmp_lt (tgt := 42) hx hb dX1_put_31 (by decide) (fun hc => absurd hc (h1)) (fun _ => ?_)
  refine lv_iload hx hb dX1_put_34 (lv_at hl 4 rfl) ?_
  refine lv_sipush (v := 1000) hx hb dX1_put_36 (by decide) ?_
  refine lv_icmp_le (tgt := 46) hx hb dX1_put_39 (by decide) (fun hc => absurd hc (Int32.not_le.mpr h)) (fun _ => ?_)
  refine lv_iconst (v := 1) hx hb dX1_put_42 (by decide) ?_
  refine lv_goto (tgt := 47) hx hb dX1_put_43 (by decide) ?_
  refine va_put (D := G) (ci := 1) (v := .int 1) (ty := .int) (C := RX1) (T := TX1) (N := 5) hx hb hts hin tyX1 tyX1_ok nmX1 hown hK hP (hD _ _ _ _ _) hS 0 rfl rfl 4 (by decide) (hts _ (tb_cons _ w_fl_X1_24)) (fun _ h9 => h9) rfl (by decide +kernel) rfl rfl (Nat.le_of_ble_eq_true rfl) dX1_put_47 (fun H locs hP _ hS => ?_)
  have hP : va_P G vwCl (wM a C T K D w 1) H := hP
  refine lv_aload_n hx hb dX1_put_50 rfl (lv_at hl 0 rfl) ?_
  refine va_get (D := G) (ci := 1) (C := RX1) (T := TX1) (N := 5) hx hb hts hin hown hK hP 0 rfl rfl 4 (by decide) (hts _ (tb_cons _ w_fl_X1_24)) (fun _ h9 => h9) rfl dX1_put_51 ?_
  refine lv_if_le (tgt := 59) hx hb dX1_put_54 (by decide) (fun hc => absurd hc (by decide)) (fun _ => ?_)
  refine lv_iconst (v := 0) hx hb dX1_put_57 (by decide) ?_
  exact W.iret hx hb hr (fun t ht _ => ⟨rfl, by rw [ht]; exact hP, hS.F ht⟩) hS.2.2 dX1_put_58
set_option maxHeartbeats 4000000 in
set_option maxRecDepth 100000 in
theorem cm_put (l : Launch) (G : va_G) (a : Nat → Nat) (C : Nat → ClassId) {A : Nat → Prop} (hD : ∀ T K D w th, va_D A (wM a C T K D w th)) (T : Nat → Bool) (K D : Nat → Int64) (w : Nat → Int32) (th : Int32) {j : Nat} (hj : j < 200) {key due : Int64} {x : Int32} (hk : ¬ key < (-1099511627776) ∧ ¬ 1099511627776 < key) (h1 : ¬ x < 1) (h2 : x ≤ 1000) : Met l yX1_put wsX1_put { frames := 1, cells := 0, slots := 0, locals := 30 } (va_Pc [.ref (a 0), .int (nI j), .long key, .long due, .int x] (rM G a C T K D w th)) (wr_Q G vwCl (some (.int (nI (ft_cnt (fun i => if i = j then true else T i) 200)))) (wM a C (fun i => if i = j then true else T i) (vp_updL K j key) (vp_updL D j due) (upd w j x) 0) A) 0 0 A := by
  refine q_open (cc := cX1_put) (maxL := 7) (ret := (some .int)) (by decide) rfl (Nat.le_of_ble_eq_true rfl) ?_
  intro p e s m below meth c ls S hr hlk hB hl
  obtain ⟨hx, hb, hml, hown, hts⟩ := id S
  obtain ⟨hP, hK⟩ := hB
  have hin : ∀ w ∈ u_ws RX1 TX1 5, w ∈ wsX1_put := fun w h => tb_cons w (hinX1 w h)
  have hS : va_S A s.heap s.heap [] := va_S.rf
  have hl : lv_has ls 7 [(0, .ref (a 0)), (1, .int (nI j)), (2, .long key), (4, .long due), (6, .int x)] := hl
  refine lv_aload_n hx hb dX1_put_0 rfl (lv_at hl 0 rfl) ?_
  refine lv_iload_n hx hb dX1_put_1 rfl (lv_at hl 1 rfl) ?_
  refine lv_if_lt (tgt := 42) hx hb dX1_put_2 (by decide) (fun hc => absurd hc (nI_pos (by omega))) (fun _ => ?_)
  refine lv_iload_n hx hb dX1_put_5 rfl (lv_at hl 1 rfl) ?_
  refine lv_sipush (v := 200) hx hb dX1_put_6 (by decide) ?_
  refine lv_icmp_ge (tgt := 42) hx hb dX1_put_9 (by decide) (fun hc => absurd hc (nI_ge (b := 200) hj (by decide))) (fun _ => ?_)
  refine lv_lload_n hx hb dX1_put_12 rfl (lv_at hl 2 rfl) ?_
  refine lv_ldc2 (v := (-1099511627776)) hx hb hown (hts _ (tb_cons _ w_k_X1_28)) dX1_put_13 ?_
  refine W.lcmp hx hb dX1_put_16 ?_
  refine lv_if_lt (tgt := 42) hx hb dX1_put_17 (by decide) (fun hc => absurd hc (fun q => hk.1 ((lg_cmp_lt _ _).mp q))) (fun _ => ?_)
  refine lv_lload_n hx hb dX1_put_20 rfl (lv_at hl 2 rfl) ?_
  refine lv_ldc2 (v := 1099511627776) hx hb hown (hts _ (tb_cons _ w_k_X1_30)) dX1_put_21 ?_
  refine W.lcmp hx hb dX1_put_24 ?_
  refine lv_if_gt (tgt := 42) hx hb dX1_put_25 (by decide) (fun hc => absurd hc (fun q => hk.2 ((lg_cmp_gt _ _).mp q))) (fun _ => ?_)
  refine lv_iload hx hb dX1_put_28 (lv_at hl 4 rfl) ?_
  refine lv_iconst (v := 1) hx hb dX1_put_30 (by decide) ?_
  refine lv_icmp_lt (tgt := 42) hx hb dX1_put_31 (by decide) (fun hc => absurd hc (h1)) (fun _ => ?_)
  refine lv_iload hx hb dX1_put_34 (lv_at hl 4 rfl) ?_
  refine lv_sipush (v := 1000) hx hb dX1_put_36 (by decide) ?_
  refine lv_icmp_le (tgt := 46) hx hb dX1_put_39 (by decide) (fun _ => ?_) (fun hc => absurd (h2) hc)
  refine lv_iconst (v := 0) hx hb dX1_put_46 (by decide) ?_
  refine va_put (D := G) (ci := 1) (v := .int 0) (ty := .int) (C := RX1) (T := TX1) (N := 5) hx hb hts hin tyX1 tyX1_ok nmX1 hown hK hP (hD _ _ _ _ _) hS 0 rfl rfl 4 (by decide) (hts _ (tb_cons _ w_fl_X1_24)) (fun _ h9 => h9) rfl (by decide +kernel) rfl rfl (Nat.le_of_ble_eq_true rfl) dX1_put_47 (fun H locs hP _ hS => ?_)
  have hP : va_P G vwCl (wM a C T K D w 0) H := hP
  refine lv_aload_n hx hb dX1_put_50 rfl (lv_at hl 0 rfl) ?_
  refine va_get (D := G) (ci := 1) (C := RX1) (T := TX1) (N := 5) hx hb hts hin hown hK hP 0 rfl rfl 4 (by decide) (hts _ (tb_cons _ w_fl_X1_24)) (fun _ h9 => h9) rfl dX1_put_51 ?_
  refine lv_if_le (tgt := 59) hx hb dX1_put_54 (by decide) (fun _ => ?_) (fun hc => absurd (by decide) hc)
  refine lv_aload_n hx hb dX1_put_59 rfl (lv_at hl 0 rfl) ?_
  refine va_get (D := G) (ci := 1) (C := RX1) (T := TX1) (N := 5) hx hb hts hin hown hK hP 0 rfl rfl 0 (by decide) (hts _ (tb_cons _ w_fl_X1_9)) (fun _ h9 => h9) rfl dX1_put_60 ?_
  refine lv_iload_n hx hb dX1_put_63 rfl (lv_at hl 1 rfl) ?_
  refine lv_iconst (v := 1) hx hb dX1_put_64 (by decide) ?_
  refine q_zast hx hb hK hP (hD _ _ _ _ _) hS 1 0 rfl rfl (j) rfl hj (by decide) rfl dX1_put_65 (fun H locs hP hS => ?_)
  rw [ft_tb_up1] at hP
  have hP : va_P G vwCl (wM a C (fun i9 => if i9 = j then true else T i9) K D w 0) H := hP
  refine lv_aload_n hx hb dX1_put_66 rfl (lv_at hl 0 rfl) ?_
  refine va_get (D := G) (ci := 1) (C := RX1) (T := TX1) (N := 5) hx hb hts hin hown hK hP 0 rfl rfl 1 (by decide) (hts _ (tb_cons _ w_fl_X1_13)) (fun _ h9 => h9) rfl dX1_put_67 ?_
  refine lv_iload_n hx hb dX1_put_70 rfl (lv_at hl 1 rfl) ?_
  refine lv_lload_n hx hb dX1_put_71 rfl (lv_at hl 2 rfl) ?_
  refine q_last hx hb hK hP (hD _ _ _ _ _) hS 2 1 rfl rfl (j) rfl hj (by decide) dX1_put_72 (fun H locs hP hS => ?_)
  have hP : va_P G vwCl (wM a C (fun i9 => if i9 = j then true else T i9) (vp_updL K j key) D w 0) H := hP
  refine lv_aload_n hx hb dX1_put_73 rfl (lv_at hl 0 rfl) ?_
  refine va_get (D := G) (ci := 1) (C := RX1) (T := TX1) (N := 5) hx hb hts hin hown hK hP 0 rfl rfl 2 (by decide) (hts _ (tb_cons _ w_fl_X1_17)) (fun _ h9 => h9) rfl dX1_put_74 ?_
  refine lv_iload_n hx hb dX1_put_77 rfl (lv_at hl 1 rfl) ?_
  refine lv_lload hx hb dX1_put_78 (lv_at hl 3 rfl) ?_
  refine q_last hx hb hK hP (hD _ _ _ _ _) hS 3 2 rfl rfl (j) rfl hj (by decide) dX1_put_80 (fun H locs hP hS => ?_)
  have hP : va_P G vwCl (wM a C (fun i9 => if i9 = j then true else T i9) (vp_updL K j key) (vp_updL D j due) w 0) H := hP
  refine lv_aload_n hx hb dX1_put_81 rfl (lv_at hl 0 rfl) ?_
  refine va_get (D := G) (ci := 1) (C := RX1) (T := TX1) (N := 5) hx hb hts hin hown hK hP 0 rfl rfl 3 (by decide) (hts _ (tb_cons _ w_fl_X1_20)) (fun _ h9 => h9) rfl dX1_put_82 ?_
  refine lv_iload_n hx hb dX1_put_85 rfl (lv_at hl 1 rfl) ?_
  refine lv_iload hx hb dX1_put_86 (lv_at hl 4 rfl) ?_
  refine q_iast hx hb hK hP (hD _ _ _ _ _) hS 4 3 rfl rfl (j) rfl hj (by decide) dX1_put_88 (fun H locs hP hS => ?_)
  have hP : va_P G vwCl (wM a C (fun i9 => if i9 = j then true else T i9) (vp_updL K j key) (vp_updL D j due) (upd w j x) 0) H := hP
  refine lv_aload_n hx hb dX1_put_89 rfl (lv_at hl 0 rfl) ?_
  refine rd_call (W.runV (As := []) (rest := []) S (cm_many l G a C (fun i => if i = j then true else T i) (vp_updL K j key) (vp_updL D j due) (upd w j x) 0) (cwV 0 hts (gX1_32 tb_cons) rfl rfl rfl (by decide +kernel) ⟨Nat.le_of_ble_eq_true rfl, Nat.le_of_ble_eq_true rfl⟩) (pM_V hP hK) rfl rfl hl.1 rfl (lv_room (Nat.le_of_ble_eq_true rfl)) dX1_put_90 ⟨Nat.zero_le _, Nat.zero_le _⟩) ?_
  exact W.iret hx hb hr (fun t ht _ => ⟨rfl, by rw [ht]; exact hP, hS.F ht⟩) hS.2.2 dX1_put_93
set_option maxHeartbeats 4000000 in
set_option maxRecDepth 100000 in
theorem cm_at (l : Launch) (G : va_G) (a : Nat → Nat) (C : Nat → ClassId) {A : Nat → Prop} (hD : ∀ T K D w th, va_D A (wM a C T K D w th)) (T : Nat → Bool) (K D : Nat → Int64) (w : Nat → Int32) (th : Int32) {x : Int32} : Met l yX1_at wsX1_at { frames := 2, cells := 0, slots := 0, locals := 60 } (va_Pc [.ref (a 0), .int x] (rM G a C T K D w th)) (wr_Q G vwCl (some (.int (if (ft_fb (ft_atP T K x) 200 0) < 200 then nI (ft_fb (ft_atP T K x) 200 0) else 0))) (wM a C T K D w (if (ft_fb (ft_atP T K x) 200 0) < 200 then 0 else 1)) A) 0 0 A := by
  refine q_open (cc := cX1_at) (maxL := 3) (ret := (some .int)) (by decide) rfl (Nat.le_of_ble_eq_true rfl) ?_
  intro p e s m below meth c ls S hr hlk hB hl
  obtain ⟨hx, hb, hml, hown, hts⟩ := id S
  obtain ⟨hP, hK⟩ := hB
  have hin : ∀ w ∈ u_ws RX1 TX1 5, w ∈ wsX1_at := fun w h => tb_cons w (hinX1 w h)
  have hS : va_S A s.heap s.heap [] := va_S.rf
  have hl : lv_has ls 3 [(0, .ref (a 0)), (1, .int x)] := hl
  refine lv_aload_n hx hb dX1_at_0 rfl (lv_at hl 0 rfl) ?_
  refine lv_iconst (v := 0) hx hb dX1_at_1 (by decide) ?_
  refine va_put (D := G) (ci := 1) (v := .int 0) (ty := .int) (C := RX1) (T := TX1) (N := 5) hx hb hts hin tyX1 tyX1_ok nmX1 hown hK hP (hD _ _ _ _ _) hS 0 rfl rfl 4 (by decide) (hts _ (tb_cons _ w_fl_X1_24)) (fun _ h9 => h9) rfl (by decide +kernel) rfl rfl (Nat.le_of_ble_eq_true rfl) dX1_at_2 (fun H locs hP _ hS => ?_)
  have hP : va_P G vwCl (wM a C T K D w 0) H := hP
  refine lv_iconst (v := 0) hx hb dX1_at_5 (by decide) ?_
  refine lv_istore_n hx hb dX1_at_6 rfl hl (by decide) rfl (fun ls hl => ?_)
  have hl : lv_has ls 3 [(2, .int 0), (0, .ref (a 0)), (1, .int x)] := hl
  have loop : ∀ (k : Nat) (i : Nat), i + k = 200 → ft_fb (ft_atP T K x) k i = (ft_fb (ft_atP T K x) 200 0) → ∀ (H : Heap) (locs : List Loc), va_P G vwCl (wM a C T K D w 0) H → va_S A s.heap H locs → ∀ ls : Array Slot, lv_has ls 3 [(2, .int (nI i)), (0, .ref (a 0)), (1, .int x)] → W p l e { frames := 2, cells := 0, slots := 0, locals := 60 } s m ([.ref (a 0), .int x] : List Value).toArray below meth c H locs 0 0 (MQ below (wr_Q G vwCl (some (.int ((if (ft_fb (ft_atP T K x) 200 0) < 200 then nI (ft_fb (ft_atP T K x) 200 0) else 0)))) (wM a C T K D w (if (ft_fb (ft_atP T K x) 200 0) < 200 then 0 else 1)) A) ([.ref (a 0), .int x] : List Value).toArray s 0 0 A) (F0 m 7 ls []) := by
    intro k
    induction k with
    | zero =>
      intro i hi hf H locs hP hS ls hl
      refine lv_iload_n hx hb dX1_at_7 rfl (lv_at hl 0 rfl) ?_
      refine lv_sipush (v := 200) hx hb dX1_at_8 (by decide) ?_
      refine lv_icmp_ge (tgt := 40) hx hb dX1_at_11 (by decide) (fun _ => ?_) (fun hc => absurd (nI_le (a := 200) (by omega) (by omega)) hc)
      have hf : i = (ft_fb (ft_atP T K x) 200 0) := hf
      have hn : ¬ (ft_fb (ft_atP T K x) 200 0) < 200 := by omega
      rw [if_neg hn, if_neg hn]
      refine lv_aload_n hx hb dX1_at_40 rfl (lv_at hl 1 rfl) ?_
      refine lv_iconst (v := 1) hx hb dX1_at_41 (by decide) ?_
      refine wr_call (W.runV (As := [.int 1]) (rest := []) S (cm_fail l G a C hD T K D w 0) (cwV 1 hts (gX1_52 tb_cons) rfl rfl rfl (by decide +kernel) ⟨Nat.le_of_ble_eq_true rfl, Nat.le_of_ble_eq_true rfl⟩) (pM_V hP hK) rfl rfl hl.1 rfl (lv_room (Nat.le_of_ble_eq_true rfl)) dX1_at_42 ⟨Nat.zero_le _, Nat.zero_le _⟩) hS (fun _ h => h) (fun H locs hP hS _ _ => ?_)
      have hP : va_P G vwCl (wM a C T K D w 1) H := hP
      refine W.eq (g2 := F0 m 45 ls [.int 0]) rfl ?_
      exact W.iret hx hb hr (fun t ht _ => ⟨rfl, by rw [ht]; exact hP, hS.F ht⟩) hS.2.2 dX1_at_45
    | succ k ih =>
      intro i hi hf H locs hP hS ls hl
      refine lv_iload_n hx hb dX1_at_7 rfl (lv_at hl 0 rfl) ?_
      refine lv_sipush (v := 200) hx hb dX1_at_8 (by decide) ?_
      refine lv_icmp_ge (tgt := 40) hx hb dX1_at_11 (by decide) (fun hc => absurd hc (nI_ge (b := 200) (by omega) (by decide))) (fun _ => ?_)
      refine lv_aload_n hx hb dX1_at_14 rfl (lv_at hl 1 rfl) ?_
      refine va_get (D := G) (ci := 1) (C := RX1) (T := TX1) (N := 5) hx hb hts hin hown hK hP 0 rfl rfl 0 (by decide) (hts _ (tb_cons _ w_fl_X1_9)) (fun _ h9 => h9) rfl dX1_at_15 ?_
      refine lv_iload_n hx hb dX1_at_18 rfl (lv_at hl 0 rfl) ?_
      refine q_zald hx hb hK hP 1 0 rfl rfl (i) rfl (by omega) (by decide) dX1_at_19 ?_
      have hf : (if ft_atP T K x i = true then ft_fb (ft_atP T K x) k (i + 1) else i) = (ft_fb (ft_atP T K x) 200 0) := hf
      by_cases hT : T i = true
      · refine q_topi (y := 1) (ft_tb_t hT) ?_
        refine lv_if_eq (tgt := 34) hx hb dX1_at_20 (by decide) (fun hc => absurd hc (by decide)) (fun _ => ?_)
        refine lv_aload_n hx hb dX1_at_23 rfl (lv_at hl 1 rfl) ?_
        refine lv_iload_n hx hb dX1_at_24 rfl (lv_at hl 0 rfl) ?_
        refine rd_call (W.runV (As := [.int (nI i)]) (rest := []) S (cm_place l G a C T K D w 0 (j := i) (by omega)) (cwV 1 hts (gX1_66 tb_cons) rfl rfl rfl (by decide +kernel) ⟨Nat.le_of_ble_eq_true rfl, Nat.le_of_ble_eq_true rfl⟩) (pM_V hP hK) rfl rfl hl.1 rfl (lv_room (Nat.le_of_ble_eq_true rfl)) dX1_at_25 ⟨Nat.zero_le _, Nat.zero_le _⟩) ?_
        refine lv_iload_n hx hb dX1_at_28 rfl (lv_at hl 2 rfl) ?_
        refine lv_icmp_ne (tgt := 34) hx hb dX1_at_29 (by decide) (fun hq => ?_) (fun hq => ?_)
        · rw [if_pos (by show (!(T i && decide (nI (ft_cnt (fun q => T q && ft_sb K (K i) (nI i) q) 200) = x))) = true; rw [hT, decide_eq_false hq]; rfl)] at hf
          refine lv_iinc (k := 0) (v := nI (i + 1)) hx hb dX1_at_34 hl rfl (nI_succ i).symm (by decide) rfl (fun ls hl => ?_)
          have hl : lv_has ls 3 [(2, .int (nI (i + 1))), (0, .ref (a 0)), (1, .int x)] := hl
          refine lv_goto (tgt := 7) hx hb dX1_at_37 (by decide) ?_
          exact ih (i + 1) (by omega) hf H locs hP hS ls hl
        · rw [if_neg (by show ¬ (!(T i && decide (nI (ft_cnt (fun q => T q && ft_sb K (K i) (nI i) q) 200) = x))) = true; rw [hT, decide_eq_true hq]; decide)] at hf
          have hn : (ft_fb (ft_atP T K x) 200 0) < 200 := by omega
          rw [if_pos hn, if_pos hn]
          refine lv_iload_n hx hb dX1_at_32 rfl (lv_at hl 0 rfl) ?_
          exact W.iret hx hb hr (fun t ht _ => ⟨by rw [← hf], by rw [ht]; exact hP, hS.F ht⟩) hS.2.2 dX1_at_33
      · refine q_topi (y := 0) (ft_tb_f hT) ?_
        rw [if_pos (by show (!(T i && decide (nI (ft_cnt (fun q => T q && ft_sb K (K i) (nI i) q) 200) = x))) = true; rw [show T i = false by simpa using hT]; rfl)] at hf
        refine lv_if_eq (tgt := 34) hx hb dX1_at_20 (by decide) (fun _ => ?_) (fun hc => absurd (rfl) hc)
        refine lv_iinc (k := 0) (v := nI (i + 1)) hx hb dX1_at_34 hl rfl (nI_succ i).symm (by decide) rfl (fun ls hl => ?_)
        have hl : lv_has ls 3 [(2, .int (nI (i + 1))), (0, .ref (a 0)), (1, .int x)] := hl
        refine lv_goto (tgt := 7) hx hb dX1_at_37 (by decide) ?_
        exact ih (i + 1) (by omega) hf H locs hP hS ls hl
  exact loop 200 0 (by omega) rfl H locs hP hS ls hl
end
section
set_option maxHeartbeats 4000000 in
set_option maxRecDepth 100000 in
theorem cm_first (l : Launch) (G : va_G) (a : Nat → Nat) (C : Nat → ClassId) {A : Nat → Prop} (hD : ∀ T K D w th, va_D A (wM a C T K D w th)) (T : Nat → Bool) (K D : Nat → Int64) (w : Nat → Int32) (th : Int32) (lo hi2 : Int64) : Met l yX1_first wsX1_first { frames := 1, cells := 0, slots := 0, locals := 30 } (va_Pc [.ref (a 0), .long lo, .long hi2] (rM G a C T K D w th)) (wr_Q G vwCl (some (.int (ft_or (ft_gf (ft_mnS (fun n => T n && (decide (lo ≤ K n) && decide (K n ≤ hi2))) (fun n c => decide (D n < D c))) none 200)))) (wM a C T K D w (ft_ot (ft_gf (ft_mnS (fun n => T n && (decide (lo ≤ K n) && decide (K n ≤ hi2))) (fun n c => decide (D n < D c))) none 200))) A) 0 0 A := by
  refine q_open (cc := cX1_first) (maxL := 7) (ret := (some .int)) (by decide) rfl (Nat.le_of_ble_eq_true rfl) ?_
  intro p e s m below meth c ls S hr hlk hB hl
  obtain ⟨hx, hb, hml, hown, hts⟩ := id S
  obtain ⟨hP, hK⟩ := hB
  have hin : ∀ w ∈ u_ws RX1 TX1 5, w ∈ wsX1_first := fun w h => tb_cons w (hinX1 w h)
  have hS : va_S A s.heap s.heap [] := va_S.rf
  have hl : lv_has ls 7 [(0, .ref (a 0)), (1, .long lo), (3, .long hi2)] := hl
  refine lv_aload_n hx hb dX1_first_0 rfl (lv_at hl 0 rfl) ?_
  refine lv_iconst (v := 0) hx hb dX1_first_1 (by decide) ?_
  refine va_put (D := G) (ci := 1) (v := .int 0) (ty := .int) (C := RX1) (T := TX1) (N := 5) hx hb hts hin tyX1 tyX1_ok nmX1 hown hK hP (hD _ _ _ _ _) hS 0 rfl rfl 4 (by decide) (hts _ (tb_cons _ w_fl_X1_24)) (fun _ h9 => h9) rfl (by decide +kernel) rfl rfl (Nat.le_of_ble_eq_true rfl) dX1_first_2 (fun H locs hP _ hS => ?_)
  have hP : va_P G vwCl (wM a C T K D w 0) H := hP
  refine lv_iconst (v := (-1)) hx hb dX1_first_5 (by decide) ?_
  refine q_topi (y := ft_ob none) rfl ?_
  refine lv_istore hx hb dX1_first_6 hl (by decide) rfl (fun ls hl => ?_)
  have hl : lv_has ls 7 [(5, .int (ft_ob none)), (0, .ref (a 0)), (1, .long lo), (3, .long hi2)] := hl
  refine lv_iconst (v := 0) hx hb dX1_first_8 (by decide) ?_
  refine lv_istore hx hb dX1_first_9 hl (by decide) rfl (fun ls hl => ?_)
  have hl : lv_has ls 7 [(6, .int 0), (5, .int (ft_ob none)), (0, .ref (a 0)), (1, .long lo), (3, .long hi2)] := hl
  have loop : ∀ (k : Nat) (i : Nat) (acc : Option Nat), i + k = 200 → ft_gf (ft_mnS (fun n => T n && (decide (lo ≤ K n) && decide (K n ≤ hi2))) (fun n c => decide (D n < D c))) none i = acc → (∀ b, acc = some b → b < 200) → ∀ (H : Heap) (locs : List Loc), va_P G vwCl (wM a C T K D w 0) H → va_S A s.heap H locs → ∀ ls : Array Slot, lv_has ls 7 [(6, .int (nI i)), (5, .int (ft_ob acc)), (0, .ref (a 0)), (1, .long lo), (3, .long hi2)] → W p l e { frames := 1, cells := 0, slots := 0, locals := 30 } s m ([.ref (a 0), .long lo, .long hi2] : List Value).toArray below meth c H locs 0 0 (MQ below (wr_Q G vwCl (some (.int (ft_or (ft_gf (ft_mnS (fun n => T n && (decide (lo ≤ K n) && decide (K n ≤ hi2))) (fun n c => decide (D n < D c))) none 200)))) (wM a C T K D w (ft_ot (ft_gf (ft_mnS (fun n => T n && (decide (lo ≤ K n) && decide (K n ≤ hi2))) (fun n c => decide (D n < D c))) none 200))) A) ([.ref (a 0), .long lo, .long hi2] : List Value).toArray s 0 0 A) (F0 m 11 ls []) := by
    intro k
    induction k with
    | zero =>
      intro i acc hi he hbb H locs hP hS ls hl
      refine lv_iload hx hb dX1_first_11 (lv_at hl 0 rfl) ?_
      refine lv_sipush (v := 200) hx hb dX1_first_13 (by decide) ?_
      refine lv_icmp_ge (tgt := 87) hx hb dX1_first_16 (by decide) (fun _ => ?_) (fun hc => absurd (nI_le (a := 200) (by omega) (by omega)) hc)
      have e9 : i = 200 := hi
      rw [e9] at he
      rw [he]
      refine lv_iload hx hb dX1_first_87 (lv_at hl 1 rfl) ?_
      refine lv_iconst (v := (-1)) hx hb dX1_first_89 (by decide) ?_
      cases acc with
      | none =>
        refine lv_icmp_ne (tgt := 101) hx hb dX1_first_90 (by decide) (fun hc => absurd (rfl) hc) (fun _ => ?_)
        refine lv_aload_n hx hb dX1_first_93 rfl (lv_at hl 2 rfl) ?_
        refine lv_iconst (v := 1) hx hb dX1_first_94 (by decide) ?_
        refine wr_call (W.runV (As := [.int 1]) (rest := []) S (cm_fail l G a C hD T K D w 0) (cwV 1 hts (gX1_52 tb_cons) rfl rfl rfl (by decide +kernel) ⟨Nat.le_of_ble_eq_true rfl, Nat.le_of_ble_eq_true rfl⟩) (pM_V hP hK) rfl rfl hl.1 rfl (lv_room (Nat.le_of_ble_eq_true rfl)) dX1_first_95 ⟨Nat.zero_le _, Nat.zero_le _⟩) hS (fun _ h => h) (fun H locs hP hS _ _ => ?_)
        have hP : va_P G vwCl (wM a C T K D w 1) H := hP
        refine W.eq (g2 := F0 m 98 ls [.int 0]) rfl ?_
        refine lv_goto (tgt := 103) hx hb dX1_first_98 (by decide) ?_
        exact W.iret hx hb hr (fun t ht _ => ⟨rfl, by rw [ht]; exact hP, hS.F ht⟩) hS.2.2 dX1_first_103
      | some b =>
        refine lv_icmp_ne (tgt := 101) hx hb dX1_first_90 (by decide) (fun _ => ?_) (fun hc => absurd hc (nI_ne_m1 (hbb b rfl)))
        refine lv_iload hx hb dX1_first_101 (lv_at hl 1 rfl) ?_
        exact W.iret hx hb hr (fun t ht _ => ⟨rfl, by rw [ht]; exact hP, hS.F ht⟩) hS.2.2 dX1_first_103
    | succ k ih =>
      intro i acc hi he hbb H locs hP hS ls hl
      refine lv_iload hx hb dX1_first_11 (lv_at hl 0 rfl) ?_
      refine lv_sipush (v := 200) hx hb dX1_first_13 (by decide) ?_
      refine lv_icmp_ge (tgt := 87) hx hb dX1_first_16 (by decide) (fun hc => absurd hc (nI_ge (b := 200) (by omega) (by decide))) (fun _ => ?_)
      refine lv_aload_n hx hb dX1_first_19 rfl (lv_at hl 2 rfl) ?_
      refine va_get (D := G) (ci := 1) (C := RX1) (T := TX1) (N := 5) hx hb hts hin hown hK hP 0 rfl rfl 0 (by decide) (hts _ (tb_cons _ w_fl_X1_9)) (fun _ h9 => h9) rfl dX1_first_20 ?_
      refine lv_iload hx hb dX1_first_23 (lv_at hl 0 rfl) ?_
      refine q_zald hx hb hK hP 1 0 rfl rfl (i) rfl (by omega) (by decide) dX1_first_25 ?_
      by_cases hT : T i = true
      · refine q_topi (y := 1) (ft_tb_t hT) ?_
        refine lv_if_eq (tgt := 81) hx hb dX1_first_26 (by decide) (fun hc => absurd hc (by decide)) (fun _ => ?_)
        refine lv_aload_n hx hb dX1_first_29 rfl (lv_at hl 2 rfl) ?_
        refine va_get (D := G) (ci := 1) (C := RX1) (T := TX1) (N := 5) hx hb hts hin hown hK hP 0 rfl rfl 1 (by decide) (hts _ (tb_cons _ w_fl_X1_13)) (fun _ h9 => h9) rfl dX1_first_30 ?_
        refine lv_iload hx hb dX1_first_33 (lv_at hl 0 rfl) ?_
        refine q_lald hx hb hK hP 2 1 rfl rfl (i) rfl (by omega) (by decide) dX1_first_35 ?_
        refine lv_lload_n hx hb dX1_first_36 rfl (lv_at hl 3 rfl) ?_
        refine W.lcmp hx hb dX1_first_37 ?_
        refine lv_if_lt (tgt := 81) hx hb dX1_first_38 (by decide) (fun hlo => ?_) (fun hlo => ?_)
        · refine lv_iinc (k := 0) (v := nI (i + 1)) hx hb dX1_first_81 hl rfl (nI_succ i).symm (by decide) rfl (fun ls hl => ?_)
          have hl : lv_has ls 7 [(6, .int (nI (i + 1))), (5, .int (ft_ob acc)), (0, .ref (a 0)), (1, .long lo), (3, .long hi2)] := hl
          refine lv_goto (tgt := 11) hx hb dX1_first_84 (by decide) ?_
          exact ih (i + 1) acc (by omega) (ft_gf_s he (ft_mnS_f1 (nand2 (nand1 (fun z => Int64.not_le.mpr ((lg_cmp_lt _ _).mp hlo) (of_decide_eq_true z)))))) hbb H locs hP hS ls hl
        · refine lv_aload_n hx hb dX1_first_41 rfl (lv_at hl 2 rfl) ?_
          refine va_get (D := G) (ci := 1) (C := RX1) (T := TX1) (N := 5) hx hb hts hin hown hK hP 0 rfl rfl 1 (by decide) (hts _ (tb_cons _ w_fl_X1_13)) (fun _ h9 => h9) rfl dX1_first_42 ?_
          refine lv_iload hx hb dX1_first_45 (lv_at hl 0 rfl) ?_
          refine q_lald hx hb hK hP 2 1 rfl rfl (i) rfl (by omega) (by decide) dX1_first_47 ?_
          refine lv_lload_n hx hb dX1_first_48 rfl (lv_at hl 4 rfl) ?_
          refine W.lcmp hx hb dX1_first_49 ?_
          refine lv_if_gt (tgt := 81) hx hb dX1_first_50 (by decide) (fun hhi => ?_) (fun hhi => ?_)
          · refine lv_iinc (k := 0) (v := nI (i + 1)) hx hb dX1_first_81 hl rfl (nI_succ i).symm (by decide) rfl (fun ls hl => ?_)
            have hl : lv_has ls 7 [(6, .int (nI (i + 1))), (5, .int (ft_ob acc)), (0, .ref (a 0)), (1, .long lo), (3, .long hi2)] := hl
            refine lv_goto (tgt := 11) hx hb dX1_first_84 (by decide) ?_
            exact ih (i + 1) acc (by omega) (ft_gf_s he (ft_mnS_f1 (nand2 (nand2 (fun z => Int64.not_le.mpr ((lg_cmp_gt _ _).mp hhi) (of_decide_eq_true z)))))) hbb H locs hP hS ls hl
          · have hp : (fun n => T n && (decide (lo ≤ K n) && decide (K n ≤ hi2))) i = true := (yand hT (yand (decide_eq_true (Int64.not_lt.mp (fun z => hlo ((lg_cmp_lt _ _).mpr z)))) (decide_eq_true (Int64.not_lt.mp (fun z => hhi ((lg_cmp_gt _ _).mpr z))))))
            refine lv_iload hx hb dX1_first_53 (lv_at hl 1 rfl) ?_
            refine lv_iconst (v := (-1)) hx hb dX1_first_55 (by decide) ?_
            cases acc with
            | none =>
              refine lv_icmp_eq (tgt := 77) hx hb dX1_first_56 (by decide) (fun _ => ?_) (fun hc => absurd (rfl) hc)
              refine lv_iload hx hb dX1_first_77 (lv_at hl 0 rfl) ?_
              refine lv_istore hx hb dX1_first_79 hl (by decide) rfl (fun ls hl => ?_)
              have hl : lv_has ls 7 [(5, .int (nI i)), (6, .int (nI i)), (0, .ref (a 0)), (1, .long lo), (3, .long hi2)] := hl
              refine lv_iinc (k := 1) (v := nI (i + 1)) hx hb dX1_first_81 hl rfl (nI_succ i).symm (by decide) rfl (fun ls hl => ?_)
              have hl : lv_has ls 7 [(6, .int (nI (i + 1))), (5, .int (nI i)), (0, .ref (a 0)), (1, .long lo), (3, .long hi2)] := hl
              refine lv_goto (tgt := 11) hx hb dX1_first_84 (by decide) ?_
              exact ih (i + 1) (some i) (by omega) (ft_gf_s he (ft_mnS_t hp rfl)) (fun b e => by cases e; omega) H locs hP hS ls hl
            | some b =>
              refine lv_icmp_eq (tgt := 77) hx hb dX1_first_56 (by decide) (fun hc => absurd hc (nI_ne_m1 (hbb b rfl))) (fun _ => ?_)
              refine lv_aload_n hx hb dX1_first_59 rfl (lv_at hl 2 rfl) ?_
              refine va_get (D := G) (ci := 1) (C := RX1) (T := TX1) (N := 5) hx hb hts hin hown hK hP 0 rfl rfl 2 (by decide) (hts _ (tb_cons _ w_fl_X1_17)) (fun _ h9 => h9) rfl dX1_first_60 ?_
              refine lv_iload hx hb dX1_first_63 (lv_at hl 0 rfl) ?_
              refine q_lald hx hb hK hP 3 2 rfl rfl (i) rfl (by omega) (by decide) dX1_first_65 ?_
              refine lv_aload_n hx hb dX1_first_66 rfl (lv_at hl 2 rfl) ?_
              refine va_get (D := G) (ci := 1) (C := RX1) (T := TX1) (N := 5) hx hb hts hin hown hK hP 0 rfl rfl 2 (by decide) (hts _ (tb_cons _ w_fl_X1_17)) (fun _ h9 => h9) rfl dX1_first_67 ?_
              refine lv_iload hx hb dX1_first_70 (lv_at hl 1 rfl) ?_
              refine q_lald hx hb hK hP 3 2 rfl rfl (b) rfl (hbb b rfl) (by decide) dX1_first_72 ?_
              refine W.lcmp hx hb dX1_first_73 ?_
              refine lv_if_ge (tgt := 81) hx hb dX1_first_74 (by decide) (fun hd => ?_) (fun hd => ?_)
              · refine lv_iinc (k := 0) (v := nI (i + 1)) hx hb dX1_first_81 hl rfl (nI_succ i).symm (by decide) rfl (fun ls hl => ?_)
                have hl : lv_has ls 7 [(6, .int (nI (i + 1))), (5, .int (ft_ob (some b))), (0, .ref (a 0)), (1, .long lo), (3, .long hi2)] := hl
                refine lv_goto (tgt := 11) hx hb dX1_first_84 (by decide) ?_
                exact ih (i + 1) (some b) (by omega) (ft_gf_s he (ft_mnS_f2 (fun z => Int64.not_lt.mpr ((lg_cmp_ge _ _).mp hd) (of_decide_eq_true z)))) hbb H locs hP hS ls hl
              · refine lv_iload hx hb dX1_first_77 (lv_at hl 0 rfl) ?_
                refine lv_istore hx hb dX1_first_79 hl (by decide) rfl (fun ls hl => ?_)
                have hl : lv_has ls 7 [(5, .int (nI i)), (6, .int (nI i)), (0, .ref (a 0)), (1, .long lo), (3, .long hi2)] := hl
                refine lv_iinc (k := 1) (v := nI (i + 1)) hx hb dX1_first_81 hl rfl (nI_succ i).symm (by decide) rfl (fun ls hl => ?_)
                have hl : lv_has ls 7 [(6, .int (nI (i + 1))), (5, .int (nI i)), (0, .ref (a 0)), (1, .long lo), (3, .long hi2)] := hl
                refine lv_goto (tgt := 11) hx hb dX1_first_84 (by decide) ?_
                exact ih (i + 1) (some i) (by omega) (ft_gf_s he (ft_mnS_t hp (decide_eq_true (Int64.not_le.mp (fun z => hd ((lg_cmp_ge _ _).mpr z)))))) (fun b e => by cases e; omega) H locs hP hS ls hl
      · refine q_topi (y := 0) (ft_tb_f hT) ?_
        refine lv_if_eq (tgt := 81) hx hb dX1_first_26 (by decide) (fun _ => ?_) (fun hc => absurd (rfl) hc)
        refine lv_iinc (k := 0) (v := nI (i + 1)) hx hb dX1_first_81 hl rfl (nI_succ i).symm (by decide) rfl (fun ls hl => ?_)
        have hl : lv_has ls 7 [(6, .int (nI (i + 1))), (5, .int (ft_ob acc)), (0, .ref (a 0)), (1, .long lo), (3, .long hi2)] := hl
        refine lv_goto (tgt := 11) hx hb dX1_first_84 (by decide) ?_
        exact ih (i + 1) acc (by omega) (ft_gf_s he (ft_mnS_f1 (nand1 hT))) hbb H locs hP hS ls hl
  exact loop 200 0 none (by omega) rfl (fun b e => by cases e) H locs hP hS ls hl
set_option maxHeartbeats 4000000 in
set_option maxRecDepth 100000 in
theorem cm_earliest (l : Launch) (G : va_G) (a : Nat → Nat) (C : Nat → ClassId) {A : Nat → Prop} (hD : ∀ T K D w th, va_D A (wM a C T K D w th)) (T : Nat → Bool) (K D : Nat → Int64) (w : Nat → Int32) (th : Int32) (key : Int64) : Met l yX1_earliest wsX1_earliest { frames := 2, cells := 0, slots := 0, locals := 60 } (va_Pc [.ref (a 0), .long key] (rM G a C T K D w th)) (wr_Q G vwCl (some (.int (ft_or (ft_gf (ft_mnS (fun n => T n && (decide ((-9223372036854775808) ≤ K n) && decide (K n ≤ key))) (fun n c => decide (D n < D c))) none 200)))) (wM a C T K D w (ft_ot (ft_gf (ft_mnS (fun n => T n && (decide ((-9223372036854775808) ≤ K n) && decide (K n ≤ key))) (fun n c => decide (D n < D c))) none 200))) A) 0 0 A := by
  refine q_open (cc := cX1_earliest) (maxL := 3) (ret := (some .int)) (by decide) rfl (Nat.le_of_ble_eq_true rfl) ?_
  intro p e s m below meth c ls S hr hlk hB hl
  obtain ⟨hx, hb, hml, hown, hts⟩ := id S
  obtain ⟨hP, hK⟩ := hB
  have hin : ∀ w ∈ u_ws RX1 TX1 5, w ∈ wsX1_earliest := fun w h => tb_cons w (hinX1 w h)
  have hS : va_S A s.heap s.heap [] := va_S.rf
  have hl : lv_has ls 3 [(0, .ref (a 0)), (1, .long key)] := hl
  refine lv_aload_n hx hb dX1_earliest_0 rfl (lv_at hl 0 rfl) ?_
  refine lv_ldc2 (v := (-9223372036854775808)) hx hb hown (hts _ (tb_cons _ w_k_X1_69)) dX1_earliest_1 ?_
  refine lv_lload_n hx hb dX1_earliest_4 rfl (lv_at hl 1 rfl) ?_
  refine wr_call (W.runV (As := [.long (-9223372036854775808), .long key]) (rest := []) S (cm_first l G a C hD T K D w th (-9223372036854775808) key) (cwV 2 hts (gX1_71 tb_cons) rfl rfl rfl (by decide +kernel) ⟨Nat.le_of_ble_eq_true rfl, Nat.le_of_ble_eq_true rfl⟩) (pM_V hP hK) rfl rfl hl.1 rfl (lv_room (Nat.le_of_ble_eq_true rfl)) dX1_earliest_5 ⟨Nat.zero_le _, Nat.zero_le _⟩) hS (fun _ h => h) (fun H locs hP hS _ _ => ?_)
  have hP : va_P G vwCl (wM a C T K D w (ft_ot (ft_gf (ft_mnS (fun n => T n && (decide ((-9223372036854775808) ≤ K n) && decide (K n ≤ key))) (fun n c => decide (D n < D c))) none 200))) H := hP
  refine W.eq (g2 := F0 m 8 ls [.int (ft_or (ft_gf (ft_mnS (fun n => T n && (decide ((-9223372036854775808) ≤ K n) && decide (K n ≤ key))) (fun n c => decide (D n < D c))) none 200))]) rfl ?_
  exact W.iret hx hb hr (fun t ht _ => ⟨rfl, by rw [ht]; exact hP, hS.F ht⟩) hS.2.2 dX1_earliest_8
set_option maxHeartbeats 4000000 in
set_option maxRecDepth 100000 in
theorem cm_between (l : Launch) (G : va_G) (a : Nat → Nat) (C : Nat → ClassId) {A : Nat → Prop} (hD : ∀ T K D w th, va_D A (wM a C T K D w th)) (T : Nat → Bool) (K D : Nat → Int64) (w : Nat → Int32) (th : Int32) (lo hi2 : Int64) : Met l yX1_between wsX1_between { frames := 2, cells := 0, slots := 0, locals := 60 } (va_Pc [.ref (a 0), .long lo, .long hi2] (rM G a C T K D w th)) (wr_Q G vwCl (some (.int (ft_or (ft_gf (ft_mnS (fun n => T n && (decide (lo ≤ K n) && decide (K n ≤ hi2))) (fun n c => decide (D n < D c))) none 200)))) (wM a C T K D w (ft_ot (ft_gf (ft_mnS (fun n => T n && (decide (lo ≤ K n) && decide (K n ≤ hi2))) (fun n c => decide (D n < D c))) none 200))) A) 0 0 A := by
  refine q_open (cc := cX1_between) (maxL := 5) (ret := (some .int)) (by decide) rfl (Nat.le_of_ble_eq_true rfl) ?_
  intro p e s m below meth c ls S hr hlk hB hl
  obtain ⟨hx, hb, hml, hown, hts⟩ := id S
  obtain ⟨hP, hK⟩ := hB
  have hin : ∀ w ∈ u_ws RX1 TX1 5, w ∈ wsX1_between := fun w h => tb_cons w (hinX1 w h)
  have hS : va_S A s.heap s.heap [] := va_S.rf
  have hl : lv_has ls 5 [(0, .ref (a 0)), (1, .long lo), (3, .long hi2)] := hl
  refine lv_aload_n hx hb dX1_between_0 rfl (lv_at hl 0 rfl) ?_
  refine lv_lload_n hx hb dX1_between_1 rfl (lv_at hl 1 rfl) ?_
  refine lv_lload_n hx hb dX1_between_2 rfl (lv_at hl 2 rfl) ?_
  refine wr_call (W.runV (As := [.long lo, .long hi2]) (rest := []) S (cm_first l G a C hD T K D w th lo hi2) (cwV 2 hts (gX1_71 tb_cons) rfl rfl rfl (by decide +kernel) ⟨Nat.le_of_ble_eq_true rfl, Nat.le_of_ble_eq_true rfl⟩) (pM_V hP hK) rfl rfl hl.1 rfl (lv_room (Nat.le_of_ble_eq_true rfl)) dX1_between_3 ⟨Nat.zero_le _, Nat.zero_le _⟩) hS (fun _ h => h) (fun H locs hP hS _ _ => ?_)
  have hP : va_P G vwCl (wM a C T K D w (ft_ot (ft_gf (ft_mnS (fun n => T n && (decide (lo ≤ K n) && decide (K n ≤ hi2))) (fun n c => decide (D n < D c))) none 200))) H := hP
  refine W.eq (g2 := F0 m 6 ls [.int (ft_or (ft_gf (ft_mnS (fun n => T n && (decide (lo ≤ K n) && decide (K n ≤ hi2))) (fun n c => decide (D n < D c))) none 200))]) rfl ?_
  exact W.iret hx hb hr (fun t ht _ => ⟨rfl, by rw [ht]; exact hP, hS.F ht⟩) hS.2.2 dX1_between_6
set_option maxHeartbeats 4000000 in
set_option maxRecDepth 100000 in
theorem cm_pick (l : Launch) (G : va_G) (a : Nat → Nat) (C : Nat → ClassId) {A : Nat → Prop} (hD : ∀ T K D w th, va_D A (wM a C T K D w th)) (T : Nat → Bool) (K D : Nat → Int64) (w : Nat → Int32) (th : Int32) : Met l yX1_pick wsX1_pick { frames := 1, cells := 0, slots := 0, locals := 30 } (va_Pc [.ref (a 0)] (rM G a C T K D w th)) (wr_Q G vwCl (some (.int (ft_or (ft_gf (ft_mnS (fun n => T n && decide (ft_ld T K w (K n) ≤ 0)) (fun n c => decide (D n < D c))) none 200)))) (wM a C T K D w (ft_ot (ft_gf (ft_mnS (fun n => T n && decide (ft_ld T K w (K n) ≤ 0)) (fun n c => decide (D n < D c))) none 200))) A) 0 0 A := by
  refine q_open (cc := cX1_pick) (maxL := 3) (ret := (some .int)) (by decide) rfl (Nat.le_of_ble_eq_true rfl) ?_
  intro p e s m below meth c ls S hr hlk hB hl
  obtain ⟨hx, hb, hml, hown, hts⟩ := id S
  obtain ⟨hP, hK⟩ := hB
  have hin : ∀ w ∈ u_ws RX1 TX1 5, w ∈ wsX1_pick := fun w h => tb_cons w (hinX1 w h)
  have hS : va_S A s.heap s.heap [] := va_S.rf
  have hl : lv_has ls 3 [(0, .ref (a 0))] := hl
  refine lv_aload_n hx hb dX1_pick_0 rfl (lv_at hl 0 rfl) ?_
  refine lv_iconst (v := 0) hx hb dX1_pick_1 (by decide) ?_
  refine va_put (D := G) (ci := 1) (v := .int 0) (ty := .int) (C := RX1) (T := TX1) (N := 5) hx hb hts hin tyX1 tyX1_ok nmX1 hown hK hP (hD _ _ _ _ _) hS 0 rfl rfl 4 (by decide) (hts _ (tb_cons _ w_fl_X1_24)) (fun _ h9 => h9) rfl (by decide +kernel) rfl rfl (Nat.le_of_ble_eq_true rfl) dX1_pick_2 (fun H locs hP _ hS => ?_)
  have hP : va_P G vwCl (wM a C T K D w 0) H := hP
  refine lv_iconst (v := (-1)) hx hb dX1_pick_5 (by decide) ?_
  refine q_topi (y := ft_ob none) rfl ?_
  refine lv_istore_n hx hb dX1_pick_6 rfl hl (by decide) rfl (fun ls hl => ?_)
  have hl : lv_has ls 3 [(1, .int (ft_ob none)), (0, .ref (a 0))] := hl
  refine lv_iconst (v := 0) hx hb dX1_pick_7 (by decide) ?_
  refine lv_istore_n hx hb dX1_pick_8 rfl hl (by decide) rfl (fun ls hl => ?_)
  have hl : lv_has ls 3 [(2, .int 0), (1, .int (ft_ob none)), (0, .ref (a 0))] := hl
  have loop : ∀ (k : Nat) (i : Nat) (acc : Option Nat), i + k = 200 → ft_gf (ft_mnS (fun n => T n && decide (ft_ld T K w (K n) ≤ 0)) (fun n c => decide (D n < D c))) none i = acc → (∀ b, acc = some b → b < 200) → ∀ (H : Heap) (locs : List Loc), va_P G vwCl (wM a C T K D w 0) H → va_S A s.heap H locs → ∀ ls : Array Slot, lv_has ls 3 [(2, .int (nI i)), (1, .int (ft_ob acc)), (0, .ref (a 0))] → W p l e { frames := 1, cells := 0, slots := 0, locals := 30 } s m ([.ref (a 0)] : List Value).toArray below meth c H locs 0 0 (MQ below (wr_Q G vwCl (some (.int (ft_or (ft_gf (ft_mnS (fun n => T n && decide (ft_ld T K w (K n) ≤ 0)) (fun n c => decide (D n < D c))) none 200)))) (wM a C T K D w (ft_ot (ft_gf (ft_mnS (fun n => T n && decide (ft_ld T K w (K n) ≤ 0)) (fun n c => decide (D n < D c))) none 200))) A) ([.ref (a 0)] : List Value).toArray s 0 0 A) (F0 m 9 ls []) := by
    intro k
    induction k with
    | zero =>
      intro i acc hi he hbb H locs hP hS ls hl
      refine lv_iload_n hx hb dX1_pick_9 rfl (lv_at hl 0 rfl) ?_
      refine lv_sipush (v := 200) hx hb dX1_pick_10 (by decide) ?_
      refine lv_icmp_ge (tgt := 64) hx hb dX1_pick_13 (by decide) (fun _ => ?_) (fun hc => absurd (nI_le (a := 200) (by omega) (by omega)) hc)
      have e9 : i = 200 := hi
      rw [e9] at he
      rw [he]
      refine lv_iload_n hx hb dX1_pick_64 rfl (lv_at hl 1 rfl) ?_
      refine lv_iconst (v := (-1)) hx hb dX1_pick_65 (by decide) ?_
      cases acc with
      | none =>
        refine lv_icmp_ne (tgt := 77) hx hb dX1_pick_66 (by decide) (fun hc => absurd (rfl) hc) (fun _ => ?_)
        refine lv_aload_n hx hb dX1_pick_69 rfl (lv_at hl 2 rfl) ?_
        refine lv_iconst (v := 1) hx hb dX1_pick_70 (by decide) ?_
        refine wr_call (W.runV (As := [.int 1]) (rest := []) S (cm_fail l G a C hD T K D w 0) (cwV 1 hts (gX1_52 tb_cons) rfl rfl rfl (by decide +kernel) ⟨Nat.le_of_ble_eq_true rfl, Nat.le_of_ble_eq_true rfl⟩) (pM_V hP hK) rfl rfl hl.1 rfl (lv_room (Nat.le_of_ble_eq_true rfl)) dX1_pick_71 ⟨Nat.zero_le _, Nat.zero_le _⟩) hS (fun _ h => h) (fun H locs hP hS _ _ => ?_)
        have hP : va_P G vwCl (wM a C T K D w 1) H := hP
        refine W.eq (g2 := F0 m 74 ls [.int 0]) rfl ?_
        refine lv_goto (tgt := 78) hx hb dX1_pick_74 (by decide) ?_
        exact W.iret hx hb hr (fun t ht _ => ⟨rfl, by rw [ht]; exact hP, hS.F ht⟩) hS.2.2 dX1_pick_78
      | some b =>
        refine lv_icmp_ne (tgt := 77) hx hb dX1_pick_66 (by decide) (fun _ => ?_) (fun hc => absurd hc (nI_ne_m1 (hbb b rfl)))
        refine lv_iload_n hx hb dX1_pick_77 rfl (lv_at hl 1 rfl) ?_
        exact W.iret hx hb hr (fun t ht _ => ⟨rfl, by rw [ht]; exact hP, hS.F ht⟩) hS.2.2 dX1_pick_78
    | succ k ih =>
      intro i acc hi he hbb H locs hP hS ls hl
      refine lv_iload_n hx hb dX1_pick_9 rfl (lv_at hl 0 rfl) ?_
      refine lv_sipush (v := 200) hx hb dX1_pick_10 (by decide) ?_
      refine lv_icmp_ge (tgt := 64) hx hb dX1_pick_13 (by decide) (fun hc => absurd hc (nI_ge (b := 200) (by omega) (by decide))) (fun _ => ?_)
      refine lv_aload_n hx hb dX1_pick_16 rfl (lv_at hl 2 rfl) ?_
      refine va_get (D := G) (ci := 1) (C := RX1) (T := TX1) (N := 5) hx hb hts hin hown hK hP 0 rfl rfl 0 (by decide) (hts _ (tb_cons _ w_fl_X1_9)) (fun _ h9 => h9) rfl dX1_pick_17 ?_
      refine lv_iload_n hx hb dX1_pick_20 rfl (lv_at hl 0 rfl) ?_
      refine q_zald hx hb hK hP 1 0 rfl rfl (i) rfl (by omega) (by decide) dX1_pick_21 ?_
      by_cases hT : T i = true
      · refine q_topi (y := 1) (ft_tb_t hT) ?_
        refine lv_if_eq (tgt := 58) hx hb dX1_pick_22 (by decide) (fun hc => absurd hc (by decide)) (fun _ => ?_)
        refine lv_aload_n hx hb dX1_pick_25 rfl (lv_at hl 2 rfl) ?_
        refine lv_iload_n hx hb dX1_pick_26 rfl (lv_at hl 0 rfl) ?_
        refine rd_call (W.runV (As := [.int (nI i)]) (rest := []) S (cm_lead l G a C T K D w 0 (j := i) (by omega)) (cwV 1 hts (gX1_75 tb_cons) rfl rfl rfl (by decide +kernel) ⟨Nat.le_of_ble_eq_true rfl, Nat.le_of_ble_eq_true rfl⟩) (pM_V hP hK) rfl rfl hl.1 rfl (lv_room (Nat.le_of_ble_eq_true rfl)) dX1_pick_27 ⟨Nat.zero_le _, Nat.zero_le _⟩) ?_
        refine lv_lconst (v := 0) hx hb dX1_pick_30 (by decide) ?_
        refine W.lcmp hx hb dX1_pick_31 ?_
        refine lv_if_gt (tgt := 58) hx hb dX1_pick_32 (by decide) (fun hld => ?_) (fun hld => ?_)
        · refine lv_iinc (k := 0) (v := nI (i + 1)) hx hb dX1_pick_58 hl rfl (nI_succ i).symm (by decide) rfl (fun ls hl => ?_)
          have hl : lv_has ls 3 [(2, .int (nI (i + 1))), (1, .int (ft_ob acc)), (0, .ref (a 0))] := hl
          refine lv_goto (tgt := 9) hx hb dX1_pick_61 (by decide) ?_
          exact ih (i + 1) acc (by omega) (ft_gf_s he (ft_mnS_f1 (nand2 (fun z => Int64.not_le.mpr ((lg_cmp_gt _ _).mp hld) (of_decide_eq_true z))))) hbb H locs hP hS ls hl
        · have hp : (fun n => T n && decide (ft_ld T K w (K n) ≤ 0)) i = true := (yand hT (decide_eq_true (Int64.not_lt.mp (fun z => hld ((lg_cmp_gt _ _).mpr z)))))
          refine lv_iload_n hx hb dX1_pick_35 rfl (lv_at hl 1 rfl) ?_
          refine lv_iconst (v := (-1)) hx hb dX1_pick_36 (by decide) ?_
          cases acc with
          | none =>
            refine lv_icmp_eq (tgt := 56) hx hb dX1_pick_37 (by decide) (fun _ => ?_) (fun hc => absurd (rfl) hc)
            refine lv_iload_n hx hb dX1_pick_56 rfl (lv_at hl 0 rfl) ?_
            refine lv_istore_n hx hb dX1_pick_57 rfl hl (by decide) rfl (fun ls hl => ?_)
            have hl : lv_has ls 3 [(1, .int (nI i)), (2, .int (nI i)), (0, .ref (a 0))] := hl
            refine lv_iinc (k := 1) (v := nI (i + 1)) hx hb dX1_pick_58 hl rfl (nI_succ i).symm (by decide) rfl (fun ls hl => ?_)
            have hl : lv_has ls 3 [(2, .int (nI (i + 1))), (1, .int (nI i)), (0, .ref (a 0))] := hl
            refine lv_goto (tgt := 9) hx hb dX1_pick_61 (by decide) ?_
            exact ih (i + 1) (some i) (by omega) (ft_gf_s he (ft_mnS_t hp rfl)) (fun b e => by cases e; omega) H locs hP hS ls hl
          | some b =>
            refine lv_icmp_eq (tgt := 56) hx hb dX1_pick_37 (by decide) (fun hc => absurd hc (nI_ne_m1 (hbb b rfl))) (fun _ => ?_)
            refine lv_aload_n hx hb dX1_pick_40 rfl (lv_at hl 2 rfl) ?_
            refine va_get (D := G) (ci := 1) (C := RX1) (T := TX1) (N := 5) hx hb hts hin hown hK hP 0 rfl rfl 2 (by decide) (hts _ (tb_cons _ w_fl_X1_17)) (fun _ h9 => h9) rfl dX1_pick_41 ?_
            refine lv_iload_n hx hb dX1_pick_44 rfl (lv_at hl 0 rfl) ?_
            refine q_lald hx hb hK hP 3 2 rfl rfl (i) rfl (by omega) (by decide) dX1_pick_45 ?_
            refine lv_aload_n hx hb dX1_pick_46 rfl (lv_at hl 2 rfl) ?_
            refine va_get (D := G) (ci := 1) (C := RX1) (T := TX1) (N := 5) hx hb hts hin hown hK hP 0 rfl rfl 2 (by decide) (hts _ (tb_cons _ w_fl_X1_17)) (fun _ h9 => h9) rfl dX1_pick_47 ?_
            refine lv_iload_n hx hb dX1_pick_50 rfl (lv_at hl 1 rfl) ?_
            refine q_lald hx hb hK hP 3 2 rfl rfl (b) rfl (hbb b rfl) (by decide) dX1_pick_51 ?_
            refine W.lcmp hx hb dX1_pick_52 ?_
            refine lv_if_ge (tgt := 58) hx hb dX1_pick_53 (by decide) (fun hd => ?_) (fun hd => ?_)
            · refine lv_iinc (k := 0) (v := nI (i + 1)) hx hb dX1_pick_58 hl rfl (nI_succ i).symm (by decide) rfl (fun ls hl => ?_)
              have hl : lv_has ls 3 [(2, .int (nI (i + 1))), (1, .int (ft_ob (some b))), (0, .ref (a 0))] := hl
              refine lv_goto (tgt := 9) hx hb dX1_pick_61 (by decide) ?_
              exact ih (i + 1) (some b) (by omega) (ft_gf_s he (ft_mnS_f2 (fun z => Int64.not_lt.mpr ((lg_cmp_ge _ _).mp hd) (of_decide_eq_true z)))) hbb H locs hP hS ls hl
            · refine lv_iload_n hx hb dX1_pick_56 rfl (lv_at hl 0 rfl) ?_
              refine lv_istore_n hx hb dX1_pick_57 rfl hl (by decide) rfl (fun ls hl => ?_)
              have hl : lv_has ls 3 [(1, .int (nI i)), (2, .int (nI i)), (0, .ref (a 0))] := hl
              refine lv_iinc (k := 1) (v := nI (i + 1)) hx hb dX1_pick_58 hl rfl (nI_succ i).symm (by decide) rfl (fun ls hl => ?_)
              have hl : lv_has ls 3 [(2, .int (nI (i + 1))), (1, .int (nI i)), (0, .ref (a 0))] := hl
              refine lv_goto (tgt := 9) hx hb dX1_pick_61 (by decide) ?_
              exact ih (i + 1) (some i) (by omega) (ft_gf_s he (ft_mnS_t hp (decide_eq_true (Int64.not_le.mp (fun z => hd ((lg_cmp_ge _ _).mpr z)))))) (fun b e => by cases e; omega) H locs hP hS ls hl
      · refine q_topi (y := 0) (ft_tb_f hT) ?_
        refine lv_if_eq (tgt := 58) hx hb dX1_pick_22 (by decide) (fun _ => ?_) (fun hc => absurd (rfl) hc)
        refine lv_iinc (k := 0) (v := nI (i + 1)) hx hb dX1_pick_58 hl rfl (nI_succ i).symm (by decide) rfl (fun ls hl => ?_)
        have hl : lv_has ls 3 [(2, .int (nI (i + 1))), (1, .int (ft_ob acc)), (0, .ref (a 0))] := hl
        refine lv_goto (tgt := 9) hx hb dX1_pick_61 (by decide) ?_
        exact ih (i + 1) acc (by omega) (ft_gf_s he (ft_mnS_f1 (nand1 hT))) hbb H locs hP hS ls hl
  exact loop 200 0 none (by omega) rfl (fun b e => by cases e) H locs hP hS ls hl
set_option maxHeartbeats 4000000 in
set_option maxRecDepth 100000 in
theorem cm_weight (l : Launch) (G : va_G) (a : Nat → Nat) (C : Nat → ClassId) {A : Nat → Prop} (hD : ∀ T K D w th, va_D A (wM a C T K D w th)) (T : Nat → Bool) (K D : Nat → Int64) (w : Nat → Int32) (th : Int32) (key : Int64) : Met l yX1_weight wsX1_weight rm0 (va_Pc [.ref (a 0), .long key] (rM G a C T K D w th)) (wr_Q G vwCl (some (.int (ft_sum (fun a b : Int32 => a + b) 0 (fun n => if (T n && decide (K n ≤ key)) = true then w n else 0) 200))) (wM a C T K D w 0) A) 0 0 A := by
  refine q_open (cc := cX1_weight) (maxL := 5) (ret := (some .int)) (by decide) rfl (Nat.le_of_ble_eq_true rfl) ?_
  intro p e s m below meth c ls S hr hlk hB hl
  obtain ⟨hx, hb, hml, hown, hts⟩ := id S
  obtain ⟨hP, hK⟩ := hB
  have hin : ∀ w ∈ u_ws RX1 TX1 5, w ∈ wsX1_weight := fun w h => tb_cons w (hinX1 w h)
  have hS : va_S A s.heap s.heap [] := va_S.rf
  have hl : lv_has ls 5 [(0, .ref (a 0)), (1, .long key)] := hl
  refine lv_aload_n hx hb dX1_weight_0 rfl (lv_at hl 0 rfl) ?_
  refine lv_iconst (v := 0) hx hb dX1_weight_1 (by decide) ?_
  refine va_put (D := G) (ci := 1) (v := .int 0) (ty := .int) (C := RX1) (T := TX1) (N := 5) hx hb hts hin tyX1 tyX1_ok nmX1 hown hK hP (hD _ _ _ _ _) hS 0 rfl rfl 4 (by decide) (hts _ (tb_cons _ w_fl_X1_24)) (fun _ h9 => h9) rfl (by decide +kernel) rfl rfl (Nat.le_of_ble_eq_true rfl) dX1_weight_2 (fun H locs hP _ hS => ?_)
  have hP : va_P G vwCl (wM a C T K D w 0) H := hP
  refine lv_iconst (v := 0) hx hb dX1_weight_5 (by decide) ?_
  refine q_topi (y := (ft_sum (fun a b : Int32 => a + b) 0 (fun n => if (T n && decide (K n ≤ key)) = true then w n else 0) 0)) rfl ?_
  refine lv_istore_n hx hb dX1_weight_6 rfl hl (by decide) rfl (fun ls hl => ?_)
  have hl : lv_has ls 5 [(3, .int (ft_sum (fun a b : Int32 => a + b) 0 (fun n => if (T n && decide (K n ≤ key)) = true then w n else 0) 0)), (0, .ref (a 0)), (1, .long key)] := hl
  refine lv_iconst (v := 0) hx hb dX1_weight_7 (by decide) ?_
  refine lv_istore hx hb dX1_weight_8 hl (by decide) rfl (fun ls hl => ?_)
  have hl : lv_has ls 5 [(4, .int 0), (3, .int (ft_sum (fun a b : Int32 => a + b) 0 (fun n => if (T n && decide (K n ≤ key)) = true then w n else 0) 0)), (0, .ref (a 0)), (1, .long key)] := hl
  have loop : ∀ (k : Nat) (i : Nat), i + k = 200 → ∀ (H : Heap) (locs : List Loc), va_P G vwCl (wM a C T K D w 0) H → va_S A s.heap H locs → ∀ ls : Array Slot, lv_has ls 5 [(4, .int (nI i)), (3, .int (ft_sum (fun a b : Int32 => a + b) 0 (fun n => if (T n && decide (K n ≤ key)) = true then w n else 0) i)), (0, .ref (a 0)), (1, .long key)] → W p l e rm0 s m ([.ref (a 0), .long key] : List Value).toArray below meth c H locs 0 0 (MQ below (wr_Q G vwCl (some (.int (ft_sum (fun a b : Int32 => a + b) 0 (fun n => if (T n && decide (K n ≤ key)) = true then w n else 0) 200))) (wM a C T K D w 0) A) ([.ref (a 0), .long key] : List Value).toArray s 0 0 A) (F0 m 10 ls []) := by
    intro k
    induction k with
    | zero =>
      intro i hi H locs hP hS ls hl
      refine lv_iload hx hb dX1_weight_10 (lv_at hl 0 rfl) ?_
      refine lv_sipush (v := 200) hx hb dX1_weight_12 (by decide) ?_
      refine lv_icmp_ge (tgt := 56) hx hb dX1_weight_15 (by decide) (fun _ => ?_) (fun hc => absurd (nI_le (a := 200) (by omega) (by omega)) hc)
      refine lv_iload_n hx hb dX1_weight_56 rfl (lv_at hl 1 rfl) ?_
      have hi : i = 200 := hi
      exact W.iret hx hb hr (fun t ht _ => ⟨by rw [hi], by rw [ht]; exact hP, hS.F ht⟩) hS.2.2 dX1_weight_57
    | succ k ih =>
      intro i hi H locs hP hS ls hl
      refine lv_iload hx hb dX1_weight_10 (lv_at hl 0 rfl) ?_
      refine lv_sipush (v := 200) hx hb dX1_weight_12 (by decide) ?_
      refine lv_icmp_ge (tgt := 56) hx hb dX1_weight_15 (by decide) (fun hc => absurd hc (nI_ge (b := 200) (by omega) (by decide))) (fun _ => ?_)
      refine lv_aload_n hx hb dX1_weight_18 rfl (lv_at hl 2 rfl) ?_
      refine va_get (D := G) (ci := 1) (C := RX1) (T := TX1) (N := 5) hx hb hts hin hown hK hP 0 rfl rfl 0 (by decide) (hts _ (tb_cons _ w_fl_X1_9)) (fun _ h9 => h9) rfl dX1_weight_19 ?_
      refine lv_iload hx hb dX1_weight_22 (lv_at hl 0 rfl) ?_
      refine q_zald hx hb hK hP 1 0 rfl rfl (i) rfl (by omega) (by decide) dX1_weight_24 ?_
      by_cases hT : T i = true
      · refine q_topi (y := 1) (ft_tb_t hT) ?_
        refine lv_if_eq (tgt := 50) hx hb dX1_weight_25 (by decide) (fun hc => absurd hc (by decide)) (fun _ => ?_)
        refine lv_aload_n hx hb dX1_weight_28 rfl (lv_at hl 2 rfl) ?_
        refine va_get (D := G) (ci := 1) (C := RX1) (T := TX1) (N := 5) hx hb hts hin hown hK hP 0 rfl rfl 1 (by decide) (hts _ (tb_cons _ w_fl_X1_13)) (fun _ h9 => h9) rfl dX1_weight_29 ?_
        refine lv_iload hx hb dX1_weight_32 (lv_at hl 0 rfl) ?_
        refine q_lald hx hb hK hP 2 1 rfl rfl (i) rfl (by omega) (by decide) dX1_weight_34 ?_
        refine lv_lload_n hx hb dX1_weight_35 rfl (lv_at hl 3 rfl) ?_
        refine W.lcmp hx hb dX1_weight_36 ?_
        refine lv_if_gt (tgt := 50) hx hb dX1_weight_37 (by decide) (fun hk => ?_) (fun hk => ?_)
        · refine lv_iinc (k := 0) (v := nI (i + 1)) hx hb dX1_weight_50 hl rfl (nI_succ i).symm (by decide) rfl (fun ls hl => ?_)
          have hl : lv_has ls 5 [(4, .int (nI (i + 1))), (3, .int (ft_sum (fun a b : Int32 => a + b) 0 (fun n => if (T n && decide (K n ≤ key)) = true then w n else 0) i)), (0, .ref (a 0)), (1, .long key)] := hl
          refine lv_goto (tgt := 10) hx hb dX1_weight_53 (by decide) ?_
          exact ih (i + 1) (by omega) H locs hP hS ls (by rw [ft_sum_f (P := (fun n => T n && decide (K n ≤ key))) (fun a => Int32.add_zero a) (nand2 (fun z => Int64.not_le.mpr ((lg_cmp_gt _ _).mp hk) (of_decide_eq_true z)))]; exact hl)
        · refine lv_iload_n hx hb dX1_weight_40 rfl (lv_at hl 1 rfl) ?_
          refine lv_aload_n hx hb dX1_weight_41 rfl (lv_at hl 2 rfl) ?_
          refine va_get (D := G) (ci := 1) (C := RX1) (T := TX1) (N := 5) hx hb hts hin hown hK hP 0 rfl rfl 3 (by decide) (hts _ (tb_cons _ w_fl_X1_20)) (fun _ h9 => h9) rfl dX1_weight_42 ?_
          refine lv_iload hx hb dX1_weight_45 (lv_at hl 0 rfl) ?_
          refine q_iald hx hb hK hP 4 3 rfl rfl (i) rfl (by omega) (by decide) dX1_weight_47 ?_
          refine lv_iadd hx hb dX1_weight_48 ?_
          refine q_topi (y := (ft_sum (fun a b : Int32 => a + b) 0 (fun n => if (T n && decide (K n ≤ key)) = true then w n else 0) (i + 1))) (ft_sum_t (op := fun a b : Int32 => a + b) (P := (fun n => T n && decide (K n ≤ key))) (f := w) (yand hT (decide_eq_true (Int64.not_lt.mp (fun z => hk ((lg_cmp_gt _ _).mpr z)))))) ?_
          refine lv_istore_n hx hb dX1_weight_49 rfl hl (by decide) rfl (fun ls hl => ?_)
          have hl : lv_has ls 5 [(3, .int (ft_sum (fun a b : Int32 => a + b) 0 (fun n => if (T n && decide (K n ≤ key)) = true then w n else 0) (i + 1))), (4, .int (nI i)), (0, .ref (a 0)), (1, .long key)] := hl
          refine lv_iinc (k := 1) (v := nI (i + 1)) hx hb dX1_weight_50 hl rfl (nI_succ i).symm (by decide) rfl (fun ls hl => ?_)
          have hl : lv_has ls 5 [(4, .int (nI (i + 1))), (3, .int (ft_sum (fun a b : Int32 => a + b) 0 (fun n => if (T n && decide (K n ≤ key)) = true then w n else 0) (i + 1))), (0, .ref (a 0)), (1, .long key)] := hl
          refine lv_goto (tgt := 10) hx hb dX1_weight_53 (by decide) ?_
          exact ih (i + 1) (by omega) H locs hP hS ls hl
      · refine q_topi (y := 0) (ft_tb_f hT) ?_
        refine lv_if_eq (tgt := 50) hx hb dX1_weight_25 (by decide) (fun _ => ?_) (fun hc => absurd (rfl) hc)
        refine lv_iinc (k := 0) (v := nI (i + 1)) hx hb dX1_weight_50 hl rfl (nI_succ i).symm (by decide) rfl (fun ls hl => ?_)
        have hl : lv_has ls 5 [(4, .int (nI (i + 1))), (3, .int (ft_sum (fun a b : Int32 => a + b) 0 (fun n => if (T n && decide (K n ≤ key)) = true then w n else 0) i)), (0, .ref (a 0)), (1, .long key)] := hl
        refine lv_goto (tgt := 10) hx hb dX1_weight_53 (by decide) ?_
        exact ih (i + 1) (by omega) H locs hP hS ls (by rw [ft_sum_f (P := (fun n => T n && decide (K n ≤ key))) (fun a => Int32.add_zero a) (nand1 hT)]; exact hl)
  exact loop 200 0 (by omega) H locs hP hS ls hl
set_option maxHeartbeats 4000000 in
set_option maxRecDepth 100000 in
theorem cm_cut (l : Launch) (G : va_G) (a : Nat → Nat) (C : Nat → ClassId) {A : Nat → Prop} (hD : ∀ T K D w th, va_D A (wM a C T K D w th)) (T : Nat → Bool) (K D : Nat → Int64) (w : Nat → Int32) (th : Int32) (lo hi2 : Int64) : Met l yX1_cut wsX1_cut rm0 (va_Pc [.ref (a 0), .long lo, .long hi2] (rM G a C T K D w th)) (wr_Q G vwCl (some (.int (nI (ft_cnt (fun n => T n && (decide (lo ≤ K n) && decide (K n ≤ hi2))) 200)))) (wM a C (ft_tc T (fun n => decide (lo ≤ K n) && decide (K n ≤ hi2)) 200) K D w 0) A) 0 0 A := by
  refine q_open (cc := cX1_cut) (maxL := 7) (ret := (some .int)) (by decide) rfl (Nat.le_of_ble_eq_true rfl) ?_
  intro p e s m below meth c ls S hr hlk hB hl
  obtain ⟨hx, hb, hml, hown, hts⟩ := id S
  obtain ⟨hP, hK⟩ := hB
  have hin : ∀ w ∈ u_ws RX1 TX1 5, w ∈ wsX1_cut := fun w h => tb_cons w (hinX1 w h)
  have hS : va_S A s.heap s.heap [] := va_S.rf
  have hl : lv_has ls 7 [(0, .ref (a 0)), (1, .long lo), (3, .long hi2)] := hl
  refine lv_aload_n hx hb dX1_cut_0 rfl (lv_at hl 0 rfl) ?_
  refine lv_iconst (v := 0) hx hb dX1_cut_1 (by decide) ?_
  refine va_put (D := G) (ci := 1) (v := .int 0) (ty := .int) (C := RX1) (T := TX1) (N := 5) hx hb hts hin tyX1 tyX1_ok nmX1 hown hK hP (hD _ _ _ _ _) hS 0 rfl rfl 4 (by decide) (hts _ (tb_cons _ w_fl_X1_24)) (fun _ h9 => h9) rfl (by decide +kernel) rfl rfl (Nat.le_of_ble_eq_true rfl) dX1_cut_2 (fun H locs hP _ hS => ?_)
  have hP : va_P G vwCl (wM a C T K D w 0) H := hP
  refine lv_iconst (v := 0) hx hb dX1_cut_5 (by decide) ?_
  refine q_topi (y := nI (ft_cnt (fun n => T n && (decide (lo ≤ K n) && decide (K n ≤ hi2))) 0)) rfl ?_
  refine lv_istore hx hb dX1_cut_6 hl (by decide) rfl (fun ls hl => ?_)
  have hl : lv_has ls 7 [(5, .int (nI (ft_cnt (fun n => T n && (decide (lo ≤ K n) && decide (K n ≤ hi2))) 0))), (0, .ref (a 0)), (1, .long lo), (3, .long hi2)] := hl
  refine lv_iconst (v := 0) hx hb dX1_cut_8 (by decide) ?_
  refine lv_istore hx hb dX1_cut_9 hl (by decide) rfl (fun ls hl => ?_)
  have hl : lv_has ls 7 [(6, .int 0), (5, .int (nI (ft_cnt (fun n => T n && (decide (lo ≤ K n) && decide (K n ≤ hi2))) 0))), (0, .ref (a 0)), (1, .long lo), (3, .long hi2)] := hl
  rw [← ft_tc_0 T (fun n => decide (lo ≤ K n) && decide (K n ≤ hi2))] at hP
  have loop : ∀ (k : Nat) (i : Nat), i + k = 200 → ∀ (H : Heap) (locs : List Loc), va_P G vwCl (wM a C (ft_tc T (fun n => decide (lo ≤ K n) && decide (K n ≤ hi2)) i) K D w 0) H → va_S A s.heap H locs → ∀ ls : Array Slot, lv_has ls 7 [(6, .int (nI i)), (5, .int (nI (ft_cnt (fun n => T n && (decide (lo ≤ K n) && decide (K n ≤ hi2))) i))), (0, .ref (a 0)), (1, .long lo), (3, .long hi2)] → W p l e rm0 s m ([.ref (a 0), .long lo, .long hi2] : List Value).toArray below meth c H locs 0 0 (MQ below (wr_Q G vwCl (some (.int (nI (ft_cnt (fun n => T n && (decide (lo ≤ K n) && decide (K n ≤ hi2))) 200)))) (wM a C (ft_tc T (fun n => decide (lo ≤ K n) && decide (K n ≤ hi2)) 200) K D w 0) A) ([.ref (a 0), .long lo, .long hi2] : List Value).toArray s 0 0 A) (F0 m 11 ls []) := by
    intro k
    induction k with
    | zero =>
      intro i hi H locs hP hS ls hl
      refine lv_iload hx hb dX1_cut_11 (lv_at hl 0 rfl) ?_
      refine lv_sipush (v := 200) hx hb dX1_cut_13 (by decide) ?_
      refine lv_icmp_ge (tgt := 73) hx hb dX1_cut_16 (by decide) (fun _ => ?_) (fun hc => absurd (nI_le (a := 200) (by omega) (by omega)) hc)
      refine lv_iload hx hb dX1_cut_73 (lv_at hl 1 rfl) ?_
      have hi : i = 200 := hi
      rw [hi] at hP
      exact W.iret hx hb hr (fun t ht _ => ⟨by rw [hi], by rw [ht]; exact hP, hS.F ht⟩) hS.2.2 dX1_cut_75
    | succ k ih =>
      intro i hi H locs hP hS ls hl
      refine lv_iload hx hb dX1_cut_11 (lv_at hl 0 rfl) ?_
      refine lv_sipush (v := 200) hx hb dX1_cut_13 (by decide) ?_
      refine lv_icmp_ge (tgt := 73) hx hb dX1_cut_16 (by decide) (fun hc => absurd hc (nI_ge (b := 200) (by omega) (by decide))) (fun _ => ?_)
      refine lv_aload_n hx hb dX1_cut_19 rfl (lv_at hl 2 rfl) ?_
      refine va_get (D := G) (ci := 1) (C := RX1) (T := TX1) (N := 5) hx hb hts hin hown hK hP 0 rfl rfl 0 (by decide) (hts _ (tb_cons _ w_fl_X1_9)) (fun _ h9 => h9) rfl dX1_cut_20 ?_
      refine lv_iload hx hb dX1_cut_23 (lv_at hl 0 rfl) ?_
      refine q_zald hx hb hK hP 1 0 rfl rfl (i) rfl (by omega) (by decide) dX1_cut_25 ?_
      by_cases hT : (ft_tc T (fun n => decide (lo ≤ K n) && decide (K n ≤ hi2)) i) i = true
      · refine q_topi (y := 1) (ft_tb_t hT) ?_
        rw [ft_tc_at] at hT
        refine lv_if_eq (tgt := 67) hx hb dX1_cut_26 (by decide) (fun hc => absurd hc (by decide)) (fun _ => ?_)
        refine lv_aload_n hx hb dX1_cut_29 rfl (lv_at hl 2 rfl) ?_
        refine va_get (D := G) (ci := 1) (C := RX1) (T := TX1) (N := 5) hx hb hts hin hown hK hP 0 rfl rfl 1 (by decide) (hts _ (tb_cons _ w_fl_X1_13)) (fun _ h9 => h9) rfl dX1_cut_30 ?_
        refine lv_iload hx hb dX1_cut_33 (lv_at hl 0 rfl) ?_
        refine q_lald hx hb hK hP 2 1 rfl rfl (i) rfl (by omega) (by decide) dX1_cut_35 ?_
        refine lv_lload_n hx hb dX1_cut_36 rfl (lv_at hl 3 rfl) ?_
        refine W.lcmp hx hb dX1_cut_37 ?_
        refine lv_if_lt (tgt := 67) hx hb dX1_cut_38 (by decide) (fun hlo => ?_) (fun hlo => ?_)
        · refine lv_iinc (k := 0) (v := nI (i + 1)) hx hb dX1_cut_67 hl rfl (nI_succ i).symm (by decide) rfl (fun ls hl => ?_)
          have hl : lv_has ls 7 [(6, .int (nI (i + 1))), (5, .int (nI (ft_cnt (fun n => T n && (decide (lo ≤ K n) && decide (K n ≤ hi2))) i))), (0, .ref (a 0)), (1, .long lo), (3, .long hi2)] := hl
          refine lv_goto (tgt := 11) hx hb dX1_cut_70 (by decide) ?_
          exact ih (i + 1) (by omega) H locs (by rw [ft_tc_f (nand2 (nand1 (fun z => Int64.not_le.mpr ((lg_cmp_lt _ _).mp hlo) (of_decide_eq_true z))))]; exact hP) hS ls (by rw [ft_cnt_f (P := fun n => T n && (decide (lo ≤ K n) && decide (K n ≤ hi2))) (nand2 (nand1 (fun z => Int64.not_le.mpr ((lg_cmp_lt _ _).mp hlo) (of_decide_eq_true z))))]; exact hl)
        · refine lv_aload_n hx hb dX1_cut_41 rfl (lv_at hl 2 rfl) ?_
          refine va_get (D := G) (ci := 1) (C := RX1) (T := TX1) (N := 5) hx hb hts hin hown hK hP 0 rfl rfl 1 (by decide) (hts _ (tb_cons _ w_fl_X1_13)) (fun _ h9 => h9) rfl dX1_cut_42 ?_
          refine lv_iload hx hb dX1_cut_45 (lv_at hl 0 rfl) ?_
          refine q_lald hx hb hK hP 2 1 rfl rfl (i) rfl (by omega) (by decide) dX1_cut_47 ?_
          refine lv_lload_n hx hb dX1_cut_48 rfl (lv_at hl 4 rfl) ?_
          refine W.lcmp hx hb dX1_cut_49 ?_
          refine lv_if_le (tgt := 56) hx hb dX1_cut_50 (by decide) (fun hhi => ?_) (fun hhi => ?_)
          · refine lv_aload_n hx hb dX1_cut_56 rfl (lv_at hl 2 rfl) ?_
            refine va_get (D := G) (ci := 1) (C := RX1) (T := TX1) (N := 5) hx hb hts hin hown hK hP 0 rfl rfl 0 (by decide) (hts _ (tb_cons _ w_fl_X1_9)) (fun _ h9 => h9) rfl dX1_cut_57 ?_
            refine lv_iload hx hb dX1_cut_60 (lv_at hl 0 rfl) ?_
            refine lv_iconst (v := 0) hx hb dX1_cut_62 (by decide) ?_
            refine q_zast hx hb hK hP (hD _ _ _ _ _) hS 1 0 rfl rfl (i) rfl (by omega) (by decide) rfl dX1_cut_63 (fun H locs hP hS => ?_)
            rw [ft_tb_up0] at hP
            have hP : va_P G vwCl (wM a C (fun i9 => if i9 = i then false else (ft_tc T (fun n => decide (lo ≤ K n) && decide (K n ≤ hi2)) i) i9) K D w 0) H := hP
            have hp : (fun n => decide (lo ≤ K n) && decide (K n ≤ hi2)) i = true := yand (decide_eq_true (Int64.not_lt.mp (fun z => hlo ((lg_cmp_lt _ _).mpr z)))) (decide_eq_true ((lg_cmp_le _ _).mp hhi))
            rw [ft_tc_t (P := (fun n => decide (lo ≤ K n) && decide (K n ≤ hi2))) hp] at hP
            refine lv_iinc (k := 1) (v := nI (ft_cnt (fun n => T n && (decide (lo ≤ K n) && decide (K n ≤ hi2))) (i + 1))) hx hb dX1_cut_64 hl rfl (ft_cnt_t (P := fun n => T n && (decide (lo ≤ K n) && decide (K n ≤ hi2))) (yand hT hp)) (by decide) rfl (fun ls hl => ?_)
            have hl : lv_has ls 7 [(5, .int (nI (ft_cnt (fun n => T n && (decide (lo ≤ K n) && decide (K n ≤ hi2))) (i + 1)))), (6, .int (nI i)), (0, .ref (a 0)), (1, .long lo), (3, .long hi2)] := hl
            refine lv_iinc (k := 1) (v := nI (i + 1)) hx hb dX1_cut_67 hl rfl (nI_succ i).symm (by decide) rfl (fun ls hl => ?_)
            have hl : lv_has ls 7 [(6, .int (nI (i + 1))), (5, .int (nI (ft_cnt (fun n => T n && (decide (lo ≤ K n) && decide (K n ≤ hi2))) (i + 1)))), (0, .ref (a 0)), (1, .long lo), (3, .long hi2)] := hl
            refine lv_goto (tgt := 11) hx hb dX1_cut_70 (by decide) ?_
            exact ih (i + 1) (by omega) H locs hP hS ls hl
          · refine lv_goto (tgt := 67) hx hb dX1_cut_53 (by decide) ?_
            refine lv_iinc (k := 0) (v := nI (i + 1)) hx hb dX1_cut_67 hl rfl (nI_succ i).symm (by decide) rfl (fun ls hl => ?_)
            have hl : lv_has ls 7 [(6, .int (nI (i + 1))), (5, .int (nI (ft_cnt (fun n => T n && (decide (lo ≤ K n) && decide (K n ≤ hi2))) i))), (0, .ref (a 0)), (1, .long lo), (3, .long hi2)] := hl
            refine lv_goto (tgt := 11) hx hb dX1_cut_70 (by decide) ?_
            exact ih (i + 1) (by omega) H locs (by rw [ft_tc_f (nand2 (nand2 (fun z => hhi ((lg_cmp_le _ _).mpr (of_decide_eq_true z)))))]; exact hP) hS ls (by rw [ft_cnt_f (P := fun n => T n && (decide (lo ≤ K n) && decide (K n ≤ hi2))) (nand2 (nand2 (fun z => hhi ((lg_cmp_le _ _).mpr (of_decide_eq_true z)))))]; exact hl)
      · refine q_topi (y := 0) (ft_tb_f hT) ?_
        rw [ft_tc_at] at hT
        refine lv_if_eq (tgt := 67) hx hb dX1_cut_26 (by decide) (fun _ => ?_) (fun hc => absurd (rfl) hc)
        refine lv_iinc (k := 0) (v := nI (i + 1)) hx hb dX1_cut_67 hl rfl (nI_succ i).symm (by decide) rfl (fun ls hl => ?_)
        have hl : lv_has ls 7 [(6, .int (nI (i + 1))), (5, .int (nI (ft_cnt (fun n => T n && (decide (lo ≤ K n) && decide (K n ≤ hi2))) i))), (0, .ref (a 0)), (1, .long lo), (3, .long hi2)] := hl
        refine lv_goto (tgt := 11) hx hb dX1_cut_70 (by decide) ?_
        exact ih (i + 1) (by omega) H locs (by rw [ft_tc_f (nand1 hT)]; exact hP) hS ls (by rw [ft_cnt_f (P := fun n => T n && (decide (lo ≤ K n) && decide (K n ≤ hi2))) (nand1 hT)]; exact hl)
  exact loop 200 0 (by omega) H locs hP hS ls hl
set_option maxHeartbeats 4000000 in
set_option maxRecDepth 100000 in
theorem cm_count_0 (l : Launch) (G : va_G) (a : Nat → Nat) (C : Nat → ClassId) {A : Nat → Prop} (hD : ∀ T K D w th, va_D A (wM a C T K D w th)) (T : Nat → Bool) (K D : Nat → Int64) (w : Nat → Int32) (th : Int32) : Met l yX1_count wsX1_count { frames := 1, cells := 0, slots := 0, locals := 30 } (va_Pc [.ref (a 0), .int 0] (rM G a C T K D w th)) (wr_Q G vwCl (some (.int (nI (ft_cnt T 200)))) (wM a C T K D w 0) A) 0 0 A := by
  refine q_open (cc := cX1_count) (maxL := 4) (ret := (some .int)) (by decide) rfl (Nat.le_of_ble_eq_true rfl) ?_
  intro p e s m below meth c ls S hr hlk hB hl
  obtain ⟨hx, hb, hml, hown, hts⟩ := id S
  obtain ⟨hP, hK⟩ := hB
  have hin : ∀ w ∈ u_ws RX1 TX1 5, w ∈ wsX1_count := fun w h => tb_cons w (hinX1 w h)
  have hS : va_S A s.heap s.heap [] := va_S.rf
  have hl : lv_has ls 4 [(0, .ref (a 0)), (1, .int 0)] := hl
  refine lv_aload_n hx hb dX1_count_0 rfl (lv_at hl 0 rfl) ?_
  refine lv_iconst (v := 0) hx hb dX1_count_1 (by decide) ?_
  refine va_put (D := G) (ci := 1) (v := .int 0) (ty := .int) (C := RX1) (T := TX1) (N := 5) hx hb hts hin tyX1 tyX1_ok nmX1 hown hK hP (hD _ _ _ _ _) hS 0 rfl rfl 4 (by decide) (hts _ (tb_cons _ w_fl_X1_24)) (fun _ h9 => h9) rfl (by decide +kernel) rfl rfl (Nat.le_of_ble_eq_true rfl) dX1_count_2 (fun H locs hP _ hS => ?_)
  have hP : va_P G vwCl (wM a C T K D w 0) H := hP
  refine lv_iload_n hx hb dX1_count_5 rfl (lv_at hl 1 rfl) ?_
  refine lv_if_ne (tgt := 14) hx hb dX1_count_6 (by decide) (fun hc => absurd (rfl) hc) (fun _ => ?_)
  refine lv_aload_n hx hb dX1_count_9 rfl (lv_at hl 0 rfl) ?_
  refine rd_call (W.runV (As := []) (rest := []) S (cm_many l G a C T K D w 0) (cwV 0 hts (gX1_32 tb_cons) rfl rfl rfl (by decide +kernel) ⟨Nat.le_of_ble_eq_true rfl, Nat.le_of_ble_eq_true rfl⟩) (pM_V hP hK) rfl rfl hl.1 rfl (lv_room (Nat.le_of_ble_eq_true rfl)) dX1_count_10 ⟨Nat.zero_le _, Nat.zero_le _⟩) ?_
  exact W.iret hx hb hr (fun t ht _ => ⟨rfl, by rw [ht]; exact hP, hS.F ht⟩) hS.2.2 dX1_count_13
set_option maxHeartbeats 4000000 in
set_option maxRecDepth 100000 in
theorem cm_count_1 (l : Launch) (G : va_G) (a : Nat → Nat) (C : Nat → ClassId) {A : Nat → Prop} (hD : ∀ T K D w th, va_D A (wM a C T K D w th)) (T : Nat → Bool) (K D : Nat → Int64) (w : Nat → Int32) (th : Int32) : Met l yX1_count wsX1_count { frames := 1, cells := 0, slots := 0, locals := 30 } (va_Pc [.ref (a 0), .int 1] (rM G a C T K D w th)) (wr_Q G vwCl (some (.int (ft_W64 T w).toInt32)) (wM a C T K D w 0) A) 0 0 A := by
  refine q_open (cc := cX1_count) (maxL := 4) (ret := (some .int)) (by decide) rfl (Nat.le_of_ble_eq_true rfl) ?_
  intro p e s m below meth c ls S hr hlk hB hl
  obtain ⟨hx, hb, hml, hown, hts⟩ := id S
  obtain ⟨hP, hK⟩ := hB
  have hin : ∀ w ∈ u_ws RX1 TX1 5, w ∈ wsX1_count := fun w h => tb_cons w (hinX1 w h)
  have hS : va_S A s.heap s.heap [] := va_S.rf
  have hl : lv_has ls 4 [(0, .ref (a 0)), (1, .int 1)] := hl
  refine lv_aload_n hx hb dX1_count_0 rfl (lv_at hl 0 rfl) ?_
  refine lv_iconst (v := 0) hx hb dX1_count_1 (by decide) ?_
  refine va_put (D := G) (ci := 1) (v := .int 0) (ty := .int) (C := RX1) (T := TX1) (N := 5) hx hb hts hin tyX1 tyX1_ok nmX1 hown hK hP (hD _ _ _ _ _) hS 0 rfl rfl 4 (by decide) (hts _ (tb_cons _ w_fl_X1_24)) (fun _ h9 => h9) rfl (by decide +kernel) rfl rfl (Nat.le_of_ble_eq_true rfl) dX1_count_2 (fun H locs hP _ hS => ?_)
  have hP : va_P G vwCl (wM a C T K D w 0) H := hP
  refine lv_iload_n hx hb dX1_count_5 rfl (lv_at hl 1 rfl) ?_
  refine lv_if_ne (tgt := 14) hx hb dX1_count_6 (by decide) (fun _ => ?_) (fun hc => absurd hc (by decide))
  refine lv_iload_n hx hb dX1_count_14 rfl (lv_at hl 1 rfl) ?_
  refine lv_iconst (v := 1) hx hb dX1_count_15 (by decide) ?_
  refine lv_icmp_ne (tgt := 25) hx hb dX1_count_16 (by decide) (fun hc => absurd (rfl) hc) (fun _ => ?_)
  refine lv_aload_n hx hb dX1_count_19 rfl (lv_at hl 0 rfl) ?_
  refine rd_call (W.runV (As := []) (rest := []) S (cm_all l G a C T K D w 0) (cwV 0 hts (gX1_81 tb_cons) rfl rfl rfl (by decide +kernel) ⟨Nat.le_of_ble_eq_true rfl, Nat.le_of_ble_eq_true rfl⟩) (pM_V hP hK) rfl rfl hl.1 rfl (lv_room (Nat.le_of_ble_eq_true rfl)) dX1_count_20 ⟨Nat.zero_le _, Nat.zero_le _⟩) ?_
  refine lv_l2i hx hb dX1_count_23 rfl ?_
  exact W.iret hx hb hr (fun t ht _ => ⟨rfl, by rw [ht]; exact hP, hS.F ht⟩) hS.2.2 dX1_count_24
set_option maxHeartbeats 4000000 in
set_option maxRecDepth 100000 in
theorem cm_count_x (l : Launch) (G : va_G) (a : Nat → Nat) (C : Nat → ClassId) {A : Nat → Prop} (hD : ∀ T K D w th, va_D A (wM a C T K D w th)) (T : Nat → Bool) (K D : Nat → Int64) (w : Nat → Int32) (th : Int32) {x : Int32} (h0 : ¬ x = 0) (h1 : ¬ x = 1) (h2 : ¬ x = 2) : Met l yX1_count wsX1_count { frames := 1, cells := 0, slots := 0, locals := 30 } (va_Pc [.ref (a 0), .int x] (rM G a C T K D w th)) (wr_Q G vwCl (some (.int (-1))) (wM a C T K D w 0) A) 0 0 A := by
  refine q_open (cc := cX1_count) (maxL := 4) (ret := (some .int)) (by decide) rfl (Nat.le_of_ble_eq_true rfl) ?_
  intro p e s m below meth c ls S hr hlk hB hl
  obtain ⟨hx, hb, hml, hown, hts⟩ := id S
  obtain ⟨hP, hK⟩ := hB
  have hin : ∀ w ∈ u_ws RX1 TX1 5, w ∈ wsX1_count := fun w h => tb_cons w (hinX1 w h)
  have hS : va_S A s.heap s.heap [] := va_S.rf
  have hl : lv_has ls 4 [(0, .ref (a 0)), (1, .int x)] := hl
  refine lv_aload_n hx hb dX1_count_0 rfl (lv_at hl 0 rfl) ?_
  refine lv_iconst (v := 0) hx hb dX1_count_1 (by decide) ?_
  refine va_put (D := G) (ci := 1) (v := .int 0) (ty := .int) (C := RX1) (T := TX1) (N := 5) hx hb hts hin tyX1 tyX1_ok nmX1 hown hK hP (hD _ _ _ _ _) hS 0 rfl rfl 4 (by decide) (hts _ (tb_cons _ w_fl_X1_24)) (fun _ h9 => h9) rfl (by decide +kernel) rfl rfl (Nat.le_of_ble_eq_true rfl) dX1_count_2 (fun H locs hP _ hS => ?_)
  have hP : va_P G vwCl (wM a C T K D w 0) H := hP
  refine lv_iload_n hx hb dX1_count_5 rfl (lv_at hl 1 rfl) ?_
  refine lv_if_ne (tgt := 14) hx hb dX1_count_6 (by decide) (fun _ => ?_) (fun hc => absurd hc (h0))
  refine lv_iload_n hx hb dX1_count_14 rfl (lv_at hl 1 rfl) ?_
  refine lv_iconst (v := 1) hx hb dX1_count_15 (by decide) ?_
  refine lv_icmp_ne (tgt := 25) hx hb dX1_count_16 (by decide) (fun _ => ?_) (fun hc => absurd hc (h1))
  refine lv_iload_n hx hb dX1_count_25 rfl (lv_at hl 1 rfl) ?_
  refine lv_iconst (v := 2) hx hb dX1_count_26 (by decide) ?_
  refine lv_icmp_eq (tgt := 32) hx hb dX1_count_27 (by decide) (fun hc => absurd hc (h2)) (fun _ => ?_)
  refine lv_iconst (v := (-1)) hx hb dX1_count_30 (by decide) ?_
  exact W.iret hx hb hr (fun t ht _ => ⟨rfl, by rw [ht]; exact hP, hS.F ht⟩) hS.2.2 dX1_count_31
set_option maxHeartbeats 4000000 in
set_option maxRecDepth 100000 in
theorem cm_count_2 (l : Launch) (G : va_G) (a : Nat → Nat) (C : Nat → ClassId) {A : Nat → Prop} (hD : ∀ T K D w th, va_D A (wM a C T K D w th)) (T : Nat → Bool) (K D : Nat → Int64) (w : Nat → Int32) (th : Int32) : Met l yX1_count wsX1_count { frames := 1, cells := 0, slots := 0, locals := 30 } (va_Pc [.ref (a 0), .int 2] (rM G a C T K D w th)) (wr_Q G vwCl (some (.int (nI (ft_cnt (fun n => T n && decide (ft_ld T K w (K n) ≤ 0)) 200)))) (wM a C T K D w 0) A) 0 0 A := by
  refine q_open (cc := cX1_count) (maxL := 4) (ret := (some .int)) (by decide) rfl (Nat.le_of_ble_eq_true rfl) ?_
  intro p e s m below meth c ls S hr hlk hB hl
  obtain ⟨hx, hb, hml, hown, hts⟩ := id S
  obtain ⟨hP, hK⟩ := hB
  have hin : ∀ w ∈ u_ws RX1 TX1 5, w ∈ wsX1_count := fun w h => tb_cons w (hinX1 w h)
  have hS : va_S A s.heap s.heap [] := va_S.rf
  have hl : lv_has ls 4 [(0, .ref (a 0)), (1, .int 2)] := hl
  refine lv_aload_n hx hb dX1_count_0 rfl (lv_at hl 0 rfl) ?_
  refine lv_iconst (v := 0) hx hb dX1_count_1 (by decide) ?_
  refine va_put (D := G) (ci := 1) (v := .int 0) (ty := .int) (C := RX1) (T := TX1) (N := 5) hx hb hts hin tyX1 tyX1_ok nmX1 hown hK hP (hD _ _ _ _ _) hS 0 rfl rfl 4 (by decide) (hts _ (tb_cons _ w_fl_X1_24)) (fun _ h9 => h9) rfl (by decide +kernel) rfl rfl (Nat.le_of_ble_eq_true rfl) dX1_count_2 (fun H locs hP _ hS => ?_)
  have hP : va_P G vwCl (wM a C T K D w 0) H := hP
  refine lv_iload_n hx hb dX1_count_5 rfl (lv_at hl 1 rfl) ?_
  refine lv_if_ne (tgt := 14) hx hb dX1_count_6 (by decide) (fun _ => ?_) (fun hc => absurd hc (by decide))
  refine lv_iload_n hx hb dX1_count_14 rfl (lv_at hl 1 rfl) ?_
  refine lv_iconst (v := 1) hx hb dX1_count_15 (by decide) ?_
  refine lv_icmp_ne (tgt := 25) hx hb dX1_count_16 (by decide) (fun _ => ?_) (fun hc => absurd hc (by decide))
  refine lv_iload_n hx hb dX1_count_25 rfl (lv_at hl 1 rfl) ?_
  refine lv_iconst (v := 2) hx hb dX1_count_26 (by decide) ?_
  refine lv_icmp_eq (tgt := 32) hx hb dX1_count_27 (by decide) (fun _ => ?_) (fun hc => absurd (rfl) hc)
  refine lv_iconst (v := 0) hx hb dX1_count_32 (by decide) ?_
  refine q_topi (y := nI (ft_cnt (fun n => T n && decide (ft_ld T K w (K n) ≤ 0)) 0)) rfl ?_
  refine lv_istore_n hx hb dX1_count_33 rfl hl (by decide) rfl (fun ls hl => ?_)
  have hl : lv_has ls 4 [(2, .int (nI (ft_cnt (fun n => T n && decide (ft_ld T K w (K n) ≤ 0)) 0))), (0, .ref (a 0)), (1, .int 2)] := hl
  refine lv_iconst (v := 0) hx hb dX1_count_34 (by decide) ?_
  refine lv_istore_n hx hb dX1_count_35 rfl hl (by decide) rfl (fun ls hl => ?_)
  have hl : lv_has ls 4 [(3, .int 0), (2, .int (nI (ft_cnt (fun n => T n && decide (ft_ld T K w (K n) ≤ 0)) 0))), (0, .ref (a 0)), (1, .int 2)] := hl
  have loop : ∀ (k : Nat) (i : Nat), i + k = 200 → ∀ (H : Heap) (locs : List Loc), va_P G vwCl (wM a C T K D w 0) H → va_S A s.heap H locs → ∀ ls : Array Slot, lv_has ls 4 [(3, .int (nI i)), (2, .int (nI (ft_cnt (fun n => T n && decide (ft_ld T K w (K n) ≤ 0)) i))), (0, .ref (a 0))] → W p l e { frames := 1, cells := 0, slots := 0, locals := 30 } s m ([.ref (a 0), .int 2] : List Value).toArray below meth c H locs 0 0 (MQ below (wr_Q G vwCl (some (.int (nI (ft_cnt (fun n => T n && decide (ft_ld T K w (K n) ≤ 0)) 200)))) (wM a C T K D w 0) A) ([.ref (a 0), .int 2] : List Value).toArray s 0 0 A) (F0 m 36 ls []) := by
    intro k
    induction k with
    | zero =>
      intro i hi H locs hP hS ls hl
      refine lv_iload_n hx hb dX1_count_36 rfl (lv_at hl 0 rfl) ?_
      refine lv_sipush (v := 200) hx hb dX1_count_37 (by decide) ?_
      refine lv_icmp_ge (tgt := 71) hx hb dX1_count_40 (by decide) (fun _ => ?_) (fun hc => absurd (nI_le (a := 200) (by omega) (by omega)) hc)
      refine lv_iload_n hx hb dX1_count_71 rfl (lv_at hl 1 rfl) ?_
      have hi : i = 200 := hi
      exact W.iret hx hb hr (fun t ht _ => ⟨by rw [hi], by rw [ht]; exact hP, hS.F ht⟩) hS.2.2 dX1_count_72
    | succ k ih =>
      intro i hi H locs hP hS ls hl
      refine lv_iload_n hx hb dX1_count_36 rfl (lv_at hl 0 rfl) ?_
      refine lv_sipush (v := 200) hx hb dX1_count_37 (by decide) ?_
      refine lv_icmp_ge (tgt := 71) hx hb dX1_count_40 (by decide) (fun hc => absurd hc (nI_ge (b := 200) (by omega) (by decide))) (fun _ => ?_)
      refine lv_aload_n hx hb dX1_count_43 rfl (lv_at hl 2 rfl) ?_
      refine va_get (D := G) (ci := 1) (C := RX1) (T := TX1) (N := 5) hx hb hts hin hown hK hP 0 rfl rfl 0 (by decide) (hts _ (tb_cons _ w_fl_X1_9)) (fun _ h9 => h9) rfl dX1_count_44 ?_
      refine lv_iload_n hx hb dX1_count_47 rfl (lv_at hl 0 rfl) ?_
      refine q_zald hx hb hK hP 1 0 rfl rfl (i) rfl (by omega) (by decide) dX1_count_48 ?_
      by_cases hT : T i = true
      · refine q_topi (y := 1) (ft_tb_t hT) ?_
        refine lv_if_eq (tgt := 65) hx hb dX1_count_49 (by decide) (fun hc => absurd hc (by decide)) (fun _ => ?_)
        refine lv_aload_n hx hb dX1_count_52 rfl (lv_at hl 2 rfl) ?_
        refine lv_iload_n hx hb dX1_count_53 rfl (lv_at hl 0 rfl) ?_
        refine rd_call (W.runV (As := [.int (nI i)]) (rest := []) S (cm_lead l G a C T K D w 0 (j := i) (by omega)) (cwV 1 hts (gX1_75 tb_cons) rfl rfl rfl (by decide +kernel) ⟨Nat.le_of_ble_eq_true rfl, Nat.le_of_ble_eq_true rfl⟩) (pM_V hP hK) rfl rfl hl.1 rfl (lv_room (Nat.le_of_ble_eq_true rfl)) dX1_count_54 ⟨Nat.zero_le _, Nat.zero_le _⟩) ?_
        refine lv_lconst (v := 0) hx hb dX1_count_57 (by decide) ?_
        refine W.lcmp hx hb dX1_count_58 ?_
        refine lv_if_gt (tgt := 65) hx hb dX1_count_59 (by decide) (fun hld => ?_) (fun hld => ?_)
        · refine lv_iinc (k := 0) (v := nI (i + 1)) hx hb dX1_count_65 hl rfl (nI_succ i).symm (by decide) rfl (fun ls hl => ?_)
          have hl : lv_has ls 4 [(3, .int (nI (i + 1))), (2, .int (nI (ft_cnt (fun n => T n && decide (ft_ld T K w (K n) ≤ 0)) i))), (0, .ref (a 0))] := hl
          refine lv_goto (tgt := 36) hx hb dX1_count_68 (by decide) ?_
          exact ih (i + 1) (by omega) H locs hP hS ls (by rw [ft_cnt_f (P := (fun n => T n && decide (ft_ld T K w (K n) ≤ 0))) (nand2 (fun z => Int64.not_le.mpr ((lg_cmp_gt _ _).mp hld) (of_decide_eq_true z)))]; exact hl)
        · refine lv_iinc (k := 1) (v := nI (ft_cnt (fun n => T n && decide (ft_ld T K w (K n) ≤ 0)) (i + 1))) hx hb dX1_count_62 hl rfl (ft_cnt_t (P := (fun n => T n && decide (ft_ld T K w (K n) ≤ 0))) (yand hT (decide_eq_true (Int64.not_lt.mp (fun z => hld ((lg_cmp_gt _ _).mpr z)))))) (by decide) rfl (fun ls hl => ?_)
          have hl : lv_has ls 4 [(2, .int (nI (ft_cnt (fun n => T n && decide (ft_ld T K w (K n) ≤ 0)) (i + 1)))), (3, .int (nI i)), (0, .ref (a 0))] := hl
          refine lv_iinc (k := 1) (v := nI (i + 1)) hx hb dX1_count_65 hl rfl (nI_succ i).symm (by decide) rfl (fun ls hl => ?_)
          have hl : lv_has ls 4 [(3, .int (nI (i + 1))), (2, .int (nI (ft_cnt (fun n => T n && decide (ft_ld T K w (K n) ≤ 0)) (i + 1)))), (0, .ref (a 0))] := hl
          refine lv_goto (tgt := 36) hx hb dX1_count_68 (by decide) ?_
          exact ih (i + 1) (by omega) H locs hP hS ls hl
      · refine q_topi (y := 0) (ft_tb_f hT) ?_
        refine lv_if_eq (tgt := 65) hx hb dX1_count_49 (by decide) (fun _ => ?_) (fun hc => absurd (rfl) hc)
        refine lv_iinc (k := 0) (v := nI (i + 1)) hx hb dX1_count_65 hl rfl (nI_succ i).symm (by decide) rfl (fun ls hl => ?_)
        have hl : lv_has ls 4 [(3, .int (nI (i + 1))), (2, .int (nI (ft_cnt (fun n => T n && decide (ft_ld T K w (K n) ≤ 0)) i))), (0, .ref (a 0))] := hl
        refine lv_goto (tgt := 36) hx hb dX1_count_68 (by decide) ?_
        exact ih (i + 1) (by omega) H locs hP hS ls (by rw [ft_cnt_f (P := (fun n => T n && decide (ft_ld T K w (K n) ≤ 0))) (nand1 hT)]; exact hl)
  exact loop 200 0 (by omega) H locs hP hS ls (lv_sub hl [0, 1, 2] rfl)
end
section
set_option maxHeartbeats 4000000 in
set_option maxRecDepth 100000 in
theorem cm_half (l : Launch) (G : va_G) (a : Nat → Nat) (C : Nat → ClassId) {A : Nat → Prop} (hD : ∀ T K D w th, va_D A (wM a C T K D w th)) (T : Nat → Bool) (K D : Nat → Int64) (w : Nat → Int32) (th : Int32) : Met l yX1_half wsX1_half { frames := 1, cells := 0, slots := 0, locals := 30 } (va_Pc [.ref (a 0)] (rM G a C T K D w th)) (wr_Q G vwCl (some (.int (ft_or (ft_gf (ft_mnS (ft_halfP T K w) (fun n b => ft_sb K (K b) (nI b) n)) none 200)))) (wM a C T K D w (ft_ot (ft_gf (ft_mnS (ft_halfP T K w) (fun n b => ft_sb K (K b) (nI b) n)) none 200))) A) 0 0 A := by
  refine q_open (cc := cX1_half) (maxL := 6) (ret := (some .int)) (by decide) rfl (Nat.le_of_ble_eq_true rfl) ?_
  intro p e s m below meth c ls S hr hlk hB hl
  obtain ⟨hx, hb, hml, hown, hts⟩ := id S
  obtain ⟨hP, hK⟩ := hB
  have hin : ∀ w ∈ u_ws RX1 TX1 5, w ∈ wsX1_half := fun w h => tb_cons w (hinX1 w h)
  have hS : va_S A s.heap s.heap [] := va_S.rf
  have hl : lv_has ls 6 [(0, .ref (a 0))] := hl
  refine lv_aload_n hx hb dX1_half_0 rfl (lv_at hl 0 rfl) ?_
  refine lv_iconst (v := 0) hx hb dX1_half_1 (by decide) ?_
  refine va_put (D := G) (ci := 1) (v := .int 0) (ty := .int) (C := RX1) (T := TX1) (N := 5) hx hb hts hin tyX1 tyX1_ok nmX1 hown hK hP (hD _ _ _ _ _) hS 0 rfl rfl 4 (by decide) (hts _ (tb_cons _ w_fl_X1_24)) (fun _ h9 => h9) rfl (by decide +kernel) rfl rfl (Nat.le_of_ble_eq_true rfl) dX1_half_2 (fun H locs hP _ hS => ?_)
  have hP : va_P G vwCl (wM a C T K D w 0) H := hP
  refine lv_iconst (v := (-1)) hx hb dX1_half_5 (by decide) ?_
  refine q_topi (y := ft_ob none) rfl ?_
  refine lv_istore_n hx hb dX1_half_6 rfl hl (by decide) rfl (fun ls hl => ?_)
  have hl : lv_has ls 6 [(1, .int (ft_ob none)), (0, .ref (a 0))] := hl
  refine lv_iconst (v := 0) hx hb dX1_half_7 (by decide) ?_
  refine lv_istore_n hx hb dX1_half_8 rfl hl (by decide) rfl (fun ls hl => ?_)
  have hl : lv_has ls 6 [(2, .int 0), (1, .int (ft_ob none)), (0, .ref (a 0))] := hl
  have loop : ∀ (k : Nat) (i : Nat) (acc : Option Nat), i + k = 200 → ft_gf (ft_mnS (ft_halfP T K w) (fun n b => ft_sb K (K b) (nI b) n)) none i = acc → (∀ b, acc = some b → b < 200) → ∀ (H : Heap) (locs : List Loc), va_P G vwCl (wM a C T K D w 0) H → va_S A s.heap H locs → ∀ ls : Array Slot, lv_has ls 6 [(2, .int (nI i)), (1, .int (ft_ob acc)), (0, .ref (a 0))] → W p l e { frames := 1, cells := 0, slots := 0, locals := 30 } s m ([.ref (a 0)] : List Value).toArray below meth c H locs 0 0 (MQ below (wr_Q G vwCl (some (.int (ft_or (ft_gf (ft_mnS (ft_halfP T K w) (fun n b => ft_sb K (K b) (nI b) n)) none 200)))) (wM a C T K D w (ft_ot (ft_gf (ft_mnS (ft_halfP T K w) (fun n b => ft_sb K (K b) (nI b) n)) none 200))) A) ([.ref (a 0)] : List Value).toArray s 0 0 A) (F0 m 9 ls []) := by
    intro k
    induction k with
    | zero =>
      intro i acc hi he hbb H locs hP hS ls hl
      refine lv_iload_n hx hb dX1_half_9 rfl (lv_at hl 0 rfl) ?_
      refine lv_sipush (v := 200) hx hb dX1_half_10 (by decide) ?_
      refine lv_icmp_ge (tgt := 119) hx hb dX1_half_13 (by decide) (fun _ => ?_) (fun hc => absurd (nI_le (a := 200) (by omega) (by omega)) hc)
      have e9 : i = 200 := hi
      rw [e9] at he
      rw [he]
      refine lv_iload_n hx hb dX1_half_119 rfl (lv_at hl 1 rfl) ?_
      refine lv_iconst (v := (-1)) hx hb dX1_half_120 (by decide) ?_
      cases acc with
      | none =>
        refine lv_icmp_ne (tgt := 132) hx hb dX1_half_121 (by decide) (fun hc => absurd (rfl) hc) (fun _ => ?_)
        refine lv_aload_n hx hb dX1_half_124 rfl (lv_at hl 2 rfl) ?_
        refine lv_iconst (v := 1) hx hb dX1_half_125 (by decide) ?_
        refine wr_call (W.runV (As := [.int 1]) (rest := []) S (cm_fail l G a C hD T K D w 0) (cwV 1 hts (gX1_52 tb_cons) rfl rfl rfl (by decide +kernel) ⟨Nat.le_of_ble_eq_true rfl, Nat.le_of_ble_eq_true rfl⟩) (pM_V hP hK) rfl rfl hl.1 rfl (lv_room (Nat.le_of_ble_eq_true rfl)) dX1_half_126 ⟨Nat.zero_le _, Nat.zero_le _⟩) hS (fun _ h => h) (fun H locs hP hS _ _ => ?_)
        have hP : va_P G vwCl (wM a C T K D w 1) H := hP
        refine W.eq (g2 := F0 m 129 ls [.int 0]) rfl ?_
        refine lv_goto (tgt := 133) hx hb dX1_half_129 (by decide) ?_
        exact W.iret hx hb hr (fun t ht _ => ⟨rfl, by rw [ht]; exact hP, hS.F ht⟩) hS.2.2 dX1_half_133
      | some b =>
        refine lv_icmp_ne (tgt := 132) hx hb dX1_half_121 (by decide) (fun _ => ?_) (fun hc => absurd hc (nI_ne_m1 (hbb b rfl)))
        refine lv_iload_n hx hb dX1_half_132 rfl (lv_at hl 1 rfl) ?_
        exact W.iret hx hb hr (fun t ht _ => ⟨rfl, by rw [ht]; exact hP, hS.F ht⟩) hS.2.2 dX1_half_133
    | succ k ih =>
      intro i acc hi he hbb H locs hP hS ls hl
      refine lv_iload_n hx hb dX1_half_9 rfl (lv_at hl 0 rfl) ?_
      refine lv_sipush (v := 200) hx hb dX1_half_10 (by decide) ?_
      refine lv_icmp_ge (tgt := 119) hx hb dX1_half_13 (by decide) (fun hc => absurd hc (nI_ge (b := 200) (by omega) (by decide))) (fun _ => ?_)
      refine lv_aload_n hx hb dX1_half_16 rfl (lv_at hl 2 rfl) ?_
      refine va_get (D := G) (ci := 1) (C := RX1) (T := TX1) (N := 5) hx hb hts hin hown hK hP 0 rfl rfl 0 (by decide) (hts _ (tb_cons _ w_fl_X1_9)) (fun _ h9 => h9) rfl dX1_half_17 ?_
      refine lv_iload_n hx hb dX1_half_20 rfl (lv_at hl 0 rfl) ?_
      refine q_zald hx hb hK hP 1 0 rfl rfl (i) rfl (by omega) (by decide) dX1_half_21 ?_
      by_cases hT : T i = true
      · refine q_topi (y := 1) (ft_tb_t hT) ?_
        refine lv_if_ne (tgt := 28) hx hb dX1_half_22 (by decide) (fun _ => ?_) (fun hc => absurd hc (by decide))
        refine lv_aload_n hx hb dX1_half_28 rfl (lv_at hl 2 rfl) ?_
        refine va_get (D := G) (ci := 1) (C := RX1) (T := TX1) (N := 5) hx hb hts hin hown hK hP 0 rfl rfl 3 (by decide) (hts _ (tb_cons _ w_fl_X1_20)) (fun _ h9 => h9) rfl dX1_half_29 ?_
        refine lv_iload_n hx hb dX1_half_32 rfl (lv_at hl 0 rfl) ?_
        refine q_iald hx hb hK hP 4 3 rfl rfl (i) rfl (by omega) (by decide) dX1_half_33 ?_
        refine lv_i2l hx hb dX1_half_34 rfl ?_
        refine q_topl (y := (ft_gf (fun n acc => if (T n && ft_sb K (K i) (nI i) n) = true then acc + (w n).toInt64 else acc) (w i).toInt64 0)) rfl ?_
        refine lv_lstore_n hx hb dX1_half_35 rfl hl (by decide) rfl (fun ls hl => ?_)
        have hl : lv_has ls 6 [(3, .long (ft_gf (fun n acc => if (T n && ft_sb K (K i) (nI i) n) = true then acc + (w n).toInt64 else acc) (w i).toInt64 0)), (2, .int (nI i)), (1, .int (ft_ob acc)), (0, .ref (a 0))] := hl
        refine lv_iconst (v := 0) hx hb dX1_half_36 (by decide) ?_
        refine lv_istore hx hb dX1_half_37 hl (by decide) rfl (fun ls hl => ?_)
        have hl : lv_has ls 6 [(5, .int 0), (3, .long (ft_gf (fun n acc => if (T n && ft_sb K (K i) (nI i) n) = true then acc + (w n).toInt64 else acc) (w i).toInt64 0)), (2, .int (nI i)), (1, .int (ft_ob acc)), (0, .ref (a 0))] := hl
        have cont : ∀ ls : Array Slot, lv_has ls 6 [(5, .int (nI 200)), (3, .long (ft_gf (fun n acc => if (T n && ft_sb K (K i) (nI i) n) = true then acc + (w n).toInt64 else acc) (w i).toInt64 200)), (2, .int (nI i)), (1, .int (ft_ob acc)), (0, .ref (a 0))] → W p l e { frames := 1, cells := 0, slots := 0, locals := 30 } s m ([.ref (a 0)] : List Value).toArray below meth c H locs 0 0 (MQ below (wr_Q G vwCl (some (.int (ft_or (ft_gf (ft_mnS (ft_halfP T K w) (fun n b => ft_sb K (K b) (nI b) n)) none 200)))) (wM a C T K D w (ft_ot (ft_gf (ft_mnS (ft_halfP T K w) (fun n b => ft_sb K (K b) (nI b) n)) none 200))) A) ([.ref (a 0)] : List Value).toArray s 0 0 A) (F0 m 84 ls []) := by
          intro ls hl
          refine lv_ldc2 (v := 2) hx hb hown (hts _ (tb_cons _ w_k_X1_79)) dX1_half_84 ?_
          refine lv_lload_n hx hb dX1_half_87 rfl (lv_at hl 1 rfl) ?_
          refine lv_lmul hx hb dX1_half_88 ?_
          refine lv_aload_n hx hb dX1_half_89 rfl (lv_at hl 4 rfl) ?_
          refine rd_call (W.runV (As := []) (rest := [.long (2 * (ft_gf (fun n acc => if (T n && ft_sb K (K i) (nI i) n) = true then acc + (w n).toInt64 else acc) (w i).toInt64 200))]) S (cm_all l G a C T K D w 0) (cwV 0 hts (gX1_81 tb_cons) rfl rfl rfl (by decide +kernel) ⟨Nat.le_of_ble_eq_true rfl, Nat.le_of_ble_eq_true rfl⟩) (pM_V hP hK) rfl rfl hl.1 rfl (lv_room (Nat.le_of_ble_eq_true rfl)) dX1_half_90 ⟨Nat.zero_le _, Nat.zero_le _⟩) ?_
          refine W.lcmp hx hb dX1_half_93 ?_
          refine lv_if_lt (tgt := 113) hx hb dX1_half_94 (by decide) (fun hq => ?_) (fun hq => ?_)
          · refine lv_iinc (k := 2) (v := nI (i + 1)) hx hb dX1_half_113 hl rfl (nI_succ i).symm (by decide) rfl (fun ls hl => ?_)
            have hl : lv_has ls 6 [(2, .int (nI (i + 1))), (5, .int (nI 200)), (3, .long (ft_gf (fun n acc => if (T n && ft_sb K (K i) (nI i) n) = true then acc + (w n).toInt64 else acc) (w i).toInt64 200)), (1, .int (ft_ob acc)), (0, .ref (a 0))] := hl
            refine lv_goto (tgt := 9) hx hb dX1_half_116 (by decide) ?_
            exact ih (i + 1) acc (by omega) (ft_gf_s he (ft_mnS_f1 (nand2 (fun z => Int64.not_le.mpr ((lg_cmp_lt _ _).mp hq) (of_decide_eq_true z))))) hbb H locs hP hS ls (lv_sub hl [0, 3, 4] rfl)
          · have hp : ft_halfP T K w i = true := yand hT (decide_eq_true (Int64.not_lt.mp (fun z => hq ((lg_cmp_lt _ _).mpr z))))
            refine lv_iload_n hx hb dX1_half_97 rfl (lv_at hl 3 rfl) ?_
            refine lv_iconst (v := (-1)) hx hb dX1_half_98 (by decide) ?_
            cases acc with
            | none =>
              refine lv_icmp_eq (tgt := 111) hx hb dX1_half_99 (by decide) (fun _ => ?_) (fun hc => absurd (rfl) hc)
              refine lv_iload_n hx hb dX1_half_111 rfl (lv_at hl 2 rfl) ?_
              refine lv_istore_n hx hb dX1_half_112 rfl hl (by decide) rfl (fun ls hl => ?_)
              have hl : lv_has ls 6 [(1, .int (nI i)), (5, .int (nI 200)), (3, .long (ft_gf (fun n acc => if (T n && ft_sb K (K i) (nI i) n) = true then acc + (w n).toInt64 else acc) (w i).toInt64 200)), (2, .int (nI i)), (0, .ref (a 0))] := hl
              refine lv_iinc (k := 3) (v := nI (i + 1)) hx hb dX1_half_113 hl rfl (nI_succ i).symm (by decide) rfl (fun ls hl => ?_)
              have hl : lv_has ls 6 [(2, .int (nI (i + 1))), (1, .int (nI i)), (5, .int (nI 200)), (3, .long (ft_gf (fun n acc => if (T n && ft_sb K (K i) (nI i) n) = true then acc + (w n).toInt64 else acc) (w i).toInt64 200)), (0, .ref (a 0))] := hl
              refine lv_goto (tgt := 9) hx hb dX1_half_116 (by decide) ?_
              exact ih (i + 1) (some i) (by omega) (ft_gf_s he (ft_mnS_t hp rfl)) (fun b e => by cases e; omega) H locs hP hS ls (lv_sub hl [0, 1, 4] rfl)
            | some b =>
              refine lv_icmp_eq (tgt := 111) hx hb dX1_half_99 (by decide) (fun hc => absurd hc (nI_ne_m1 (hbb b rfl))) (fun _ => ?_)
              refine lv_aload_n hx hb dX1_half_102 rfl (lv_at hl 4 rfl) ?_
              refine lv_iload_n hx hb dX1_half_103 rfl (lv_at hl 2 rfl) ?_
              refine lv_iload_n hx hb dX1_half_104 rfl (lv_at hl 3 rfl) ?_
              refine rd_call (W.runV (As := [.int (nI i), .int (nI b)]) (rest := []) S (cm_before l G a C T K D w 0 (j := i) (f := b) (by omega) (hbb b rfl)) (cwV 2 hts (gX1_62 tb_cons) rfl rfl rfl (by decide +kernel) ⟨Nat.le_of_ble_eq_true rfl, Nat.le_of_ble_eq_true rfl⟩) (pM_V hP hK) rfl rfl hl.1 rfl (lv_room (Nat.le_of_ble_eq_true rfl)) dX1_half_105 ⟨Nat.zero_le _, Nat.zero_le _⟩) ?_
              by_cases hz : ft_sb K (K b) (nI b) i = true
              · rw [if_pos hz]
                refine lv_if_eq (tgt := 113) hx hb dX1_half_108 (by decide) (fun hc => absurd hc (by decide)) (fun _ => ?_)
                refine lv_iload_n hx hb dX1_half_111 rfl (lv_at hl 2 rfl) ?_
                refine lv_istore_n hx hb dX1_half_112 rfl hl (by decide) rfl (fun ls hl => ?_)
                have hl : lv_has ls 6 [(1, .int (nI i)), (5, .int (nI 200)), (3, .long (ft_gf (fun n acc => if (T n && ft_sb K (K i) (nI i) n) = true then acc + (w n).toInt64 else acc) (w i).toInt64 200)), (2, .int (nI i)), (0, .ref (a 0))] := hl
                refine lv_iinc (k := 3) (v := nI (i + 1)) hx hb dX1_half_113 hl rfl (nI_succ i).symm (by decide) rfl (fun ls hl => ?_)
                have hl : lv_has ls 6 [(2, .int (nI (i + 1))), (1, .int (nI i)), (5, .int (nI 200)), (3, .long (ft_gf (fun n acc => if (T n && ft_sb K (K i) (nI i) n) = true then acc + (w n).toInt64 else acc) (w i).toInt64 200)), (0, .ref (a 0))] := hl
                refine lv_goto (tgt := 9) hx hb dX1_half_116 (by decide) ?_
                exact ih (i + 1) (some i) (by omega) (ft_gf_s he (ft_mnS_t hp hz)) (fun b e => by cases e; omega) H locs hP hS ls (lv_sub hl [0, 1, 4] rfl)
              · rw [if_neg hz]
                refine lv_if_eq (tgt := 113) hx hb dX1_half_108 (by decide) (fun _ => ?_) (fun hc => absurd (rfl) hc)
                refine lv_iinc (k := 2) (v := nI (i + 1)) hx hb dX1_half_113 hl rfl (nI_succ i).symm (by decide) rfl (fun ls hl => ?_)
                have hl : lv_has ls 6 [(2, .int (nI (i + 1))), (5, .int (nI 200)), (3, .long (ft_gf (fun n acc => if (T n && ft_sb K (K i) (nI i) n) = true then acc + (w n).toInt64 else acc) (w i).toInt64 200)), (1, .int (ft_ob (some b))), (0, .ref (a 0))] := hl
                refine lv_goto (tgt := 9) hx hb dX1_half_116 (by decide) ?_
                exact ih (i + 1) (some b) (by omega) (ft_gf_s he (ft_mnS_f2 hz)) hbb H locs hP hS ls (lv_sub hl [0, 3, 4] rfl)
        have inner : ∀ (k2 n : Nat), n + k2 = 200 → ∀ ls : Array Slot, lv_has ls 6 [(5, .int (nI n)), (3, .long (ft_gf (fun n acc => if (T n && ft_sb K (K i) (nI i) n) = true then acc + (w n).toInt64 else acc) (w i).toInt64 n)), (2, .int (nI i)), (1, .int (ft_ob acc)), (0, .ref (a 0))] → W p l e { frames := 1, cells := 0, slots := 0, locals := 30 } s m ([.ref (a 0)] : List Value).toArray below meth c H locs 0 0 (MQ below (wr_Q G vwCl (some (.int (ft_or (ft_gf (ft_mnS (ft_halfP T K w) (fun n b => ft_sb K (K b) (nI b) n)) none 200)))) (wM a C T K D w (ft_ot (ft_gf (ft_mnS (ft_halfP T K w) (fun n b => ft_sb K (K b) (nI b) n)) none 200))) A) ([.ref (a 0)] : List Value).toArray s 0 0 A) (F0 m 39 ls []) := by
          intro k2
          induction k2 with
          | zero =>
            intro n hn ls hl
            refine lv_iload hx hb dX1_half_39 (lv_at hl 0 rfl) ?_
            refine lv_sipush (v := 200) hx hb dX1_half_41 (by decide) ?_
            refine lv_icmp_ge (tgt := 84) hx hb dX1_half_44 (by decide) (fun _ => ?_) (fun hc => absurd (nI_le (a := 200) (by omega) (by omega)) hc)
            have hn : n = 200 := hn
            rw [hn] at hl
            exact cont ls hl
          | succ k2 ih2 =>
            intro n hn ls hl
            refine lv_iload hx hb dX1_half_39 (lv_at hl 0 rfl) ?_
            refine lv_sipush (v := 200) hx hb dX1_half_41 (by decide) ?_
            refine lv_icmp_ge (tgt := 84) hx hb dX1_half_44 (by decide) (fun hc => absurd hc (nI_ge (b := 200) (by omega) (by decide))) (fun _ => ?_)
            refine lv_aload_n hx hb dX1_half_47 rfl (lv_at hl 4 rfl) ?_
            refine va_get (D := G) (ci := 1) (C := RX1) (T := TX1) (N := 5) hx hb hts hin hown hK hP 0 rfl rfl 0 (by decide) (hts _ (tb_cons _ w_fl_X1_9)) (fun _ h9 => h9) rfl dX1_half_48 ?_
            refine lv_iload hx hb dX1_half_51 (lv_at hl 0 rfl) ?_
            refine q_zald hx hb hK hP 1 0 rfl rfl (n) rfl (by omega) (by decide) dX1_half_53 ?_
            by_cases hT2 : T n = true
            · refine q_topi (y := 1) (ft_tb_t hT2) ?_
              refine lv_if_eq (tgt := 78) hx hb dX1_half_54 (by decide) (fun hc => absurd hc (by decide)) (fun _ => ?_)
              refine lv_aload_n hx hb dX1_half_57 rfl (lv_at hl 4 rfl) ?_
              refine lv_iload hx hb dX1_half_58 (lv_at hl 0 rfl) ?_
              refine lv_iload_n hx hb dX1_half_60 rfl (lv_at hl 2 rfl) ?_
              refine rd_call (W.runV (As := [.int (nI n), .int (nI i)]) (rest := []) S (cm_before l G a C T K D w 0 (j := n) (f := i) (by omega) (by omega)) (cwV 2 hts (gX1_62 tb_cons) rfl rfl rfl (by decide +kernel) ⟨Nat.le_of_ble_eq_true rfl, Nat.le_of_ble_eq_true rfl⟩) (pM_V hP hK) rfl rfl hl.1 rfl (lv_room (Nat.le_of_ble_eq_true rfl)) dX1_half_61 ⟨Nat.zero_le _, Nat.zero_le _⟩) ?_
              by_cases hz : ft_sb K (K i) (nI i) n = true
              · rw [if_pos hz]
                refine lv_if_eq (tgt := 78) hx hb dX1_half_64 (by decide) (fun hc => absurd hc (by decide)) (fun _ => ?_)
                refine lv_lload_n hx hb dX1_half_67 rfl (lv_at hl 1 rfl) ?_
                refine lv_aload_n hx hb dX1_half_68 rfl (lv_at hl 4 rfl) ?_
                refine va_get (D := G) (ci := 1) (C := RX1) (T := TX1) (N := 5) hx hb hts hin hown hK hP 0 rfl rfl 3 (by decide) (hts _ (tb_cons _ w_fl_X1_20)) (fun _ h9 => h9) rfl dX1_half_69 ?_
                refine lv_iload hx hb dX1_half_72 (lv_at hl 0 rfl) ?_
                refine q_iald hx hb hK hP 4 3 rfl rfl (n) rfl (by omega) (by decide) dX1_half_74 ?_
                refine lv_i2l hx hb dX1_half_75 rfl ?_
                refine lv_ladd hx hb dX1_half_76 ?_
                refine q_topl (y := (ft_gf (fun n acc => if (T n && ft_sb K (K i) (nI i) n) = true then acc + (w n).toInt64 else acc) (w i).toInt64 (n + 1))) (ft_gf_t (P := fun n => T n && ft_sb K (K i) (nI i) n) (g := fun n acc => acc + (w n).toInt64) (yand hT2 hz)) ?_
                refine lv_lstore_n hx hb dX1_half_77 rfl hl (by decide) rfl (fun ls hl => ?_)
                have hl : lv_has ls 6 [(3, .long (ft_gf (fun n acc => if (T n && ft_sb K (K i) (nI i) n) = true then acc + (w n).toInt64 else acc) (w i).toInt64 (n + 1))), (5, .int (nI n)), (2, .int (nI i)), (1, .int (ft_ob acc)), (0, .ref (a 0))] := hl
                refine lv_iinc (k := 1) (v := nI (n + 1)) hx hb dX1_half_78 hl rfl (nI_succ n).symm (by decide) rfl (fun ls hl => ?_)
                have hl : lv_has ls 6 [(5, .int (nI (n + 1))), (3, .long (ft_gf (fun n acc => if (T n && ft_sb K (K i) (nI i) n) = true then acc + (w n).toInt64 else acc) (w i).toInt64 (n + 1))), (2, .int (nI i)), (1, .int (ft_ob acc)), (0, .ref (a 0))] := hl
                refine lv_goto (tgt := 39) hx hb dX1_half_81 (by decide) ?_
                exact ih2 (n + 1) (by omega) ls hl
              · rw [if_neg hz]
                refine lv_if_eq (tgt := 78) hx hb dX1_half_64 (by decide) (fun _ => ?_) (fun hc => absurd (rfl) hc)
                refine lv_iinc (k := 0) (v := nI (n + 1)) hx hb dX1_half_78 hl rfl (nI_succ n).symm (by decide) rfl (fun ls hl => ?_)
                have hl : lv_has ls 6 [(5, .int (nI (n + 1))), (3, .long (ft_gf (fun n acc => if (T n && ft_sb K (K i) (nI i) n) = true then acc + (w n).toInt64 else acc) (w i).toInt64 n)), (2, .int (nI i)), (1, .int (ft_ob acc)), (0, .ref (a 0))] := hl
                refine lv_goto (tgt := 39) hx hb dX1_half_81 (by decide) ?_
                exact ih2 (n + 1) (by omega) ls (by rw [ft_gf_f (P := fun n => T n && ft_sb K (K i) (nI i) n) (g := fun n acc => acc + (w n).toInt64) (nand2 hz)]; exact hl)
            · refine q_topi (y := 0) (ft_tb_f hT2) ?_
              refine lv_if_eq (tgt := 78) hx hb dX1_half_54 (by decide) (fun _ => ?_) (fun hc => absurd (rfl) hc)
              refine lv_iinc (k := 0) (v := nI (n + 1)) hx hb dX1_half_78 hl rfl (nI_succ n).symm (by decide) rfl (fun ls hl => ?_)
              have hl : lv_has ls 6 [(5, .int (nI (n + 1))), (3, .long (ft_gf (fun n acc => if (T n && ft_sb K (K i) (nI i) n) = true then acc + (w n).toInt64 else acc) (w i).toInt64 n)), (2, .int (nI i)), (1, .int (ft_ob acc)), (0, .ref (a 0))] := hl
              refine lv_goto (tgt := 39) hx hb dX1_half_81 (by decide) ?_
              exact ih2 (n + 1) (by omega) ls (by rw [ft_gf_f (P := fun n => T n && ft_sb K (K i) (nI i) n) (g := fun n acc => acc + (w n).toInt64) (nand1 hT2)]; exact hl)
        exact inner 200 0 (by omega) ls hl
      · refine q_topi (y := 0) (ft_tb_f hT) ?_
        refine lv_if_ne (tgt := 28) hx hb dX1_half_22 (by decide) (fun hc => absurd (rfl) hc) (fun _ => ?_)
        refine lv_goto (tgt := 113) hx hb dX1_half_25 (by decide) ?_
        refine lv_iinc (k := 0) (v := nI (i + 1)) hx hb dX1_half_113 hl rfl (nI_succ i).symm (by decide) rfl (fun ls hl => ?_)
        have hl : lv_has ls 6 [(2, .int (nI (i + 1))), (1, .int (ft_ob acc)), (0, .ref (a 0))] := hl
        refine lv_goto (tgt := 9) hx hb dX1_half_116 (by decide) ?_
        exact ih (i + 1) acc (by omega) (ft_gf_s he (ft_mnS_f1 (fun z => nand1 hT z))) hbb H locs hP hS ls hl
  exact loop 200 0 none (by omega) rfl (fun b e => by cases e) H locs hP hS ls hl
set_option maxHeartbeats 4000000 in
set_option maxRecDepth 100000 in
theorem cm_nearest_few (l : Launch) (G : va_G) (a : Nat → Nat) (C : Nat → ClassId) {A : Nat → Prop} (hD : ∀ T K D w th, va_D A (wM a C T K D w th)) (T : Nat → Bool) (K D : Nat → Int64) (w : Nat → Int32) (th : Int32) (h : ft_cnt T 200 < 2) : Met l yX1_nearest wsX1_nearest { frames := 1, cells := 0, slots := 0, locals := 30 } (va_Pc [.ref (a 0)] (rM G a C T K D w th)) (wr_Q G vwCl (some (.long 0)) (wM a C T K D w 1) A) 0 0 A := by
  refine q_open (cc := cX1_nearest) (maxL := 5) (ret := (some .long)) (by decide) rfl (Nat.le_of_ble_eq_true rfl) ?_
  intro p e s m below meth c ls S hr hlk hB hl
  obtain ⟨hx, hb, hml, hown, hts⟩ := id S
  obtain ⟨hP, hK⟩ := hB
  have hin : ∀ w ∈ u_ws RX1 TX1 5, w ∈ wsX1_nearest := fun w h => tb_cons w (hinX1 w h)
  have hS : va_S A s.heap s.heap [] := va_S.rf
  have hl : lv_has ls 5 [(0, .ref (a 0))] := hl
  refine lv_aload_n hx hb dX1_nearest_0 rfl (lv_at hl 0 rfl) ?_
  refine lv_aload_n hx hb dX1_nearest_1 rfl (lv_at hl 0 rfl) ?_
  refine rd_call (W.runV (As := []) (rest := [.ref (a 0)]) S (cm_many l G a C T K D w th) (cwV 0 hts (gX1_32 tb_cons) rfl rfl rfl (by decide +kernel) ⟨Nat.le_of_ble_eq_true rfl, Nat.le_of_ble_eq_true rfl⟩) (pM_V hP hK) rfl rfl hl.1 rfl (lv_room (Nat.le_of_ble_eq_true rfl)) dX1_nearest_2 ⟨Nat.zero_le _, Nat.zero_le _⟩) ?_
  refine lv_iconst (v := 2) hx hb dX1_nearest_5 (by decide) ?_
  refine lv_icmp_ge (tgt := 13) hx hb dX1_nearest_6 (by decide) (fun hc => absurd hc (nI_ge (a := ft_cnt T 200) (b := 2) h (by decide))) (fun _ => ?_)
  refine lv_iconst (v := 1) hx hb dX1_nearest_9 (by decide) ?_
  refine lv_goto (tgt := 14) hx hb dX1_nearest_10 (by decide) ?_
  refine va_put (D := G) (ci := 1) (v := .int 1) (ty := .int) (C := RX1) (T := TX1) (N := 5) hx hb hts hin tyX1 tyX1_ok nmX1 hown hK hP (hD _ _ _ _ _) hS 0 rfl rfl 4 (by decide) (hts _ (tb_cons _ w_fl_X1_24)) (fun _ h9 => h9) rfl (by decide +kernel) rfl rfl (Nat.le_of_ble_eq_true rfl) dX1_nearest_14 (fun H locs hP _ hS => ?_)
  have hP : va_P G vwCl (wM a C T K D w 1) H := hP
  refine lv_ldc2 (v := 9223372036854775807) hx hb hown (hts _ (tb_cons _ w_k_X1_42)) dX1_nearest_17 ?_
  refine lv_lstore_n hx hb dX1_nearest_20 rfl hl (by decide) rfl (fun ls hl => ?_)
  have hl : lv_has ls 5 [(1, .long 9223372036854775807), (0, .ref (a 0))] := hl
  refine lv_iconst (v := 0) hx hb dX1_nearest_21 (by decide) ?_
  refine lv_istore_n hx hb dX1_nearest_22 rfl hl (by decide) rfl (fun ls hl => ?_)
  have hl : lv_has ls 5 [(3, .int 0), (1, .long 9223372036854775807), (0, .ref (a 0))] := hl
  refine lv_iload_n hx hb dX1_nearest_23 rfl (lv_at hl 0 rfl) ?_
  refine lv_sipush (v := 200) hx hb dX1_nearest_24 (by decide) ?_
  refine lv_icmp_ge (tgt := 130) hx hb dX1_nearest_27 (by decide) (fun hc => absurd hc (nI_ge (a := 0) (b := 200) (by decide) (by decide))) (fun _ => ?_)
  refine lv_aload_n hx hb dX1_nearest_30 rfl (lv_at hl 2 rfl) ?_
  refine va_get (D := G) (ci := 1) (C := RX1) (T := TX1) (N := 5) hx hb hts hin hown hK hP 0 rfl rfl 4 (by decide) (hts _ (tb_cons _ w_fl_X1_24)) (fun _ h9 => h9) rfl dX1_nearest_31 ?_
  refine lv_if_ne (tgt := 130) hx hb dX1_nearest_34 (by decide) (fun _ => ?_) (fun hc => absurd hc (by decide))
  refine lv_aload_n hx hb dX1_nearest_130 rfl (lv_at hl 2 rfl) ?_
  refine va_get (D := G) (ci := 1) (C := RX1) (T := TX1) (N := 5) hx hb hts hin hown hK hP 0 rfl rfl 4 (by decide) (hts _ (tb_cons _ w_fl_X1_24)) (fun _ h9 => h9) rfl dX1_nearest_131 ?_
  refine lv_if_le (tgt := 141) hx hb dX1_nearest_134 (by decide) (fun hc => absurd hc (by decide)) (fun _ => ?_)
  refine lv_lconst (v := 0) hx hb dX1_nearest_137 (by decide) ?_
  refine lv_goto (tgt := 142) hx hb dX1_nearest_138 (by decide) ?_
  exact W.lret hx hb hr (fun t ht _ => ⟨rfl, by rw [ht]; exact hP, hS.F ht⟩) hS.2.2 dX1_nearest_142
set_option maxHeartbeats 4000000 in
set_option maxRecDepth 100000 in
theorem cm_nearest (l : Launch) (G : va_G) (a : Nat → Nat) (C : Nat → ClassId) {A : Nat → Prop} (hD : ∀ T K D w th, va_D A (wM a C T K D w th)) (T : Nat → Bool) (K D : Nat → Int64) (w : Nat → Int32) (th : Int32) (h : 2 ≤ ft_cnt T 200) : Met l yX1_nearest wsX1_nearest { frames := 1, cells := 0, slots := 0, locals := 30 } (va_Pc [.ref (a 0)] (rM G a C T K D w th)) (wr_Q G vwCl (some (.long (ft_near T K 200))) (wM a C T K D w 0) A) 0 0 A := by
  refine q_open (cc := cX1_nearest) (maxL := 5) (ret := (some .long)) (by decide) rfl (Nat.le_of_ble_eq_true rfl) ?_
  intro p e s m below meth c ls S hr hlk hB hl
  obtain ⟨hx, hb, hml, hown, hts⟩ := id S
  obtain ⟨hP, hK⟩ := hB
  have hin : ∀ w ∈ u_ws RX1 TX1 5, w ∈ wsX1_nearest := fun w h => tb_cons w (hinX1 w h)
  have hS : va_S A s.heap s.heap [] := va_S.rf
  have hl : lv_has ls 5 [(0, .ref (a 0))] := hl
  refine lv_aload_n hx hb dX1_nearest_0 rfl (lv_at hl 0 rfl) ?_
  refine lv_aload_n hx hb dX1_nearest_1 rfl (lv_at hl 0 rfl) ?_
  refine rd_call (W.runV (As := []) (rest := [.ref (a 0)]) S (cm_many l G a C T K D w th) (cwV 0 hts (gX1_32 tb_cons) rfl rfl rfl (by decide +kernel) ⟨Nat.le_of_ble_eq_true rfl, Nat.le_of_ble_eq_true rfl⟩) (pM_V hP hK) rfl rfl hl.1 rfl (lv_room (Nat.le_of_ble_eq_true rfl)) dX1_nearest_2 ⟨Nat.zero_le _, Nat.zero_le _⟩) ?_
  refine lv_iconst (v := 2) hx hb dX1_nearest_5 (by decide) ?_
  have hc9 := ft_cnt_le T 200
  refine lv_icmp_ge (tgt := 13) hx hb dX1_nearest_6 (by decide) (fun _ => ?_) (fun hc => absurd (nI_le (a := 2) h (by omega)) hc)
  refine lv_iconst (v := 0) hx hb dX1_nearest_13 (by decide) ?_
  refine va_put (D := G) (ci := 1) (v := .int 0) (ty := .int) (C := RX1) (T := TX1) (N := 5) hx hb hts hin tyX1 tyX1_ok nmX1 hown hK hP (hD _ _ _ _ _) hS 0 rfl rfl 4 (by decide) (hts _ (tb_cons _ w_fl_X1_24)) (fun _ h9 => h9) rfl (by decide +kernel) rfl rfl (Nat.le_of_ble_eq_true rfl) dX1_nearest_14 (fun H locs hP _ hS => ?_)
  have hP : va_P G vwCl (wM a C T K D w 0) H := hP
  refine lv_ldc2 (v := 9223372036854775807) hx hb hown (hts _ (tb_cons _ w_k_X1_42)) dX1_nearest_17 ?_
  refine q_topl (y := (ft_near T K 0)) rfl ?_
  refine lv_lstore_n hx hb dX1_nearest_20 rfl hl (by decide) rfl (fun ls hl => ?_)
  have hl : lv_has ls 5 [(1, .long (ft_near T K 0)), (0, .ref (a 0))] := hl
  refine lv_iconst (v := 0) hx hb dX1_nearest_21 (by decide) ?_
  refine lv_istore_n hx hb dX1_nearest_22 rfl hl (by decide) rfl (fun ls hl => ?_)
  have hl : lv_has ls 5 [(3, .int 0), (1, .long (ft_near T K 0)), (0, .ref (a 0))] := hl
  have loop : ∀ (k : Nat) (i : Nat), i + k = 200 → ∀ (H : Heap) (locs : List Loc), va_P G vwCl (wM a C T K D w 0) H → va_S A s.heap H locs → ∀ ls : Array Slot, lv_has ls 5 [(3, .int (nI i)), (1, .long (ft_near T K i)), (0, .ref (a 0))] → W p l e { frames := 1, cells := 0, slots := 0, locals := 30 } s m ([.ref (a 0)] : List Value).toArray below meth c H locs 0 0 (MQ below (wr_Q G vwCl (some (.long (ft_near T K 200))) (wM a C T K D w 0) A) ([.ref (a 0)] : List Value).toArray s 0 0 A) (F0 m 23 ls []) := by
    intro k
    induction k with
    | zero =>
      intro i hi H locs hP hS ls hl
      refine lv_iload_n hx hb dX1_nearest_23 rfl (lv_at hl 0 rfl) ?_
      refine lv_sipush (v := 200) hx hb dX1_nearest_24 (by decide) ?_
      refine lv_icmp_ge (tgt := 130) hx hb dX1_nearest_27 (by decide) (fun _ => ?_) (fun hc => absurd (nI_le (a := 200) (by omega) (by omega)) hc)
      refine lv_aload_n hx hb dX1_nearest_130 rfl (lv_at hl 2 rfl) ?_
      refine va_get (D := G) (ci := 1) (C := RX1) (T := TX1) (N := 5) hx hb hts hin hown hK hP 0 rfl rfl 4 (by decide) (hts _ (tb_cons _ w_fl_X1_24)) (fun _ h9 => h9) rfl dX1_nearest_131 ?_
      refine lv_if_le (tgt := 141) hx hb dX1_nearest_134 (by decide) (fun _ => ?_) (fun hc => absurd (by decide) hc)
      refine lv_lload_n hx hb dX1_nearest_141 rfl (lv_at hl 1 rfl) ?_
      have hi : i = 200 := hi
      exact W.lret hx hb hr (fun t ht _ => ⟨by rw [hi], by rw [ht]; exact hP, hS.F ht⟩) hS.2.2 dX1_nearest_142
    | succ k ih =>
      intro i hi H locs hP hS ls hl
      refine lv_iload_n hx hb dX1_nearest_23 rfl (lv_at hl 0 rfl) ?_
      refine lv_sipush (v := 200) hx hb dX1_nearest_24 (by decide) ?_
      refine lv_icmp_ge (tgt := 130) hx hb dX1_nearest_27 (by decide) (fun hc => absurd hc (nI_ge (b := 200) (by omega) (by decide))) (fun _ => ?_)
      refine lv_aload_n hx hb dX1_nearest_30 rfl (lv_at hl 2 rfl) ?_
      refine va_get (D := G) (ci := 1) (C := RX1) (T := TX1) (N := 5) hx hb hts hin hown hK hP 0 rfl rfl 4 (by decide) (hts _ (tb_cons _ w_fl_X1_24)) (fun _ h9 => h9) rfl dX1_nearest_31 ?_
      refine lv_if_ne (tgt := 130) hx hb dX1_nearest_34 (by decide) (fun hc => absurd (rfl) hc) (fun _ => ?_)
      refine lv_iconst (v := 0) hx hb dX1_nearest_37 (by decide) ?_
      refine lv_istore hx hb dX1_nearest_38 hl (by decide) rfl (fun ls hl => ?_)
      have hl : lv_has ls 5 [(4, .int 0), (3, .int (nI i)), (1, .long (ft_near T K i)), (0, .ref (a 0))] := hl
      by_cases hT : T i = true
      · have inner : ∀ (k2 b : Nat), b + k2 = i → ∀ ls : Array Slot, lv_has ls 5 [(4, .int (nI b)), (1, .long (ft_gf (fun b acc2 => if T b = true then ft_min acc2 (ft_dist K i b) else acc2) (ft_near T K i) b)), (3, .int (nI i)), (0, .ref (a 0))] → W p l e { frames := 1, cells := 0, slots := 0, locals := 30 } s m ([.ref (a 0)] : List Value).toArray below meth c H locs 0 0 (MQ below (wr_Q G vwCl (some (.long (ft_near T K 200))) (wM a C T K D w 0) A) ([.ref (a 0)] : List Value).toArray s 0 0 A) (F0 m 40 ls []) := by
          intro k2
          induction k2 with
          | zero =>
            intro b hb2 ls hl
            refine lv_iload hx hb dX1_nearest_40 (lv_at hl 0 rfl) ?_
            refine lv_iload_n hx hb dX1_nearest_42 rfl (lv_at hl 2 rfl) ?_
            refine lv_icmp_ge (tgt := 124) hx hb dX1_nearest_43 (by decide) (fun _ => ?_) (fun hc => absurd (nI_le (by omega) (by omega)) hc)
            have hb2 : b = i := hb2
            refine lv_iinc (k := 2) (v := nI (i + 1)) hx hb dX1_nearest_124 hl rfl (nI_succ i).symm (by decide) rfl (fun ls hl => ?_)
            have hl : lv_has ls 5 [(3, .int (nI (i + 1))), (4, .int (nI b)), (1, .long (ft_gf (fun b acc2 => if T b = true then ft_min acc2 (ft_dist K i b) else acc2) (ft_near T K i) b)), (0, .ref (a 0))] := hl
            refine lv_goto (tgt := 23) hx hb dX1_nearest_127 (by decide) ?_
            exact ih (i + 1) (by omega) H locs hP hS ls (by have e9 : ft_near T K (i + 1) = (ft_gf (fun b acc2 => if T b = true then ft_min acc2 (ft_dist K i b) else acc2) (ft_near T K i) i) := (if_pos hT); rw [e9]; rw [hb2] at hl; exact lv_sub hl [0, 2, 3] rfl)
          | succ k2 ih2 =>
            intro b hb2 ls hl
            refine lv_iload hx hb dX1_nearest_40 (lv_at hl 0 rfl) ?_
            refine lv_iload_n hx hb dX1_nearest_42 rfl (lv_at hl 2 rfl) ?_
            refine lv_icmp_ge (tgt := 124) hx hb dX1_nearest_43 (by decide) (fun hc => absurd hc (nI_ge (by omega) (by omega))) (fun _ => ?_)
            refine lv_aload_n hx hb dX1_nearest_46 rfl (lv_at hl 3 rfl) ?_
            refine va_get (D := G) (ci := 1) (C := RX1) (T := TX1) (N := 5) hx hb hts hin hown hK hP 0 rfl rfl 0 (by decide) (hts _ (tb_cons _ w_fl_X1_9)) (fun _ h9 => h9) rfl dX1_nearest_47 ?_
            refine lv_iload_n hx hb dX1_nearest_50 rfl (lv_at hl 2 rfl) ?_
            refine q_zald hx hb hK hP 1 0 rfl rfl (i) rfl (by omega) (by decide) dX1_nearest_51 ?_
            refine q_topi (y := 1) (ft_tb_t hT) ?_
            refine lv_if_eq (tgt := 124) hx hb dX1_nearest_52 (by decide) (fun hc => absurd hc (by decide)) (fun _ => ?_)
            refine lv_aload_n hx hb dX1_nearest_55 rfl (lv_at hl 3 rfl) ?_
            refine va_get (D := G) (ci := 1) (C := RX1) (T := TX1) (N := 5) hx hb hts hin hown hK hP 0 rfl rfl 0 (by decide) (hts _ (tb_cons _ w_fl_X1_9)) (fun _ h9 => h9) rfl dX1_nearest_56 ?_
            refine lv_iload hx hb dX1_nearest_59 (lv_at hl 0 rfl) ?_
            refine q_zald hx hb hK hP 1 0 rfl rfl (b) rfl (by omega) (by decide) dX1_nearest_61 ?_
            by_cases hT2 : T b = true
            · refine q_topi (y := 1) (ft_tb_t hT2) ?_
              refine lv_if_eq (tgt := 118) hx hb dX1_nearest_62 (by decide) (fun hc => absurd hc (by decide)) (fun _ => ?_)
              refine lv_lload_n hx hb dX1_nearest_65 rfl (lv_at hl 1 rfl) ?_
              refine lv_aload_n hx hb dX1_nearest_66 rfl (lv_at hl 3 rfl) ?_
              refine va_get (D := G) (ci := 1) (C := RX1) (T := TX1) (N := 5) hx hb hts hin hown hK hP 0 rfl rfl 1 (by decide) (hts _ (tb_cons _ w_fl_X1_13)) (fun _ h9 => h9) rfl dX1_nearest_67 ?_
              refine lv_iload_n hx hb dX1_nearest_70 rfl (lv_at hl 2 rfl) ?_
              refine q_lald hx hb hK hP 2 1 rfl rfl (i) rfl (by omega) (by decide) dX1_nearest_71 ?_
              refine lv_aload_n hx hb dX1_nearest_72 rfl (lv_at hl 3 rfl) ?_
              refine va_get (D := G) (ci := 1) (C := RX1) (T := TX1) (N := 5) hx hb hts hin hown hK hP 0 rfl rfl 1 (by decide) (hts _ (tb_cons _ w_fl_X1_13)) (fun _ h9 => h9) rfl dX1_nearest_73 ?_
              refine lv_iload hx hb dX1_nearest_76 (lv_at hl 0 rfl) ?_
              refine q_lald hx hb hK hP 2 1 rfl rfl (b) rfl (by omega) (by decide) dX1_nearest_78 ?_
              refine W.lcmp hx hb dX1_nearest_79 ?_
              refine lv_if_ge (tgt := 100) hx hb dX1_nearest_80 (by decide) (fun hq => ?_) (fun hq => ?_)
              · refine lv_aload_n hx hb dX1_nearest_100 rfl (lv_at hl 3 rfl) ?_
                refine va_get (D := G) (ci := 1) (C := RX1) (T := TX1) (N := 5) hx hb hts hin hown hK hP 0 rfl rfl 1 (by decide) (hts _ (tb_cons _ w_fl_X1_13)) (fun _ h9 => h9) rfl dX1_nearest_101 ?_
                refine lv_iload_n hx hb dX1_nearest_104 rfl (lv_at hl 2 rfl) ?_
                refine q_lald hx hb hK hP 2 1 rfl rfl (i) rfl (by omega) (by decide) dX1_nearest_105 ?_
                refine lv_aload_n hx hb dX1_nearest_106 rfl (lv_at hl 3 rfl) ?_
                refine va_get (D := G) (ci := 1) (C := RX1) (T := TX1) (N := 5) hx hb hts hin hown hK hP 0 rfl rfl 1 (by decide) (hts _ (tb_cons _ w_fl_X1_13)) (fun _ h9 => h9) rfl dX1_nearest_107 ?_
                refine lv_iload hx hb dX1_nearest_110 (lv_at hl 0 rfl) ?_
                refine q_lald hx hb hK hP 2 1 rfl rfl (b) rfl (by omega) (by decide) dX1_nearest_112 ?_
                refine lv_lsub hx hb dX1_nearest_113 ?_
                refine q_topl (y := ft_dist K i b) (if_neg (Int64.not_lt.mpr ((lg_cmp_ge _ _).mp hq))).symm ?_
                refine va_mmin_long hx hb (hml.trans hl.1.symm) hown (hts _ (tb_cons _ w_ml_X1_56)) (hts _ (tb_cons _ w_st_min)) (hts _ (tb_cons _ w_in_Math)) (hts _ (tb_cons _ w_co_min)) (Nat.le_of_ble_eq_true rfl) (Nat.le_of_ble_eq_true rfl) (Nat.zero_le _) (Nat.zero_le _) dX1_nearest_114 ?_
                refine q_topl (y := (ft_gf (fun b acc2 => if T b = true then ft_min acc2 (ft_dist K i b) else acc2) (ft_near T K i) (b + 1))) (ft_gf_t (P := T) (g := fun b acc2 => ft_min acc2 (ft_dist K i b)) hT2) ?_
                refine lv_lstore_n hx hb dX1_nearest_117 rfl hl (by decide) rfl (fun ls hl => ?_)
                have hl : lv_has ls 5 [(1, .long (ft_gf (fun b acc2 => if T b = true then ft_min acc2 (ft_dist K i b) else acc2) (ft_near T K i) (b + 1))), (4, .int (nI b)), (3, .int (nI i)), (0, .ref (a 0))] := hl
                refine lv_iinc (k := 1) (v := nI (b + 1)) hx hb dX1_nearest_118 hl rfl (nI_succ b).symm (by decide) rfl (fun ls hl => ?_)
                have hl : lv_has ls 5 [(4, .int (nI (b + 1))), (1, .long (ft_gf (fun b acc2 => if T b = true then ft_min acc2 (ft_dist K i b) else acc2) (ft_near T K i) (b + 1))), (3, .int (nI i)), (0, .ref (a 0))] := hl
                refine lv_goto (tgt := 40) hx hb dX1_nearest_121 (by decide) ?_
                exact ih2 (b + 1) (by omega) ls hl
              · refine lv_aload_n hx hb dX1_nearest_83 rfl (lv_at hl 3 rfl) ?_
                refine va_get (D := G) (ci := 1) (C := RX1) (T := TX1) (N := 5) hx hb hts hin hown hK hP 0 rfl rfl 1 (by decide) (hts _ (tb_cons _ w_fl_X1_13)) (fun _ h9 => h9) rfl dX1_nearest_84 ?_
                refine lv_iload hx hb dX1_nearest_87 (lv_at hl 0 rfl) ?_
                refine q_lald hx hb hK hP 2 1 rfl rfl (b) rfl (by omega) (by decide) dX1_nearest_89 ?_
                refine lv_aload_n hx hb dX1_nearest_90 rfl (lv_at hl 3 rfl) ?_
                refine va_get (D := G) (ci := 1) (C := RX1) (T := TX1) (N := 5) hx hb hts hin hown hK hP 0 rfl rfl 1 (by decide) (hts _ (tb_cons _ w_fl_X1_13)) (fun _ h9 => h9) rfl dX1_nearest_91 ?_
                refine lv_iload_n hx hb dX1_nearest_94 rfl (lv_at hl 2 rfl) ?_
                refine q_lald hx hb hK hP 2 1 rfl rfl (i) rfl (by omega) (by decide) dX1_nearest_95 ?_
                refine lv_lsub hx hb dX1_nearest_96 ?_
                refine lv_goto (tgt := 114) hx hb dX1_nearest_97 (by decide) ?_
                refine q_topl (y := ft_dist K i b) (if_pos (Int64.not_le.mp (fun z => hq ((lg_cmp_ge _ _).mpr z)))).symm ?_
                refine va_mmin_long hx hb (hml.trans hl.1.symm) hown (hts _ (tb_cons _ w_ml_X1_56)) (hts _ (tb_cons _ w_st_min)) (hts _ (tb_cons _ w_in_Math)) (hts _ (tb_cons _ w_co_min)) (Nat.le_of_ble_eq_true rfl) (Nat.le_of_ble_eq_true rfl) (Nat.zero_le _) (Nat.zero_le _) dX1_nearest_114 ?_
                refine q_topl (y := (ft_gf (fun b acc2 => if T b = true then ft_min acc2 (ft_dist K i b) else acc2) (ft_near T K i) (b + 1))) (ft_gf_t (P := T) (g := fun b acc2 => ft_min acc2 (ft_dist K i b)) hT2) ?_
                refine lv_lstore_n hx hb dX1_nearest_117 rfl hl (by decide) rfl (fun ls hl => ?_)
                have hl : lv_has ls 5 [(1, .long (ft_gf (fun b acc2 => if T b = true then ft_min acc2 (ft_dist K i b) else acc2) (ft_near T K i) (b + 1))), (4, .int (nI b)), (3, .int (nI i)), (0, .ref (a 0))] := hl
                refine lv_iinc (k := 1) (v := nI (b + 1)) hx hb dX1_nearest_118 hl rfl (nI_succ b).symm (by decide) rfl (fun ls hl => ?_)
                have hl : lv_has ls 5 [(4, .int (nI (b + 1))), (1, .long (ft_gf (fun b acc2 => if T b = true then ft_min acc2 (ft_dist K i b) else acc2) (ft_near T K i) (b + 1))), (3, .int (nI i)), (0, .ref (a 0))] := hl
                refine lv_goto (tgt := 40) hx hb dX1_nearest_121 (by decide) ?_
                exact ih2 (b + 1) (by omega) ls hl
            · refine q_topi (y := 0) (ft_tb_f hT2) ?_
              refine lv_if_eq (tgt := 118) hx hb dX1_nearest_62 (by decide) (fun _ => ?_) (fun hc => absurd (rfl) hc)
              refine lv_iinc (k := 0) (v := nI (b + 1)) hx hb dX1_nearest_118 hl rfl (nI_succ b).symm (by decide) rfl (fun ls hl => ?_)
              have hl : lv_has ls 5 [(4, .int (nI (b + 1))), (1, .long (ft_gf (fun b acc2 => if T b = true then ft_min acc2 (ft_dist K i b) else acc2) (ft_near T K i) b)), (3, .int (nI i)), (0, .ref (a 0))] := hl
              refine lv_goto (tgt := 40) hx hb dX1_nearest_121 (by decide) ?_
              exact ih2 (b + 1) (by omega) ls (by rw [ft_gf_f (P := T) (g := fun b acc2 => ft_min acc2 (ft_dist K i b)) hT2]; exact lv_sub hl [0, 1, 2, 3] rfl)
        exact inner i 0 (by omega) ls (lv_sub hl [0, 2, 1, 3] rfl)
      · have e9 : ft_near T K (i + 1) = ft_near T K i := (if_neg hT)
        by_cases hi0 : i = 0
        · refine lv_iload hx hb dX1_nearest_40 (lv_at hl 0 rfl) ?_
          refine lv_iload_n hx hb dX1_nearest_42 rfl (lv_at hl 1 rfl) ?_
          refine lv_icmp_ge (tgt := 124) hx hb dX1_nearest_43 (by decide) (fun _ => ?_) (fun hc => absurd (nI_le (b := 0) (by omega) (by decide)) hc)
          refine lv_iinc (k := 1) (v := nI (i + 1)) hx hb dX1_nearest_124 hl rfl (nI_succ i).symm (by decide) rfl (fun ls hl => ?_)
          have hl : lv_has ls 5 [(3, .int (nI (i + 1))), (4, .int 0), (1, .long (ft_near T K i)), (0, .ref (a 0))] := hl
          refine lv_goto (tgt := 23) hx hb dX1_nearest_127 (by decide) ?_
          exact ih (i + 1) (by omega) H locs hP hS ls (by rw [e9]; exact lv_sub hl [0, 2, 3] rfl)
        · refine lv_iload hx hb dX1_nearest_40 (lv_at hl 0 rfl) ?_
          refine lv_iload_n hx hb dX1_nearest_42 rfl (lv_at hl 1 rfl) ?_
          refine lv_icmp_ge (tgt := 124) hx hb dX1_nearest_43 (by decide) (fun hc => absurd hc (nI_ge (a := 0) (by omega) (by omega))) (fun _ => ?_)
          refine lv_aload_n hx hb dX1_nearest_46 rfl (lv_at hl 3 rfl) ?_
          refine va_get (D := G) (ci := 1) (C := RX1) (T := TX1) (N := 5) hx hb hts hin hown hK hP 0 rfl rfl 0 (by decide) (hts _ (tb_cons _ w_fl_X1_9)) (fun _ h9 => h9) rfl dX1_nearest_47 ?_
          refine lv_iload_n hx hb dX1_nearest_50 rfl (lv_at hl 1 rfl) ?_
          refine q_zald hx hb hK hP 1 0 rfl rfl (i) rfl (by omega) (by decide) dX1_nearest_51 ?_
          refine q_topi (y := 0) (ft_tb_f hT) ?_
          refine lv_if_eq (tgt := 124) hx hb dX1_nearest_52 (by decide) (fun _ => ?_) (fun hc => absurd (rfl) hc)
          refine lv_iinc (k := 1) (v := nI (i + 1)) hx hb dX1_nearest_124 hl rfl (nI_succ i).symm (by decide) rfl (fun ls hl => ?_)
          have hl : lv_has ls 5 [(3, .int (nI (i + 1))), (4, .int 0), (1, .long (ft_near T K i)), (0, .ref (a 0))] := hl
          refine lv_goto (tgt := 23) hx hb dX1_nearest_127 (by decide) ?_
          exact ih (i + 1) (by omega) H locs hP hS ls (by rw [e9]; exact lv_sub hl [0, 2, 3] rfl)
  exact loop 200 0 (by omega) H locs hP hS ls hl
set_option maxHeartbeats 4000000 in
set_option maxRecDepth 100000 in
theorem cm_slide_none (l : Launch) (G : va_G) (a : Nat → Nat) (C : Nat → ClassId) {A : Nat → Prop} (hD : ∀ T K D w th, va_D A (wM a C T K D w th)) (T : Nat → Bool) (K D : Nat → Int64) (w : Nat → Int32) (th : Int32) {y : Int64} (h : ft_cnt T 200 = 0) : Met l yX1_slide wsX1_slide { frames := 1, cells := 0, slots := 0, locals := 30 } (va_Pc [.ref (a 0), .long y] (rM G a C T K D w th)) (wr_Q G vwCl (some (.long 0)) (wM a C T K D w 1) A) 0 0 A := by
  refine q_open (cc := cX1_slide) (maxL := 6) (ret := (some .long)) (by decide) rfl (Nat.le_of_ble_eq_true rfl) ?_
  intro p e s m below meth c ls S hr hlk hB hl
  obtain ⟨hx, hb, hml, hown, hts⟩ := id S
  obtain ⟨hP, hK⟩ := hB
  have hin : ∀ w ∈ u_ws RX1 TX1 5, w ∈ wsX1_slide := fun w h => tb_cons w (hinX1 w h)
  have hS : va_S A s.heap s.heap [] := va_S.rf
  have hl : lv_has ls 6 [(0, .ref (a 0)), (1, .long y)] := hl
  refine lv_aload_n hx hb dX1_slide_0 rfl (lv_at hl 0 rfl) ?_
  refine lv_aload_n hx hb dX1_slide_1 rfl (lv_at hl 0 rfl) ?_
  refine rd_call (W.runV (As := []) (rest := [.ref (a 0)]) S (cm_many l G a C T K D w th) (cwV 0 hts (gX1_32 tb_cons) rfl rfl rfl (by decide +kernel) ⟨Nat.le_of_ble_eq_true rfl, Nat.le_of_ble_eq_true rfl⟩) (pM_V hP hK) rfl rfl hl.1 rfl (lv_room (Nat.le_of_ble_eq_true rfl)) dX1_slide_2 ⟨Nat.zero_le _, Nat.zero_le _⟩) ?_
  refine q_topi (y := 0) (by rw [h]; rfl) ?_
  refine lv_if_ne (tgt := 12) hx hb dX1_slide_5 (by decide) (fun hc => absurd (rfl) hc) (fun _ => ?_)
  refine lv_iconst (v := 1) hx hb dX1_slide_8 (by decide) ?_
  refine lv_goto (tgt := 13) hx hb dX1_slide_9 (by decide) ?_
  refine va_put (D := G) (ci := 1) (v := .int 1) (ty := .int) (C := RX1) (T := TX1) (N := 5) hx hb hts hin tyX1 tyX1_ok nmX1 hown hK hP (hD _ _ _ _ _) hS 0 rfl rfl 4 (by decide) (hts _ (tb_cons _ w_fl_X1_24)) (fun _ h9 => h9) rfl (by decide +kernel) rfl rfl (Nat.le_of_ble_eq_true rfl) dX1_slide_13 (fun H locs hP _ hS => ?_)
  have hP : va_P G vwCl (wM a C T K D w 1) H := hP
  refine lv_aload_n hx hb dX1_slide_16 rfl (lv_at hl 0 rfl) ?_
  refine va_get (D := G) (ci := 1) (C := RX1) (T := TX1) (N := 5) hx hb hts hin hown hK hP 0 rfl rfl 4 (by decide) (hts _ (tb_cons _ w_fl_X1_24)) (fun _ h9 => h9) rfl dX1_slide_17 ?_
  refine lv_if_le (tgt := 25) hx hb dX1_slide_20 (by decide) (fun hc => absurd hc (by decide)) (fun _ => ?_)
  refine lv_lconst (v := 0) hx hb dX1_slide_23 (by decide) ?_
  exact W.lret hx hb hr (fun t ht _ => ⟨rfl, by rw [ht]; exact hP, hS.F ht⟩) hS.2.2 dX1_slide_24
set_option maxHeartbeats 4000000 in
set_option maxRecDepth 100000 in
theorem cm_slide_bad (l : Launch) (G : va_G) (a : Nat → Nat) (C : Nat → ClassId) {A : Nat → Prop} (hD : ∀ T K D w th, va_D A (wM a C T K D w th)) (T : Nat → Bool) (K D : Nat → Int64) (w : Nat → Int32) (th : Int32) {y : Int64} (h0 : 0 < ft_cnt T 200) (h1 : (ft_fb (ft_slP T K y) 200 0) < 200) : Met l yX1_slide wsX1_slide { frames := 1, cells := 0, slots := 0, locals := 30 } (va_Pc [.ref (a 0), .long y] (rM G a C T K D w th)) (wr_Q G vwCl (some (.long 0)) (wM a C T K D w 2) A) 0 0 A := by
  refine q_open (cc := cX1_slide) (maxL := 6) (ret := (some .long)) (by decide) rfl (Nat.le_of_ble_eq_true rfl) ?_
  intro p e s m below meth c ls S hr hlk hB hl
  obtain ⟨hx, hb, hml, hown, hts⟩ := id S
  obtain ⟨hP, hK⟩ := hB
  have hin : ∀ w ∈ u_ws RX1 TX1 5, w ∈ wsX1_slide := fun w h => tb_cons w (hinX1 w h)
  have hS : va_S A s.heap s.heap [] := va_S.rf
  have hl : lv_has ls 6 [(0, .ref (a 0)), (1, .long y)] := hl
  refine lv_aload_n hx hb dX1_slide_0 rfl (lv_at hl 0 rfl) ?_
  refine lv_aload_n hx hb dX1_slide_1 rfl (lv_at hl 0 rfl) ?_
  refine rd_call (W.runV (As := []) (rest := [.ref (a 0)]) S (cm_many l G a C T K D w th) (cwV 0 hts (gX1_32 tb_cons) rfl rfl rfl (by decide +kernel) ⟨Nat.le_of_ble_eq_true rfl, Nat.le_of_ble_eq_true rfl⟩) (pM_V hP hK) rfl rfl hl.1 rfl (lv_room (Nat.le_of_ble_eq_true rfl)) dX1_slide_2 ⟨Nat.zero_le _, Nat.zero_le _⟩) ?_
  have hc9 := ft_cnt_le T 200
  refine lv_if_ne (tgt := 12) hx hb dX1_slide_5 (by decide) (fun _ => ?_) (fun hc => absurd hc (nI_ne0 h0 (by omega)))
  refine lv_iconst (v := 0) hx hb dX1_slide_12 (by decide) ?_
  refine va_put (D := G) (ci := 1) (v := .int 0) (ty := .int) (C := RX1) (T := TX1) (N := 5) hx hb hts hin tyX1 tyX1_ok nmX1 hown hK hP (hD _ _ _ _ _) hS 0 rfl rfl 4 (by decide) (hts _ (tb_cons _ w_fl_X1_24)) (fun _ h9 => h9) rfl (by decide +kernel) rfl rfl (Nat.le_of_ble_eq_true rfl) dX1_slide_13 (fun H locs hP _ hS => ?_)
  have hP : va_P G vwCl (wM a C T K D w 0) H := hP
  refine lv_aload_n hx hb dX1_slide_16 rfl (lv_at hl 0 rfl) ?_
  refine va_get (D := G) (ci := 1) (C := RX1) (T := TX1) (N := 5) hx hb hts hin hown hK hP 0 rfl rfl 4 (by decide) (hts _ (tb_cons _ w_fl_X1_24)) (fun _ h9 => h9) rfl dX1_slide_17 ?_
  refine lv_if_le (tgt := 25) hx hb dX1_slide_20 (by decide) (fun _ => ?_) (fun hc => absurd (by decide) hc)
  refine lv_ldc2 (v := 9223372036854775807) hx hb hown (hts _ (tb_cons _ w_k_X1_42)) dX1_slide_25 ?_
  refine lv_lstore_n hx hb dX1_slide_28 rfl hl (by decide) rfl (fun ls hl => ?_)
  have hl : lv_has ls 6 [(3, .long 9223372036854775807), (0, .ref (a 0)), (1, .long y)] := hl
  refine lv_iconst (v := 0) hx hb dX1_slide_29 (by decide) ?_
  refine lv_istore hx hb dX1_slide_30 hl (by decide) rfl (fun ls hl => ?_)
  have hl : lv_has ls 6 [(5, .int 0), (3, .long 9223372036854775807), (0, .ref (a 0)), (1, .long y)] := hl
  have loop : ∀ (k : Nat) (i : Nat), i + k = 200 → ft_fb (ft_slP T K y) k i = (ft_fb (ft_slP T K y) 200 0) → ∀ (H : Heap) (locs : List Loc), va_P G vwCl (wM a C T K D w 0) H → va_S A s.heap H locs → ∀ ls : Array Slot, lv_has ls 6 [(5, .int (nI i)), (3, .long 9223372036854775807), (0, .ref (a 0)), (1, .long y)] → W p l e { frames := 1, cells := 0, slots := 0, locals := 30 } s m ([.ref (a 0), .long y] : List Value).toArray below meth c H locs 0 0 (MQ below (wr_Q G vwCl (some (.long 0)) (wM a C T K D w 2) A) ([.ref (a 0), .long y] : List Value).toArray s 0 0 A) (F0 m 32 ls []) := by
    intro k
    induction k with
    | zero =>
      intro i hi hf H locs hP hS ls hl
      have hf : i = (ft_fb (ft_slP T K y) 200 0) := hf
      omega
    | succ k ih =>
      intro i hi hf H locs hP hS ls hl
      refine lv_iload hx hb dX1_slide_32 (lv_at hl 0 rfl) ?_
      refine lv_sipush (v := 200) hx hb dX1_slide_34 (by decide) ?_
      refine lv_icmp_ge (tgt := 114) hx hb dX1_slide_37 (by decide) (fun hc => absurd hc (nI_ge (b := 200) (by omega) (by decide))) (fun _ => ?_)
      refine lv_aload_n hx hb dX1_slide_40 rfl (lv_at hl 2 rfl) ?_
      refine va_get (D := G) (ci := 1) (C := RX1) (T := TX1) (N := 5) hx hb hts hin hown hK hP 0 rfl rfl 0 (by decide) (hts _ (tb_cons _ w_fl_X1_9)) (fun _ h9 => h9) rfl dX1_slide_41 ?_
      refine lv_iload hx hb dX1_slide_44 (lv_at hl 0 rfl) ?_
      refine q_zald hx hb hK hP 1 0 rfl rfl (i) rfl (by omega) (by decide) dX1_slide_46 ?_
      have hf : (if ft_slP T K y i = true then ft_fb (ft_slP T K y) k (i + 1) else i) = (ft_fb (ft_slP T K y) 200 0) := hf
      by_cases hT : T i = true
      · refine q_topi (y := 1) (ft_tb_t hT) ?_
        refine lv_if_ne (tgt := 53) hx hb dX1_slide_47 (by decide) (fun _ => ?_) (fun hc => absurd hc (by decide))
        refine lv_lload_n hx hb dX1_slide_53 rfl (lv_at hl 3 rfl) ?_
        refine lv_ldc2 (v := 8796093022208) hx hb hown (hts _ (tb_cons _ w_k_X1_44)) dX1_slide_54 ?_
        refine W.lcmp hx hb dX1_slide_57 ?_
        refine lv_if_gt (tgt := 101) hx hb dX1_slide_58 (by decide) (fun c1 => ?_) (fun c1 => ?_)
        · refine lv_aload_n hx hb dX1_slide_101 rfl (lv_at hl 2 rfl) ?_
          refine lv_iconst (v := 2) hx hb dX1_slide_102 (by decide) ?_
          refine wr_call (W.runV (As := [.int 2]) (rest := []) S (cm_fail l G a C hD T K D w 0) (cwV 1 hts (gX1_52 tb_cons) rfl rfl rfl (by decide +kernel) ⟨Nat.le_of_ble_eq_true rfl, Nat.le_of_ble_eq_true rfl⟩) (pM_V hP hK) rfl rfl hl.1 rfl (lv_room (Nat.le_of_ble_eq_true rfl)) dX1_slide_103 ⟨Nat.zero_le _, Nat.zero_le _⟩) hS (fun _ h => h) (fun H locs hP hS _ _ => ?_)
          have hP : va_P G vwCl (wM a C T K D w 2) H := hP
          refine W.eq (g2 := F0 m 106 ls [.int 0]) rfl ?_
          refine lv_i2l hx hb dX1_slide_106 rfl ?_
          exact W.lret hx hb hr (fun t ht _ => ⟨rfl, by rw [ht]; exact hP, hS.F ht⟩) hS.2.2 dX1_slide_107
        · refine lv_lload_n hx hb dX1_slide_61 rfl (lv_at hl 3 rfl) ?_
          refine lv_ldc2 (v := (-8796093022208)) hx hb hown (hts _ (tb_cons _ w_k_X1_46)) dX1_slide_62 ?_
          refine W.lcmp hx hb dX1_slide_65 ?_
          refine lv_if_lt (tgt := 101) hx hb dX1_slide_66 (by decide) (fun c2 => ?_) (fun c2 => ?_)
          · refine lv_aload_n hx hb dX1_slide_101 rfl (lv_at hl 2 rfl) ?_
            refine lv_iconst (v := 2) hx hb dX1_slide_102 (by decide) ?_
            refine wr_call (W.runV (As := [.int 2]) (rest := []) S (cm_fail l G a C hD T K D w 0) (cwV 1 hts (gX1_52 tb_cons) rfl rfl rfl (by decide +kernel) ⟨Nat.le_of_ble_eq_true rfl, Nat.le_of_ble_eq_true rfl⟩) (pM_V hP hK) rfl rfl hl.1 rfl (lv_room (Nat.le_of_ble_eq_true rfl)) dX1_slide_103 ⟨Nat.zero_le _, Nat.zero_le _⟩) hS (fun _ h => h) (fun H locs hP hS _ _ => ?_)
            have hP : va_P G vwCl (wM a C T K D w 2) H := hP
            refine W.eq (g2 := F0 m 106 ls [.int 0]) rfl ?_
            refine lv_i2l hx hb dX1_slide_106 rfl ?_
            exact W.lret hx hb hr (fun t ht _ => ⟨rfl, by rw [ht]; exact hP, hS.F ht⟩) hS.2.2 dX1_slide_107
          · refine lv_aload_n hx hb dX1_slide_69 rfl (lv_at hl 2 rfl) ?_
            refine va_get (D := G) (ci := 1) (C := RX1) (T := TX1) (N := 5) hx hb hts hin hown hK hP 0 rfl rfl 1 (by decide) (hts _ (tb_cons _ w_fl_X1_13)) (fun _ h9 => h9) rfl dX1_slide_70 ?_
            refine lv_iload hx hb dX1_slide_73 (lv_at hl 0 rfl) ?_
            refine q_lald hx hb hK hP 2 1 rfl rfl (i) rfl (by omega) (by decide) dX1_slide_75 ?_
            refine lv_lload_n hx hb dX1_slide_76 rfl (lv_at hl 3 rfl) ?_
            refine lv_ladd hx hb dX1_slide_77 ?_
            refine lv_ldc2 (v := (-2199023255552)) hx hb hown (hts _ (tb_cons _ w_k_X1_48)) dX1_slide_78 ?_
            refine W.lcmp hx hb dX1_slide_81 ?_
            refine lv_if_lt (tgt := 101) hx hb dX1_slide_82 (by decide) (fun c3 => ?_) (fun c3 => ?_)
            · refine lv_aload_n hx hb dX1_slide_101 rfl (lv_at hl 2 rfl) ?_
              refine lv_iconst (v := 2) hx hb dX1_slide_102 (by decide) ?_
              refine wr_call (W.runV (As := [.int 2]) (rest := []) S (cm_fail l G a C hD T K D w 0) (cwV 1 hts (gX1_52 tb_cons) rfl rfl rfl (by decide +kernel) ⟨Nat.le_of_ble_eq_true rfl, Nat.le_of_ble_eq_true rfl⟩) (pM_V hP hK) rfl rfl hl.1 rfl (lv_room (Nat.le_of_ble_eq_true rfl)) dX1_slide_103 ⟨Nat.zero_le _, Nat.zero_le _⟩) hS (fun _ h => h) (fun H locs hP hS _ _ => ?_)
              have hP : va_P G vwCl (wM a C T K D w 2) H := hP
              refine W.eq (g2 := F0 m 106 ls [.int 0]) rfl ?_
              refine lv_i2l hx hb dX1_slide_106 rfl ?_
              exact W.lret hx hb hr (fun t ht _ => ⟨rfl, by rw [ht]; exact hP, hS.F ht⟩) hS.2.2 dX1_slide_107
            · refine lv_aload_n hx hb dX1_slide_85 rfl (lv_at hl 2 rfl) ?_
              refine va_get (D := G) (ci := 1) (C := RX1) (T := TX1) (N := 5) hx hb hts hin hown hK hP 0 rfl rfl 1 (by decide) (hts _ (tb_cons _ w_fl_X1_13)) (fun _ h9 => h9) rfl dX1_slide_86 ?_
              refine lv_iload hx hb dX1_slide_89 (lv_at hl 0 rfl) ?_
              refine q_lald hx hb hK hP 2 1 rfl rfl (i) rfl (by omega) (by decide) dX1_slide_91 ?_
              refine lv_lload_n hx hb dX1_slide_92 rfl (lv_at hl 3 rfl) ?_
              refine lv_ladd hx hb dX1_slide_93 ?_
              refine lv_ldc2 (v := 2199023255552) hx hb hown (hts _ (tb_cons _ w_k_X1_50)) dX1_slide_94 ?_
              refine W.lcmp hx hb dX1_slide_97 ?_
              refine lv_if_le (tgt := 108) hx hb dX1_slide_98 (by decide) (fun c4 => ?_) (fun c4 => ?_)
              · rw [if_pos (ft_slP_of (fun z => c1 ((lg_cmp_gt _ _).mpr z)) (fun z => c2 ((lg_cmp_lt _ _).mpr z)) (fun z => c3 ((lg_cmp_lt _ _).mpr z)) (Int64.not_lt.mpr ((lg_cmp_le _ _).mp c4)))] at hf
                refine lv_iinc (k := 0) (v := nI (i + 1)) hx hb dX1_slide_108 hl rfl (nI_succ i).symm (by decide) rfl (fun ls hl => ?_)
                have hl : lv_has ls 6 [(5, .int (nI (i + 1))), (3, .long 9223372036854775807), (0, .ref (a 0)), (1, .long y)] := hl
                refine lv_goto (tgt := 32) hx hb dX1_slide_111 (by decide) ?_
                exact ih (i + 1) (by omega) hf H locs hP hS ls hl
              · refine lv_aload_n hx hb dX1_slide_101 rfl (lv_at hl 2 rfl) ?_
                refine lv_iconst (v := 2) hx hb dX1_slide_102 (by decide) ?_
                refine wr_call (W.runV (As := [.int 2]) (rest := []) S (cm_fail l G a C hD T K D w 0) (cwV 1 hts (gX1_52 tb_cons) rfl rfl rfl (by decide +kernel) ⟨Nat.le_of_ble_eq_true rfl, Nat.le_of_ble_eq_true rfl⟩) (pM_V hP hK) rfl rfl hl.1 rfl (lv_room (Nat.le_of_ble_eq_true rfl)) dX1_slide_103 ⟨Nat.zero_le _, Nat.zero_le _⟩) hS (fun _ h => h) (fun H locs hP hS _ _ => ?_)
                have hP : va_P G vwCl (wM a C T K D w 2) H := hP
                refine W.eq (g2 := F0 m 106 ls [.int 0]) rfl ?_
                refine lv_i2l hx hb dX1_slide_106 rfl ?_
                exact W.lret hx hb hr (fun t ht _ => ⟨rfl, by rw [ht]; exact hP, hS.F ht⟩) hS.2.2 dX1_slide_107
      · refine q_topi (y := 0) (ft_tb_f hT) ?_
        refine lv_if_ne (tgt := 53) hx hb dX1_slide_47 (by decide) (fun hc => absurd (rfl) hc) (fun _ => ?_)
        refine lv_goto (tgt := 108) hx hb dX1_slide_50 (by decide) ?_
        rw [if_pos (ft_slP_no hT)] at hf
        refine lv_iinc (k := 0) (v := nI (i + 1)) hx hb dX1_slide_108 hl rfl (nI_succ i).symm (by decide) rfl (fun ls hl => ?_)
        have hl : lv_has ls 6 [(5, .int (nI (i + 1))), (3, .long 9223372036854775807), (0, .ref (a 0)), (1, .long y)] := hl
        refine lv_goto (tgt := 32) hx hb dX1_slide_111 (by decide) ?_
        exact ih (i + 1) (by omega) hf H locs hP hS ls hl
  exact loop 200 0 (by omega) rfl H locs hP hS ls hl
set_option maxHeartbeats 4000000 in
set_option maxRecDepth 100000 in
theorem cm_slide (l : Launch) (G : va_G) (a : Nat → Nat) (C : Nat → ClassId) {A : Nat → Prop} (hD : ∀ T K D w th, va_D A (wM a C T K D w th)) (T : Nat → Bool) (K D : Nat → Int64) (w : Nat → Int32) (th : Int32) {y : Int64} (h0 : 0 < ft_cnt T 200) (h1 : (ft_fb (ft_slP T K y) 200 0) = 200) : Met l yX1_slide wsX1_slide { frames := 1, cells := 0, slots := 0, locals := 30 } (va_Pc [.ref (a 0), .long y] (rM G a C T K D w th)) (wr_Q G vwCl (some (.long (ft_gf (fun k acc => if T k = true then ft_min acc (K k + y) else acc) 9223372036854775807 200))) (wM a C T (ft_ks T K y 200) D w 0) A) 0 0 A := by
  refine q_open (cc := cX1_slide) (maxL := 6) (ret := (some .long)) (by decide) rfl (Nat.le_of_ble_eq_true rfl) ?_
  intro p e s m below meth c ls S hr hlk hB hl
  obtain ⟨hx, hb, hml, hown, hts⟩ := id S
  obtain ⟨hP, hK⟩ := hB
  have hin : ∀ w ∈ u_ws RX1 TX1 5, w ∈ wsX1_slide := fun w h => tb_cons w (hinX1 w h)
  have hS : va_S A s.heap s.heap [] := va_S.rf
  have hl : lv_has ls 6 [(0, .ref (a 0)), (1, .long y)] := hl
  refine lv_aload_n hx hb dX1_slide_0 rfl (lv_at hl 0 rfl) ?_
  refine lv_aload_n hx hb dX1_slide_1 rfl (lv_at hl 0 rfl) ?_
  refine rd_call (W.runV (As := []) (rest := [.ref (a 0)]) S (cm_many l G a C T K D w th) (cwV 0 hts (gX1_32 tb_cons) rfl rfl rfl (by decide +kernel) ⟨Nat.le_of_ble_eq_true rfl, Nat.le_of_ble_eq_true rfl⟩) (pM_V hP hK) rfl rfl hl.1 rfl (lv_room (Nat.le_of_ble_eq_true rfl)) dX1_slide_2 ⟨Nat.zero_le _, Nat.zero_le _⟩) ?_
  have hc9 := ft_cnt_le T 200
  refine lv_if_ne (tgt := 12) hx hb dX1_slide_5 (by decide) (fun _ => ?_) (fun hc => absurd hc (nI_ne0 h0 (by omega)))
  refine lv_iconst (v := 0) hx hb dX1_slide_12 (by decide) ?_
  refine va_put (D := G) (ci := 1) (v := .int 0) (ty := .int) (C := RX1) (T := TX1) (N := 5) hx hb hts hin tyX1 tyX1_ok nmX1 hown hK hP (hD _ _ _ _ _) hS 0 rfl rfl 4 (by decide) (hts _ (tb_cons _ w_fl_X1_24)) (fun _ h9 => h9) rfl (by decide +kernel) rfl rfl (Nat.le_of_ble_eq_true rfl) dX1_slide_13 (fun H locs hP _ hS => ?_)
  have hP : va_P G vwCl (wM a C T K D w 0) H := hP
  refine lv_aload_n hx hb dX1_slide_16 rfl (lv_at hl 0 rfl) ?_
  refine va_get (D := G) (ci := 1) (C := RX1) (T := TX1) (N := 5) hx hb hts hin hown hK hP 0 rfl rfl 4 (by decide) (hts _ (tb_cons _ w_fl_X1_24)) (fun _ h9 => h9) rfl dX1_slide_17 ?_
  refine lv_if_le (tgt := 25) hx hb dX1_slide_20 (by decide) (fun _ => ?_) (fun hc => absurd (by decide) hc)
  refine lv_ldc2 (v := 9223372036854775807) hx hb hown (hts _ (tb_cons _ w_k_X1_42)) dX1_slide_25 ?_
  refine lv_lstore_n hx hb dX1_slide_28 rfl hl (by decide) rfl (fun ls hl => ?_)
  have hl : lv_has ls 6 [(3, .long 9223372036854775807), (0, .ref (a 0)), (1, .long y)] := hl
  refine lv_iconst (v := 0) hx hb dX1_slide_29 (by decide) ?_
  refine lv_istore hx hb dX1_slide_30 hl (by decide) rfl (fun ls hl => ?_)
  have hl : lv_has ls 6 [(5, .int 0), (3, .long 9223372036854775807), (0, .ref (a 0)), (1, .long y)] := hl
  have loop2 : ∀ (k : Nat) (i : Nat), i + k = 200 → ∀ (H : Heap) (locs : List Loc), va_P G vwCl (wM a C T (ft_ks T K y i) D w 0) H → va_S A s.heap H locs → ∀ ls : Array Slot, lv_has ls 6 [(5, .int (nI i)), (3, .long (ft_gf (fun k acc => if T k = true then ft_min acc (K k + y) else acc) 9223372036854775807 i)), (0, .ref (a 0)), (1, .long y)] → W p l e { frames := 1, cells := 0, slots := 0, locals := 30 } s m ([.ref (a 0), .long y] : List Value).toArray below meth c H locs 0 0 (MQ below (wr_Q G vwCl (some (.long (ft_gf (fun k acc => if T k = true then ft_min acc (K k + y) else acc) 9223372036854775807 200))) (wM a C T (ft_ks T K y 200) D w 0) A) ([.ref (a 0), .long y] : List Value).toArray s 0 0 A) (F0 m 117 ls []) := by
    intro k
    induction k with
    | zero =>
      intro i hi H locs hP hS ls hl
      refine lv_iload hx hb dX1_slide_117 (lv_at hl 0 rfl) ?_
      refine lv_sipush (v := 200) hx hb dX1_slide_119 (by decide) ?_
      refine lv_icmp_ge (tgt := 167) hx hb dX1_slide_122 (by decide) (fun _ => ?_) (fun hc => absurd (nI_le (a := 200) (by omega) (by omega)) hc)
      refine lv_lload_n hx hb dX1_slide_167 rfl (lv_at hl 1 rfl) ?_
      have hi : i = 200 := hi
      rw [hi] at hP
      exact W.lret hx hb hr (fun t ht _ => ⟨by rw [hi], by rw [ht]; exact hP, hS.F ht⟩) hS.2.2 dX1_slide_168
    | succ k ih =>
      intro i hi H locs hP hS ls hl
      refine lv_iload hx hb dX1_slide_117 (lv_at hl 0 rfl) ?_
      refine lv_sipush (v := 200) hx hb dX1_slide_119 (by decide) ?_
      refine lv_icmp_ge (tgt := 167) hx hb dX1_slide_122 (by decide) (fun hc => absurd hc (nI_ge (b := 200) (by omega) (by decide))) (fun _ => ?_)
      refine lv_aload_n hx hb dX1_slide_125 rfl (lv_at hl 2 rfl) ?_
      refine va_get (D := G) (ci := 1) (C := RX1) (T := TX1) (N := 5) hx hb hts hin hown hK hP 0 rfl rfl 0 (by decide) (hts _ (tb_cons _ w_fl_X1_9)) (fun _ h9 => h9) rfl dX1_slide_126 ?_
      refine lv_iload hx hb dX1_slide_129 (lv_at hl 0 rfl) ?_
      refine q_zald hx hb hK hP 1 0 rfl rfl (i) rfl (by omega) (by decide) dX1_slide_131 ?_
      by_cases hT : T i = true
      · refine q_topi (y := 1) (ft_tb_t hT) ?_
        refine lv_if_ne (tgt := 138) hx hb dX1_slide_132 (by decide) (fun _ => ?_) (fun hc => absurd hc (by decide))
        refine lv_aload_n hx hb dX1_slide_138 rfl (lv_at hl 2 rfl) ?_
        refine va_get (D := G) (ci := 1) (C := RX1) (T := TX1) (N := 5) hx hb hts hin hown hK hP 0 rfl rfl 1 (by decide) (hts _ (tb_cons _ w_fl_X1_13)) (fun _ h9 => h9) rfl dX1_slide_139 ?_
        refine lv_iload hx hb dX1_slide_142 (lv_at hl 0 rfl) ?_
        refine lv_dup2_11 hx hb dX1_slide_144 rfl rfl ?_
        refine q_lald hx hb hK hP 2 1 rfl rfl (i) rfl (by omega) (by decide) dX1_slide_145 ?_
        refine q_topl (y := K i) ft_ks_at ?_
        refine lv_lload_n hx hb dX1_slide_146 rfl (lv_at hl 3 rfl) ?_
        refine lv_ladd hx hb dX1_slide_147 ?_
        refine q_last hx hb hK hP (hD _ _ _ _ _) hS 2 1 rfl rfl (i) rfl (by omega) (by decide) dX1_slide_148 (fun H locs hP hS => ?_)
        have hP : va_P G vwCl (wM a C T (vp_updL (ft_ks T K y i) i (K i + y)) D w 0) H := hP
        rw [ft_ks_t hT] at hP
        refine lv_lload_n hx hb dX1_slide_149 rfl (lv_at hl 1 rfl) ?_
        refine lv_aload_n hx hb dX1_slide_150 rfl (lv_at hl 2 rfl) ?_
        refine va_get (D := G) (ci := 1) (C := RX1) (T := TX1) (N := 5) hx hb hts hin hown hK hP 0 rfl rfl 1 (by decide) (hts _ (tb_cons _ w_fl_X1_13)) (fun _ h9 => h9) rfl dX1_slide_151 ?_
        refine lv_iload hx hb dX1_slide_154 (lv_at hl 0 rfl) ?_
        refine q_lald hx hb hK hP 2 1 rfl rfl (i) rfl (by omega) (by decide) dX1_slide_156 ?_
        refine q_topl (y := K i + y) (ft_ks_at1 hT) ?_
        refine va_mmin_long hx hb (hml.trans hl.1.symm) hown (hts _ (tb_cons _ w_ml_X1_56)) (hts _ (tb_cons _ w_st_min)) (hts _ (tb_cons _ w_in_Math)) (hts _ (tb_cons _ w_co_min)) (Nat.le_of_ble_eq_true rfl) (Nat.le_of_ble_eq_true rfl) (Nat.zero_le _) (Nat.zero_le _) dX1_slide_157 ?_
        refine q_topl (y := (ft_gf (fun k acc => if T k = true then ft_min acc (K k + y) else acc) 9223372036854775807 (i + 1))) (ft_gf_t (P := T) (g := fun k acc => ft_min acc (K k + y)) hT) ?_
        refine lv_lstore_n hx hb dX1_slide_160 rfl hl (by decide) rfl (fun ls hl => ?_)
        have hl : lv_has ls 6 [(3, .long (ft_gf (fun k acc => if T k = true then ft_min acc (K k + y) else acc) 9223372036854775807 (i + 1))), (5, .int (nI i)), (0, .ref (a 0)), (1, .long y)] := hl
        refine lv_iinc (k := 1) (v := nI (i + 1)) hx hb dX1_slide_161 hl rfl (nI_succ i).symm (by decide) rfl (fun ls hl => ?_)
        have hl : lv_has ls 6 [(5, .int (nI (i + 1))), (3, .long (ft_gf (fun k acc => if T k = true then ft_min acc (K k + y) else acc) 9223372036854775807 (i + 1))), (0, .ref (a 0)), (1, .long y)] := hl
        refine lv_goto (tgt := 117) hx hb dX1_slide_164 (by decide) ?_
        exact ih (i + 1) (by omega) H locs hP hS ls hl
      · refine q_topi (y := 0) (ft_tb_f hT) ?_
        refine lv_if_ne (tgt := 138) hx hb dX1_slide_132 (by decide) (fun hc => absurd (rfl) hc) (fun _ => ?_)
        refine lv_goto (tgt := 161) hx hb dX1_slide_135 (by decide) ?_
        refine lv_iinc (k := 0) (v := nI (i + 1)) hx hb dX1_slide_161 hl rfl (nI_succ i).symm (by decide) rfl (fun ls hl => ?_)
        have hl : lv_has ls 6 [(5, .int (nI (i + 1))), (3, .long (ft_gf (fun k acc => if T k = true then ft_min acc (K k + y) else acc) 9223372036854775807 i)), (0, .ref (a 0)), (1, .long y)] := hl
        refine lv_goto (tgt := 117) hx hb dX1_slide_164 (by decide) ?_
        exact ih (i + 1) (by omega) H locs (by rw [ft_ks_f hT]; exact hP) hS ls (by rw [ft_gf_f (P := T) (g := fun k acc => ft_min acc (K k + y)) hT]; exact hl)
  have loop : ∀ (k : Nat) (i : Nat), i + k = 200 → ft_fb (ft_slP T K y) k i = (ft_fb (ft_slP T K y) 200 0) → ∀ (H : Heap) (locs : List Loc), va_P G vwCl (wM a C T K D w 0) H → va_S A s.heap H locs → ∀ ls : Array Slot, lv_has ls 6 [(5, .int (nI i)), (3, .long 9223372036854775807), (0, .ref (a 0)), (1, .long y)] → W p l e { frames := 1, cells := 0, slots := 0, locals := 30 } s m ([.ref (a 0), .long y] : List Value).toArray below meth c H locs 0 0 (MQ below (wr_Q G vwCl (some (.long (ft_gf (fun k acc => if T k = true then ft_min acc (K k + y) else acc) 9223372036854775807 200))) (wM a C T (ft_ks T K y 200) D w 0) A) ([.ref (a 0), .long y] : List Value).toArray s 0 0 A) (F0 m 32 ls []) := by
    intro k
    induction k with
    | zero =>
      intro i hi hf H locs hP hS ls hl
      refine lv_iload hx hb dX1_slide_32 (lv_at hl 0 rfl) ?_
      refine lv_sipush (v := 200) hx hb dX1_slide_34 (by decide) ?_
      refine lv_icmp_ge (tgt := 114) hx hb dX1_slide_37 (by decide) (fun _ => ?_) (fun hc => absurd (nI_le (a := 200) (by omega) (by omega)) hc)
      refine lv_iconst (v := 0) hx hb dX1_slide_114 (by decide) ?_
      refine lv_istore hx hb dX1_slide_115 hl (by decide) rfl (fun ls hl => ?_)
      have hl : lv_has ls 6 [(5, .int 0), (3, .long 9223372036854775807), (0, .ref (a 0)), (1, .long y)] := hl
      exact loop2 200 0 (by omega) H locs (by rw [ft_ks_0]; exact hP) hS ls hl
    | succ k ih =>
      intro i hi hf H locs hP hS ls hl
      refine lv_iload hx hb dX1_slide_32 (lv_at hl 0 rfl) ?_
      refine lv_sipush (v := 200) hx hb dX1_slide_34 (by decide) ?_
      refine lv_icmp_ge (tgt := 114) hx hb dX1_slide_37 (by decide) (fun hc => absurd hc (nI_ge (b := 200) (by omega) (by decide))) (fun _ => ?_)
      refine lv_aload_n hx hb dX1_slide_40 rfl (lv_at hl 2 rfl) ?_
      refine va_get (D := G) (ci := 1) (C := RX1) (T := TX1) (N := 5) hx hb hts hin hown hK hP 0 rfl rfl 0 (by decide) (hts _ (tb_cons _ w_fl_X1_9)) (fun _ h9 => h9) rfl dX1_slide_41 ?_
      refine lv_iload hx hb dX1_slide_44 (lv_at hl 0 rfl) ?_
      refine q_zald hx hb hK hP 1 0 rfl rfl (i) rfl (by omega) (by decide) dX1_slide_46 ?_
      have hf : (if ft_slP T K y i = true then ft_fb (ft_slP T K y) k (i + 1) else i) = (ft_fb (ft_slP T K y) 200 0) := hf
      have hp : ft_slP T K y i = true := by
        by_cases z : ft_slP T K y i = true
        · exact z
        · rw [if_neg z] at hf
          omega
      rw [if_pos hp] at hf
      by_cases hT : T i = true
      · refine q_topi (y := 1) (ft_tb_t hT) ?_
        obtain ⟨c1, c2, c3, c4⟩ := ft_slP_t hp hT
        refine lv_if_ne (tgt := 53) hx hb dX1_slide_47 (by decide) (fun _ => ?_) (fun hc => absurd hc (by decide))
        refine lv_lload_n hx hb dX1_slide_53 rfl (lv_at hl 3 rfl) ?_
        refine lv_ldc2 (v := 8796093022208) hx hb hown (hts _ (tb_cons _ w_k_X1_44)) dX1_slide_54 ?_
        refine W.lcmp hx hb dX1_slide_57 ?_
        refine lv_if_gt (tgt := 101) hx hb dX1_slide_58 (by decide) (fun hc => absurd hc (fun z => c1 ((lg_cmp_gt _ _).mp z))) (fun _ => ?_)
        refine lv_lload_n hx hb dX1_slide_61 rfl (lv_at hl 3 rfl) ?_
        refine lv_ldc2 (v := (-8796093022208)) hx hb hown (hts _ (tb_cons _ w_k_X1_46)) dX1_slide_62 ?_
        refine W.lcmp hx hb dX1_slide_65 ?_
        refine lv_if_lt (tgt := 101) hx hb dX1_slide_66 (by decide) (fun hc => absurd hc (fun z => c2 ((lg_cmp_lt _ _).mp z))) (fun _ => ?_)
        refine lv_aload_n hx hb dX1_slide_69 rfl (lv_at hl 2 rfl) ?_
        refine va_get (D := G) (ci := 1) (C := RX1) (T := TX1) (N := 5) hx hb hts hin hown hK hP 0 rfl rfl 1 (by decide) (hts _ (tb_cons _ w_fl_X1_13)) (fun _ h9 => h9) rfl dX1_slide_70 ?_
        refine lv_iload hx hb dX1_slide_73 (lv_at hl 0 rfl) ?_
        refine q_lald hx hb hK hP 2 1 rfl rfl (i) rfl (by omega) (by decide) dX1_slide_75 ?_
        refine lv_lload_n hx hb dX1_slide_76 rfl (lv_at hl 3 rfl) ?_
        refine lv_ladd hx hb dX1_slide_77 ?_
        refine lv_ldc2 (v := (-2199023255552)) hx hb hown (hts _ (tb_cons _ w_k_X1_48)) dX1_slide_78 ?_
        refine W.lcmp hx hb dX1_slide_81 ?_
        refine lv_if_lt (tgt := 101) hx hb dX1_slide_82 (by decide) (fun hc => absurd hc (fun z => c3 ((lg_cmp_lt _ _).mp z))) (fun _ => ?_)
        refine lv_aload_n hx hb dX1_slide_85 rfl (lv_at hl 2 rfl) ?_
        refine va_get (D := G) (ci := 1) (C := RX1) (T := TX1) (N := 5) hx hb hts hin hown hK hP 0 rfl rfl 1 (by decide) (hts _ (tb_cons _ w_fl_X1_13)) (fun _ h9 => h9) rfl dX1_slide_86 ?_
        refine lv_iload hx hb dX1_slide_89 (lv_at hl 0 rfl) ?_
        refine q_lald hx hb hK hP 2 1 rfl rfl (i) rfl (by omega) (by decide) dX1_slide_91 ?_
        refine lv_lload_n hx hb dX1_slide_92 rfl (lv_at hl 3 rfl) ?_
        refine lv_ladd hx hb dX1_slide_93 ?_
        refine lv_ldc2 (v := 2199023255552) hx hb hown (hts _ (tb_cons _ w_k_X1_50)) dX1_slide_94 ?_
        refine W.lcmp hx hb dX1_slide_97 ?_
        refine lv_if_le (tgt := 108) hx hb dX1_slide_98 (by decide) (fun _ => ?_) (fun hc => absurd ((lg_cmp_le _ _).mpr (Int64.not_lt.mp c4)) hc)
        refine lv_iinc (k := 0) (v := nI (i + 1)) hx hb dX1_slide_108 hl rfl (nI_succ i).symm (by decide) rfl (fun ls hl => ?_)
        have hl : lv_has ls 6 [(5, .int (nI (i + 1))), (3, .long 9223372036854775807), (0, .ref (a 0)), (1, .long y)] := hl
        refine lv_goto (tgt := 32) hx hb dX1_slide_111 (by decide) ?_
        exact ih (i + 1) (by omega) hf H locs hP hS ls hl
      · refine q_topi (y := 0) (ft_tb_f hT) ?_
        refine lv_if_ne (tgt := 53) hx hb dX1_slide_47 (by decide) (fun hc => absurd (rfl) hc) (fun _ => ?_)
        refine lv_goto (tgt := 108) hx hb dX1_slide_50 (by decide) ?_
        refine lv_iinc (k := 0) (v := nI (i + 1)) hx hb dX1_slide_108 hl rfl (nI_succ i).symm (by decide) rfl (fun ls hl => ?_)
        have hl : lv_has ls 6 [(5, .int (nI (i + 1))), (3, .long 9223372036854775807), (0, .ref (a 0)), (1, .long y)] := hl
        refine lv_goto (tgt := 32) hx hb dX1_slide_111 (by decide) ?_
        exact ih (i + 1) (by omega) hf H locs hP hS ls hl
  exact loop 200 0 (by omega) rfl H locs hP hS ls hl
end
section
/-! the constructors -/
theorem w_im_obj : (Cond.instanceMethod objectInit) ∈ TB := tbm 16 (by decide +kernel) (by decide +kernel)
theorem w_co_obj : (Cond.code objectInit ⟨#[0xb1]⟩ 1 none) ∈ TB := tbm 17 (by decide +kernel) (by decide +kernel)
theorem va_D_one {A : Nat → Prop} {a : Nat} {e : va_E} (h : A a) : va_D A [(a, e)] := by
  refine ⟨fun i j p q hp hq _ => ?_, fun k q hq => ?_⟩
  · have h1 := (List.getElem?_eq_some_iff.mp hp).1
    have h2 := (List.getElem?_eq_some_iff.mp hq).1
    simp only [List.length_cons, List.length_nil] at h1 h2
    omega
  · have h1 := (List.getElem?_eq_some_iff.mp hq).1
    simp only [List.length_cons, List.length_nil] at h1
    have h2 : k = 0 := by omega
    subst h2
    cases hq
    exact h
theorem q_openI {l : Launch} {y : MethodName} {ws ws' : List Cond} {rm : Room} {cc : ByteArray} {maxL : Nat} {ret : Option FieldType} {av : List Value} {B : State → Prop} {Qc : Array Value → State → Outcome → State → Prop} {mc ms : Nat} {free : Addr → Prop}
    (hy : plainName y.cls = true) (hw : ws = Cond.code y cc maxL ret :: ws') (hlen : (lg_sl av).length ≤ maxL)
    (body : ∀ (p : Program) (e : Env) (s : State) (m : MethodId) (below : List Frame) (meth : Method) (c : Code) (ls : Array Slot), CallFix p m c cc maxL s av.toArray ws y.cls → meth.sig.returnType = ret → meth.locks = false → meth.name = y.name → B s → lv_has ls maxL (lv_args 0 av) →
      W p l e rm s m av.toArray below meth c s.heap [] 0 0 (MQ below Qc av.toArray s mc ms free) (F0 m 0 ls [])) : Met l y ws rm (va_Pc av B) Qc mc ms free := by
  refine Met.ofW (cc := cc) (maxL := maxL) (ret := ret) hy hw ?_
  intro p e s m args below meth c s₁ Bd hml hv
  obtain ⟨rfl, hB⟩ := hv
  rw [lg_entry_eq]
  exact body p e s m below meth c _ ⟨Bd.exec, Bd.bytes, hml, findClass_of_methodNamed Bd.named, atoms_spec (ws := ws) Bd.pre⟩ Bd.returns Bd.notSynchronized (name_of_methodNamed Bd.named Bd.method).1 hB (lv_entry av hlen)
abbrev ad5 (h q1 q2 q3 q4 : Nat) : Nat → Nat := fun i => match i with
  | 0 => h
  | 1 => q1
  | 2 => q2
  | 3 => q3
  | _ => q4
/-- behind a constructor: five cells, apart, all but the first new; nothing else changed -/
def in_Q (G : va_G) (h sz0 : Nat) (wf : (Nat → Nat) → (Nat → ClassId) → va_W) (tf : (Nat → ClassId) → List (ClassId × FieldType)) : Array Value → State → Outcome → State → Prop := fun _ st oc t =>
  oc = .returned none ∧ (∃ (a : Nat → Nat) (C : Nat → ClassId), a 0 = h ∧ va_P G vwCl (wf a C) t.heap ∧ va_K G vwCl (tf C) t ∧ (∀ i j, i < 5 → j < 5 → a i = a j → i = j) ∧ (∀ i, 0 < i → i < 5 → sz0 ≤ a i)) ∧ va_F (fun q => q = h ∨ sz0 ≤ q) st t
theorem ad5_apart {A : Nat → Prop} {h q1 q2 q3 q4 : Nat} {e0 e1 e2 e3 e4 : va_E} (hD : va_D A [(h, e0), (q1, e1), (q2, e2), (q3, e3), (q4, e4)]) : ∀ i j, i < 5 → j < 5 → ad5 h q1 q2 q3 q4 i = ad5 h q1 q2 q3 q4 j → i = j := by
  have key : ∀ i, i < 5 → ∃ e, [(h, e0), (q1, e1), (q2, e2), (q3, e3), (q4, e4)][i]? = some (ad5 h q1 q2 q3 q4 i, e) := by
    intro i hi
    match i, hi with
    | 0, _ => exact ⟨e0, rfl⟩
    | 1, _ => exact ⟨e1, rfl⟩
    | 2, _ => exact ⟨e2, rfl⟩
    | 3, _ => exact ⟨e3, rfl⟩
    | 4, _ => exact ⟨e4, rfl⟩
  intro i j hi hj e
  obtain ⟨x, hx⟩ := key i hi
  obtain ⟨y, hy⟩ := key j hj
  exact hD.1 i j _ _ hx hy e
theorem ad5_new {h sz0 q1 q2 q3 q4 : Nat} {e0 e1 e2 e3 e4 : va_E} (hD : va_D (fun q => q = h ∨ sz0 ≤ q) [(h, e0), (q1, e1), (q2, e2), (q3, e3), (q4, e4)]) : ∀ i, 0 < i → i < 5 → sz0 ≤ ad5 h q1 q2 q3 q4 i := by
  have ap := ad5_apart hD
  intro i h0 hi
  have hm : ad5 h q1 q2 q3 q4 i = h ∨ sz0 ≤ ad5 h q1 q2 q3 q4 i := by
    match i, hi with
    | 1, _ => exact hD.2 1 _ rfl
    | 2, _ => exact hD.2 2 _ rfl
    | 3, _ => exact hD.2 3 _ rfl
    | 4, _ => exact hD.2 4 _ rfl
  rcases hm with e | e
  · have := ap i 0 hi (by omega) e
    omega
  · exact e
set_option maxHeartbeats 4000000 in
set_option maxRecDepth 100000 in
theorem cx_init (l : Launch) (G : va_G) (h sz0 : Nat) : Met l yX0_init wsX0_init { frames := 1, cells := 4, slots := 800, locals := 40 } (va_Pc [.ref h] (fun U => U.heap.size = sz0 ∧ va_P G vwCl [(h, .inr (0, [.null, .null, .null, .null, .int 0]))] U.heap ∧ va_K G vwCl [] U)) (in_Q G h sz0 (fun a C => wX a C (fun _ => 0) (fun _ => 0) (fun _ => 0) (fun _ => 0) (nI 0)) tX) 4 800 (fun q => q = h ∨ sz0 ≤ q) := by
  refine q_openI (cc := cX0_init) (maxL := 1) (ret := none) (by decide) rfl (Nat.le_of_ble_eq_true rfl) ?_
  intro p e s m below meth c ls S hr hlk hnm hB hl
  obtain ⟨hx, hb, hml, hown, hts⟩ := id S
  obtain ⟨hsz, hP, hK⟩ := hB
  subst hsz
  have hin : ∀ w ∈ u_ws RX0 TX0 5, w ∈ wsX0_init := fun w h => tb_cons w (hinX0 w h)
  have hS : va_S (fun q => q = h ∨ s.heap.size ≤ q) s.heap s.heap [] := va_S.rf
  have hA : ∀ q, s.heap.size ≤ q → (fun q => q = h ∨ s.heap.size ≤ q) q := fun q z => Or.inr z
  have hD : va_D (fun q => q = h ∨ s.heap.size ≤ q) [(h, .inr (0, [.null, .null, .null, .null, .int 0]))] := va_D_one (Or.inl rfl)
  have hl : lv_has ls 1 [(0, .ref h)] := hl
  refine lv_aload_n hx hb dX0_init_0 rfl (lv_at hl 0 rfl) ?_
  refine W.objInit hx hb hown (hts _ (tb_cons _ w_ml_X0_1)) (hts _ (tb_cons _ w_im_obj)) (hts _ (tb_cons _ w_co_obj)) rfl (by rw [hml]; exact hl.1) rfl dX0_init_1 (Nat.le_of_ble_eq_true rfl) (Nat.le_of_ble_eq_true rfl) ?_
  refine W.eq (g2 := F0 m 4 ls []) rfl ?_
  refine lv_aload_n hx hb dX0_init_4 rfl (lv_at hl 0 rfl) ?_
  refine lv_sipush (v := 200) hx hb dX0_init_5 (by decide) ?_
  refine va_newa (atype := .long) (ty := .long) (N' := 200) (a0 := (200, .inr (.inl (fun _ => 0)))) hx hb (hts _ (tb_cons _ w_ac_long)) rfl hK hP hD hS hA (fun _ => rfl) (by decide) (by decide) (by decide) (Nat.le_of_ble_eq_true rfl) (Nat.le_of_ble_eq_true rfl) dX0_init_8 (fun q1 C1 H hK hP hD hS => ?_)
  have hP : va_P G vwCl [(h, .inr (0, [.null, .null, .null, .null, .int 0])), (q1, .inl (C1, 200, .inr (.inl (fun _ => 0))))] H := hP
  have hD : va_D (fun q => q = h ∨ s.heap.size ≤ q) [(h, .inr (0, [.null, .null, .null, .null, .int 0])), (q1, .inl (C1, 200, .inr (.inl (fun _ => 0))))] := hD
  have hK : va_K G vwCl [(C1, .long)] s := hK
  refine va_putF (D := G) (ci := 0) (v := .ref q1) (ty := .array .long) (C := RX0) (T := TX0) (N := 5) hx hb hts hin tyX0 tyX0_ok nmX0 hown hK hP hD hS 0 rfl rfl 0 (by decide) (hts _ (tb_cons _ w_fl_X0_9)) (fun _ h9 => h9) rfl hnm rfl (by decide +kernel) rfl rfl (Nat.le_of_ble_eq_true rfl) dX0_init_10 (fun H locs hP hD hS => ?_)
  have hP : va_P G vwCl [(h, .inr (0, [.ref q1, .null, .null, .null, .int 0])), (q1, .inl (C1, 200, .inr (.inl (fun _ => 0))))] H := hP
  have hD : va_D (fun q => q = h ∨ s.heap.size ≤ q) [(h, .inr (0, [.ref q1, .null, .null, .null, .int 0])), (q1, .inl (C1, 200, .inr (.inl (fun _ => 0))))] := hD
  refine lv_aload_n hx hb dX0_init_13 rfl (lv_at hl 0 rfl) ?_
  refine lv_sipush (v := 200) hx hb dX0_init_14 (by decide) ?_
  refine va_newa (atype := .long) (ty := .long) (N' := 200) (a0 := (200, .inr (.inl (fun _ => 0)))) hx hb (hts _ (tb_cons _ w_ac_long)) rfl hK hP hD hS hA (fun _ => rfl) (by decide) (by decide) (by decide) (Nat.le_of_ble_eq_true rfl) (Nat.le_of_ble_eq_true rfl) dX0_init_17 (fun q2 C2 H hK hP hD hS => ?_)
  have hP : va_P G vwCl [(h, .inr (0, [.ref q1, .null, .null, .null, .int 0])), (q1, .inl (C1, 200, .inr (.inl (fun _ => 0)))), (q2, .inl (C2, 200, .inr (.inl (fun _ => 0))))] H := hP
  have hD : va_D (fun q => q = h ∨ s.heap.size ≤ q) [(h, .inr (0, [.ref q1, .null, .null, .null, .int 0])), (q1, .inl (C1, 200, .inr (.inl (fun _ => 0)))), (q2, .inl (C2, 200, .inr (.inl (fun _ => 0))))] := hD
  have hK : va_K G vwCl [(C1, .long), (C2, .long)] s := hK
  refine va_putF (D := G) (ci := 0) (v := .ref q2) (ty := .array .long) (C := RX0) (T := TX0) (N := 5) hx hb hts hin tyX0 tyX0_ok nmX0 hown hK hP hD hS 0 rfl rfl 1 (by decide) (hts _ (tb_cons _ w_fl_X0_13)) (fun _ h9 => h9) rfl hnm rfl (by decide +kernel) rfl rfl (Nat.le_of_ble_eq_true rfl) dX0_init_19 (fun H locs hP hD hS => ?_)
  have hP : va_P G vwCl [(h, .inr (0, [.ref q1, .ref q2, .null, .null, .int 0])), (q1, .inl (C1, 200, .inr (.inl (fun _ => 0)))), (q2, .inl (C2, 200, .inr (.inl (fun _ => 0))))] H := hP
  have hD : va_D (fun q => q = h ∨ s.heap.size ≤ q) [(h, .inr (0, [.ref q1, .ref q2, .null, .null, .int 0])), (q1, .inl (C1, 200, .inr (.inl (fun _ => 0)))), (q2, .inl (C2, 200, .inr (.inl (fun _ => 0))))] := hD
  refine lv_aload_n hx hb dX0_init_22 rfl (lv_at hl 0 rfl) ?_
  refine lv_sipush (v := 200) hx hb dX0_init_23 (by decide) ?_
  refine va_newa (atype := .int) (ty := .int) (N' := 200) (a0 := (200, .inl (fun _ => 0))) hx hb (hts _ (tb_cons _ w_ac_int)) rfl hK hP hD hS hA (fun _ => rfl) (by decide) (by decide) (by decide) (Nat.le_of_ble_eq_true rfl) (Nat.le_of_ble_eq_true rfl) dX0_init_26 (fun q3 C3 H hK hP hD hS => ?_)
  have hP : va_P G vwCl [(h, .inr (0, [.ref q1, .ref q2, .null, .null, .int 0])), (q1, .inl (C1, 200, .inr (.inl (fun _ => 0)))), (q2, .inl (C2, 200, .inr (.inl (fun _ => 0)))), (q3, .inl (C3, 200, .inl (fun _ => 0)))] H := hP
  have hD : va_D (fun q => q = h ∨ s.heap.size ≤ q) [(h, .inr (0, [.ref q1, .ref q2, .null, .null, .int 0])), (q1, .inl (C1, 200, .inr (.inl (fun _ => 0)))), (q2, .inl (C2, 200, .inr (.inl (fun _ => 0)))), (q3, .inl (C3, 200, .inl (fun _ => 0)))] := hD
  have hK : va_K G vwCl [(C1, .long), (C2, .long), (C3, .int)] s := hK
  refine va_putF (D := G) (ci := 0) (v := .ref q3) (ty := .array .int) (C := RX0) (T := TX0) (N := 5) hx hb hts hin tyX0 tyX0_ok nmX0 hown hK hP hD hS 0 rfl rfl 2 (by decide) (hts _ (tb_cons _ w_fl_X0_16)) (fun _ h9 => h9) rfl hnm rfl (by decide +kernel) rfl rfl (Nat.le_of_ble_eq_true rfl) dX0_init_28 (fun H locs hP hD hS => ?_)
  have hP : va_P G vwCl [(h, .inr (0, [.ref q1, .ref q2, .ref q3, .null, .int 0])), (q1, .inl (C1, 200, .inr (.inl (fun _ => 0)))), (q2, .inl (C2, 200, .inr (.inl (fun _ => 0)))), (q3, .inl (C3, 200, .inl (fun _ => 0)))] H := hP
  have hD : va_D (fun q => q = h ∨ s.heap.size ≤ q) [(h, .inr (0, [.ref q1, .ref q2, .ref q3, .null, .int 0])), (q1, .inl (C1, 200, .inr (.inl (fun _ => 0)))), (q2, .inl (C2, 200, .inr (.inl (fun _ => 0)))), (q3, .inl (C3, 200, .inl (fun _ => 0)))] := hD
  refine lv_aload_n hx hb dX0_init_31 rfl (lv_at hl 0 rfl) ?_
  refine lv_sipush (v := 200) hx hb dX0_init_32 (by decide) ?_
  refine va_newa (atype := .int) (ty := .int) (N' := 200) (a0 := (200, .inl (fun _ => 0))) hx hb (hts _ (tb_cons _ w_ac_int)) rfl hK hP hD hS hA (fun _ => rfl) (by decide) (by decide) (by decide) (Nat.le_of_ble_eq_true rfl) (Nat.le_of_ble_eq_true rfl) dX0_init_35 (fun q4 C4 H hK hP hD hS => ?_)
  have hP : va_P G vwCl [(h, .inr (0, [.ref q1, .ref q2, .ref q3, .null, .int 0])), (q1, .inl (C1, 200, .inr (.inl (fun _ => 0)))), (q2, .inl (C2, 200, .inr (.inl (fun _ => 0)))), (q3, .inl (C3, 200, .inl (fun _ => 0))), (q4, .inl (C4, 200, .inl (fun _ => 0)))] H := hP
  have hD : va_D (fun q => q = h ∨ s.heap.size ≤ q) [(h, .inr (0, [.ref q1, .ref q2, .ref q3, .null, .int 0])), (q1, .inl (C1, 200, .inr (.inl (fun _ => 0)))), (q2, .inl (C2, 200, .inr (.inl (fun _ => 0)))), (q3, .inl (C3, 200, .inl (fun _ => 0))), (q4, .inl (C4, 200, .inl (fun _ => 0)))] := hD
  have hK : va_K G vwCl [(C1, .long), (C2, .long), (C3, .int), (C4, .int)] s := hK
  refine va_putF (D := G) (ci := 0) (v := .ref q4) (ty := .array .int) (C := RX0) (T := TX0) (N := 5) hx hb hts hin tyX0 tyX0_ok nmX0 hown hK hP hD hS 0 rfl rfl 3 (by decide) (hts _ (tb_cons _ w_fl_X0_20)) (fun _ h9 => h9) rfl hnm rfl (by decide +kernel) rfl rfl (Nat.le_of_ble_eq_true rfl) dX0_init_37 (fun H locs hP hD hS => ?_)
  have hP : va_P G vwCl [(h, .inr (0, [.ref q1, .ref q2, .ref q3, .ref q4, .int 0])), (q1, .inl (C1, 200, .inr (.inl (fun _ => 0)))), (q2, .inl (C2, 200, .inr (.inl (fun _ => 0)))), (q3, .inl (C3, 200, .inl (fun _ => 0))), (q4, .inl (C4, 200, .inl (fun _ => 0)))] H := hP
  have hD : va_D (fun q => q = h ∨ s.heap.size ≤ q) [(h, .inr (0, [.ref q1, .ref q2, .ref q3, .ref q4, .int 0])), (q1, .inl (C1, 200, .inr (.inl (fun _ => 0)))), (q2, .inl (C2, 200, .inr (.inl (fun _ => 0)))), (q3, .inl (C3, 200, .inl (fun _ => 0))), (q4, .inl (C4, 200, .inl (fun _ => 0)))] := hD
  refine lv_aload_n hx hb dX0_init_40 rfl (lv_at hl 0 rfl) ?_
  refine lv_iconst (v := 0) hx hb dX0_init_41 (by decide) ?_
  refine va_put (D := G) (ci := 0) (v := .int 0) (ty := .int) (C := RX0) (T := TX0) (N := 5) hx hb hts hin tyX0 tyX0_ok nmX0 hown hK hP hD hS 0 rfl rfl 4 (by decide) (hts _ (tb_cons _ w_fl_X0_23)) (fun _ h9 => h9) rfl (by decide +kernel) rfl rfl (Nat.le_of_ble_eq_true rfl) dX0_init_42 (fun H locs hP hD hS => ?_)
  have hP : va_P G vwCl [(h, .inr (0, [.ref q1, .ref q2, .ref q3, .ref q4, .int 0])), (q1, .inl (C1, 200, .inr (.inl (fun _ => 0)))), (q2, .inl (C2, 200, .inr (.inl (fun _ => 0)))), (q3, .inl (C3, 200, .inl (fun _ => 0))), (q4, .inl (C4, 200, .inl (fun _ => 0)))] H := hP
  have hD : va_D (fun q => q = h ∨ s.heap.size ≤ q) [(h, .inr (0, [.ref q1, .ref q2, .ref q3, .ref q4, .int 0])), (q1, .inl (C1, 200, .inr (.inl (fun _ => 0)))), (q2, .inl (C2, 200, .inr (.inl (fun _ => 0)))), (q3, .inl (C3, 200, .inl (fun _ => 0))), (q4, .inl (C4, 200, .inl (fun _ => 0)))] := hD
  exact W.vret hx hb hr (fun t ht hW => ⟨rfl, ⟨ad5 h q1 q2 q3 q4, ad5 C1 C1 C2 C3 C4, rfl, by rw [ht]; exact hP, va_K.moved hW.alike hK, ad5_apart hD, ad5_new hD⟩, hS.F ht⟩) hS.2.2 dX0_init_45
set_option maxHeartbeats 4000000 in
set_option maxRecDepth 100000 in
theorem cm_init (l : Launch) (G : va_G) (h sz0 : Nat) : Met l yX1_init wsX1_init { frames := 1, cells := 4, slots := 800, locals := 40 } (va_Pc [.ref h] (fun U => U.heap.size = sz0 ∧ va_P G vwCl [(h, .inr (1, [.null, .null, .null, .null, .int 0]))] U.heap ∧ va_K G vwCl [] U)) (in_Q G h sz0 (fun a C => wM a C (fun _ => false) (fun _ => 0) (fun _ => 0) (fun _ => 0) 0) tM) 4 800 (fun q => q = h ∨ sz0 ≤ q) := by
  refine q_openI (cc := cX1_init) (maxL := 1) (ret := none) (by decide) rfl (Nat.le_of_ble_eq_true rfl) ?_
  intro p e s m below meth c ls S hr hlk hnm hB hl
  obtain ⟨hx, hb, hml, hown, hts⟩ := id S
  obtain ⟨hsz, hP, hK⟩ := hB
  subst hsz
  have hin : ∀ w ∈ u_ws RX1 TX1 5, w ∈ wsX1_init := fun w h => tb_cons w (hinX1 w h)
  have hS : va_S (fun q => q = h ∨ s.heap.size ≤ q) s.heap s.heap [] := va_S.rf
  have hA : ∀ q, s.heap.size ≤ q → (fun q => q = h ∨ s.heap.size ≤ q) q := fun q z => Or.inr z
  have hD : va_D (fun q => q = h ∨ s.heap.size ≤ q) [(h, .inr (1, [.null, .null, .null, .null, .int 0]))] := va_D_one (Or.inl rfl)
  have hl : lv_has ls 1 [(0, .ref h)] := hl
  refine lv_aload_n hx hb dX1_init_0 rfl (lv_at hl 0 rfl) ?_
  refine W.objInit hx hb hown (hts _ (tb_cons _ w_ml_X1_1)) (hts _ (tb_cons _ w_im_obj)) (hts _ (tb_cons _ w_co_obj)) rfl (by rw [hml]; exact hl.1) rfl dX1_init_1 (Nat.le_of_ble_eq_true rfl) (Nat.le_of_ble_eq_true rfl) ?_
  refine W.eq (g2 := F0 m 4 ls []) rfl ?_
  refine lv_aload_n hx hb dX1_init_4 rfl (lv_at hl 0 rfl) ?_
  refine lv_sipush (v := 200) hx hb dX1_init_5 (by decide) ?_
  refine va_newa (atype := .boolean) (ty := .boolean) (N' := 200) (a0 := (200, .inl (fun _ => 0))) hx hb (hts _ (tb_cons _ w_ac_boolean)) rfl hK hP hD hS hA (fun _ => rfl) (by decide) (by decide) (by decide) (Nat.le_of_ble_eq_true rfl) (Nat.le_of_ble_eq_true rfl) dX1_init_8 (fun q1 C1 H hK hP hD hS => ?_)
  have hP : va_P G vwCl [(h, .inr (1, [.null, .null, .null, .null, .int 0])), (q1, .inl (C1, 200, .inl (fun _ => 0)))] H := hP
  have hD : va_D (fun q => q = h ∨ s.heap.size ≤ q) [(h, .inr (1, [.null, .null, .null, .null, .int 0])), (q1, .inl (C1, 200, .inl (fun _ => 0)))] := hD
  have hK : va_K G vwCl [(C1, .boolean)] s := hK
  refine va_putF (D := G) (ci := 1) (v := .ref q1) (ty := .array .boolean) (C := RX1) (T := TX1) (N := 5) hx hb hts hin tyX1 tyX1_ok nmX1 hown hK hP hD hS 0 rfl rfl 0 (by decide) (hts _ (tb_cons _ w_fl_X1_9)) (fun _ h9 => h9) rfl hnm rfl (by decide +kernel) rfl rfl (Nat.le_of_ble_eq_true rfl) dX1_init_10 (fun H locs hP hD hS => ?_)
  have hP : va_P G vwCl [(h, .inr (1, [.ref q1, .null, .null, .null, .int 0])), (q1, .inl (C1, 200, .inl (fun _ => 0)))] H := hP
  have hD : va_D (fun q => q = h ∨ s.heap.size ≤ q) [(h, .inr (1, [.ref q1, .null, .null, .null, .int 0])), (q1, .inl (C1, 200, .inl (fun _ => 0)))] := hD
  refine lv_aload_n hx hb dX1_init_13 rfl (lv_at hl 0 rfl) ?_
  refine lv_sipush (v := 200) hx hb dX1_init_14 (by decide) ?_
  refine va_newa (atype := .long) (ty := .long) (N' := 200) (a0 := (200, .inr (.inl (fun _ => 0)))) hx hb (hts _ (tb_cons _ w_ac_long)) rfl hK hP hD hS hA (fun _ => rfl) (by decide) (by decide) (by decide) (Nat.le_of_ble_eq_true rfl) (Nat.le_of_ble_eq_true rfl) dX1_init_17 (fun q2 C2 H hK hP hD hS => ?_)
  have hP : va_P G vwCl [(h, .inr (1, [.ref q1, .null, .null, .null, .int 0])), (q1, .inl (C1, 200, .inl (fun _ => 0))), (q2, .inl (C2, 200, .inr (.inl (fun _ => 0))))] H := hP
  have hD : va_D (fun q => q = h ∨ s.heap.size ≤ q) [(h, .inr (1, [.ref q1, .null, .null, .null, .int 0])), (q1, .inl (C1, 200, .inl (fun _ => 0))), (q2, .inl (C2, 200, .inr (.inl (fun _ => 0))))] := hD
  have hK : va_K G vwCl [(C1, .boolean), (C2, .long)] s := hK
  refine va_putF (D := G) (ci := 1) (v := .ref q2) (ty := .array .long) (C := RX1) (T := TX1) (N := 5) hx hb hts hin tyX1 tyX1_ok nmX1 hown hK hP hD hS 0 rfl rfl 1 (by decide) (hts _ (tb_cons _ w_fl_X1_13)) (fun _ h9 => h9) rfl hnm rfl (by decide +kernel) rfl rfl (Nat.le_of_ble_eq_true rfl) dX1_init_19 (fun H locs hP hD hS => ?_)
  have hP : va_P G vwCl [(h, .inr (1, [.ref q1, .ref q2, .null, .null, .int 0])), (q1, .inl (C1, 200, .inl (fun _ => 0))), (q2, .inl (C2, 200, .inr (.inl (fun _ => 0))))] H := hP
  have hD : va_D (fun q => q = h ∨ s.heap.size ≤ q) [(h, .inr (1, [.ref q1, .ref q2, .null, .null, .int 0])), (q1, .inl (C1, 200, .inl (fun _ => 0))), (q2, .inl (C2, 200, .inr (.inl (fun _ => 0))))] := hD
  refine lv_aload_n hx hb dX1_init_22 rfl (lv_at hl 0 rfl) ?_
  refine lv_sipush (v := 200) hx hb dX1_init_23 (by decide) ?_
  refine va_newa (atype := .long) (ty := .long) (N' := 200) (a0 := (200, .inr (.inl (fun _ => 0)))) hx hb (hts _ (tb_cons _ w_ac_long)) rfl hK hP hD hS hA (fun _ => rfl) (by decide) (by decide) (by decide) (Nat.le_of_ble_eq_true rfl) (Nat.le_of_ble_eq_true rfl) dX1_init_26 (fun q3 C3 H hK hP hD hS => ?_)
  have hP : va_P G vwCl [(h, .inr (1, [.ref q1, .ref q2, .null, .null, .int 0])), (q1, .inl (C1, 200, .inl (fun _ => 0))), (q2, .inl (C2, 200, .inr (.inl (fun _ => 0)))), (q3, .inl (C3, 200, .inr (.inl (fun _ => 0))))] H := hP
  have hD : va_D (fun q => q = h ∨ s.heap.size ≤ q) [(h, .inr (1, [.ref q1, .ref q2, .null, .null, .int 0])), (q1, .inl (C1, 200, .inl (fun _ => 0))), (q2, .inl (C2, 200, .inr (.inl (fun _ => 0)))), (q3, .inl (C3, 200, .inr (.inl (fun _ => 0))))] := hD
  have hK : va_K G vwCl [(C1, .boolean), (C2, .long), (C3, .long)] s := hK
  refine va_putF (D := G) (ci := 1) (v := .ref q3) (ty := .array .long) (C := RX1) (T := TX1) (N := 5) hx hb hts hin tyX1 tyX1_ok nmX1 hown hK hP hD hS 0 rfl rfl 2 (by decide) (hts _ (tb_cons _ w_fl_X1_17)) (fun _ h9 => h9) rfl hnm rfl (by decide +kernel) rfl rfl (Nat.le_of_ble_eq_true rfl) dX1_init_28 (fun H locs hP hD hS => ?_)
  have hP : va_P G vwCl [(h, .inr (1, [.ref q1, .ref q2, .ref q3, .null, .int 0])), (q1, .inl (C1, 200, .inl (fun _ => 0))), (q2, .inl (C2, 200, .inr (.inl (fun _ => 0)))), (q3, .inl (C3, 200, .inr (.inl (fun _ => 0))))] H := hP
  have hD : va_D (fun q => q = h ∨ s.heap.size ≤ q) [(h, .inr (1, [.ref q1, .ref q2, .ref q3, .null, .int 0])), (q1, .inl (C1, 200, .inl (fun _ => 0))), (q2, .inl (C2, 200, .inr (.inl (fun _ => 0)))), (q3, .inl (C3, 200, .inr (.inl (fun _ => 0))))] := hD
  refine lv_aload_n hx hb dX1_init_31 rfl (lv_at hl 0 rfl) ?_
  refine lv_sipush (v := 200) hx hb dX1_init_32 (by decide) ?_
  refine va_newa (atype := .int) (ty := .int) (N' := 200) (a0 := (200, .inl (fun _ => 0))) hx hb (hts _ (tb_cons _ w_ac_int)) rfl hK hP hD hS hA (fun _ => rfl) (by decide) (by decide) (by decide) (Nat.le_of_ble_eq_true rfl) (Nat.le_of_ble_eq_true rfl) dX1_init_35 (fun q4 C4 H hK hP hD hS => ?_)
  have hP : va_P G vwCl [(h, .inr (1, [.ref q1, .ref q2, .ref q3, .null, .int 0])), (q1, .inl (C1, 200, .inl (fun _ => 0))), (q2, .inl (C2, 200, .inr (.inl (fun _ => 0)))), (q3, .inl (C3, 200, .inr (.inl (fun _ => 0)))), (q4, .inl (C4, 200, .inl (fun _ => 0)))] H := hP
  have hD : va_D (fun q => q = h ∨ s.heap.size ≤ q) [(h, .inr (1, [.ref q1, .ref q2, .ref q3, .null, .int 0])), (q1, .inl (C1, 200, .inl (fun _ => 0))), (q2, .inl (C2, 200, .inr (.inl (fun _ => 0)))), (q3, .inl (C3, 200, .inr (.inl (fun _ => 0)))), (q4, .inl (C4, 200, .inl (fun _ => 0)))] := hD
  have hK : va_K G vwCl [(C1, .boolean), (C2, .long), (C3, .long), (C4, .int)] s := hK
  refine va_putF (D := G) (ci := 1) (v := .ref q4) (ty := .array .int) (C := RX1) (T := TX1) (N := 5) hx hb hts hin tyX1 tyX1_ok nmX1 hown hK hP hD hS 0 rfl rfl 3 (by decide) (hts _ (tb_cons _ w_fl_X1_20)) (fun _ h9 => h9) rfl hnm rfl (by decide +kernel) rfl rfl (Nat.le_of_ble_eq_true rfl) dX1_init_37 (fun H locs hP hD hS => ?_)
  have hP : va_P G vwCl [(h, .inr (1, [.ref q1, .ref q2, .ref q3, .ref q4, .int 0])), (q1, .inl (C1, 200, .inl (fun _ => 0))), (q2, .inl (C2, 200, .inr (.inl (fun _ => 0)))), (q3, .inl (C3, 200, .inr (.inl (fun _ => 0)))), (q4, .inl (C4, 200, .inl (fun _ => 0)))] H := hP
  have hD : va_D (fun q => q = h ∨ s.heap.size ≤ q) [(h, .inr (1, [.ref q1, .ref q2, .ref q3, .ref q4, .int 0])), (q1, .inl (C1, 200, .inl (fun _ => 0))), (q2, .inl (C2, 200, .inr (.inl (fun _ => 0)))), (q3, .inl (C3, 200, .inr (.inl (fun _ => 0)))), (q4, .inl (C4, 200, .inl (fun _ => 0)))] := hD
  exact W.vret hx hb hr (fun t ht hW => ⟨rfl, ⟨ad5 h q1 q2 q3 q4, ad5 C1 C1 C2 C3 C4, rfl, by rw [ht]; exact hP, va_K.moved hW.alike hK, ad5_apart hD, ad5_new hD⟩, hS.F ht⟩) hS.2.2 dX1_init_40
end
section
/-! the law's wrappers: the class's cells and the cell of the answer -/
abbrev wOut (oo : Nat) (Co : ClassId) (f : Nat → Int64) : Nat × va_E := (oo, .inl (Co, 1, .inr (.inl f)))
abbrev wXo (a : Nat → Nat) (C : Nat → ClassId) (K D : Nat → Int64) (Wt O : Nat → Int32) (n : Int32) (oo : Nat) (Co : ClassId) (f : Nat → Int64) : va_W :=
  [(a 0, .inr (0, [.ref (a 1), .ref (a 2), .ref (a 3), .ref (a 4), .int n])), (a 1, .inl (C 1, 200, .inr (.inl K))), (a 2, .inl (C 2, 200, .inr (.inl D))), (a 3, .inl (C 3, 200, .inl Wt)), (a 4, .inl (C 4, 200, .inl O)), wOut oo Co f]
abbrev tXo (C : Nat → ClassId) (Co : ClassId) : List (ClassId × FieldType) := [(C 1, .long), (C 2, .long), (C 3, .int), (C 4, .int), (Co, .long)]
/-- what may change -/
def aXo (a : Nat → Nat) (oo : Nat) : Nat → Prop := fun q => (∃ i, i < 5 ∧ q = a i) ∨ q = oo
/-- the six addresses are apart -/
def apXo (a : Nat → Nat) (oo : Nat) : Prop := (∀ i j, i < 5 → j < 5 → a i = a j → i = j) ∧ ∀ i, i < 5 → a i ≠ oo
def bXo (G : va_G) (a : Nat → Nat) (C : Nat → ClassId) (K D : Nat → Int64) (Wt O : Nat → Int32) (n : Int32) (oo : Nat) (Co : ClassId) (f : Nat → Int64) (U : State) : Prop :=
  (va_P G vwCl (wXo a C K D Wt O n oo Co f) U.heap ∧ va_K G vwCl (tXo C Co) U) ∧ tx_G U ∧ va_Nc EIA ENS U
theorem bXo_blind {G : va_G} {a : Nat → Nat} {C : Nat → ClassId} {K D : Nat → Int64} {Wt O : Nat → Int32} {n : Int32} {oo : Nat} {Co : ClassId} {f : Nat → Int64} {av : List Value} : FrameBlind (va_Pc av (bXo G a C K D Wt O n oo Co f)) :=
  fun v U g mk q => ⟨q.1, ⟨q.2.1.1, va_K.moved (u := U) (U := U.calling g mk v) (Vm.Alike.refl U.vm) q.2.1.2⟩, tx_G_moved (s := U) (U := U.calling g mk v) q.2.2.1 rfl (Vm.Alike.refl U.vm), va_Nc.moved (u := U) (U := U.calling g mk v) (Vm.Alike.refl U.vm) q.2.2.2⟩
theorem dXo {a : Nat → Nat} {oo : Nat} (hap : apXo a oo) (C : Nat → ClassId) (K D : Nat → Int64) (Wt O : Nat → Int32) (n : Int32) (Co : ClassId) (f : Nat → Int64) : va_D (aXo a oo) (wXo a C K D Wt O n oo Co f) := by
  have key : ∀ (k : Nat) (q : Nat × va_E), (wXo a C K D Wt O n oo Co f)[k]? = some q → (k < 5 ∧ q.1 = a k) ∨ (k = 5 ∧ q.1 = oo) := by
    intro k q hq
    match k, hq with
    | 0, hq => cases hq; exact Or.inl ⟨by omega, rfl⟩
    | 1, hq => cases hq; exact Or.inl ⟨by omega, rfl⟩
    | 2, hq => cases hq; exact Or.inl ⟨by omega, rfl⟩
    | 3, hq => cases hq; exact Or.inl ⟨by omega, rfl⟩
    | 4, hq => cases hq; exact Or.inl ⟨by omega, rfl⟩
    | 5, hq => cases hq; exact Or.inr ⟨rfl, rfl⟩
    | k + 6, hq => simp at hq
  refine ⟨fun i j x y hx hy e => ?_, fun k q hq => ?_⟩
  · rcases key i x hx with ⟨i5, ex⟩ | ⟨i5, ex⟩
    · rcases key j y hy with ⟨j5, ey⟩ | ⟨j5, ey⟩
      · exact hap.1 i j i5 j5 (by rw [← ex, ← ey]; exact e)
      · exact absurd (by rw [← ex, ← ey]; exact e) (hap.2 i i5)
    · rcases key j y hy with ⟨j5, ey⟩ | ⟨j5, ey⟩
      · exact absurd (by rw [← ex, ← ey]; exact e.symm) (hap.2 j j5)
      · omega
  · rcases key k q hq with ⟨k5, e⟩ | ⟨k5, e⟩
    · exact Or.inl ⟨k, k5, e⟩
    · exact Or.inr e
/-- the class's own cells -/
def aX5 (a : Nat → Nat) : Nat → Prop := fun q => ∃ i, i < 5 ∧ q = a i
theorem dX5 {a : Nat → Nat} (h1 : ∀ i j, i < 5 → j < 5 → a i = a j → i = j) : ∀ (C : Nat → ClassId) (K D : Nat → Int64) (Wt O : Nat → Int32) (n : Int32), va_D (aX5 a) (wX a C K D Wt O n) := fun C K D Wt O n => dX h1 (fun i hi => ⟨i, hi, rfl⟩) C K D Wt O n
/-- old cells as they were: the six cells too -/
theorem keepXo {G : va_G} {a : Nat → Nat} {C : Nat → ClassId} {K D : Nat → Int64} {Wt O : Nat → Int32} {n : Int32} {oo : Nat} {Co : ClassId} {f : Nat → Int64} {H H1 : Heap} (hP : va_P G vwCl (wXo a C K D Wt O n oo Co f) H) (hh : ∀ q : Nat, q < H.size → H1[q]? = H[q]?) : va_P G vwCl (wXo a C K D Wt O n oo Co f) H1 := by
  refine va_P.kept hP (fun k q hk => hh q.1 ?_)
  have h1 := hP k q hk
  unfold va_at at h1
  cases hq : q.2 with
  | inl z => rw [hq] at h1; exact (Array.getElem?_eq_some_iff.mp h1).1
  | inr z =>
    rw [hq] at h1
    obtain ⟨r, _, h2⟩ := h1
    obtain ⟨cell9, h3, _⟩ := h2
    exact (Array.getElem?_eq_some_iff.mp h3).1
end
section
/-! the law's wrappers, each by the contract of the method that it calls -/
theorem joinXo {G : va_G} {a : Nat → Nat} {C : Nat → ClassId} {K D K' D' : Nat → Int64} {Wt O Wt' O' : Nat → Int32} {n n' : Int32} {oo : Nat} {Co : ClassId} {f : Nat → Int64} {H H1 : Heap} (hap : apXo a oo) (hP : va_P G vwCl (wXo a C K D Wt O n oo Co f) H) (hX : va_P G vwCl (wX a C K' D' Wt' O' n') H1) (hh : ∀ q : Nat, q < H.size → ¬ aX5 a q → H1[q]? = H[q]?) : va_P G vwCl (wXo a C K' D' Wt' O' n' oo Co f) H1 := by
  have h5 : va_at G vwCl (wOut oo Co f) H := hP 5 _ rfl
  have h6 : va_at G vwCl (wOut oo Co f) H1 := h5.kept (hh oo h5.lt (fun ⟨i, hi, e⟩ => hap.2 i hi e.symm))
  have h7 : va_P G vwCl [wOut oo Co f] H1 := by
    intro k q hk
    match k, hk with
    | 0, hk => cases hk; exact h6
    | k + 1, hk => simp at hk
  exact hX.app h7
set_option maxHeartbeats 4000000 in
set_option maxRecDepth 100000 in
theorem lw_put_ok (l : Launch) (G : va_G) (a : Nat → Nat) (C : Nat → ClassId) (oo : Nat) (Co : ClassId) (hap : apXo a oo) (K D : Nat → Int64) (Wt O : Nat → Int32) (n : Int32) (f : Nat → Int64) {x0 : Int32} {x1 : Int64} {x2 : Int64} {x3 : Int32} {v : Int32} {K2 D2 : Nat → Int64} {W2 O2 : Nat → Int32} {n2 : Int32} (hM : Met l yX0_put wsX0_put { frames := 3, cells := 0, slots := 0, locals := 90 } (va_Pc [.ref (a 0), .int x0, .long x1, .long x2, .int x3] (rX G a C K D Wt O n)) (wr_Q G vwCl (some (.int v)) (wX a C K2 D2 W2 O2 n2) (aX5 a)) 0 0 (aX5 a)) : Met l yL_put wsL_put { frames := 8, cells := 1, slots := 6, locals := 150 } (va_Pc [.ref (a 0), .int x0, .long x1, .long x2, .int x3, .ref oo] (bXo G a C K D Wt O n oo Co f)) (wr_Q G vwCl (some (.int 0)) (wXo a C K2 D2 W2 O2 n2 oo Co (vp_updL f 0 v.toInt64)) (aXo a oo)) 1 6 (aXo a oo) := by
  refine q_openW (cc := cL_put) (maxL := 9) (ret := (some .int)) (hh := [(0, 15, 18, 13)]) (by decide) rfl (Nat.le_of_ble_eq_true rfl) ?_
  intro p e s m below meth c ls S hr hlk htab hB hl
  obtain ⟨hx, hb, hml, hown, hts⟩ := id S
  obtain ⟨⟨hP, hK⟩, hG, hNc⟩ := hB
  have hPX : va_P G vwCl (wX a C K D Wt O n) s.heap := hP.sub [0, 1, 2, 3, 4] rfl
  have hKX : va_K G vwCl (tX C) s := hK.sub [0, 1, 2, 3] rfl
  have hS : va_S (aXo a oo) s.heap s.heap [] := va_S.rf
  have hl : lv_has ls 9 [(0, .ref (a 0)), (1, .int x0), (2, .long x1), (4, .long x2), (6, .int x3), (7, .ref oo)] := hl
  refine lv_aload hx hb dL_put_0 (lv_at hl 5 rfl) ?_
  refine lv_iconst (v := 0) hx hb dL_put_2 (by decide) ?_
  refine lv_aload_n hx hb dL_put_3 rfl (lv_at hl 0 rfl) ?_
  refine lv_iload_n hx hb dL_put_4 rfl (lv_at hl 1 rfl) ?_
  refine lv_lload_n hx hb dL_put_5 rfl (lv_at hl 2 rfl) ?_
  refine lv_lload hx hb dL_put_6 (lv_at hl 3 rfl) ?_
  refine lv_iload hx hb dL_put_8 (lv_at hl 4 rfl) ?_
  refine wr_call (W.runV (As := [.int x0, .long x1, .long x2, .int x3]) (rest := [.int 0, .ref oo]) S hM (cwV 4 hts (gL_7 tb_cons) rfl rfl rfl (by decide +kernel) ⟨Nat.le_of_ble_eq_true rfl, Nat.le_of_ble_eq_true rfl⟩) (pX_V hPX hKX) rfl rfl hl.1 rfl (lv_room (Nat.le_of_ble_eq_true rfl)) dL_put_10 ⟨Nat.zero_le _, Nat.zero_le _⟩) hS (fun q z => Or.inl z) (fun H locs hX2 hS _ hfr => ?_)
  have hP := joinXo hap hP hX2 hfr
  refine W.eq (g2 := F0 m 13 ls [.int v, .int 0, .ref oo]) rfl ?_
  refine lv_i2l hx hb dL_put_13 rfl ?_
  refine q_last hx hb hK hP (dXo hap _ _ _ _ _ _ _ _) hS 5 4 rfl rfl 0 rfl (by decide) (by decide) dL_put_14 (fun H locs hP hS => ?_)
  refine lv_goto (tgt := 22) hx hb dL_put_15 (by decide) ?_
  refine lv_iconst (v := 0) hx hb dL_put_22 (by decide) ?_
  refine W.widen (k := 1) (n := 6) (by omega) (by omega) ?_
  exact W.iret hx hb hr (fun t ht _ => ⟨rfl, by rw [ht]; exact hP, hS.F ht⟩) hS.2.2 dL_put_23
set_option maxHeartbeats 4000000 in
set_option maxRecDepth 100000 in
theorem lw_put_IA (l : Launch) (G : va_G) (a : Nat → Nat) (C : Nat → ClassId) (oo : Nat) (Co : ClassId) (hap : apXo a oo) (K D : Nat → Int64) (Wt O : Nat → Int32) (n : Int32) (f : Nat → Int64) {x0 : Int32} {x1 : Int64} {x2 : Int64} {x3 : Int32} (hM : tx_Met l yX0_put wsX0_put { frames := 6, cells := 1, slots := 6, locals := 90 } (va_Pc [.ref (a 0), .int x0, .long x1, .long x2, .int x3] (bX G a C K D Wt O n)) (th_Q EIA) 1 6 (fun _ => False)) : Met l yL_put wsL_put { frames := 8, cells := 1, slots := 6, locals := 150 } (va_Pc [.ref (a 0), .int x0, .long x1, .long x2, .int x3, .ref oo] (bXo G a C K D Wt O n oo Co f)) (wr_Q G vwCl (some (.int 1)) (wXo a C K D Wt O n oo Co f) (aXo a oo)) 1 6 (aXo a oo) := by
  refine q_openW (cc := cL_put) (maxL := 9) (ret := (some .int)) (hh := [(0, 15, 18, 13)]) (by decide) rfl (Nat.le_of_ble_eq_true rfl) ?_
  intro p e s m below meth c ls S hr hlk htab hB hl
  obtain ⟨hx, hb, hml, hown, hts⟩ := id S
  obtain ⟨⟨hP, hK⟩, hG, hNc⟩ := hB
  have hPX : va_P G vwCl (wX a C K D Wt O n) s.heap := hP.sub [0, 1, 2, 3, 4] rfl
  have hKX : va_K G vwCl (tX C) s := hK.sub [0, 1, 2, 3] rfl
  have hS : va_S (aXo a oo) s.heap s.heap [] := va_S.rf
  have hl : lv_has ls 9 [(0, .ref (a 0)), (1, .int x0), (2, .long x1), (4, .long x2), (6, .int x3), (7, .ref oo)] := hl
  refine lv_aload hx hb dL_put_0 (lv_at hl 5 rfl) ?_
  refine lv_iconst (v := 0) hx hb dL_put_2 (by decide) ?_
  refine lv_aload_n hx hb dL_put_3 rfl (lv_at hl 0 rfl) ?_
  refine lv_iload_n hx hb dL_put_4 rfl (lv_at hl 1 rfl) ?_
  refine lv_lload_n hx hb dL_put_5 rfl (lv_at hl 2 rfl) ?_
  refine lv_lload hx hb dL_put_6 (lv_at hl 3 rfl) ?_
  refine lv_iload hx hb dL_put_8 (lv_at hl 4 rfl) ?_
  refine tx_runV (As := [.int x0, .long x1, .long x2, .int x3]) (rest := [.int 0, .ref oo]) S hM (cwV 4 hts (gL_7 tb_cons) rfl rfl rfl (by decide +kernel) ⟨Nat.le_of_ble_eq_true rfl, Nat.le_of_ble_eq_true rfl⟩) (pXb_V hPX hKX hG) rfl hl.1 rfl (lv_room (Nat.le_of_ble_eq_true rfl)) dL_put_10 ⟨Nat.le_of_ble_eq_true rfl, Nat.le_of_ble_eq_true rfl⟩ (fun o st t H1 L h0 h1 ha9 hq hL9 => ?_)
  obtain ⟨x9, ce, ho, h3, h5, h4, h6, h7⟩ := hq
  subst ho
  refine ⟨fun v hv => (by cases hv), fun x hx9 => ?_⟩
  cases hx9
  refine tx_catch1 (x := ⟨0, 15, 18, 13⟩) (rows := []) (cls := EIA) htab (by decide) (by decide) hown (hts _ (tb_cons _ w_cl_L_13)) (by rw [← h1]; exact h3) h5 (by rw [← ha9.findClass]; exact h4) ?_
  have hh : ∀ q : Nat, q < s.heap.size → H1[q]? = s.heap[q]? := fun q hq => by rw [← h1, ← h0]; exact h7 q (by rw [h0]; exact hq)
  have hP := keepXo hP hh
  refine lv_astore hx hb dL_put_18 hl (by decide) rfl (fun ls hl => ?_)
  have hl : lv_has ls 9 [(8, .ref x9), (0, .ref (a 0)), (1, .int x0), (2, .long x1), (4, .long x2), (6, .int x3), (7, .ref oo)] := hl
  refine lv_iconst (v := 1) hx hb dL_put_20 (by decide) ?_
  exact W.iret hx hb hr (fun u hu _ => ⟨rfl, by rw [hu]; exact hP, by rw [hu, ← h1, ← h0]; exact h6, fun q hq _ => by rw [hu]; exact hh q hq⟩) (fun q hq => (hL9 q hq).elim) dL_put_21
set_option maxHeartbeats 4000000 in
set_option maxRecDepth 100000 in
theorem lw_drop_ok (l : Launch) (G : va_G) (a : Nat → Nat) (C : Nat → ClassId) (oo : Nat) (Co : ClassId) (hap : apXo a oo) (K D : Nat → Int64) (Wt O : Nat → Int32) (n : Int32) (f : Nat → Int64) {x0 : Int32} {v : Int32} {K2 D2 : Nat → Int64} {W2 O2 : Nat → Int32} {n2 : Int32} (hM : Met l yX0_drop wsX0_drop { frames := 3, cells := 0, slots := 0, locals := 90 } (va_Pc [.ref (a 0), .int x0] (rX G a C K D Wt O n)) (wr_Q G vwCl (some (.int v)) (wX a C K2 D2 W2 O2 n2) (aX5 a)) 0 0 (aX5 a)) : Met l yL_drop wsL_drop { frames := 8, cells := 1, slots := 6, locals := 150 } (va_Pc [.ref (a 0), .int x0, .ref oo] (bXo G a C K D Wt O n oo Co f)) (wr_Q G vwCl (some (.int 0)) (wXo a C K2 D2 W2 O2 n2 oo Co (vp_updL f 0 v.toInt64)) (aXo a oo)) 1 6 (aXo a oo) := by
  refine q_openW (cc := cL_drop) (maxL := 4) (ret := (some .int)) (hh := [(0, 9, 12, 19)]) (by decide) rfl (Nat.le_of_ble_eq_true rfl) ?_
  intro p e s m below meth c ls S hr hlk htab hB hl
  obtain ⟨hx, hb, hml, hown, hts⟩ := id S
  obtain ⟨⟨hP, hK⟩, hG, hNc⟩ := hB
  have hPX : va_P G vwCl (wX a C K D Wt O n) s.heap := hP.sub [0, 1, 2, 3, 4] rfl
  have hKX : va_K G vwCl (tX C) s := hK.sub [0, 1, 2, 3] rfl
  have hS : va_S (aXo a oo) s.heap s.heap [] := va_S.rf
  have hl : lv_has ls 4 [(0, .ref (a 0)), (1, .int x0), (2, .ref oo)] := hl
  refine lv_aload_n hx hb dL_drop_0 rfl (lv_at hl 2 rfl) ?_
  refine lv_iconst (v := 0) hx hb dL_drop_1 (by decide) ?_
  refine lv_aload_n hx hb dL_drop_2 rfl (lv_at hl 0 rfl) ?_
  refine lv_iload_n hx hb dL_drop_3 rfl (lv_at hl 1 rfl) ?_
  refine wr_call (W.runV (As := [.int x0]) (rest := [.int 0, .ref oo]) S hM (cwV 1 hts (gL_15 tb_cons) rfl rfl rfl (by decide +kernel) ⟨Nat.le_of_ble_eq_true rfl, Nat.le_of_ble_eq_true rfl⟩) (pX_V hPX hKX) rfl rfl hl.1 rfl (lv_room (Nat.le_of_ble_eq_true rfl)) dL_drop_4 ⟨Nat.zero_le _, Nat.zero_le _⟩) hS (fun q z => Or.inl z) (fun H locs hX2 hS _ hfr => ?_)
  have hP := joinXo hap hP hX2 hfr
  refine W.eq (g2 := F0 m 7 ls [.int v, .int 0, .ref oo]) rfl ?_
  refine lv_i2l hx hb dL_drop_7 rfl ?_
  refine q_last hx hb hK hP (dXo hap _ _ _ _ _ _ _ _) hS 5 4 rfl rfl 0 rfl (by decide) (by decide) dL_drop_8 (fun H locs hP hS => ?_)
  refine lv_goto (tgt := 15) hx hb dL_drop_9 (by decide) ?_
  refine lv_iconst (v := 0) hx hb dL_drop_15 (by decide) ?_
  refine W.widen (k := 1) (n := 6) (by omega) (by omega) ?_
  exact W.iret hx hb hr (fun t ht _ => ⟨rfl, by rw [ht]; exact hP, hS.F ht⟩) hS.2.2 dL_drop_16
set_option maxHeartbeats 4000000 in
set_option maxRecDepth 100000 in
theorem lw_drop_NS (l : Launch) (G : va_G) (a : Nat → Nat) (C : Nat → ClassId) (oo : Nat) (Co : ClassId) (hap : apXo a oo) (K D : Nat → Int64) (Wt O : Nat → Int32) (n : Int32) (f : Nat → Int64) {x0 : Int32} (hM : tx_Met l yX0_drop wsX0_drop { frames := 6, cells := 1, slots := 6, locals := 90 } (va_Pc [.ref (a 0), .int x0] (bX G a C K D Wt O n)) (th_Q ENS) 1 6 (fun _ => False)) : Met l yL_drop wsL_drop { frames := 8, cells := 1, slots := 6, locals := 150 } (va_Pc [.ref (a 0), .int x0, .ref oo] (bXo G a C K D Wt O n oo Co f)) (wr_Q G vwCl (some (.int 1)) (wXo a C K D Wt O n oo Co f) (aXo a oo)) 1 6 (aXo a oo) := by
  refine q_openW (cc := cL_drop) (maxL := 4) (ret := (some .int)) (hh := [(0, 9, 12, 19)]) (by decide) rfl (Nat.le_of_ble_eq_true rfl) ?_
  intro p e s m below meth c ls S hr hlk htab hB hl
  obtain ⟨hx, hb, hml, hown, hts⟩ := id S
  obtain ⟨⟨hP, hK⟩, hG, hNc⟩ := hB
  have hPX : va_P G vwCl (wX a C K D Wt O n) s.heap := hP.sub [0, 1, 2, 3, 4] rfl
  have hKX : va_K G vwCl (tX C) s := hK.sub [0, 1, 2, 3] rfl
  have hS : va_S (aXo a oo) s.heap s.heap [] := va_S.rf
  have hl : lv_has ls 4 [(0, .ref (a 0)), (1, .int x0), (2, .ref oo)] := hl
  refine lv_aload_n hx hb dL_drop_0 rfl (lv_at hl 2 rfl) ?_
  refine lv_iconst (v := 0) hx hb dL_drop_1 (by decide) ?_
  refine lv_aload_n hx hb dL_drop_2 rfl (lv_at hl 0 rfl) ?_
  refine lv_iload_n hx hb dL_drop_3 rfl (lv_at hl 1 rfl) ?_
  refine tx_runV (As := [.int x0]) (rest := [.int 0, .ref oo]) S hM (cwV 1 hts (gL_15 tb_cons) rfl rfl rfl (by decide +kernel) ⟨Nat.le_of_ble_eq_true rfl, Nat.le_of_ble_eq_true rfl⟩) (pXb_V hPX hKX hG) rfl hl.1 rfl (lv_room (Nat.le_of_ble_eq_true rfl)) dL_drop_4 ⟨Nat.le_of_ble_eq_true rfl, Nat.le_of_ble_eq_true rfl⟩ (fun o st t H1 L h0 h1 ha9 hq hL9 => ?_)
  obtain ⟨x9, ce, ho, h3, h5, h4, h6, h7⟩ := hq
  subst ho
  refine ⟨fun v hv => (by cases hv), fun x hx9 => ?_⟩
  cases hx9
  refine tx_catch1 (x := ⟨0, 9, 12, 19⟩) (rows := []) (cls := ENS) htab (by decide) (by decide) hown (hts _ (tb_cons _ w_cl_L_19)) (by rw [← h1]; exact h3) h5 (by rw [← ha9.findClass]; exact h4) ?_
  have hh : ∀ q : Nat, q < s.heap.size → H1[q]? = s.heap[q]? := fun q hq => by rw [← h1, ← h0]; exact h7 q (by rw [h0]; exact hq)
  have hP := keepXo hP hh
  refine lv_astore_n hx hb dL_drop_12 rfl hl (by decide) rfl (fun ls hl => ?_)
  have hl : lv_has ls 4 [(3, .ref x9), (0, .ref (a 0)), (1, .int x0), (2, .ref oo)] := hl
  refine lv_iconst (v := 1) hx hb dL_drop_13 (by decide) ?_
  exact W.iret hx hb hr (fun u hu _ => ⟨rfl, by rw [hu]; exact hP, by rw [hu, ← h1, ← h0]; exact h6, fun q hq _ => by rw [hu]; exact hh q hq⟩) (fun q hq => (hL9 q hq).elim) dL_drop_14
set_option maxHeartbeats 4000000 in
set_option maxRecDepth 100000 in
theorem lw_slide_ok (l : Launch) (G : va_G) (a : Nat → Nat) (C : Nat → ClassId) (oo : Nat) (Co : ClassId) (hap : apXo a oo) (K D : Nat → Int64) (Wt O : Nat → Int32) (n : Int32) (f : Nat → Int64) {x0 : Int64} {v : Int64} {K2 D2 : Nat → Int64} {W2 O2 : Nat → Int32} {n2 : Int32} (hM : Met l yX0_slide wsX0_slide { frames := 1, cells := 0, slots := 0, locals := 30 } (va_Pc [.ref (a 0), .long x0] (rX G a C K D Wt O n)) (wr_Q G vwCl (some (.long v)) (wX a C K2 D2 W2 O2 n2) (aX5 a)) 0 0 (aX5 a)) : Met l yL_slide wsL_slide { frames := 8, cells := 1, slots := 6, locals := 150 } (va_Pc [.ref (a 0), .long x0, .ref oo] (bXo G a C K D Wt O n oo Co f)) (wr_Q G vwCl (some (.int 0)) (wXo a C K2 D2 W2 O2 n2 oo Co (vp_updL f 0 v)) (aXo a oo)) 1 6 (aXo a oo) := by
  refine q_openW (cc := cL_slide) (maxL := 5) (ret := (some .int)) (hh := [(0, 8, 11, 19), (0, 8, 15, 13)]) (by decide) rfl (Nat.le_of_ble_eq_true rfl) ?_
  intro p e s m below meth c ls S hr hlk htab hB hl
  obtain ⟨hx, hb, hml, hown, hts⟩ := id S
  obtain ⟨⟨hP, hK⟩, hG, hNc⟩ := hB
  have hPX : va_P G vwCl (wX a C K D Wt O n) s.heap := hP.sub [0, 1, 2, 3, 4] rfl
  have hKX : va_K G vwCl (tX C) s := hK.sub [0, 1, 2, 3] rfl
  have hS : va_S (aXo a oo) s.heap s.heap [] := va_S.rf
  have hl : lv_has ls 5 [(0, .ref (a 0)), (1, .long x0), (3, .ref oo)] := hl
  refine lv_aload_n hx hb dL_slide_0 rfl (lv_at hl 2 rfl) ?_
  refine lv_iconst (v := 0) hx hb dL_slide_1 (by decide) ?_
  refine lv_aload_n hx hb dL_slide_2 rfl (lv_at hl 0 rfl) ?_
  refine lv_lload_n hx hb dL_slide_3 rfl (lv_at hl 1 rfl) ?_
  refine wr_call (W.runV (As := [.long x0]) (rest := [.int 0, .ref oo]) S hM (cwV 1 hts (gL_21 tb_cons) rfl rfl rfl (by decide +kernel) ⟨Nat.le_of_ble_eq_true rfl, Nat.le_of_ble_eq_true rfl⟩) (pX_V hPX hKX) rfl rfl hl.1 rfl (lv_room (Nat.le_of_ble_eq_true rfl)) dL_slide_4 ⟨Nat.zero_le _, Nat.zero_le _⟩) hS (fun q z => Or.inl z) (fun H locs hX2 hS _ hfr => ?_)
  have hP := joinXo hap hP hX2 hfr
  refine W.eq (g2 := F0 m 7 ls [.long v, .int 0, .ref oo]) rfl ?_
  refine q_last hx hb hK hP (dXo hap _ _ _ _ _ _ _ _) hS 5 4 rfl rfl 0 rfl (by decide) (by decide) dL_slide_7 (fun H locs hP hS => ?_)
  refine lv_goto (tgt := 19) hx hb dL_slide_8 (by decide) ?_
  refine lv_iconst (v := 0) hx hb dL_slide_19 (by decide) ?_
  refine W.widen (k := 1) (n := 6) (by omega) (by omega) ?_
  exact W.iret hx hb hr (fun t ht _ => ⟨rfl, by rw [ht]; exact hP, hS.F ht⟩) hS.2.2 dL_slide_20
set_option maxHeartbeats 4000000 in
set_option maxRecDepth 100000 in
theorem lw_slide_NS (l : Launch) (G : va_G) (a : Nat → Nat) (C : Nat → ClassId) (oo : Nat) (Co : ClassId) (hap : apXo a oo) (K D : Nat → Int64) (Wt O : Nat → Int32) (n : Int32) (f : Nat → Int64) {x0 : Int64} (hM : tx_Met l yX0_slide wsX0_slide { frames := 6, cells := 1, slots := 6, locals := 90 } (va_Pc [.ref (a 0), .long x0] (bX G a C K D Wt O n)) (th_Q ENS) 1 6 (fun _ => False)) : Met l yL_slide wsL_slide { frames := 8, cells := 1, slots := 6, locals := 150 } (va_Pc [.ref (a 0), .long x0, .ref oo] (bXo G a C K D Wt O n oo Co f)) (wr_Q G vwCl (some (.int 1)) (wXo a C K D Wt O n oo Co f) (aXo a oo)) 1 6 (aXo a oo) := by
  refine q_openW (cc := cL_slide) (maxL := 5) (ret := (some .int)) (hh := [(0, 8, 11, 19), (0, 8, 15, 13)]) (by decide) rfl (Nat.le_of_ble_eq_true rfl) ?_
  intro p e s m below meth c ls S hr hlk htab hB hl
  obtain ⟨hx, hb, hml, hown, hts⟩ := id S
  obtain ⟨⟨hP, hK⟩, hG, hNc⟩ := hB
  have hPX : va_P G vwCl (wX a C K D Wt O n) s.heap := hP.sub [0, 1, 2, 3, 4] rfl
  have hKX : va_K G vwCl (tX C) s := hK.sub [0, 1, 2, 3] rfl
  have hS : va_S (aXo a oo) s.heap s.heap [] := va_S.rf
  have hl : lv_has ls 5 [(0, .ref (a 0)), (1, .long x0), (3, .ref oo)] := hl
  refine lv_aload_n hx hb dL_slide_0 rfl (lv_at hl 2 rfl) ?_
  refine lv_iconst (v := 0) hx hb dL_slide_1 (by decide) ?_
  refine lv_aload_n hx hb dL_slide_2 rfl (lv_at hl 0 rfl) ?_
  refine lv_lload_n hx hb dL_slide_3 rfl (lv_at hl 1 rfl) ?_
  refine tx_runV (As := [.long x0]) (rest := [.int 0, .ref oo]) S hM (cwV 1 hts (gL_21 tb_cons) rfl rfl rfl (by decide +kernel) ⟨Nat.le_of_ble_eq_true rfl, Nat.le_of_ble_eq_true rfl⟩) (pXb_V hPX hKX hG) rfl hl.1 rfl (lv_room (Nat.le_of_ble_eq_true rfl)) dL_slide_4 ⟨Nat.le_of_ble_eq_true rfl, Nat.le_of_ble_eq_true rfl⟩ (fun o st t H1 L h0 h1 ha9 hq hL9 => ?_)
  obtain ⟨x9, ce, ho, h3, h5, h4, h6, h7⟩ := hq
  subst ho
  refine ⟨fun v hv => (by cases hv), fun x hx9 => ?_⟩
  cases hx9
  refine tx_catch1 (x := ⟨0, 8, 11, 19⟩) (rows := [⟨0, 8, 15, 13⟩]) (cls := ENS) htab (by decide) (by decide) hown (hts _ (tb_cons _ w_cl_L_19)) (by rw [← h1]; exact h3) h5 (by rw [← ha9.findClass]; exact h4) ?_
  have hh : ∀ q : Nat, q < s.heap.size → H1[q]? = s.heap[q]? := fun q hq => by rw [← h1, ← h0]; exact h7 q (by rw [h0]; exact hq)
  have hP := keepXo hP hh
  refine lv_astore hx hb dL_slide_11 hl (by decide) rfl (fun ls hl => ?_)
  have hl : lv_has ls 5 [(4, .ref x9), (0, .ref (a 0)), (1, .long x0), (3, .ref oo)] := hl
  refine lv_iconst (v := 1) hx hb dL_slide_13 (by decide) ?_
  exact W.iret hx hb hr (fun u hu _ => ⟨rfl, by rw [hu]; exact hP, by rw [hu, ← h1, ← h0]; exact h6, fun q hq _ => by rw [hu]; exact hh q hq⟩) (fun q hq => (hL9 q hq).elim) dL_slide_14
set_option maxHeartbeats 4000000 in
set_option maxRecDepth 100000 in
theorem lw_slide_IA (l : Launch) (G : va_G) (a : Nat → Nat) (C : Nat → ClassId) (oo : Nat) (Co : ClassId) (hap : apXo a oo) (K D : Nat → Int64) (Wt O : Nat → Int32) (n : Int32) (f : Nat → Int64) {x0 : Int64} (hM : tx_Met l yX0_slide wsX0_slide { frames := 6, cells := 1, slots := 6, locals := 90 } (va_Pc [.ref (a 0), .long x0] (bX G a C K D Wt O n)) (th_Q EIA) 1 6 (fun _ => False)) : Met l yL_slide wsL_slide { frames := 8, cells := 1, slots := 6, locals := 150 } (va_Pc [.ref (a 0), .long x0, .ref oo] (bXo G a C K D Wt O n oo Co f)) (wr_Q G vwCl (some (.int 2)) (wXo a C K D Wt O n oo Co f) (aXo a oo)) 1 6 (aXo a oo) := by
  refine q_openW (cc := cL_slide) (maxL := 5) (ret := (some .int)) (hh := [(0, 8, 11, 19), (0, 8, 15, 13)]) (by decide) rfl (Nat.le_of_ble_eq_true rfl) ?_
  intro p e s m below meth c ls S hr hlk htab hB hl
  obtain ⟨hx, hb, hml, hown, hts⟩ := id S
  obtain ⟨⟨hP, hK⟩, hG, hNc⟩ := hB
  have hPX : va_P G vwCl (wX a C K D Wt O n) s.heap := hP.sub [0, 1, 2, 3, 4] rfl
  have hKX : va_K G vwCl (tX C) s := hK.sub [0, 1, 2, 3] rfl
  have hS : va_S (aXo a oo) s.heap s.heap [] := va_S.rf
  have hl : lv_has ls 5 [(0, .ref (a 0)), (1, .long x0), (3, .ref oo)] := hl
  refine lv_aload_n hx hb dL_slide_0 rfl (lv_at hl 2 rfl) ?_
  refine lv_iconst (v := 0) hx hb dL_slide_1 (by decide) ?_
  refine lv_aload_n hx hb dL_slide_2 rfl (lv_at hl 0 rfl) ?_
  refine lv_lload_n hx hb dL_slide_3 rfl (lv_at hl 1 rfl) ?_
  refine tx_runV (As := [.long x0]) (rest := [.int 0, .ref oo]) S hM (cwV 1 hts (gL_21 tb_cons) rfl rfl rfl (by decide +kernel) ⟨Nat.le_of_ble_eq_true rfl, Nat.le_of_ble_eq_true rfl⟩) (pXb_V hPX hKX hG) rfl hl.1 rfl (lv_room (Nat.le_of_ble_eq_true rfl)) dL_slide_4 ⟨Nat.le_of_ble_eq_true rfl, Nat.le_of_ble_eq_true rfl⟩ (fun o st t H1 L h0 h1 ha9 hq hL9 => ?_)
  obtain ⟨x9, ce, ho, h3, h5, h4, h6, h7⟩ := hq
  subst ho
  refine ⟨fun v hv => (by cases hv), fun x hx9 => ?_⟩
  cases hx9
  refine tx_catch2 (x := ⟨0, 8, 11, 19⟩) (y := ⟨0, 8, 15, 13⟩) (rows := []) (cls := EIA) (other := ENS) htab (by decide) (by decide) (by decide) (by decide) hown (hts _ (tb_cons _ w_cl_L_19)) hNc (hts _ (tb_cons _ w_cl_L_13)) (by rw [← h1]; exact h3) h5 (by rw [← ha9.findClass]; exact h4) ?_
  have hh : ∀ q : Nat, q < s.heap.size → H1[q]? = s.heap[q]? := fun q hq => by rw [← h1, ← h0]; exact h7 q (by rw [h0]; exact hq)
  have hP := keepXo hP hh
  refine lv_astore hx hb dL_slide_15 hl (by decide) rfl (fun ls hl => ?_)
  have hl : lv_has ls 5 [(4, .ref x9), (0, .ref (a 0)), (1, .long x0), (3, .ref oo)] := hl
  refine lv_iconst (v := 2) hx hb dL_slide_17 (by decide) ?_
  exact W.iret hx hb hr (fun u hu _ => ⟨rfl, by rw [hu]; exact hP, by rw [hu, ← h1, ← h0]; exact h6, fun q hq _ => by rw [hu]; exact hh q hq⟩) (fun q hq => (hL9 q hq).elim) dL_slide_18
set_option maxHeartbeats 4000000 in
set_option maxRecDepth 100000 in
theorem lw_told_ok (l : Launch) (G : va_G) (a : Nat → Nat) (C : Nat → ClassId) (oo : Nat) (Co : ClassId) (hap : apXo a oo) (K D : Nat → Int64) (Wt O : Nat → Int32) (n : Int32) (f : Nat → Int64) {x0 : Int32} {x1 : Int32} {v : Int64} (hM : Met l yX0_told wsX0_told { frames := 2, cells := 0, slots := 0, locals := 60 } (va_Pc [.ref (a 0), .int x0, .int x1] (rX G a C K D Wt O n)) (rd_Q (.long v)) 0 0 (fun _ => False)) : Met l yL_told wsL_told { frames := 8, cells := 1, slots := 6, locals := 150 } (va_Pc [.ref (a 0), .int x0, .int x1, .ref oo] (bXo G a C K D Wt O n oo Co f)) (wr_Q G vwCl (some (.int 0)) (wXo a C K D Wt O n oo Co (vp_updL f 0 v)) (aXo a oo)) 1 6 (aXo a oo) := by
  refine q_openW (cc := cL_told) (maxL := 5) (ret := (some .int)) (hh := [(0, 9, 12, 19), (0, 9, 16, 13)]) (by decide) rfl (Nat.le_of_ble_eq_true rfl) ?_
  intro p e s m below meth c ls S hr hlk htab hB hl
  obtain ⟨hx, hb, hml, hown, hts⟩ := id S
  obtain ⟨⟨hP, hK⟩, hG, hNc⟩ := hB
  have hPX : va_P G vwCl (wX a C K D Wt O n) s.heap := hP.sub [0, 1, 2, 3, 4] rfl
  have hKX : va_K G vwCl (tX C) s := hK.sub [0, 1, 2, 3] rfl
  have hS : va_S (aXo a oo) s.heap s.heap [] := va_S.rf
  have hl : lv_has ls 5 [(0, .ref (a 0)), (1, .int x0), (2, .int x1), (3, .ref oo)] := hl
  refine lv_aload_n hx hb dL_told_0 rfl (lv_at hl 3 rfl) ?_
  refine lv_iconst (v := 0) hx hb dL_told_1 (by decide) ?_
  refine lv_aload_n hx hb dL_told_2 rfl (lv_at hl 0 rfl) ?_
  refine lv_iload_n hx hb dL_told_3 rfl (lv_at hl 1 rfl) ?_
  refine lv_iload_n hx hb dL_told_4 rfl (lv_at hl 2 rfl) ?_
  refine rd_call (W.runV (As := [.int x0, .int x1]) (rest := [.int 0, .ref oo]) S hM (cwV 2 hts (gL_25 tb_cons) rfl rfl rfl (by decide +kernel) ⟨Nat.le_of_ble_eq_true rfl, Nat.le_of_ble_eq_true rfl⟩) (pX_V hPX hKX) rfl rfl hl.1 rfl (lv_room (Nat.le_of_ble_eq_true rfl)) dL_told_5 ⟨Nat.zero_le _, Nat.zero_le _⟩) ?_
  refine q_last hx hb hK hP (dXo hap _ _ _ _ _ _ _ _) hS 5 4 rfl rfl 0 rfl (by decide) (by decide) dL_told_8 (fun H locs hP hS => ?_)
  refine lv_goto (tgt := 20) hx hb dL_told_9 (by decide) ?_
  refine lv_iconst (v := 0) hx hb dL_told_20 (by decide) ?_
  refine W.widen (k := 1) (n := 6) (by omega) (by omega) ?_
  exact W.iret hx hb hr (fun t ht _ => ⟨rfl, by rw [ht]; exact hP, hS.F ht⟩) hS.2.2 dL_told_21
set_option maxHeartbeats 4000000 in
set_option maxRecDepth 100000 in
theorem lw_told_NS (l : Launch) (G : va_G) (a : Nat → Nat) (C : Nat → ClassId) (oo : Nat) (Co : ClassId) (hap : apXo a oo) (K D : Nat → Int64) (Wt O : Nat → Int32) (n : Int32) (f : Nat → Int64) {x0 : Int32} {x1 : Int32} (hM : tx_Met l yX0_told wsX0_told { frames := 6, cells := 1, slots := 6, locals := 90 } (va_Pc [.ref (a 0), .int x0, .int x1] (bX G a C K D Wt O n)) (th_Q ENS) 1 6 (fun _ => False)) : Met l yL_told wsL_told { frames := 8, cells := 1, slots := 6, locals := 150 } (va_Pc [.ref (a 0), .int x0, .int x1, .ref oo] (bXo G a C K D Wt O n oo Co f)) (wr_Q G vwCl (some (.int 1)) (wXo a C K D Wt O n oo Co f) (aXo a oo)) 1 6 (aXo a oo) := by
  refine q_openW (cc := cL_told) (maxL := 5) (ret := (some .int)) (hh := [(0, 9, 12, 19), (0, 9, 16, 13)]) (by decide) rfl (Nat.le_of_ble_eq_true rfl) ?_
  intro p e s m below meth c ls S hr hlk htab hB hl
  obtain ⟨hx, hb, hml, hown, hts⟩ := id S
  obtain ⟨⟨hP, hK⟩, hG, hNc⟩ := hB
  have hPX : va_P G vwCl (wX a C K D Wt O n) s.heap := hP.sub [0, 1, 2, 3, 4] rfl
  have hKX : va_K G vwCl (tX C) s := hK.sub [0, 1, 2, 3] rfl
  have hS : va_S (aXo a oo) s.heap s.heap [] := va_S.rf
  have hl : lv_has ls 5 [(0, .ref (a 0)), (1, .int x0), (2, .int x1), (3, .ref oo)] := hl
  refine lv_aload_n hx hb dL_told_0 rfl (lv_at hl 3 rfl) ?_
  refine lv_iconst (v := 0) hx hb dL_told_1 (by decide) ?_
  refine lv_aload_n hx hb dL_told_2 rfl (lv_at hl 0 rfl) ?_
  refine lv_iload_n hx hb dL_told_3 rfl (lv_at hl 1 rfl) ?_
  refine lv_iload_n hx hb dL_told_4 rfl (lv_at hl 2 rfl) ?_
  refine tx_runV (As := [.int x0, .int x1]) (rest := [.int 0, .ref oo]) S hM (cwV 2 hts (gL_25 tb_cons) rfl rfl rfl (by decide +kernel) ⟨Nat.le_of_ble_eq_true rfl, Nat.le_of_ble_eq_true rfl⟩) (pXb_V hPX hKX hG) rfl hl.1 rfl (lv_room (Nat.le_of_ble_eq_true rfl)) dL_told_5 ⟨Nat.le_of_ble_eq_true rfl, Nat.le_of_ble_eq_true rfl⟩ (fun o st t H1 L h0 h1 ha9 hq hL9 => ?_)
  obtain ⟨x9, ce, ho, h3, h5, h4, h6, h7⟩ := hq
  subst ho
  refine ⟨fun v hv => (by cases hv), fun x hx9 => ?_⟩
  cases hx9
  refine tx_catch1 (x := ⟨0, 9, 12, 19⟩) (rows := [⟨0, 9, 16, 13⟩]) (cls := ENS) htab (by decide) (by decide) hown (hts _ (tb_cons _ w_cl_L_19)) (by rw [← h1]; exact h3) h5 (by rw [← ha9.findClass]; exact h4) ?_
  have hh : ∀ q : Nat, q < s.heap.size → H1[q]? = s.heap[q]? := fun q hq => by rw [← h1, ← h0]; exact h7 q (by rw [h0]; exact hq)
  have hP := keepXo hP hh
  refine lv_astore hx hb dL_told_12 hl (by decide) rfl (fun ls hl => ?_)
  have hl : lv_has ls 5 [(4, .ref x9), (0, .ref (a 0)), (1, .int x0), (2, .int x1), (3, .ref oo)] := hl
  refine lv_iconst (v := 1) hx hb dL_told_14 (by decide) ?_
  exact W.iret hx hb hr (fun u hu _ => ⟨rfl, by rw [hu]; exact hP, by rw [hu, ← h1, ← h0]; exact h6, fun q hq _ => by rw [hu]; exact hh q hq⟩) (fun q hq => (hL9 q hq).elim) dL_told_15
set_option maxHeartbeats 4000000 in
set_option maxRecDepth 100000 in
theorem lw_told_IA (l : Launch) (G : va_G) (a : Nat → Nat) (C : Nat → ClassId) (oo : Nat) (Co : ClassId) (hap : apXo a oo) (K D : Nat → Int64) (Wt O : Nat → Int32) (n : Int32) (f : Nat → Int64) {x0 : Int32} {x1 : Int32} (hM : tx_Met l yX0_told wsX0_told { frames := 6, cells := 1, slots := 6, locals := 90 } (va_Pc [.ref (a 0), .int x0, .int x1] (bX G a C K D Wt O n)) (th_Q EIA) 1 6 (fun _ => False)) : Met l yL_told wsL_told { frames := 8, cells := 1, slots := 6, locals := 150 } (va_Pc [.ref (a 0), .int x0, .int x1, .ref oo] (bXo G a C K D Wt O n oo Co f)) (wr_Q G vwCl (some (.int 2)) (wXo a C K D Wt O n oo Co f) (aXo a oo)) 1 6 (aXo a oo) := by
  refine q_openW (cc := cL_told) (maxL := 5) (ret := (some .int)) (hh := [(0, 9, 12, 19), (0, 9, 16, 13)]) (by decide) rfl (Nat.le_of_ble_eq_true rfl) ?_
  intro p e s m below meth c ls S hr hlk htab hB hl
  obtain ⟨hx, hb, hml, hown, hts⟩ := id S
  obtain ⟨⟨hP, hK⟩, hG, hNc⟩ := hB
  have hPX : va_P G vwCl (wX a C K D Wt O n) s.heap := hP.sub [0, 1, 2, 3, 4] rfl
  have hKX : va_K G vwCl (tX C) s := hK.sub [0, 1, 2, 3] rfl
  have hS : va_S (aXo a oo) s.heap s.heap [] := va_S.rf
  have hl : lv_has ls 5 [(0, .ref (a 0)), (1, .int x0), (2, .int x1), (3, .ref oo)] := hl
  refine lv_aload_n hx hb dL_told_0 rfl (lv_at hl 3 rfl) ?_
  refine lv_iconst (v := 0) hx hb dL_told_1 (by decide) ?_
  refine lv_aload_n hx hb dL_told_2 rfl (lv_at hl 0 rfl) ?_
  refine lv_iload_n hx hb dL_told_3 rfl (lv_at hl 1 rfl) ?_
  refine lv_iload_n hx hb dL_told_4 rfl (lv_at hl 2 rfl) ?_
  refine tx_runV (As := [.int x0, .int x1]) (rest := [.int 0, .ref oo]) S hM (cwV 2 hts (gL_25 tb_cons) rfl rfl rfl (by decide +kernel) ⟨Nat.le_of_ble_eq_true rfl, Nat.le_of_ble_eq_true rfl⟩) (pXb_V hPX hKX hG) rfl hl.1 rfl (lv_room (Nat.le_of_ble_eq_true rfl)) dL_told_5 ⟨Nat.le_of_ble_eq_true rfl, Nat.le_of_ble_eq_true rfl⟩ (fun o st t H1 L h0 h1 ha9 hq hL9 => ?_)
  obtain ⟨x9, ce, ho, h3, h5, h4, h6, h7⟩ := hq
  subst ho
  refine ⟨fun v hv => (by cases hv), fun x hx9 => ?_⟩
  cases hx9
  refine tx_catch2 (x := ⟨0, 9, 12, 19⟩) (y := ⟨0, 9, 16, 13⟩) (rows := []) (cls := EIA) (other := ENS) htab (by decide) (by decide) (by decide) (by decide) hown (hts _ (tb_cons _ w_cl_L_19)) hNc (hts _ (tb_cons _ w_cl_L_13)) (by rw [← h1]; exact h3) h5 (by rw [← ha9.findClass]; exact h4) ?_
  have hh : ∀ q : Nat, q < s.heap.size → H1[q]? = s.heap[q]? := fun q hq => by rw [← h1, ← h0]; exact h7 q (by rw [h0]; exact hq)
  have hP := keepXo hP hh
  refine lv_astore hx hb dL_told_16 hl (by decide) rfl (fun ls hl => ?_)
  have hl : lv_has ls 5 [(4, .ref x9), (0, .ref (a 0)), (1, .int x0), (2, .int x1), (3, .ref oo)] := hl
  refine lv_iconst (v := 2) hx hb dL_told_18 (by decide) ?_
  exact W.iret hx hb hr (fun u hu _ => ⟨rfl, by rw [hu]; exact hP, by rw [hu, ← h1, ← h0]; exact h6, fun q hq _ => by rw [hu]; exact hh q hq⟩) (fun q hq => (hL9 q hq).elim) dL_told_19
set_option maxHeartbeats 4000000 in
set_option maxRecDepth 100000 in
theorem lw_at_ok (l : Launch) (G : va_G) (a : Nat → Nat) (C : Nat → ClassId) (oo : Nat) (Co : ClassId) (hap : apXo a oo) (K D : Nat → Int64) (Wt O : Nat → Int32) (n : Int32) (f : Nat → Int64) {x0 : Int32} {v : Int32} (hM : Met l yX0_at wsX0_at rm0 (va_Pc [.ref (a 0), .int x0] (rX G a C K D Wt O n)) (rd_Q (.int v)) 0 0 (fun _ => False)) : Met l yL_at wsL_at { frames := 8, cells := 1, slots := 6, locals := 150 } (va_Pc [.ref (a 0), .int x0, .ref oo] (bXo G a C K D Wt O n oo Co f)) (wr_Q G vwCl (some (.int 0)) (wXo a C K D Wt O n oo Co (vp_updL f 0 v.toInt64)) (aXo a oo)) 1 6 (aXo a oo) := by
  refine q_openW (cc := cL_at) (maxL := 4) (ret := (some .int)) (hh := [(0, 9, 12, 19)]) (by decide) rfl (Nat.le_of_ble_eq_true rfl) ?_
  intro p e s m below meth c ls S hr hlk htab hB hl
  obtain ⟨hx, hb, hml, hown, hts⟩ := id S
  obtain ⟨⟨hP, hK⟩, hG, hNc⟩ := hB
  have hPX : va_P G vwCl (wX a C K D Wt O n) s.heap := hP.sub [0, 1, 2, 3, 4] rfl
  have hKX : va_K G vwCl (tX C) s := hK.sub [0, 1, 2, 3] rfl
  have hS : va_S (aXo a oo) s.heap s.heap [] := va_S.rf
  have hl : lv_has ls 4 [(0, .ref (a 0)), (1, .int x0), (2, .ref oo)] := hl
  refine lv_aload_n hx hb dL_at_0 rfl (lv_at hl 2 rfl) ?_
  refine lv_iconst (v := 0) hx hb dL_at_1 (by decide) ?_
  refine lv_aload_n hx hb dL_at_2 rfl (lv_at hl 0 rfl) ?_
  refine lv_iload_n hx hb dL_at_3 rfl (lv_at hl 1 rfl) ?_
  refine rd_call (W.runV (As := [.int x0]) (rest := [.int 0, .ref oo]) S hM (cwV 1 hts (gL_29 tb_cons) rfl rfl rfl (by decide +kernel) ⟨Nat.le_of_ble_eq_true rfl, Nat.le_of_ble_eq_true rfl⟩) (pX_V hPX hKX) rfl rfl hl.1 rfl (lv_room (Nat.le_of_ble_eq_true rfl)) dL_at_4 ⟨Nat.zero_le _, Nat.zero_le _⟩) ?_
  refine lv_i2l hx hb dL_at_7 rfl ?_
  refine q_last hx hb hK hP (dXo hap _ _ _ _ _ _ _ _) hS 5 4 rfl rfl 0 rfl (by decide) (by decide) dL_at_8 (fun H locs hP hS => ?_)
  refine lv_goto (tgt := 15) hx hb dL_at_9 (by decide) ?_
  refine lv_iconst (v := 0) hx hb dL_at_15 (by decide) ?_
  refine W.widen (k := 1) (n := 6) (by omega) (by omega) ?_
  exact W.iret hx hb hr (fun t ht _ => ⟨rfl, by rw [ht]; exact hP, hS.F ht⟩) hS.2.2 dL_at_16
set_option maxHeartbeats 4000000 in
set_option maxRecDepth 100000 in
theorem lw_at_NS (l : Launch) (G : va_G) (a : Nat → Nat) (C : Nat → ClassId) (oo : Nat) (Co : ClassId) (hap : apXo a oo) (K D : Nat → Int64) (Wt O : Nat → Int32) (n : Int32) (f : Nat → Int64) {x0 : Int32} (hM : tx_Met l yX0_at wsX0_at { frames := 6, cells := 1, slots := 6, locals := 90 } (va_Pc [.ref (a 0), .int x0] (bX G a C K D Wt O n)) (th_Q ENS) 1 6 (fun _ => False)) : Met l yL_at wsL_at { frames := 8, cells := 1, slots := 6, locals := 150 } (va_Pc [.ref (a 0), .int x0, .ref oo] (bXo G a C K D Wt O n oo Co f)) (wr_Q G vwCl (some (.int 1)) (wXo a C K D Wt O n oo Co f) (aXo a oo)) 1 6 (aXo a oo) := by
  refine q_openW (cc := cL_at) (maxL := 4) (ret := (some .int)) (hh := [(0, 9, 12, 19)]) (by decide) rfl (Nat.le_of_ble_eq_true rfl) ?_
  intro p e s m below meth c ls S hr hlk htab hB hl
  obtain ⟨hx, hb, hml, hown, hts⟩ := id S
  obtain ⟨⟨hP, hK⟩, hG, hNc⟩ := hB
  have hPX : va_P G vwCl (wX a C K D Wt O n) s.heap := hP.sub [0, 1, 2, 3, 4] rfl
  have hKX : va_K G vwCl (tX C) s := hK.sub [0, 1, 2, 3] rfl
  have hS : va_S (aXo a oo) s.heap s.heap [] := va_S.rf
  have hl : lv_has ls 4 [(0, .ref (a 0)), (1, .int x0), (2, .ref oo)] := hl
  refine lv_aload_n hx hb dL_at_0 rfl (lv_at hl 2 rfl) ?_
  refine lv_iconst (v := 0) hx hb dL_at_1 (by decide) ?_
  refine lv_aload_n hx hb dL_at_2 rfl (lv_at hl 0 rfl) ?_
  refine lv_iload_n hx hb dL_at_3 rfl (lv_at hl 1 rfl) ?_
  refine tx_runV (As := [.int x0]) (rest := [.int 0, .ref oo]) S hM (cwV 1 hts (gL_29 tb_cons) rfl rfl rfl (by decide +kernel) ⟨Nat.le_of_ble_eq_true rfl, Nat.le_of_ble_eq_true rfl⟩) (pXb_V hPX hKX hG) rfl hl.1 rfl (lv_room (Nat.le_of_ble_eq_true rfl)) dL_at_4 ⟨Nat.le_of_ble_eq_true rfl, Nat.le_of_ble_eq_true rfl⟩ (fun o st t H1 L h0 h1 ha9 hq hL9 => ?_)
  obtain ⟨x9, ce, ho, h3, h5, h4, h6, h7⟩ := hq
  subst ho
  refine ⟨fun v hv => (by cases hv), fun x hx9 => ?_⟩
  cases hx9
  refine tx_catch1 (x := ⟨0, 9, 12, 19⟩) (rows := []) (cls := ENS) htab (by decide) (by decide) hown (hts _ (tb_cons _ w_cl_L_19)) (by rw [← h1]; exact h3) h5 (by rw [← ha9.findClass]; exact h4) ?_
  have hh : ∀ q : Nat, q < s.heap.size → H1[q]? = s.heap[q]? := fun q hq => by rw [← h1, ← h0]; exact h7 q (by rw [h0]; exact hq)
  have hP := keepXo hP hh
  refine lv_astore_n hx hb dL_at_12 rfl hl (by decide) rfl (fun ls hl => ?_)
  have hl : lv_has ls 4 [(3, .ref x9), (0, .ref (a 0)), (1, .int x0), (2, .ref oo)] := hl
  refine lv_iconst (v := 1) hx hb dL_at_13 (by decide) ?_
  exact W.iret hx hb hr (fun u hu _ => ⟨rfl, by rw [hu]; exact hP, by rw [hu, ← h1, ← h0]; exact h6, fun q hq _ => by rw [hu]; exact hh q hq⟩) (fun q hq => (hL9 q hq).elim) dL_at_14
set_option maxHeartbeats 4000000 in
set_option maxRecDepth 100000 in
theorem lw_rank_ok (l : Launch) (G : va_G) (a : Nat → Nat) (C : Nat → ClassId) (oo : Nat) (Co : ClassId) (hap : apXo a oo) (K D : Nat → Int64) (Wt O : Nat → Int32) (n : Int32) (f : Nat → Int64) {x0 : Int32} {v : Int32} (hM : Met l yX0_rank wsX0_rank { frames := 2, cells := 0, slots := 0, locals := 60 } (va_Pc [.ref (a 0), .int x0] (rX G a C K D Wt O n)) (rd_Q (.int v)) 0 0 (fun _ => False)) : Met l yL_rank wsL_rank { frames := 8, cells := 1, slots := 6, locals := 150 } (va_Pc [.ref (a 0), .int x0, .ref oo] (bXo G a C K D Wt O n oo Co f)) (wr_Q G vwCl (some (.int 0)) (wXo a C K D Wt O n oo Co (vp_updL f 0 v.toInt64)) (aXo a oo)) 1 6 (aXo a oo) := by
  refine q_openW (cc := cL_rank) (maxL := 4) (ret := (some .int)) (hh := [(0, 9, 12, 19)]) (by decide) rfl (Nat.le_of_ble_eq_true rfl) ?_
  intro p e s m below meth c ls S hr hlk htab hB hl
  obtain ⟨hx, hb, hml, hown, hts⟩ := id S
  obtain ⟨⟨hP, hK⟩, hG, hNc⟩ := hB
  have hPX : va_P G vwCl (wX a C K D Wt O n) s.heap := hP.sub [0, 1, 2, 3, 4] rfl
  have hKX : va_K G vwCl (tX C) s := hK.sub [0, 1, 2, 3] rfl
  have hS : va_S (aXo a oo) s.heap s.heap [] := va_S.rf
  have hl : lv_has ls 4 [(0, .ref (a 0)), (1, .int x0), (2, .ref oo)] := hl
  refine lv_aload_n hx hb dL_rank_0 rfl (lv_at hl 2 rfl) ?_
  refine lv_iconst (v := 0) hx hb dL_rank_1 (by decide) ?_
  refine lv_aload_n hx hb dL_rank_2 rfl (lv_at hl 0 rfl) ?_
  refine lv_iload_n hx hb dL_rank_3 rfl (lv_at hl 1 rfl) ?_
  refine rd_call (W.runV (As := [.int x0]) (rest := [.int 0, .ref oo]) S hM (cwV 1 hts (gL_32 tb_cons) rfl rfl rfl (by decide +kernel) ⟨Nat.le_of_ble_eq_true rfl, Nat.le_of_ble_eq_true rfl⟩) (pX_V hPX hKX) rfl rfl hl.1 rfl (lv_room (Nat.le_of_ble_eq_true rfl)) dL_rank_4 ⟨Nat.zero_le _, Nat.zero_le _⟩) ?_
  refine lv_i2l hx hb dL_rank_7 rfl ?_
  refine q_last hx hb hK hP (dXo hap _ _ _ _ _ _ _ _) hS 5 4 rfl rfl 0 rfl (by decide) (by decide) dL_rank_8 (fun H locs hP hS => ?_)
  refine lv_goto (tgt := 15) hx hb dL_rank_9 (by decide) ?_
  refine lv_iconst (v := 0) hx hb dL_rank_15 (by decide) ?_
  refine W.widen (k := 1) (n := 6) (by omega) (by omega) ?_
  exact W.iret hx hb hr (fun t ht _ => ⟨rfl, by rw [ht]; exact hP, hS.F ht⟩) hS.2.2 dL_rank_16
set_option maxHeartbeats 4000000 in
set_option maxRecDepth 100000 in
theorem lw_rank_NS (l : Launch) (G : va_G) (a : Nat → Nat) (C : Nat → ClassId) (oo : Nat) (Co : ClassId) (hap : apXo a oo) (K D : Nat → Int64) (Wt O : Nat → Int32) (n : Int32) (f : Nat → Int64) {x0 : Int32} (hM : tx_Met l yX0_rank wsX0_rank { frames := 6, cells := 1, slots := 6, locals := 90 } (va_Pc [.ref (a 0), .int x0] (bX G a C K D Wt O n)) (th_Q ENS) 1 6 (fun _ => False)) : Met l yL_rank wsL_rank { frames := 8, cells := 1, slots := 6, locals := 150 } (va_Pc [.ref (a 0), .int x0, .ref oo] (bXo G a C K D Wt O n oo Co f)) (wr_Q G vwCl (some (.int 1)) (wXo a C K D Wt O n oo Co f) (aXo a oo)) 1 6 (aXo a oo) := by
  refine q_openW (cc := cL_rank) (maxL := 4) (ret := (some .int)) (hh := [(0, 9, 12, 19)]) (by decide) rfl (Nat.le_of_ble_eq_true rfl) ?_
  intro p e s m below meth c ls S hr hlk htab hB hl
  obtain ⟨hx, hb, hml, hown, hts⟩ := id S
  obtain ⟨⟨hP, hK⟩, hG, hNc⟩ := hB
  have hPX : va_P G vwCl (wX a C K D Wt O n) s.heap := hP.sub [0, 1, 2, 3, 4] rfl
  have hKX : va_K G vwCl (tX C) s := hK.sub [0, 1, 2, 3] rfl
  have hS : va_S (aXo a oo) s.heap s.heap [] := va_S.rf
  have hl : lv_has ls 4 [(0, .ref (a 0)), (1, .int x0), (2, .ref oo)] := hl
  refine lv_aload_n hx hb dL_rank_0 rfl (lv_at hl 2 rfl) ?_
  refine lv_iconst (v := 0) hx hb dL_rank_1 (by decide) ?_
  refine lv_aload_n hx hb dL_rank_2 rfl (lv_at hl 0 rfl) ?_
  refine lv_iload_n hx hb dL_rank_3 rfl (lv_at hl 1 rfl) ?_
  refine tx_runV (As := [.int x0]) (rest := [.int 0, .ref oo]) S hM (cwV 1 hts (gL_32 tb_cons) rfl rfl rfl (by decide +kernel) ⟨Nat.le_of_ble_eq_true rfl, Nat.le_of_ble_eq_true rfl⟩) (pXb_V hPX hKX hG) rfl hl.1 rfl (lv_room (Nat.le_of_ble_eq_true rfl)) dL_rank_4 ⟨Nat.le_of_ble_eq_true rfl, Nat.le_of_ble_eq_true rfl⟩ (fun o st t H1 L h0 h1 ha9 hq hL9 => ?_)
  obtain ⟨x9, ce, ho, h3, h5, h4, h6, h7⟩ := hq
  subst ho
  refine ⟨fun v hv => (by cases hv), fun x hx9 => ?_⟩
  cases hx9
  refine tx_catch1 (x := ⟨0, 9, 12, 19⟩) (rows := []) (cls := ENS) htab (by decide) (by decide) hown (hts _ (tb_cons _ w_cl_L_19)) (by rw [← h1]; exact h3) h5 (by rw [← ha9.findClass]; exact h4) ?_
  have hh : ∀ q : Nat, q < s.heap.size → H1[q]? = s.heap[q]? := fun q hq => by rw [← h1, ← h0]; exact h7 q (by rw [h0]; exact hq)
  have hP := keepXo hP hh
  refine lv_astore_n hx hb dL_rank_12 rfl hl (by decide) rfl (fun ls hl => ?_)
  have hl : lv_has ls 4 [(3, .ref x9), (0, .ref (a 0)), (1, .int x0), (2, .ref oo)] := hl
  refine lv_iconst (v := 1) hx hb dL_rank_13 (by decide) ?_
  exact W.iret hx hb hr (fun u hu _ => ⟨rfl, by rw [hu]; exact hP, by rw [hu, ← h1, ← h0]; exact h6, fun q hq _ => by rw [hu]; exact hh q hq⟩) (fun q hq => (hL9 q hq).elim) dL_rank_14
set_option maxHeartbeats 4000000 in
set_option maxRecDepth 100000 in
theorem lw_earliest_ok (l : Launch) (G : va_G) (a : Nat → Nat) (C : Nat → ClassId) (oo : Nat) (Co : ClassId) (hap : apXo a oo) (K D : Nat → Int64) (Wt O : Nat → Int32) (n : Int32) (f : Nat → Int64) {x0 : Int64} {v : Int32} (hM : Met l yX0_earliest wsX0_earliest { frames := 3, cells := 0, slots := 0, locals := 90 } (va_Pc [.ref (a 0), .long x0] (rX G a C K D Wt O n)) (rd_Q (.int v)) 0 0 (fun _ => False)) : Met l yL_earliest wsL_earliest { frames := 8, cells := 1, slots := 6, locals := 150 } (va_Pc [.ref (a 0), .long x0, .ref oo] (bXo G a C K D Wt O n oo Co f)) (wr_Q G vwCl (some (.int 0)) (wXo a C K D Wt O n oo Co (vp_updL f 0 v.toInt64)) (aXo a oo)) 1 6 (aXo a oo) := by
  refine q_openW (cc := cL_earliest) (maxL := 5) (ret := (some .int)) (hh := [(0, 9, 12, 19)]) (by decide) rfl (Nat.le_of_ble_eq_true rfl) ?_
  intro p e s m below meth c ls S hr hlk htab hB hl
  obtain ⟨hx, hb, hml, hown, hts⟩ := id S
  obtain ⟨⟨hP, hK⟩, hG, hNc⟩ := hB
  have hPX : va_P G vwCl (wX a C K D Wt O n) s.heap := hP.sub [0, 1, 2, 3, 4] rfl
  have hKX : va_K G vwCl (tX C) s := hK.sub [0, 1, 2, 3] rfl
  have hS : va_S (aXo a oo) s.heap s.heap [] := va_S.rf
  have hl : lv_has ls 5 [(0, .ref (a 0)), (1, .long x0), (3, .ref oo)] := hl
  refine lv_aload_n hx hb dL_earliest_0 rfl (lv_at hl 2 rfl) ?_
  refine lv_iconst (v := 0) hx hb dL_earliest_1 (by decide) ?_
  refine lv_aload_n hx hb dL_earliest_2 rfl (lv_at hl 0 rfl) ?_
  refine lv_lload_n hx hb dL_earliest_3 rfl (lv_at hl 1 rfl) ?_
  refine rd_call (W.runV (As := [.long x0]) (rest := [.int 0, .ref oo]) S hM (cwV 1 hts (gL_35 tb_cons) rfl rfl rfl (by decide +kernel) ⟨Nat.le_of_ble_eq_true rfl, Nat.le_of_ble_eq_true rfl⟩) (pX_V hPX hKX) rfl rfl hl.1 rfl (lv_room (Nat.le_of_ble_eq_true rfl)) dL_earliest_4 ⟨Nat.zero_le _, Nat.zero_le _⟩) ?_
  refine lv_i2l hx hb dL_earliest_7 rfl ?_
  refine q_last hx hb hK hP (dXo hap _ _ _ _ _ _ _ _) hS 5 4 rfl rfl 0 rfl (by decide) (by decide) dL_earliest_8 (fun H locs hP hS => ?_)
  refine lv_goto (tgt := 16) hx hb dL_earliest_9 (by decide) ?_
  refine lv_iconst (v := 0) hx hb dL_earliest_16 (by decide) ?_
  refine W.widen (k := 1) (n := 6) (by omega) (by omega) ?_
  exact W.iret hx hb hr (fun t ht _ => ⟨rfl, by rw [ht]; exact hP, hS.F ht⟩) hS.2.2 dL_earliest_17
set_option maxHeartbeats 4000000 in
set_option maxRecDepth 100000 in
theorem lw_earliest_NS (l : Launch) (G : va_G) (a : Nat → Nat) (C : Nat → ClassId) (oo : Nat) (Co : ClassId) (hap : apXo a oo) (K D : Nat → Int64) (Wt O : Nat → Int32) (n : Int32) (f : Nat → Int64) {x0 : Int64} (hM : tx_Met l yX0_earliest wsX0_earliest { frames := 7, cells := 1, slots := 6, locals := 120 } (va_Pc [.ref (a 0), .long x0] (bX G a C K D Wt O n)) (th_Q ENS) 1 6 (fun _ => False)) : Met l yL_earliest wsL_earliest { frames := 8, cells := 1, slots := 6, locals := 150 } (va_Pc [.ref (a 0), .long x0, .ref oo] (bXo G a C K D Wt O n oo Co f)) (wr_Q G vwCl (some (.int 1)) (wXo a C K D Wt O n oo Co f) (aXo a oo)) 1 6 (aXo a oo) := by
  refine q_openW (cc := cL_earliest) (maxL := 5) (ret := (some .int)) (hh := [(0, 9, 12, 19)]) (by decide) rfl (Nat.le_of_ble_eq_true rfl) ?_
  intro p e s m below meth c ls S hr hlk htab hB hl
  obtain ⟨hx, hb, hml, hown, hts⟩ := id S
  obtain ⟨⟨hP, hK⟩, hG, hNc⟩ := hB
  have hPX : va_P G vwCl (wX a C K D Wt O n) s.heap := hP.sub [0, 1, 2, 3, 4] rfl
  have hKX : va_K G vwCl (tX C) s := hK.sub [0, 1, 2, 3] rfl
  have hS : va_S (aXo a oo) s.heap s.heap [] := va_S.rf
  have hl : lv_has ls 5 [(0, .ref (a 0)), (1, .long x0), (3, .ref oo)] := hl
  refine lv_aload_n hx hb dL_earliest_0 rfl (lv_at hl 2 rfl) ?_
  refine lv_iconst (v := 0) hx hb dL_earliest_1 (by decide) ?_
  refine lv_aload_n hx hb dL_earliest_2 rfl (lv_at hl 0 rfl) ?_
  refine lv_lload_n hx hb dL_earliest_3 rfl (lv_at hl 1 rfl) ?_
  refine tx_runV (As := [.long x0]) (rest := [.int 0, .ref oo]) S hM (cwV 1 hts (gL_35 tb_cons) rfl rfl rfl (by decide +kernel) ⟨Nat.le_of_ble_eq_true rfl, Nat.le_of_ble_eq_true rfl⟩) (pXb_V hPX hKX hG) rfl hl.1 rfl (lv_room (Nat.le_of_ble_eq_true rfl)) dL_earliest_4 ⟨Nat.le_of_ble_eq_true rfl, Nat.le_of_ble_eq_true rfl⟩ (fun o st t H1 L h0 h1 ha9 hq hL9 => ?_)
  obtain ⟨x9, ce, ho, h3, h5, h4, h6, h7⟩ := hq
  subst ho
  refine ⟨fun v hv => (by cases hv), fun x hx9 => ?_⟩
  cases hx9
  refine tx_catch1 (x := ⟨0, 9, 12, 19⟩) (rows := []) (cls := ENS) htab (by decide) (by decide) hown (hts _ (tb_cons _ w_cl_L_19)) (by rw [← h1]; exact h3) h5 (by rw [← ha9.findClass]; exact h4) ?_
  have hh : ∀ q : Nat, q < s.heap.size → H1[q]? = s.heap[q]? := fun q hq => by rw [← h1, ← h0]; exact h7 q (by rw [h0]; exact hq)
  have hP := keepXo hP hh
  refine lv_astore hx hb dL_earliest_12 hl (by decide) rfl (fun ls hl => ?_)
  have hl : lv_has ls 5 [(4, .ref x9), (0, .ref (a 0)), (1, .long x0), (3, .ref oo)] := hl
  refine lv_iconst (v := 1) hx hb dL_earliest_14 (by decide) ?_
  exact W.iret hx hb hr (fun u hu _ => ⟨rfl, by rw [hu]; exact hP, by rw [hu, ← h1, ← h0]; exact h6, fun q hq _ => by rw [hu]; exact hh q hq⟩) (fun q hq => (hL9 q hq).elim) dL_earliest_15
set_option maxHeartbeats 4000000 in
set_option maxRecDepth 100000 in
theorem lw_between_ok (l : Launch) (G : va_G) (a : Nat → Nat) (C : Nat → ClassId) (oo : Nat) (Co : ClassId) (hap : apXo a oo) (K D : Nat → Int64) (Wt O : Nat → Int32) (n : Int32) (f : Nat → Int64) {x0 : Int64} {x1 : Int64} {v : Int32} (hM : Met l yX0_between wsX0_between { frames := 3, cells := 0, slots := 0, locals := 90 } (va_Pc [.ref (a 0), .long x0, .long x1] (rX G a C K D Wt O n)) (rd_Q (.int v)) 0 0 (fun _ => False)) : Met l yL_between wsL_between { frames := 8, cells := 1, slots := 6, locals := 150 } (va_Pc [.ref (a 0), .long x0, .long x1, .ref oo] (bXo G a C K D Wt O n oo Co f)) (wr_Q G vwCl (some (.int 0)) (wXo a C K D Wt O n oo Co (vp_updL f 0 v.toInt64)) (aXo a oo)) 1 6 (aXo a oo) := by
  refine q_openW (cc := cL_between) (maxL := 7) (ret := (some .int)) (hh := [(0, 11, 14, 19)]) (by decide) rfl (Nat.le_of_ble_eq_true rfl) ?_
  intro p e s m below meth c ls S hr hlk htab hB hl
  obtain ⟨hx, hb, hml, hown, hts⟩ := id S
  obtain ⟨⟨hP, hK⟩, hG, hNc⟩ := hB
  have hPX : va_P G vwCl (wX a C K D Wt O n) s.heap := hP.sub [0, 1, 2, 3, 4] rfl
  have hKX : va_K G vwCl (tX C) s := hK.sub [0, 1, 2, 3] rfl
  have hS : va_S (aXo a oo) s.heap s.heap [] := va_S.rf
  have hl : lv_has ls 7 [(0, .ref (a 0)), (1, .long x0), (3, .long x1), (5, .ref oo)] := hl
  refine lv_aload hx hb dL_between_0 (lv_at hl 3 rfl) ?_
  refine lv_iconst (v := 0) hx hb dL_between_2 (by decide) ?_
  refine lv_aload_n hx hb dL_between_3 rfl (lv_at hl 0 rfl) ?_
  refine lv_lload_n hx hb dL_between_4 rfl (lv_at hl 1 rfl) ?_
  refine lv_lload_n hx hb dL_between_5 rfl (lv_at hl 2 rfl) ?_
  refine rd_call (W.runV (As := [.long x0, .long x1]) (rest := [.int 0, .ref oo]) S hM (cwV 2 hts (gL_39 tb_cons) rfl rfl rfl (by decide +kernel) ⟨Nat.le_of_ble_eq_true rfl, Nat.le_of_ble_eq_true rfl⟩) (pX_V hPX hKX) rfl rfl hl.1 rfl (lv_room (Nat.le_of_ble_eq_true rfl)) dL_between_6 ⟨Nat.zero_le _, Nat.zero_le _⟩) ?_
  refine lv_i2l hx hb dL_between_9 rfl ?_
  refine q_last hx hb hK hP (dXo hap _ _ _ _ _ _ _ _) hS 5 4 rfl rfl 0 rfl (by decide) (by decide) dL_between_10 (fun H locs hP hS => ?_)
  refine lv_goto (tgt := 18) hx hb dL_between_11 (by decide) ?_
  refine lv_iconst (v := 0) hx hb dL_between_18 (by decide) ?_
  refine W.widen (k := 1) (n := 6) (by omega) (by omega) ?_
  exact W.iret hx hb hr (fun t ht _ => ⟨rfl, by rw [ht]; exact hP, hS.F ht⟩) hS.2.2 dL_between_19
set_option maxHeartbeats 4000000 in
set_option maxRecDepth 100000 in
theorem lw_between_NS (l : Launch) (G : va_G) (a : Nat → Nat) (C : Nat → ClassId) (oo : Nat) (Co : ClassId) (hap : apXo a oo) (K D : Nat → Int64) (Wt O : Nat → Int32) (n : Int32) (f : Nat → Int64) {x0 : Int64} {x1 : Int64} (hM : tx_Met l yX0_between wsX0_between { frames := 7, cells := 1, slots := 6, locals := 120 } (va_Pc [.ref (a 0), .long x0, .long x1] (bX G a C K D Wt O n)) (th_Q ENS) 1 6 (fun _ => False)) : Met l yL_between wsL_between { frames := 8, cells := 1, slots := 6, locals := 150 } (va_Pc [.ref (a 0), .long x0, .long x1, .ref oo] (bXo G a C K D Wt O n oo Co f)) (wr_Q G vwCl (some (.int 1)) (wXo a C K D Wt O n oo Co f) (aXo a oo)) 1 6 (aXo a oo) := by
  refine q_openW (cc := cL_between) (maxL := 7) (ret := (some .int)) (hh := [(0, 11, 14, 19)]) (by decide) rfl (Nat.le_of_ble_eq_true rfl) ?_
  intro p e s m below meth c ls S hr hlk htab hB hl
  obtain ⟨hx, hb, hml, hown, hts⟩ := id S
  obtain ⟨⟨hP, hK⟩, hG, hNc⟩ := hB
  have hPX : va_P G vwCl (wX a C K D Wt O n) s.heap := hP.sub [0, 1, 2, 3, 4] rfl
  have hKX : va_K G vwCl (tX C) s := hK.sub [0, 1, 2, 3] rfl
  have hS : va_S (aXo a oo) s.heap s.heap [] := va_S.rf
  have hl : lv_has ls 7 [(0, .ref (a 0)), (1, .long x0), (3, .long x1), (5, .ref oo)] := hl
  refine lv_aload hx hb dL_between_0 (lv_at hl 3 rfl) ?_
  refine lv_iconst (v := 0) hx hb dL_between_2 (by decide) ?_
  refine lv_aload_n hx hb dL_between_3 rfl (lv_at hl 0 rfl) ?_
  refine lv_lload_n hx hb dL_between_4 rfl (lv_at hl 1 rfl) ?_
  refine lv_lload_n hx hb dL_between_5 rfl (lv_at hl 2 rfl) ?_
  refine tx_runV (As := [.long x0, .long x1]) (rest := [.int 0, .ref oo]) S hM (cwV 2 hts (gL_39 tb_cons) rfl rfl rfl (by decide +kernel) ⟨Nat.le_of_ble_eq_true rfl, Nat.le_of_ble_eq_true rfl⟩) (pXb_V hPX hKX hG) rfl hl.1 rfl (lv_room (Nat.le_of_ble_eq_true rfl)) dL_between_6 ⟨Nat.le_of_ble_eq_true rfl, Nat.le_of_ble_eq_true rfl⟩ (fun o st t H1 L h0 h1 ha9 hq hL9 => ?_)
  obtain ⟨x9, ce, ho, h3, h5, h4, h6, h7⟩ := hq
  subst ho
  refine ⟨fun v hv => (by cases hv), fun x hx9 => ?_⟩
  cases hx9
  refine tx_catch1 (x := ⟨0, 11, 14, 19⟩) (rows := []) (cls := ENS) htab (by decide) (by decide) hown (hts _ (tb_cons _ w_cl_L_19)) (by rw [← h1]; exact h3) h5 (by rw [← ha9.findClass]; exact h4) ?_
  have hh : ∀ q : Nat, q < s.heap.size → H1[q]? = s.heap[q]? := fun q hq => by rw [← h1, ← h0]; exact h7 q (by rw [h0]; exact hq)
  have hP := keepXo hP hh
  refine lv_astore hx hb dL_between_14 hl (by decide) rfl (fun ls hl => ?_)
  have hl : lv_has ls 7 [(6, .ref x9), (0, .ref (a 0)), (1, .long x0), (3, .long x1), (5, .ref oo)] := hl
  refine lv_iconst (v := 1) hx hb dL_between_16 (by decide) ?_
  exact W.iret hx hb hr (fun u hu _ => ⟨rfl, by rw [hu]; exact hP, by rw [hu, ← h1, ← h0]; exact h6, fun q hq _ => by rw [hu]; exact hh q hq⟩) (fun q hq => (hL9 q hq).elim) dL_between_17
set_option maxHeartbeats 4000000 in
set_option maxRecDepth 100000 in
theorem lw_pick_ok (l : Launch) (G : va_G) (a : Nat → Nat) (C : Nat → ClassId) (oo : Nat) (Co : ClassId) (hap : apXo a oo) (K D : Nat → Int64) (Wt O : Nat → Int32) (n : Int32) (f : Nat → Int64) {v : Int32} (hM : Met l yX0_pick wsX0_pick { frames := 3, cells := 0, slots := 0, locals := 90 } (va_Pc [.ref (a 0)] (rX G a C K D Wt O n)) (rd_Q (.int v)) 0 0 (fun _ => False)) : Met l yL_pick wsL_pick { frames := 8, cells := 1, slots := 6, locals := 150 } (va_Pc [.ref (a 0), .ref oo] (bXo G a C K D Wt O n oo Co f)) (wr_Q G vwCl (some (.int 0)) (wXo a C K D Wt O n oo Co (vp_updL f 0 v.toInt64)) (aXo a oo)) 1 6 (aXo a oo) := by
  refine q_openW (cc := cL_pick) (maxL := 3) (ret := (some .int)) (hh := [(0, 8, 11, 19)]) (by decide) rfl (Nat.le_of_ble_eq_true rfl) ?_
  intro p e s m below meth c ls S hr hlk htab hB hl
  obtain ⟨hx, hb, hml, hown, hts⟩ := id S
  obtain ⟨⟨hP, hK⟩, hG, hNc⟩ := hB
  have hPX : va_P G vwCl (wX a C K D Wt O n) s.heap := hP.sub [0, 1, 2, 3, 4] rfl
  have hKX : va_K G vwCl (tX C) s := hK.sub [0, 1, 2, 3] rfl
  have hS : va_S (aXo a oo) s.heap s.heap [] := va_S.rf
  have hl : lv_has ls 3 [(0, .ref (a 0)), (1, .ref oo)] := hl
  refine lv_aload_n hx hb dL_pick_0 rfl (lv_at hl 1 rfl) ?_
  refine lv_iconst (v := 0) hx hb dL_pick_1 (by decide) ?_
  refine lv_aload_n hx hb dL_pick_2 rfl (lv_at hl 0 rfl) ?_
  refine rd_call (W.runV (As := []) (rest := [.int 0, .ref oo]) S hM (cwV 0 hts (gL_43 tb_cons) rfl rfl rfl (by decide +kernel) ⟨Nat.le_of_ble_eq_true rfl, Nat.le_of_ble_eq_true rfl⟩) (pX_V hPX hKX) rfl rfl hl.1 rfl (lv_room (Nat.le_of_ble_eq_true rfl)) dL_pick_3 ⟨Nat.zero_le _, Nat.zero_le _⟩) ?_
  refine lv_i2l hx hb dL_pick_6 rfl ?_
  refine q_last hx hb hK hP (dXo hap _ _ _ _ _ _ _ _) hS 5 4 rfl rfl 0 rfl (by decide) (by decide) dL_pick_7 (fun H locs hP hS => ?_)
  refine lv_goto (tgt := 14) hx hb dL_pick_8 (by decide) ?_
  refine lv_iconst (v := 0) hx hb dL_pick_14 (by decide) ?_
  refine W.widen (k := 1) (n := 6) (by omega) (by omega) ?_
  exact W.iret hx hb hr (fun t ht _ => ⟨rfl, by rw [ht]; exact hP, hS.F ht⟩) hS.2.2 dL_pick_15
set_option maxHeartbeats 4000000 in
set_option maxRecDepth 100000 in
theorem lw_pick_NS (l : Launch) (G : va_G) (a : Nat → Nat) (C : Nat → ClassId) (oo : Nat) (Co : ClassId) (hap : apXo a oo) (K D : Nat → Int64) (Wt O : Nat → Int32) (n : Int32) (f : Nat → Int64) (hM : tx_Met l yX0_pick wsX0_pick { frames := 7, cells := 1, slots := 6, locals := 120 } (va_Pc [.ref (a 0)] (bX G a C K D Wt O n)) (th_Q ENS) 1 6 (fun _ => False)) : Met l yL_pick wsL_pick { frames := 8, cells := 1, slots := 6, locals := 150 } (va_Pc [.ref (a 0), .ref oo] (bXo G a C K D Wt O n oo Co f)) (wr_Q G vwCl (some (.int 1)) (wXo a C K D Wt O n oo Co f) (aXo a oo)) 1 6 (aXo a oo) := by
  refine q_openW (cc := cL_pick) (maxL := 3) (ret := (some .int)) (hh := [(0, 8, 11, 19)]) (by decide) rfl (Nat.le_of_ble_eq_true rfl) ?_
  intro p e s m below meth c ls S hr hlk htab hB hl
  obtain ⟨hx, hb, hml, hown, hts⟩ := id S
  obtain ⟨⟨hP, hK⟩, hG, hNc⟩ := hB
  have hPX : va_P G vwCl (wX a C K D Wt O n) s.heap := hP.sub [0, 1, 2, 3, 4] rfl
  have hKX : va_K G vwCl (tX C) s := hK.sub [0, 1, 2, 3] rfl
  have hS : va_S (aXo a oo) s.heap s.heap [] := va_S.rf
  have hl : lv_has ls 3 [(0, .ref (a 0)), (1, .ref oo)] := hl
  refine lv_aload_n hx hb dL_pick_0 rfl (lv_at hl 1 rfl) ?_
  refine lv_iconst (v := 0) hx hb dL_pick_1 (by decide) ?_
  refine lv_aload_n hx hb dL_pick_2 rfl (lv_at hl 0 rfl) ?_
  refine tx_runV (As := []) (rest := [.int 0, .ref oo]) S hM (cwV 0 hts (gL_43 tb_cons) rfl rfl rfl (by decide +kernel) ⟨Nat.le_of_ble_eq_true rfl, Nat.le_of_ble_eq_true rfl⟩) (pXb_V hPX hKX hG) rfl hl.1 rfl (lv_room (Nat.le_of_ble_eq_true rfl)) dL_pick_3 ⟨Nat.le_of_ble_eq_true rfl, Nat.le_of_ble_eq_true rfl⟩ (fun o st t H1 L h0 h1 ha9 hq hL9 => ?_)
  obtain ⟨x9, ce, ho, h3, h5, h4, h6, h7⟩ := hq
  subst ho
  refine ⟨fun v hv => (by cases hv), fun x hx9 => ?_⟩
  cases hx9
  refine tx_catch1 (x := ⟨0, 8, 11, 19⟩) (rows := []) (cls := ENS) htab (by decide) (by decide) hown (hts _ (tb_cons _ w_cl_L_19)) (by rw [← h1]; exact h3) h5 (by rw [← ha9.findClass]; exact h4) ?_
  have hh : ∀ q : Nat, q < s.heap.size → H1[q]? = s.heap[q]? := fun q hq => by rw [← h1, ← h0]; exact h7 q (by rw [h0]; exact hq)
  have hP := keepXo hP hh
  refine lv_astore_n hx hb dL_pick_11 rfl hl (by decide) rfl (fun ls hl => ?_)
  have hl : lv_has ls 3 [(2, .ref x9), (0, .ref (a 0)), (1, .ref oo)] := hl
  refine lv_iconst (v := 1) hx hb dL_pick_12 (by decide) ?_
  exact W.iret hx hb hr (fun u hu _ => ⟨rfl, by rw [hu]; exact hP, by rw [hu, ← h1, ← h0]; exact h6, fun q hq _ => by rw [hu]; exact hh q hq⟩) (fun q hq => (hL9 q hq).elim) dL_pick_13
set_option maxHeartbeats 4000000 in
set_option maxRecDepth 100000 in
theorem lw_ahead_ok (l : Launch) (G : va_G) (a : Nat → Nat) (C : Nat → ClassId) (oo : Nat) (Co : ClassId) (hap : apXo a oo) (K D : Nat → Int64) (Wt O : Nat → Int32) (n : Int32) (f : Nat → Int64) {x0 : Int32} {v : Int64} (hM : Met l yX0_ahead wsX0_ahead { frames := 3, cells := 0, slots := 0, locals := 90 } (va_Pc [.ref (a 0), .int x0] (rX G a C K D Wt O n)) (rd_Q (.long v)) 0 0 (fun _ => False)) : Met l yL_ahead wsL_ahead { frames := 8, cells := 1, slots := 6, locals := 150 } (va_Pc [.ref (a 0), .int x0, .ref oo] (bXo G a C K D Wt O n oo Co f)) (wr_Q G vwCl (some (.int 0)) (wXo a C K D Wt O n oo Co (vp_updL f 0 v)) (aXo a oo)) 1 6 (aXo a oo) := by
  refine q_openW (cc := cL_ahead) (maxL := 4) (ret := (some .int)) (hh := [(0, 8, 11, 19)]) (by decide) rfl (Nat.le_of_ble_eq_true rfl) ?_
  intro p e s m below meth c ls S hr hlk htab hB hl
  obtain ⟨hx, hb, hml, hown, hts⟩ := id S
  obtain ⟨⟨hP, hK⟩, hG, hNc⟩ := hB
  have hPX : va_P G vwCl (wX a C K D Wt O n) s.heap := hP.sub [0, 1, 2, 3, 4] rfl
  have hKX : va_K G vwCl (tX C) s := hK.sub [0, 1, 2, 3] rfl
  have hS : va_S (aXo a oo) s.heap s.heap [] := va_S.rf
  have hl : lv_has ls 4 [(0, .ref (a 0)), (1, .int x0), (2, .ref oo)] := hl
  refine lv_aload_n hx hb dL_ahead_0 rfl (lv_at hl 2 rfl) ?_
  refine lv_iconst (v := 0) hx hb dL_ahead_1 (by decide) ?_
  refine lv_aload_n hx hb dL_ahead_2 rfl (lv_at hl 0 rfl) ?_
  refine lv_iload_n hx hb dL_ahead_3 rfl (lv_at hl 1 rfl) ?_
  refine rd_call (W.runV (As := [.int x0]) (rest := [.int 0, .ref oo]) S hM (cwV 1 hts (gL_47 tb_cons) rfl rfl rfl (by decide +kernel) ⟨Nat.le_of_ble_eq_true rfl, Nat.le_of_ble_eq_true rfl⟩) (pX_V hPX hKX) rfl rfl hl.1 rfl (lv_room (Nat.le_of_ble_eq_true rfl)) dL_ahead_4 ⟨Nat.zero_le _, Nat.zero_le _⟩) ?_
  refine q_last hx hb hK hP (dXo hap _ _ _ _ _ _ _ _) hS 5 4 rfl rfl 0 rfl (by decide) (by decide) dL_ahead_7 (fun H locs hP hS => ?_)
  refine lv_goto (tgt := 14) hx hb dL_ahead_8 (by decide) ?_
  refine lv_iconst (v := 0) hx hb dL_ahead_14 (by decide) ?_
  refine W.widen (k := 1) (n := 6) (by omega) (by omega) ?_
  exact W.iret hx hb hr (fun t ht _ => ⟨rfl, by rw [ht]; exact hP, hS.F ht⟩) hS.2.2 dL_ahead_15
set_option maxHeartbeats 4000000 in
set_option maxRecDepth 100000 in
theorem lw_ahead_NS (l : Launch) (G : va_G) (a : Nat → Nat) (C : Nat → ClassId) (oo : Nat) (Co : ClassId) (hap : apXo a oo) (K D : Nat → Int64) (Wt O : Nat → Int32) (n : Int32) (f : Nat → Int64) {x0 : Int32} (hM : tx_Met l yX0_ahead wsX0_ahead { frames := 6, cells := 1, slots := 6, locals := 90 } (va_Pc [.ref (a 0), .int x0] (bX G a C K D Wt O n)) (th_Q ENS) 1 6 (fun _ => False)) : Met l yL_ahead wsL_ahead { frames := 8, cells := 1, slots := 6, locals := 150 } (va_Pc [.ref (a 0), .int x0, .ref oo] (bXo G a C K D Wt O n oo Co f)) (wr_Q G vwCl (some (.int 1)) (wXo a C K D Wt O n oo Co f) (aXo a oo)) 1 6 (aXo a oo) := by
  refine q_openW (cc := cL_ahead) (maxL := 4) (ret := (some .int)) (hh := [(0, 8, 11, 19)]) (by decide) rfl (Nat.le_of_ble_eq_true rfl) ?_
  intro p e s m below meth c ls S hr hlk htab hB hl
  obtain ⟨hx, hb, hml, hown, hts⟩ := id S
  obtain ⟨⟨hP, hK⟩, hG, hNc⟩ := hB
  have hPX : va_P G vwCl (wX a C K D Wt O n) s.heap := hP.sub [0, 1, 2, 3, 4] rfl
  have hKX : va_K G vwCl (tX C) s := hK.sub [0, 1, 2, 3] rfl
  have hS : va_S (aXo a oo) s.heap s.heap [] := va_S.rf
  have hl : lv_has ls 4 [(0, .ref (a 0)), (1, .int x0), (2, .ref oo)] := hl
  refine lv_aload_n hx hb dL_ahead_0 rfl (lv_at hl 2 rfl) ?_
  refine lv_iconst (v := 0) hx hb dL_ahead_1 (by decide) ?_
  refine lv_aload_n hx hb dL_ahead_2 rfl (lv_at hl 0 rfl) ?_
  refine lv_iload_n hx hb dL_ahead_3 rfl (lv_at hl 1 rfl) ?_
  refine tx_runV (As := [.int x0]) (rest := [.int 0, .ref oo]) S hM (cwV 1 hts (gL_47 tb_cons) rfl rfl rfl (by decide +kernel) ⟨Nat.le_of_ble_eq_true rfl, Nat.le_of_ble_eq_true rfl⟩) (pXb_V hPX hKX hG) rfl hl.1 rfl (lv_room (Nat.le_of_ble_eq_true rfl)) dL_ahead_4 ⟨Nat.le_of_ble_eq_true rfl, Nat.le_of_ble_eq_true rfl⟩ (fun o st t H1 L h0 h1 ha9 hq hL9 => ?_)
  obtain ⟨x9, ce, ho, h3, h5, h4, h6, h7⟩ := hq
  subst ho
  refine ⟨fun v hv => (by cases hv), fun x hx9 => ?_⟩
  cases hx9
  refine tx_catch1 (x := ⟨0, 8, 11, 19⟩) (rows := []) (cls := ENS) htab (by decide) (by decide) hown (hts _ (tb_cons _ w_cl_L_19)) (by rw [← h1]; exact h3) h5 (by rw [← ha9.findClass]; exact h4) ?_
  have hh : ∀ q : Nat, q < s.heap.size → H1[q]? = s.heap[q]? := fun q hq => by rw [← h1, ← h0]; exact h7 q (by rw [h0]; exact hq)
  have hP := keepXo hP hh
  refine lv_astore_n hx hb dL_ahead_11 rfl hl (by decide) rfl (fun ls hl => ?_)
  have hl : lv_has ls 4 [(3, .ref x9), (0, .ref (a 0)), (1, .int x0), (2, .ref oo)] := hl
  refine lv_iconst (v := 1) hx hb dL_ahead_12 (by decide) ?_
  exact W.iret hx hb hr (fun u hu _ => ⟨rfl, by rw [hu]; exact hP, by rw [hu, ← h1, ← h0]; exact h6, fun q hq _ => by rw [hu]; exact hh q hq⟩) (fun q hq => (hL9 q hq).elim) dL_ahead_13
set_option maxHeartbeats 4000000 in
set_option maxRecDepth 100000 in
theorem lw_half_ok (l : Launch) (G : va_G) (a : Nat → Nat) (C : Nat → ClassId) (oo : Nat) (Co : ClassId) (hap : apXo a oo) (K D : Nat → Int64) (Wt O : Nat → Int32) (n : Int32) (f : Nat → Int64) {v : Int32} (hM : Met l yX0_half wsX0_half { frames := 1, cells := 0, slots := 0, locals := 30 } (va_Pc [.ref (a 0)] (rX G a C K D Wt O n)) (rd_Q (.int v)) 0 0 (fun _ => False)) : Met l yL_half wsL_half { frames := 8, cells := 1, slots := 6, locals := 150 } (va_Pc [.ref (a 0), .ref oo] (bXo G a C K D Wt O n oo Co f)) (wr_Q G vwCl (some (.int 0)) (wXo a C K D Wt O n oo Co (vp_updL f 0 v.toInt64)) (aXo a oo)) 1 6 (aXo a oo) := by
  refine q_openW (cc := cL_half) (maxL := 3) (ret := (some .int)) (hh := [(0, 8, 11, 19)]) (by decide) rfl (Nat.le_of_ble_eq_true rfl) ?_
  intro p e s m below meth c ls S hr hlk htab hB hl
  obtain ⟨hx, hb, hml, hown, hts⟩ := id S
  obtain ⟨⟨hP, hK⟩, hG, hNc⟩ := hB
  have hPX : va_P G vwCl (wX a C K D Wt O n) s.heap := hP.sub [0, 1, 2, 3, 4] rfl
  have hKX : va_K G vwCl (tX C) s := hK.sub [0, 1, 2, 3] rfl
  have hS : va_S (aXo a oo) s.heap s.heap [] := va_S.rf
  have hl : lv_has ls 3 [(0, .ref (a 0)), (1, .ref oo)] := hl
  refine lv_aload_n hx hb dL_half_0 rfl (lv_at hl 1 rfl) ?_
  refine lv_iconst (v := 0) hx hb dL_half_1 (by decide) ?_
  refine lv_aload_n hx hb dL_half_2 rfl (lv_at hl 0 rfl) ?_
  refine rd_call (W.runV (As := []) (rest := [.int 0, .ref oo]) S hM (cwV 0 hts (gL_51 tb_cons) rfl rfl rfl (by decide +kernel) ⟨Nat.le_of_ble_eq_true rfl, Nat.le_of_ble_eq_true rfl⟩) (pX_V hPX hKX) rfl rfl hl.1 rfl (lv_room (Nat.le_of_ble_eq_true rfl)) dL_half_3 ⟨Nat.zero_le _, Nat.zero_le _⟩) ?_
  refine lv_i2l hx hb dL_half_6 rfl ?_
  refine q_last hx hb hK hP (dXo hap _ _ _ _ _ _ _ _) hS 5 4 rfl rfl 0 rfl (by decide) (by decide) dL_half_7 (fun H locs hP hS => ?_)
  refine lv_goto (tgt := 14) hx hb dL_half_8 (by decide) ?_
  refine lv_iconst (v := 0) hx hb dL_half_14 (by decide) ?_
  refine W.widen (k := 1) (n := 6) (by omega) (by omega) ?_
  exact W.iret hx hb hr (fun t ht _ => ⟨rfl, by rw [ht]; exact hP, hS.F ht⟩) hS.2.2 dL_half_15
set_option maxHeartbeats 4000000 in
set_option maxRecDepth 100000 in
theorem lw_half_NS (l : Launch) (G : va_G) (a : Nat → Nat) (C : Nat → ClassId) (oo : Nat) (Co : ClassId) (hap : apXo a oo) (K D : Nat → Int64) (Wt O : Nat → Int32) (n : Int32) (f : Nat → Int64) (hM : tx_Met l yX0_half wsX0_half { frames := 6, cells := 1, slots := 6, locals := 90 } (va_Pc [.ref (a 0)] (bX G a C K D Wt O n)) (th_Q ENS) 1 6 (fun _ => False)) : Met l yL_half wsL_half { frames := 8, cells := 1, slots := 6, locals := 150 } (va_Pc [.ref (a 0), .ref oo] (bXo G a C K D Wt O n oo Co f)) (wr_Q G vwCl (some (.int 1)) (wXo a C K D Wt O n oo Co f) (aXo a oo)) 1 6 (aXo a oo) := by
  refine q_openW (cc := cL_half) (maxL := 3) (ret := (some .int)) (hh := [(0, 8, 11, 19)]) (by decide) rfl (Nat.le_of_ble_eq_true rfl) ?_
  intro p e s m below meth c ls S hr hlk htab hB hl
  obtain ⟨hx, hb, hml, hown, hts⟩ := id S
  obtain ⟨⟨hP, hK⟩, hG, hNc⟩ := hB
  have hPX : va_P G vwCl (wX a C K D Wt O n) s.heap := hP.sub [0, 1, 2, 3, 4] rfl
  have hKX : va_K G vwCl (tX C) s := hK.sub [0, 1, 2, 3] rfl
  have hS : va_S (aXo a oo) s.heap s.heap [] := va_S.rf
  have hl : lv_has ls 3 [(0, .ref (a 0)), (1, .ref oo)] := hl
  refine lv_aload_n hx hb dL_half_0 rfl (lv_at hl 1 rfl) ?_
  refine lv_iconst (v := 0) hx hb dL_half_1 (by decide) ?_
  refine lv_aload_n hx hb dL_half_2 rfl (lv_at hl 0 rfl) ?_
  refine tx_runV (As := []) (rest := [.int 0, .ref oo]) S hM (cwV 0 hts (gL_51 tb_cons) rfl rfl rfl (by decide +kernel) ⟨Nat.le_of_ble_eq_true rfl, Nat.le_of_ble_eq_true rfl⟩) (pXb_V hPX hKX hG) rfl hl.1 rfl (lv_room (Nat.le_of_ble_eq_true rfl)) dL_half_3 ⟨Nat.le_of_ble_eq_true rfl, Nat.le_of_ble_eq_true rfl⟩ (fun o st t H1 L h0 h1 ha9 hq hL9 => ?_)
  obtain ⟨x9, ce, ho, h3, h5, h4, h6, h7⟩ := hq
  subst ho
  refine ⟨fun v hv => (by cases hv), fun x hx9 => ?_⟩
  cases hx9
  refine tx_catch1 (x := ⟨0, 8, 11, 19⟩) (rows := []) (cls := ENS) htab (by decide) (by decide) hown (hts _ (tb_cons _ w_cl_L_19)) (by rw [← h1]; exact h3) h5 (by rw [← ha9.findClass]; exact h4) ?_
  have hh : ∀ q : Nat, q < s.heap.size → H1[q]? = s.heap[q]? := fun q hq => by rw [← h1, ← h0]; exact h7 q (by rw [h0]; exact hq)
  have hP := keepXo hP hh
  refine lv_astore_n hx hb dL_half_11 rfl hl (by decide) rfl (fun ls hl => ?_)
  have hl : lv_has ls 3 [(2, .ref x9), (0, .ref (a 0)), (1, .ref oo)] := hl
  refine lv_iconst (v := 1) hx hb dL_half_12 (by decide) ?_
  exact W.iret hx hb hr (fun u hu _ => ⟨rfl, by rw [hu]; exact hP, by rw [hu, ← h1, ← h0]; exact h6, fun q hq _ => by rw [hu]; exact hh q hq⟩) (fun q hq => (hL9 q hq).elim) dL_half_13
set_option maxHeartbeats 4000000 in
set_option maxRecDepth 100000 in
theorem lw_nearest_ok (l : Launch) (G : va_G) (a : Nat → Nat) (C : Nat → ClassId) (oo : Nat) (Co : ClassId) (hap : apXo a oo) (K D : Nat → Int64) (Wt O : Nat → Int32) (n : Int32) (f : Nat → Int64) {v : Int64} (hM : Met l yX0_nearest wsX0_nearest { frames := 1, cells := 0, slots := 0, locals := 30 } (va_Pc [.ref (a 0)] (rX G a C K D Wt O n)) (rd_Q (.long v)) 0 0 (fun _ => False)) : Met l yL_nearest wsL_nearest { frames := 8, cells := 1, slots := 6, locals := 150 } (va_Pc [.ref (a 0), .ref oo] (bXo G a C K D Wt O n oo Co f)) (wr_Q G vwCl (some (.int 0)) (wXo a C K D Wt O n oo Co (vp_updL f 0 v)) (aXo a oo)) 1 6 (aXo a oo) := by
  refine q_openW (cc := cL_nearest) (maxL := 3) (ret := (some .int)) (hh := [(0, 7, 10, 19)]) (by decide) rfl (Nat.le_of_ble_eq_true rfl) ?_
  intro p e s m below meth c ls S hr hlk htab hB hl
  obtain ⟨hx, hb, hml, hown, hts⟩ := id S
  obtain ⟨⟨hP, hK⟩, hG, hNc⟩ := hB
  have hPX : va_P G vwCl (wX a C K D Wt O n) s.heap := hP.sub [0, 1, 2, 3, 4] rfl
  have hKX : va_K G vwCl (tX C) s := hK.sub [0, 1, 2, 3] rfl
  have hS : va_S (aXo a oo) s.heap s.heap [] := va_S.rf
  have hl : lv_has ls 3 [(0, .ref (a 0)), (1, .ref oo)] := hl
  refine lv_aload_n hx hb dL_nearest_0 rfl (lv_at hl 1 rfl) ?_
  refine lv_iconst (v := 0) hx hb dL_nearest_1 (by decide) ?_
  refine lv_aload_n hx hb dL_nearest_2 rfl (lv_at hl 0 rfl) ?_
  refine rd_call (W.runV (As := []) (rest := [.int 0, .ref oo]) S hM (cwV 0 hts (gL_54 tb_cons) rfl rfl rfl (by decide +kernel) ⟨Nat.le_of_ble_eq_true rfl, Nat.le_of_ble_eq_true rfl⟩) (pX_V hPX hKX) rfl rfl hl.1 rfl (lv_room (Nat.le_of_ble_eq_true rfl)) dL_nearest_3 ⟨Nat.zero_le _, Nat.zero_le _⟩) ?_
  refine q_last hx hb hK hP (dXo hap _ _ _ _ _ _ _ _) hS 5 4 rfl rfl 0 rfl (by decide) (by decide) dL_nearest_6 (fun H locs hP hS => ?_)
  refine lv_goto (tgt := 13) hx hb dL_nearest_7 (by decide) ?_
  refine lv_iconst (v := 0) hx hb dL_nearest_13 (by decide) ?_
  refine W.widen (k := 1) (n := 6) (by omega) (by omega) ?_
  exact W.iret hx hb hr (fun t ht _ => ⟨rfl, by rw [ht]; exact hP, hS.F ht⟩) hS.2.2 dL_nearest_14
set_option maxHeartbeats 4000000 in
set_option maxRecDepth 100000 in
theorem lw_nearest_NS (l : Launch) (G : va_G) (a : Nat → Nat) (C : Nat → ClassId) (oo : Nat) (Co : ClassId) (hap : apXo a oo) (K D : Nat → Int64) (Wt O : Nat → Int32) (n : Int32) (f : Nat → Int64) (hM : tx_Met l yX0_nearest wsX0_nearest { frames := 6, cells := 1, slots := 6, locals := 90 } (va_Pc [.ref (a 0)] (bX G a C K D Wt O n)) (th_Q ENS) 1 6 (fun _ => False)) : Met l yL_nearest wsL_nearest { frames := 8, cells := 1, slots := 6, locals := 150 } (va_Pc [.ref (a 0), .ref oo] (bXo G a C K D Wt O n oo Co f)) (wr_Q G vwCl (some (.int 1)) (wXo a C K D Wt O n oo Co f) (aXo a oo)) 1 6 (aXo a oo) := by
  refine q_openW (cc := cL_nearest) (maxL := 3) (ret := (some .int)) (hh := [(0, 7, 10, 19)]) (by decide) rfl (Nat.le_of_ble_eq_true rfl) ?_
  intro p e s m below meth c ls S hr hlk htab hB hl
  obtain ⟨hx, hb, hml, hown, hts⟩ := id S
  obtain ⟨⟨hP, hK⟩, hG, hNc⟩ := hB
  have hPX : va_P G vwCl (wX a C K D Wt O n) s.heap := hP.sub [0, 1, 2, 3, 4] rfl
  have hKX : va_K G vwCl (tX C) s := hK.sub [0, 1, 2, 3] rfl
  have hS : va_S (aXo a oo) s.heap s.heap [] := va_S.rf
  have hl : lv_has ls 3 [(0, .ref (a 0)), (1, .ref oo)] := hl
  refine lv_aload_n hx hb dL_nearest_0 rfl (lv_at hl 1 rfl) ?_
  refine lv_iconst (v := 0) hx hb dL_nearest_1 (by decide) ?_
  refine lv_aload_n hx hb dL_nearest_2 rfl (lv_at hl 0 rfl) ?_
  refine tx_runV (As := []) (rest := [.int 0, .ref oo]) S hM (cwV 0 hts (gL_54 tb_cons) rfl rfl rfl (by decide +kernel) ⟨Nat.le_of_ble_eq_true rfl, Nat.le_of_ble_eq_true rfl⟩) (pXb_V hPX hKX hG) rfl hl.1 rfl (lv_room (Nat.le_of_ble_eq_true rfl)) dL_nearest_3 ⟨Nat.le_of_ble_eq_true rfl, Nat.le_of_ble_eq_true rfl⟩ (fun o st t H1 L h0 h1 ha9 hq hL9 => ?_)
  obtain ⟨x9, ce, ho, h3, h5, h4, h6, h7⟩ := hq
  subst ho
  refine ⟨fun v hv => (by cases hv), fun x hx9 => ?_⟩
  cases hx9
  refine tx_catch1 (x := ⟨0, 7, 10, 19⟩) (rows := []) (cls := ENS) htab (by decide) (by decide) hown (hts _ (tb_cons _ w_cl_L_19)) (by rw [← h1]; exact h3) h5 (by rw [← ha9.findClass]; exact h4) ?_
  have hh : ∀ q : Nat, q < s.heap.size → H1[q]? = s.heap[q]? := fun q hq => by rw [← h1, ← h0]; exact h7 q (by rw [h0]; exact hq)
  have hP := keepXo hP hh
  refine lv_astore_n hx hb dL_nearest_10 rfl hl (by decide) rfl (fun ls hl => ?_)
  have hl : lv_has ls 3 [(2, .ref x9), (0, .ref (a 0)), (1, .ref oo)] := hl
  refine lv_iconst (v := 1) hx hb dL_nearest_11 (by decide) ?_
  exact W.iret hx hb hr (fun u hu _ => ⟨rfl, by rw [hu]; exact hP, by rw [hu, ← h1, ← h0]; exact h6, fun q hq _ => by rw [hu]; exact hh q hq⟩) (fun q hq => (hL9 q hq).elim) dL_nearest_12
end
section
/-! the law's own walk: its state and its calls -/
def ft_lg (x y : Int32) : Int64 := (x.toInt64 <<< ((32 : Int32).toInt64 &&& 63)) ||| (y.toInt64 &&& 4294967295)
def cwt (T : Nat → Bool) (w : Nat → Int32) : Nat → Int32 := fun n => if T n = true then w n else 0
section LWA
variable {p : Program} {l : Launch} {e : Env} {R : Room} {s : State} {m : MethodId} {args : Array Value} {below : List Frame} {meth : Method} {c : Code} {H H0 : Heap} {locs : List Loc} {cells slots : Nat} {Q : State → Prop} {pc : Nat} {ls : Array Slot} {rest : List Value} {cc : ByteArray} {A : Nat → Prop}
theorem q_sld (hexec : p.tables.exec = Jvm.exec) (hb : c.code = cc) {b L : Nat} {xs : Nat → Int32} (hX : va_X b L xs s H0) (hbl : b < H0.size) (hbA : ¬ A b) (hS : va_S A H0 H locs) {i : Int32} (j : Nat) (hi : i = nI j) (hj : j < L) (hL : L < 2 ^ 31) (hdg : decode cc pc = .ok (.iaload, 1))
    (kk : W p l e R s m args below meth c H locs cells slots Q (F0 m (pc + 1) ls (.int (xs j) :: rest))) : W p l e R s m args below meth c H locs cells slots Q (F0 m pc ls (.int i :: .ref b :: rest)) := by
  subst hi
  refine va_sld hexec hb hX hbl hbA hS (vp_in_nI hj hL) hdg ?_
  rw [nI_clamp (by omega)]
  exact kk
theorem sw_call {bytes : ByteArray} {nL maxL index n mc ms : Nat} {own : String} {y : MethodName} {ret : Option FieldType} {hh : List (Nat × Nat × Nat × Nat)} {Ts ws : List Cond} {rm : Room} {Pc : Array Value → State → Prop} {D : va_G} {cl : List vw_C} {v : Option Value} {ws1 : va_W} {A1 : Nat → Prop}
    {As st0 : List Value} (S : CallFix p m c cc nL s args Ts own) (hM : Met l y ws rm Pc (wr_Q D cl v ws1 A1) mc ms A1) (hrc : rm.cells = mc) (hrs : rm.slots = ms) (hR : rm.frames + 1 ≤ R.frames ∧ 8 + (maxL + 11) + rm.locals ≤ R.locals)
    (hG : GoodIn Ts ws) (hcode : (Cond.codeWith y bytes maxL ret hh).before args s = true) (hstat : (Cond.static y).before args s = true) (hini : (Cond.initialized y.cls).before args s = true) (hl : (Cond.methodLink own index y).before args s = true)
    (hd : y.cls ≠ "java/lang/invoke/MethodHandle" ∧ y.cls ≠ "java/lang/invoke/VarHandle" ∧ (parseMethodDescriptor y.desc).map (fun d => d.parameters.length) = some n) (hp : PreS s H Pc As)
    (hn : As.length = n) (hsize : ls.size = nL) (hstack : st0 = As.reverse ++ rest) (hW : 2 * (F0 m pc ls rest).monitorRoom + (rest.map fun v => v.category).sum ≤ 8) (hdg : decode cc pc = .ok (.invokestatic index, 3)) (hf : cells + mc ≤ R.cells ∧ slots + ms ≤ R.slots)
    (hS : va_S A H0 H locs) (hsub : ∀ q, A1 q → A q)
    (kk : ∀ (H1 : Heap) (locs1 : List Loc), va_P D cl ws1 H1 → va_S A H0 H1 locs1 → H.size ≤ H1.size → (∀ q : Nat, q < H.size → ¬ A1 q → H1[q]? = H[q]?) → W p l e R s m args below meth c H1 locs1 (cells + mc) (slots + ms) Q (F0 m (pc + 3) ls (v.toList ++ rest))) :
    W p l e R s m args below meth c H locs cells slots Q (F0 m pc ls st0) := by
  refine tx_runSW S (tx_ofMet hM) hrc hrs hR hG hcode hstat hini hl hd hp hn hsize hstack hW hdg hf (fun o st t H1 L h0 h1 ha hq hL => ?_)
  obtain ⟨ho, hP1, hF⟩ := hq
  subst ho
  subst h1
  have hF1 : H.size ≤ t.heap.size := by rw [← h0]; exact hF.1
  have hF2 : ∀ q : Nat, q < H.size → ¬ A1 q → t.heap[q]? = H[q]? := fun q hq hA => by rw [hF.2 q (by rw [h0]; exact hq) hA, h0]
  refine ⟨fun v9 hv => ?_, fun x hx => by cases hx⟩
  cases hv
  exact kk t.heap (locs ++ L) hP1 ⟨Nat.le_trans hS.1 hF1, fun q hq hA => by
      rw [hF2 q (Nat.lt_of_lt_of_le hq hS.1) (fun z => hA (hsub q z))]
      exact hS.2.1 q hq hA, fun q hq => by
      rcases List.mem_append.mp hq with h | h
      · exact hS.2.2 q h
      · exact hsub _ (hL q h)⟩ hF1 hF2
end LWA
theorem keepM {G : va_G} {a : Nat → Nat} {C : Nat → ClassId} {T : Nat → Bool} {K D : Nat → Int64} {w : Nat → Int32} {th : Int32} {H H1 : Heap} {A1 : Nat → Prop} (hP : va_P G vwCl (wM a C T K D w th) H) (hh : ∀ q : Nat, q < H.size → ¬ A1 q → H1[q]? = H[q]?) (hn : ∀ i, i < 5 → ¬ A1 (a i)) : va_P G vwCl (wM a C T K D w th) H1 := by
  refine va_P.kept hP (fun k q hk => hh q.1 (hP k q hk).lt ?_)
  match k, hk with
  | 0, hk => cases hk; exact hn 0 (by omega)
  | 1, hk => cases hk; exact hn 1 (by omega)
  | 2, hk => cases hk; exact hn 2 (by omega)
  | 3, hk => cases hk; exact hn 3 (by omega)
  | 4, hk => cases hk; exact hn 4 (by omega)
  | k + 5, hk => simp at hk
theorem keepX6 {G : va_G} {a : Nat → Nat} {C : Nat → ClassId} {K D : Nat → Int64} {Wt O : Nat → Int32} {n : Int32} {oo : Nat} {Co : ClassId} {f : Nat → Int64} {H H1 : Heap} {A1 : Nat → Prop} (hP : va_P G vwCl (wXo a C K D Wt O n oo Co f) H) (hh : ∀ q : Nat, q < H.size → ¬ A1 q → H1[q]? = H[q]?) (hn : ∀ q, aXo a oo q → ¬ A1 q) : va_P G vwCl (wXo a C K D Wt O n oo Co f) H1 := by
  refine va_P.kept hP (fun k q hk => hh q.1 (hP k q hk).lt ?_)
  match k, hk with
  | 0, hk => cases hk; exact hn _ (Or.inl ⟨0, by omega, rfl⟩)
  | 1, hk => cases hk; exact hn _ (Or.inl ⟨1, by omega, rfl⟩)
  | 2, hk => cases hk; exact hn _ (Or.inl ⟨2, by omega, rfl⟩)
  | 3, hk => cases hk; exact hn _ (Or.inl ⟨3, by omega, rfl⟩)
  | 4, hk => cases hk; exact hn _ (Or.inl ⟨4, by omega, rfl⟩)
  | 5, hk => cases hk; exact hn _ (Or.inr rfl)
  | k + 6, hk => simp at hk
theorem dM5 {a : Nat → Nat} (h1 : ∀ i j, i < 5 → j < 5 → a i = a j → i = j) : ∀ (C : Nat → ClassId) (T : Nat → Bool) (K D : Nat → Int64) (w : Nat → Int32) (th : Int32), va_D (aX5 a) (wM a C T K D w th) := fun C T K D w th => dM h1 (fun i hi => ⟨i, hi, rfl⟩) C T K D w th
/-- what holds all through the law's loop -/
def LC (p : Program) (s : State) (m : MethodId) (meth : Method) (c : Code) (b L : Nat) (xs : Nat → Int32) (G : va_G) (aX : Nat → Nat) (CX : Nat → ClassId) (aM : Nat → Nat) (CM : Nat → ClassId) (oo : Nat) (Co : ClassId) : Prop :=
  (CallFix p m c cL_law 8 s #[Value.ref b] lw_tbl RL ∧ meth.sig.returnType = some .boolean ∧ meth.locks = false ∧ va_X b L xs s s.heap ∧ b < s.heap.size ∧ L ≤ 3584) ∧
  (va_K G vwCl (tXo CX Co) s ∧ va_K G vwCl (tM CM) s ∧ tx_G2 (fun q => s.heap.size ≤ q) s s.heap ∧ va_Nc EIA ENS s) ∧
  (apXo aX oo ∧ (∀ i j, i < 5 → j < 5 → aM i = aM j → i = j) ∧ (∀ q, aXo aX oo q → ¬ aX5 aM q) ∧ (∀ q, aXo aX oo q → s.heap.size ≤ q) ∧ (∀ q, aX5 aM q → s.heap.size ≤ q))
theorem preXo {G : va_G} {a : Nat → Nat} {C : Nat → ClassId} {K D : Nat → Int64} {Wt O : Nat → Int32} {n : Int32} {oo : Nat} {Co : ClassId} {f : Nat → Int64} {s : State} {H : Heap} {locs : List Loc} {As : List Value} (hP : va_P G vwCl (wXo a C K D Wt O n oo Co f) H) (hK : va_K G vwCl (tXo C Co) s) (hG : tx_G2 (fun q => s.heap.size ≤ q) s s.heap) (hN : va_Nc EIA ENS s) (hS : va_S (fun q => s.heap.size ≤ q) s.heap H locs) :
    PreS s H (va_Pc As (bXo G a C K D Wt O n oo Co f)) As :=
  ⟨bXo_blind, fun U hU hW => ⟨rfl, ⟨by rw [hU]; exact hP, va_K.moved hW.alike hK⟩, by
    unfold tx_G
    rw [hU]
    exact tx_G2_to hG hW.alike (fun b h1 h2 => hS.2.1 b h1 h2) (fun _ z => z.elim), va_Nc.moved hW.alike hN⟩⟩
end
