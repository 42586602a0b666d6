def RX0 : String := "CloneTree"
def RX1 : String := "CloneTreeModel"
def RJ7 : String := "java/util/Arrays"
def RL : String := "CloneTreeLaw"
def TX0 : u_T := fun k => match k with
  | 0 => ("CloneTree", "pagesOf", "[I", true)
  | 1 => ("CloneTree", "frameOf", "[[I", true)
  | 2 => ("CloneTree", "cellsOf", "[[I", true)
  | 3 => ("CloneTree", "holdersOf", "[I", true)
  | 4 => ("CloneTree", "carried", "[I", true)
  | 5 => ("CloneTree", "ownerOf", "[I", true)
  | _ => ("CloneTree", "keeperOf", "[I", true)
def tyX0 : Nat → FieldType := fun k => match k with
  | 0 => .array .int
  | 1 => .array (.array .int)
  | 2 => .array (.array .int)
  | 3 => .array .int
  | 4 => .array .int
  | 5 => .array .int
  | _ => .array .int
theorem nmX0 : ∀ a, a < 7 → ∀ b, b < 7 → a ≠ b → (TX0 a).2.1 ≠ (TX0 b).2.1 := by decide +kernel
theorem tyX0_ok : ∀ k, k < 7 → parseFieldDescriptor (TX0 k).2.2.1 = some (tyX0 k) := by decide +kernel
def TX1 : u_T := fun k => match k with
  | 0 => ("CloneTreeModel", "thrown", "I", false)
  | 1 => ("CloneTreeModel", "there", "[Z", true)
  | 2 => ("CloneTreeModel", "pages", "[I", true)
  | 3 => ("CloneTreeModel", "frame", "[I", true)
  | 4 => ("CloneTreeModel", "cell", "[I", true)
  | _ => ("CloneTreeModel", "kept", "[I", true)
def tyX1 : Nat → FieldType := fun k => match k with
  | 0 => .int
  | 1 => .array .boolean
  | 2 => .array .int
  | 3 => .array .int
  | 4 => .array .int
  | _ => .array .int
theorem nmX1 : ∀ a, a < 6 → ∀ b, b < 6 → a ≠ b → (TX1 a).2.1 ≠ (TX1 b).2.1 := by decide +kernel
theorem tyX1_ok : ∀ k, k < 6 → parseFieldDescriptor (TX1 k).2.2.1 = some (tyX1 k) := by decide +kernel
abbrev vwCl : List vw_C := [(RX0, TX0, 7), (RX1, TX1, 6)]
abbrev cX0_init : ByteArray := prog_1_method_1_code
def yX0_init : MethodName := ⟨RX0, "<init>", "()V"⟩
abbrev cJ7_fill : ByteArray := prog_11_method_103_code
def yJ7_fill : MethodName := ⟨RJ7, "fill", "([II)V"⟩
abbrev cX0_sweep : ByteArray := prog_1_method_11_code
def yX0_sweep : MethodName := ⟨RX0, "sweep", "()I"⟩
abbrev cX0_sameCells : ByteArray := prog_1_method_31_code
def yX0_sameCells : MethodName := ⟨RX0, "sameCells", "(II)Z"⟩
abbrev cX0_pointTo : ByteArray := prog_1_method_27_code
def yX0_pointTo : MethodName := ⟨RX0, "pointTo", "(III)I"⟩
abbrev cX0_hold : ByteArray := prog_1_method_29_code
def yX0_hold : MethodName := ⟨RX0, "hold", "(I)V"⟩
abbrev cX0_letGo : ByteArray := prog_1_method_30_code
def yX0_letGo : MethodName := ⟨RX0, "letGo", "(I)I"⟩
abbrev cX0_merge : ByteArray := prog_1_method_12_code
def yX0_merge : MethodName := ⟨RX0, "merge", "()I"⟩
abbrev cX0_findKeepers : ByteArray := prog_1_method_32_code
def yX0_findKeepers : MethodName := ⟨RX0, "findKeepers", "()V"⟩
abbrev cX0_firstWithCellsOf : ByteArray := prog_1_method_33_code
def yX0_firstWithCellsOf : MethodName := ⟨RX0, "firstWithCellsOf", "(I)I"⟩
abbrev cX0_count : ByteArray := prog_1_method_16_code
def yX0_count : MethodName := ⟨RX0, "count", "(I)I"⟩
abbrev cX0_rowsThere : ByteArray := prog_1_method_40_code
def yX0_rowsThere : MethodName := ⟨RX0, "rowsThere", "()I"⟩
abbrev cX0_isRow : ByteArray := prog_1_method_24_code
def yX0_isRow : MethodName := ⟨RX0, "isRow", "(I)Z"⟩
abbrev cX0_pagesThere : ByteArray := prog_1_method_41_code
def yX0_pagesThere : MethodName := ⟨RX0, "pagesThere", "()I"⟩
abbrev cX0_framesThere : ByteArray := prog_1_method_42_code
def yX0_framesThere : MethodName := ⟨RX0, "framesThere", "()I"⟩
abbrev cX0_framesOwnedBy : ByteArray := prog_1_method_37_code
def yX0_framesOwnedBy : MethodName := ⟨RX0, "framesOwnedBy", "(I)I"⟩
abbrev cX0_findOwners : ByteArray := prog_1_method_38_code
def yX0_findOwners : MethodName := ⟨RX0, "findOwners", "()V"⟩
abbrev cL_make : ByteArray := method_3_code
def yL_make : MethodName := ⟨RL, "make", "(LCloneTree;I[J)I"⟩
abbrev cX0_make : ByteArray := prog_1_method_2_code
def yX0_make : MethodName := ⟨RX0, "make", "(I)I"⟩
abbrev cX0_requirePageCount : ByteArray := prog_1_method_21_code
def yX0_requirePageCount : MethodName := ⟨RX0, "requirePageCount", "(I)V"⟩
abbrev cX0_requireFreeRow : ByteArray := prog_1_method_22_code
def yX0_requireFreeRow : MethodName := ⟨RX0, "requireFreeRow", "()I"⟩
abbrev cL_share : ByteArray := method_4_code
def yL_share : MethodName := ⟨RL, "share", "(LCloneTree;III[J)I"⟩
abbrev cX0_share : ByteArray := prog_1_method_3_code
def yX0_share : MethodName := ⟨RX0, "share", "(III)I"⟩
abbrev cX0_requirePages : ByteArray := prog_1_method_19_code
def yX0_requirePages : MethodName := ⟨RX0, "requirePages", "(III)V"⟩
abbrev cL_drop : ByteArray := method_5_code
def yL_drop : MethodName := ⟨RL, "drop", "(LCloneTree;I[J)I"⟩
abbrev cX0_drop : ByteArray := prog_1_method_4_code
def yX0_drop : MethodName := ⟨RX0, "drop", "(I)I"⟩
abbrev cX0_requireRow : ByteArray := prog_1_method_17_code
def yX0_requireRow : MethodName := ⟨RX0, "requireRow", "(I)V"⟩
abbrev cX0_blankFrom : ByteArray := prog_1_method_28_code
def yX0_blankFrom : MethodName := ⟨RX0, "blankFrom", "(II)I"⟩
abbrev cL_write : ByteArray := method_6_code
def yL_write : MethodName := ⟨RL, "write", "(LCloneTree;IIII[J)I"⟩
abbrev cX0_write : ByteArray := prog_1_method_5_code
def yX0_write : MethodName := ⟨RX0, "write", "(IIII)I"⟩
abbrev cX0_requirePage : ByteArray := prog_1_method_18_code
def yX0_requirePage : MethodName := ⟨RX0, "requirePage", "(II)V"⟩
abbrev cX0_requireCell : ByteArray := prog_1_method_20_code
def yX0_requireCell : MethodName := ⟨RX0, "requireCell", "(I)V"⟩
abbrev cX0_hasFrameAlone : ByteArray := prog_1_method_25_code
def yX0_hasFrameAlone : MethodName := ⟨RX0, "hasFrameAlone", "(II)Z"⟩
abbrev cX0_giveNewFrame : ByteArray := prog_1_method_26_code
def yX0_giveNewFrame : MethodName := ⟨RX0, "giveNewFrame", "(II)V"⟩
abbrev cX0_requireFreeFrame : ByteArray := prog_1_method_23_code
def yX0_requireFreeFrame : MethodName := ⟨RX0, "requireFreeFrame", "()I"⟩
abbrev cL_read : ByteArray := method_7_code
def yL_read : MethodName := ⟨RL, "read", "(LCloneTree;III[J)I"⟩
abbrev cX0_read : ByteArray := prog_1_method_6_code
def yX0_read : MethodName := ⟨RX0, "read", "(III)I"⟩
abbrev cL_lay : ByteArray := method_8_code
def yL_lay : MethodName := ⟨RL, "lay", "(LCloneTree;IIIII[J)I"⟩
abbrev cX0_lay : ByteArray := prog_1_method_7_code
def yX0_lay : MethodName := ⟨RX0, "lay", "(IIIII)I"⟩
abbrev cL_size : ByteArray := method_9_code
def yL_size : MethodName := ⟨RL, "size", "(LCloneTree;II[J)I"⟩
abbrev cX0_size : ByteArray := prog_1_method_8_code
def yX0_size : MethodName := ⟨RX0, "size", "(II)I"⟩
abbrev cL_blank : ByteArray := method_10_code
def yL_blank : MethodName := ⟨RL, "blank", "(LCloneTree;II[J)I"⟩
abbrev cX0_blank : ByteArray := prog_1_method_9_code
def yX0_blank : MethodName := ⟨RX0, "blank", "(II)Z"⟩
abbrev cL_own : ByteArray := method_11_code
def yL_own : MethodName := ⟨RL, "own", "(LCloneTree;II[J)I"⟩
abbrev cX0_own : ByteArray := prog_1_method_10_code
def yX0_own : MethodName := ⟨RX0, "own", "(II)Z"⟩
abbrev cL_common : ByteArray := method_12_code
def yL_common : MethodName := ⟨RL, "common", "(LCloneTree;IIII[J)I"⟩
abbrev cX0_common : ByteArray := prog_1_method_13_code
def yX0_common : MethodName := ⟨RX0, "common", "(IIII)Z"⟩
abbrev cL_holders : ByteArray := method_13_code
def yL_holders : MethodName := ⟨RL, "holders", "(LCloneTree;II[J)I"⟩
abbrev cX0_holders : ByteArray := prog_1_method_14_code
def yX0_holders : MethodName := ⟨RX0, "holders", "(II)I"⟩
abbrev cL_about : ByteArray := method_14_code
def yL_about : MethodName := ⟨RL, "about", "(LCloneTree;II[J)I"⟩
abbrev cX0_about : ByteArray := prog_1_method_15_code
def yX0_about : MethodName := ⟨RX0, "about", "(II)I"⟩
abbrev cX0_blankPages : ByteArray := prog_1_method_34_code
def yX0_blankPages : MethodName := ⟨RX0, "blankPages", "(I)I"⟩
abbrev cX0_framesOf : ByteArray := prog_1_method_35_code
def yX0_framesOf : MethodName := ⟨RX0, "framesOf", "(I)I"⟩
abbrev cX0_isFirstWithItsFrame : ByteArray := prog_1_method_36_code
def yX0_isFirstWithItsFrame : MethodName := ⟨RX0, "isFirstWithItsFrame", "(II)Z"⟩
abbrev cX0_sumOfCells : ByteArray := prog_1_method_39_code
def yX0_sumOfCells : MethodName := ⟨RX0, "sumOfCells", "(I)I"⟩
abbrev cX1_init : ByteArray := prog_3_method_1_code
def yX1_init : MethodName := ⟨RX1, "<init>", "()V"⟩
abbrev cX1_thrown : ByteArray := prog_3_method_2_code
def yX1_thrown : MethodName := ⟨RX1, "thrown", "()I"⟩
abbrev cX1_make : ByteArray := prog_3_method_12_code
def yX1_make : MethodName := ⟨RX1, "make", "(I)I"⟩
abbrev cX1_row : ByteArray := prog_3_method_11_code
def yX1_row : MethodName := ⟨RX1, "row", "()I"⟩
abbrev cX1_share : ByteArray := prog_3_method_13_code
def yX1_share : MethodName := ⟨RX1, "share", "(III)I"⟩
abbrev cX1_lacks : ByteArray := prog_3_method_4_code
def yX1_lacks : MethodName := ⟨RX1, "lacks", "(I)Z"⟩
abbrev cX1_none : ByteArray := prog_3_method_5_code
def yX1_none : MethodName := ⟨RX1, "none", "(III)Z"⟩
abbrev cX1_fail : ByteArray := prog_3_method_3_code
def yX1_fail : MethodName := ⟨RX1, "fail", "(I)I"⟩
abbrev cX1_at : ByteArray := prog_3_method_7_code
def yX1_at : MethodName := ⟨RX1, "at", "(II)I"⟩
abbrev cX1_drop : ByteArray := prog_3_method_14_code
def yX1_drop : MethodName := ⟨RX1, "drop", "(I)I"⟩
abbrev cX1_frames : ByteArray := prog_3_method_9_code
def yX1_frames : MethodName := ⟨RX1, "frames", "()I"⟩
abbrev cX1_holdersOf : ByteArray := prog_3_method_8_code
def yX1_holdersOf : MethodName := ⟨RX1, "holdersOf", "(I)I"⟩
abbrev cX1_write : ByteArray := prog_3_method_17_code
def yX1_write : MethodName := ⟨RX1, "write", "(IIII)I"⟩
abbrev cX1_page : ByteArray := prog_3_method_6_code
def yX1_page : MethodName := ⟨RX1, "page", "(II)Z"⟩
abbrev cX1_cellOf : ByteArray := prog_3_method_16_code
def yX1_cellOf : MethodName := ⟨RX1, "cellOf", "(III)I"⟩
abbrev cX1_alone : ByteArray := prog_3_method_15_code
def yX1_alone : MethodName := ⟨RX1, "alone", "(II)Z"⟩
abbrev cX1_free : ByteArray := prog_3_method_10_code
def yX1_free : MethodName := ⟨RX1, "free", "()I"⟩
abbrev cX1_read : ByteArray := prog_3_method_18_code
def yX1_read : MethodName := ⟨RX1, "read", "(III)I"⟩
abbrev cX1_lay : ByteArray := prog_3_method_19_code
def yX1_lay : MethodName := ⟨RX1, "lay", "(IIIII)I"⟩
abbrev cX1_size : ByteArray := prog_3_method_20_code
def yX1_size : MethodName := ⟨RX1, "size", "(II)I"⟩
abbrev cX1_blank : ByteArray := prog_3_method_21_code
def yX1_blank : MethodName := ⟨RX1, "blank", "(II)Z"⟩
abbrev cX1_own : ByteArray := prog_3_method_22_code
def yX1_own : MethodName := ⟨RX1, "own", "(II)Z"⟩
abbrev cX1_sweep : ByteArray := prog_3_method_25_code
def yX1_sweep : MethodName := ⟨RX1, "sweep", "()I"⟩
abbrev cX1_change : ByteArray := prog_3_method_24_code
def yX1_change : MethodName := ⟨RX1, "change", "(II)V"⟩
abbrev cX1_merge : ByteArray := prog_3_method_26_code
def yX1_merge : MethodName := ⟨RX1, "merge", "()I"⟩
abbrev cX1_same : ByteArray := prog_3_method_23_code
def yX1_same : MethodName := ⟨RX1, "same", "(II)Z"⟩
abbrev cX1_common : ByteArray := prog_3_method_27_code
def yX1_common : MethodName := ⟨RX1, "common", "(IIII)Z"⟩
abbrev cX1_holders : ByteArray := prog_3_method_28_code
def yX1_holders : MethodName := ⟨RX1, "holders", "(II)I"⟩
abbrev cX1_about : ByteArray := prog_3_method_30_code
def yX1_about : MethodName := ⟨RX1, "about", "(II)I"⟩
abbrev cX1_own0 : ByteArray := prog_3_method_29_code
def yX1_own0 : MethodName := ⟨RX1, "own0", "(II)I"⟩
abbrev cX1_count : ByteArray := prog_3_method_31_code
def yX1_count : MethodName := ⟨RX1, "count", "(I)I"⟩
abbrev cL_law : ByteArray := code
def yL_law : MethodName := ⟨RL, "law", "([I)Z"⟩
/-- the words that a call may hand on -/
def nw_T : List Cond := lw_tbl.filter goodWord
theorem nw_tb {w : Cond} (h : w ∈ tables_1) (g : goodWord w = true) : w ∈ nw_T := List.mem_filter.mpr ⟨List.mem_append_right _ h, g⟩
theorem nw_sl {w : Cond} (h : w ∈ k2_sels lw_privs) (g : goodWord w = true) : w ∈ nw_T := List.mem_filter.mpr ⟨List.mem_append_left _ h, g⟩
theorem nw_V {a b c1 c2 c3 c4 : Cond} (h1 : c1 ∈ nw_T) (h2 : c2 ∈ nw_T) (h3 : c3 ∈ nw_T) (h4 : c4 ∈ nw_T) (hb : b ∈ nw_T) : GoodIn (a :: nw_T) ([c1, c2, c3, c4] ++ (b :: nw_T)) := by
  have hg : ∀ w ∈ nw_T, w ∈ a :: nw_T ∧ ((w.onTables && w.keeps) = true ∨ ∃ ty, w = .arrayClass ty) := fun w h => ⟨List.mem_cons_of_mem _ h, good_of_word (List.mem_filter.mp h).2⟩
  intro w hw
  rcases List.mem_append.mp hw with h | h
  · simp only [List.mem_cons, List.not_mem_nil, or_false] at h
    rcases h with rfl | rfl | rfl | rfl
    · exact hg _ h1
    · exact hg _ h2
    · exact hg _ h3
    · exact hg _ h4
  · rcases List.mem_cons.mp h with rfl | h
    · exact hg _ hb
    · exact hg _ h
theorem nw_S {a b c1 c2 c3 : Cond} (h1 : c1 ∈ nw_T) (h2 : c2 ∈ nw_T) (h3 : c3 ∈ nw_T) (hb : b ∈ nw_T) : GoodIn (a :: nw_T) ([c1, c2, c3] ++ (b :: nw_T)) := by
  have hg : ∀ w ∈ nw_T, w ∈ a :: nw_T ∧ ((w.onTables && w.keeps) = true ∨ ∃ ty, w = .arrayClass ty) := fun w h => ⟨List.mem_cons_of_mem _ h, good_of_word (List.mem_filter.mp h).2⟩
  intro w hw
  rcases List.mem_append.mp hw with h | h
  · simp only [List.mem_cons, List.not_mem_nil, or_false] at h
    rcases h with rfl | rfl | rfl
    · exact hg _ h1
    · exact hg _ h2
    · exact hg _ h3
  · rcases List.mem_cons.mp h with rfl | h
    · exact hg _ hb
    · exact hg _ h
theorem nw_I {a b : Cond} (hb : b ∈ nw_T) : GoodIn (a :: nw_T) (b :: nw_T) := by
  have hg : ∀ w ∈ nw_T, w ∈ a :: nw_T ∧ ((w.onTables && w.keeps) = true ∨ ∃ ty, w = .arrayClass ty) := fun w h => ⟨List.mem_cons_of_mem _ h, good_of_word (List.mem_filter.mp h).2⟩
  intro w h
  rcases List.mem_cons.mp h with rfl | h
  · exact hg _ hb
  · exact hg _ h
theorem mw_0 : (Cond.initialized "CloneTreeLaw" : Cond) ∈ nw_T := nw_tb (List.mem_of_getElem? (i := 0) (by decide +kernel)) (by decide +kernel)
theorem mw_1 : (Cond.initialized "CloneTree" : Cond) ∈ nw_T := nw_tb (List.mem_of_getElem? (i := 1) (by decide +kernel)) (by decide +kernel)
theorem mw_2 : (Cond.initialized "java/util/Arrays" : Cond) ∈ nw_T := nw_tb (List.mem_of_getElem? (i := 2) (by decide +kernel)) (by decide +kernel)
theorem mw_3 : (Cond.initialized "CloneTreeModel" : Cond) ∈ nw_T := nw_tb (List.mem_of_getElem? (i := 3) (by decide +kernel)) (by decide +kernel)
theorem mw_4 : (Cond.initialized "java/lang/Throwable" : Cond) ∈ nw_T := nw_tb (List.mem_of_getElem? (i := 4) (by decide +kernel)) (by decide +kernel)
theorem mw_5 : (Cond.initialized "java/lang/Exception" : Cond) ∈ nw_T := nw_tb (List.mem_of_getElem? (i := 5) (by decide +kernel)) (by decide +kernel)
theorem mw_6 : (Cond.initialized "java/lang/RuntimeException" : Cond) ∈ nw_T := nw_tb (List.mem_of_getElem? (i := 6) (by decide +kernel)) (by decide +kernel)
theorem mw_7 : (Cond.initialized "java/lang/IllegalArgumentException" : Cond) ∈ nw_T := nw_tb (List.mem_of_getElem? (i := 7) (by decide +kernel)) (by decide +kernel)
theorem mw_8 : (Cond.initialized "java/lang/IllegalStateException" : Cond) ∈ nw_T := nw_tb (List.mem_of_getElem? (i := 8) (by decide +kernel)) (by decide +kernel)
theorem mw_9 : (Cond.initialized "java/util/NoSuchElementException" : Cond) ∈ nw_T := nw_tb (List.mem_of_getElem? (i := 9) (by decide +kernel)) (by decide +kernel)
theorem mw_10 : (Cond.initialized "java/lang/ArithmeticException" : Cond) ∈ nw_T := nw_tb (List.mem_of_getElem? (i := 10) (by decide +kernel)) (by decide +kernel)
theorem mw_11 : (Cond.initialized "java/lang/System" : Cond) ∈ nw_T := nw_tb (List.mem_of_getElem? (i := 11) (by decide +kernel)) (by decide +kernel)
theorem mw_12 : (Cond.classLink "CloneTreeLaw" 8 "CloneTree" : Cond) ∈ nw_T := nw_tb (List.mem_of_getElem? (i := 12) (by decide +kernel)) (by decide +kernel)
theorem mw_13 : (Cond.instantiable "CloneTree" 7 : Cond) ∈ nw_T := nw_tb (List.mem_of_getElem? (i := 13) (by decide +kernel)) (by decide +kernel)
theorem mw_14 : (Cond.methodLink "CloneTreeLaw" 60 yX0_init : Cond) ∈ nw_T := nw_tb (List.mem_of_getElem? (i := 14) (by decide +kernel)) (by decide +kernel)
theorem mw_15 : (Cond.instanceMethod yX0_init : Cond) ∈ nw_T := nw_tb (List.mem_of_getElem? (i := 15) (by decide +kernel)) (by decide +kernel)
theorem mw_16 : (Cond.code yX0_init prog_1_method_1_code 1 none : Cond) ∈ nw_T := nw_tb (List.mem_of_getElem? (i := 16) (by decide +kernel)) (by decide +kernel)
theorem mw_17 : (Cond.methodLink "CloneTree" 1 ⟨"java/lang/Object", "<init>", "()V"⟩ : Cond) ∈ nw_T := nw_tb (List.mem_of_getElem? (i := 17) (by decide +kernel)) (by decide +kernel)
theorem mw_18 : (Cond.instanceMethod ⟨"java/lang/Object", "<init>", "()V"⟩ : Cond) ∈ nw_T := nw_tb (List.mem_of_getElem? (i := 18) (by decide +kernel)) (by decide +kernel)
theorem mw_19 : (Cond.code ⟨"java/lang/Object", "<init>", "()V"⟩ object_method_1_code 1 none : Cond) ∈ nw_T := nw_tb (List.mem_of_getElem? (i := 19) (by decide +kernel)) (by decide +kernel)
theorem mw_20 : (Cond.methodLink "CloneTree" 13 yJ7_fill : Cond) ∈ nw_T := nw_tb (List.mem_of_getElem? (i := 20) (by decide +kernel)) (by decide +kernel)
theorem mw_21 : (Cond.static yJ7_fill : Cond) ∈ nw_T := nw_tb (List.mem_of_getElem? (i := 21) (by decide +kernel)) (by decide +kernel)
theorem mw_22 : (Cond.code yJ7_fill prog_11_method_103_code 4 none : Cond) ∈ nw_T := nw_tb (List.mem_of_getElem? (i := 22) (by decide +kernel)) (by decide +kernel)
theorem mw_23 : (Cond.classLink "CloneTree" 19 "[[I" : Cond) ∈ nw_T := nw_tb (List.mem_of_getElem? (i := 23) (by decide +kernel)) (by decide +kernel)
theorem mw_25 : (Cond.fieldLink "CloneTree" 9 "CloneTree" "pagesOf" "[I" : Cond) ∈ nw_T := nw_tb (List.mem_of_getElem? (i := 25) (by decide +kernel)) (by decide +kernel)
theorem mw_26 : (Cond.fieldLink "CloneTree" 21 "CloneTree" "frameOf" "[[I" : Cond) ∈ nw_T := nw_tb (List.mem_of_getElem? (i := 26) (by decide +kernel)) (by decide +kernel)
theorem mw_27 : (Cond.fieldLink "CloneTree" 24 "CloneTree" "cellsOf" "[[I" : Cond) ∈ nw_T := nw_tb (List.mem_of_getElem? (i := 27) (by decide +kernel)) (by decide +kernel)
theorem mw_28 : (Cond.fieldLink "CloneTree" 27 "CloneTree" "holdersOf" "[I" : Cond) ∈ nw_T := nw_tb (List.mem_of_getElem? (i := 28) (by decide +kernel)) (by decide +kernel)
theorem mw_29 : (Cond.fieldLink "CloneTree" 30 "CloneTree" "carried" "[I" : Cond) ∈ nw_T := nw_tb (List.mem_of_getElem? (i := 29) (by decide +kernel)) (by decide +kernel)
theorem mw_30 : (Cond.fieldLink "CloneTree" 33 "CloneTree" "ownerOf" "[I" : Cond) ∈ nw_T := nw_tb (List.mem_of_getElem? (i := 30) (by decide +kernel)) (by decide +kernel)
theorem mw_31 : (Cond.fieldLink "CloneTree" 36 "CloneTree" "keeperOf" "[I" : Cond) ∈ nw_T := nw_tb (List.mem_of_getElem? (i := 31) (by decide +kernel)) (by decide +kernel)
theorem mw_32 : (Cond.laysFinal "CloneTree" "CloneTree" "pagesOf" "[I" : Cond) ∈ nw_T := nw_tb (List.mem_of_getElem? (i := 32) (by decide +kernel)) (by decide +kernel)
theorem mw_34 : (Cond.laysFinal "CloneTree" "CloneTree" "frameOf" "[[I" : Cond) ∈ nw_T := nw_tb (List.mem_of_getElem? (i := 34) (by decide +kernel)) (by decide +kernel)
theorem mw_36 : (Cond.laysFinal "CloneTree" "CloneTree" "cellsOf" "[[I" : Cond) ∈ nw_T := nw_tb (List.mem_of_getElem? (i := 36) (by decide +kernel)) (by decide +kernel)
theorem mw_38 : (Cond.laysFinal "CloneTree" "CloneTree" "holdersOf" "[I" : Cond) ∈ nw_T := nw_tb (List.mem_of_getElem? (i := 38) (by decide +kernel)) (by decide +kernel)
theorem mw_40 : (Cond.laysFinal "CloneTree" "CloneTree" "carried" "[I" : Cond) ∈ nw_T := nw_tb (List.mem_of_getElem? (i := 40) (by decide +kernel)) (by decide +kernel)
theorem mw_42 : (Cond.laysFinal "CloneTree" "CloneTree" "ownerOf" "[I" : Cond) ∈ nw_T := nw_tb (List.mem_of_getElem? (i := 42) (by decide +kernel)) (by decide +kernel)
theorem mw_44 : (Cond.laysFinal "CloneTree" "CloneTree" "keeperOf" "[I" : Cond) ∈ nw_T := nw_tb (List.mem_of_getElem? (i := 44) (by decide +kernel)) (by decide +kernel)
theorem mw_46 : (Cond.superclass "CloneTree" "java/lang/Object" : Cond) ∈ nw_T := nw_tb (List.mem_of_getElem? (i := 46) (by decide +kernel)) (by decide +kernel)
theorem mw_47 : (Cond.arrayClass .int : Cond) ∈ nw_T := nw_tb (List.mem_of_getElem? (i := 47) (by decide +kernel)) (by decide +kernel)
theorem mw_48 : (Cond.methodLink "CloneTreeLaw" 102 yX0_sweep : Cond) ∈ nw_T := nw_tb (List.mem_of_getElem? (i := 48) (by decide +kernel)) (by decide +kernel)
theorem mw_49 : (Cond.instanceMethod yX0_sweep : Cond) ∈ nw_T := nw_tb (List.mem_of_getElem? (i := 49) (by decide +kernel)) (by decide +kernel)
theorem mw_50 : (Cond.selects "CloneTree" yX0_sweep yX0_sweep : Cond) ∈ nw_T := nw_tb (List.mem_of_getElem? (i := 50) (by decide +kernel)) (by decide +kernel)
theorem mw_51 : (Cond.code yX0_sweep prog_1_method_11_code 4 (some .int) : Cond) ∈ nw_T := nw_tb (List.mem_of_getElem? (i := 51) (by decide +kernel)) (by decide +kernel)
theorem mw_52 : (Cond.methodLink "CloneTree" 83 yX0_sameCells : Cond) ∈ nw_T := nw_tb (List.mem_of_getElem? (i := 52) (by decide +kernel)) (by decide +kernel)
theorem mw_54 : (Cond.instanceMethod yX0_sameCells : Cond) ∈ nw_T := nw_tb (List.mem_of_getElem? (i := 54) (by decide +kernel)) (by decide +kernel)
theorem mw_55 : (Cond.code yX0_sameCells prog_1_method_31_code 4 (some .boolean) : Cond) ∈ nw_T := nw_tb (List.mem_of_getElem? (i := 55) (by decide +kernel)) (by decide +kernel)
theorem mw_56 : (Cond.methodLink "CloneTree" 51 yX0_pointTo : Cond) ∈ nw_T := nw_tb (List.mem_of_getElem? (i := 56) (by decide +kernel)) (by decide +kernel)
theorem mw_58 : (Cond.instanceMethod yX0_pointTo : Cond) ∈ nw_T := nw_tb (List.mem_of_getElem? (i := 58) (by decide +kernel)) (by decide +kernel)
theorem mw_59 : (Cond.code yX0_pointTo prog_1_method_27_code 5 (some .int) : Cond) ∈ nw_T := nw_tb (List.mem_of_getElem? (i := 59) (by decide +kernel)) (by decide +kernel)
theorem mw_60 : (Cond.methodLink "CloneTree" 76 yX0_hold : Cond) ∈ nw_T := nw_tb (List.mem_of_getElem? (i := 60) (by decide +kernel)) (by decide +kernel)
theorem mw_62 : (Cond.instanceMethod yX0_hold : Cond) ∈ nw_T := nw_tb (List.mem_of_getElem? (i := 62) (by decide +kernel)) (by decide +kernel)
theorem mw_63 : (Cond.code yX0_hold prog_1_method_29_code 2 none : Cond) ∈ nw_T := nw_tb (List.mem_of_getElem? (i := 63) (by decide +kernel)) (by decide +kernel)
theorem mw_64 : (Cond.methodLink "CloneTree" 79 yX0_letGo : Cond) ∈ nw_T := nw_tb (List.mem_of_getElem? (i := 64) (by decide +kernel)) (by decide +kernel)
theorem mw_66 : (Cond.instanceMethod yX0_letGo : Cond) ∈ nw_T := nw_tb (List.mem_of_getElem? (i := 66) (by decide +kernel)) (by decide +kernel)
theorem mw_67 : (Cond.code yX0_letGo prog_1_method_30_code 2 (some .int) : Cond) ∈ nw_T := nw_tb (List.mem_of_getElem? (i := 67) (by decide +kernel)) (by decide +kernel)
theorem mw_68 : (Cond.methodLink "CloneTreeLaw" 106 yX0_merge : Cond) ∈ nw_T := nw_tb (List.mem_of_getElem? (i := 68) (by decide +kernel)) (by decide +kernel)
theorem mw_69 : (Cond.instanceMethod yX0_merge : Cond) ∈ nw_T := nw_tb (List.mem_of_getElem? (i := 69) (by decide +kernel)) (by decide +kernel)
theorem mw_70 : (Cond.selects "CloneTree" yX0_merge yX0_merge : Cond) ∈ nw_T := nw_tb (List.mem_of_getElem? (i := 70) (by decide +kernel)) (by decide +kernel)
theorem mw_71 : (Cond.code yX0_merge prog_1_method_12_code 4 (some .int) : Cond) ∈ nw_T := nw_tb (List.mem_of_getElem? (i := 71) (by decide +kernel)) (by decide +kernel)
theorem mw_72 : (Cond.methodLink "CloneTree" 86 yX0_findKeepers : Cond) ∈ nw_T := nw_tb (List.mem_of_getElem? (i := 72) (by decide +kernel)) (by decide +kernel)
theorem mw_74 : (Cond.instanceMethod yX0_findKeepers : Cond) ∈ nw_T := nw_tb (List.mem_of_getElem? (i := 74) (by decide +kernel)) (by decide +kernel)
theorem mw_75 : (Cond.code yX0_findKeepers prog_1_method_32_code 2 none : Cond) ∈ nw_T := nw_tb (List.mem_of_getElem? (i := 75) (by decide +kernel)) (by decide +kernel)
theorem mw_76 : (Cond.methodLink "CloneTree" 135 yX0_firstWithCellsOf : Cond) ∈ nw_T := nw_tb (List.mem_of_getElem? (i := 76) (by decide +kernel)) (by decide +kernel)
theorem mw_78 : (Cond.instanceMethod yX0_firstWithCellsOf : Cond) ∈ nw_T := nw_tb (List.mem_of_getElem? (i := 78) (by decide +kernel)) (by decide +kernel)
theorem mw_79 : (Cond.code yX0_firstWithCellsOf prog_1_method_33_code 3 (some .int) : Cond) ∈ nw_T := nw_tb (List.mem_of_getElem? (i := 79) (by decide +kernel)) (by decide +kernel)
theorem mw_80 : (Cond.methodLink "CloneTreeLaw" 119 yX0_count : Cond) ∈ nw_T := nw_tb (List.mem_of_getElem? (i := 80) (by decide +kernel)) (by decide +kernel)
theorem mw_81 : (Cond.instanceMethod yX0_count : Cond) ∈ nw_T := nw_tb (List.mem_of_getElem? (i := 81) (by decide +kernel)) (by decide +kernel)
theorem mw_82 : (Cond.selects "CloneTree" yX0_count yX0_count : Cond) ∈ nw_T := nw_tb (List.mem_of_getElem? (i := 82) (by decide +kernel)) (by decide +kernel)
theorem mw_83 : (Cond.code yX0_count prog_1_method_16_code 2 (some .int) : Cond) ∈ nw_T := nw_tb (List.mem_of_getElem? (i := 83) (by decide +kernel)) (by decide +kernel)
theorem mw_84 : (Cond.methodLink "CloneTree" 104 yX0_rowsThere : Cond) ∈ nw_T := nw_tb (List.mem_of_getElem? (i := 84) (by decide +kernel)) (by decide +kernel)
theorem mw_86 : (Cond.instanceMethod yX0_rowsThere : Cond) ∈ nw_T := nw_tb (List.mem_of_getElem? (i := 86) (by decide +kernel)) (by decide +kernel)
theorem mw_87 : (Cond.code yX0_rowsThere prog_1_method_40_code 3 (some .int) : Cond) ∈ nw_T := nw_tb (List.mem_of_getElem? (i := 87) (by decide +kernel)) (by decide +kernel)
theorem mw_88 : (Cond.methodLink "CloneTree" 113 yX0_isRow : Cond) ∈ nw_T := nw_tb (List.mem_of_getElem? (i := 88) (by decide +kernel)) (by decide +kernel)
theorem mw_90 : (Cond.instanceMethod yX0_isRow : Cond) ∈ nw_T := nw_tb (List.mem_of_getElem? (i := 90) (by decide +kernel)) (by decide +kernel)
theorem mw_91 : (Cond.code yX0_isRow prog_1_method_24_code 2 (some .boolean) : Cond) ∈ nw_T := nw_tb (List.mem_of_getElem? (i := 91) (by decide +kernel)) (by decide +kernel)
theorem mw_92 : (Cond.methodLink "CloneTree" 107 yX0_pagesThere : Cond) ∈ nw_T := nw_tb (List.mem_of_getElem? (i := 92) (by decide +kernel)) (by decide +kernel)
theorem mw_94 : (Cond.instanceMethod yX0_pagesThere : Cond) ∈ nw_T := nw_tb (List.mem_of_getElem? (i := 94) (by decide +kernel)) (by decide +kernel)
theorem mw_95 : (Cond.code yX0_pagesThere prog_1_method_41_code 3 (some .int) : Cond) ∈ nw_T := nw_tb (List.mem_of_getElem? (i := 95) (by decide +kernel)) (by decide +kernel)
theorem mw_96 : (Cond.methodLink "CloneTree" 110 yX0_framesThere : Cond) ∈ nw_T := nw_tb (List.mem_of_getElem? (i := 96) (by decide +kernel)) (by decide +kernel)
theorem mw_98 : (Cond.instanceMethod yX0_framesThere : Cond) ∈ nw_T := nw_tb (List.mem_of_getElem? (i := 98) (by decide +kernel)) (by decide +kernel)
theorem mw_99 : (Cond.code yX0_framesThere prog_1_method_42_code 3 (some .int) : Cond) ∈ nw_T := nw_tb (List.mem_of_getElem? (i := 99) (by decide +kernel)) (by decide +kernel)
theorem mw_100 : (Cond.methodLink "CloneTree" 95 yX0_framesOwnedBy : Cond) ∈ nw_T := nw_tb (List.mem_of_getElem? (i := 100) (by decide +kernel)) (by decide +kernel)
theorem mw_102 : (Cond.instanceMethod yX0_framesOwnedBy : Cond) ∈ nw_T := nw_tb (List.mem_of_getElem? (i := 102) (by decide +kernel)) (by decide +kernel)
theorem mw_103 : (Cond.code yX0_framesOwnedBy prog_1_method_37_code 4 (some .int) : Cond) ∈ nw_T := nw_tb (List.mem_of_getElem? (i := 103) (by decide +kernel)) (by decide +kernel)
theorem mw_104 : (Cond.methodLink "CloneTree" 141 yX0_findOwners : Cond) ∈ nw_T := nw_tb (List.mem_of_getElem? (i := 104) (by decide +kernel)) (by decide +kernel)
theorem mw_106 : (Cond.instanceMethod yX0_findOwners : Cond) ∈ nw_T := nw_tb (List.mem_of_getElem? (i := 106) (by decide +kernel)) (by decide +kernel)
theorem mw_107 : (Cond.code yX0_findOwners prog_1_method_38_code 5 none : Cond) ∈ nw_T := nw_tb (List.mem_of_getElem? (i := 107) (by decide +kernel)) (by decide +kernel)
theorem mw_108 : (Cond.methodLink "CloneTreeLaw" 64 yL_make : Cond) ∈ nw_T := nw_tb (List.mem_of_getElem? (i := 108) (by decide +kernel)) (by decide +kernel)
theorem mw_109 : (Cond.static yL_make : Cond) ∈ nw_T := nw_tb (List.mem_of_getElem? (i := 109) (by decide +kernel)) (by decide +kernel)
theorem mw_110 : (Cond.codeWith yL_make method_3_code 4 (some .int) [(0, 9, 12, 13), (0, 9, 15, 15)] : Cond) ∈ nw_T := nw_tb (List.mem_of_getElem? (i := 110) (by decide +kernel)) (by decide +kernel)
theorem mw_111 : (Cond.classLink "CloneTreeLaw" 13 "java/lang/IllegalArgumentException" : Cond) ∈ nw_T := nw_tb (List.mem_of_getElem? (i := 111) (by decide +kernel)) (by decide +kernel)
theorem mw_112 : (Cond.classLink "CloneTreeLaw" 15 "java/lang/IllegalStateException" : Cond) ∈ nw_T := nw_tb (List.mem_of_getElem? (i := 112) (by decide +kernel)) (by decide +kernel)
theorem mw_113 : (Cond.methodLink "CloneTreeLaw" 7 yX0_make : Cond) ∈ nw_T := nw_tb (List.mem_of_getElem? (i := 113) (by decide +kernel)) (by decide +kernel)
theorem mw_114 : (Cond.instanceMethod yX0_make : Cond) ∈ nw_T := nw_tb (List.mem_of_getElem? (i := 114) (by decide +kernel)) (by decide +kernel)
theorem mw_115 : (Cond.selects "CloneTree" yX0_make yX0_make : Cond) ∈ nw_T := nw_tb (List.mem_of_getElem? (i := 115) (by decide +kernel)) (by decide +kernel)
theorem mw_116 : (Cond.code yX0_make prog_1_method_2_code 3 (some .int) : Cond) ∈ nw_T := nw_tb (List.mem_of_getElem? (i := 116) (by decide +kernel)) (by decide +kernel)
theorem mw_117 : (Cond.methodLink "CloneTree" 39 yX0_requirePageCount : Cond) ∈ nw_T := nw_tb (List.mem_of_getElem? (i := 117) (by decide +kernel)) (by decide +kernel)
theorem mw_119 : (Cond.instanceMethod yX0_requirePageCount : Cond) ∈ nw_T := nw_tb (List.mem_of_getElem? (i := 119) (by decide +kernel)) (by decide +kernel)
theorem mw_120 : (Cond.code yX0_requirePageCount prog_1_method_21_code 2 none : Cond) ∈ nw_T := nw_tb (List.mem_of_getElem? (i := 120) (by decide +kernel)) (by decide +kernel)
theorem mw_121 : (Cond.classLink "CloneTree" 101 "java/lang/IllegalArgumentException" : Cond) ∈ nw_T := nw_tb (List.mem_of_getElem? (i := 121) (by decide +kernel)) (by decide +kernel)
theorem mw_122 : (Cond.instantiable "java/lang/IllegalArgumentException" 6 : Cond) ∈ nw_T := nw_tb (List.mem_of_getElem? (i := 122) (by decide +kernel)) (by decide +kernel)
theorem mw_130 : (Cond.selects "java/lang/IllegalArgumentException" ⟨"java/lang/Throwable", "fillInStackTrace", "(I)Ljava/lang/Throwable;"⟩ ⟨"java/lang/Throwable", "fillInStackTrace", "(I)Ljava/lang/Throwable;"⟩ : Cond) ∈ nw_T := nw_tb (List.mem_of_getElem? (i := 130) (by decide +kernel)) (by decide +kernel)
theorem mw_131 : (Cond.selects "java/lang/IllegalArgumentException" ⟨"java/lang/Throwable", "fillInStackTrace", "()Ljava/lang/Throwable;"⟩ ⟨"java/lang/Throwable", "fillInStackTrace", "()Ljava/lang/Throwable;"⟩ : Cond) ∈ nw_T := nw_tb (List.mem_of_getElem? (i := 131) (by decide +kernel)) (by decide +kernel)
theorem mw_132 : (Cond.lays "java/lang/IllegalArgumentException" "java/lang/Throwable" "cause" "Ljava/lang/Throwable;" : Cond) ∈ nw_T := nw_tb (List.mem_of_getElem? (i := 132) (by decide +kernel)) (by decide +kernel)
theorem mw_133 : (Cond.lays "java/lang/Throwable" "java/lang/Throwable" "cause" "Ljava/lang/Throwable;" : Cond) ∈ nw_T := nw_tb (List.mem_of_getElem? (i := 133) (by decide +kernel)) (by decide +kernel)
theorem mw_134 : (Cond.lays "java/lang/IllegalArgumentException" "java/lang/Throwable" "stackTrace" "[Ljava/lang/StackTraceElement;" : Cond) ∈ nw_T := nw_tb (List.mem_of_getElem? (i := 134) (by decide +kernel)) (by decide +kernel)
theorem mw_135 : (Cond.lays "java/lang/Throwable" "java/lang/Throwable" "stackTrace" "[Ljava/lang/StackTraceElement;" : Cond) ∈ nw_T := nw_tb (List.mem_of_getElem? (i := 135) (by decide +kernel)) (by decide +kernel)
theorem mw_136 : (Cond.lays "java/lang/IllegalArgumentException" "java/lang/Throwable" "suppressedExceptions" "Ljava/util/List;" : Cond) ∈ nw_T := nw_tb (List.mem_of_getElem? (i := 136) (by decide +kernel)) (by decide +kernel)
theorem mw_137 : (Cond.lays "java/lang/Throwable" "java/lang/Throwable" "suppressedExceptions" "Ljava/util/List;" : Cond) ∈ nw_T := nw_tb (List.mem_of_getElem? (i := 137) (by decide +kernel)) (by decide +kernel)
theorem mw_138 : (Cond.lays "java/lang/IllegalArgumentException" "java/lang/Throwable" "detailMessage" "Ljava/lang/String;" : Cond) ∈ nw_T := nw_tb (List.mem_of_getElem? (i := 138) (by decide +kernel)) (by decide +kernel)
theorem mw_139 : (Cond.lays "java/lang/Throwable" "java/lang/Throwable" "detailMessage" "Ljava/lang/String;" : Cond) ∈ nw_T := nw_tb (List.mem_of_getElem? (i := 139) (by decide +kernel)) (by decide +kernel)
theorem mw_140 : (Cond.lays "java/lang/IllegalArgumentException" "java/lang/Throwable" "backtrace" "Ljava/lang/Object;" : Cond) ∈ nw_T := nw_tb (List.mem_of_getElem? (i := 140) (by decide +kernel)) (by decide +kernel)
theorem mw_141 : (Cond.lays "java/lang/Throwable" "java/lang/Throwable" "backtrace" "Ljava/lang/Object;" : Cond) ∈ nw_T := nw_tb (List.mem_of_getElem? (i := 141) (by decide +kernel)) (by decide +kernel)
theorem mw_142 : (Cond.fieldLink "java/lang/Throwable" 198 "java/lang/Throwable" "backtrace" "Ljava/lang/Object;" : Cond) ∈ nw_T := nw_tb (List.mem_of_getElem? (i := 142) (by decide +kernel)) (by decide +kernel)
theorem mw_143 : (Cond.superclass "java/lang/Throwable" "java/lang/Object" : Cond) ∈ nw_T := nw_tb (List.mem_of_getElem? (i := 143) (by decide +kernel)) (by decide +kernel)
theorem mw_144 : (Cond.instanceMethod ⟨"java/lang/Throwable", "<init>", "()V"⟩ : Cond) ∈ nw_T := nw_tb (List.mem_of_getElem? (i := 144) (by decide +kernel)) (by decide +kernel)
theorem mw_145 : (Cond.code ⟨"java/lang/Throwable", "<init>", "()V"⟩ prog_10_method_1_code 1 none : Cond) ∈ nw_T := nw_tb (List.mem_of_getElem? (i := 145) (by decide +kernel)) (by decide +kernel)
theorem mw_146 : (Cond.methodLink "java/lang/Throwable" 1 ⟨"java/lang/Object", "<init>", "()V"⟩ : Cond) ∈ nw_T := nw_tb (List.mem_of_getElem? (i := 146) (by decide +kernel)) (by decide +kernel)
theorem mw_147 : (Cond.fieldLink "java/lang/Throwable" 13 "java/lang/Throwable" "UNASSIGNED_STACK" "[Ljava/lang/StackTraceElement;" : Cond) ∈ nw_T := nw_tb (List.mem_of_getElem? (i := 147) (by decide +kernel)) (by decide +kernel)
theorem mw_149 : (Cond.fieldLink "java/lang/Throwable" 20 "java/lang/Throwable" "SUPPRESSED_SENTINEL" "Ljava/util/List;" : Cond) ∈ nw_T := nw_tb (List.mem_of_getElem? (i := 149) (by decide +kernel)) (by decide +kernel)
theorem mw_151 : (Cond.methodLink "java/lang/Throwable" 27 ⟨"java/lang/Throwable", "fillInStackTrace", "()Ljava/lang/Throwable;"⟩ : Cond) ∈ nw_T := nw_tb (List.mem_of_getElem? (i := 151) (by decide +kernel)) (by decide +kernel)
theorem mw_152 : (Cond.instanceMethod ⟨"java/lang/Throwable", "fillInStackTrace", "()Ljava/lang/Throwable;"⟩ : Cond) ∈ nw_T := nw_tb (List.mem_of_getElem? (i := 152) (by decide +kernel)) (by decide +kernel)
theorem mw_154 : (Cond.selects "java/lang/ArithmeticException" ⟨"java/lang/Throwable", "fillInStackTrace", "()Ljava/lang/Throwable;"⟩ ⟨"java/lang/Throwable", "fillInStackTrace", "()Ljava/lang/Throwable;"⟩ : Cond) ∈ nw_T := nw_tb (List.mem_of_getElem? (i := 154) (by decide +kernel)) (by decide +kernel)
theorem mw_155 : (Cond.selects "java/lang/IllegalStateException" ⟨"java/lang/Throwable", "fillInStackTrace", "()Ljava/lang/Throwable;"⟩ ⟨"java/lang/Throwable", "fillInStackTrace", "()Ljava/lang/Throwable;"⟩ : Cond) ∈ nw_T := nw_tb (List.mem_of_getElem? (i := 155) (by decide +kernel)) (by decide +kernel)
theorem mw_156 : (Cond.selects "java/util/NoSuchElementException" ⟨"java/lang/Throwable", "fillInStackTrace", "()Ljava/lang/Throwable;"⟩ ⟨"java/lang/Throwable", "fillInStackTrace", "()Ljava/lang/Throwable;"⟩ : Cond) ∈ nw_T := nw_tb (List.mem_of_getElem? (i := 156) (by decide +kernel)) (by decide +kernel)
theorem mw_157 : (Cond.codeSync ⟨"java/lang/Throwable", "fillInStackTrace", "()Ljava/lang/Throwable;"⟩ prog_10_method_18_code 1 (Option.some (.object "java/lang/Throwable")) : Cond) ∈ nw_T := nw_tb (List.mem_of_getElem? (i := 157) (by decide +kernel)) (by decide +kernel)
theorem mw_158 : (Cond.methodLink "java/lang/Throwable" 202 ⟨"java/lang/Throwable", "fillInStackTrace", "(I)Ljava/lang/Throwable;"⟩ : Cond) ∈ nw_T := nw_tb (List.mem_of_getElem? (i := 158) (by decide +kernel)) (by decide +kernel)
theorem mw_160 : (Cond.instanceMethod ⟨"java/lang/Throwable", "fillInStackTrace", "(I)Ljava/lang/Throwable;"⟩ : Cond) ∈ nw_T := nw_tb (List.mem_of_getElem? (i := 160) (by decide +kernel)) (by decide +kernel)
theorem mw_161 : (Cond.instantiable "java/lang/Throwable" 6 : Cond) ∈ nw_T := nw_tb (List.mem_of_getElem? (i := 161) (by decide +kernel)) (by decide +kernel)
theorem mw_162 : (Cond.native ⟨"java/lang/Throwable", "fillInStackTrace", "(I)Ljava/lang/Throwable;"⟩ : Cond) ∈ nw_T := nw_tb (List.mem_of_getElem? (i := 162) (by decide +kernel)) (by decide +kernel)
theorem mw_163 : (Cond.methodLink "CloneTree" 103 ⟨"java/lang/IllegalArgumentException", "<init>", "()V"⟩ : Cond) ∈ nw_T := nw_tb (List.mem_of_getElem? (i := 163) (by decide +kernel)) (by decide +kernel)
theorem mw_164 : (Cond.instanceMethod ⟨"java/lang/IllegalArgumentException", "<init>", "()V"⟩ : Cond) ∈ nw_T := nw_tb (List.mem_of_getElem? (i := 164) (by decide +kernel)) (by decide +kernel)
theorem mw_165 : (Cond.code ⟨"java/lang/IllegalArgumentException", "<init>", "()V"⟩ prog_6_method_1_code 1 none : Cond) ∈ nw_T := nw_tb (List.mem_of_getElem? (i := 165) (by decide +kernel)) (by decide +kernel)
theorem mw_166 : (Cond.methodLink "java/lang/IllegalArgumentException" 1 ⟨"java/lang/RuntimeException", "<init>", "()V"⟩ : Cond) ∈ nw_T := nw_tb (List.mem_of_getElem? (i := 166) (by decide +kernel)) (by decide +kernel)
theorem mw_167 : (Cond.instanceMethod ⟨"java/lang/RuntimeException", "<init>", "()V"⟩ : Cond) ∈ nw_T := nw_tb (List.mem_of_getElem? (i := 167) (by decide +kernel)) (by decide +kernel)
theorem mw_168 : (Cond.code ⟨"java/lang/RuntimeException", "<init>", "()V"⟩ prog_8_method_1_code 1 none : Cond) ∈ nw_T := nw_tb (List.mem_of_getElem? (i := 168) (by decide +kernel)) (by decide +kernel)
theorem mw_169 : (Cond.methodLink "java/lang/RuntimeException" 1 ⟨"java/lang/Exception", "<init>", "()V"⟩ : Cond) ∈ nw_T := nw_tb (List.mem_of_getElem? (i := 169) (by decide +kernel)) (by decide +kernel)
theorem mw_170 : (Cond.instanceMethod ⟨"java/lang/Exception", "<init>", "()V"⟩ : Cond) ∈ nw_T := nw_tb (List.mem_of_getElem? (i := 170) (by decide +kernel)) (by decide +kernel)
theorem mw_171 : (Cond.code ⟨"java/lang/Exception", "<init>", "()V"⟩ prog_5_method_1_code 1 none : Cond) ∈ nw_T := nw_tb (List.mem_of_getElem? (i := 171) (by decide +kernel)) (by decide +kernel)
theorem mw_172 : (Cond.methodLink "java/lang/Exception" 1 ⟨"java/lang/Throwable", "<init>", "()V"⟩ : Cond) ∈ nw_T := nw_tb (List.mem_of_getElem? (i := 172) (by decide +kernel)) (by decide +kernel)
theorem mw_174 : (Cond.fieldLink "java/lang/Throwable" 7 "java/lang/Throwable" "cause" "Ljava/lang/Throwable;" : Cond) ∈ nw_T := nw_tb (List.mem_of_getElem? (i := 174) (by decide +kernel)) (by decide +kernel)
theorem mw_175 : (Cond.fieldLink "java/lang/Throwable" 17 "java/lang/Throwable" "stackTrace" "[Ljava/lang/StackTraceElement;" : Cond) ∈ nw_T := nw_tb (List.mem_of_getElem? (i := 175) (by decide +kernel)) (by decide +kernel)
theorem mw_176 : (Cond.fieldLink "java/lang/Throwable" 24 "java/lang/Throwable" "suppressedExceptions" "Ljava/util/List;" : Cond) ∈ nw_T := nw_tb (List.mem_of_getElem? (i := 176) (by decide +kernel)) (by decide +kernel)
theorem mw_181 : (Cond.lays "java/lang/IllegalArgumentException" "java/lang/Throwable" "depth" "I" : Cond) ∈ nw_T := nw_tb (List.mem_of_getElem? (i := 181) (by decide +kernel)) (by decide +kernel)
theorem mw_184 : (Cond.superclass "java/lang/IllegalArgumentException" "java/lang/RuntimeException" : Cond) ∈ nw_T := nw_tb (List.mem_of_getElem? (i := 184) (by decide +kernel)) (by decide +kernel)
theorem mw_185 : (Cond.methodLink "CloneTree" 43 yX0_requireFreeRow : Cond) ∈ nw_T := nw_tb (List.mem_of_getElem? (i := 185) (by decide +kernel)) (by decide +kernel)
theorem mw_187 : (Cond.instanceMethod yX0_requireFreeRow : Cond) ∈ nw_T := nw_tb (List.mem_of_getElem? (i := 187) (by decide +kernel)) (by decide +kernel)
theorem mw_188 : (Cond.code yX0_requireFreeRow prog_1_method_22_code 2 (some .int) : Cond) ∈ nw_T := nw_tb (List.mem_of_getElem? (i := 188) (by decide +kernel)) (by decide +kernel)
theorem mw_189 : (Cond.classLink "CloneTree" 120 "java/lang/IllegalStateException" : Cond) ∈ nw_T := nw_tb (List.mem_of_getElem? (i := 189) (by decide +kernel)) (by decide +kernel)
theorem mw_190 : (Cond.instantiable "java/lang/IllegalStateException" 6 : Cond) ∈ nw_T := nw_tb (List.mem_of_getElem? (i := 190) (by decide +kernel)) (by decide +kernel)
theorem mw_192 : (Cond.selects "java/lang/IllegalStateException" ⟨"java/lang/Throwable", "fillInStackTrace", "(I)Ljava/lang/Throwable;"⟩ ⟨"java/lang/Throwable", "fillInStackTrace", "(I)Ljava/lang/Throwable;"⟩ : Cond) ∈ nw_T := nw_tb (List.mem_of_getElem? (i := 192) (by decide +kernel)) (by decide +kernel)
theorem mw_193 : (Cond.lays "java/lang/IllegalStateException" "java/lang/Throwable" "cause" "Ljava/lang/Throwable;" : Cond) ∈ nw_T := nw_tb (List.mem_of_getElem? (i := 193) (by decide +kernel)) (by decide +kernel)
theorem mw_194 : (Cond.lays "java/lang/IllegalStateException" "java/lang/Throwable" "stackTrace" "[Ljava/lang/StackTraceElement;" : Cond) ∈ nw_T := nw_tb (List.mem_of_getElem? (i := 194) (by decide +kernel)) (by decide +kernel)
theorem mw_195 : (Cond.lays "java/lang/IllegalStateException" "java/lang/Throwable" "suppressedExceptions" "Ljava/util/List;" : Cond) ∈ nw_T := nw_tb (List.mem_of_getElem? (i := 195) (by decide +kernel)) (by decide +kernel)
theorem mw_196 : (Cond.lays "java/lang/IllegalStateException" "java/lang/Throwable" "detailMessage" "Ljava/lang/String;" : Cond) ∈ nw_T := nw_tb (List.mem_of_getElem? (i := 196) (by decide +kernel)) (by decide +kernel)
theorem mw_197 : (Cond.lays "java/lang/IllegalStateException" "java/lang/Throwable" "backtrace" "Ljava/lang/Object;" : Cond) ∈ nw_T := nw_tb (List.mem_of_getElem? (i := 197) (by decide +kernel)) (by decide +kernel)
theorem mw_198 : (Cond.methodLink "CloneTree" 122 ⟨"java/lang/IllegalStateException", "<init>", "()V"⟩ : Cond) ∈ nw_T := nw_tb (List.mem_of_getElem? (i := 198) (by decide +kernel)) (by decide +kernel)
theorem mw_199 : (Cond.instanceMethod ⟨"java/lang/IllegalStateException", "<init>", "()V"⟩ : Cond) ∈ nw_T := nw_tb (List.mem_of_getElem? (i := 199) (by decide +kernel)) (by decide +kernel)
theorem mw_200 : (Cond.code ⟨"java/lang/IllegalStateException", "<init>", "()V"⟩ prog_7_method_1_code 1 none : Cond) ∈ nw_T := nw_tb (List.mem_of_getElem? (i := 200) (by decide +kernel)) (by decide +kernel)
theorem mw_201 : (Cond.methodLink "java/lang/IllegalStateException" 1 ⟨"java/lang/RuntimeException", "<init>", "()V"⟩ : Cond) ∈ nw_T := nw_tb (List.mem_of_getElem? (i := 201) (by decide +kernel)) (by decide +kernel)
theorem mw_202 : (Cond.lays "java/lang/IllegalStateException" "java/lang/Throwable" "depth" "I" : Cond) ∈ nw_T := nw_tb (List.mem_of_getElem? (i := 202) (by decide +kernel)) (by decide +kernel)
theorem mw_203 : (Cond.superclass "java/lang/IllegalStateException" "java/lang/RuntimeException" : Cond) ∈ nw_T := nw_tb (List.mem_of_getElem? (i := 203) (by decide +kernel)) (by decide +kernel)
theorem mw_204 : (Cond.methodLink "CloneTreeLaw" 74 yL_share : Cond) ∈ nw_T := nw_tb (List.mem_of_getElem? (i := 204) (by decide +kernel)) (by decide +kernel)
theorem mw_205 : (Cond.static yL_share : Cond) ∈ nw_T := nw_tb (List.mem_of_getElem? (i := 205) (by decide +kernel)) (by decide +kernel)
theorem mw_206 : (Cond.codeWith yL_share method_4_code 6 (some .int) [(0, 12, 15, 21), (0, 12, 19, 15)] : Cond) ∈ nw_T := nw_tb (List.mem_of_getElem? (i := 206) (by decide +kernel)) (by decide +kernel)
theorem mw_207 : (Cond.classLink "CloneTreeLaw" 21 "java/util/NoSuchElementException" : Cond) ∈ nw_T := nw_tb (List.mem_of_getElem? (i := 207) (by decide +kernel)) (by decide +kernel)
theorem mw_208 : (Cond.methodLink "CloneTreeLaw" 17 yX0_share : Cond) ∈ nw_T := nw_tb (List.mem_of_getElem? (i := 208) (by decide +kernel)) (by decide +kernel)
theorem mw_209 : (Cond.instanceMethod yX0_share : Cond) ∈ nw_T := nw_tb (List.mem_of_getElem? (i := 209) (by decide +kernel)) (by decide +kernel)
theorem mw_210 : (Cond.selects "CloneTree" yX0_share yX0_share : Cond) ∈ nw_T := nw_tb (List.mem_of_getElem? (i := 210) (by decide +kernel)) (by decide +kernel)
theorem mw_211 : (Cond.code yX0_share prog_1_method_3_code 6 (some .int) : Cond) ∈ nw_T := nw_tb (List.mem_of_getElem? (i := 211) (by decide +kernel)) (by decide +kernel)
theorem mw_212 : (Cond.methodLink "CloneTree" 47 yX0_requirePages : Cond) ∈ nw_T := nw_tb (List.mem_of_getElem? (i := 212) (by decide +kernel)) (by decide +kernel)
theorem mw_214 : (Cond.instanceMethod yX0_requirePages : Cond) ∈ nw_T := nw_tb (List.mem_of_getElem? (i := 214) (by decide +kernel)) (by decide +kernel)
theorem mw_215 : (Cond.code yX0_requirePages prog_1_method_19_code 4 none : Cond) ∈ nw_T := nw_tb (List.mem_of_getElem? (i := 215) (by decide +kernel)) (by decide +kernel)
theorem mw_216 : (Cond.classLink "CloneTree" 117 "java/util/NoSuchElementException" : Cond) ∈ nw_T := nw_tb (List.mem_of_getElem? (i := 216) (by decide +kernel)) (by decide +kernel)
theorem mw_217 : (Cond.instantiable "java/util/NoSuchElementException" 6 : Cond) ∈ nw_T := nw_tb (List.mem_of_getElem? (i := 217) (by decide +kernel)) (by decide +kernel)
theorem mw_219 : (Cond.selects "java/util/NoSuchElementException" ⟨"java/lang/Throwable", "fillInStackTrace", "(I)Ljava/lang/Throwable;"⟩ ⟨"java/lang/Throwable", "fillInStackTrace", "(I)Ljava/lang/Throwable;"⟩ : Cond) ∈ nw_T := nw_tb (List.mem_of_getElem? (i := 219) (by decide +kernel)) (by decide +kernel)
theorem mw_220 : (Cond.lays "java/util/NoSuchElementException" "java/lang/Throwable" "cause" "Ljava/lang/Throwable;" : Cond) ∈ nw_T := nw_tb (List.mem_of_getElem? (i := 220) (by decide +kernel)) (by decide +kernel)
theorem mw_221 : (Cond.lays "java/util/NoSuchElementException" "java/lang/Throwable" "stackTrace" "[Ljava/lang/StackTraceElement;" : Cond) ∈ nw_T := nw_tb (List.mem_of_getElem? (i := 221) (by decide +kernel)) (by decide +kernel)
theorem mw_222 : (Cond.lays "java/util/NoSuchElementException" "java/lang/Throwable" "suppressedExceptions" "Ljava/util/List;" : Cond) ∈ nw_T := nw_tb (List.mem_of_getElem? (i := 222) (by decide +kernel)) (by decide +kernel)
theorem mw_223 : (Cond.lays "java/util/NoSuchElementException" "java/lang/Throwable" "detailMessage" "Ljava/lang/String;" : Cond) ∈ nw_T := nw_tb (List.mem_of_getElem? (i := 223) (by decide +kernel)) (by decide +kernel)
theorem mw_224 : (Cond.lays "java/util/NoSuchElementException" "java/lang/Throwable" "backtrace" "Ljava/lang/Object;" : Cond) ∈ nw_T := nw_tb (List.mem_of_getElem? (i := 224) (by decide +kernel)) (by decide +kernel)
theorem mw_225 : (Cond.methodLink "CloneTree" 119 ⟨"java/util/NoSuchElementException", "<init>", "()V"⟩ : Cond) ∈ nw_T := nw_tb (List.mem_of_getElem? (i := 225) (by decide +kernel)) (by decide +kernel)
theorem mw_226 : (Cond.instanceMethod ⟨"java/util/NoSuchElementException", "<init>", "()V"⟩ : Cond) ∈ nw_T := nw_tb (List.mem_of_getElem? (i := 226) (by decide +kernel)) (by decide +kernel)
theorem mw_227 : (Cond.code ⟨"java/util/NoSuchElementException", "<init>", "()V"⟩ prog_12_method_1_code 1 none : Cond) ∈ nw_T := nw_tb (List.mem_of_getElem? (i := 227) (by decide +kernel)) (by decide +kernel)
theorem mw_228 : (Cond.methodLink "java/util/NoSuchElementException" 1 ⟨"java/lang/RuntimeException", "<init>", "()V"⟩ : Cond) ∈ nw_T := nw_tb (List.mem_of_getElem? (i := 228) (by decide +kernel)) (by decide +kernel)
theorem mw_229 : (Cond.lays "java/util/NoSuchElementException" "java/lang/Throwable" "depth" "I" : Cond) ∈ nw_T := nw_tb (List.mem_of_getElem? (i := 229) (by decide +kernel)) (by decide +kernel)
theorem mw_230 : (Cond.superclass "java/util/NoSuchElementException" "java/lang/RuntimeException" : Cond) ∈ nw_T := nw_tb (List.mem_of_getElem? (i := 230) (by decide +kernel)) (by decide +kernel)
theorem mw_231 : (Cond.methodLink "CloneTreeLaw" 78 yL_drop : Cond) ∈ nw_T := nw_tb (List.mem_of_getElem? (i := 231) (by decide +kernel)) (by decide +kernel)
theorem mw_232 : (Cond.static yL_drop : Cond) ∈ nw_T := nw_tb (List.mem_of_getElem? (i := 232) (by decide +kernel)) (by decide +kernel)
theorem mw_233 : (Cond.codeWith yL_drop method_5_code 4 (some .int) [(0, 9, 12, 21)] : Cond) ∈ nw_T := nw_tb (List.mem_of_getElem? (i := 233) (by decide +kernel)) (by decide +kernel)
theorem mw_234 : (Cond.methodLink "CloneTreeLaw" 23 yX0_drop : Cond) ∈ nw_T := nw_tb (List.mem_of_getElem? (i := 234) (by decide +kernel)) (by decide +kernel)
theorem mw_235 : (Cond.instanceMethod yX0_drop : Cond) ∈ nw_T := nw_tb (List.mem_of_getElem? (i := 235) (by decide +kernel)) (by decide +kernel)
theorem mw_236 : (Cond.selects "CloneTree" yX0_drop yX0_drop : Cond) ∈ nw_T := nw_tb (List.mem_of_getElem? (i := 236) (by decide +kernel)) (by decide +kernel)
theorem mw_237 : (Cond.code yX0_drop prog_1_method_4_code 3 (some .int) : Cond) ∈ nw_T := nw_tb (List.mem_of_getElem? (i := 237) (by decide +kernel)) (by decide +kernel)
theorem mw_238 : (Cond.methodLink "CloneTree" 55 yX0_requireRow : Cond) ∈ nw_T := nw_tb (List.mem_of_getElem? (i := 238) (by decide +kernel)) (by decide +kernel)
theorem mw_240 : (Cond.instanceMethod yX0_requireRow : Cond) ∈ nw_T := nw_tb (List.mem_of_getElem? (i := 240) (by decide +kernel)) (by decide +kernel)
theorem mw_241 : (Cond.code yX0_requireRow prog_1_method_17_code 2 none : Cond) ∈ nw_T := nw_tb (List.mem_of_getElem? (i := 241) (by decide +kernel)) (by decide +kernel)
theorem mw_242 : (Cond.methodLink "CloneTree" 58 yX0_blankFrom : Cond) ∈ nw_T := nw_tb (List.mem_of_getElem? (i := 242) (by decide +kernel)) (by decide +kernel)
theorem mw_244 : (Cond.instanceMethod yX0_blankFrom : Cond) ∈ nw_T := nw_tb (List.mem_of_getElem? (i := 244) (by decide +kernel)) (by decide +kernel)
theorem mw_245 : (Cond.code yX0_blankFrom prog_1_method_28_code 5 (some .int) : Cond) ∈ nw_T := nw_tb (List.mem_of_getElem? (i := 245) (by decide +kernel)) (by decide +kernel)
theorem mw_246 : (Cond.methodLink "CloneTreeLaw" 81 yL_write : Cond) ∈ nw_T := nw_tb (List.mem_of_getElem? (i := 246) (by decide +kernel)) (by decide +kernel)
theorem mw_247 : (Cond.static yL_write : Cond) ∈ nw_T := nw_tb (List.mem_of_getElem? (i := 247) (by decide +kernel)) (by decide +kernel)
theorem mw_248 : (Cond.codeWith yL_write method_6_code 7 (some .int) [(0, 14, 17, 21), (0, 14, 21, 30)] : Cond) ∈ nw_T := nw_tb (List.mem_of_getElem? (i := 248) (by decide +kernel)) (by decide +kernel)
theorem mw_249 : (Cond.classLink "CloneTreeLaw" 30 "java/lang/ArithmeticException" : Cond) ∈ nw_T := nw_tb (List.mem_of_getElem? (i := 249) (by decide +kernel)) (by decide +kernel)
theorem mw_250 : (Cond.methodLink "CloneTreeLaw" 26 yX0_write : Cond) ∈ nw_T := nw_tb (List.mem_of_getElem? (i := 250) (by decide +kernel)) (by decide +kernel)
theorem mw_251 : (Cond.instanceMethod yX0_write : Cond) ∈ nw_T := nw_tb (List.mem_of_getElem? (i := 251) (by decide +kernel)) (by decide +kernel)
theorem mw_252 : (Cond.selects "CloneTree" yX0_write yX0_write : Cond) ∈ nw_T := nw_tb (List.mem_of_getElem? (i := 252) (by decide +kernel)) (by decide +kernel)
theorem mw_253 : (Cond.code yX0_write prog_1_method_5_code 6 (some .int) : Cond) ∈ nw_T := nw_tb (List.mem_of_getElem? (i := 253) (by decide +kernel)) (by decide +kernel)
theorem mw_254 : (Cond.methodLink "CloneTree" 62 yX0_requirePage : Cond) ∈ nw_T := nw_tb (List.mem_of_getElem? (i := 254) (by decide +kernel)) (by decide +kernel)
theorem mw_256 : (Cond.instanceMethod yX0_requirePage : Cond) ∈ nw_T := nw_tb (List.mem_of_getElem? (i := 256) (by decide +kernel)) (by decide +kernel)
theorem mw_257 : (Cond.code yX0_requirePage prog_1_method_18_code 3 none : Cond) ∈ nw_T := nw_tb (List.mem_of_getElem? (i := 257) (by decide +kernel)) (by decide +kernel)
theorem mw_258 : (Cond.methodLink "CloneTree" 66 yX0_requireCell : Cond) ∈ nw_T := nw_tb (List.mem_of_getElem? (i := 258) (by decide +kernel)) (by decide +kernel)
theorem mw_260 : (Cond.instanceMethod yX0_requireCell : Cond) ∈ nw_T := nw_tb (List.mem_of_getElem? (i := 260) (by decide +kernel)) (by decide +kernel)
theorem mw_261 : (Cond.code yX0_requireCell prog_1_method_20_code 2 none : Cond) ∈ nw_T := nw_tb (List.mem_of_getElem? (i := 261) (by decide +kernel)) (by decide +kernel)
theorem mw_262 : (Cond.methodLink "CloneTree" 69 yX0_hasFrameAlone : Cond) ∈ nw_T := nw_tb (List.mem_of_getElem? (i := 262) (by decide +kernel)) (by decide +kernel)
theorem mw_264 : (Cond.instanceMethod yX0_hasFrameAlone : Cond) ∈ nw_T := nw_tb (List.mem_of_getElem? (i := 264) (by decide +kernel)) (by decide +kernel)
theorem mw_265 : (Cond.code yX0_hasFrameAlone prog_1_method_25_code 3 (some .boolean) : Cond) ∈ nw_T := nw_tb (List.mem_of_getElem? (i := 265) (by decide +kernel)) (by decide +kernel)
theorem mw_266 : (Cond.methodLink "CloneTree" 73 yX0_giveNewFrame : Cond) ∈ nw_T := nw_tb (List.mem_of_getElem? (i := 266) (by decide +kernel)) (by decide +kernel)
theorem mw_268 : (Cond.instanceMethod yX0_giveNewFrame : Cond) ∈ nw_T := nw_tb (List.mem_of_getElem? (i := 268) (by decide +kernel)) (by decide +kernel)
theorem mw_269 : (Cond.code yX0_giveNewFrame prog_1_method_26_code 4 none : Cond) ∈ nw_T := nw_tb (List.mem_of_getElem? (i := 269) (by decide +kernel)) (by decide +kernel)
theorem mw_270 : (Cond.methodLink "CloneTree" 126 yX0_requireFreeFrame : Cond) ∈ nw_T := nw_tb (List.mem_of_getElem? (i := 270) (by decide +kernel)) (by decide +kernel)
theorem mw_272 : (Cond.instanceMethod yX0_requireFreeFrame : Cond) ∈ nw_T := nw_tb (List.mem_of_getElem? (i := 272) (by decide +kernel)) (by decide +kernel)
theorem mw_273 : (Cond.code yX0_requireFreeFrame prog_1_method_23_code 2 (some .int) : Cond) ∈ nw_T := nw_tb (List.mem_of_getElem? (i := 273) (by decide +kernel)) (by decide +kernel)
theorem mw_274 : (Cond.classLink "CloneTree" 123 "java/lang/ArithmeticException" : Cond) ∈ nw_T := nw_tb (List.mem_of_getElem? (i := 274) (by decide +kernel)) (by decide +kernel)
theorem mw_275 : (Cond.instantiable "java/lang/ArithmeticException" 6 : Cond) ∈ nw_T := nw_tb (List.mem_of_getElem? (i := 275) (by decide +kernel)) (by decide +kernel)
theorem mw_277 : (Cond.selects "java/lang/ArithmeticException" ⟨"java/lang/Throwable", "fillInStackTrace", "(I)Ljava/lang/Throwable;"⟩ ⟨"java/lang/Throwable", "fillInStackTrace", "(I)Ljava/lang/Throwable;"⟩ : Cond) ∈ nw_T := nw_tb (List.mem_of_getElem? (i := 277) (by decide +kernel)) (by decide +kernel)
theorem mw_278 : (Cond.lays "java/lang/ArithmeticException" "java/lang/Throwable" "cause" "Ljava/lang/Throwable;" : Cond) ∈ nw_T := nw_tb (List.mem_of_getElem? (i := 278) (by decide +kernel)) (by decide +kernel)
theorem mw_279 : (Cond.lays "java/lang/ArithmeticException" "java/lang/Throwable" "stackTrace" "[Ljava/lang/StackTraceElement;" : Cond) ∈ nw_T := nw_tb (List.mem_of_getElem? (i := 279) (by decide +kernel)) (by decide +kernel)
theorem mw_280 : (Cond.lays "java/lang/ArithmeticException" "java/lang/Throwable" "suppressedExceptions" "Ljava/util/List;" : Cond) ∈ nw_T := nw_tb (List.mem_of_getElem? (i := 280) (by decide +kernel)) (by decide +kernel)
theorem mw_281 : (Cond.lays "java/lang/ArithmeticException" "java/lang/Throwable" "detailMessage" "Ljava/lang/String;" : Cond) ∈ nw_T := nw_tb (List.mem_of_getElem? (i := 281) (by decide +kernel)) (by decide +kernel)
theorem mw_282 : (Cond.lays "java/lang/ArithmeticException" "java/lang/Throwable" "backtrace" "Ljava/lang/Object;" : Cond) ∈ nw_T := nw_tb (List.mem_of_getElem? (i := 282) (by decide +kernel)) (by decide +kernel)
theorem mw_283 : (Cond.methodLink "CloneTree" 125 ⟨"java/lang/ArithmeticException", "<init>", "()V"⟩ : Cond) ∈ nw_T := nw_tb (List.mem_of_getElem? (i := 283) (by decide +kernel)) (by decide +kernel)
theorem mw_284 : (Cond.instanceMethod ⟨"java/lang/ArithmeticException", "<init>", "()V"⟩ : Cond) ∈ nw_T := nw_tb (List.mem_of_getElem? (i := 284) (by decide +kernel)) (by decide +kernel)
theorem mw_285 : (Cond.code ⟨"java/lang/ArithmeticException", "<init>", "()V"⟩ prog_4_method_1_code 1 none : Cond) ∈ nw_T := nw_tb (List.mem_of_getElem? (i := 285) (by decide +kernel)) (by decide +kernel)
theorem mw_286 : (Cond.methodLink "java/lang/ArithmeticException" 1 ⟨"java/lang/RuntimeException", "<init>", "()V"⟩ : Cond) ∈ nw_T := nw_tb (List.mem_of_getElem? (i := 286) (by decide +kernel)) (by decide +kernel)
theorem mw_287 : (Cond.lays "java/lang/ArithmeticException" "java/lang/Throwable" "depth" "I" : Cond) ∈ nw_T := nw_tb (List.mem_of_getElem? (i := 287) (by decide +kernel)) (by decide +kernel)
theorem mw_288 : (Cond.superclass "java/lang/ArithmeticException" "java/lang/RuntimeException" : Cond) ∈ nw_T := nw_tb (List.mem_of_getElem? (i := 288) (by decide +kernel)) (by decide +kernel)
theorem mw_289 : (Cond.methodLink "CloneTree" 129 ⟨"java/lang/System", "arraycopy", "(Ljava/lang/Object;ILjava/lang/Object;II)V"⟩ : Cond) ∈ nw_T := nw_tb (List.mem_of_getElem? (i := 289) (by decide +kernel)) (by decide +kernel)
theorem mw_290 : (Cond.static ⟨"java/lang/System", "arraycopy", "(Ljava/lang/Object;ILjava/lang/Object;II)V"⟩ : Cond) ∈ nw_T := nw_tb (List.mem_of_getElem? (i := 290) (by decide +kernel)) (by decide +kernel)
theorem mw_291 : (Cond.native ⟨"java/lang/System", "arraycopy", "(Ljava/lang/Object;ILjava/lang/Object;II)V"⟩ : Cond) ∈ nw_T := nw_tb (List.mem_of_getElem? (i := 291) (by decide +kernel)) (by decide +kernel)
theorem mw_292 : (Cond.methodLink "CloneTreeLaw" 85 yL_read : Cond) ∈ nw_T := nw_tb (List.mem_of_getElem? (i := 292) (by decide +kernel)) (by decide +kernel)
theorem mw_293 : (Cond.static yL_read : Cond) ∈ nw_T := nw_tb (List.mem_of_getElem? (i := 293) (by decide +kernel)) (by decide +kernel)
theorem mw_294 : (Cond.codeWith yL_read method_7_code 6 (some .int) [(0, 12, 15, 21)] : Cond) ∈ nw_T := nw_tb (List.mem_of_getElem? (i := 294) (by decide +kernel)) (by decide +kernel)
theorem mw_295 : (Cond.methodLink "CloneTreeLaw" 32 yX0_read : Cond) ∈ nw_T := nw_tb (List.mem_of_getElem? (i := 295) (by decide +kernel)) (by decide +kernel)
theorem mw_296 : (Cond.instanceMethod yX0_read : Cond) ∈ nw_T := nw_tb (List.mem_of_getElem? (i := 296) (by decide +kernel)) (by decide +kernel)
theorem mw_297 : (Cond.selects "CloneTree" yX0_read yX0_read : Cond) ∈ nw_T := nw_tb (List.mem_of_getElem? (i := 297) (by decide +kernel)) (by decide +kernel)
theorem mw_298 : (Cond.code yX0_read prog_1_method_6_code 4 (some .int) : Cond) ∈ nw_T := nw_tb (List.mem_of_getElem? (i := 298) (by decide +kernel)) (by decide +kernel)
theorem mw_299 : (Cond.methodLink "CloneTreeLaw" 88 yL_lay : Cond) ∈ nw_T := nw_tb (List.mem_of_getElem? (i := 299) (by decide +kernel)) (by decide +kernel)
theorem mw_300 : (Cond.static yL_lay : Cond) ∈ nw_T := nw_tb (List.mem_of_getElem? (i := 300) (by decide +kernel)) (by decide +kernel)
theorem mw_301 : (Cond.codeWith yL_lay method_8_code 8 (some .int) [(0, 16, 19, 21)] : Cond) ∈ nw_T := nw_tb (List.mem_of_getElem? (i := 301) (by decide +kernel)) (by decide +kernel)
theorem mw_302 : (Cond.methodLink "CloneTreeLaw" 35 yX0_lay : Cond) ∈ nw_T := nw_tb (List.mem_of_getElem? (i := 302) (by decide +kernel)) (by decide +kernel)
theorem mw_303 : (Cond.instanceMethod yX0_lay : Cond) ∈ nw_T := nw_tb (List.mem_of_getElem? (i := 303) (by decide +kernel)) (by decide +kernel)
theorem mw_304 : (Cond.selects "CloneTree" yX0_lay yX0_lay : Cond) ∈ nw_T := nw_tb (List.mem_of_getElem? (i := 304) (by decide +kernel)) (by decide +kernel)
theorem mw_305 : (Cond.code yX0_lay prog_1_method_7_code 9 (some .int) : Cond) ∈ nw_T := nw_tb (List.mem_of_getElem? (i := 305) (by decide +kernel)) (by decide +kernel)
theorem mw_306 : (Cond.methodLink "CloneTreeLaw" 92 yL_size : Cond) ∈ nw_T := nw_tb (List.mem_of_getElem? (i := 306) (by decide +kernel)) (by decide +kernel)
theorem mw_307 : (Cond.static yL_size : Cond) ∈ nw_T := nw_tb (List.mem_of_getElem? (i := 307) (by decide +kernel)) (by decide +kernel)
theorem mw_308 : (Cond.codeWith yL_size method_9_code 5 (some .int) [(0, 10, 13, 21), (0, 10, 17, 13)] : Cond) ∈ nw_T := nw_tb (List.mem_of_getElem? (i := 308) (by decide +kernel)) (by decide +kernel)
theorem mw_309 : (Cond.methodLink "CloneTreeLaw" 39 yX0_size : Cond) ∈ nw_T := nw_tb (List.mem_of_getElem? (i := 309) (by decide +kernel)) (by decide +kernel)
theorem mw_310 : (Cond.instanceMethod yX0_size : Cond) ∈ nw_T := nw_tb (List.mem_of_getElem? (i := 310) (by decide +kernel)) (by decide +kernel)
theorem mw_311 : (Cond.selects "CloneTree" yX0_size yX0_size : Cond) ∈ nw_T := nw_tb (List.mem_of_getElem? (i := 311) (by decide +kernel)) (by decide +kernel)
theorem mw_312 : (Cond.code yX0_size prog_1_method_8_code 4 (some .int) : Cond) ∈ nw_T := nw_tb (List.mem_of_getElem? (i := 312) (by decide +kernel)) (by decide +kernel)
theorem mw_313 : (Cond.methodLink "CloneTreeLaw" 96 yL_blank : Cond) ∈ nw_T := nw_tb (List.mem_of_getElem? (i := 313) (by decide +kernel)) (by decide +kernel)
theorem mw_314 : (Cond.static yL_blank : Cond) ∈ nw_T := nw_tb (List.mem_of_getElem? (i := 314) (by decide +kernel)) (by decide +kernel)
theorem mw_315 : (Cond.codeWith yL_blank method_10_code 5 (some .int) [(0, 17, 20, 21)] : Cond) ∈ nw_T := nw_tb (List.mem_of_getElem? (i := 315) (by decide +kernel)) (by decide +kernel)
theorem mw_316 : (Cond.methodLink "CloneTreeLaw" 43 yX0_blank : Cond) ∈ nw_T := nw_tb (List.mem_of_getElem? (i := 316) (by decide +kernel)) (by decide +kernel)
theorem mw_317 : (Cond.instanceMethod yX0_blank : Cond) ∈ nw_T := nw_tb (List.mem_of_getElem? (i := 317) (by decide +kernel)) (by decide +kernel)
theorem mw_318 : (Cond.selects "CloneTree" yX0_blank yX0_blank : Cond) ∈ nw_T := nw_tb (List.mem_of_getElem? (i := 318) (by decide +kernel)) (by decide +kernel)
theorem mw_319 : (Cond.code yX0_blank prog_1_method_9_code 4 (some .boolean) : Cond) ∈ nw_T := nw_tb (List.mem_of_getElem? (i := 319) (by decide +kernel)) (by decide +kernel)
theorem mw_320 : (Cond.methodLink "CloneTreeLaw" 99 yL_own : Cond) ∈ nw_T := nw_tb (List.mem_of_getElem? (i := 320) (by decide +kernel)) (by decide +kernel)
theorem mw_321 : (Cond.static yL_own : Cond) ∈ nw_T := nw_tb (List.mem_of_getElem? (i := 321) (by decide +kernel)) (by decide +kernel)
theorem mw_322 : (Cond.codeWith yL_own method_11_code 5 (some .int) [(0, 17, 20, 21), (0, 17, 24, 30)] : Cond) ∈ nw_T := nw_tb (List.mem_of_getElem? (i := 322) (by decide +kernel)) (by decide +kernel)
theorem mw_323 : (Cond.methodLink "CloneTreeLaw" 47 yX0_own : Cond) ∈ nw_T := nw_tb (List.mem_of_getElem? (i := 323) (by decide +kernel)) (by decide +kernel)
theorem mw_324 : (Cond.instanceMethod yX0_own : Cond) ∈ nw_T := nw_tb (List.mem_of_getElem? (i := 324) (by decide +kernel)) (by decide +kernel)
theorem mw_325 : (Cond.selects "CloneTree" yX0_own yX0_own : Cond) ∈ nw_T := nw_tb (List.mem_of_getElem? (i := 325) (by decide +kernel)) (by decide +kernel)
theorem mw_326 : (Cond.code yX0_own prog_1_method_10_code 3 (some .boolean) : Cond) ∈ nw_T := nw_tb (List.mem_of_getElem? (i := 326) (by decide +kernel)) (by decide +kernel)
theorem mw_327 : (Cond.methodLink "CloneTreeLaw" 110 yL_common : Cond) ∈ nw_T := nw_tb (List.mem_of_getElem? (i := 327) (by decide +kernel)) (by decide +kernel)
theorem mw_328 : (Cond.static yL_common : Cond) ∈ nw_T := nw_tb (List.mem_of_getElem? (i := 328) (by decide +kernel)) (by decide +kernel)
theorem mw_329 : (Cond.codeWith yL_common method_12_code 7 (some .int) [(0, 21, 24, 21)] : Cond) ∈ nw_T := nw_tb (List.mem_of_getElem? (i := 329) (by decide +kernel)) (by decide +kernel)
theorem mw_330 : (Cond.methodLink "CloneTreeLaw" 50 yX0_common : Cond) ∈ nw_T := nw_tb (List.mem_of_getElem? (i := 330) (by decide +kernel)) (by decide +kernel)
theorem mw_331 : (Cond.instanceMethod yX0_common : Cond) ∈ nw_T := nw_tb (List.mem_of_getElem? (i := 331) (by decide +kernel)) (by decide +kernel)
theorem mw_332 : (Cond.selects "CloneTree" yX0_common yX0_common : Cond) ∈ nw_T := nw_tb (List.mem_of_getElem? (i := 332) (by decide +kernel)) (by decide +kernel)
theorem mw_333 : (Cond.code yX0_common prog_1_method_13_code 5 (some .boolean) : Cond) ∈ nw_T := nw_tb (List.mem_of_getElem? (i := 333) (by decide +kernel)) (by decide +kernel)
theorem mw_334 : (Cond.methodLink "CloneTreeLaw" 113 yL_holders : Cond) ∈ nw_T := nw_tb (List.mem_of_getElem? (i := 334) (by decide +kernel)) (by decide +kernel)
theorem mw_335 : (Cond.static yL_holders : Cond) ∈ nw_T := nw_tb (List.mem_of_getElem? (i := 335) (by decide +kernel)) (by decide +kernel)
theorem mw_336 : (Cond.codeWith yL_holders method_13_code 5 (some .int) [(0, 10, 13, 21)] : Cond) ∈ nw_T := nw_tb (List.mem_of_getElem? (i := 336) (by decide +kernel)) (by decide +kernel)
theorem mw_337 : (Cond.methodLink "CloneTreeLaw" 54 yX0_holders : Cond) ∈ nw_T := nw_tb (List.mem_of_getElem? (i := 337) (by decide +kernel)) (by decide +kernel)
theorem mw_338 : (Cond.instanceMethod yX0_holders : Cond) ∈ nw_T := nw_tb (List.mem_of_getElem? (i := 338) (by decide +kernel)) (by decide +kernel)
theorem mw_339 : (Cond.selects "CloneTree" yX0_holders yX0_holders : Cond) ∈ nw_T := nw_tb (List.mem_of_getElem? (i := 339) (by decide +kernel)) (by decide +kernel)
theorem mw_340 : (Cond.code yX0_holders prog_1_method_14_code 3 (some .int) : Cond) ∈ nw_T := nw_tb (List.mem_of_getElem? (i := 340) (by decide +kernel)) (by decide +kernel)
theorem mw_341 : (Cond.methodLink "CloneTreeLaw" 116 yL_about : Cond) ∈ nw_T := nw_tb (List.mem_of_getElem? (i := 341) (by decide +kernel)) (by decide +kernel)
theorem mw_342 : (Cond.static yL_about : Cond) ∈ nw_T := nw_tb (List.mem_of_getElem? (i := 342) (by decide +kernel)) (by decide +kernel)
theorem mw_343 : (Cond.codeWith yL_about method_14_code 5 (some .int) [(0, 10, 13, 21), (0, 10, 17, 13)] : Cond) ∈ nw_T := nw_tb (List.mem_of_getElem? (i := 343) (by decide +kernel)) (by decide +kernel)
theorem mw_344 : (Cond.methodLink "CloneTreeLaw" 57 yX0_about : Cond) ∈ nw_T := nw_tb (List.mem_of_getElem? (i := 344) (by decide +kernel)) (by decide +kernel)
theorem mw_345 : (Cond.instanceMethod yX0_about : Cond) ∈ nw_T := nw_tb (List.mem_of_getElem? (i := 345) (by decide +kernel)) (by decide +kernel)
theorem mw_346 : (Cond.selects "CloneTree" yX0_about yX0_about : Cond) ∈ nw_T := nw_tb (List.mem_of_getElem? (i := 346) (by decide +kernel)) (by decide +kernel)
theorem mw_347 : (Cond.code yX0_about prog_1_method_15_code 3 (some .int) : Cond) ∈ nw_T := nw_tb (List.mem_of_getElem? (i := 347) (by decide +kernel)) (by decide +kernel)
theorem mw_348 : (Cond.methodLink "CloneTree" 89 yX0_blankPages : Cond) ∈ nw_T := nw_tb (List.mem_of_getElem? (i := 348) (by decide +kernel)) (by decide +kernel)
theorem mw_350 : (Cond.instanceMethod yX0_blankPages : Cond) ∈ nw_T := nw_tb (List.mem_of_getElem? (i := 350) (by decide +kernel)) (by decide +kernel)
theorem mw_351 : (Cond.code yX0_blankPages prog_1_method_34_code 4 (some .int) : Cond) ∈ nw_T := nw_tb (List.mem_of_getElem? (i := 351) (by decide +kernel)) (by decide +kernel)
theorem mw_352 : (Cond.methodLink "CloneTree" 92 yX0_framesOf : Cond) ∈ nw_T := nw_tb (List.mem_of_getElem? (i := 352) (by decide +kernel)) (by decide +kernel)
theorem mw_354 : (Cond.instanceMethod yX0_framesOf : Cond) ∈ nw_T := nw_tb (List.mem_of_getElem? (i := 354) (by decide +kernel)) (by decide +kernel)
theorem mw_355 : (Cond.code yX0_framesOf prog_1_method_35_code 4 (some .int) : Cond) ∈ nw_T := nw_tb (List.mem_of_getElem? (i := 355) (by decide +kernel)) (by decide +kernel)
theorem mw_356 : (Cond.methodLink "CloneTree" 138 yX0_isFirstWithItsFrame : Cond) ∈ nw_T := nw_tb (List.mem_of_getElem? (i := 356) (by decide +kernel)) (by decide +kernel)
theorem mw_358 : (Cond.instanceMethod yX0_isFirstWithItsFrame : Cond) ∈ nw_T := nw_tb (List.mem_of_getElem? (i := 358) (by decide +kernel)) (by decide +kernel)
theorem mw_359 : (Cond.code yX0_isFirstWithItsFrame prog_1_method_36_code 4 (some .boolean) : Cond) ∈ nw_T := nw_tb (List.mem_of_getElem? (i := 359) (by decide +kernel)) (by decide +kernel)
theorem mw_360 : (Cond.methodLink "CloneTree" 98 yX0_sumOfCells : Cond) ∈ nw_T := nw_tb (List.mem_of_getElem? (i := 360) (by decide +kernel)) (by decide +kernel)
theorem mw_362 : (Cond.instanceMethod yX0_sumOfCells : Cond) ∈ nw_T := nw_tb (List.mem_of_getElem? (i := 362) (by decide +kernel)) (by decide +kernel)
theorem mw_363 : (Cond.code yX0_sumOfCells prog_1_method_39_code 5 (some .int) : Cond) ∈ nw_T := nw_tb (List.mem_of_getElem? (i := 363) (by decide +kernel)) (by decide +kernel)
theorem mw_364 : (Cond.classLink "CloneTreeLaw" 61 "CloneTreeModel" : Cond) ∈ nw_T := nw_tb (List.mem_of_getElem? (i := 364) (by decide +kernel)) (by decide +kernel)
theorem mw_365 : (Cond.instantiable "CloneTreeModel" 6 : Cond) ∈ nw_T := nw_tb (List.mem_of_getElem? (i := 365) (by decide +kernel)) (by decide +kernel)
theorem mw_366 : (Cond.methodLink "CloneTreeLaw" 63 yX1_init : Cond) ∈ nw_T := nw_tb (List.mem_of_getElem? (i := 366) (by decide +kernel)) (by decide +kernel)
theorem mw_367 : (Cond.instanceMethod yX1_init : Cond) ∈ nw_T := nw_tb (List.mem_of_getElem? (i := 367) (by decide +kernel)) (by decide +kernel)
theorem mw_368 : (Cond.code yX1_init prog_3_method_1_code 1 none : Cond) ∈ nw_T := nw_tb (List.mem_of_getElem? (i := 368) (by decide +kernel)) (by decide +kernel)
theorem mw_369 : (Cond.methodLink "CloneTreeModel" 1 ⟨"java/lang/Object", "<init>", "()V"⟩ : Cond) ∈ nw_T := nw_tb (List.mem_of_getElem? (i := 369) (by decide +kernel)) (by decide +kernel)
theorem mw_370 : (Cond.fieldLink "CloneTreeModel" 26 "CloneTreeModel" "thrown" "I" : Cond) ∈ nw_T := nw_tb (List.mem_of_getElem? (i := 370) (by decide +kernel)) (by decide +kernel)
theorem mw_371 : (Cond.fieldLink "CloneTreeModel" 9 "CloneTreeModel" "there" "[Z" : Cond) ∈ nw_T := nw_tb (List.mem_of_getElem? (i := 371) (by decide +kernel)) (by decide +kernel)
theorem mw_372 : (Cond.fieldLink "CloneTreeModel" 13 "CloneTreeModel" "pages" "[I" : Cond) ∈ nw_T := nw_tb (List.mem_of_getElem? (i := 372) (by decide +kernel)) (by decide +kernel)
theorem mw_373 : (Cond.fieldLink "CloneTreeModel" 17 "CloneTreeModel" "frame" "[I" : Cond) ∈ nw_T := nw_tb (List.mem_of_getElem? (i := 373) (by decide +kernel)) (by decide +kernel)
theorem mw_374 : (Cond.fieldLink "CloneTreeModel" 20 "CloneTreeModel" "cell" "[I" : Cond) ∈ nw_T := nw_tb (List.mem_of_getElem? (i := 374) (by decide +kernel)) (by decide +kernel)
theorem mw_375 : (Cond.fieldLink "CloneTreeModel" 23 "CloneTreeModel" "kept" "[I" : Cond) ∈ nw_T := nw_tb (List.mem_of_getElem? (i := 375) (by decide +kernel)) (by decide +kernel)
theorem mw_376 : (Cond.lays "CloneTreeModel" "CloneTreeModel" "thrown" "I" : Cond) ∈ nw_T := nw_tb (List.mem_of_getElem? (i := 376) (by decide +kernel)) (by decide +kernel)
theorem mw_378 : (Cond.laysFinal "CloneTreeModel" "CloneTreeModel" "there" "[Z" : Cond) ∈ nw_T := nw_tb (List.mem_of_getElem? (i := 378) (by decide +kernel)) (by decide +kernel)
theorem mw_380 : (Cond.laysFinal "CloneTreeModel" "CloneTreeModel" "pages" "[I" : Cond) ∈ nw_T := nw_tb (List.mem_of_getElem? (i := 380) (by decide +kernel)) (by decide +kernel)
theorem mw_382 : (Cond.laysFinal "CloneTreeModel" "CloneTreeModel" "frame" "[I" : Cond) ∈ nw_T := nw_tb (List.mem_of_getElem? (i := 382) (by decide +kernel)) (by decide +kernel)
theorem mw_384 : (Cond.laysFinal "CloneTreeModel" "CloneTreeModel" "cell" "[I" : Cond) ∈ nw_T := nw_tb (List.mem_of_getElem? (i := 384) (by decide +kernel)) (by decide +kernel)
theorem mw_386 : (Cond.laysFinal "CloneTreeModel" "CloneTreeModel" "kept" "[I" : Cond) ∈ nw_T := nw_tb (List.mem_of_getElem? (i := 386) (by decide +kernel)) (by decide +kernel)
theorem mw_388 : (Cond.superclass "CloneTreeModel" "java/lang/Object" : Cond) ∈ nw_T := nw_tb (List.mem_of_getElem? (i := 388) (by decide +kernel)) (by decide +kernel)
theorem mw_389 : (Cond.arrayClass .boolean : Cond) ∈ nw_T := nw_tb (List.mem_of_getElem? (i := 389) (by decide +kernel)) (by decide +kernel)
theorem mw_390 : (Cond.methodLink "CloneTreeLaw" 70 yX1_thrown : Cond) ∈ nw_T := nw_tb (List.mem_of_getElem? (i := 390) (by decide +kernel)) (by decide +kernel)
theorem mw_391 : (Cond.instanceMethod yX1_thrown : Cond) ∈ nw_T := nw_tb (List.mem_of_getElem? (i := 391) (by decide +kernel)) (by decide +kernel)
theorem mw_392 : (Cond.selects "CloneTreeModel" yX1_thrown yX1_thrown : Cond) ∈ nw_T := nw_tb (List.mem_of_getElem? (i := 392) (by decide +kernel)) (by decide +kernel)
theorem mw_393 : (Cond.code yX1_thrown prog_3_method_2_code 1 (some .int) : Cond) ∈ nw_T := nw_tb (List.mem_of_getElem? (i := 393) (by decide +kernel)) (by decide +kernel)
theorem mw_394 : (Cond.methodLink "CloneTreeLaw" 69 yX1_make : Cond) ∈ nw_T := nw_tb (List.mem_of_getElem? (i := 394) (by decide +kernel)) (by decide +kernel)
theorem mw_395 : (Cond.instanceMethod yX1_make : Cond) ∈ nw_T := nw_tb (List.mem_of_getElem? (i := 395) (by decide +kernel)) (by decide +kernel)
theorem mw_396 : (Cond.selects "CloneTreeModel" yX1_make yX1_make : Cond) ∈ nw_T := nw_tb (List.mem_of_getElem? (i := 396) (by decide +kernel)) (by decide +kernel)
theorem mw_397 : (Cond.code yX1_make prog_3_method_12_code 4 (some .int) : Cond) ∈ nw_T := nw_tb (List.mem_of_getElem? (i := 397) (by decide +kernel)) (by decide +kernel)
theorem mw_398 : (Cond.methodLink "CloneTreeModel" 42 yX1_row : Cond) ∈ nw_T := nw_tb (List.mem_of_getElem? (i := 398) (by decide +kernel)) (by decide +kernel)
theorem mw_400 : (Cond.instanceMethod yX1_row : Cond) ∈ nw_T := nw_tb (List.mem_of_getElem? (i := 400) (by decide +kernel)) (by decide +kernel)
theorem mw_401 : (Cond.code yX1_row prog_3_method_11_code 2 (some .int) : Cond) ∈ nw_T := nw_tb (List.mem_of_getElem? (i := 401) (by decide +kernel)) (by decide +kernel)
theorem mw_402 : (Cond.methodLink "CloneTreeLaw" 77 yX1_share : Cond) ∈ nw_T := nw_tb (List.mem_of_getElem? (i := 402) (by decide +kernel)) (by decide +kernel)
theorem mw_403 : (Cond.instanceMethod yX1_share : Cond) ∈ nw_T := nw_tb (List.mem_of_getElem? (i := 403) (by decide +kernel)) (by decide +kernel)
theorem mw_404 : (Cond.selects "CloneTreeModel" yX1_share yX1_share : Cond) ∈ nw_T := nw_tb (List.mem_of_getElem? (i := 404) (by decide +kernel)) (by decide +kernel)
theorem mw_405 : (Cond.code yX1_share prog_3_method_13_code 6 (some .int) : Cond) ∈ nw_T := nw_tb (List.mem_of_getElem? (i := 405) (by decide +kernel)) (by decide +kernel)
theorem mw_406 : (Cond.methodLink "CloneTreeModel" 30 yX1_lacks : Cond) ∈ nw_T := nw_tb (List.mem_of_getElem? (i := 406) (by decide +kernel)) (by decide +kernel)
theorem mw_408 : (Cond.instanceMethod yX1_lacks : Cond) ∈ nw_T := nw_tb (List.mem_of_getElem? (i := 408) (by decide +kernel)) (by decide +kernel)
theorem mw_409 : (Cond.code yX1_lacks prog_3_method_4_code 2 (some .boolean) : Cond) ∈ nw_T := nw_tb (List.mem_of_getElem? (i := 409) (by decide +kernel)) (by decide +kernel)
theorem mw_410 : (Cond.methodLink "CloneTreeModel" 46 yX1_none : Cond) ∈ nw_T := nw_tb (List.mem_of_getElem? (i := 410) (by decide +kernel)) (by decide +kernel)
theorem mw_412 : (Cond.instanceMethod yX1_none : Cond) ∈ nw_T := nw_tb (List.mem_of_getElem? (i := 412) (by decide +kernel)) (by decide +kernel)
theorem mw_413 : (Cond.code yX1_none prog_3_method_5_code 4 (some .boolean) : Cond) ∈ nw_T := nw_tb (List.mem_of_getElem? (i := 413) (by decide +kernel)) (by decide +kernel)
theorem mw_414 : (Cond.methodLink "CloneTreeModel" 50 yX1_fail : Cond) ∈ nw_T := nw_tb (List.mem_of_getElem? (i := 414) (by decide +kernel)) (by decide +kernel)
theorem mw_416 : (Cond.instanceMethod yX1_fail : Cond) ∈ nw_T := nw_tb (List.mem_of_getElem? (i := 416) (by decide +kernel)) (by decide +kernel)
theorem mw_417 : (Cond.code yX1_fail prog_3_method_3_code 2 (some .int) : Cond) ∈ nw_T := nw_tb (List.mem_of_getElem? (i := 417) (by decide +kernel)) (by decide +kernel)
theorem mw_418 : (Cond.methodLink "CloneTreeModel" 34 yX1_at : Cond) ∈ nw_T := nw_tb (List.mem_of_getElem? (i := 418) (by decide +kernel)) (by decide +kernel)
theorem mw_420 : (Cond.instanceMethod yX1_at : Cond) ∈ nw_T := nw_tb (List.mem_of_getElem? (i := 420) (by decide +kernel)) (by decide +kernel)
theorem mw_421 : (Cond.code yX1_at prog_3_method_7_code 3 (some .int) : Cond) ∈ nw_T := nw_tb (List.mem_of_getElem? (i := 421) (by decide +kernel)) (by decide +kernel)
theorem mw_422 : (Cond.methodLink "CloneTreeLaw" 80 yX1_drop : Cond) ∈ nw_T := nw_tb (List.mem_of_getElem? (i := 422) (by decide +kernel)) (by decide +kernel)
theorem mw_423 : (Cond.instanceMethod yX1_drop : Cond) ∈ nw_T := nw_tb (List.mem_of_getElem? (i := 423) (by decide +kernel)) (by decide +kernel)
theorem mw_424 : (Cond.selects "CloneTreeModel" yX1_drop yX1_drop : Cond) ∈ nw_T := nw_tb (List.mem_of_getElem? (i := 424) (by decide +kernel)) (by decide +kernel)
theorem mw_425 : (Cond.code yX1_drop prog_3_method_14_code 3 (some .int) : Cond) ∈ nw_T := nw_tb (List.mem_of_getElem? (i := 425) (by decide +kernel)) (by decide +kernel)
theorem mw_426 : (Cond.methodLink "CloneTreeModel" 53 yX1_frames : Cond) ∈ nw_T := nw_tb (List.mem_of_getElem? (i := 426) (by decide +kernel)) (by decide +kernel)
theorem mw_428 : (Cond.instanceMethod yX1_frames : Cond) ∈ nw_T := nw_tb (List.mem_of_getElem? (i := 428) (by decide +kernel)) (by decide +kernel)
theorem mw_429 : (Cond.code yX1_frames prog_3_method_9_code 3 (some .int) : Cond) ∈ nw_T := nw_tb (List.mem_of_getElem? (i := 429) (by decide +kernel)) (by decide +kernel)
theorem mw_430 : (Cond.methodLink "CloneTreeModel" 38 yX1_holdersOf : Cond) ∈ nw_T := nw_tb (List.mem_of_getElem? (i := 430) (by decide +kernel)) (by decide +kernel)
theorem mw_432 : (Cond.instanceMethod yX1_holdersOf : Cond) ∈ nw_T := nw_tb (List.mem_of_getElem? (i := 432) (by decide +kernel)) (by decide +kernel)
theorem mw_433 : (Cond.code yX1_holdersOf prog_3_method_8_code 5 (some .int) : Cond) ∈ nw_T := nw_tb (List.mem_of_getElem? (i := 433) (by decide +kernel)) (by decide +kernel)
theorem mw_434 : (Cond.methodLink "CloneTreeLaw" 84 yX1_write : Cond) ∈ nw_T := nw_tb (List.mem_of_getElem? (i := 434) (by decide +kernel)) (by decide +kernel)
theorem mw_435 : (Cond.instanceMethod yX1_write : Cond) ∈ nw_T := nw_tb (List.mem_of_getElem? (i := 435) (by decide +kernel)) (by decide +kernel)
theorem mw_436 : (Cond.selects "CloneTreeModel" yX1_write yX1_write : Cond) ∈ nw_T := nw_tb (List.mem_of_getElem? (i := 436) (by decide +kernel)) (by decide +kernel)
theorem mw_437 : (Cond.code yX1_write prog_3_method_17_code 6 (some .int) : Cond) ∈ nw_T := nw_tb (List.mem_of_getElem? (i := 437) (by decide +kernel)) (by decide +kernel)
theorem mw_438 : (Cond.methodLink "CloneTreeModel" 59 yX1_page : Cond) ∈ nw_T := nw_tb (List.mem_of_getElem? (i := 438) (by decide +kernel)) (by decide +kernel)
theorem mw_440 : (Cond.instanceMethod yX1_page : Cond) ∈ nw_T := nw_tb (List.mem_of_getElem? (i := 440) (by decide +kernel)) (by decide +kernel)
theorem mw_441 : (Cond.code yX1_page prog_3_method_6_code 3 (some .boolean) : Cond) ∈ nw_T := nw_tb (List.mem_of_getElem? (i := 441) (by decide +kernel)) (by decide +kernel)
theorem mw_442 : (Cond.methodLink "CloneTreeModel" 63 yX1_cellOf : Cond) ∈ nw_T := nw_tb (List.mem_of_getElem? (i := 442) (by decide +kernel)) (by decide +kernel)
theorem mw_444 : (Cond.instanceMethod yX1_cellOf : Cond) ∈ nw_T := nw_tb (List.mem_of_getElem? (i := 444) (by decide +kernel)) (by decide +kernel)
theorem mw_445 : (Cond.code yX1_cellOf prog_3_method_16_code 4 (some .int) : Cond) ∈ nw_T := nw_tb (List.mem_of_getElem? (i := 445) (by decide +kernel)) (by decide +kernel)
theorem mw_446 : (Cond.methodLink "CloneTreeModel" 67 yX1_alone : Cond) ∈ nw_T := nw_tb (List.mem_of_getElem? (i := 446) (by decide +kernel)) (by decide +kernel)
theorem mw_448 : (Cond.instanceMethod yX1_alone : Cond) ∈ nw_T := nw_tb (List.mem_of_getElem? (i := 448) (by decide +kernel)) (by decide +kernel)
theorem mw_449 : (Cond.code yX1_alone prog_3_method_15_code 6 (some .boolean) : Cond) ∈ nw_T := nw_tb (List.mem_of_getElem? (i := 449) (by decide +kernel)) (by decide +kernel)
theorem mw_450 : (Cond.methodLink "CloneTreeModel" 56 yX1_free : Cond) ∈ nw_T := nw_tb (List.mem_of_getElem? (i := 450) (by decide +kernel)) (by decide +kernel)
theorem mw_452 : (Cond.instanceMethod yX1_free : Cond) ∈ nw_T := nw_tb (List.mem_of_getElem? (i := 452) (by decide +kernel)) (by decide +kernel)
theorem mw_453 : (Cond.code yX1_free prog_3_method_10_code 2 (some .int) : Cond) ∈ nw_T := nw_tb (List.mem_of_getElem? (i := 453) (by decide +kernel)) (by decide +kernel)
theorem mw_454 : (Cond.methodLink "CloneTreeLaw" 87 yX1_read : Cond) ∈ nw_T := nw_tb (List.mem_of_getElem? (i := 454) (by decide +kernel)) (by decide +kernel)
theorem mw_455 : (Cond.instanceMethod yX1_read : Cond) ∈ nw_T := nw_tb (List.mem_of_getElem? (i := 455) (by decide +kernel)) (by decide +kernel)
theorem mw_456 : (Cond.selects "CloneTreeModel" yX1_read yX1_read : Cond) ∈ nw_T := nw_tb (List.mem_of_getElem? (i := 456) (by decide +kernel)) (by decide +kernel)
theorem mw_457 : (Cond.code yX1_read prog_3_method_18_code 4 (some .int) : Cond) ∈ nw_T := nw_tb (List.mem_of_getElem? (i := 457) (by decide +kernel)) (by decide +kernel)
theorem mw_458 : (Cond.methodLink "CloneTreeLaw" 91 yX1_lay : Cond) ∈ nw_T := nw_tb (List.mem_of_getElem? (i := 458) (by decide +kernel)) (by decide +kernel)
theorem mw_459 : (Cond.instanceMethod yX1_lay : Cond) ∈ nw_T := nw_tb (List.mem_of_getElem? (i := 459) (by decide +kernel)) (by decide +kernel)
theorem mw_460 : (Cond.selects "CloneTreeModel" yX1_lay yX1_lay : Cond) ∈ nw_T := nw_tb (List.mem_of_getElem? (i := 460) (by decide +kernel)) (by decide +kernel)
theorem mw_461 : (Cond.code yX1_lay prog_3_method_19_code 8 (some .int) : Cond) ∈ nw_T := nw_tb (List.mem_of_getElem? (i := 461) (by decide +kernel)) (by decide +kernel)
theorem mw_462 : (Cond.methodLink "CloneTreeLaw" 95 yX1_size : Cond) ∈ nw_T := nw_tb (List.mem_of_getElem? (i := 462) (by decide +kernel)) (by decide +kernel)
theorem mw_463 : (Cond.instanceMethod yX1_size : Cond) ∈ nw_T := nw_tb (List.mem_of_getElem? (i := 463) (by decide +kernel)) (by decide +kernel)
theorem mw_464 : (Cond.selects "CloneTreeModel" yX1_size yX1_size : Cond) ∈ nw_T := nw_tb (List.mem_of_getElem? (i := 464) (by decide +kernel)) (by decide +kernel)
theorem mw_465 : (Cond.code yX1_size prog_3_method_20_code 5 (some .int) : Cond) ∈ nw_T := nw_tb (List.mem_of_getElem? (i := 465) (by decide +kernel)) (by decide +kernel)
theorem mw_466 : (Cond.methodLink "CloneTreeLaw" 98 yX1_blank : Cond) ∈ nw_T := nw_tb (List.mem_of_getElem? (i := 466) (by decide +kernel)) (by decide +kernel)
theorem mw_467 : (Cond.instanceMethod yX1_blank : Cond) ∈ nw_T := nw_tb (List.mem_of_getElem? (i := 467) (by decide +kernel)) (by decide +kernel)
theorem mw_468 : (Cond.selects "CloneTreeModel" yX1_blank yX1_blank : Cond) ∈ nw_T := nw_tb (List.mem_of_getElem? (i := 468) (by decide +kernel)) (by decide +kernel)
theorem mw_469 : (Cond.code yX1_blank prog_3_method_21_code 4 (some .boolean) : Cond) ∈ nw_T := nw_tb (List.mem_of_getElem? (i := 469) (by decide +kernel)) (by decide +kernel)
theorem mw_470 : (Cond.methodLink "CloneTreeLaw" 101 yX1_own : Cond) ∈ nw_T := nw_tb (List.mem_of_getElem? (i := 470) (by decide +kernel)) (by decide +kernel)
theorem mw_471 : (Cond.instanceMethod yX1_own : Cond) ∈ nw_T := nw_tb (List.mem_of_getElem? (i := 471) (by decide +kernel)) (by decide +kernel)
theorem mw_472 : (Cond.selects "CloneTreeModel" yX1_own yX1_own : Cond) ∈ nw_T := nw_tb (List.mem_of_getElem? (i := 472) (by decide +kernel)) (by decide +kernel)
theorem mw_473 : (Cond.code yX1_own prog_3_method_22_code 4 (some .boolean) : Cond) ∈ nw_T := nw_tb (List.mem_of_getElem? (i := 473) (by decide +kernel)) (by decide +kernel)
theorem mw_474 : (Cond.methodLink "CloneTreeLaw" 105 yX1_sweep : Cond) ∈ nw_T := nw_tb (List.mem_of_getElem? (i := 474) (by decide +kernel)) (by decide +kernel)
theorem mw_475 : (Cond.instanceMethod yX1_sweep : Cond) ∈ nw_T := nw_tb (List.mem_of_getElem? (i := 475) (by decide +kernel)) (by decide +kernel)
theorem mw_476 : (Cond.selects "CloneTreeModel" yX1_sweep yX1_sweep : Cond) ∈ nw_T := nw_tb (List.mem_of_getElem? (i := 476) (by decide +kernel)) (by decide +kernel)
theorem mw_477 : (Cond.code yX1_sweep prog_3_method_25_code 5 (some .int) : Cond) ∈ nw_T := nw_tb (List.mem_of_getElem? (i := 477) (by decide +kernel)) (by decide +kernel)
theorem mw_478 : (Cond.methodLink "CloneTreeModel" 70 yX1_change : Cond) ∈ nw_T := nw_tb (List.mem_of_getElem? (i := 478) (by decide +kernel)) (by decide +kernel)
theorem mw_480 : (Cond.instanceMethod yX1_change : Cond) ∈ nw_T := nw_tb (List.mem_of_getElem? (i := 480) (by decide +kernel)) (by decide +kernel)
theorem mw_481 : (Cond.code yX1_change prog_3_method_24_code 5 none : Cond) ∈ nw_T := nw_tb (List.mem_of_getElem? (i := 481) (by decide +kernel)) (by decide +kernel)
theorem mw_482 : (Cond.methodLink "CloneTreeLaw" 109 yX1_merge : Cond) ∈ nw_T := nw_tb (List.mem_of_getElem? (i := 482) (by decide +kernel)) (by decide +kernel)
theorem mw_483 : (Cond.instanceMethod yX1_merge : Cond) ∈ nw_T := nw_tb (List.mem_of_getElem? (i := 483) (by decide +kernel)) (by decide +kernel)
theorem mw_484 : (Cond.selects "CloneTreeModel" yX1_merge yX1_merge : Cond) ∈ nw_T := nw_tb (List.mem_of_getElem? (i := 484) (by decide +kernel)) (by decide +kernel)
theorem mw_485 : (Cond.code yX1_merge prog_3_method_26_code 4 (some .int) : Cond) ∈ nw_T := nw_tb (List.mem_of_getElem? (i := 485) (by decide +kernel)) (by decide +kernel)
theorem mw_486 : (Cond.methodLink "CloneTreeModel" 74 yX1_same : Cond) ∈ nw_T := nw_tb (List.mem_of_getElem? (i := 486) (by decide +kernel)) (by decide +kernel)
theorem mw_488 : (Cond.instanceMethod yX1_same : Cond) ∈ nw_T := nw_tb (List.mem_of_getElem? (i := 488) (by decide +kernel)) (by decide +kernel)
theorem mw_489 : (Cond.code yX1_same prog_3_method_23_code 4 (some .boolean) : Cond) ∈ nw_T := nw_tb (List.mem_of_getElem? (i := 489) (by decide +kernel)) (by decide +kernel)
theorem mw_490 : (Cond.methodLink "CloneTreeLaw" 112 yX1_common : Cond) ∈ nw_T := nw_tb (List.mem_of_getElem? (i := 490) (by decide +kernel)) (by decide +kernel)
theorem mw_491 : (Cond.instanceMethod yX1_common : Cond) ∈ nw_T := nw_tb (List.mem_of_getElem? (i := 491) (by decide +kernel)) (by decide +kernel)
theorem mw_492 : (Cond.selects "CloneTreeModel" yX1_common yX1_common : Cond) ∈ nw_T := nw_tb (List.mem_of_getElem? (i := 492) (by decide +kernel)) (by decide +kernel)
theorem mw_493 : (Cond.code yX1_common prog_3_method_27_code 5 (some .boolean) : Cond) ∈ nw_T := nw_tb (List.mem_of_getElem? (i := 493) (by decide +kernel)) (by decide +kernel)
theorem mw_494 : (Cond.methodLink "CloneTreeLaw" 115 yX1_holders : Cond) ∈ nw_T := nw_tb (List.mem_of_getElem? (i := 494) (by decide +kernel)) (by decide +kernel)
theorem mw_495 : (Cond.instanceMethod yX1_holders : Cond) ∈ nw_T := nw_tb (List.mem_of_getElem? (i := 495) (by decide +kernel)) (by decide +kernel)
theorem mw_496 : (Cond.selects "CloneTreeModel" yX1_holders yX1_holders : Cond) ∈ nw_T := nw_tb (List.mem_of_getElem? (i := 496) (by decide +kernel)) (by decide +kernel)
theorem mw_497 : (Cond.code yX1_holders prog_3_method_28_code 3 (some .int) : Cond) ∈ nw_T := nw_tb (List.mem_of_getElem? (i := 497) (by decide +kernel)) (by decide +kernel)
theorem mw_498 : (Cond.methodLink "CloneTreeLaw" 118 yX1_about : Cond) ∈ nw_T := nw_tb (List.mem_of_getElem? (i := 498) (by decide +kernel)) (by decide +kernel)
theorem mw_499 : (Cond.instanceMethod yX1_about : Cond) ∈ nw_T := nw_tb (List.mem_of_getElem? (i := 499) (by decide +kernel)) (by decide +kernel)
theorem mw_500 : (Cond.selects "CloneTreeModel" yX1_about yX1_about : Cond) ∈ nw_T := nw_tb (List.mem_of_getElem? (i := 500) (by decide +kernel)) (by decide +kernel)
theorem mw_501 : (Cond.code yX1_about prog_3_method_30_code 6 (some .int) : Cond) ∈ nw_T := nw_tb (List.mem_of_getElem? (i := 501) (by decide +kernel)) (by decide +kernel)
theorem mw_502 : (Cond.methodLink "CloneTreeModel" 77 yX1_own0 : Cond) ∈ nw_T := nw_tb (List.mem_of_getElem? (i := 502) (by decide +kernel)) (by decide +kernel)
theorem mw_504 : (Cond.instanceMethod yX1_own0 : Cond) ∈ nw_T := nw_tb (List.mem_of_getElem? (i := 504) (by decide +kernel)) (by decide +kernel)
theorem mw_505 : (Cond.code yX1_own0 prog_3_method_29_code 5 (some .int) : Cond) ∈ nw_T := nw_tb (List.mem_of_getElem? (i := 505) (by decide +kernel)) (by decide +kernel)
theorem mw_506 : (Cond.methodLink "CloneTreeLaw" 122 yX1_count : Cond) ∈ nw_T := nw_tb (List.mem_of_getElem? (i := 506) (by decide +kernel)) (by decide +kernel)
theorem mw_507 : (Cond.instanceMethod yX1_count : Cond) ∈ nw_T := nw_tb (List.mem_of_getElem? (i := 507) (by decide +kernel)) (by decide +kernel)
theorem mw_508 : (Cond.selects "CloneTreeModel" yX1_count yX1_count : Cond) ∈ nw_T := nw_tb (List.mem_of_getElem? (i := 508) (by decide +kernel)) (by decide +kernel)
theorem mw_509 : (Cond.code yX1_count prog_3_method_31_code 6 (some .int) : Cond) ∈ nw_T := nw_tb (List.mem_of_getElem? (i := 509) (by decide +kernel)) (by decide +kernel)
theorem mw_510 : (Cond.arrayClass .long : Cond) ∈ nw_T := nw_tb (List.mem_of_getElem? (i := 510) (by decide +kernel)) (by decide +kernel)
theorem mp_0 : (Cond.selects "CloneTree" yX0_sameCells yX0_sameCells : Cond) ∈ nw_T := nw_sl (List.mem_of_getElem? (i := 0) (by decide +kernel)) (by decide +kernel)
theorem mp_1 : (Cond.selects "CloneTree" yX0_pointTo yX0_pointTo : Cond) ∈ nw_T := nw_sl (List.mem_of_getElem? (i := 1) (by decide +kernel)) (by decide +kernel)
theorem mp_2 : (Cond.selects "CloneTree" yX0_hold yX0_hold : Cond) ∈ nw_T := nw_sl (List.mem_of_getElem? (i := 2) (by decide +kernel)) (by decide +kernel)
theorem mp_3 : (Cond.selects "CloneTree" yX0_letGo yX0_letGo : Cond) ∈ nw_T := nw_sl (List.mem_of_getElem? (i := 3) (by decide +kernel)) (by decide +kernel)
theorem mp_4 : (Cond.selects "CloneTree" yX0_findKeepers yX0_findKeepers : Cond) ∈ nw_T := nw_sl (List.mem_of_getElem? (i := 4) (by decide +kernel)) (by decide +kernel)
theorem mp_5 : (Cond.selects "CloneTree" yX0_firstWithCellsOf yX0_firstWithCellsOf : Cond) ∈ nw_T := nw_sl (List.mem_of_getElem? (i := 5) (by decide +kernel)) (by decide +kernel)
theorem mp_6 : (Cond.selects "CloneTree" yX0_rowsThere yX0_rowsThere : Cond) ∈ nw_T := nw_sl (List.mem_of_getElem? (i := 6) (by decide +kernel)) (by decide +kernel)
theorem mp_7 : (Cond.selects "CloneTree" yX0_isRow yX0_isRow : Cond) ∈ nw_T := nw_sl (List.mem_of_getElem? (i := 7) (by decide +kernel)) (by decide +kernel)
theorem mp_8 : (Cond.selects "CloneTree" yX0_pagesThere yX0_pagesThere : Cond) ∈ nw_T := nw_sl (List.mem_of_getElem? (i := 8) (by decide +kernel)) (by decide +kernel)
theorem mp_9 : (Cond.selects "CloneTree" yX0_framesThere yX0_framesThere : Cond) ∈ nw_T := nw_sl (List.mem_of_getElem? (i := 9) (by decide +kernel)) (by decide +kernel)
theorem mp_10 : (Cond.selects "CloneTree" yX0_framesOwnedBy yX0_framesOwnedBy : Cond) ∈ nw_T := nw_sl (List.mem_of_getElem? (i := 10) (by decide +kernel)) (by decide +kernel)
theorem mp_11 : (Cond.selects "CloneTree" yX0_findOwners yX0_findOwners : Cond) ∈ nw_T := nw_sl (List.mem_of_getElem? (i := 11) (by decide +kernel)) (by decide +kernel)
theorem mp_12 : (Cond.selects "CloneTree" yX0_requirePageCount yX0_requirePageCount : Cond) ∈ nw_T := nw_sl (List.mem_of_getElem? (i := 12) (by decide +kernel)) (by decide +kernel)
theorem mp_13 : (Cond.selects "java/lang/Throwable" ⟨"java/lang/Throwable", "fillInStackTrace", "(I)Ljava/lang/Throwable;"⟩ ⟨"java/lang/Throwable", "fillInStackTrace", "(I)Ljava/lang/Throwable;"⟩ : Cond) ∈ nw_T := nw_sl (List.mem_of_getElem? (i := 13) (by decide +kernel)) (by decide +kernel)
theorem mp_14 : (Cond.selects "CloneTree" yX0_requireFreeRow yX0_requireFreeRow : Cond) ∈ nw_T := nw_sl (List.mem_of_getElem? (i := 14) (by decide +kernel)) (by decide +kernel)
theorem mp_15 : (Cond.selects "CloneTree" yX0_requirePages yX0_requirePages : Cond) ∈ nw_T := nw_sl (List.mem_of_getElem? (i := 15) (by decide +kernel)) (by decide +kernel)
theorem mp_16 : (Cond.selects "CloneTree" yX0_requireRow yX0_requireRow : Cond) ∈ nw_T := nw_sl (List.mem_of_getElem? (i := 16) (by decide +kernel)) (by decide +kernel)
theorem mp_17 : (Cond.selects "CloneTree" yX0_blankFrom yX0_blankFrom : Cond) ∈ nw_T := nw_sl (List.mem_of_getElem? (i := 17) (by decide +kernel)) (by decide +kernel)
theorem mp_18 : (Cond.selects "CloneTree" yX0_requirePage yX0_requirePage : Cond) ∈ nw_T := nw_sl (List.mem_of_getElem? (i := 18) (by decide +kernel)) (by decide +kernel)
theorem mp_19 : (Cond.selects "CloneTree" yX0_requireCell yX0_requireCell : Cond) ∈ nw_T := nw_sl (List.mem_of_getElem? (i := 19) (by decide +kernel)) (by decide +kernel)
theorem mp_20 : (Cond.selects "CloneTree" yX0_hasFrameAlone yX0_hasFrameAlone : Cond) ∈ nw_T := nw_sl (List.mem_of_getElem? (i := 20) (by decide +kernel)) (by decide +kernel)
theorem mp_21 : (Cond.selects "CloneTree" yX0_giveNewFrame yX0_giveNewFrame : Cond) ∈ nw_T := nw_sl (List.mem_of_getElem? (i := 21) (by decide +kernel)) (by decide +kernel)
theorem mp_22 : (Cond.selects "CloneTree" yX0_requireFreeFrame yX0_requireFreeFrame : Cond) ∈ nw_T := nw_sl (List.mem_of_getElem? (i := 22) (by decide +kernel)) (by decide +kernel)
theorem mp_23 : (Cond.selects "CloneTree" yX0_blankPages yX0_blankPages : Cond) ∈ nw_T := nw_sl (List.mem_of_getElem? (i := 23) (by decide +kernel)) (by decide +kernel)
theorem mp_24 : (Cond.selects "CloneTree" yX0_framesOf yX0_framesOf : Cond) ∈ nw_T := nw_sl (List.mem_of_getElem? (i := 24) (by decide +kernel)) (by decide +kernel)
theorem mp_25 : (Cond.selects "CloneTree" yX0_isFirstWithItsFrame yX0_isFirstWithItsFrame : Cond) ∈ nw_T := nw_sl (List.mem_of_getElem? (i := 25) (by decide +kernel)) (by decide +kernel)
theorem mp_26 : (Cond.selects "CloneTree" yX0_sumOfCells yX0_sumOfCells : Cond) ∈ nw_T := nw_sl (List.mem_of_getElem? (i := 26) (by decide +kernel)) (by decide +kernel)
theorem mp_27 : (Cond.selects "CloneTreeModel" yX1_row yX1_row : Cond) ∈ nw_T := nw_sl (List.mem_of_getElem? (i := 27) (by decide +kernel)) (by decide +kernel)
theorem mp_28 : (Cond.selects "CloneTreeModel" yX1_lacks yX1_lacks : Cond) ∈ nw_T := nw_sl (List.mem_of_getElem? (i := 28) (by decide +kernel)) (by decide +kernel)
theorem mp_29 : (Cond.selects "CloneTreeModel" yX1_none yX1_none : Cond) ∈ nw_T := nw_sl (List.mem_of_getElem? (i := 29) (by decide +kernel)) (by decide +kernel)
theorem mp_30 : (Cond.selects "CloneTreeModel" yX1_fail yX1_fail : Cond) ∈ nw_T := nw_sl (List.mem_of_getElem? (i := 30) (by decide +kernel)) (by decide +kernel)
theorem mp_31 : (Cond.selects "CloneTreeModel" yX1_at yX1_at : Cond) ∈ nw_T := nw_sl (List.mem_of_getElem? (i := 31) (by decide +kernel)) (by decide +kernel)
theorem mp_32 : (Cond.selects "CloneTreeModel" yX1_frames yX1_frames : Cond) ∈ nw_T := nw_sl (List.mem_of_getElem? (i := 32) (by decide +kernel)) (by decide +kernel)
theorem mp_33 : (Cond.selects "CloneTreeModel" yX1_holdersOf yX1_holdersOf : Cond) ∈ nw_T := nw_sl (List.mem_of_getElem? (i := 33) (by decide +kernel)) (by decide +kernel)
theorem mp_34 : (Cond.selects "CloneTreeModel" yX1_page yX1_page : Cond) ∈ nw_T := nw_sl (List.mem_of_getElem? (i := 34) (by decide +kernel)) (by decide +kernel)
theorem mp_35 : (Cond.selects "CloneTreeModel" yX1_cellOf yX1_cellOf : Cond) ∈ nw_T := nw_sl (List.mem_of_getElem? (i := 35) (by decide +kernel)) (by decide +kernel)
theorem mp_36 : (Cond.selects "CloneTreeModel" yX1_alone yX1_alone : Cond) ∈ nw_T := nw_sl (List.mem_of_getElem? (i := 36) (by decide +kernel)) (by decide +kernel)
theorem mp_37 : (Cond.selects "CloneTreeModel" yX1_free yX1_free : Cond) ∈ nw_T := nw_sl (List.mem_of_getElem? (i := 37) (by decide +kernel)) (by decide +kernel)
theorem mp_38 : (Cond.selects "CloneTreeModel" yX1_change yX1_change : Cond) ∈ nw_T := nw_sl (List.mem_of_getElem? (i := 38) (by decide +kernel)) (by decide +kernel)
theorem mp_39 : (Cond.selects "CloneTreeModel" yX1_same yX1_same : Cond) ∈ nw_T := nw_sl (List.mem_of_getElem? (i := 39) (by decide +kernel)) (by decide +kernel)
theorem mp_40 : (Cond.selects "CloneTreeModel" yX1_own0 yX1_own0 : Cond) ∈ nw_T := nw_sl (List.mem_of_getElem? (i := 40) (by decide +kernel)) (by decide +kernel)
