/-! Facts of the tables, written by wip/gen/facts.py: the code of each method is what my tables say; where the words of each method, field, call and constant stand in lw_tbl. -/
def allY : List AY := [yNd_init, yNd_begin, yNd_contentsLength, yRd_init, yRd_addText, yRd_faultOfContents, yRd_faultOfEntry, yRd_isMarked, yRd_takeEntry, yRd_takeKind, yRd_takeNumbers, yRd_takePath, yRd_takeTarget, yRd_takeTree, yRw_init, yRw_addLetters, yRw_at, yRw_copySlice, yRw_isNameOfAnyLength, yRw_isSlice, yRw_isTarget, yRw_lastSlash, yRw_order, yRw_put, yRw_putAll, yRw_resize, yTp_init, yTp_blocksOf, yTp_hasCheck, yTp_hasMark, yTp_isBlockOfZeros, yTp_isZeros, yTp_octal, yTp_putCheck, yTp_putMark, yTp_putOctal, yTp_sum, yTp_wholeBlocks, yTr_init, yTr_add, yTr_childNamed, yTr_clear, yTr_closeGaps, yTr_comesBehind, yTr_drop, yTr_follower, yTr_has, yTr_isGone, yTr_isOfKind, yTr_longestPath, yTr_lookUp, yTr_newNumber, yTr_nextChild, yTr_pathLength, yTr_spellPath, yTt_kindOf, yTt_typeOf, yWr_init, yWr_blocksFor, yWr_cutOfPath, yWr_isTellable, yWr_putContents, yWr_putEntries, yWr_putHeader, yWr_putPath, yWr_putTree, yTY_init, yTY_alter, yTY_check, yTY_contents, yTY_fill, yTY_hand, yTY_known, yTY_make, yTY_node, yTY_part, yTY_place, yTY_read, yTY_refuseName, yTY_remove, yTY_rename, yTY_set, yTY_size, yTY_total, yTY_write, yMd_init, yMd_add, yMd_alter, yMd_arrange, yMd_blocksOf, yMd_check, yMd_clear, yMd_compare, yMd_contents, yMd_copyIn, yMd_count, yMd_cutOf, yMd_entry, yMd_fails, yMd_fill, yMd_find, yMd_firstFault, yMd_hand, yMd_head, yMd_isCalled, yMd_isLetter, yMd_isName, yMd_isNode, yMd_isZero, yMd_make, yMd_markOf, yMd_move, yMd_next, yMd_node, yMd_number, yMd_octal, yMd_part, yMd_place, yMd_read, yMd_remove, yMd_rename, yMd_set, yMd_size, yMd_spell, yMd_sum, yMd_tell, yMd_textOf, yMd_thrown, yMd_total, yMd_walk, yMd_within, yMd_write, yLw_alter, yLw_check, yLw_contents, yLw_fill, yLw_law, yLw_make, yLw_node, yLw_part, yLw_remove, yLw_rename, yLw_set, yLw_size, yLw_total, yLw_write, yAr_copyOf]
def btl : List ByteArray := [prog_2_method_1_code, prog_2_method_2_code, prog_2_method_3_code, prog_3_method_1_code, prog_3_method_9_code, prog_3_method_10_code, prog_3_method_3_code, prog_3_method_4_code, prog_3_method_11_code, prog_3_method_6_code, prog_3_method_5_code, prog_3_method_7_code, prog_3_method_8_code, prog_3_method_2_code, prog_4_method_1_code, prog_4_method_5_code, prog_4_method_2_code, prog_4_method_6_code, prog_4_method_11_code, prog_4_method_8_code, prog_4_method_10_code, prog_4_method_12_code, prog_4_method_9_code, prog_4_method_3_code, prog_4_method_7_code, prog_4_method_4_code, prog_5_method_1_code, prog_5_method_3_code, prog_5_method_12_code, prog_5_method_9_code, prog_5_method_5_code, prog_5_method_4_code, prog_5_method_7_code, prog_5_method_11_code, prog_5_method_8_code, prog_5_method_6_code, prog_5_method_10_code, prog_5_method_2_code, prog_6_method_1_code, prog_6_method_7_code, prog_6_method_5_code, prog_6_method_2_code, prog_6_method_11_code, prog_6_method_17_code, prog_6_method_8_code, prog_6_method_15_code, prog_6_method_3_code, prog_6_method_9_code, prog_6_method_4_code, prog_6_method_13_code, prog_6_method_6_code, prog_6_method_10_code, prog_6_method_16_code, prog_6_method_12_code, prog_6_method_14_code, prog_7_method_3_code, prog_7_method_2_code, prog_8_method_1_code, prog_8_method_2_code, prog_8_method_4_code, prog_8_method_3_code, prog_8_method_9_code, prog_8_method_6_code, prog_8_method_7_code, prog_8_method_8_code, prog_8_method_5_code, prog_1_method_1_code, prog_1_method_11_code, prog_1_method_12_code, prog_1_method_5_code, prog_1_method_4_code, prog_1_method_14_code, prog_1_method_18_code, prog_1_method_2_code, prog_1_method_15_code, prog_1_method_16_code, prog_1_method_10_code, prog_1_method_9_code, prog_1_method_19_code, prog_1_method_7_code, prog_1_method_3_code, prog_1_method_6_code, prog_1_method_13_code, prog_1_method_17_code, prog_1_method_8_code, prog_10_method_1_code, prog_10_method_15_code, prog_10_method_41_code, prog_10_method_24_code, prog_10_method_26_code, prog_10_method_42_code, prog_10_method_4_code, prog_10_method_12_code, prog_10_method_18_code, prog_10_method_36_code, prog_10_method_5_code, prog_10_method_25_code, prog_10_method_38_code, prog_10_method_3_code, prog_10_method_17_code, prog_10_method_11_code, prog_10_method_37_code, prog_10_method_44_code, prog_10_method_29_code, prog_10_method_10_code, prog_10_method_8_code, prog_10_method_9_code, prog_10_method_6_code, prog_10_method_32_code, prog_10_method_14_code, prog_10_method_30_code, prog_10_method_21_code, prog_10_method_23_code, prog_10_method_45_code, prog_10_method_33_code, prog_10_method_28_code, prog_10_method_46_code, prog_10_method_40_code, prog_10_method_39_code, prog_10_method_20_code, prog_10_method_16_code, prog_10_method_19_code, prog_10_method_43_code, prog_10_method_13_code, prog_10_method_31_code, prog_10_method_22_code, prog_10_method_34_code, prog_10_method_2_code, prog_10_method_47_code, prog_10_method_35_code, prog_10_method_7_code, prog_10_method_27_code, method_10_code, method_11_code, method_6_code, method_5_code, code, method_3_code, method_13_code, method_14_code, method_8_code, method_4_code, method_7_code, method_12_code, method_15_code, method_9_code, prog_21_method_121_code]
def bt (y : AY) : ByteArray := btl.getD y.1 ⟨#[]⟩
def nml : List MethodName := [⟨"TarYard$Node", "<init>", "()V"⟩, ⟨"TarYard$Node", "begin", "(III)V"⟩, ⟨"TarYard$Node", "contentsLength", "()I"⟩, ⟨"TarYard$Reader", "<init>", "(LTarYard$Tape;)V"⟩, ⟨"TarYard$Reader", "addText", "(LTarYard$Row;II)Z"⟩, ⟨"TarYard$Reader", "faultOfContents", "(I)I"⟩, ⟨"TarYard$Reader", "faultOfEntry", "(LTarYard$Tree;)I"⟩, ⟨"TarYard$Reader", "isMarked", "()Z"⟩, ⟨"TarYard$Reader", "takeEntry", "(LTarYard$Tree;)V"⟩, ⟨"TarYard$Reader", "takeKind", "()Z"⟩, ⟨"TarYard$Reader", "takeNumbers", "()Z"⟩, ⟨"TarYard$Reader", "takePath", "(LTarYard$Tree;)Z"⟩, ⟨"TarYard$Reader", "takeTarget", "(LTarYard$Tree;)Z"⟩, ⟨"TarYard$Reader", "takeTree", "(LTarYard$Tree;)I"⟩, ⟨"TarYard$Row", "<init>", "()V"⟩, ⟨"TarYard$Row", "addLetters", "(JI)V"⟩, ⟨"TarYard$Row", "at", "(I)I"⟩, ⟨"TarYard$Row", "copySlice", "(LTarYard$Row;II)V"⟩, ⟨"TarYard$Row", "isNameOfAnyLength", "(II)Z"⟩, ⟨"TarYard$Row", "isSlice", "(LTarYard$Row;II)Z"⟩, ⟨"TarYard$Row", "isTarget", "()Z"⟩, ⟨"TarYard$Row", "lastSlash", "(I)I"⟩, ⟨"TarYard$Row", "order", "(LTarYard$Row;)I"⟩, ⟨"TarYard$Row", "put", "(II)V"⟩, ⟨"TarYard$Row", "putAll", "(ILTarYard$Row;)V"⟩, ⟨"TarYard$Row", "resize", "(I)V"⟩, ⟨"TarYard$Tape", "<init>", "()V"⟩, ⟨"TarYard$Tape", "blocksOf", "(I)I"⟩, ⟨"TarYard$Tape", "hasCheck", "(I)Z"⟩, ⟨"TarYard$Tape", "hasMark", "(I)Z"⟩, ⟨"TarYard$Tape", "isBlockOfZeros", "(I)Z"⟩, ⟨"TarYard$Tape", "isZeros", "(II)Z"⟩, ⟨"TarYard$Tape", "octal", "(II)J"⟩, ⟨"TarYard$Tape", "putCheck", "(I)I"⟩, ⟨"TarYard$Tape", "putMark", "(I)V"⟩, ⟨"TarYard$Tape", "putOctal", "(III)V"⟩, ⟨"TarYard$Tape", "sum", "(I)I"⟩, ⟨"TarYard$Tape", "wholeBlocks", "()I"⟩, ⟨"TarYard$Tree", "<init>", "()V"⟩, ⟨"TarYard$Tree", "add", "(IIILTarYard$Row;II)I"⟩, ⟨"TarYard$Tree", "childNamed", "(ILTarYard$Row;II)I"⟩, ⟨"TarYard$Tree", "clear", "()V"⟩, ⟨"TarYard$Tree", "closeGaps", "()V"⟩, ⟨"TarYard$Tree", "comesBehind", "(II)Z"⟩, ⟨"TarYard$Tree", "drop", "(I)I"⟩, ⟨"TarYard$Tree", "follower", "(I)I"⟩, ⟨"TarYard$Tree", "has", "(I)Z"⟩, ⟨"TarYard$Tree", "isGone", "(I)Z"⟩, ⟨"TarYard$Tree", "isOfKind", "(II)Z"⟩, ⟨"TarYard$Tree", "longestPath", "()I"⟩, ⟨"TarYard$Tree", "lookUp", "(LTarYard$Row;I)I"⟩, ⟨"TarYard$Tree", "newNumber", "(I)I"⟩, ⟨"TarYard$Tree", "nextChild", "(II)I"⟩, ⟨"TarYard$Tree", "pathLength", "(I)I"⟩, ⟨"TarYard$Tree", "spellPath", "(ILTarYard$Row;)V"⟩, ⟨"TarYard$Types", "kindOf", "(I)I"⟩, ⟨"TarYard$Types", "typeOf", "(I)I"⟩, ⟨"TarYard$Writer", "<init>", "(LTarYard$Tape;)V"⟩, ⟨"TarYard$Writer", "blocksFor", "(LTarYard$Tree;)I"⟩, ⟨"TarYard$Writer", "cutOfPath", "()I"⟩, ⟨"TarYard$Writer", "isTellable", "(LTarYard$Tree;I)Z"⟩, ⟨"TarYard$Writer", "putContents", "(LTarYard$Node;)V"⟩, ⟨"TarYard$Writer", "putEntries", "(LTarYard$Tree;Z)V"⟩, ⟨"TarYard$Writer", "putHeader", "(LTarYard$Tree;I)V"⟩, ⟨"TarYard$Writer", "putPath", "(I)V"⟩, ⟨"TarYard$Writer", "putTree", "(LTarYard$Tree;I)V"⟩, ⟨"TarYard", "<init>", "()V"⟩, ⟨"TarYard", "alter", "(II)I"⟩, ⟨"TarYard", "check", "(I)I"⟩, ⟨"TarYard", "contents", "(III)V"⟩, ⟨"TarYard", "fill", "(IJI)I"⟩, ⟨"TarYard", "hand", "(I)I"⟩, ⟨"TarYard", "known", "(I)LTarYard$Node;"⟩, ⟨"TarYard", "make", "(IIJII)I"⟩, ⟨"TarYard", "node", "(II)I"⟩, ⟨"TarYard", "part", "(III)I"⟩, ⟨"TarYard", "place", "()I"⟩, ⟨"TarYard", "read", "()I"⟩, ⟨"TarYard", "refuseName", "(I)V"⟩, ⟨"TarYard", "remove", "(I)I"⟩, ⟨"TarYard", "rename", "(IJI)I"⟩, ⟨"TarYard", "set", "(IIII)V"⟩, ⟨"TarYard", "size", "(I)V"⟩, ⟨"TarYard", "total", "(I)I"⟩, ⟨"TarYard", "write", "()I"⟩, ⟨"TarYardModel", "<init>", "()V"⟩, ⟨"TarYardModel", "add", "(III[BII)V"⟩, ⟨"TarYardModel", "alter", "(II)I"⟩, ⟨"TarYardModel", "arrange", "()V"⟩, ⟨"TarYardModel", "blocksOf", "(I)I"⟩, ⟨"TarYardModel", "check", "(I)I"⟩, ⟨"TarYardModel", "clear", "(I)V"⟩, ⟨"TarYardModel", "compare", "(II)I"⟩, ⟨"TarYardModel", "contents", "(III)V"⟩, ⟨"TarYardModel", "copyIn", "(II)V"⟩, ⟨"TarYardModel", "count", "()I"⟩, ⟨"TarYardModel", "cutOf", "()I"⟩, ⟨"TarYardModel", "entry", "(II)I"⟩, ⟨"TarYardModel", "fails", "(ZI)Z"⟩, ⟨"TarYardModel", "fill", "(IJI)I"⟩, ⟨"TarYardModel", "find", "(II[BII)I"⟩, ⟨"TarYardModel", "firstFault", "(I)I"⟩, ⟨"TarYardModel", "hand", "(I)I"⟩, ⟨"TarYardModel", "head", "(II)V"⟩, ⟨"TarYardModel", "isCalled", "(I[BII)Z"⟩, ⟨"TarYardModel", "isLetter", "(I)Z"⟩, ⟨"TarYardModel", "isName", "([BII)Z"⟩, ⟨"TarYardModel", "isNode", "(I)Z"⟩, ⟨"TarYardModel", "isZero", "(II)Z"⟩, ⟨"TarYardModel", "make", "(IIJII)I"⟩, ⟨"TarYardModel", "markOf", "(I)I"⟩, ⟨"TarYardModel", "move", "(II)V"⟩, ⟨"TarYardModel", "next", "(II)I"⟩, ⟨"TarYardModel", "node", "(II)I"⟩, ⟨"TarYardModel", "number", "(II)J"⟩, ⟨"TarYardModel", "octal", "(IIJ)V"⟩, ⟨"TarYardModel", "part", "(III)I"⟩, ⟨"TarYardModel", "place", "()I"⟩, ⟨"TarYardModel", "read", "()I"⟩, ⟨"TarYardModel", "remove", "(I)I"⟩, ⟨"TarYardModel", "rename", "(IJI)I"⟩, ⟨"TarYardModel", "set", "(IIII)V"⟩, ⟨"TarYardModel", "size", "(I)V"⟩, ⟨"TarYardModel", "spell", "(JI)Z"⟩, ⟨"TarYardModel", "sum", "(I)I"⟩, ⟨"TarYardModel", "tell", "(I)V"⟩, ⟨"TarYardModel", "textOf", "(II)I"⟩, ⟨"TarYardModel", "thrown", "()I"⟩, ⟨"TarYardModel", "total", "(I)I"⟩, ⟨"TarYardModel", "walk", "(IZ)I"⟩, ⟨"TarYardModel", "within", "(III)Z"⟩, ⟨"TarYardModel", "write", "()I"⟩, ⟨"TarYardLaw", "alter", "(LTarYard;II[J)I"⟩, ⟨"TarYardLaw", "check", "(LTarYard;I[J)I"⟩, ⟨"TarYardLaw", "contents", "(LTarYard;III)I"⟩, ⟨"TarYardLaw", "fill", "(LTarYard;IJI[J)I"⟩, ⟨"TarYardLaw", "law", "([I)Z"⟩, ⟨"TarYardLaw", "make", "(LTarYard;IIJII[J)I"⟩, ⟨"TarYardLaw", "node", "(LTarYard;II[J)I"⟩, ⟨"TarYardLaw", "part", "(LTarYard;III[J)I"⟩, ⟨"TarYardLaw", "remove", "(LTarYard;I[J)I"⟩, ⟨"TarYardLaw", "rename", "(LTarYard;IJI[J)I"⟩, ⟨"TarYardLaw", "set", "(LTarYard;IIII)I"⟩, ⟨"TarYardLaw", "size", "(LTarYard;I)I"⟩, ⟨"TarYardLaw", "total", "(LTarYard;I[J)I"⟩, ⟨"TarYardLaw", "write", "(LTarYard;[J)I"⟩, ⟨"java/util/Arrays", "copyOf", "([BI)[B"⟩]
def nm (y : AY) : MethodName := nml.getD y.1 ⟨"", "", ""⟩
def cNml : List String := ["TarYard$Node", "TarYard$Reader", "TarYard$Row", "TarYard$Tape", "TarYard$Tree", "TarYard$Types", "TarYard$Writer", "TarYard", "TarYardModel", "TarYardLaw", "java/util/Arrays"]
def cNm (c : Nat) : String := cNml.getD c ""
theorem grp {α : Type} {l : List (List α)} {P : α → Prop} (G : Nat) (h : ∀ g, g < G → ∀ q ∈ ((l.drop (8 * g)).take 8).flatten, P q) (hG : l.length ≤ 8 * G) : ∀ q ∈ l.flatten, P q := by
  intro q hq
  obtain ⟨c, hc, hqc⟩ := List.mem_flatten.mp hq
  obtain ⟨k, hk⟩ := List.getElem?_of_mem hc
  have hlt : k < l.length := (List.getElem?_eq_some_iff.mp hk).1
  refine h (k / 8) (by omega) q (List.mem_flatten.mpr ⟨c, ?_, hqc⟩)
  refine List.mem_of_getElem? (i := k % 8) ?_
  rw [List.getElem?_take, if_pos (by omega), List.getElem?_drop, show 8 * (k / 8) + k % 8 = k by omega]
  exact hk
theorem dc_0 : ∀ q ∈ yNd_init.2.2.1.flatten, decode prog_2_method_1_code q.1 = .ok q.2 := by decide +kernel
theorem dc_1 : ∀ q ∈ yNd_begin.2.2.1.flatten, decode prog_2_method_2_code q.1 = .ok q.2 := by decide +kernel
theorem dc_2 : ∀ q ∈ yNd_contentsLength.2.2.1.flatten, decode prog_2_method_3_code q.1 = .ok q.2 := by decide +kernel
theorem dc_3 : ∀ q ∈ yRd_init.2.2.1.flatten, decode prog_3_method_1_code q.1 = .ok q.2 := by decide +kernel
theorem dc_4 : ∀ q ∈ yRd_addText.2.2.1.flatten, decode prog_3_method_9_code q.1 = .ok q.2 := by decide +kernel
theorem dc_5 : ∀ q ∈ yRd_faultOfContents.2.2.1.flatten, decode prog_3_method_10_code q.1 = .ok q.2 := by decide +kernel
theorem dc_6_0 : ∀ q ∈ ((yRd_faultOfEntry.2.2.1.drop (8 * 0)).take 8).flatten, decode prog_3_method_3_code q.1 = .ok q.2 := by decide +kernel
theorem dc_6_1 : ∀ q ∈ ((yRd_faultOfEntry.2.2.1.drop (8 * 1)).take 8).flatten, decode prog_3_method_3_code q.1 = .ok q.2 := by decide +kernel
theorem dc_6 : ∀ q ∈ yRd_faultOfEntry.2.2.1.flatten, decode prog_3_method_3_code q.1 = .ok q.2 := by
  refine grp 2 (fun g hg => ?_) (by decide +kernel)
  match g, hg with
  | 0, _ => exact dc_6_0
  | 1, _ => exact dc_6_1
  | g + 2, hg => exact absurd hg (by omega)
theorem dc_7 : ∀ q ∈ yRd_isMarked.2.2.1.flatten, decode prog_3_method_4_code q.1 = .ok q.2 := by decide +kernel
theorem dc_8_0 : ∀ q ∈ ((yRd_takeEntry.2.2.1.drop (8 * 0)).take 8).flatten, decode prog_3_method_11_code q.1 = .ok q.2 := by decide +kernel
theorem dc_8_1 : ∀ q ∈ ((yRd_takeEntry.2.2.1.drop (8 * 1)).take 8).flatten, decode prog_3_method_11_code q.1 = .ok q.2 := by decide +kernel
theorem dc_8 : ∀ q ∈ yRd_takeEntry.2.2.1.flatten, decode prog_3_method_11_code q.1 = .ok q.2 := by
  refine grp 2 (fun g hg => ?_) (by decide +kernel)
  match g, hg with
  | 0, _ => exact dc_8_0
  | 1, _ => exact dc_8_1
  | g + 2, hg => exact absurd hg (by omega)
theorem dc_9 : ∀ q ∈ yRd_takeKind.2.2.1.flatten, decode prog_3_method_6_code q.1 = .ok q.2 := by decide +kernel
theorem dc_10_0 : ∀ q ∈ ((yRd_takeNumbers.2.2.1.drop (8 * 0)).take 8).flatten, decode prog_3_method_5_code q.1 = .ok q.2 := by decide +kernel
theorem dc_10_1 : ∀ q ∈ ((yRd_takeNumbers.2.2.1.drop (8 * 1)).take 8).flatten, decode prog_3_method_5_code q.1 = .ok q.2 := by decide +kernel
theorem dc_10 : ∀ q ∈ yRd_takeNumbers.2.2.1.flatten, decode prog_3_method_5_code q.1 = .ok q.2 := by
  refine grp 2 (fun g hg => ?_) (by decide +kernel)
  match g, hg with
  | 0, _ => exact dc_10_0
  | 1, _ => exact dc_10_1
  | g + 2, hg => exact absurd hg (by omega)
theorem dc_11_0 : ∀ q ∈ ((yRd_takePath.2.2.1.drop (8 * 0)).take 8).flatten, decode prog_3_method_7_code q.1 = .ok q.2 := by decide +kernel
theorem dc_11_1 : ∀ q ∈ ((yRd_takePath.2.2.1.drop (8 * 1)).take 8).flatten, decode prog_3_method_7_code q.1 = .ok q.2 := by decide +kernel
theorem dc_11_2 : ∀ q ∈ ((yRd_takePath.2.2.1.drop (8 * 2)).take 8).flatten, decode prog_3_method_7_code q.1 = .ok q.2 := by decide +kernel
theorem dc_11 : ∀ q ∈ yRd_takePath.2.2.1.flatten, decode prog_3_method_7_code q.1 = .ok q.2 := by
  refine grp 3 (fun g hg => ?_) (by decide +kernel)
  match g, hg with
  | 0, _ => exact dc_11_0
  | 1, _ => exact dc_11_1
  | 2, _ => exact dc_11_2
  | g + 3, hg => exact absurd hg (by omega)
theorem dc_12 : ∀ q ∈ yRd_takeTarget.2.2.1.flatten, decode prog_3_method_8_code q.1 = .ok q.2 := by decide +kernel
theorem dc_13 : ∀ q ∈ yRd_takeTree.2.2.1.flatten, decode prog_3_method_2_code q.1 = .ok q.2 := by decide +kernel
theorem dc_14 : ∀ q ∈ yRw_init.2.2.1.flatten, decode prog_4_method_1_code q.1 = .ok q.2 := by decide +kernel
theorem dc_15 : ∀ q ∈ yRw_addLetters.2.2.1.flatten, decode prog_4_method_5_code q.1 = .ok q.2 := by decide +kernel
theorem dc_16 : ∀ q ∈ yRw_at.2.2.1.flatten, decode prog_4_method_2_code q.1 = .ok q.2 := by decide +kernel
theorem dc_17 : ∀ q ∈ yRw_copySlice.2.2.1.flatten, decode prog_4_method_6_code q.1 = .ok q.2 := by decide +kernel
theorem dc_18 : ∀ q ∈ yRw_isNameOfAnyLength.2.2.1.flatten, decode prog_4_method_11_code q.1 = .ok q.2 := by decide +kernel
theorem dc_19 : ∀ q ∈ yRw_isSlice.2.2.1.flatten, decode prog_4_method_8_code q.1 = .ok q.2 := by decide +kernel
theorem dc_20 : ∀ q ∈ yRw_isTarget.2.2.1.flatten, decode prog_4_method_10_code q.1 = .ok q.2 := by decide +kernel
theorem dc_21 : ∀ q ∈ yRw_lastSlash.2.2.1.flatten, decode prog_4_method_12_code q.1 = .ok q.2 := by decide +kernel
theorem dc_22 : ∀ q ∈ yRw_order.2.2.1.flatten, decode prog_4_method_9_code q.1 = .ok q.2 := by decide +kernel
theorem dc_23 : ∀ q ∈ yRw_put.2.2.1.flatten, decode prog_4_method_3_code q.1 = .ok q.2 := by decide +kernel
theorem dc_24 : ∀ q ∈ yRw_putAll.2.2.1.flatten, decode prog_4_method_7_code q.1 = .ok q.2 := by decide +kernel
theorem dc_25 : ∀ q ∈ yRw_resize.2.2.1.flatten, decode prog_4_method_4_code q.1 = .ok q.2 := by decide +kernel
theorem dc_26 : ∀ q ∈ yTp_init.2.2.1.flatten, decode prog_5_method_1_code q.1 = .ok q.2 := by decide +kernel
theorem dc_27 : ∀ q ∈ yTp_blocksOf.2.2.1.flatten, decode prog_5_method_3_code q.1 = .ok q.2 := by decide +kernel
theorem dc_28 : ∀ q ∈ yTp_hasCheck.2.2.1.flatten, decode prog_5_method_12_code q.1 = .ok q.2 := by decide +kernel
theorem dc_29 : ∀ q ∈ yTp_hasMark.2.2.1.flatten, decode prog_5_method_9_code q.1 = .ok q.2 := by decide +kernel
theorem dc_30 : ∀ q ∈ yTp_isBlockOfZeros.2.2.1.flatten, decode prog_5_method_5_code q.1 = .ok q.2 := by decide +kernel
theorem dc_31 : ∀ q ∈ yTp_isZeros.2.2.1.flatten, decode prog_5_method_4_code q.1 = .ok q.2 := by decide +kernel
theorem dc_32 : ∀ q ∈ yTp_octal.2.2.1.flatten, decode prog_5_method_7_code q.1 = .ok q.2 := by decide +kernel
theorem dc_33 : ∀ q ∈ yTp_putCheck.2.2.1.flatten, decode prog_5_method_11_code q.1 = .ok q.2 := by decide +kernel
theorem dc_34 : ∀ q ∈ yTp_putMark.2.2.1.flatten, decode prog_5_method_8_code q.1 = .ok q.2 := by decide +kernel
theorem dc_35 : ∀ q ∈ yTp_putOctal.2.2.1.flatten, decode prog_5_method_6_code q.1 = .ok q.2 := by decide +kernel
theorem dc_36 : ∀ q ∈ yTp_sum.2.2.1.flatten, decode prog_5_method_10_code q.1 = .ok q.2 := by decide +kernel
theorem dc_37 : ∀ q ∈ yTp_wholeBlocks.2.2.1.flatten, decode prog_5_method_2_code q.1 = .ok q.2 := by decide +kernel
theorem dc_38 : ∀ q ∈ yTr_init.2.2.1.flatten, decode prog_6_method_1_code q.1 = .ok q.2 := by decide +kernel
theorem dc_39 : ∀ q ∈ yTr_add.2.2.1.flatten, decode prog_6_method_7_code q.1 = .ok q.2 := by decide +kernel
theorem dc_40 : ∀ q ∈ yTr_childNamed.2.2.1.flatten, decode prog_6_method_5_code q.1 = .ok q.2 := by decide +kernel
theorem dc_41 : ∀ q ∈ yTr_clear.2.2.1.flatten, decode prog_6_method_2_code q.1 = .ok q.2 := by decide +kernel
theorem dc_42 : ∀ q ∈ yTr_closeGaps.2.2.1.flatten, decode prog_6_method_11_code q.1 = .ok q.2 := by decide +kernel
theorem dc_43 : ∀ q ∈ yTr_comesBehind.2.2.1.flatten, decode prog_6_method_17_code q.1 = .ok q.2 := by decide +kernel
theorem dc_44_0 : ∀ q ∈ ((yTr_drop.2.2.1.drop (8 * 0)).take 8).flatten, decode prog_6_method_8_code q.1 = .ok q.2 := by decide +kernel
theorem dc_44_1 : ∀ q ∈ ((yTr_drop.2.2.1.drop (8 * 1)).take 8).flatten, decode prog_6_method_8_code q.1 = .ok q.2 := by decide +kernel
theorem dc_44 : ∀ q ∈ yTr_drop.2.2.1.flatten, decode prog_6_method_8_code q.1 = .ok q.2 := by
  refine grp 2 (fun g hg => ?_) (by decide +kernel)
  match g, hg with
  | 0, _ => exact dc_44_0
  | 1, _ => exact dc_44_1
  | g + 2, hg => exact absurd hg (by omega)
theorem dc_45 : ∀ q ∈ yTr_follower.2.2.1.flatten, decode prog_6_method_15_code q.1 = .ok q.2 := by decide +kernel
theorem dc_46 : ∀ q ∈ yTr_has.2.2.1.flatten, decode prog_6_method_3_code q.1 = .ok q.2 := by decide +kernel
theorem dc_47 : ∀ q ∈ yTr_isGone.2.2.1.flatten, decode prog_6_method_9_code q.1 = .ok q.2 := by decide +kernel
theorem dc_48 : ∀ q ∈ yTr_isOfKind.2.2.1.flatten, decode prog_6_method_4_code q.1 = .ok q.2 := by decide +kernel
theorem dc_49 : ∀ q ∈ yTr_longestPath.2.2.1.flatten, decode prog_6_method_13_code q.1 = .ok q.2 := by decide +kernel
theorem dc_50 : ∀ q ∈ yTr_lookUp.2.2.1.flatten, decode prog_6_method_6_code q.1 = .ok q.2 := by decide +kernel
theorem dc_51 : ∀ q ∈ yTr_newNumber.2.2.1.flatten, decode prog_6_method_10_code q.1 = .ok q.2 := by decide +kernel
theorem dc_52 : ∀ q ∈ yTr_nextChild.2.2.1.flatten, decode prog_6_method_16_code q.1 = .ok q.2 := by decide +kernel
theorem dc_53 : ∀ q ∈ yTr_pathLength.2.2.1.flatten, decode prog_6_method_12_code q.1 = .ok q.2 := by decide +kernel
theorem dc_54 : ∀ q ∈ yTr_spellPath.2.2.1.flatten, decode prog_6_method_14_code q.1 = .ok q.2 := by decide +kernel
theorem dc_55 : ∀ q ∈ yTt_kindOf.2.2.1.flatten, decode prog_7_method_3_code q.1 = .ok q.2 := by decide +kernel
theorem dc_56 : ∀ q ∈ yTt_typeOf.2.2.1.flatten, decode prog_7_method_2_code q.1 = .ok q.2 := by decide +kernel
theorem dc_57 : ∀ q ∈ yWr_init.2.2.1.flatten, decode prog_8_method_1_code q.1 = .ok q.2 := by decide +kernel
theorem dc_58 : ∀ q ∈ yWr_blocksFor.2.2.1.flatten, decode prog_8_method_2_code q.1 = .ok q.2 := by decide +kernel
theorem dc_59 : ∀ q ∈ yWr_cutOfPath.2.2.1.flatten, decode prog_8_method_4_code q.1 = .ok q.2 := by decide +kernel
theorem dc_60 : ∀ q ∈ yWr_isTellable.2.2.1.flatten, decode prog_8_method_3_code q.1 = .ok q.2 := by decide +kernel
theorem dc_61 : ∀ q ∈ yWr_putContents.2.2.1.flatten, decode prog_8_method_9_code q.1 = .ok q.2 := by decide +kernel
theorem dc_62 : ∀ q ∈ yWr_putEntries.2.2.1.flatten, decode prog_8_method_6_code q.1 = .ok q.2 := by decide +kernel
theorem dc_63_0 : ∀ q ∈ ((yWr_putHeader.2.2.1.drop (8 * 0)).take 8).flatten, decode prog_8_method_7_code q.1 = .ok q.2 := by decide +kernel
theorem dc_63_1 : ∀ q ∈ ((yWr_putHeader.2.2.1.drop (8 * 1)).take 8).flatten, decode prog_8_method_7_code q.1 = .ok q.2 := by decide +kernel
theorem dc_63_2 : ∀ q ∈ ((yWr_putHeader.2.2.1.drop (8 * 2)).take 8).flatten, decode prog_8_method_7_code q.1 = .ok q.2 := by decide +kernel
theorem dc_63 : ∀ q ∈ yWr_putHeader.2.2.1.flatten, decode prog_8_method_7_code q.1 = .ok q.2 := by
  refine grp 3 (fun g hg => ?_) (by decide +kernel)
  match g, hg with
  | 0, _ => exact dc_63_0
  | 1, _ => exact dc_63_1
  | 2, _ => exact dc_63_2
  | g + 3, hg => exact absurd hg (by omega)
theorem dc_64 : ∀ q ∈ yWr_putPath.2.2.1.flatten, decode prog_8_method_8_code q.1 = .ok q.2 := by decide +kernel
theorem dc_65 : ∀ q ∈ yWr_putTree.2.2.1.flatten, decode prog_8_method_5_code q.1 = .ok q.2 := by decide +kernel
theorem dc_66 : ∀ q ∈ yTY_init.2.2.1.flatten, decode prog_1_method_1_code q.1 = .ok q.2 := by decide +kernel
theorem dc_67 : ∀ q ∈ yTY_alter.2.2.1.flatten, decode prog_1_method_11_code q.1 = .ok q.2 := by decide +kernel
theorem dc_68 : ∀ q ∈ yTY_check.2.2.1.flatten, decode prog_1_method_12_code q.1 = .ok q.2 := by decide +kernel
theorem dc_69 : ∀ q ∈ yTY_contents.2.2.1.flatten, decode prog_1_method_5_code q.1 = .ok q.2 := by decide +kernel
theorem dc_70_0 : ∀ q ∈ ((yTY_fill.2.2.1.drop (8 * 0)).take 8).flatten, decode prog_1_method_4_code q.1 = .ok q.2 := by decide +kernel
theorem dc_70_1 : ∀ q ∈ ((yTY_fill.2.2.1.drop (8 * 1)).take 8).flatten, decode prog_1_method_4_code q.1 = .ok q.2 := by decide +kernel
theorem dc_70 : ∀ q ∈ yTY_fill.2.2.1.flatten, decode prog_1_method_4_code q.1 = .ok q.2 := by
  refine grp 2 (fun g hg => ?_) (by decide +kernel)
  match g, hg with
  | 0, _ => exact dc_70_0
  | 1, _ => exact dc_70_1
  | g + 2, hg => exact absurd hg (by omega)
theorem dc_71 : ∀ q ∈ yTY_hand.2.2.1.flatten, decode prog_1_method_14_code q.1 = .ok q.2 := by decide +kernel
theorem dc_72 : ∀ q ∈ yTY_known.2.2.1.flatten, decode prog_1_method_18_code q.1 = .ok q.2 := by decide +kernel
theorem dc_73_0 : ∀ q ∈ ((yTY_make.2.2.1.drop (8 * 0)).take 8).flatten, decode prog_1_method_2_code q.1 = .ok q.2 := by decide +kernel
theorem dc_73_1 : ∀ q ∈ ((yTY_make.2.2.1.drop (8 * 1)).take 8).flatten, decode prog_1_method_2_code q.1 = .ok q.2 := by decide +kernel
theorem dc_73 : ∀ q ∈ yTY_make.2.2.1.flatten, decode prog_1_method_2_code q.1 = .ok q.2 := by
  refine grp 2 (fun g hg => ?_) (by decide +kernel)
  match g, hg with
  | 0, _ => exact dc_73_0
  | 1, _ => exact dc_73_1
  | g + 2, hg => exact absurd hg (by omega)
theorem dc_74 : ∀ q ∈ yTY_node.2.2.1.flatten, decode prog_1_method_15_code q.1 = .ok q.2 := by decide +kernel
theorem dc_75 : ∀ q ∈ yTY_part.2.2.1.flatten, decode prog_1_method_16_code q.1 = .ok q.2 := by decide +kernel
theorem dc_76 : ∀ q ∈ yTY_place.2.2.1.flatten, decode prog_1_method_10_code q.1 = .ok q.2 := by decide +kernel
theorem dc_77 : ∀ q ∈ yTY_read.2.2.1.flatten, decode prog_1_method_9_code q.1 = .ok q.2 := by decide +kernel
theorem dc_78 : ∀ q ∈ yTY_refuseName.2.2.1.flatten, decode prog_1_method_19_code q.1 = .ok q.2 := by decide +kernel
theorem dc_79 : ∀ q ∈ yTY_remove.2.2.1.flatten, decode prog_1_method_7_code q.1 = .ok q.2 := by decide +kernel
theorem dc_80 : ∀ q ∈ yTY_rename.2.2.1.flatten, decode prog_1_method_3_code q.1 = .ok q.2 := by decide +kernel
theorem dc_81 : ∀ q ∈ yTY_set.2.2.1.flatten, decode prog_1_method_6_code q.1 = .ok q.2 := by decide +kernel
theorem dc_82 : ∀ q ∈ yTY_size.2.2.1.flatten, decode prog_1_method_13_code q.1 = .ok q.2 := by decide +kernel
theorem dc_83 : ∀ q ∈ yTY_total.2.2.1.flatten, decode prog_1_method_17_code q.1 = .ok q.2 := by decide +kernel
theorem dc_84 : ∀ q ∈ yTY_write.2.2.1.flatten, decode prog_1_method_8_code q.1 = .ok q.2 := by decide +kernel
theorem dc_85_0 : ∀ q ∈ ((yMd_init.2.2.1.drop (8 * 0)).take 8).flatten, decode prog_10_method_1_code q.1 = .ok q.2 := by decide +kernel
theorem dc_85_1 : ∀ q ∈ ((yMd_init.2.2.1.drop (8 * 1)).take 8).flatten, decode prog_10_method_1_code q.1 = .ok q.2 := by decide +kernel
theorem dc_85 : ∀ q ∈ yMd_init.2.2.1.flatten, decode prog_10_method_1_code q.1 = .ok q.2 := by
  refine grp 2 (fun g hg => ?_) (by decide +kernel)
  match g, hg with
  | 0, _ => exact dc_85_0
  | 1, _ => exact dc_85_1
  | g + 2, hg => exact absurd hg (by omega)
theorem dc_86_0 : ∀ q ∈ ((yMd_add.2.2.1.drop (8 * 0)).take 8).flatten, decode prog_10_method_15_code q.1 = .ok q.2 := by decide +kernel
theorem dc_86_1 : ∀ q ∈ ((yMd_add.2.2.1.drop (8 * 1)).take 8).flatten, decode prog_10_method_15_code q.1 = .ok q.2 := by decide +kernel
theorem dc_86 : ∀ q ∈ yMd_add.2.2.1.flatten, decode prog_10_method_15_code q.1 = .ok q.2 := by
  refine grp 2 (fun g hg => ?_) (by decide +kernel)
  match g, hg with
  | 0, _ => exact dc_86_0
  | 1, _ => exact dc_86_1
  | g + 2, hg => exact absurd hg (by omega)
theorem dc_87 : ∀ q ∈ yMd_alter.2.2.1.flatten, decode prog_10_method_41_code q.1 = .ok q.2 := by decide +kernel
theorem dc_88_0 : ∀ q ∈ ((yMd_arrange.2.2.1.drop (8 * 0)).take 8).flatten, decode prog_10_method_24_code q.1 = .ok q.2 := by decide +kernel
theorem dc_88_1 : ∀ q ∈ ((yMd_arrange.2.2.1.drop (8 * 1)).take 8).flatten, decode prog_10_method_24_code q.1 = .ok q.2 := by decide +kernel
theorem dc_88 : ∀ q ∈ yMd_arrange.2.2.1.flatten, decode prog_10_method_24_code q.1 = .ok q.2 := by
  refine grp 2 (fun g hg => ?_) (by decide +kernel)
  match g, hg with
  | 0, _ => exact dc_88_0
  | 1, _ => exact dc_88_1
  | g + 2, hg => exact absurd hg (by omega)
theorem dc_89 : ∀ q ∈ yMd_blocksOf.2.2.1.flatten, decode prog_10_method_26_code q.1 = .ok q.2 := by decide +kernel
theorem dc_90 : ∀ q ∈ yMd_check.2.2.1.flatten, decode prog_10_method_42_code q.1 = .ok q.2 := by decide +kernel
theorem dc_91 : ∀ q ∈ yMd_clear.2.2.1.flatten, decode prog_10_method_4_code q.1 = .ok q.2 := by decide +kernel
theorem dc_92 : ∀ q ∈ yMd_compare.2.2.1.flatten, decode prog_10_method_12_code q.1 = .ok q.2 := by decide +kernel
theorem dc_93 : ∀ q ∈ yMd_contents.2.2.1.flatten, decode prog_10_method_18_code q.1 = .ok q.2 := by decide +kernel
theorem dc_94 : ∀ q ∈ yMd_copyIn.2.2.1.flatten, decode prog_10_method_36_code q.1 = .ok q.2 := by decide +kernel
theorem dc_95 : ∀ q ∈ yMd_count.2.2.1.flatten, decode prog_10_method_5_code q.1 = .ok q.2 := by decide +kernel
theorem dc_96 : ∀ q ∈ yMd_cutOf.2.2.1.flatten, decode prog_10_method_25_code q.1 = .ok q.2 := by decide +kernel
theorem dc_97_0 : ∀ q ∈ ((yMd_entry.2.2.1.drop (8 * 0)).take 8).flatten, decode prog_10_method_38_code q.1 = .ok q.2 := by decide +kernel
theorem dc_97_1 : ∀ q ∈ ((yMd_entry.2.2.1.drop (8 * 1)).take 8).flatten, decode prog_10_method_38_code q.1 = .ok q.2 := by decide +kernel
theorem dc_97_2 : ∀ q ∈ ((yMd_entry.2.2.1.drop (8 * 2)).take 8).flatten, decode prog_10_method_38_code q.1 = .ok q.2 := by decide +kernel
theorem dc_97_3 : ∀ q ∈ ((yMd_entry.2.2.1.drop (8 * 3)).take 8).flatten, decode prog_10_method_38_code q.1 = .ok q.2 := by decide +kernel
theorem dc_97_4 : ∀ q ∈ ((yMd_entry.2.2.1.drop (8 * 4)).take 8).flatten, decode prog_10_method_38_code q.1 = .ok q.2 := by decide +kernel
theorem dc_97_5 : ∀ q ∈ ((yMd_entry.2.2.1.drop (8 * 5)).take 8).flatten, decode prog_10_method_38_code q.1 = .ok q.2 := by decide +kernel
theorem dc_97_6 : ∀ q ∈ ((yMd_entry.2.2.1.drop (8 * 6)).take 8).flatten, decode prog_10_method_38_code q.1 = .ok q.2 := by decide +kernel
theorem dc_97 : ∀ q ∈ yMd_entry.2.2.1.flatten, decode prog_10_method_38_code q.1 = .ok q.2 := by
  refine grp 7 (fun g hg => ?_) (by decide +kernel)
  match g, hg with
  | 0, _ => exact dc_97_0
  | 1, _ => exact dc_97_1
  | 2, _ => exact dc_97_2
  | 3, _ => exact dc_97_3
  | 4, _ => exact dc_97_4
  | 5, _ => exact dc_97_5
  | 6, _ => exact dc_97_6
  | g + 7, hg => exact absurd hg (by omega)
theorem dc_98 : ∀ q ∈ yMd_fails.2.2.1.flatten, decode prog_10_method_3_code q.1 = .ok q.2 := by decide +kernel
theorem dc_99_0 : ∀ q ∈ ((yMd_fill.2.2.1.drop (8 * 0)).take 8).flatten, decode prog_10_method_17_code q.1 = .ok q.2 := by decide +kernel
theorem dc_99_1 : ∀ q ∈ ((yMd_fill.2.2.1.drop (8 * 1)).take 8).flatten, decode prog_10_method_17_code q.1 = .ok q.2 := by decide +kernel
theorem dc_99_2 : ∀ q ∈ ((yMd_fill.2.2.1.drop (8 * 2)).take 8).flatten, decode prog_10_method_17_code q.1 = .ok q.2 := by decide +kernel
theorem dc_99 : ∀ q ∈ yMd_fill.2.2.1.flatten, decode prog_10_method_17_code q.1 = .ok q.2 := by
  refine grp 3 (fun g hg => ?_) (by decide +kernel)
  match g, hg with
  | 0, _ => exact dc_99_0
  | 1, _ => exact dc_99_1
  | 2, _ => exact dc_99_2
  | g + 3, hg => exact absurd hg (by omega)
theorem dc_100 : ∀ q ∈ yMd_find.2.2.1.flatten, decode prog_10_method_11_code q.1 = .ok q.2 := by decide +kernel
theorem dc_101_0 : ∀ q ∈ ((yMd_firstFault.2.2.1.drop (8 * 0)).take 8).flatten, decode prog_10_method_37_code q.1 = .ok q.2 := by decide +kernel
theorem dc_101_1 : ∀ q ∈ ((yMd_firstFault.2.2.1.drop (8 * 1)).take 8).flatten, decode prog_10_method_37_code q.1 = .ok q.2 := by decide +kernel
theorem dc_101_2 : ∀ q ∈ ((yMd_firstFault.2.2.1.drop (8 * 2)).take 8).flatten, decode prog_10_method_37_code q.1 = .ok q.2 := by decide +kernel
theorem dc_101_3 : ∀ q ∈ ((yMd_firstFault.2.2.1.drop (8 * 3)).take 8).flatten, decode prog_10_method_37_code q.1 = .ok q.2 := by decide +kernel
theorem dc_101 : ∀ q ∈ yMd_firstFault.2.2.1.flatten, decode prog_10_method_37_code q.1 = .ok q.2 := by
  refine grp 4 (fun g hg => ?_) (by decide +kernel)
  match g, hg with
  | 0, _ => exact dc_101_0
  | 1, _ => exact dc_101_1
  | 2, _ => exact dc_101_2
  | 3, _ => exact dc_101_3
  | g + 4, hg => exact absurd hg (by omega)
theorem dc_102 : ∀ q ∈ yMd_hand.2.2.1.flatten, decode prog_10_method_44_code q.1 = .ok q.2 := by decide +kernel
theorem dc_103_0 : ∀ q ∈ ((yMd_head.2.2.1.drop (8 * 0)).take 8).flatten, decode prog_10_method_29_code q.1 = .ok q.2 := by decide +kernel
theorem dc_103_1 : ∀ q ∈ ((yMd_head.2.2.1.drop (8 * 1)).take 8).flatten, decode prog_10_method_29_code q.1 = .ok q.2 := by decide +kernel
theorem dc_103_2 : ∀ q ∈ ((yMd_head.2.2.1.drop (8 * 2)).take 8).flatten, decode prog_10_method_29_code q.1 = .ok q.2 := by decide +kernel
theorem dc_103_3 : ∀ q ∈ ((yMd_head.2.2.1.drop (8 * 3)).take 8).flatten, decode prog_10_method_29_code q.1 = .ok q.2 := by decide +kernel
theorem dc_103 : ∀ q ∈ yMd_head.2.2.1.flatten, decode prog_10_method_29_code q.1 = .ok q.2 := by
  refine grp 4 (fun g hg => ?_) (by decide +kernel)
  match g, hg with
  | 0, _ => exact dc_103_0
  | 1, _ => exact dc_103_1
  | 2, _ => exact dc_103_2
  | 3, _ => exact dc_103_3
  | g + 4, hg => exact absurd hg (by omega)
theorem dc_104 : ∀ q ∈ yMd_isCalled.2.2.1.flatten, decode prog_10_method_10_code q.1 = .ok q.2 := by decide +kernel
theorem dc_105 : ∀ q ∈ yMd_isLetter.2.2.1.flatten, decode prog_10_method_8_code q.1 = .ok q.2 := by decide +kernel
theorem dc_106 : ∀ q ∈ yMd_isName.2.2.1.flatten, decode prog_10_method_9_code q.1 = .ok q.2 := by decide +kernel
theorem dc_107 : ∀ q ∈ yMd_isNode.2.2.1.flatten, decode prog_10_method_6_code q.1 = .ok q.2 := by decide +kernel
theorem dc_108 : ∀ q ∈ yMd_isZero.2.2.1.flatten, decode prog_10_method_32_code q.1 = .ok q.2 := by decide +kernel
theorem dc_109_0 : ∀ q ∈ ((yMd_make.2.2.1.drop (8 * 0)).take 8).flatten, decode prog_10_method_14_code q.1 = .ok q.2 := by decide +kernel
theorem dc_109_1 : ∀ q ∈ ((yMd_make.2.2.1.drop (8 * 1)).take 8).flatten, decode prog_10_method_14_code q.1 = .ok q.2 := by decide +kernel
theorem dc_109 : ∀ q ∈ yMd_make.2.2.1.flatten, decode prog_10_method_14_code q.1 = .ok q.2 := by
  refine grp 2 (fun g hg => ?_) (by decide +kernel)
  match g, hg with
  | 0, _ => exact dc_109_0
  | 1, _ => exact dc_109_1
  | g + 2, hg => exact absurd hg (by omega)
theorem dc_110 : ∀ q ∈ yMd_markOf.2.2.1.flatten, decode prog_10_method_30_code q.1 = .ok q.2 := by decide +kernel
theorem dc_111_0 : ∀ q ∈ ((yMd_move.2.2.1.drop (8 * 0)).take 8).flatten, decode prog_10_method_21_code q.1 = .ok q.2 := by decide +kernel
theorem dc_111_1 : ∀ q ∈ ((yMd_move.2.2.1.drop (8 * 1)).take 8).flatten, decode prog_10_method_21_code q.1 = .ok q.2 := by decide +kernel
theorem dc_111 : ∀ q ∈ yMd_move.2.2.1.flatten, decode prog_10_method_21_code q.1 = .ok q.2 := by
  refine grp 2 (fun g hg => ?_) (by decide +kernel)
  match g, hg with
  | 0, _ => exact dc_111_0
  | 1, _ => exact dc_111_1
  | g + 2, hg => exact absurd hg (by omega)
theorem dc_112 : ∀ q ∈ yMd_next.2.2.1.flatten, decode prog_10_method_23_code q.1 = .ok q.2 := by decide +kernel
theorem dc_113_0 : ∀ q ∈ ((yMd_node.2.2.1.drop (8 * 0)).take 8).flatten, decode prog_10_method_45_code q.1 = .ok q.2 := by decide +kernel
theorem dc_113_1 : ∀ q ∈ ((yMd_node.2.2.1.drop (8 * 1)).take 8).flatten, decode prog_10_method_45_code q.1 = .ok q.2 := by decide +kernel
theorem dc_113 : ∀ q ∈ yMd_node.2.2.1.flatten, decode prog_10_method_45_code q.1 = .ok q.2 := by
  refine grp 2 (fun g hg => ?_) (by decide +kernel)
  match g, hg with
  | 0, _ => exact dc_113_0
  | 1, _ => exact dc_113_1
  | g + 2, hg => exact absurd hg (by omega)
theorem dc_114 : ∀ q ∈ yMd_number.2.2.1.flatten, decode prog_10_method_33_code q.1 = .ok q.2 := by decide +kernel
theorem dc_115 : ∀ q ∈ yMd_octal.2.2.1.flatten, decode prog_10_method_28_code q.1 = .ok q.2 := by decide +kernel
theorem dc_116 : ∀ q ∈ yMd_part.2.2.1.flatten, decode prog_10_method_46_code q.1 = .ok q.2 := by decide +kernel
theorem dc_117 : ∀ q ∈ yMd_place.2.2.1.flatten, decode prog_10_method_40_code q.1 = .ok q.2 := by decide +kernel
theorem dc_118_0 : ∀ q ∈ ((yMd_read.2.2.1.drop (8 * 0)).take 8).flatten, decode prog_10_method_39_code q.1 = .ok q.2 := by decide +kernel
theorem dc_118_1 : ∀ q ∈ ((yMd_read.2.2.1.drop (8 * 1)).take 8).flatten, decode prog_10_method_39_code q.1 = .ok q.2 := by decide +kernel
theorem dc_118 : ∀ q ∈ yMd_read.2.2.1.flatten, decode prog_10_method_39_code q.1 = .ok q.2 := by
  refine grp 2 (fun g hg => ?_) (by decide +kernel)
  match g, hg with
  | 0, _ => exact dc_118_0
  | 1, _ => exact dc_118_1
  | g + 2, hg => exact absurd hg (by omega)
theorem dc_119_0 : ∀ q ∈ ((yMd_remove.2.2.1.drop (8 * 0)).take 8).flatten, decode prog_10_method_20_code q.1 = .ok q.2 := by decide +kernel
theorem dc_119_1 : ∀ q ∈ ((yMd_remove.2.2.1.drop (8 * 1)).take 8).flatten, decode prog_10_method_20_code q.1 = .ok q.2 := by decide +kernel
theorem dc_119_2 : ∀ q ∈ ((yMd_remove.2.2.1.drop (8 * 2)).take 8).flatten, decode prog_10_method_20_code q.1 = .ok q.2 := by decide +kernel
theorem dc_119 : ∀ q ∈ yMd_remove.2.2.1.flatten, decode prog_10_method_20_code q.1 = .ok q.2 := by
  refine grp 3 (fun g hg => ?_) (by decide +kernel)
  match g, hg with
  | 0, _ => exact dc_119_0
  | 1, _ => exact dc_119_1
  | 2, _ => exact dc_119_2
  | g + 3, hg => exact absurd hg (by omega)
theorem dc_120_0 : ∀ q ∈ ((yMd_rename.2.2.1.drop (8 * 0)).take 8).flatten, decode prog_10_method_16_code q.1 = .ok q.2 := by decide +kernel
theorem dc_120_1 : ∀ q ∈ ((yMd_rename.2.2.1.drop (8 * 1)).take 8).flatten, decode prog_10_method_16_code q.1 = .ok q.2 := by decide +kernel
theorem dc_120_2 : ∀ q ∈ ((yMd_rename.2.2.1.drop (8 * 2)).take 8).flatten, decode prog_10_method_16_code q.1 = .ok q.2 := by decide +kernel
theorem dc_120 : ∀ q ∈ yMd_rename.2.2.1.flatten, decode prog_10_method_16_code q.1 = .ok q.2 := by
  refine grp 3 (fun g hg => ?_) (by decide +kernel)
  match g, hg with
  | 0, _ => exact dc_120_0
  | 1, _ => exact dc_120_1
  | 2, _ => exact dc_120_2
  | g + 3, hg => exact absurd hg (by omega)
theorem dc_121 : ∀ q ∈ yMd_set.2.2.1.flatten, decode prog_10_method_19_code q.1 = .ok q.2 := by decide +kernel
theorem dc_122 : ∀ q ∈ yMd_size.2.2.1.flatten, decode prog_10_method_43_code q.1 = .ok q.2 := by decide +kernel
theorem dc_123 : ∀ q ∈ yMd_spell.2.2.1.flatten, decode prog_10_method_13_code q.1 = .ok q.2 := by decide +kernel
theorem dc_124 : ∀ q ∈ yMd_sum.2.2.1.flatten, decode prog_10_method_31_code q.1 = .ok q.2 := by decide +kernel
theorem dc_125_0 : ∀ q ∈ ((yMd_tell.2.2.1.drop (8 * 0)).take 8).flatten, decode prog_10_method_22_code q.1 = .ok q.2 := by decide +kernel
theorem dc_125_1 : ∀ q ∈ ((yMd_tell.2.2.1.drop (8 * 1)).take 8).flatten, decode prog_10_method_22_code q.1 = .ok q.2 := by decide +kernel
theorem dc_125 : ∀ q ∈ yMd_tell.2.2.1.flatten, decode prog_10_method_22_code q.1 = .ok q.2 := by
  refine grp 2 (fun g hg => ?_) (by decide +kernel)
  match g, hg with
  | 0, _ => exact dc_125_0
  | 1, _ => exact dc_125_1
  | g + 2, hg => exact absurd hg (by omega)
theorem dc_126 : ∀ q ∈ yMd_textOf.2.2.1.flatten, decode prog_10_method_34_code q.1 = .ok q.2 := by decide +kernel
theorem dc_127 : ∀ q ∈ yMd_thrown.2.2.1.flatten, decode prog_10_method_2_code q.1 = .ok q.2 := by decide +kernel
theorem dc_128 : ∀ q ∈ yMd_total.2.2.1.flatten, decode prog_10_method_47_code q.1 = .ok q.2 := by decide +kernel
theorem dc_129_0 : ∀ q ∈ ((yMd_walk.2.2.1.drop (8 * 0)).take 8).flatten, decode prog_10_method_35_code q.1 = .ok q.2 := by decide +kernel
theorem dc_129_1 : ∀ q ∈ ((yMd_walk.2.2.1.drop (8 * 1)).take 8).flatten, decode prog_10_method_35_code q.1 = .ok q.2 := by decide +kernel
theorem dc_129 : ∀ q ∈ yMd_walk.2.2.1.flatten, decode prog_10_method_35_code q.1 = .ok q.2 := by
  refine grp 2 (fun g hg => ?_) (by decide +kernel)
  match g, hg with
  | 0, _ => exact dc_129_0
  | 1, _ => exact dc_129_1
  | g + 2, hg => exact absurd hg (by omega)
theorem dc_130 : ∀ q ∈ yMd_within.2.2.1.flatten, decode prog_10_method_7_code q.1 = .ok q.2 := by decide +kernel
theorem dc_131_0 : ∀ q ∈ ((yMd_write.2.2.1.drop (8 * 0)).take 8).flatten, decode prog_10_method_27_code q.1 = .ok q.2 := by decide +kernel
theorem dc_131_1 : ∀ q ∈ ((yMd_write.2.2.1.drop (8 * 1)).take 8).flatten, decode prog_10_method_27_code q.1 = .ok q.2 := by decide +kernel
theorem dc_131_2 : ∀ q ∈ ((yMd_write.2.2.1.drop (8 * 2)).take 8).flatten, decode prog_10_method_27_code q.1 = .ok q.2 := by decide +kernel
theorem dc_131 : ∀ q ∈ yMd_write.2.2.1.flatten, decode prog_10_method_27_code q.1 = .ok q.2 := by
  refine grp 3 (fun g hg => ?_) (by decide +kernel)
  match g, hg with
  | 0, _ => exact dc_131_0
  | 1, _ => exact dc_131_1
  | 2, _ => exact dc_131_2
  | g + 3, hg => exact absurd hg (by omega)
theorem dc_132 : ∀ q ∈ yLw_alter.2.2.1.flatten, decode method_10_code q.1 = .ok q.2 := by decide +kernel
theorem dc_133 : ∀ q ∈ yLw_check.2.2.1.flatten, decode method_11_code q.1 = .ok q.2 := by decide +kernel
theorem dc_134 : ∀ q ∈ yLw_contents.2.2.1.flatten, decode method_6_code q.1 = .ok q.2 := by decide +kernel
theorem dc_135 : ∀ q ∈ yLw_fill.2.2.1.flatten, decode method_5_code q.1 = .ok q.2 := by decide +kernel
theorem dc_136_0 : ∀ q ∈ ((yLw_law.2.2.1.drop (8 * 0)).take 8).flatten, decode code q.1 = .ok q.2 := by decide +kernel
theorem dc_136_1 : ∀ q ∈ ((yLw_law.2.2.1.drop (8 * 1)).take 8).flatten, decode code q.1 = .ok q.2 := by decide +kernel
theorem dc_136_2 : ∀ q ∈ ((yLw_law.2.2.1.drop (8 * 2)).take 8).flatten, decode code q.1 = .ok q.2 := by decide +kernel
theorem dc_136_3 : ∀ q ∈ ((yLw_law.2.2.1.drop (8 * 3)).take 8).flatten, decode code q.1 = .ok q.2 := by decide +kernel
theorem dc_136_4 : ∀ q ∈ ((yLw_law.2.2.1.drop (8 * 4)).take 8).flatten, decode code q.1 = .ok q.2 := by decide +kernel
theorem dc_136_5 : ∀ q ∈ ((yLw_law.2.2.1.drop (8 * 5)).take 8).flatten, decode code q.1 = .ok q.2 := by decide +kernel
theorem dc_136_6 : ∀ q ∈ ((yLw_law.2.2.1.drop (8 * 6)).take 8).flatten, decode code q.1 = .ok q.2 := by decide +kernel
theorem dc_136_7 : ∀ q ∈ ((yLw_law.2.2.1.drop (8 * 7)).take 8).flatten, decode code q.1 = .ok q.2 := by decide +kernel
theorem dc_136_8 : ∀ q ∈ ((yLw_law.2.2.1.drop (8 * 8)).take 8).flatten, decode code q.1 = .ok q.2 := by decide +kernel
theorem dc_136 : ∀ q ∈ yLw_law.2.2.1.flatten, decode code q.1 = .ok q.2 := by
  refine grp 9 (fun g hg => ?_) (by decide +kernel)
  match g, hg with
  | 0, _ => exact dc_136_0
  | 1, _ => exact dc_136_1
  | 2, _ => exact dc_136_2
  | 3, _ => exact dc_136_3
  | 4, _ => exact dc_136_4
  | 5, _ => exact dc_136_5
  | 6, _ => exact dc_136_6
  | 7, _ => exact dc_136_7
  | 8, _ => exact dc_136_8
  | g + 9, hg => exact absurd hg (by omega)
theorem dc_137 : ∀ q ∈ yLw_make.2.2.1.flatten, decode method_3_code q.1 = .ok q.2 := by decide +kernel
theorem dc_138 : ∀ q ∈ yLw_node.2.2.1.flatten, decode method_13_code q.1 = .ok q.2 := by decide +kernel
theorem dc_139 : ∀ q ∈ yLw_part.2.2.1.flatten, decode method_14_code q.1 = .ok q.2 := by decide +kernel
theorem dc_140 : ∀ q ∈ yLw_remove.2.2.1.flatten, decode method_8_code q.1 = .ok q.2 := by decide +kernel
theorem dc_141 : ∀ q ∈ yLw_rename.2.2.1.flatten, decode method_4_code q.1 = .ok q.2 := by decide +kernel
theorem dc_142 : ∀ q ∈ yLw_set.2.2.1.flatten, decode method_7_code q.1 = .ok q.2 := by decide +kernel
theorem dc_143 : ∀ q ∈ yLw_size.2.2.1.flatten, decode method_12_code q.1 = .ok q.2 := by decide +kernel
theorem dc_144 : ∀ q ∈ yLw_total.2.2.1.flatten, decode method_15_code q.1 = .ok q.2 := by decide +kernel
theorem dc_145 : ∀ q ∈ yLw_write.2.2.1.flatten, decode method_9_code q.1 = .ok q.2 := by decide +kernel
theorem dc_146 : ∀ q ∈ yAr_copyOf.2.2.1.flatten, decode prog_21_method_121_code q.1 = .ok q.2 := by decide +kernel
def dcP (y : AY) : Prop := ∀ q ∈ y.2.2.1.flatten, decode (bt y) q.1 = .ok q.2
theorem dcq_0 : ∀ y ∈ [yNd_init, yNd_begin, yNd_contentsLength, yRd_init, yRd_addText, yRd_faultOfContents, yRd_faultOfEntry, yRd_isMarked, yRd_takeEntry, yRd_takeKind, yRd_takeNumbers, yRd_takePath, yRd_takeTarget, yRd_takeTree, yRw_init, yRw_addLetters, yRw_at, yRw_copySlice, yRw_isNameOfAnyLength, yRw_isSlice, yRw_isTarget], dcP y := List.forall_mem_cons.mpr ⟨dc_0, List.forall_mem_cons.mpr ⟨dc_1, List.forall_mem_cons.mpr ⟨dc_2, List.forall_mem_cons.mpr ⟨dc_3, List.forall_mem_cons.mpr ⟨dc_4, List.forall_mem_cons.mpr ⟨dc_5, List.forall_mem_cons.mpr ⟨dc_6, List.forall_mem_cons.mpr ⟨dc_7, List.forall_mem_cons.mpr ⟨dc_8, List.forall_mem_cons.mpr ⟨dc_9, List.forall_mem_cons.mpr ⟨dc_10, List.forall_mem_cons.mpr ⟨dc_11, List.forall_mem_cons.mpr ⟨dc_12, List.forall_mem_cons.mpr ⟨dc_13, List.forall_mem_cons.mpr ⟨dc_14, List.forall_mem_cons.mpr ⟨dc_15, List.forall_mem_cons.mpr ⟨dc_16, List.forall_mem_cons.mpr ⟨dc_17, List.forall_mem_cons.mpr ⟨dc_18, List.forall_mem_cons.mpr ⟨dc_19, List.forall_mem_cons.mpr ⟨dc_20, fun _ h => absurd h List.not_mem_nil⟩⟩⟩⟩⟩⟩⟩⟩⟩⟩⟩⟩⟩⟩⟩⟩⟩⟩⟩⟩⟩
theorem dcq_1 : ∀ y ∈ [yRw_lastSlash, yRw_order, yRw_put, yRw_putAll, yRw_resize, yTp_init, yTp_blocksOf, yTp_hasCheck, yTp_hasMark, yTp_isBlockOfZeros, yTp_isZeros, yTp_octal, yTp_putCheck, yTp_putMark, yTp_putOctal, yTp_sum, yTp_wholeBlocks, yTr_init, yTr_add, yTr_childNamed, yTr_clear], dcP y := List.forall_mem_cons.mpr ⟨dc_21, List.forall_mem_cons.mpr ⟨dc_22, List.forall_mem_cons.mpr ⟨dc_23, List.forall_mem_cons.mpr ⟨dc_24, List.forall_mem_cons.mpr ⟨dc_25, List.forall_mem_cons.mpr ⟨dc_26, List.forall_mem_cons.mpr ⟨dc_27, List.forall_mem_cons.mpr ⟨dc_28, List.forall_mem_cons.mpr ⟨dc_29, List.forall_mem_cons.mpr ⟨dc_30, List.forall_mem_cons.mpr ⟨dc_31, List.forall_mem_cons.mpr ⟨dc_32, List.forall_mem_cons.mpr ⟨dc_33, List.forall_mem_cons.mpr ⟨dc_34, List.forall_mem_cons.mpr ⟨dc_35, List.forall_mem_cons.mpr ⟨dc_36, List.forall_mem_cons.mpr ⟨dc_37, List.forall_mem_cons.mpr ⟨dc_38, List.forall_mem_cons.mpr ⟨dc_39, List.forall_mem_cons.mpr ⟨dc_40, List.forall_mem_cons.mpr ⟨dc_41, fun _ h => absurd h List.not_mem_nil⟩⟩⟩⟩⟩⟩⟩⟩⟩⟩⟩⟩⟩⟩⟩⟩⟩⟩⟩⟩⟩
theorem dcq_2 : ∀ y ∈ [yTr_closeGaps, yTr_comesBehind, yTr_drop, yTr_follower, yTr_has, yTr_isGone, yTr_isOfKind, yTr_longestPath, yTr_lookUp, yTr_newNumber, yTr_nextChild, yTr_pathLength, yTr_spellPath, yTt_kindOf, yTt_typeOf, yWr_init, yWr_blocksFor, yWr_cutOfPath, yWr_isTellable, yWr_putContents, yWr_putEntries], dcP y := List.forall_mem_cons.mpr ⟨dc_42, List.forall_mem_cons.mpr ⟨dc_43, List.forall_mem_cons.mpr ⟨dc_44, List.forall_mem_cons.mpr ⟨dc_45, List.forall_mem_cons.mpr ⟨dc_46, List.forall_mem_cons.mpr ⟨dc_47, List.forall_mem_cons.mpr ⟨dc_48, List.forall_mem_cons.mpr ⟨dc_49, List.forall_mem_cons.mpr ⟨dc_50, List.forall_mem_cons.mpr ⟨dc_51, List.forall_mem_cons.mpr ⟨dc_52, List.forall_mem_cons.mpr ⟨dc_53, List.forall_mem_cons.mpr ⟨dc_54, List.forall_mem_cons.mpr ⟨dc_55, List.forall_mem_cons.mpr ⟨dc_56, List.forall_mem_cons.mpr ⟨dc_57, List.forall_mem_cons.mpr ⟨dc_58, List.forall_mem_cons.mpr ⟨dc_59, List.forall_mem_cons.mpr ⟨dc_60, List.forall_mem_cons.mpr ⟨dc_61, List.forall_mem_cons.mpr ⟨dc_62, fun _ h => absurd h List.not_mem_nil⟩⟩⟩⟩⟩⟩⟩⟩⟩⟩⟩⟩⟩⟩⟩⟩⟩⟩⟩⟩⟩
theorem dcq_3 : ∀ y ∈ [yWr_putHeader, yWr_putPath, yWr_putTree, yTY_init, yTY_alter, yTY_check, yTY_contents, yTY_fill, yTY_hand, yTY_known, yTY_make, yTY_node, yTY_part, yTY_place, yTY_read, yTY_refuseName, yTY_remove, yTY_rename, yTY_set, yTY_size, yTY_total], dcP y := List.forall_mem_cons.mpr ⟨dc_63, List.forall_mem_cons.mpr ⟨dc_64, List.forall_mem_cons.mpr ⟨dc_65, List.forall_mem_cons.mpr ⟨dc_66, List.forall_mem_cons.mpr ⟨dc_67, List.forall_mem_cons.mpr ⟨dc_68, List.forall_mem_cons.mpr ⟨dc_69, List.forall_mem_cons.mpr ⟨dc_70, List.forall_mem_cons.mpr ⟨dc_71, List.forall_mem_cons.mpr ⟨dc_72, List.forall_mem_cons.mpr ⟨dc_73, List.forall_mem_cons.mpr ⟨dc_74, List.forall_mem_cons.mpr ⟨dc_75, List.forall_mem_cons.mpr ⟨dc_76, List.forall_mem_cons.mpr ⟨dc_77, List.forall_mem_cons.mpr ⟨dc_78, List.forall_mem_cons.mpr ⟨dc_79, List.forall_mem_cons.mpr ⟨dc_80, List.forall_mem_cons.mpr ⟨dc_81, List.forall_mem_cons.mpr ⟨dc_82, List.forall_mem_cons.mpr ⟨dc_83, fun _ h => absurd h List.not_mem_nil⟩⟩⟩⟩⟩⟩⟩⟩⟩⟩⟩⟩⟩⟩⟩⟩⟩⟩⟩⟩⟩
theorem dcq_4 : ∀ y ∈ [yTY_write, yMd_init, yMd_add, yMd_alter, yMd_arrange, yMd_blocksOf, yMd_check, yMd_clear, yMd_compare, yMd_contents, yMd_copyIn, yMd_count, yMd_cutOf, yMd_entry, yMd_fails, yMd_fill, yMd_find, yMd_firstFault, yMd_hand, yMd_head, yMd_isCalled], dcP y := List.forall_mem_cons.mpr ⟨dc_84, List.forall_mem_cons.mpr ⟨dc_85, List.forall_mem_cons.mpr ⟨dc_86, List.forall_mem_cons.mpr ⟨dc_87, List.forall_mem_cons.mpr ⟨dc_88, List.forall_mem_cons.mpr ⟨dc_89, List.forall_mem_cons.mpr ⟨dc_90, List.forall_mem_cons.mpr ⟨dc_91, List.forall_mem_cons.mpr ⟨dc_92, List.forall_mem_cons.mpr ⟨dc_93, List.forall_mem_cons.mpr ⟨dc_94, List.forall_mem_cons.mpr ⟨dc_95, List.forall_mem_cons.mpr ⟨dc_96, List.forall_mem_cons.mpr ⟨dc_97, List.forall_mem_cons.mpr ⟨dc_98, List.forall_mem_cons.mpr ⟨dc_99, List.forall_mem_cons.mpr ⟨dc_100, List.forall_mem_cons.mpr ⟨dc_101, List.forall_mem_cons.mpr ⟨dc_102, List.forall_mem_cons.mpr ⟨dc_103, List.forall_mem_cons.mpr ⟨dc_104, fun _ h => absurd h List.not_mem_nil⟩⟩⟩⟩⟩⟩⟩⟩⟩⟩⟩⟩⟩⟩⟩⟩⟩⟩⟩⟩⟩
theorem dcq_5 : ∀ y ∈ [yMd_isLetter, yMd_isName, yMd_isNode, yMd_isZero, yMd_make, yMd_markOf, yMd_move, yMd_next, yMd_node, yMd_number, yMd_octal, yMd_part, yMd_place, yMd_read, yMd_remove, yMd_rename, yMd_set, yMd_size, yMd_spell, yMd_sum, yMd_tell], dcP y := List.forall_mem_cons.mpr ⟨dc_105, List.forall_mem_cons.mpr ⟨dc_106, List.forall_mem_cons.mpr ⟨dc_107, List.forall_mem_cons.mpr ⟨dc_108, List.forall_mem_cons.mpr ⟨dc_109, List.forall_mem_cons.mpr ⟨dc_110, List.forall_mem_cons.mpr ⟨dc_111, List.forall_mem_cons.mpr ⟨dc_112, List.forall_mem_cons.mpr ⟨dc_113, List.forall_mem_cons.mpr ⟨dc_114, List.forall_mem_cons.mpr ⟨dc_115, List.forall_mem_cons.mpr ⟨dc_116, List.forall_mem_cons.mpr ⟨dc_117, List.forall_mem_cons.mpr ⟨dc_118, List.forall_mem_cons.mpr ⟨dc_119, List.forall_mem_cons.mpr ⟨dc_120, List.forall_mem_cons.mpr ⟨dc_121, List.forall_mem_cons.mpr ⟨dc_122, List.forall_mem_cons.mpr ⟨dc_123, List.forall_mem_cons.mpr ⟨dc_124, List.forall_mem_cons.mpr ⟨dc_125, fun _ h => absurd h List.not_mem_nil⟩⟩⟩⟩⟩⟩⟩⟩⟩⟩⟩⟩⟩⟩⟩⟩⟩⟩⟩⟩⟩
theorem dcq_6 : ∀ y ∈ [yMd_textOf, yMd_thrown, yMd_total, yMd_walk, yMd_within, yMd_write, yLw_alter, yLw_check, yLw_contents, yLw_fill, yLw_law, yLw_make, yLw_node, yLw_part, yLw_remove, yLw_rename, yLw_set, yLw_size, yLw_total, yLw_write, yAr_copyOf], dcP y := List.forall_mem_cons.mpr ⟨dc_126, List.forall_mem_cons.mpr ⟨dc_127, List.forall_mem_cons.mpr ⟨dc_128, List.forall_mem_cons.mpr ⟨dc_129, List.forall_mem_cons.mpr ⟨dc_130, List.forall_mem_cons.mpr ⟨dc_131, List.forall_mem_cons.mpr ⟨dc_132, List.forall_mem_cons.mpr ⟨dc_133, List.forall_mem_cons.mpr ⟨dc_134, List.forall_mem_cons.mpr ⟨dc_135, List.forall_mem_cons.mpr ⟨dc_136, List.forall_mem_cons.mpr ⟨dc_137, List.forall_mem_cons.mpr ⟨dc_138, List.forall_mem_cons.mpr ⟨dc_139, List.forall_mem_cons.mpr ⟨dc_140, List.forall_mem_cons.mpr ⟨dc_141, List.forall_mem_cons.mpr ⟨dc_142, List.forall_mem_cons.mpr ⟨dc_143, List.forall_mem_cons.mpr ⟨dc_144, List.forall_mem_cons.mpr ⟨dc_145, List.forall_mem_cons.mpr ⟨dc_146, fun _ h => absurd h List.not_mem_nil⟩⟩⟩⟩⟩⟩⟩⟩⟩⟩⟩⟩⟩⟩⟩⟩⟩⟩⟩⟩⟩
theorem dc_all : ∀ y ∈ allY, dcP y := by
  show ∀ y ∈ [yNd_init, yNd_begin, yNd_contentsLength, yRd_init, yRd_addText, yRd_faultOfContents, yRd_faultOfEntry, yRd_isMarked, yRd_takeEntry, yRd_takeKind, yRd_takeNumbers, yRd_takePath, yRd_takeTarget, yRd_takeTree, yRw_init, yRw_addLetters, yRw_at, yRw_copySlice, yRw_isNameOfAnyLength, yRw_isSlice, yRw_isTarget] ++ ([yRw_lastSlash, yRw_order, yRw_put, yRw_putAll, yRw_resize, yTp_init, yTp_blocksOf, yTp_hasCheck, yTp_hasMark, yTp_isBlockOfZeros, yTp_isZeros, yTp_octal, yTp_putCheck, yTp_putMark, yTp_putOctal, yTp_sum, yTp_wholeBlocks, yTr_init, yTr_add, yTr_childNamed, yTr_clear] ++ ([yTr_closeGaps, yTr_comesBehind, yTr_drop, yTr_follower, yTr_has, yTr_isGone, yTr_isOfKind, yTr_longestPath, yTr_lookUp, yTr_newNumber, yTr_nextChild, yTr_pathLength, yTr_spellPath, yTt_kindOf, yTt_typeOf, yWr_init, yWr_blocksFor, yWr_cutOfPath, yWr_isTellable, yWr_putContents, yWr_putEntries] ++ ([yWr_putHeader, yWr_putPath, yWr_putTree, yTY_init, yTY_alter, yTY_check, yTY_contents, yTY_fill, yTY_hand, yTY_known, yTY_make, yTY_node, yTY_part, yTY_place, yTY_read, yTY_refuseName, yTY_remove, yTY_rename, yTY_set, yTY_size, yTY_total] ++ ([yTY_write, yMd_init, yMd_add, yMd_alter, yMd_arrange, yMd_blocksOf, yMd_check, yMd_clear, yMd_compare, yMd_contents, yMd_copyIn, yMd_count, yMd_cutOf, yMd_entry, yMd_fails, yMd_fill, yMd_find, yMd_firstFault, yMd_hand, yMd_head, yMd_isCalled] ++ ([yMd_isLetter, yMd_isName, yMd_isNode, yMd_isZero, yMd_make, yMd_markOf, yMd_move, yMd_next, yMd_node, yMd_number, yMd_octal, yMd_part, yMd_place, yMd_read, yMd_remove, yMd_rename, yMd_set, yMd_size, yMd_spell, yMd_sum, yMd_tell] ++ ([yMd_textOf, yMd_thrown, yMd_total, yMd_walk, yMd_within, yMd_write, yLw_alter, yLw_check, yLw_contents, yLw_fill, yLw_law, yLw_make, yLw_node, yLw_part, yLw_remove, yLw_rename, yLw_set, yLw_size, yLw_total, yLw_write, yAr_copyOf])))))), dcP y
  exact List.forall_mem_append.mpr ⟨dcq_0, List.forall_mem_append.mpr ⟨dcq_1, List.forall_mem_append.mpr ⟨dcq_2, List.forall_mem_append.mpr ⟨dcq_3, List.forall_mem_append.mpr ⟨dcq_4, List.forall_mem_append.mpr ⟨dcq_5, dcq_6⟩⟩⟩⟩⟩⟩
