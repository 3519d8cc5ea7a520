/-! Facts of the tables, 4 (written by wip/gen/thr.py): the places where an exception is made; the methods that catch. -/
def exN (k : Nat) : String := match k with
  | 0 => "java/lang/IllegalArgumentException"
  | 1 => "java/lang/IllegalStateException"
  | _ => "java/lang/UnsupportedOperationException"
def exUp : List String := ["java/lang/RuntimeException", "java/lang/Exception"]
def exU1 : Jvm.Cond := .isRef (.static Bundle.tN "UNASSIGNED_STACK" Bundle.steD)
def exU2 : Jvm.Cond := .isRef (.static Bundle.tN "SUPPRESSED_SENTINEL" Bundle.listD)
def ownA (X : String) : List Jvm.Cond := Bundle.throwableAtoms ++ Bundle.throwableSAtoms ++ Bundle.chainSAtoms X exUp
def ownT (X : String) : List Jvm.Cond := ownA X ++ ((Bundle.ownAtoms "TarYard" 0 X exUp).drop (ownA X).length).tail
theorem exA0 : ∀ a ∈ ownT "java/lang/IllegalArgumentException", a = exU1 ∨ a = exU2 ∨ a ∈ lw_tbl := by decide +kernel
theorem exO0 : ∀ a ∈ ownT "java/lang/IllegalArgumentException", a.onTables = true ∨ a = exU1 ∨ a = exU2 ∨ a = .laysStatic Bundle.tN "UNASSIGNED_STACK" Bundle.steD ∨ a = .laysStatic Bundle.tN "SUPPRESSED_SENTINEL" Bundle.listD := by decide +kernel
theorem exI0 : lw_tbl[60]? = some (.initialized "java/lang/IllegalArgumentException") := by decide +kernel
theorem exA1 : ∀ a ∈ ownT "java/lang/IllegalStateException", a = exU1 ∨ a = exU2 ∨ a ∈ lw_tbl := by decide +kernel
theorem exO1 : ∀ a ∈ ownT "java/lang/IllegalStateException", a.onTables = true ∨ a = exU1 ∨ a = exU2 ∨ a = .laysStatic Bundle.tN "UNASSIGNED_STACK" Bundle.steD ∨ a = .laysStatic Bundle.tN "SUPPRESSED_SENTINEL" Bundle.listD := by decide +kernel
theorem exI1 : lw_tbl[64]? = some (.initialized "java/lang/IllegalStateException") := by decide +kernel
theorem exA2 : ∀ a ∈ ownT "java/lang/UnsupportedOperationException", a = exU1 ∨ a = exU2 ∨ a ∈ lw_tbl := by decide +kernel
theorem exO2 : ∀ a ∈ ownT "java/lang/UnsupportedOperationException", a.onTables = true ∨ a = exU1 ∨ a = exU2 ∨ a = .laysStatic Bundle.tN "UNASSIGNED_STACK" Bundle.steD ∨ a = .laysStatic Bundle.tN "SUPPRESSED_SENTINEL" Bundle.listD := by decide +kernel
theorem exI2 : lw_tbl[65]? = some (.initialized "java/lang/UnsupportedOperationException") := by decide +kernel
theorem ex_cls : ∀ y ∈ allY, y.1 < 67 ∨ 84 < y.1 ∨ (y.2.1 = 7 ∧ (mf y).1 ≠ 4) := by decide +kernel
def thP (id pc k : Nat) : Prop := 67 ≤ id ∧ id ≤ 84 ∧ k ≤ 2 ∧ ∃ (ia ib ic : Nat) (tx : String) (p1 p2 p3 : Nat), decode (btl.getD id ⟨#[]⟩) pc = .ok (.new ia, 3) ∧ decode (btl.getD id ⟨#[]⟩) (pc + 3) = .ok (.dup, 1) ∧ decode (btl.getD id ⟨#[]⟩) (pc + 4) = .ok (.ldc ib, 2) ∧ decode (btl.getD id ⟨#[]⟩) (pc + 6) = .ok (.invokespecial ic, 3) ∧ decode (btl.getD id ⟨#[]⟩) (pc + 9) = .ok (.athrow, 1) ∧ lw_tbl[p1]? = some (.classLink "TarYard" ia (exN k)) ∧ lw_tbl[p2]? = some (.stringRef "TarYard" ib tx) ∧ lw_tbl[p3]? = some (.methodLink "TarYard" ic (Bundle.initS (exN k)))
theorem th_67_28 : thP 67 28 0 := ⟨by decide, by decide, by decide, 53, 191, 57, "no such byte at hand, or no byte", 481, 776, 523, by decide +kernel, by decide +kernel, by decide +kernel, by decide +kernel, by decide +kernel, by decide +kernel, by decide +kernel, by decide +kernel⟩
theorem th_68_15 : thP 68 15 0 := ⟨by decide, by decide, by decide, 53, 197, 57, "there is no such whole block", 481, 785, 523, by decide +kernel, by decide +kernel, by decide +kernel, by decide +kernel, by decide +kernel, by decide +kernel, by decide +kernel, by decide +kernel⟩
theorem th_69_16 : thP 69 16 0 := ⟨by decide, by decide, by decide, 53, 136, 57, "only a file has contents", 481, 615, 523, by decide +kernel, by decide +kernel, by decide +kernel, by decide +kernel, by decide +kernel, by decide +kernel, by decide +kernel, by decide +kernel⟩
theorem th_69_48 : thP 69 48 0 := ⟨by decide, by decide, by decide, 53, 138, 57, "a length is 0 to 2000, a seed 0 to 255", 481, 616, 523, by decide +kernel, by decide +kernel, by decide +kernel, by decide +kernel, by decide +kernel, by decide +kernel, by decide +kernel, by decide +kernel⟩
theorem th_70_25 : thP 70 25 0 := ⟨by decide, by decide, by decide, 53, 121, 57, "neither a file nor a symbolic link", 481, 603, 523, by decide +kernel, by decide +kernel, by decide +kernel, by decide +kernel, by decide +kernel, by decide +kernel, by decide +kernel, by decide +kernel⟩
theorem th_70_47 : thP 70 47 0 := ⟨by decide, by decide, by decide, 53, 123, 57, "0 to 8 bytes are added", 481, 604, 523, by decide +kernel, by decide +kernel, by decide +kernel, by decide +kernel, by decide +kernel, by decide +kernel, by decide +kernel, by decide +kernel⟩
theorem th_70_94 : thP 70 94 0 := ⟨by decide, by decide, by decide, 53, 129, 57, "a target has characters 33 to 126", 481, 606, 523, by decide +kernel, by decide +kernel, by decide +kernel, by decide +kernel, by decide +kernel, by decide +kernel, by decide +kernel, by decide +kernel⟩
theorem th_70_135 : thP 70 135 1 := ⟨by decide, by decide, by decide, 84, 134, 88, "it would be too long", 562, 607, 572, by decide +kernel, by decide +kernel, by decide +kernel, by decide +kernel, by decide +kernel, by decide +kernel, by decide +kernel, by decide +kernel⟩
theorem th_72_11 : thP 72 11 0 := ⟨by decide, by decide, by decide, 53, 216, 57, "there is no such node", 481, 591, 523, by decide +kernel, by decide +kernel, by decide +kernel, by decide +kernel, by decide +kernel, by decide +kernel, by decide +kernel, by decide +kernel⟩
theorem th_73_9 : thP 73 9 0 := ⟨by decide, by decide, by decide, 53, 55, 57, "there is no such kind", 481, 522, 523, by decide +kernel, by decide +kernel, by decide +kernel, by decide +kernel, by decide +kernel, by decide +kernel, by decide +kernel, by decide +kernel⟩
theorem th_73_31 : thP 73 31 0 := ⟨by decide, by decide, by decide, 53, 64, 57, "a node lies in a directory", 481, 549, 523, by decide +kernel, by decide +kernel, by decide +kernel, by decide +kernel, by decide +kernel, by decide +kernel, by decide +kernel, by decide +kernel⟩
theorem th_73_54 : thP 73 54 0 := ⟨by decide, by decide, by decide, 53, 66, 57, "a name is made with 1 to 8 characters", 481, 550, 523, by decide +kernel, by decide +kernel, by decide +kernel, by decide +kernel, by decide +kernel, by decide +kernel, by decide +kernel, by decide +kernel⟩
theorem th_73_105 : thP 73 105 0 := ⟨by decide, by decide, by decide, 53, 79, 57, "a hard link stands for a file", 481, 561, 523, by decide +kernel, by decide +kernel, by decide +kernel, by decide +kernel, by decide +kernel, by decide +kernel, by decide +kernel, by decide +kernel⟩
theorem th_73_127 : thP 73 127 1 := ⟨by decide, by decide, by decide, 84, 86, 88, "there are 30 nodes", 562, 571, 572, by decide +kernel, by decide +kernel, by decide +kernel, by decide +kernel, by decide +kernel, by decide +kernel, by decide +kernel, by decide +kernel⟩
theorem th_74_98 : thP 74 98 0 := ⟨by decide, by decide, by decide, 53, 207, 57, "a node tells 0 to 7", 481, 802, 523, by decide +kernel, by decide +kernel, by decide +kernel, by decide +kernel, by decide +kernel, by decide +kernel, by decide +kernel, by decide +kernel⟩
theorem th_75_16 : thP 75 16 0 := ⟨by decide, by decide, by decide, 53, 209, 57, "a node has parts 0 and 1", 481, 810, 523, by decide +kernel, by decide +kernel, by decide +kernel, by decide +kernel, by decide +kernel, by decide +kernel, by decide +kernel, by decide +kernel⟩
theorem th_78_18 : thP 78 18 0 := ⟨by decide, by decide, by decide, 53, 225, 57, "that is no name", 481, 558, 523, by decide +kernel, by decide +kernel, by decide +kernel, by decide +kernel, by decide +kernel, by decide +kernel, by decide +kernel, by decide +kernel⟩
theorem th_78_52 : thP 78 52 0 := ⟨by decide, by decide, by decide, 53, 231, 57, "that name is there", 481, 560, 523, by decide +kernel, by decide +kernel, by decide +kernel, by decide +kernel, by decide +kernel, by decide +kernel, by decide +kernel, by decide +kernel⟩
theorem th_79_15 : thP 79 15 0 := ⟨by decide, by decide, by decide, 53, 160, 57, "no such node, or the root", 481, 634, 523, by decide +kernel, by decide +kernel, by decide +kernel, by decide +kernel, by decide +kernel, by decide +kernel, by decide +kernel, by decide +kernel⟩
theorem th_80_11 : thP 80 11 0 := ⟨by decide, by decide, by decide, 53, 97, 57, "the root has no name", 481, 592, 523, by decide +kernel, by decide +kernel, by decide +kernel, by decide +kernel, by decide +kernel, by decide +kernel, by decide +kernel, by decide +kernel⟩
theorem th_80_34 : thP 80 34 0 := ⟨by decide, by decide, by decide, 53, 99, 57, "a name gets 1 to 8 characters more", 481, 593, 523, by decide +kernel, by decide +kernel, by decide +kernel, by decide +kernel, by decide +kernel, by decide +kernel, by decide +kernel, by decide +kernel⟩
theorem th_80_96 : thP 80 96 1 := ⟨by decide, by decide, by decide, 84, 116, 88, "a name has at most 100 characters", 562, 595, 572, by decide +kernel, by decide +kernel, by decide +kernel, by decide +kernel, by decide +kernel, by decide +kernel, by decide +kernel, by decide +kernel⟩
theorem th_81_33 : thP 81 33 0 := ⟨by decide, by decide, by decide, 53, 145, 57, "no such mode, owner or time", 481, 626, 523, by decide +kernel, by decide +kernel, by decide +kernel, by decide +kernel, by decide +kernel, by decide +kernel, by decide +kernel, by decide +kernel⟩
theorem th_82_11 : thP 82 11 0 := ⟨by decide, by decide, by decide, 53, 202, 57, "0 to 10240 bytes are at hand", 481, 794, 523, by decide +kernel, by decide +kernel, by decide +kernel, by decide +kernel, by decide +kernel, by decide +kernel, by decide +kernel, by decide +kernel⟩
theorem th_83_55 : thP 83 55 0 := ⟨by decide, by decide, by decide, 53, 214, 57, "there are totals 0 to 2", 481, 823, 523, by decide +kernel, by decide +kernel, by decide +kernel, by decide +kernel, by decide +kernel, by decide +kernel, by decide +kernel, by decide +kernel⟩
theorem th_84_17 : thP 84 17 2 := ⟨by decide, by decide, by decide, 170, 172, 174, "a path or the whole tree is too long", 695, 704, 705, by decide +kernel, by decide +kernel, by decide +kernel, by decide +kernel, by decide +kernel, by decide +kernel, by decide +kernel, by decide +kernel⟩
theorem tX_all : ∀ e ∈ tXl, thP (e.1 / 1000) (e.1 % 1000) e.2 := List.forall_mem_cons.mpr ⟨th_67_28, List.forall_mem_cons.mpr ⟨th_68_15, List.forall_mem_cons.mpr ⟨th_69_16, List.forall_mem_cons.mpr ⟨th_69_48, List.forall_mem_cons.mpr ⟨th_70_25, List.forall_mem_cons.mpr ⟨th_70_47, List.forall_mem_cons.mpr ⟨th_70_94, List.forall_mem_cons.mpr ⟨th_70_135, List.forall_mem_cons.mpr ⟨th_72_11, List.forall_mem_cons.mpr ⟨th_73_9, List.forall_mem_cons.mpr ⟨th_73_31, List.forall_mem_cons.mpr ⟨th_73_54, List.forall_mem_cons.mpr ⟨th_73_105, List.forall_mem_cons.mpr ⟨th_73_127, List.forall_mem_cons.mpr ⟨th_74_98, List.forall_mem_cons.mpr ⟨th_75_16, List.forall_mem_cons.mpr ⟨th_78_18, List.forall_mem_cons.mpr ⟨th_78_52, List.forall_mem_cons.mpr ⟨th_79_15, List.forall_mem_cons.mpr ⟨th_80_11, List.forall_mem_cons.mpr ⟨th_80_34, List.forall_mem_cons.mpr ⟨th_80_96, List.forall_mem_cons.mpr ⟨th_81_33, List.forall_mem_cons.mpr ⟨th_82_11, List.forall_mem_cons.mpr ⟨th_83_55, List.forall_mem_cons.mpr ⟨th_84_17, fun _ h => absurd h List.not_mem_nil⟩⟩⟩⟩⟩⟩⟩⟩⟩⟩⟩⟩⟩⟩⟩⟩⟩⟩⟩⟩⟩⟩⟩⟩⟩⟩
theorem tX_ok {id pc k : Nat} (h : tX id pc = some k) : thP id pc k := by
  unfold tX at h
  split at h
  · rename_i hp
    have h1 := tX_all _ (lookup_mem h)
    have e1 : (1000 * id + pc) / 1000 = id := by omega
    have e2 : (1000 * id + pc) % 1000 = pc := by omega
    simp only [e1, e2] at h1
    exact h1
  · cases h
def hk (ct : Nat) : Nat := match ct with
  | 13 => 0
  | 15 => 1
  | _ => 2
def hdT : List (Nat × List (Nat × Nat × Nat × Nat)) := [(132, [(0, 10, 13, 13)]), (133, [(0, 9, 12, 13)]), (134, [(0, 7, 10, 13)]), (135, [(0, 13, 16, 13), (0, 13, 20, 15)]), (137, [(0, 16, 19, 13), (0, 16, 23, 15)]), (138, [(0, 10, 13, 13)]), (139, [(0, 12, 15, 13)]), (140, [(0, 9, 12, 13)]), (141, [(0, 13, 16, 13), (0, 13, 20, 15)]), (142, [(0, 9, 12, 13)]), (143, [(0, 5, 8, 13)]), (144, [(0, 9, 12, 13)]), (145, [(0, 8, 11, 40)])]
def hdl (i : Nat) : List (Nat × Nat × Nat × Nat) := (hdT.lookup i).getD []
def isInv (i : Jvm.ClassFile.Instr) : Bool := match i with
  | .invokevirtual _ => true
  | .invokespecial _ => true
  | .invokestatic _ => true
  | _ => false
theorem hkL_13 : lw_tbl[475]? = some (.classLink "TarYardLaw" 13 (exN (hk 13))) := by decide +kernel
theorem hkL_15 : lw_tbl[476]? = some (.classLink "TarYardLaw" 15 (exN (hk 15))) := by decide +kernel
theorem hkL_40 : lw_tbl[655]? = some (.classLink "TarYardLaw" 40 (exN (hk 40))) := by decide +kernel
def hwP (y : AY) : Prop := ((mf y).1 = 4 → y.2.1 = 9 ∧ lw_tbl[(mf y).2.1]? = some (.codeWith (nm y) (bt y) y.2.2.2.1 y.2.2.2.2.1 (hdl y.1)) ∧ (∀ q ∈ hdl y.1, q.1 = 0 ∧ (q.2.2.2 = 13 ∨ q.2.2.2 = 15 ∨ q.2.2.2 = 40)) ∧ (∀ q ∈ y.2.2.1.flatten, isInv q.2.1 = true → ∀ z ∈ hdl y.1, q.1 < z.2.1) ∧ ∀ k, k < 3 → tH y.1 k = ((hdl y.1).find? (fun q => hk q.2.2.2 == k)).map (fun q => q.2.2.1)) ∧ ((mf y).1 ≠ 4 → ∀ k, k < 3 → tH y.1 k = none)
theorem hw_0 : hwP yNd_init := ⟨fun h => absurd h (by decide), fun _ => by decide⟩
theorem hw_1 : hwP yNd_begin := ⟨fun h => absurd h (by decide), fun _ => by decide⟩
theorem hw_2 : hwP yNd_contentsLength := ⟨fun h => absurd h (by decide), fun _ => by decide⟩
theorem hw_3 : hwP yRd_init := ⟨fun h => absurd h (by decide), fun _ => by decide⟩
theorem hw_4 : hwP yRd_addText := ⟨fun h => absurd h (by decide), fun _ => by decide⟩
theorem hw_5 : hwP yRd_faultOfContents := ⟨fun h => absurd h (by decide), fun _ => by decide⟩
theorem hw_6 : hwP yRd_faultOfEntry := ⟨fun h => absurd h (by decide), fun _ => by decide⟩
theorem hw_7 : hwP yRd_isMarked := ⟨fun h => absurd h (by decide), fun _ => by decide⟩
theorem hw_8 : hwP yRd_takeEntry := ⟨fun h => absurd h (by decide), fun _ => by decide⟩
theorem hw_9 : hwP yRd_takeKind := ⟨fun h => absurd h (by decide), fun _ => by decide⟩
theorem hw_10 : hwP yRd_takeNumbers := ⟨fun h => absurd h (by decide), fun _ => by decide⟩
theorem hw_11 : hwP yRd_takePath := ⟨fun h => absurd h (by decide), fun _ => by decide⟩
theorem hw_12 : hwP yRd_takeTarget := ⟨fun h => absurd h (by decide), fun _ => by decide⟩
theorem hw_13 : hwP yRd_takeTree := ⟨fun h => absurd h (by decide), fun _ => by decide⟩
theorem hw_14 : hwP yRw_init := ⟨fun h => absurd h (by decide), fun _ => by decide⟩
theorem hw_15 : hwP yRw_addLetters := ⟨fun h => absurd h (by decide), fun _ => by decide⟩
theorem hw_16 : hwP yRw_at := ⟨fun h => absurd h (by decide), fun _ => by decide⟩
theorem hw_17 : hwP yRw_copySlice := ⟨fun h => absurd h (by decide), fun _ => by decide⟩
theorem hw_18 : hwP yRw_isNameOfAnyLength := ⟨fun h => absurd h (by decide), fun _ => by decide⟩
theorem hw_19 : hwP yRw_isSlice := ⟨fun h => absurd h (by decide), fun _ => by decide⟩
theorem hw_20 : hwP yRw_isTarget := ⟨fun h => absurd h (by decide), fun _ => by decide⟩
theorem hw_21 : hwP yRw_lastSlash := ⟨fun h => absurd h (by decide), fun _ => by decide⟩
theorem hw_22 : hwP yRw_order := ⟨fun h => absurd h (by decide), fun _ => by decide⟩
theorem hw_23 : hwP yRw_put := ⟨fun h => absurd h (by decide), fun _ => by decide⟩
theorem hw_24 : hwP yRw_putAll := ⟨fun h => absurd h (by decide), fun _ => by decide⟩
theorem hw_25 : hwP yRw_resize := ⟨fun h => absurd h (by decide), fun _ => by decide⟩
theorem hw_26 : hwP yTp_init := ⟨fun h => absurd h (by decide), fun _ => by decide⟩
theorem hw_27 : hwP yTp_blocksOf := ⟨fun h => absurd h (by decide), fun _ => by decide⟩
theorem hw_28 : hwP yTp_hasCheck := ⟨fun h => absurd h (by decide), fun _ => by decide⟩
theorem hw_29 : hwP yTp_hasMark := ⟨fun h => absurd h (by decide), fun _ => by decide⟩
theorem hw_30 : hwP yTp_isBlockOfZeros := ⟨fun h => absurd h (by decide), fun _ => by decide⟩
theorem hw_31 : hwP yTp_isZeros := ⟨fun h => absurd h (by decide), fun _ => by decide⟩
theorem hw_32 : hwP yTp_octal := ⟨fun h => absurd h (by decide), fun _ => by decide⟩
theorem hw_33 : hwP yTp_putCheck := ⟨fun h => absurd h (by decide), fun _ => by decide⟩
theorem hw_34 : hwP yTp_putMark := ⟨fun h => absurd h (by decide), fun _ => by decide⟩
theorem hw_35 : hwP yTp_putOctal := ⟨fun h => absurd h (by decide), fun _ => by decide⟩
theorem hw_36 : hwP yTp_sum := ⟨fun h => absurd h (by decide), fun _ => by decide⟩
theorem hw_37 : hwP yTp_wholeBlocks := ⟨fun h => absurd h (by decide), fun _ => by decide⟩
theorem hw_38 : hwP yTr_init := ⟨fun h => absurd h (by decide), fun _ => by decide⟩
theorem hw_39 : hwP yTr_add := ⟨fun h => absurd h (by decide), fun _ => by decide⟩
theorem hw_40 : hwP yTr_childNamed := ⟨fun h => absurd h (by decide), fun _ => by decide⟩
theorem hw_41 : hwP yTr_clear := ⟨fun h => absurd h (by decide), fun _ => by decide⟩
theorem hw_42 : hwP yTr_closeGaps := ⟨fun h => absurd h (by decide), fun _ => by decide⟩
theorem hw_43 : hwP yTr_comesBehind := ⟨fun h => absurd h (by decide), fun _ => by decide⟩
theorem hw_44 : hwP yTr_drop := ⟨fun h => absurd h (by decide), fun _ => by decide⟩
theorem hw_45 : hwP yTr_follower := ⟨fun h => absurd h (by decide), fun _ => by decide⟩
theorem hw_46 : hwP yTr_has := ⟨fun h => absurd h (by decide), fun _ => by decide⟩
theorem hw_47 : hwP yTr_isGone := ⟨fun h => absurd h (by decide), fun _ => by decide⟩
theorem hw_48 : hwP yTr_isOfKind := ⟨fun h => absurd h (by decide), fun _ => by decide⟩
theorem hw_49 : hwP yTr_longestPath := ⟨fun h => absurd h (by decide), fun _ => by decide⟩
theorem hw_50 : hwP yTr_lookUp := ⟨fun h => absurd h (by decide), fun _ => by decide⟩
theorem hw_51 : hwP yTr_newNumber := ⟨fun h => absurd h (by decide), fun _ => by decide⟩
theorem hw_52 : hwP yTr_nextChild := ⟨fun h => absurd h (by decide), fun _ => by decide⟩
theorem hw_53 : hwP yTr_pathLength := ⟨fun h => absurd h (by decide), fun _ => by decide⟩
theorem hw_54 : hwP yTr_spellPath := ⟨fun h => absurd h (by decide), fun _ => by decide⟩
theorem hw_55 : hwP yTt_kindOf := ⟨fun h => absurd h (by decide), fun _ => by decide⟩
theorem hw_56 : hwP yTt_typeOf := ⟨fun h => absurd h (by decide), fun _ => by decide⟩
theorem hw_57 : hwP yWr_init := ⟨fun h => absurd h (by decide), fun _ => by decide⟩
theorem hw_58 : hwP yWr_blocksFor := ⟨fun h => absurd h (by decide), fun _ => by decide⟩
theorem hw_59 : hwP yWr_cutOfPath := ⟨fun h => absurd h (by decide), fun _ => by decide⟩
theorem hw_60 : hwP yWr_isTellable := ⟨fun h => absurd h (by decide), fun _ => by decide⟩
theorem hw_61 : hwP yWr_putContents := ⟨fun h => absurd h (by decide), fun _ => by decide⟩
theorem hw_62 : hwP yWr_putEntries := ⟨fun h => absurd h (by decide), fun _ => by decide⟩
theorem hw_63 : hwP yWr_putHeader := ⟨fun h => absurd h (by decide), fun _ => by decide⟩
theorem hw_64 : hwP yWr_putPath := ⟨fun h => absurd h (by decide), fun _ => by decide⟩
theorem hw_65 : hwP yWr_putTree := ⟨fun h => absurd h (by decide), fun _ => by decide⟩
theorem hw_66 : hwP yTY_init := ⟨fun h => absurd h (by decide), fun _ => by decide⟩
theorem hw_67 : hwP yTY_alter := ⟨fun h => absurd h (by decide), fun _ => by decide⟩
theorem hw_68 : hwP yTY_check := ⟨fun h => absurd h (by decide), fun _ => by decide⟩
theorem hw_69 : hwP yTY_contents := ⟨fun h => absurd h (by decide), fun _ => by decide⟩
theorem hw_70 : hwP yTY_fill := ⟨fun h => absurd h (by decide), fun _ => by decide⟩
theorem hw_71 : hwP yTY_hand := ⟨fun h => absurd h (by decide), fun _ => by decide⟩
theorem hw_72 : hwP yTY_known := ⟨fun h => absurd h (by decide), fun _ => by decide⟩
theorem hw_73 : hwP yTY_make := ⟨fun h => absurd h (by decide), fun _ => by decide⟩
theorem hw_74 : hwP yTY_node := ⟨fun h => absurd h (by decide), fun _ => by decide⟩
theorem hw_75 : hwP yTY_part := ⟨fun h => absurd h (by decide), fun _ => by decide⟩
theorem hw_76 : hwP yTY_place := ⟨fun h => absurd h (by decide), fun _ => by decide⟩
theorem hw_77 : hwP yTY_read := ⟨fun h => absurd h (by decide), fun _ => by decide⟩
theorem hw_78 : hwP yTY_refuseName := ⟨fun h => absurd h (by decide), fun _ => by decide⟩
theorem hw_79 : hwP yTY_remove := ⟨fun h => absurd h (by decide), fun _ => by decide⟩
theorem hw_80 : hwP yTY_rename := ⟨fun h => absurd h (by decide), fun _ => by decide⟩
theorem hw_81 : hwP yTY_set := ⟨fun h => absurd h (by decide), fun _ => by decide⟩
theorem hw_82 : hwP yTY_size := ⟨fun h => absurd h (by decide), fun _ => by decide⟩
theorem hw_83 : hwP yTY_total := ⟨fun h => absurd h (by decide), fun _ => by decide⟩
theorem hw_84 : hwP yTY_write := ⟨fun h => absurd h (by decide), fun _ => by decide⟩
theorem hw_85 : hwP yMd_init := ⟨fun h => absurd h (by decide), fun _ => by decide⟩
theorem hw_86 : hwP yMd_add := ⟨fun h => absurd h (by decide), fun _ => by decide⟩
theorem hw_87 : hwP yMd_alter := ⟨fun h => absurd h (by decide), fun _ => by decide⟩
theorem hw_88 : hwP yMd_arrange := ⟨fun h => absurd h (by decide), fun _ => by decide⟩
theorem hw_89 : hwP yMd_blocksOf := ⟨fun h => absurd h (by decide), fun _ => by decide⟩
theorem hw_90 : hwP yMd_check := ⟨fun h => absurd h (by decide), fun _ => by decide⟩
theorem hw_91 : hwP yMd_clear := ⟨fun h => absurd h (by decide), fun _ => by decide⟩
theorem hw_92 : hwP yMd_compare := ⟨fun h => absurd h (by decide), fun _ => by decide⟩
theorem hw_93 : hwP yMd_contents := ⟨fun h => absurd h (by decide), fun _ => by decide⟩
theorem hw_94 : hwP yMd_copyIn := ⟨fun h => absurd h (by decide), fun _ => by decide⟩
theorem hw_95 : hwP yMd_count := ⟨fun h => absurd h (by decide), fun _ => by decide⟩
theorem hw_96 : hwP yMd_cutOf := ⟨fun h => absurd h (by decide), fun _ => by decide⟩
theorem hw_97 : hwP yMd_entry := ⟨fun h => absurd h (by decide), fun _ => by decide⟩
theorem hw_98 : hwP yMd_fails := ⟨fun h => absurd h (by decide), fun _ => by decide⟩
theorem hw_99 : hwP yMd_fill := ⟨fun h => absurd h (by decide), fun _ => by decide⟩
theorem hw_100 : hwP yMd_find := ⟨fun h => absurd h (by decide), fun _ => by decide⟩
theorem hw_101 : hwP yMd_firstFault := ⟨fun h => absurd h (by decide), fun _ => by decide⟩
theorem hw_102 : hwP yMd_hand := ⟨fun h => absurd h (by decide), fun _ => by decide⟩
theorem hw_103 : hwP yMd_head := ⟨fun h => absurd h (by decide), fun _ => by decide⟩
theorem hw_104 : hwP yMd_isCalled := ⟨fun h => absurd h (by decide), fun _ => by decide⟩
theorem hw_105 : hwP yMd_isLetter := ⟨fun h => absurd h (by decide), fun _ => by decide⟩
theorem hw_106 : hwP yMd_isName := ⟨fun h => absurd h (by decide), fun _ => by decide⟩
theorem hw_107 : hwP yMd_isNode := ⟨fun h => absurd h (by decide), fun _ => by decide⟩
theorem hw_108 : hwP yMd_isZero := ⟨fun h => absurd h (by decide), fun _ => by decide⟩
theorem hw_109 : hwP yMd_make := ⟨fun h => absurd h (by decide), fun _ => by decide⟩
theorem hw_110 : hwP yMd_markOf := ⟨fun h => absurd h (by decide), fun _ => by decide⟩
theorem hw_111 : hwP yMd_move := ⟨fun h => absurd h (by decide), fun _ => by decide⟩
theorem hw_112 : hwP yMd_next := ⟨fun h => absurd h (by decide), fun _ => by decide⟩
theorem hw_113 : hwP yMd_node := ⟨fun h => absurd h (by decide), fun _ => by decide⟩
theorem hw_114 : hwP yMd_number := ⟨fun h => absurd h (by decide), fun _ => by decide⟩
theorem hw_115 : hwP yMd_octal := ⟨fun h => absurd h (by decide), fun _ => by decide⟩
theorem hw_116 : hwP yMd_part := ⟨fun h => absurd h (by decide), fun _ => by decide⟩
theorem hw_117 : hwP yMd_place := ⟨fun h => absurd h (by decide), fun _ => by decide⟩
theorem hw_118 : hwP yMd_read := ⟨fun h => absurd h (by decide), fun _ => by decide⟩
theorem hw_119 : hwP yMd_remove := ⟨fun h => absurd h (by decide), fun _ => by decide⟩
theorem hw_120 : hwP yMd_rename := ⟨fun h => absurd h (by decide), fun _ => by decide⟩
theorem hw_121 : hwP yMd_set := ⟨fun h => absurd h (by decide), fun _ => by decide⟩
theorem hw_122 : hwP yMd_size := ⟨fun h => absurd h (by decide), fun _ => by decide⟩
theorem hw_123 : hwP yMd_spell := ⟨fun h => absurd h (by decide), fun _ => by decide⟩
theorem hw_124 : hwP yMd_sum := ⟨fun h => absurd h (by decide), fun _ => by decide⟩
theorem hw_125 : hwP yMd_tell := ⟨fun h => absurd h (by decide), fun _ => by decide⟩
theorem hw_126 : hwP yMd_textOf := ⟨fun h => absurd h (by decide), fun _ => by decide⟩
theorem hw_127 : hwP yMd_thrown := ⟨fun h => absurd h (by decide), fun _ => by decide⟩
theorem hw_128 : hwP yMd_total := ⟨fun h => absurd h (by decide), fun _ => by decide⟩
theorem hw_129 : hwP yMd_walk := ⟨fun h => absurd h (by decide), fun _ => by decide⟩
theorem hw_130 : hwP yMd_within := ⟨fun h => absurd h (by decide), fun _ => by decide⟩
theorem hw_131 : hwP yMd_write := ⟨fun h => absurd h (by decide), fun _ => by decide⟩
theorem hw_132 : hwP yLw_alter := ⟨fun _ => ⟨rfl, by decide +kernel, by decide +kernel, by decide +kernel, by decide +kernel⟩, fun h => absurd (by decide) h⟩
theorem hw_133 : hwP yLw_check := ⟨fun _ => ⟨rfl, by decide +kernel, by decide +kernel, by decide +kernel, by decide +kernel⟩, fun h => absurd (by decide) h⟩
theorem hw_134 : hwP yLw_contents := ⟨fun _ => ⟨rfl, by decide +kernel, by decide +kernel, by decide +kernel, by decide +kernel⟩, fun h => absurd (by decide) h⟩
theorem hw_135 : hwP yLw_fill := ⟨fun _ => ⟨rfl, by decide +kernel, by decide +kernel, by decide +kernel, by decide +kernel⟩, fun h => absurd (by decide) h⟩
theorem hw_136 : hwP yLw_law := ⟨fun h => absurd h (by decide), fun _ => by decide⟩
theorem hw_137 : hwP yLw_make := ⟨fun _ => ⟨rfl, by decide +kernel, by decide +kernel, by decide +kernel, by decide +kernel⟩, fun h => absurd (by decide) h⟩
theorem hw_138 : hwP yLw_node := ⟨fun _ => ⟨rfl, by decide +kernel, by decide +kernel, by decide +kernel, by decide +kernel⟩, fun h => absurd (by decide) h⟩
theorem hw_139 : hwP yLw_part := ⟨fun _ => ⟨rfl, by decide +kernel, by decide +kernel, by decide +kernel, by decide +kernel⟩, fun h => absurd (by decide) h⟩
theorem hw_140 : hwP yLw_remove := ⟨fun _ => ⟨rfl, by decide +kernel, by decide +kernel, by decide +kernel, by decide +kernel⟩, fun h => absurd (by decide) h⟩
theorem hw_141 : hwP yLw_rename := ⟨fun _ => ⟨rfl, by decide +kernel, by decide +kernel, by decide +kernel, by decide +kernel⟩, fun h => absurd (by decide) h⟩
theorem hw_142 : hwP yLw_set := ⟨fun _ => ⟨rfl, by decide +kernel, by decide +kernel, by decide +kernel, by decide +kernel⟩, fun h => absurd (by decide) h⟩
theorem hw_143 : hwP yLw_size := ⟨fun _ => ⟨rfl, by decide +kernel, by decide +kernel, by decide +kernel, by decide +kernel⟩, fun h => absurd (by decide) h⟩
theorem hw_144 : hwP yLw_total := ⟨fun _ => ⟨rfl, by decide +kernel, by decide +kernel, by decide +kernel, by decide +kernel⟩, fun h => absurd (by decide) h⟩
theorem hw_145 : hwP yLw_write := ⟨fun _ => ⟨rfl, by decide +kernel, by decide +kernel, by decide +kernel, by decide +kernel⟩, fun h => absurd (by decide) h⟩
theorem hw_146 : hwP yAr_copyOf := ⟨fun h => absurd h (by decide), fun _ => by decide⟩
theorem hwq_0 : ∀ y ∈ [yNd_init, yNd_begin, yNd_contentsLength, yRd_init, yRd_addText, yRd_faultOfContents, yRd_faultOfEntry, yRd_isMarked, yRd_takeEntry, yRd_takeKind, yRd_takeNumbers, yRd_takePath, yRd_takeTarget, yRd_takeTree, yRw_init, yRw_addLetters, yRw_at, yRw_copySlice, yRw_isNameOfAnyLength, yRw_isSlice, yRw_isTarget], hwP y := List.forall_mem_cons.mpr ⟨hw_0, List.forall_mem_cons.mpr ⟨hw_1, List.forall_mem_cons.mpr ⟨hw_2, List.forall_mem_cons.mpr ⟨hw_3, List.forall_mem_cons.mpr ⟨hw_4, List.forall_mem_cons.mpr ⟨hw_5, List.forall_mem_cons.mpr ⟨hw_6, List.forall_mem_cons.mpr ⟨hw_7, List.forall_mem_cons.mpr ⟨hw_8, List.forall_mem_cons.mpr ⟨hw_9, List.forall_mem_cons.mpr ⟨hw_10, List.forall_mem_cons.mpr ⟨hw_11, List.forall_mem_cons.mpr ⟨hw_12, List.forall_mem_cons.mpr ⟨hw_13, List.forall_mem_cons.mpr ⟨hw_14, List.forall_mem_cons.mpr ⟨hw_15, List.forall_mem_cons.mpr ⟨hw_16, List.forall_mem_cons.mpr ⟨hw_17, List.forall_mem_cons.mpr ⟨hw_18, List.forall_mem_cons.mpr ⟨hw_19, List.forall_mem_cons.mpr ⟨hw_20, fun _ h => absurd h List.not_mem_nil⟩⟩⟩⟩⟩⟩⟩⟩⟩⟩⟩⟩⟩⟩⟩⟩⟩⟩⟩⟩⟩
theorem hwq_1 : ∀ y ∈ [yRw_lastSlash, yRw_order, yRw_put, yRw_putAll, yRw_resize, yTp_init, yTp_blocksOf, yTp_hasCheck, yTp_hasMark, yTp_isBlockOfZeros, yTp_isZeros, yTp_octal, yTp_putCheck, yTp_putMark, yTp_putOctal, yTp_sum, yTp_wholeBlocks, yTr_init, yTr_add, yTr_childNamed, yTr_clear], hwP y := List.forall_mem_cons.mpr ⟨hw_21, List.forall_mem_cons.mpr ⟨hw_22, List.forall_mem_cons.mpr ⟨hw_23, List.forall_mem_cons.mpr ⟨hw_24, List.forall_mem_cons.mpr ⟨hw_25, List.forall_mem_cons.mpr ⟨hw_26, List.forall_mem_cons.mpr ⟨hw_27, List.forall_mem_cons.mpr ⟨hw_28, List.forall_mem_cons.mpr ⟨hw_29, List.forall_mem_cons.mpr ⟨hw_30, List.forall_mem_cons.mpr ⟨hw_31, List.forall_mem_cons.mpr ⟨hw_32, List.forall_mem_cons.mpr ⟨hw_33, List.forall_mem_cons.mpr ⟨hw_34, List.forall_mem_cons.mpr ⟨hw_35, List.forall_mem_cons.mpr ⟨hw_36, List.forall_mem_cons.mpr ⟨hw_37, List.forall_mem_cons.mpr ⟨hw_38, List.forall_mem_cons.mpr ⟨hw_39, List.forall_mem_cons.mpr ⟨hw_40, List.forall_mem_cons.mpr ⟨hw_41, fun _ h => absurd h List.not_mem_nil⟩⟩⟩⟩⟩⟩⟩⟩⟩⟩⟩⟩⟩⟩⟩⟩⟩⟩⟩⟩⟩
theorem hwq_2 : ∀ y ∈ [yTr_closeGaps, yTr_comesBehind, yTr_drop, yTr_follower, yTr_has, yTr_isGone, yTr_isOfKind, yTr_longestPath, yTr_lookUp, yTr_newNumber, yTr_nextChild, yTr_pathLength, yTr_spellPath, yTt_kindOf, yTt_typeOf, yWr_init, yWr_blocksFor, yWr_cutOfPath, yWr_isTellable, yWr_putContents, yWr_putEntries], hwP y := List.forall_mem_cons.mpr ⟨hw_42, List.forall_mem_cons.mpr ⟨hw_43, List.forall_mem_cons.mpr ⟨hw_44, List.forall_mem_cons.mpr ⟨hw_45, List.forall_mem_cons.mpr ⟨hw_46, List.forall_mem_cons.mpr ⟨hw_47, List.forall_mem_cons.mpr ⟨hw_48, List.forall_mem_cons.mpr ⟨hw_49, List.forall_mem_cons.mpr ⟨hw_50, List.forall_mem_cons.mpr ⟨hw_51, List.forall_mem_cons.mpr ⟨hw_52, List.forall_mem_cons.mpr ⟨hw_53, List.forall_mem_cons.mpr ⟨hw_54, List.forall_mem_cons.mpr ⟨hw_55, List.forall_mem_cons.mpr ⟨hw_56, List.forall_mem_cons.mpr ⟨hw_57, List.forall_mem_cons.mpr ⟨hw_58, List.forall_mem_cons.mpr ⟨hw_59, List.forall_mem_cons.mpr ⟨hw_60, List.forall_mem_cons.mpr ⟨hw_61, List.forall_mem_cons.mpr ⟨hw_62, fun _ h => absurd h List.not_mem_nil⟩⟩⟩⟩⟩⟩⟩⟩⟩⟩⟩⟩⟩⟩⟩⟩⟩⟩⟩⟩⟩
theorem hwq_3 : ∀ y ∈ [yWr_putHeader, yWr_putPath, yWr_putTree, yTY_init, yTY_alter, yTY_check, yTY_contents, yTY_fill, yTY_hand, yTY_known, yTY_make, yTY_node, yTY_part, yTY_place, yTY_read, yTY_refuseName, yTY_remove, yTY_rename, yTY_set, yTY_size, yTY_total], hwP y := List.forall_mem_cons.mpr ⟨hw_63, List.forall_mem_cons.mpr ⟨hw_64, List.forall_mem_cons.mpr ⟨hw_65, List.forall_mem_cons.mpr ⟨hw_66, List.forall_mem_cons.mpr ⟨hw_67, List.forall_mem_cons.mpr ⟨hw_68, List.forall_mem_cons.mpr ⟨hw_69, List.forall_mem_cons.mpr ⟨hw_70, List.forall_mem_cons.mpr ⟨hw_71, List.forall_mem_cons.mpr ⟨hw_72, List.forall_mem_cons.mpr ⟨hw_73, List.forall_mem_cons.mpr ⟨hw_74, List.forall_mem_cons.mpr ⟨hw_75, List.forall_mem_cons.mpr ⟨hw_76, List.forall_mem_cons.mpr ⟨hw_77, List.forall_mem_cons.mpr ⟨hw_78, List.forall_mem_cons.mpr ⟨hw_79, List.forall_mem_cons.mpr ⟨hw_80, List.forall_mem_cons.mpr ⟨hw_81, List.forall_mem_cons.mpr ⟨hw_82, List.forall_mem_cons.mpr ⟨hw_83, fun _ h => absurd h List.not_mem_nil⟩⟩⟩⟩⟩⟩⟩⟩⟩⟩⟩⟩⟩⟩⟩⟩⟩⟩⟩⟩⟩
theorem hwq_4 : ∀ y ∈ [yTY_write, yMd_init, yMd_add, yMd_alter, yMd_arrange, yMd_blocksOf, yMd_check, yMd_clear, yMd_compare, yMd_contents, yMd_copyIn, yMd_count, yMd_cutOf, yMd_entry, yMd_fails, yMd_fill, yMd_find, yMd_firstFault, yMd_hand, yMd_head, yMd_isCalled], hwP y := List.forall_mem_cons.mpr ⟨hw_84, List.forall_mem_cons.mpr ⟨hw_85, List.forall_mem_cons.mpr ⟨hw_86, List.forall_mem_cons.mpr ⟨hw_87, List.forall_mem_cons.mpr ⟨hw_88, List.forall_mem_cons.mpr ⟨hw_89, List.forall_mem_cons.mpr ⟨hw_90, List.forall_mem_cons.mpr ⟨hw_91, List.forall_mem_cons.mpr ⟨hw_92, List.forall_mem_cons.mpr ⟨hw_93, List.forall_mem_cons.mpr ⟨hw_94, List.forall_mem_cons.mpr ⟨hw_95, List.forall_mem_cons.mpr ⟨hw_96, List.forall_mem_cons.mpr ⟨hw_97, List.forall_mem_cons.mpr ⟨hw_98, List.forall_mem_cons.mpr ⟨hw_99, List.forall_mem_cons.mpr ⟨hw_100, List.forall_mem_cons.mpr ⟨hw_101, List.forall_mem_cons.mpr ⟨hw_102, List.forall_mem_cons.mpr ⟨hw_103, List.forall_mem_cons.mpr ⟨hw_104, fun _ h => absurd h List.not_mem_nil⟩⟩⟩⟩⟩⟩⟩⟩⟩⟩⟩⟩⟩⟩⟩⟩⟩⟩⟩⟩⟩
theorem hwq_5 : ∀ y ∈ [yMd_isLetter, yMd_isName, yMd_isNode, yMd_isZero, yMd_make, yMd_markOf, yMd_move, yMd_next, yMd_node, yMd_number, yMd_octal, yMd_part, yMd_place, yMd_read, yMd_remove, yMd_rename, yMd_set, yMd_size, yMd_spell, yMd_sum, yMd_tell], hwP y := List.forall_mem_cons.mpr ⟨hw_105, List.forall_mem_cons.mpr ⟨hw_106, List.forall_mem_cons.mpr ⟨hw_107, List.forall_mem_cons.mpr ⟨hw_108, List.forall_mem_cons.mpr ⟨hw_109, List.forall_mem_cons.mpr ⟨hw_110, List.forall_mem_cons.mpr ⟨hw_111, List.forall_mem_cons.mpr ⟨hw_112, List.forall_mem_cons.mpr ⟨hw_113, List.forall_mem_cons.mpr ⟨hw_114, List.forall_mem_cons.mpr ⟨hw_115, List.forall_mem_cons.mpr ⟨hw_116, List.forall_mem_cons.mpr ⟨hw_117, List.forall_mem_cons.mpr ⟨hw_118, List.forall_mem_cons.mpr ⟨hw_119, List.forall_mem_cons.mpr ⟨hw_120, List.forall_mem_cons.mpr ⟨hw_121, List.forall_mem_cons.mpr ⟨hw_122, List.forall_mem_cons.mpr ⟨hw_123, List.forall_mem_cons.mpr ⟨hw_124, List.forall_mem_cons.mpr ⟨hw_125, fun _ h => absurd h List.not_mem_nil⟩⟩⟩⟩⟩⟩⟩⟩⟩⟩⟩⟩⟩⟩⟩⟩⟩⟩⟩⟩⟩
theorem hwq_6 : ∀ y ∈ [yMd_textOf, yMd_thrown, yMd_total, yMd_walk, yMd_within, yMd_write, yLw_alter, yLw_check, yLw_contents, yLw_fill, yLw_law, yLw_make, yLw_node, yLw_part, yLw_remove, yLw_rename, yLw_set, yLw_size, yLw_total, yLw_write, yAr_copyOf], hwP y := List.forall_mem_cons.mpr ⟨hw_126, List.forall_mem_cons.mpr ⟨hw_127, List.forall_mem_cons.mpr ⟨hw_128, List.forall_mem_cons.mpr ⟨hw_129, List.forall_mem_cons.mpr ⟨hw_130, List.forall_mem_cons.mpr ⟨hw_131, List.forall_mem_cons.mpr ⟨hw_132, List.forall_mem_cons.mpr ⟨hw_133, List.forall_mem_cons.mpr ⟨hw_134, List.forall_mem_cons.mpr ⟨hw_135, List.forall_mem_cons.mpr ⟨hw_136, List.forall_mem_cons.mpr ⟨hw_137, List.forall_mem_cons.mpr ⟨hw_138, List.forall_mem_cons.mpr ⟨hw_139, List.forall_mem_cons.mpr ⟨hw_140, List.forall_mem_cons.mpr ⟨hw_141, List.forall_mem_cons.mpr ⟨hw_142, List.forall_mem_cons.mpr ⟨hw_143, List.forall_mem_cons.mpr ⟨hw_144, List.forall_mem_cons.mpr ⟨hw_145, List.forall_mem_cons.mpr ⟨hw_146, fun _ h => absurd h List.not_mem_nil⟩⟩⟩⟩⟩⟩⟩⟩⟩⟩⟩⟩⟩⟩⟩⟩⟩⟩⟩⟩⟩
theorem hw_all : ∀ y ∈ allY, hwP y := by
  show ∀ y ∈ [yNd_init, yNd_begin, yNd_contentsLength, yRd_init, yRd_addText, yRd_faultOfContents, yRd_faultOfEntry, yRd_isMarked, yRd_takeEntry, yRd_takeKind, yRd_takeNumbers, yRd_takePath, yRd_takeTarget, yRd_takeTree, yRw_init, yRw_addLetters, yRw_at, yRw_copySlice, yRw_isNameOfAnyLength, yRw_isSlice, yRw_isTarget] ++ ([yRw_lastSlash, yRw_order, yRw_put, yRw_putAll, yRw_resize, yTp_init, yTp_blocksOf, yTp_hasCheck, yTp_hasMark, yTp_isBlockOfZeros, yTp_isZeros, yTp_octal, yTp_putCheck, yTp_putMark, yTp_putOctal, yTp_sum, yTp_wholeBlocks, yTr_init, yTr_add, yTr_childNamed, yTr_clear] ++ ([yTr_closeGaps, yTr_comesBehind, yTr_drop, yTr_follower, yTr_has, yTr_isGone, yTr_isOfKind, yTr_longestPath, yTr_lookUp, yTr_newNumber, yTr_nextChild, yTr_pathLength, yTr_spellPath, yTt_kindOf, yTt_typeOf, yWr_init, yWr_blocksFor, yWr_cutOfPath, yWr_isTellable, yWr_putContents, yWr_putEntries] ++ ([yWr_putHeader, yWr_putPath, yWr_putTree, yTY_init, yTY_alter, yTY_check, yTY_contents, yTY_fill, yTY_hand, yTY_known, yTY_make, yTY_node, yTY_part, yTY_place, yTY_read, yTY_refuseName, yTY_remove, yTY_rename, yTY_set, yTY_size, yTY_total] ++ ([yTY_write, yMd_init, yMd_add, yMd_alter, yMd_arrange, yMd_blocksOf, yMd_check, yMd_clear, yMd_compare, yMd_contents, yMd_copyIn, yMd_count, yMd_cutOf, yMd_entry, yMd_fails, yMd_fill, yMd_find, yMd_firstFault, yMd_hand, yMd_head, yMd_isCalled] ++ ([yMd_isLetter, yMd_isName, yMd_isNode, yMd_isZero, yMd_make, yMd_markOf, yMd_move, yMd_next, yMd_node, yMd_number, yMd_octal, yMd_part, yMd_place, yMd_read, yMd_remove, yMd_rename, yMd_set, yMd_size, yMd_spell, yMd_sum, yMd_tell] ++ ([yMd_textOf, yMd_thrown, yMd_total, yMd_walk, yMd_within, yMd_write, yLw_alter, yLw_check, yLw_contents, yLw_fill, yLw_law, yLw_make, yLw_node, yLw_part, yLw_remove, yLw_rename, yLw_set, yLw_size, yLw_total, yLw_write, yAr_copyOf])))))), hwP y
  exact List.forall_mem_append.mpr ⟨hwq_0, List.forall_mem_append.mpr ⟨hwq_1, List.forall_mem_append.mpr ⟨hwq_2, List.forall_mem_append.mpr ⟨hwq_3, List.forall_mem_append.mpr ⟨hwq_4, List.forall_mem_append.mpr ⟨hwq_5, hwq_6⟩⟩⟩⟩⟩⟩
