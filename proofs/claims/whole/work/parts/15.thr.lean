/-! Facts of the tables, 4 (written by wip/gen/thr.py): the places where an exception is made; the methods that catch. -/
def exN (k : Nat) : String := match k with
  | 0 => "java/lang/IllegalArgumentException"
  | 1 => "java/lang/IllegalStateException"
  | _ => "java/lang/UnsupportedOperationException"
def exUp : List String := ["java/lang/RuntimeException", "java/lang/Exception"]
def exU1 : Jvm.Cond := .isRef (.static Bundle.tN "UNASSIGNED_STACK" Bundle.steD)
def exU2 : Jvm.Cond := .isRef (.static Bundle.tN "SUPPRESSED_SENTINEL" Bundle.listD)
def ownA (X : String) : List Jvm.Cond := Bundle.throwableAtoms ++ Bundle.throwableSAtoms ++ Bundle.chainSAtoms X exUp
def ownT (X : String) : List Jvm.Cond := ownA X ++ ((Bundle.ownAtoms "TarYard" 0 X exUp).drop (ownA X).length).tail
theorem exA0 : ∀ a ∈ ownT "java/lang/IllegalArgumentException", a = exU1 ∨ a = exU2 ∨ a ∈ lw_tbl := by decide +kernel
theorem exO0 : ∀ a ∈ ownT "java/lang/IllegalArgumentException", a.onTables = true ∨ a = exU1 ∨ a = exU2 ∨ a = .laysStatic Bundle.tN "UNASSIGNED_STACK" Bundle.steD ∨ a = .laysStatic Bundle.tN "SUPPRESSED_SENTINEL" Bundle.listD := by decide +kernel
theorem exI0 : lw_tbl[60]? = some (.initialized "java/lang/IllegalArgumentException") := by decide +kernel
theorem exA1 : ∀ a ∈ ownT "java/lang/IllegalStateException", a = exU1 ∨ a = exU2 ∨ a ∈ lw_tbl := by decide +kernel
theorem exO1 : ∀ a ∈ ownT "java/lang/IllegalStateException", a.onTables = true ∨ a = exU1 ∨ a = exU2 ∨ a = .laysStatic Bundle.tN "UNASSIGNED_STACK" Bundle.steD ∨ a = .laysStatic Bundle.tN "SUPPRESSED_SENTINEL" Bundle.listD := by decide +kernel
theorem exI1 : lw_tbl[64]? = some (.initialized "java/lang/IllegalStateException") := by decide +kernel
theorem exA2 : ∀ a ∈ ownT "java/lang/UnsupportedOperationException", a = exU1 ∨ a = exU2 ∨ a ∈ lw_tbl := by decide +kernel
theorem exO2 : ∀ a ∈ ownT "java/lang/UnsupportedOperationException", a.onTables = true ∨ a = exU1 ∨ a = exU2 ∨ a = .laysStatic Bundle.tN "UNASSIGNED_STACK" Bundle.steD ∨ a = .laysStatic Bundle.tN "SUPPRESSED_SENTINEL" Bundle.listD := by decide +kernel
theorem exI2 : lw_tbl[65]? = some (.initialized "java/lang/UnsupportedOperationException") := by decide +kernel
theorem ex_cls : ∀ y ∈ allY, y.1 < 67 ∨ 84 < y.1 ∨ (y.2.1 = 7 ∧ (mf y).1 ≠ 4) := by decide +kernel
def thP (id pc k : Nat) : Prop := 67 ≤ id ∧ id ≤ 84 ∧ k ≤ 2 ∧ ∃ (ia ib ic : Nat) (tx : String) (p1 p2 p3 : Nat), decode (btl.getD id ⟨#[]⟩) pc = .ok (.new ia, 3) ∧ decode (btl.getD id ⟨#[]⟩) (pc + 3) = .ok (.dup, 1) ∧ decode (btl.getD id ⟨#[]⟩) (pc + 4) = .ok (.ldc ib, 2) ∧ decode (btl.getD id ⟨#[]⟩) (pc + 6) = .ok (.invokespecial ic, 3) ∧ decode (btl.getD id ⟨#[]⟩) (pc + 9) = .ok (.athrow, 1) ∧ lw_tbl[p1]? = some (.classLink "TarYard" ia (exN k)) ∧ lw_tbl[p2]? = some (.stringRef "TarYard" ib tx) ∧ lw_tbl[p3]? = some (.methodLink "TarYard" ic (Bundle.initS (exN k)))
theorem th_67_28 : thP 67 28 0 := ⟨by decide, by decide, by decide, 53, 191, 57, "no such byte at hand, or no byte", 481, 776, 523, by decide +kernel, by decide +kernel, by decide +kernel, by decide +kernel, by decide +kernel, by decide +kernel, by decide +kernel, by decide +kernel⟩
theorem th_68_15 : thP 68 15 0 := ⟨by decide, by decide, by decide, 53, 197, 57, "there is no such whole block", 481, 785, 523, by decide +kernel, by decide +kernel, by decide +kernel, by decide +kernel, by decide +kernel, by decide +kernel, by decide +kernel, by decide +kernel⟩
theorem th_69_16 : thP 69 16 0 := ⟨by decide, by decide, by decide, 53, 136, 57, "only a file has contents", 481, 615, 523, by decide +kernel, by decide +kernel, by decide +kernel, by decide +kernel, by decide +kernel, by decide +kernel, by decide +kernel, by decide +kernel⟩
theorem th_69_48 : thP 69 48 0 := ⟨by decide, by decide, by decide, 53, 138, 57, "a length is 0 to 2000, a seed 0 to 255", 481, 616, 523, by decide +kernel, by decide +kernel, by decide +kernel, by decide +kernel, by decide +kernel, by decide +kernel, by decide +kernel, by decide +kernel⟩
theorem th_70_25 : thP 70 25 0 := ⟨by decide, by decide, by decide, 53, 121, 57, "neither a file nor a symbolic link", 481, 603, 523, by decide +kernel, by decide +kernel, by decide +kernel, by decide +kernel, by decide +kernel, by decide +kernel, by decide +kernel, by decide +kernel⟩
theorem th_70_47 : thP 70 47 0 := ⟨by decide, by decide, by decide, 53, 123, 57, "0 to 8 bytes are added", 481, 604, 523, by decide +kernel, by decide +kernel, by decide +kernel, by decide +kernel, by decide +kernel, by decide +kernel, by decide +kernel, by decide +kernel⟩
theorem th_70_94 : thP 70 94 0 := ⟨by decide, by decide, by decide, 53, 129, 57, "a target has characters 33 to 126", 481, 606, 523, by decide +kernel, by decide +kernel, by decide +kernel, by decide +kernel, by decide +kernel, by decide +kernel, by decide +kernel, by decide +kernel⟩
theorem th_70_135 : thP 70 135 1 := ⟨by decide, by decide, by decide, 84, 134, 88, "it would be too long", 562, 607, 572, by decide +kernel, by decide +kernel, by decide +kernel, by decide +kernel, by decide +kernel, by decide +kernel, by decide +kernel, by decide +kernel⟩
theorem th_72_11 : thP 72 11 0 := ⟨by decide, by decide, by decide, 53, 216, 57, "there is no such node", 481, 591, 523, by decide +kernel, by decide +kernel, by decide +kernel, by decide +kernel, by decide +kernel, by decide +kernel, by decide +kernel, by decide +kernel⟩
theorem th_73_9 : thP 73 9 0 := ⟨by decide, by decide, by decide, 53, 55, 57, "there is no such kind", 481, 522, 523, by decide +kernel, by decide +kernel, by decide +kernel, by decide +kernel, by decide +kernel, by decide +kernel, by decide +kernel, by decide +kernel⟩
theorem th_73_31 : thP 73 31 0 := ⟨by decide, by decide, by decide, 53, 64, 57, "a node lies in a directory", 481, 549, 523, by decide +kernel, by decide +kernel, by decide +kernel, by decide +kernel, by decide +kernel, by decide +kernel, by decide +kernel, by decide +kernel⟩
theorem th_73_54 : thP 73 54 0 := ⟨by decide, by decide, by decide, 53, 66, 57, "a name is made with 1 to 8 characters", 481, 550, 523, by decide +kernel, by decide +kernel, by decide +kernel, by decide +kernel, by decide +kernel, by decide +kernel, by decide +kernel, by decide +kernel⟩
theorem th_73_105 : thP 73 105 0 := ⟨by decide, by decide, by decide, 53, 79, 57, "a hard link stands for a file", 481, 561, 523, by decide +kernel, by decide +kernel, by decide +kernel, by decide +kernel, by decide +kernel, by decide +kernel, by decide +kernel, by decide +kernel⟩
theorem th_73_127 : thP 73 127 1 := ⟨by decide, by decide, by decide, 84, 86, 88, "there are 30 nodes", 562, 571, 572, by decide +kernel, by decide +kernel, by decide +kernel, by decide +kernel, by decide +kernel, by decide +kernel, by decide +kernel, by decide +kernel⟩
theorem th_74_98 : thP 74 98 0 := ⟨by decide, by decide, by decide, 53, 207, 57, "a node tells 0 to 7", 481, 802, 523, by decide +kernel, by decide +kernel, by decide +kernel, by decide +kernel, by decide +kernel, by decide +kernel, by decide +kernel, by decide +kernel⟩
theorem th_75_16 : thP 75 16 0 := ⟨by decide, by decide, by decide, 53, 209, 57, "a node has parts 0 and 1", 481, 810, 523, by decide +kernel, by decide +kernel, by decide +kernel, by decide +kernel, by decide +kernel, by decide +kernel, by decide +kernel, by decide +kernel⟩
theorem th_78_18 : thP 78 18 0 := ⟨by decide, by decide, by decide, 53, 225, 57, "that is no name", 481, 558, 523, by decide +kernel, by decide +kernel, by decide +kernel, by decide +kernel, by decide +kernel, by decide +kernel, by decide +kernel, by decide +kernel⟩
theorem th_78_52 : thP 78 52 0 := ⟨by decide, by decide, by decide, 53, 231, 57, "that name is there", 481, 560, 523, by decide +kernel, by decide +kernel, by decide +kernel, by decide +kernel, by decide +kernel, by decide +kernel, by decide +kernel, by decide +kernel⟩
theorem th_79_15 : thP 79 15 0 := ⟨by decide, by decide, by decide, 53, 160, 57, "no such node, or the root", 481, 634, 523, by decide +kernel, by decide +kernel, by decide +kernel, by decide +kernel, by decide +kernel, by decide +kernel, by decide +kernel, by decide +kernel⟩
theorem th_80_11 : thP 80 11 0 := ⟨by decide, by decide, by decide, 53, 97, 57, "the root has no name", 481, 592, 523, by decide +kernel, by decide +kernel, by decide +kernel, by decide +kernel, by decide +kernel, by decide +kernel, by decide +kernel, by decide +kernel⟩
theorem th_80_34 : thP 80 34 0 := ⟨by decide, by decide, by decide, 53, 99, 57, "a name gets 1 to 8 characters more", 481, 593, 523, by decide +kernel, by decide +kernel, by decide +kernel, by decide +kernel, by decide +kernel, by decide +kernel, by decide +kernel, by decide +kernel⟩
theorem th_80_96 : thP 80 96 1 := ⟨by decide, by decide, by decide, 84, 116, 88, "a name has at most 100 characters", 562, 595, 572, by decide +kernel, by decide +kernel, by decide +kernel, by decide +kernel, by decide +kernel, by decide +kernel, by decide +kernel, by decide +kernel⟩
theorem th_81_33 : thP 81 33 0 := ⟨by decide, by decide, by decide, 53, 145, 57, "no such mode, owner or time", 481, 626, 523, by decide +kernel, by decide +kernel, by decide +kernel, by decide +kernel, by decide +kernel, by decide +kernel, by decide +kernel, by decide +kernel⟩
theorem th_82_11 : thP 82 11 0 := ⟨by decide, by decide, by decide, 53, 202, 57, "0 to 10240 bytes are at hand", 481, 794, 523, by decide +kernel, by decide +kernel, by decide +kernel, by decide +kernel, by decide +kernel, by decide +kernel, by decide +kernel, by decide +kernel⟩
theorem th_83_55 : thP 83 55 0 := ⟨by decide, by decide, by decide, 53, 214, 57, "there are totals 0 to 2", 481, 823, 523, by decide +kernel, by decide +kernel, by decide +kernel, by decide +kernel, by decide +kernel, by decide +kernel, by decide +kernel, by decide +kernel⟩
theorem th_84_17 : thP 84 17 2 := ⟨by decide, by decide, by decide, 170, 172, 174, "a path or the whole tree is too long", 695, 704, 705, by decide +kernel, by decide +kernel, by decide +kernel, by decide +kernel, by decide +kernel, by decide +kernel, by decide +kernel, by decide +kernel⟩
theorem tX_all : ∀ e ∈ tXl, thP (e.1 / 1000) (e.1 % 1000) e.2 := List.forall_mem_cons.mpr ⟨th_67_28, List.forall_mem_cons.mpr ⟨th_68_15, List.forall_mem_cons.mpr ⟨th_69_16, List.forall_mem_cons.mpr ⟨th_69_48, List.forall_mem_cons.mpr ⟨th_70_25, List.forall_mem_cons.mpr ⟨th_70_47, List.forall_mem_cons.mpr ⟨th_70_94, List.forall_mem_cons.mpr ⟨th_70_135, List.forall_mem_cons.mpr ⟨th_72_11, List.forall_mem_cons.mpr ⟨th_73_9, List.forall_mem_cons.mpr ⟨th_73_31, List.forall_mem_cons.mpr ⟨th_73_54, List.forall_mem_cons.mpr ⟨th_73_105, List.forall_mem_cons.mpr ⟨th_73_127, List.forall_mem_cons.mpr ⟨th_74_98, List.forall_mem_cons.mpr ⟨th_75_16, List.forall_mem_cons.mpr ⟨th_78_18, List.forall_mem_cons.mpr ⟨th_78_52, List.forall_mem_cons.mpr ⟨th_79_15, List.forall_mem_cons.mpr ⟨th_80_11, List.forall_mem_cons.mpr ⟨th_80_34, List.forall_mem_cons.mpr ⟨th_80_96, List.forall_mem_cons.mpr ⟨th_81_33, List.forall_mem_cons.mpr ⟨th_82_11, List.forall_mem_cons.mpr ⟨th_83_55, List.forall_mem_cons.mpr ⟨th_84_17, fun _ h => absurd h List.not_mem_nil⟩⟩⟩⟩⟩⟩⟩⟩⟩⟩⟩⟩⟩⟩⟩⟩⟩⟩⟩⟩⟩⟩⟩⟩⟩⟩
theorem tX_ok {id pc k : Nat} (h : tX id pc = some k) : thP id pc k := by
  unfold tX at h
  split at h
  · rename_i hp
    have h1 := tX_all _ (lookup_mem h)
    have e1 : (1000 * id + pc) / 1000 = id := by omega
    have e2 : (1000 * id + pc) % 1000 = pc := by omega
    simp only [e1, e2] at h1
    exact h1
  · cases h
