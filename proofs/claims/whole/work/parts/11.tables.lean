/-! The program, for the interpreter: written by wip/whole/gen_tables.py out of the claim's own files. -/
section XkTables
def xp_exn (k : Nat) : String := match k with
  | 0 => "java/lang/IllegalStateException"
  | 1 => "java/lang/IllegalArgumentException"
  | 2 => "java/lang/UnsupportedOperationException"
  | 3 => "java/util/NoSuchElementException"
  | _ => "java/lang/IndexOutOfBoundsException"
def xp_nc : List Cond := [.not (.castable "java/lang/IllegalArgumentException" "java/lang/IllegalStateException"), .not (.castable "java/lang/UnsupportedOperationException" "java/lang/IllegalStateException"), .not (.castable "java/util/NoSuchElementException" "java/lang/IllegalStateException"), .not (.castable "java/lang/IndexOutOfBoundsException" "java/lang/IllegalStateException"), .not (.castable "java/lang/IllegalStateException" "java/lang/IllegalArgumentException"), .not (.castable "java/lang/UnsupportedOperationException" "java/lang/IllegalArgumentException"), .not (.castable "java/util/NoSuchElementException" "java/lang/IllegalArgumentException"), .not (.castable "java/lang/IndexOutOfBoundsException" "java/lang/IllegalArgumentException"), .not (.castable "java/lang/IllegalStateException" "java/lang/UnsupportedOperationException"), .not (.castable "java/lang/IllegalArgumentException" "java/lang/UnsupportedOperationException"), .not (.castable "java/util/NoSuchElementException" "java/lang/UnsupportedOperationException"), .not (.castable "java/lang/IndexOutOfBoundsException" "java/lang/UnsupportedOperationException"), .not (.castable "java/lang/IllegalStateException" "java/util/NoSuchElementException"), .not (.castable "java/lang/IllegalArgumentException" "java/util/NoSuchElementException"), .not (.castable "java/lang/UnsupportedOperationException" "java/util/NoSuchElementException"), .not (.castable "java/lang/IndexOutOfBoundsException" "java/util/NoSuchElementException"), .not (.castable "java/lang/IllegalStateException" "java/lang/IndexOutOfBoundsException"), .not (.castable "java/lang/IllegalArgumentException" "java/lang/IndexOutOfBoundsException"), .not (.castable "java/lang/UnsupportedOperationException" "java/lang/IndexOutOfBoundsException"), .not (.castable "java/util/NoSuchElementException" "java/lang/IndexOutOfBoundsException")]
def xp_BW : List Cond := lw_tbl.filter goodWord
def xp_NW : List Cond := tables_1.filter (fun q => !goodWord q && xk_nest q) ++ xp_nc
def xp_SW : List (String × Nat × String) := [("ExtentShelf", 281, "the power is off"), ("ExtentShelf", 286, "there is no such disk"), ("ExtentShelf", 50, "a disk has 2 to 8 extents"), ("ExtentShelf", 64, "the disk is listed or absent"), ("ExtentShelf", 293, "a listed disk is absent"), ("ExtentShelf", 301, "the power went off"), ("ExtentShelf", 288, "the disk is not listed"), ("ExtentShelf", 96, "the disk is in use"), ("ExtentShelf", 102, "it is the only disk"), ("ExtentShelf", 114, "the disk is present, or no other one is"), ("ExtentShelf", 126, "there is no such volume"), ("ExtentShelf", 131, "there are four volumes"), ("ExtentShelf", 360, "there is no room"), ("ExtentShelf", 149, "there may not be so many elements"), ("ExtentShelf", 160, "the volume is not twinned"), ("ExtentShelf", 273, "there is no such word"), ("ExtentShelf", 178, "no leg can be written"), ("ExtentShelf", 197, "no leg can be read"), ("ExtentShelf", 205, "a move is under way"), ("ExtentShelf", 210, "no move is under way"), ("ExtentShelf", 230, "what is 0 to 3"), ("ExtentShelf", 236, "n is below NONE"), ("ExtentShelf", 284, "the power is on")]
theorem xw_t {q : Cond} (i : Nat) (h : tables_1[i]? = some q) (hg : goodWord q = true) : q ∈ xp_BW := List.mem_filter.mpr ⟨List.mem_append_right _ (List.mem_of_getElem? h), hg⟩
theorem xw_s {q : Cond} (i : Nat) (h : (k2_sels lw_privs)[i]? = some q) (hg : goodWord q = true) : q ∈ xp_BW := List.mem_filter.mpr ⟨List.mem_append_left _ (List.mem_of_getElem? h), hg⟩
theorem xw_n {q : Cond} (i : Nat) (h : tables_1[i]? = some q) (hg : (!goodWord q && xk_nest q) = true) : q ∈ xp_NW := List.mem_append_left _ (List.mem_filter.mpr ⟨List.mem_of_getElem? h, hg⟩)
theorem xw_c {q : Cond} (i : Nat) (h : xp_nc[i]? = some q) : q ∈ xp_NW := List.mem_append_right _ (List.mem_of_getElem? h)
def xT_0 : u_T := fun k => match k with
  | 0 => ("ExtentShelf$Disks", "slots", "[I", true)
  | 1 => ("ExtentShelf$Disks", "extents", "[I", true)
  | _ => ("ExtentShelf$Disks", "absent", "[Z", true)
def xY_0 : Nat → FieldType := fun k => match k with
  | 0 => .array .int
  | 1 => .array .int
  | _ => .array .boolean
theorem xn_0 : ∀ a, a < 3 → ∀ b, b < 3 → a ≠ b → (xT_0 a).2.1 ≠ (xT_0 b).2.1 := by decide +kernel
theorem xy_0 : ∀ k, k < 3 → parseFieldDescriptor (xT_0 k).2.2.1 = some (xY_0 k) := by decide +kernel
def xT_1 : u_T := fun k => match k with
  | 0 => ("ExtentShelf$Move", "disk", "I", false)
  | 1 => ("ExtentShelf$Move", "leg", "I", false)
  | 2 => ("ExtentShelf$Move", "target", "I", false)
  | _ => ("ExtentShelf$Move", "copied", "I", false)
def xY_1 : Nat → FieldType := fun k => match k with
  | 0 => .int
  | 1 => .int
  | 2 => .int
  | _ => .int
theorem xn_1 : ∀ a, a < 4 → ∀ b, b < 4 → a ≠ b → (xT_1 a).2.1 ≠ (xT_1 b).2.1 := by decide +kernel
theorem xy_1 : ∀ k, k < 4 → parseFieldDescriptor (xT_1 k).2.2.1 = some (xY_1 k) := by decide +kernel
def xT_2 : u_T := fun k => match k with
  | _ => ("ExtentShelf$Table", "words", "[I", true)
def xY_2 : Nat → FieldType := fun k => match k with
  | _ => .array .int
theorem xn_2 : ∀ a, a < 1 → ∀ b, b < 1 → a ≠ b → (xT_2 a).2.1 ≠ (xT_2 b).2.1 := by decide +kernel
theorem xy_2 : ∀ k, k < 1 → parseFieldDescriptor (xT_2 k).2.2.1 = some (xY_2 k) := by decide +kernel
def xT_3 : u_T := fun k => match k with
  | 0 => ("ExtentShelf", "disks", "LExtentShelf$Disks;", true)
  | 1 => ("ExtentShelf", "table", "LExtentShelf$Table;", true)
  | 2 => ("ExtentShelf", "draft", "LExtentShelf$Table;", true)
  | 3 => ("ExtentShelf", "move", "LExtentShelf$Move;", true)
  | 4 => ("ExtentShelf", "powerOn", "Z", false)
  | _ => ("ExtentShelf", "wordsBeforeCut", "I", false)
def xY_3 : Nat → FieldType := fun k => match k with
  | 0 => .object "ExtentShelf$Disks"
  | 1 => .object "ExtentShelf$Table"
  | 2 => .object "ExtentShelf$Table"
  | 3 => .object "ExtentShelf$Move"
  | 4 => .boolean
  | _ => .int
theorem xn_3 : ∀ a, a < 6 → ∀ b, b < 6 → a ≠ b → (xT_3 a).2.1 ≠ (xT_3 b).2.1 := by decide +kernel
theorem xy_3 : ∀ k, k < 6 → parseFieldDescriptor (xT_3 k).2.2.1 = some (xY_3 k) := by decide +kernel
def xT_4 : u_T := fun k => match k with
  | 0 => ("ExtentShelfModel", "thrown", "I", false)
  | 1 => ("ExtentShelfModel", "present", "[Z", true)
  | 2 => ("ExtentShelfModel", "slots", "[I", true)
  | 3 => ("ExtentShelfModel", "data", "[I", true)
  | 4 => ("ExtentShelfModel", "on", "Z", false)
  | 5 => ("ExtentShelfModel", "left", "I", false)
  | 6 => ("ExtentShelfModel", "table", "[I", true)
  | 7 => ("ExtentShelfModel", "next", "[I", true)
  | 8 => ("ExtentShelfModel", "moved", "I", false)
  | 9 => ("ExtentShelfModel", "copyVolume", "I", false)
  | 10 => ("ExtentShelfModel", "copyLeg", "I", false)
  | 11 => ("ExtentShelfModel", "copyTo", "I", false)
  | _ => ("ExtentShelfModel", "copied", "I", false)
def xY_4 : Nat → FieldType := fun k => match k with
  | 0 => .int
  | 1 => .array .boolean
  | 2 => .array .int
  | 3 => .array .int
  | 4 => .boolean
  | 5 => .int
  | 6 => .array .int
  | 7 => .array .int
  | 8 => .int
  | 9 => .int
  | 10 => .int
  | 11 => .int
  | _ => .int
theorem xn_4 : ∀ a, a < 13 → ∀ b, b < 13 → a ≠ b → (xT_4 a).2.1 ≠ (xT_4 b).2.1 := by decide +kernel
theorem xy_4 : ∀ k, k < 13 → parseFieldDescriptor (xT_4 k).2.2.1 = some (xY_4 k) := by decide +kernel
def xp_cl : List vw_C := [("ExtentShelf$Disks", xT_0, 3), ("ExtentShelf$Move", xT_1, 4), ("ExtentShelf$Table", xT_2, 1), ("ExtentShelf", xT_3, 6), ("ExtentShelfModel", xT_4, 13)]
-- 0: ExtentShelf$Disks.isAbsent(I)Z
def xc_0 : List Instr := [.aload 0, .getfield 2, .iload 1, .baload, .freturn]
def xq_0 : List Nat := [0, 1, 4, 5, 6]
-- 1: ExtentShelf$Disks.setAbsent(IZ)V
def xc_1 : List Instr := [.aload 0, .getfield 2, .iload 1, .iload 2, .bastore, .return_]
def xq_1 : List Nat := [0, 1, 4, 5, 6, 7]
-- 2: ExtentShelf$Disks.startOfSlot(II)I
def xc_2 : List Instr := [.iload 0, .iconst 2, .imul, .iload 1, .iadd, .iconst 51, .imul, .ireturn]
def xq_2 : List Nat := [0, 1, 2, 3, 4, 5, 7, 8]
-- 3: ExtentShelf$Disks.slotWord(III)I
def xc_3 : List Instr := [.aload 0, .getfield 0, .iload 1, .iload 2, .invokeinterface 2 2, .iload 3, .iadd, .iaload, .ireturn]
def xq_3 : List Nat := [0, 1, 4, 5, 6, 9, 10, 11, 12]
-- 4: ExtentShelf$Disks.setSlotWord(IIII)V
def xc_4 : List Instr := [.aload 0, .getfield 0, .iload 1, .iload 2, .invokeinterface 2 2, .iload 3, .iadd, .iload 4, .iastore, .return_]
def xq_4 : List Nat := [0, 1, 4, 5, 6, 9, 10, 11, 13, 14]
-- 5: ExtentShelf$Disks.wholeSerial(II)I
def xc_5 : List Instr := [.iload 1, .iload 2, .invokeinterface 2 2, .istore 3, .aload 0, .getfield 0, .iload 3, .iaload, .istore 4, .aload 0, .getfield 0, .iload 3, .iconst 50, .iadd, .iaload, .iload 4, .if_icmp .ne 30, .aload 0, .getfield 0, .iload 3, .iconst 49, .iadd, .iaload, .aload 0, .getfield 0, .iload 3, .invokeinterface 20 2, .if_icmp .ne 30, .iconst 1, .goto 31, .iconst 0, .istore 5, .iload 5, .ifCond .eq 38, .iload 4, .ifCond .le 38, .iload 4, .goto 39, .iconst 0, .ireturn]
def xq_5 : List Nat := [0, 1, 2, 5, 6, 7, 10, 11, 12, 14, 15, 18, 19, 21, 22, 23, 25, 28, 29, 32, 33, 35, 36, 37, 38, 41, 42, 45, 48, 49, 52, 53, 55, 57, 60, 62, 65, 67, 70, 71]
-- 6: ExtentShelf$Disks.hasWhole(II)Z
def xc_6 : List Instr := [.aload 0, .iload 1, .iconst 0, .invokeinterface 5 3, .iload 2, .if_icmp .eq 12, .aload 0, .iload 1, .iconst 1, .invokeinterface 5 3, .iload 2, .if_icmp .ne 14, .iconst 1, .goto 15, .iconst 0, .freturn]
def xq_6 : List Nat := [0, 1, 2, 3, 6, 7, 10, 11, 12, 13, 16, 17, 20, 21, 24, 25]
-- 7: ExtentShelf$Disks.slotToWrite(I)I
def xc_7 : List Instr := [.aload 0, .iload 1, .iconst 0, .invokeinterface 5 3, .aload 0, .iload 1, .iconst 1, .invokeinterface 5 3, .if_icmp .gt 11, .iconst 0, .goto 12, .iconst 1, .ireturn]
def xq_7 : List Nat := [0, 1, 2, 3, 6, 7, 8, 9, 12, 15, 16, 19, 20]
-- 8: ExtentShelf$Disks.newestWholeSlot()I
def xc_8 : List Instr := [.iconst (-1), .istore 1, .iconst 0, .istore 2, .iconst 0, .istore 3, .iload 3, .iconst 4, .if_icmp .ge 36, .iconst 0, .istore 4, .iload 4, .iconst 2, .if_icmp .ge 34, .aload 0, .iload 3, .iload 4, .invokeinterface 5 3, .istore 5, .aload 0, .iload 3, .invokeinterface 0 2, .ifCond .ne 32, .iload 5, .iload 2, .if_icmp .le 32, .iload 3, .iload 4, .invokeinterface 2 2, .istore 1, .iload 5, .istore 2, .iinc 4 (1), .goto 11, .iinc 3 (1), .goto 6, .iload 1, .ireturn]
def xq_8 : List Nat := [0, 1, 2, 3, 4, 5, 6, 7, 8, 11, 12, 14, 16, 17, 20, 21, 22, 24, 27, 29, 30, 31, 34, 37, 39, 40, 43, 44, 46, 49, 50, 52, 53, 56, 59, 62, 65, 66]
-- 9: ExtentShelf$Disks.extentWord(II)I
def xc_9 : List Instr := [.aload 0, .getfield 1, .iload 1, .iconst 4, .imul, .iload 2, .iadd, .iaload, .ireturn]
def xq_9 : List Nat := [0, 1, 4, 5, 6, 7, 8, 9, 10]
-- 10: ExtentShelf$Disks.setExtentWord(III)V
def xc_10 : List Instr := [.aload 0, .getfield 1, .iload 1, .iconst 4, .imul, .iload 2, .iadd, .iload 3, .iastore, .return_]
def xq_10 : List Nat := [0, 1, 4, 5, 6, 7, 8, 9, 10, 11]
-- 11: ExtentShelf$Disks.clearExtents(I)V
def xc_11 : List Instr := [.iload 1, .iconst 32, .imul, .istore 2, .iload 2, .iload 1, .iconst 1, .iadd, .iconst 32, .imul, .if_icmp .ge 18, .aload 0, .getfield 1, .iload 2, .iconst 0, .iastore, .iinc 2 (1), .goto 4, .return_]
def xq_11 : List Nat := [0, 1, 3, 4, 5, 6, 7, 8, 9, 11, 12, 15, 16, 19, 20, 21, 22, 25, 28]
-- 12: ExtentShelf$Move.begin(I)V
def xc_12 : List Instr := [.aload 0, .iload 1, .putfield 32, .return_]
def xq_12 : List Nat := [0, 1, 2, 5]
-- 13: ExtentShelf$Move.end()V
def xc_13 : List Instr := [.aload 0, .iconst (-1), .putfield 32, .aload 0, .iconst (-1), .putfield 33, .aload 0, .iconst (-1), .putfield 34, .return_]
def xq_13 : List Nat := [0, 1, 2, 5, 6, 7, 10, 11, 12, 15]
-- 14: ExtentShelf$Move.beginCopy(II)V
def xc_14 : List Instr := [.aload 0, .iload 1, .putfield 33, .aload 0, .iload 2, .putfield 34, .aload 0, .iconst 0, .putfield 35, .return_]
def xq_14 : List Nat := [0, 1, 2, 5, 6, 7, 10, 11, 12, 15]
-- 15: ExtentShelf$Move.endCopy()V
def xc_15 : List Instr := [.aload 0, .iconst (-1), .putfield 33, .aload 0, .iconst (-1), .putfield 34, .return_]
def xq_15 : List Nat := [0, 1, 2, 5, 6, 7, 10]
-- 16: ExtentShelf$Move.hasCopied(II)Z
def xc_16 : List Instr := [.aload 0, .getfield 33, .iload 1, .if_icmp .ne 10, .iload 2, .aload 0, .getfield 35, .if_icmp .ge 10, .iconst 1, .goto 11, .iconst 0, .freturn]
def xq_16 : List Nat := [0, 1, 4, 5, 8, 9, 10, 13, 16, 17, 20, 21]
-- 17: ExtentShelf$Table.takeFrom([II)V
def xc_17 : List Instr := [.aload 1, .iload 2, .aload 0, .getfield 64, .iconst 0, .iconst 51, .invokedynamic 1, .return_]
def xq_17 : List Nat := [0, 1, 2, 3, 6, 7, 9, 12]
-- 18: ExtentShelf$Table.clear()V
def xc_18 : List Instr := [.iconst 0, .istore 1, .iload 1, .iconst 51, .if_icmp .ge 12, .aload 0, .getfield 64, .iload 1, .iconst 0, .iastore, .iinc 1 (1), .goto 2, .return_]
def xq_18 : List Nat := [0, 1, 2, 3, 5, 8, 9, 12, 13, 14, 15, 18, 21]
-- 19: ExtentShelf$Table.seal(I)V
def xc_19 : List Instr := [.aload 0, .getfield 64, .iconst 0, .iload 1, .iastore, .aload 0, .getfield 64, .iconst 49, .aload 0, .getfield 64, .iconst 0, .invokeinterface 20 2, .iastore, .aload 0, .getfield 64, .iconst 50, .iload 1, .iastore, .return_]
def xq_19 : List Nat := [0, 1, 4, 5, 6, 7, 8, 11, 13, 14, 17, 18, 21, 22, 23, 26, 28, 29, 30]
-- 20: ExtentShelf$Table.sumOf([II)I
def xc_20 : List Instr := [.iconst 0, .istore 2, .iconst 0, .istore 3, .iload 3, .iconst 49, .if_icmp .ge 21, .iload 2, .aload 0, .iload 1, .iload 3, .iadd, .iaload, .iload 3, .iconst 1, .iadd, .imul, .iadd, .istore 2, .iinc 3 (1), .goto 4, .iload 2, .ireturn]
def xq_20 : List Nat := [0, 1, 2, 3, 4, 5, 7, 10, 11, 12, 13, 14, 15, 16, 17, 18, 19, 20, 21, 22, 25, 28, 29]
-- 21: ExtentShelf$Table.serial()I
def xc_21 : List Instr := [.aload 0, .getfield 64, .iconst 0, .iaload, .ireturn]
def xq_21 : List Nat := [0, 1, 4, 5, 6]
-- 22: ExtentShelf$Table.lists(I)Z
def xc_22 : List Instr := [.aload 0, .iload 1, .invokeinterface 23 2, .ifCond .eq 6, .iconst 1, .goto 7, .iconst 0, .freturn]
def xq_22 : List Nat := [0, 1, 2, 5, 8, 9, 12, 13]
-- 23: ExtentShelf$Table.extentsOf(I)I
def xc_23 : List Instr := [.aload 0, .getfield 64, .iconst 1, .iload 1, .iadd, .iaload, .ireturn]
def xq_23 : List Nat := [0, 1, 4, 5, 6, 7, 8]
-- 24: ExtentShelf$Table.setExtents(II)V
def xc_24 : List Instr := [.aload 0, .getfield 64, .iconst 1, .iload 1, .iadd, .iload 2, .iastore, .return_]
def xq_24 : List Nat := [0, 1, 4, 5, 6, 7, 8, 9]
-- 25: ExtentShelf$Table.countListed()I
def xc_25 : List Instr := [.iconst 0, .istore 1, .iconst 0, .istore 2, .iload 2, .iconst 4, .if_icmp .ge 14, .aload 0, .iload 2, .invokeinterface 22 2, .ifCond .eq 12, .iinc 1 (1), .iinc 2 (1), .goto 4, .iload 1, .ireturn]
def xq_25 : List Nat := [0, 1, 2, 3, 4, 5, 6, 9, 10, 11, 14, 17, 20, 23, 26, 27]
-- 26: ExtentShelf$Table.has(I)Z
def xc_26 : List Instr := [.aload 0, .getfield 64, .iconst 5, .iload 1, .iadd, .iaload, .ifCond .eq 9, .iconst 1, .goto 10, .iconst 0, .freturn]
def xq_26 : List Nat := [0, 1, 4, 5, 6, 7, 8, 11, 12, 15, 16]
-- 27: ExtentShelf$Table.leastUnusedVolume()I
def xc_27 : List Instr := [.iconst 0, .istore 1, .iload 1, .iconst 4, .if_icmp .ge 13, .aload 0, .iload 1, .invokeinterface 26 2, .ifCond .ne 11, .iload 1, .ireturn, .iinc 1 (1), .goto 2, .iconst (-1), .ireturn]
def xq_27 : List Nat := [0, 1, 2, 3, 4, 7, 8, 9, 12, 15, 16, 17, 20, 23, 24]
-- 28: ExtentShelf$Table.describe(IIII)V
def xc_28 : List Instr := [.aload 0, .getfield 64, .iconst 5, .iload 1, .iadd, .iconst 1, .iload 2, .iadd, .iconst 4, .iload 3, .imul, .iadd, .iconst 32, .iload 4, .imul, .iadd, .iastore, .return_]
def xq_28 : List Nat := [0, 1, 4, 5, 6, 7, 8, 9, 10, 11, 12, 13, 14, 16, 18, 19, 20, 21]
-- 29: ExtentShelf$Table.kindOf(I)I
def xc_29 : List Instr := [.aload 0, .getfield 64, .iconst 5, .iload 1, .iadd, .iaload, .iconst 4, .irem, .iconst 1, .isub, .ireturn]
def xq_29 : List Nat := [0, 1, 4, 5, 6, 7, 8, 9, 10, 11, 12]
-- 30: ExtentShelf$Table.columnsOf(I)I
def xc_30 : List Instr := [.iconst 1, .aload 0, .getfield 64, .iconst 5, .iload 1, .iadd, .iaload, .iconst 32, .irem, .iconst 4, .idiv, .invokedynamic 0, .ireturn]
def xq_30 : List Nat := [0, 1, 2, 5, 6, 7, 8, 9, 11, 12, 13, 14, 17]
-- 31: ExtentShelf$Table.elementsOf(I)I
def xc_31 : List Instr := [.aload 0, .getfield 64, .iconst 5, .iload 1, .iadd, .iaload, .iconst 32, .idiv, .ireturn]
def xq_31 : List Nat := [0, 1, 4, 5, 6, 7, 8, 10, 11]
-- 32: ExtentShelf$Table.forget(I)V
def xc_32 : List Instr := [.aload 0, .getfield 64, .iconst 5, .iload 1, .iadd, .iconst 0, .iastore, .aload 0, .iload 1, .iconst 0, .invokeinterface 33 3, .return_]
def xq_32 : List Nat := [0, 1, 4, 5, 6, 7, 8, 9, 10, 11, 12, 15]
-- 33: ExtentShelf$Table.loseElements(II)V
def xc_33 : List Instr := [.iload 1, .iload 2, .iconst 0, .invokeinterface 74 3, .istore 3, .iload 3, .iload 1, .iconst 1, .iadd, .iconst 0, .iconst 0, .invokeinterface 74 3, .if_icmp .ge 19, .aload 0, .iload 3, .iconst (-1), .invokeinterface 35 3, .iinc 3 (1), .goto 5, .return_]
def xq_33 : List Nat := [0, 1, 2, 3, 6, 7, 8, 9, 10, 11, 12, 13, 16, 19, 20, 21, 22, 25, 28, 31]
-- 34: ExtentShelf$Table.spotOf(I)I
def xc_34 : List Instr := [.aload 0, .getfield 64, .iconst 9, .iload 1, .iadd, .iaload, .iconst 1, .isub, .ireturn]
def xq_34 : List Nat := [0, 1, 4, 6, 7, 8, 9, 10, 11]
-- 35: ExtentShelf$Table.setSpot(II)V
def xc_35 : List Instr := [.aload 0, .getfield 64, .iconst 9, .iload 1, .iadd, .iload 2, .iconst 1, .iadd, .iastore, .return_]
def xq_35 : List Nat := [0, 1, 4, 6, 7, 8, 9, 10, 11, 12]
-- 36: ExtentShelf$Table.isUsed(I)Z
def xc_36 : List Instr := [.iconst 0, .istore 2, .iload 2, .iconst 40, .if_icmp .ge 14, .aload 0, .iload 2, .invokeinterface 34 2, .iload 1, .if_icmp .ne 12, .iconst 1, .freturn, .iinc 2 (1), .goto 2, .iconst 0, .freturn]
def xq_36 : List Nat := [0, 1, 2, 3, 5, 8, 9, 10, 13, 14, 17, 18, 19, 22, 25, 26]
-- 37: ExtentShelf$Table.legsOn(I)I
def xc_37 : List Instr := [.iconst 0, .istore 2, .iconst 0, .istore 3, .iload 3, .iconst 40, .if_icmp .ge 16, .aload 0, .iload 3, .invokeinterface 34 2, .invokeinterface 75 1, .iload 1, .if_icmp .ne 14, .iinc 2 (1), .iinc 3 (1), .goto 4, .iload 2, .ireturn]
def xq_37 : List Nat := [0, 1, 2, 3, 4, 5, 7, 10, 11, 12, 15, 18, 19, 22, 25, 28, 31, 32]
-- 38: ExtentShelf$Table.firstLegOn(I)I
def xc_38 : List Instr := [.iconst 0, .istore 2, .iload 2, .iconst 40, .if_icmp .ge 15, .aload 0, .iload 2, .invokeinterface 34 2, .invokeinterface 75 1, .iload 1, .if_icmp .ne 13, .iload 2, .ireturn, .iinc 2 (1), .goto 2, .iconst (-1), .ireturn]
def xq_38 : List Nat := [0, 1, 2, 3, 5, 8, 9, 10, 13, 16, 17, 20, 21, 22, 25, 28, 29]
-- 39: ExtentShelf$Table.loseLegsOn(I)V
def xc_39 : List Instr := [.iconst 0, .istore 2, .iload 2, .iconst 40, .if_icmp .ge 17, .aload 0, .iload 2, .invokeinterface 34 2, .invokeinterface 75 1, .iload 1, .if_icmp .ne 15, .aload 0, .iload 2, .iconst (-1), .invokeinterface 35 3, .iinc 2 (1), .goto 2, .return_]
def xq_39 : List Nat := [0, 1, 2, 3, 5, 8, 9, 10, 13, 16, 17, 20, 21, 22, 23, 26, 29, 32]
-- 40: ExtentShelf.add(II)V
def xc_40 : List Instr := [.aload 0, .invokeinterface 62 1, .iload 1, .invokeinterface 65 1, .iload 2, .iconst 2, .if_icmp .lt 10, .iload 2, .iconst 8, .if_icmp .le 11, .new 1, .aload 0, .getfield 97, .iload 1, .invokeinterface 22 2, .ifCond .ne 21, .aload 0, .getfield 96, .iload 1, .invokeinterface 0 2, .ifCond .eq 22, .new 2, .aload 0, .invokeinterface 67 1, .aload 0, .getfield 96, .iload 1, .invokeinterface 11 2, .aload 0, .invokeinterface 85 1, .aload 0, .getfield 98, .iload 1, .iload 2, .invokeinterface 24 3, .aload 0, .invokeinterface 86 1, .return_]
def xq_40 : List Nat := [0, 1, 4, 5, 8, 9, 10, 13, 14, 16, 19, 29, 30, 33, 34, 37, 40, 41, 44, 45, 48, 51, 61, 62, 65, 66, 69, 70, 73, 74, 77, 78, 81, 82, 83, 86, 87, 90]
-- 41: ExtentShelf.remove(I)V
def xc_41 : List Instr := [.aload 0, .invokeinterface 62 1, .iload 1, .invokeinterface 65 1, .aload 0, .iload 1, .invokeinterface 66 2, .aload 0, .getfield 97, .iload 1, .invokeinterface 37 2, .ifCond .gt 18, .aload 0, .getfield 99, .getfield 34, .invokeinterface 75 1, .iload 1, .if_icmp .ne 19, .new 2, .aload 0, .getfield 97, .invokeinterface 25 1, .iconst 1, .if_icmp .ne 25, .new 2, .aload 0, .invokeinterface 67 1, .aload 0, .invokeinterface 85 1, .aload 0, .getfield 98, .iload 1, .iconst 0, .invokeinterface 24 3, .aload 0, .invokeinterface 86 1, .aload 0, .getfield 99, .getfield 32, .iload 1, .if_icmp .ne 44, .aload 0, .getfield 99, .invokeinterface 13 1, .return_]
def xq_41 : List Nat := [0, 1, 4, 5, 8, 9, 10, 13, 14, 17, 18, 21, 24, 25, 28, 31, 34, 35, 38, 48, 49, 52, 55, 56, 59, 69, 70, 73, 74, 77, 78, 81, 82, 83, 86, 87, 90, 91, 94, 97, 98, 101, 102, 105, 108]
-- 42: ExtentShelf.drop(I)I
def xc_42 : List Instr := [.aload 0, .invokeinterface 62 1, .iload 1, .invokeinterface 65 1, .aload 0, .iload 1, .invokeinterface 66 2, .aload 0, .getfield 96, .iload 1, .invokeinterface 0 2, .ifCond .eq 15, .aload 0, .invokeinterface 71 1, .ifCond .ne 16, .new 2, .aload 0, .getfield 97, .iload 1, .invokeinterface 37 2, .istore 2, .aload 0, .invokeinterface 85 1, .aload 0, .getfield 98, .iload 1, .iconst 0, .invokeinterface 24 3, .aload 0, .getfield 98, .iload 1, .invokeinterface 39 2, .aload 0, .invokeinterface 86 1, .iload 2, .ireturn]
def xq_42 : List Nat := [0, 1, 4, 5, 8, 9, 10, 13, 14, 17, 18, 21, 24, 25, 28, 31, 41, 42, 45, 46, 49, 50, 51, 54, 55, 58, 59, 60, 63, 64, 67, 68, 71, 72, 75, 76]
-- 43: ExtentShelf.make(III)I
def xc_43 : List Instr := [.aload 0, .invokeinterface 62 1, .iload 1, .iload 2, .invokeinterface 72 2, .ifCond .eq 10, .iload 2, .iload 3, .invokeinterface 73 2, .ifCond .ne 11, .new 1, .aload 0, .invokeinterface 67 1, .aload 0, .getfield 97, .invokeinterface 27 1, .istore 4, .iload 4, .iconst (-1), .if_icmp .ne 21, .new 2, .aload 0, .invokeinterface 85 1, .aload 0, .getfield 98, .iload 4, .iload 1, .iload 2, .iload 3, .invokeinterface 28 5, .aload 0, .iload 4, .iconst 0, .invokeinterface 97 3, .iload 4, .ireturn]
def xq_43 : List Nat := [0, 1, 4, 5, 6, 9, 12, 13, 14, 17, 20, 30, 31, 34, 35, 38, 41, 43, 45, 46, 49, 59, 60, 63, 64, 67, 69, 70, 71, 72, 75, 76, 78, 79, 82, 84]
-- 44: ExtentShelf.grow(II)I
def xc_44 : List Instr := [.aload 0, .invokeinterface 62 1, .aload 0, .iload 1, .invokeinterface 68 2, .aload 0, .getfield 97, .iload 1, .invokeinterface 31 2, .istore 3, .iload 2, .iconst 1, .if_icmp .lt 25, .iload 2, .iconst 5, .if_icmp .gt 25, .aload 0, .getfield 97, .iload 1, .invokeinterface 30 2, .iload 3, .iload 2, .iadd, .invokeinterface 73 2, .ifCond .ne 26, .new 1, .aload 0, .invokeinterface 67 1, .aload 0, .invokeinterface 85 1, .aload 0, .getfield 98, .iload 1, .aload 0, .getfield 97, .iload 1, .invokeinterface 29 2, .aload 0, .getfield 97, .iload 1, .invokeinterface 30 2, .iload 3, .iload 2, .iadd, .invokeinterface 28 5, .aload 0, .iload 1, .iload 3, .invokeinterface 97 3, .iload 3, .iload 2, .iadd, .ireturn]
def xq_44 : List Nat := [0, 1, 4, 5, 6, 9, 10, 13, 14, 17, 18, 19, 20, 23, 24, 25, 28, 29, 32, 33, 36, 37, 38, 39, 42, 45, 55, 56, 59, 60, 63, 64, 67, 68, 69, 72, 73, 76, 77, 80, 81, 84, 85, 86, 87, 90, 91, 92, 93, 96, 97, 98, 99]
-- 45: ExtentShelf.shrink(II)I
def xc_45 : List Instr := [.aload 0, .invokeinterface 62 1, .aload 0, .iload 1, .invokeinterface 68 2, .aload 0, .getfield 97, .iload 1, .invokeinterface 31 2, .istore 3, .iload 2, .iload 3, .if_icmp .ge 20, .aload 0, .getfield 97, .iload 1, .invokeinterface 30 2, .iload 2, .invokeinterface 73 2, .ifCond .ne 21, .new 1, .aload 0, .invokeinterface 67 1, .aload 0, .invokeinterface 85 1, .aload 0, .getfield 98, .iload 1, .aload 0, .getfield 97, .iload 1, .invokeinterface 29 2, .aload 0, .getfield 97, .iload 1, .invokeinterface 30 2, .iload 2, .invokeinterface 28 5, .aload 0, .getfield 98, .iload 1, .iload 2, .invokeinterface 33 3, .aload 0, .invokeinterface 86 1, .iload 3, .iload 2, .isub, .ireturn]
def xq_45 : List Nat := [0, 1, 4, 5, 6, 9, 10, 13, 14, 17, 18, 19, 20, 23, 24, 27, 28, 31, 32, 35, 38, 48, 49, 52, 53, 56, 57, 60, 61, 62, 65, 66, 69, 70, 73, 74, 77, 78, 81, 82, 85, 86, 87, 90, 91, 94, 95, 96, 97]
-- 46: ExtentShelf.delete(I)V
def xc_46 : List Instr := [.aload 0, .invokeinterface 62 1, .aload 0, .iload 1, .invokeinterface 68 2, .aload 0, .invokeinterface 67 1, .aload 0, .invokeinterface 85 1, .aload 0, .getfield 98, .iload 1, .invokeinterface 32 2, .aload 0, .invokeinterface 86 1, .return_]
def xq_46 : List Nat := [0, 1, 4, 5, 6, 9, 10, 13, 14, 17, 18, 21, 22, 25, 26, 29]
-- 47: ExtentShelf.mend(I)I
def xc_47 : List Instr := [.aload 0, .invokeinterface 62 1, .aload 0, .iload 1, .invokeinterface 68 2, .aload 0, .getfield 97, .iload 1, .invokeinterface 29 2, .iconst 2, .if_icmp .eq 12, .new 1, .aload 0, .invokeinterface 67 1, .aload 0, .invokeinterface 85 1, .aload 0, .iload 1, .invokeinterface 99 2, .istore 2, .iload 2, .ifCond .le 27, .aload 0, .iload 1, .invokeinterface 101 2, .aload 0, .invokeinterface 86 1, .iload 2, .ireturn]
def xq_47 : List Nat := [0, 1, 4, 5, 6, 9, 10, 13, 14, 17, 18, 21, 31, 32, 35, 36, 39, 40, 41, 44, 45, 46, 49, 50, 51, 54, 55, 58, 59]
-- 48: ExtentShelf.write(III)I
def xc_48 : List Instr := [.aload 0, .invokeinterface 62 1, .aload 0, .iload 1, .invokeinterface 68 2, .aload 0, .iload 1, .iload 2, .invokeinterface 69 3, .aload 0, .iload 1, .iload 2, .invokeinterface 77 3, .istore 4, .aload 0, .iload 1, .iload 4, .invokeinterface 80 3, .iconst (-1), .if_icmp .ne 21, .new 2, .aload 0, .iload 1, .iload 4, .invokeinterface 89 3, .aload 0, .iload 1, .iload 2, .invokeinterface 78 3, .istore 5, .iconst 0, .istore 6, .iconst 0, .istore 7, .iload 7, .iconst 2, .if_icmp .ge 54, .iload 1, .iload 4, .iload 7, .invokeinterface 74 3, .istore 8, .aload 0, .iload 8, .invokeinterface 79 2, .ifCond .eq 52, .aload 0, .iload 8, .iload 5, .iload 3, .invokeinterface 84 4, .iinc 6 (1), .iinc 7 (1), .goto 34, .iload 6, .ireturn]
def xq_48 : List Nat := [0, 1, 4, 5, 6, 9, 10, 11, 12, 15, 16, 17, 18, 21, 23, 24, 25, 27, 30, 31, 34, 44, 45, 46, 48, 51, 52, 53, 54, 57, 59, 60, 62, 63, 65, 67, 68, 71, 72, 74, 76, 79, 81, 82, 84, 87, 90, 91, 93, 95, 96, 99, 102, 105, 108, 110]
-- 49: ExtentShelf.read(II)I
def xc_49 : List Instr := [.aload 0, .invokeinterface 62 1, .aload 0, .iload 1, .invokeinterface 68 2, .aload 0, .iload 1, .iload 2, .invokeinterface 69 3, .aload 0, .iload 1, .aload 0, .iload 1, .iload 2, .invokeinterface 77 3, .invokeinterface 80 3, .istore 3, .iload 3, .iconst (-1), .if_icmp .ne 21, .new 2, .aload 0, .getfield 96, .aload 0, .getfield 97, .iload 3, .invokeinterface 34 2, .aload 0, .iload 1, .iload 2, .invokeinterface 78 3, .invokeinterface 9 3, .ireturn]
def xq_49 : List Nat := [0, 1, 4, 5, 6, 9, 10, 11, 12, 15, 16, 17, 18, 19, 20, 23, 26, 27, 28, 29, 32, 42, 43, 46, 47, 50, 51, 54, 55, 56, 57, 60, 63]
-- 50: ExtentShelf.empty(I)I
def xc_50 : List Instr := [.aload 0, .invokeinterface 62 1, .iload 1, .invokeinterface 65 1, .aload 0, .iload 1, .invokeinterface 66 2, .aload 0, .getfield 99, .getfield 32, .iconst (-1), .if_icmp .eq 13, .new 2, .aload 0, .invokeinterface 67 1, .aload 0, .getfield 99, .iload 1, .invokeinterface 12 2, .aload 0, .getfield 97, .iload 1, .invokeinterface 37 2, .ireturn]
def xq_50 : List Nat := [0, 1, 4, 5, 8, 9, 10, 13, 14, 17, 20, 21, 24, 34, 35, 38, 39, 42, 43, 46, 47, 50, 51, 54]
-- 51: ExtentShelf.step()I
def xc_51 : List Instr := [.aload 0, .invokeinterface 62 1, .aload 0, .getfield 99, .getfield 32, .iconst (-1), .if_icmp .ne 8, .new 2, .aload 0, .getfield 99, .getfield 33, .iconst (-1), .if_icmp .ne 47, .aload 0, .getfield 97, .aload 0, .getfield 99, .getfield 32, .invokeinterface 38 2, .istore 1, .iload 1, .iconst (-1), .if_icmp .ne 25, .iconst (-1), .goto 28, .aload 0, .iload 1, .invokeinterface 103 2, .istore 2, .iload 2, .iconst (-1), .if_icmp .ne 42, .aload 0, .getfield 99, .invokeinterface 13 1, .iload 1, .iconst (-1), .if_icmp .ne 40, .iconst 0, .goto 41, .iconst (-1), .ireturn, .aload 0, .getfield 99, .iload 1, .iload 2, .invokeinterface 14 3, .aload 0, .invokeinterface 104 1, .aload 0, .getfield 97, .aload 0, .getfield 99, .getfield 32, .invokeinterface 37 2, .istore 1, .iload 1, .ifCond .ne 61, .aload 0, .getfield 99, .invokeinterface 13 1, .iload 1, .ireturn]
def xq_51 : List Nat := [0, 1, 4, 5, 8, 11, 12, 15, 25, 26, 29, 32, 33, 36, 37, 40, 41, 44, 47, 50, 51, 52, 53, 56, 57, 60, 61, 62, 65, 66, 67, 68, 71, 72, 75, 78, 79, 80, 83, 84, 87, 88, 89, 90, 93, 94, 95, 98, 99, 102, 103, 106, 107, 110, 113, 116, 117, 118, 121, 122, 125, 128, 129]
-- 52: ExtentShelf.moving()I
def xc_52 : List Instr := [.aload 0, .getfield 99, .getfield 32, .ireturn]
def xq_52 : List Nat := [0, 1, 4, 7]
-- 53: ExtentShelf.volume(II)I
def xc_53 : List Instr := [.aload 0, .invokeinterface 62 1, .aload 0, .iload 1, .invokeinterface 68 2, .iload 2, .tableswitch 26 0 3 #[7, 12, 17, 22], .aload 0, .getfield 97, .iload 1, .invokeinterface 29 2, .ireturn, .aload 0, .getfield 97, .iload 1, .invokeinterface 30 2, .ireturn, .aload 0, .getfield 97, .iload 1, .invokeinterface 31 2, .ireturn, .aload 0, .iload 1, .invokeinterface 76 2, .ireturn, .new 1]
def xq_53 : List Nat := [0, 1, 4, 5, 6, 9, 10, 40, 41, 44, 45, 48, 49, 50, 53, 54, 57, 58, 59, 62, 63, 66, 67, 68, 69, 72, 73]
-- 54: ExtentShelf.where(III)I
def xc_54 : List Instr := [.aload 0, .invokeinterface 62 1, .aload 0, .iload 1, .invokeinterface 68 2, .iload 2, .ifCond .lt 15, .iload 2, .iconst 5, .if_icmp .ge 15, .iload 3, .ifCond .lt 15, .iload 3, .iconst 2, .if_icmp .lt 17, .iconst (-1), .ireturn, .aload 0, .getfield 97, .iload 1, .iload 2, .iload 3, .invokeinterface 74 3, .invokeinterface 34 2, .ireturn]
def xq_54 : List Nat := [0, 1, 4, 5, 6, 9, 10, 13, 14, 15, 18, 19, 22, 23, 24, 27, 28, 29, 30, 33, 34, 35, 36, 39, 42]
-- 55: ExtentShelf.free(I)I
def xc_55 : List Instr := [.aload 0, .invokeinterface 62 1, .iload 1, .invokeinterface 65 1, .aload 0, .getfield 97, .iload 1, .invokeinterface 22 2, .ifCond .eq 15, .aload 0, .aload 0, .getfield 97, .iload 1, .invokeinterface 90 3, .goto 16, .iconst (-1), .ireturn]
def xq_55 : List Nat := [0, 1, 4, 5, 8, 9, 12, 13, 16, 19, 20, 21, 24, 25, 28, 31, 32]
-- 56: ExtentShelf.cut(I)V
def xc_56 : List Instr := [.aload 0, .invokeinterface 62 1, .iload 1, .iconst (-1), .if_icmp .ge 6, .new 1, .aload 0, .iload 1, .putfield 101, .return_]
def xq_56 : List Nat := [0, 1, 4, 5, 6, 9, 19, 20, 21, 24]
-- 57: ExtentShelf.off()V
def xc_57 : List Instr := [.aload 0, .invokeinterface 62 1, .aload 0, .invokeinterface 81 1, .return_]
def xq_57 : List Nat := [0, 1, 4, 5, 8]
-- 58: ExtentShelf.plug(IZ)Z
def xc_58 : List Instr := [.aload 0, .invokeinterface 63 1, .iload 1, .invokeinterface 65 1, .iload 2, .aload 0, .getfield 96, .iload 1, .invokeinterface 0 2, .if_icmp .ne 12, .iconst 1, .goto 13, .iconst 0, .istore 3, .aload 0, .getfield 96, .iload 1, .iload 2, .ifCond .ne 21, .iconst 1, .goto 22, .iconst 0, .invokeinterface 1 3, .iload 3, .freturn]
def xq_58 : List Nat := [0, 1, 4, 5, 8, 9, 10, 13, 14, 17, 20, 21, 24, 25, 26, 27, 30, 31, 32, 35, 36, 39, 40, 43, 44]
-- 59: ExtentShelf.start()I
def xc_59 : List Instr := [.aload 0, .invokeinterface 63 1, .aload 0, .iconst 1, .putstatic 100, .aload 0, .invokeinterface 105 1, .iconst 0, .istore 1, .iload 1, .iconst 4, .if_icmp .ge 33, .aload 0, .aload 0, .getfield 97, .iload 1, .invokeinterface 87 3, .ifCond .eq 31, .aload 0, .getfield 96, .iload 1, .aload 0, .getfield 97, .invokeinterface 21 1, .invokeinterface 6 3, .ifCond .ne 31, .aload 0, .aload 0, .getfield 97, .iload 1, .invokeinterface 88 3, .iinc 1 (1), .goto 9, .iconst 0, .istore 1, .iload 1, .iconst 40, .if_icmp .ge 46, .aload 0, .iload 1, .iload 1, .iconst 1, .iadd, .invokeinterface 106 3, .iinc 1 (2), .goto 35, .aload 0, .getfield 97, .invokeinterface 21 1, .ireturn]
def xq_59 : List Nat := [0, 1, 4, 5, 6, 9, 10, 13, 14, 15, 16, 17, 20, 21, 22, 25, 26, 29, 32, 33, 36, 37, 38, 41, 44, 47, 50, 51, 52, 55, 56, 59, 62, 65, 66, 67, 68, 70, 73, 74, 75, 76, 77, 78, 81, 84, 87, 88, 91, 94]
-- 60: ExtentShelf.number()I
def xc_60 : List Instr := [.aload 0, .getfield 100, .ifCond .eq 7, .aload 0, .getfield 97, .invokeinterface 21 1, .goto 8, .iconst (-1), .ireturn]
def xq_60 : List Nat := [0, 1, 4, 7, 8, 11, 14, 17, 18]
-- 61: ExtentShelf.look(III)I
def xc_61 : List Instr := [.iload 2, .ifCond .lt 12, .iload 2, .iconst 2, .if_icmp .ge 12, .iload 3, .ifCond .lt 12, .iload 3, .iconst 51, .if_icmp .ge 12, .iconst 1, .goto 13, .iconst 0, .istore 4, .iload 2, .iconst 2, .if_icmp .ne 24, .iload 3, .ifCond .lt 24, .iload 3, .iconst 32, .if_icmp .ge 24, .iconst 1, .goto 25, .iconst 0, .istore 5, .iload 1, .invokeinterface 64 1, .ifCond .eq 33, .iload 4, .ifCond .ne 34, .iload 5, .ifCond .ne 34, .new 4, .iload 4, .ifCond .eq 43, .aload 0, .getfield 96, .iload 1, .iload 2, .iload 3, .invokeinterface 3 4, .goto 50, .aload 0, .getfield 96, .iload 1, .iconst 8, .imul, .iload 3, .invokeinterface 9 3, .ireturn]
def xq_61 : List Nat := [0, 1, 4, 5, 6, 9, 10, 13, 14, 16, 19, 20, 23, 24, 26, 27, 28, 31, 32, 35, 36, 38, 41, 42, 45, 46, 48, 49, 52, 55, 57, 60, 62, 65, 76, 78, 81, 82, 85, 86, 87, 88, 91, 94, 95, 98, 99, 101, 102, 103, 106]
-- 62: ExtentShelf.requirePower()V
def xc_62 : List Instr := [.aload 0, .getfield 100, .ifCond .ne 4, .new 0, .return_]
def xq_62 : List Nat := [0, 1, 4, 7, 18]
-- 63: ExtentShelf.requireNoPower()V
def xc_63 : List Instr := [.aload 0, .getfield 100, .ifCond .eq 4, .new 0, .return_]
def xq_63 : List Nat := [0, 1, 4, 7, 18]
-- 64: ExtentShelf.isDisk(I)Z
def xc_64 : List Instr := [.iload 0, .ifCond .lt 7, .iload 0, .iconst 4, .if_icmp .ge 7, .iconst 1, .goto 8, .iconst 0, .freturn]
def xq_64 : List Nat := [0, 1, 4, 5, 6, 9, 10, 13, 14]
-- 65: ExtentShelf.requireDisk(I)V
def xc_65 : List Instr := [.iload 0, .invokeinterface 64 1, .ifCond .ne 4, .new 1, .return_]
def xq_65 : List Nat := [0, 1, 4, 7, 18]
-- 66: ExtentShelf.requireListed(I)V
def xc_66 : List Instr := [.aload 0, .getfield 97, .iload 1, .invokeinterface 22 2, .ifCond .ne 6, .new 2, .return_]
def xq_66 : List Nat := [0, 1, 4, 5, 8, 11, 22]
-- 67: ExtentShelf.requireListedPresent()V
def xc_67 : List Instr := [.aload 0, .invokeinterface 70 1, .ifCond .eq 4, .new 2, .return_]
def xq_67 : List Nat := [0, 1, 4, 7, 18]
-- 68: ExtentShelf.requireVolume(I)V
def xc_68 : List Instr := [.iload 1, .ifCond .lt 10, .iload 1, .iconst 4, .if_icmp .ge 10, .aload 0, .getfield 97, .iload 1, .invokeinterface 26 2, .ifCond .ne 11, .new 3, .return_]
def xq_68 : List Nat := [0, 1, 4, 5, 6, 9, 10, 13, 14, 17, 20, 30]
-- 69: ExtentShelf.requireWord(II)V
def xc_69 : List Instr := [.iload 2, .ifCond .lt 7, .iload 2, .aload 0, .iload 1, .invokeinterface 76 2, .if_icmp .lt 8, .new 4, .return_]
def xq_69 : List Nat := [0, 1, 4, 5, 6, 7, 10, 13, 24]
-- 70: ExtentShelf.isAnyListedAbsent()Z
def xc_70 : List Instr := [.iconst 0, .istore 1, .iload 1, .iconst 4, .if_icmp .ge 19, .aload 0, .getfield 97, .iload 1, .invokeinterface 22 2, .ifCond .eq 17, .aload 0, .getfield 96, .iload 1, .invokeinterface 0 2, .ifCond .eq 17, .iconst 1, .freturn, .iinc 1 (1), .goto 2, .iconst 0, .freturn]
def xq_70 : List Nat := [0, 1, 2, 3, 4, 7, 8, 11, 12, 15, 18, 19, 22, 23, 26, 29, 30, 31, 34, 37, 38]
-- 71: ExtentShelf.isAnyListedPresent()Z
def xc_71 : List Instr := [.iconst 0, .istore 1, .iload 1, .iconst 4, .if_icmp .ge 15, .aload 0, .aload 0, .getfield 97, .iload 1, .invokeinterface 87 3, .ifCond .eq 13, .iconst 1, .freturn, .iinc 1 (1), .goto 2, .iconst 0, .freturn]
def xq_71 : List Nat := [0, 1, 2, 3, 4, 7, 8, 9, 12, 13, 16, 19, 20, 21, 24, 27, 28]
-- 72: ExtentShelf.isShape(II)Z
def xc_72 : List Instr := [.iload 0, .iconst 1, .if_icmp .ne 13, .iload 1, .iconst 2, .if_icmp .eq 9, .iload 1, .iconst 3, .if_icmp .ne 11, .iconst 1, .goto 12, .iconst 0, .freturn, .iload 0, .ifCond .eq 18, .iload 0, .iconst 2, .if_icmp .ne 23, .iload 1, .iconst 1, .if_icmp .ne 23, .iconst 1, .goto 24, .iconst 0, .freturn]
def xq_72 : List Nat := [0, 1, 2, 5, 6, 7, 10, 11, 12, 15, 16, 19, 20, 21, 22, 25, 26, 27, 30, 31, 32, 35, 36, 39, 40]
-- 73: ExtentShelf.mayHave(II)Z
def xc_73 : List Instr := [.iload 1, .iconst 1, .if_icmp .lt 15, .iload 1, .iconst 5, .if_icmp .gt 15, .iload 0, .iconst 1, .if_icmp .lt 15, .iload 1, .iload 0, .irem, .ifCond .ne 15, .iconst 1, .goto 16, .iconst 0, .freturn]
def xq_73 : List Nat := [0, 1, 2, 5, 6, 7, 10, 11, 12, 15, 16, 17, 18, 21, 22, 25, 26]
-- 74: ExtentShelf.legOf(III)I
def xc_74 : List Instr := [.iload 0, .iconst 10, .imul, .iload 1, .iconst 2, .imul, .iadd, .iload 2, .iadd, .ireturn]
def xq_74 : List Nat := [0, 1, 3, 4, 5, 6, 7, 8, 9, 10]
-- 75: ExtentShelf.diskOf(I)I
def xc_75 : List Instr := [.iload 0, .iconst (-1), .if_icmp .ne 5, .iconst (-1), .goto 8, .iload 0, .iconst 8, .idiv, .ireturn]
def xq_75 : List Nat := [0, 1, 2, 5, 6, 9, 10, 12, 13]
-- 76: ExtentShelf.countWords(I)I
def xc_76 : List Instr := [.aload 0, .getfield 97, .iload 1, .invokeinterface 31 2, .iconst 4, .imul, .ireturn]
def xq_76 : List Nat := [0, 1, 4, 5, 8, 9, 10]
-- 77: ExtentShelf.elementOfWord(II)I
def xc_77 : List Instr := [.aload 0, .getfield 97, .iload 1, .invokeinterface 30 2, .istore 3, .iload 3, .iload 2, .iconst 4, .iload 3, .imul, .idiv, .imul, .iload 2, .iload 3, .irem, .iadd, .ireturn]
def xq_77 : List Nat := [0, 1, 4, 5, 8, 9, 10, 11, 12, 13, 14, 15, 16, 17, 18, 19, 20]
-- 78: ExtentShelf.placeOfWord(II)I
def xc_78 : List Instr := [.aload 0, .getfield 97, .iload 1, .invokeinterface 30 2, .istore 3, .iload 2, .iconst 4, .iload 3, .imul, .irem, .iload 3, .idiv, .ireturn]
def xq_78 : List Nat := [0, 1, 4, 5, 8, 9, 10, 11, 12, 13, 14, 15, 16]
-- 79: ExtentShelf.isReadable(I)Z
def xc_79 : List Instr := [.aload 0, .getfield 97, .iload 1, .invokeinterface 34 2, .istore 2, .iload 2, .iconst (-1), .if_icmp .eq 16, .aload 0, .getfield 96, .iload 2, .invokeinterface 75 1, .invokeinterface 0 2, .ifCond .ne 16, .iconst 1, .goto 17, .iconst 0, .freturn]
def xq_79 : List Nat := [0, 1, 4, 5, 8, 9, 10, 11, 14, 15, 18, 19, 22, 25, 28, 29, 32, 33]
-- 80: ExtentShelf.leastReadableLeg(II)I
def xc_80 : List Instr := [.iconst 0, .istore 3, .iload 3, .iconst 2, .if_icmp .ge 18, .iload 1, .iload 2, .iload 3, .invokeinterface 74 3, .istore 4, .aload 0, .iload 4, .invokeinterface 79 2, .ifCond .eq 16, .iload 4, .ireturn, .iinc 3 (1), .goto 2, .iconst (-1), .ireturn]
def xq_80 : List Nat := [0, 1, 2, 3, 4, 7, 8, 9, 10, 13, 15, 16, 18, 21, 24, 26, 27, 30, 33, 34]
-- 81: ExtentShelf.losePower()V
def xc_81 : List Instr := [.aload 0, .iconst 0, .putstatic 100, .aload 0, .iconst (-1), .putfield 101, .aload 0, .getfield 99, .invokeinterface 13 1, .return_]
def xq_81 : List Nat := [0, 1, 2, 5, 6, 7, 10, 11, 14, 17]
-- 82: ExtentShelf.spendWord()V
def xc_82 : List Instr := [.aload 0, .getfield 101, .ifCond .ne 6, .aload 0, .invokeinterface 81 1, .new 0, .aload 0, .getfield 101, .ifCond .le 15, .aload 0, .dup, .getfield 101, .iconst 1, .isub, .putfield 101, .return_]
def xq_82 : List Nat := [0, 1, 4, 7, 8, 11, 22, 23, 26, 29, 30, 31, 34, 35, 36, 39]
-- 83: ExtentShelf.putWord(III)V
def xc_83 : List Instr := [.aload 0, .invokeinterface 82 1, .aload 0, .getfield 96, .iload 1, .iload 2, .iload 3, .invokeinterface 10 4, .return_]
def xq_83 : List Nat := [0, 1, 4, 5, 8, 9, 10, 11, 14]
-- 84: ExtentShelf.putLegWord(III)V
def xc_84 : List Instr := [.aload 0, .aload 0, .getfield 97, .iload 1, .invokeinterface 34 2, .iload 2, .iload 3, .invokeinterface 83 4, .aload 0, .getfield 99, .iload 1, .iload 2, .invokeinterface 16 3, .ifCond .eq 21, .aload 0, .aload 0, .getfield 99, .getfield 34, .iload 2, .iload 3, .invokeinterface 83 4, .return_]
def xq_84 : List Nat := [0, 1, 2, 5, 6, 9, 10, 11, 14, 15, 18, 19, 20, 23, 26, 27, 28, 31, 34, 35, 36, 39]
-- 85: ExtentShelf.beginDraft()V
def xc_85 : List Instr := [.aload 0, .getfield 98, .aload 0, .getfield 97, .getfield 64, .iconst 0, .invokeinterface 17 3, .return_]
def xq_85 : List Nat := [0, 1, 4, 5, 8, 11, 12, 15]
-- 86: ExtentShelf.commitDraft()V
def xc_86 : List Instr := [.aload 0, .getfield 98, .aload 0, .getfield 97, .invokeinterface 21 1, .aload 0, .invokeinterface 70 1, .ifCond .eq 10, .iconst 2, .goto 11, .iconst 1, .iadd, .invokeinterface 19 2, .iconst 0, .istore 1, .iload 1, .iconst 4, .if_icmp .ge 31, .aload 0, .aload 0, .getfield 98, .iload 1, .invokeinterface 87 3, .ifCond .eq 29, .aload 0, .aload 0, .getfield 98, .iload 1, .invokeinterface 88 3, .iinc 1 (1), .goto 15, .aload 0, .getfield 97, .aload 0, .getfield 98, .getfield 64, .iconst 0, .invokeinterface 17 3, .aload 0, .getfield 99, .getfield 33, .iconst (-1), .if_icmp .eq 54, .aload 0, .getfield 97, .aload 0, .getfield 99, .getfield 33, .invokeinterface 34 2, .iconst (-1), .if_icmp .ne 54, .aload 0, .getfield 99, .invokeinterface 15 1, .return_]
def xq_86 : List Nat := [0, 1, 4, 5, 8, 11, 12, 15, 18, 19, 22, 23, 24, 27, 28, 29, 30, 31, 34, 35, 36, 39, 40, 43, 46, 47, 48, 51, 52, 55, 58, 61, 62, 65, 66, 69, 72, 73, 76, 77, 80, 83, 84, 87, 88, 91, 92, 95, 98, 101, 102, 105, 106, 109, 112]
-- 87: ExtentShelf.isListedAndPresent(LExtentShelf$Table;I)Z
def xc_87 : List Instr := [.aload 1, .iload 2, .invokeinterface 22 2, .ifCond .eq 11, .aload 0, .getfield 96, .iload 2, .invokeinterface 0 2, .ifCond .ne 11, .iconst 1, .goto 12, .iconst 0, .freturn]
def xq_87 : List Nat := [0, 1, 2, 5, 8, 9, 12, 13, 16, 19, 20, 23, 24]
-- 88: ExtentShelf.writeTable(LExtentShelf$Table;I)V
def xc_88 : List Instr := [.aload 0, .getfield 96, .iload 2, .invokeinterface 7 2, .istore 3, .iconst 0, .istore 4, .iload 4, .iconst 51, .if_icmp .ge 24, .aload 0, .invokeinterface 82 1, .aload 0, .getfield 96, .iload 2, .iload 3, .iload 4, .aload 1, .getfield 64, .iload 4, .iaload, .invokeinterface 4 5, .iinc 4 (1), .goto 7, .return_]
def xq_88 : List Nat := [0, 1, 4, 5, 8, 9, 10, 12, 14, 16, 19, 20, 23, 24, 27, 28, 29, 31, 32, 35, 37, 38, 41, 44, 47]
-- 89: ExtentShelf.loseAbsentLeg(II)V
def xc_89 : List Instr := [.iconst 0, .istore 3, .iload 3, .iconst 2, .if_icmp .ge 31, .iload 1, .iload 2, .iload 3, .invokeinterface 74 3, .istore 4, .aload 0, .getfield 97, .iload 4, .invokeinterface 34 2, .iconst (-1), .if_icmp .eq 29, .aload 0, .iload 4, .invokeinterface 79 2, .ifCond .ne 29, .aload 0, .invokeinterface 85 1, .aload 0, .getfield 98, .iload 4, .iconst (-1), .invokeinterface 35 3, .aload 0, .invokeinterface 86 1, .iinc 3 (1), .goto 2, .return_]
def xq_89 : List Nat := [0, 1, 2, 3, 4, 7, 8, 9, 10, 13, 15, 16, 19, 21, 24, 25, 28, 29, 31, 34, 37, 38, 41, 42, 45, 47, 48, 51, 52, 55, 58, 61]
-- 90: ExtentShelf.countFree(LExtentShelf$Table;I)I
def xc_90 : List Instr := [.aload 1, .iload 2, .invokeinterface 23 2, .aload 1, .iload 2, .invokeinterface 37 2, .isub, .aload 0, .getfield 99, .getfield 34, .invokeinterface 75 1, .iload 2, .if_icmp .ne 15, .iconst 1, .goto 16, .iconst 0, .isub, .ireturn]
def xq_90 : List Nat := [0, 1, 2, 5, 6, 7, 10, 11, 12, 15, 18, 21, 22, 25, 26, 29, 30, 31]
-- 91: ExtentShelf.findRoom(IIII)I
def xc_91 : List Instr := [.iload 4, .aload 0, .iload 1, .iload 2, .iload 3, .invokeinterface 93 4, .ior, .istore 5, .iconst (-1), .istore 6, .iconst 0, .istore 7, .iconst 0, .istore 8, .iload 8, .iconst 4, .if_icmp .ge 44, .aload 0, .aload 0, .getfield 98, .iload 8, .invokeinterface 90 3, .istore 9, .aload 0, .aload 0, .getfield 98, .iload 8, .invokeinterface 87 3, .ifCond .eq 42, .iload 5, .iload 8, .ishr, .iconst 1, .iand, .ifCond .ne 42, .iload 9, .iload 7, .if_icmp .le 42, .iload 8, .istore 6, .iload 9, .istore 7, .iinc 8 (1), .goto 14, .iload 6, .iconst (-1), .if_icmp .ne 49, .iconst (-1), .goto 52, .aload 0, .iload 6, .invokeinterface 92 2, .ireturn]
def xq_91 : List Nat := [0, 2, 3, 4, 5, 6, 9, 10, 12, 13, 15, 16, 18, 19, 21, 23, 24, 27, 28, 29, 32, 34, 37, 39, 40, 41, 44, 46, 49, 52, 54, 56, 57, 58, 59, 62, 64, 66, 69, 71, 73, 75, 77, 80, 83, 85, 86, 89, 90, 93, 94, 96, 99]
-- 92: ExtentShelf.leastFreeSpot(I)I
def xc_92 : List Instr := [.iload 1, .iconst 8, .imul, .istore 2, .iload 2, .istore 3, .iload 3, .iload 2, .aload 0, .getfield 98, .iload 1, .invokeinterface 23 2, .iadd, .if_icmp .ge 28, .iload 3, .aload 0, .getfield 99, .getfield 34, .if_icmp .eq 26, .aload 0, .getfield 98, .iload 3, .invokeinterface 36 2, .ifCond .ne 26, .iload 3, .ireturn, .iinc 3 (1), .goto 6, .iconst (-1), .ireturn]
def xq_92 : List Nat := [0, 1, 3, 4, 5, 6, 7, 8, 9, 10, 13, 14, 17, 18, 21, 22, 23, 26, 29, 32, 33, 36, 37, 40, 43, 44, 45, 48, 51, 52]
-- 93: ExtentShelf.groupDisks(III)I
def xc_93 : List Instr := [.aload 0, .getfield 98, .iload 1, .invokeinterface 30 2, .istore 4, .iload 2, .iload 2, .iload 4, .irem, .isub, .istore 5, .iconst 0, .istore 6, .iload 5, .istore 7, .iload 7, .iload 5, .iload 4, .iadd, .if_icmp .ge 44, .iconst 0, .istore 8, .iload 8, .iconst 2, .if_icmp .ge 42, .iload 7, .iload 2, .if_icmp .ne 31, .iload 8, .iload 3, .if_icmp .eq 40, .iload 6, .aload 0, .iload 1, .iload 7, .iload 8, .invokeinterface 74 3, .invokeinterface 94 2, .ior, .istore 6, .iinc 8 (1), .goto 22, .iinc 7 (1), .goto 15, .iload 6, .ireturn]
def xq_93 : List Nat := [0, 1, 4, 5, 8, 10, 11, 12, 14, 15, 16, 18, 19, 21, 23, 25, 27, 29, 31, 32, 35, 36, 38, 40, 41, 44, 46, 47, 50, 52, 53, 56, 58, 59, 60, 62, 64, 67, 70, 71, 73, 76, 79, 82, 85, 87]
-- 94: ExtentShelf.disksOfLeg(I)I
def xc_94 : List Instr := [.aload 0, .getfield 98, .iload 1, .invokeinterface 34 2, .invokeinterface 95 1, .istore 2, .aload 0, .getfield 99, .getfield 33, .iload 1, .if_icmp .ne 18, .iload 2, .aload 0, .getfield 99, .getfield 34, .invokeinterface 95 1, .ior, .goto 19, .iload 2, .ireturn]
def xq_94 : List Nat := [0, 1, 4, 5, 8, 11, 12, 13, 16, 19, 20, 23, 24, 25, 28, 31, 34, 35, 38, 39]
-- 95: ExtentShelf.bitOfDisk(I)I
def xc_95 : List Instr := [.iload 0, .iconst (-1), .if_icmp .ne 5, .iconst 0, .goto 10, .iconst 1, .iload 0, .iconst 8, .idiv, .ishl, .ireturn]
def xq_95 : List Nat := [0, 1, 2, 5, 6, 9, 10, 11, 13, 14, 15]
-- 96: ExtentShelf.giveRoom(III)V
def xc_96 : List Instr := [.aload 0, .iload 1, .iload 2, .iload 3, .iconst 0, .invokeinterface 91 5, .istore 4, .iload 4, .iconst (-1), .if_icmp .ne 11, .new 2, .aload 0, .getfield 98, .iload 1, .iload 2, .iload 3, .invokeinterface 74 3, .iload 4, .invokeinterface 35 3, .return_]
def xq_96 : List Nat := [0, 1, 2, 3, 4, 5, 8, 10, 12, 13, 16, 27, 28, 31, 32, 33, 34, 37, 39, 42]
-- 97: ExtentShelf.fillElements(II)V
def xc_97 : List Instr := [.aload 0, .getfield 98, .iload 1, .invokeinterface 29 2, .iconst 2, .if_icmp .ne 8, .iconst 2, .goto 9, .iconst 1, .istore 3, .aload 0, .getfield 98, .iload 1, .invokeinterface 31 2, .istore 4, .iload 2, .istore 5, .iload 5, .iload 4, .if_icmp .ge 34, .iconst 0, .istore 6, .iload 6, .iload 3, .if_icmp .ge 32, .aload 0, .iload 1, .iload 5, .iload 6, .invokeinterface 96 4, .iinc 6 (1), .goto 22, .iinc 5 (1), .goto 17, .iload 2, .istore 5, .iload 5, .iload 4, .if_icmp .ge 54, .iconst 0, .istore 6, .iload 6, .iload 3, .if_icmp .ge 52, .aload 0, .iload 1, .iload 5, .iload 6, .invokeinterface 74 3, .invokeinterface 98 2, .iinc 6 (1), .goto 41, .iinc 5 (1), .goto 36, .aload 0, .invokeinterface 86 1, .return_]
def xq_97 : List Nat := [0, 1, 4, 5, 8, 9, 12, 13, 16, 17, 18, 19, 22, 23, 26, 28, 29, 31, 33, 35, 38, 39, 41, 43, 44, 47, 48, 49, 51, 53, 56, 59, 62, 65, 68, 69, 71, 73, 75, 78, 79, 81, 83, 84, 87, 88, 89, 91, 93, 96, 99, 102, 105, 108, 111, 112, 115]
-- 98: ExtentShelf.clearLeg(I)V
def xc_98 : List Instr := [.iconst 0, .istore 2, .iload 2, .iconst 4, .if_icmp .ge 15, .aload 0, .aload 0, .getfield 98, .iload 1, .invokeinterface 34 2, .iload 2, .iconst 0, .invokeinterface 83 4, .iinc 2 (1), .goto 2, .return_]
def xq_98 : List Nat := [0, 1, 2, 3, 4, 7, 8, 9, 12, 13, 16, 17, 18, 21, 24, 27]
-- 99: ExtentShelf.findRoomForLostLegs(I)I
def xc_99 : List Instr := [.iconst 0, .istore 2, .iconst 0, .istore 3, .iload 3, .aload 0, .getfield 97, .iload 1, .invokeinterface 31 2, .if_icmp .ge 26, .aload 0, .iload 1, .iload 3, .invokeinterface 100 3, .istore 4, .iload 4, .iconst (-1), .if_icmp .eq 24, .aload 0, .iload 1, .iload 3, .iload 4, .invokeinterface 96 4, .iinc 2 (1), .iinc 3 (1), .goto 4, .iload 2, .ireturn]
def xq_99 : List Nat := [0, 1, 2, 3, 4, 5, 6, 9, 10, 13, 16, 17, 18, 19, 22, 24, 26, 27, 30, 31, 32, 33, 35, 38, 41, 44, 47, 48]
-- 100: ExtentShelf.lostLeg(II)I
def xc_100 : List Instr := [.aload 0, .getfield 97, .iload 1, .iload 2, .iconst 0, .invokeinterface 74 3, .invokeinterface 34 2, .iconst (-1), .if_icmp .eq 11, .iconst 1, .goto 12, .iconst 0, .istore 3, .aload 0, .getfield 97, .iload 1, .iload 2, .iconst 1, .invokeinterface 74 3, .invokeinterface 34 2, .iconst (-1), .if_icmp .eq 24, .iconst 1, .goto 25, .iconst 0, .istore 4, .iload 3, .iload 4, .if_icmp .ne 31, .iconst (-1), .ireturn, .iload 3, .ifCond .eq 35, .iconst 1, .goto 36, .iconst 0, .ireturn]
def xq_100 : List Nat := [0, 1, 4, 5, 6, 7, 10, 13, 14, 17, 18, 21, 22, 23, 24, 27, 28, 29, 30, 33, 36, 37, 40, 41, 44, 45, 47, 48, 50, 53, 54, 55, 56, 59, 60, 63, 64]
-- 101: ExtentShelf.copyToNewLegs(I)V
def xc_101 : List Instr := [.iconst 0, .istore 2, .iload 2, .aload 0, .getfield 97, .iload 1, .invokeinterface 31 2, .if_icmp .ge 38, .aload 0, .iload 1, .iload 2, .invokeinterface 100 3, .istore 3, .iload 3, .iconst (-1), .if_icmp .eq 36, .aload 0, .getfield 97, .iload 1, .iload 2, .iconst 1, .iload 3, .isub, .invokeinterface 74 3, .invokeinterface 34 2, .istore 4, .aload 0, .iload 4, .aload 0, .getfield 98, .iload 1, .iload 2, .iload 3, .invokeinterface 74 3, .invokeinterface 34 2, .invokeinterface 102 3, .iinc 2 (1), .goto 2, .return_]
def xq_101 : List Nat := [0, 1, 2, 3, 4, 7, 8, 11, 14, 15, 16, 17, 20, 21, 22, 23, 26, 27, 30, 31, 32, 33, 34, 35, 38, 41, 43, 44, 46, 47, 50, 51, 52, 53, 56, 59, 62, 65, 68]
-- 102: ExtentShelf.copyExtent(II)V
def xc_102 : List Instr := [.iconst 0, .istore 3, .iload 3, .iconst 4, .if_icmp .ge 16, .aload 0, .iload 2, .iload 3, .aload 0, .getfield 96, .iload 1, .iload 3, .invokeinterface 9 3, .invokeinterface 83 4, .iinc 3 (1), .goto 2, .return_]
def xq_102 : List Nat := [0, 1, 2, 3, 4, 7, 8, 9, 10, 11, 14, 15, 16, 19, 22, 25, 28]
-- 103: ExtentShelf.findRoomToMove(I)I
def xc_103 : List Instr := [.aload 0, .invokeinterface 85 1, .iload 1, .iconst 10, .idiv, .istore 2, .iload 1, .iconst 10, .irem, .iconst 2, .idiv, .istore 3, .aload 0, .iload 2, .iload 3, .iload 1, .iconst 2, .irem, .iconst 1, .aload 0, .getfield 99, .getfield 32, .ishl, .invokeinterface 91 5, .ireturn]
def xq_103 : List Nat := [0, 1, 4, 5, 7, 8, 9, 10, 12, 13, 14, 15, 16, 17, 18, 19, 20, 21, 22, 23, 24, 27, 30, 31, 34]
-- 104: ExtentShelf.copyNextWord()V
def xc_104 : List Instr := [.aload 0, .getfield 97, .aload 0, .getfield 99, .getfield 33, .invokeinterface 34 2, .istore 1, .aload 0, .aload 0, .getfield 99, .getfield 34, .aload 0, .getfield 99, .getfield 35, .aload 0, .getfield 96, .iload 1, .aload 0, .getfield 99, .getfield 35, .invokeinterface 9 3, .invokeinterface 83 4, .aload 0, .getfield 99, .dup, .getfield 35, .iconst 1, .iadd, .putfield 35, .aload 0, .getfield 99, .getfield 35, .iconst 4, .if_icmp .ne 50, .aload 0, .invokeinterface 85 1, .aload 0, .getfield 98, .aload 0, .getfield 99, .getfield 33, .aload 0, .getfield 99, .getfield 34, .invokeinterface 35 3, .aload 0, .invokeinterface 86 1, .aload 0, .getfield 99, .invokeinterface 15 1, .return_]
def xq_104 : List Nat := [0, 1, 4, 5, 8, 11, 14, 15, 16, 17, 20, 23, 24, 27, 30, 31, 34, 35, 36, 39, 42, 45, 48, 49, 52, 53, 56, 57, 58, 61, 62, 65, 68, 69, 72, 73, 76, 77, 80, 81, 84, 87, 88, 91, 94, 97, 98, 101, 102, 105, 108]
-- 105: ExtentShelf.loadNewestTable()V
def xc_105 : List Instr := [.aload 0, .getfield 96, .invokeinterface 8 1, .istore 1, .iload 1, .iconst (-1), .if_icmp .ne 11, .aload 0, .getfield 97, .invokeinterface 18 1, .goto 18, .aload 0, .getfield 97, .aload 0, .getfield 96, .getfield 0, .iload 1, .invokeinterface 17 3, .return_]
def xq_105 : List Nat := [0, 1, 4, 7, 8, 9, 10, 13, 14, 17, 20, 23, 24, 27, 28, 31, 34, 35, 38]
-- 106: ExtentShelf.alignTwins(II)V
def xc_106 : List Instr := [.aload 0, .iload 1, .invokeinterface 79 2, .ifCond .eq 18, .aload 0, .iload 2, .invokeinterface 79 2, .ifCond .eq 18, .aload 0, .aload 0, .getfield 97, .iload 1, .invokeinterface 34 2, .aload 0, .getfield 97, .iload 2, .invokeinterface 34 2, .invokeinterface 102 3, .return_]
def xq_106 : List Nat := [0, 1, 2, 5, 8, 9, 10, 13, 16, 17, 18, 21, 22, 25, 26, 29, 30, 33, 36]
-- 107: ExtentShelfModel.thrown()I
def xc_107 : List Instr := [.aload 0, .getfield 128, .ireturn]
def xq_107 : List Nat := [0, 1, 4]
-- 108: ExtentShelfModel.isDisk(I)Z
def xc_108 : List Instr := [.iload 0, .ifCond .lt 7, .iload 0, .iconst 4, .if_icmp .ge 7, .iconst 1, .goto 8, .iconst 0, .freturn]
def xq_108 : List Nat := [0, 1, 4, 5, 6, 9, 10, 13, 14]
-- 109: ExtentShelfModel.mayWrite()Z
def xc_109 : List Instr := [.aload 0, .getfield 132, .ifCond .ne 5, .iconst 0, .freturn, .aload 0, .getfield 133, .ifCond .ne 19, .aload 0, .iconst 0, .putstatic 132, .aload 0, .iconst (-1), .putfield 133, .aload 0, .iconst (-1), .putfield 136, .iconst 0, .freturn, .aload 0, .aload 0, .getfield 133, .ifCond .le 28, .aload 0, .getfield 133, .iconst 1, .isub, .goto 30, .aload 0, .getfield 133, .putfield 133, .iconst 1, .freturn]
def xq_109 : List Nat := [0, 1, 4, 7, 8, 9, 10, 13, 16, 17, 18, 21, 22, 23, 26, 27, 28, 31, 32, 33, 34, 35, 38, 41, 42, 45, 46, 47, 50, 51, 54, 57, 58]
-- 110: ExtentShelfModel.put(III)V
def xc_110 : List Instr := [.aload 0, .invokeinterface 109 1, .ifCond .eq 14, .aload 0, .getfield 131, .iconst 4, .iload 1, .iconst 1, .isub, .imul, .iload 2, .iadd, .iload 3, .iastore, .return_]
def xq_110 : List Nat := [0, 1, 4, 7, 8, 11, 12, 13, 14, 15, 16, 17, 18, 19, 20]
-- 111: ExtentShelfModel.get(II)I
def xc_111 : List Instr := [.aload 0, .getfield 131, .iconst 4, .iload 1, .iconst 1, .isub, .imul, .iload 2, .iadd, .iaload, .ireturn]
def xq_111 : List Nat := [0, 1, 4, 5, 6, 7, 8, 9, 10, 11, 12]
-- 112: ExtentShelfModel.kindOf([II)I
def xc_112 : List Instr := [.aload 0, .iconst 5, .iload 1, .iadd, .iaload, .ifCond .ne 8, .iconst (-1), .goto 17, .aload 0, .iconst 5, .iload 1, .iadd, .iaload, .iconst 4, .irem, .iconst 1, .isub, .ireturn]
def xq_112 : List Nat := [0, 1, 2, 3, 4, 5, 8, 9, 12, 13, 14, 15, 16, 17, 18, 19, 20, 21]
-- 113: ExtentShelfModel.columnsOf([II)I
def xc_113 : List Instr := [.aload 0, .iconst 5, .iload 1, .iadd, .iaload, .iconst 4, .idiv, .iconst 8, .irem, .ireturn]
def xq_113 : List Nat := [0, 1, 2, 3, 4, 5, 6, 7, 9, 10]
-- 114: ExtentShelfModel.elementsOf([II)I
def xc_114 : List Instr := [.aload 0, .iconst 5, .iload 1, .iadd, .iaload, .iconst 32, .idiv, .ireturn]
def xq_114 : List Nat := [0, 1, 2, 3, 4, 5, 7, 8]
-- 115: ExtentShelfModel.isVolume(I)Z
def xc_115 : List Instr := [.iload 1, .ifCond .lt 14, .iload 1, .iconst 4, .if_icmp .ge 14, .aload 0, .getfield 134, .iconst 5, .iload 1, .iadd, .iaload, .ifCond .eq 14, .iconst 1, .goto 15, .iconst 0, .freturn]
def xq_115 : List Nat := [0, 1, 4, 5, 6, 9, 10, 13, 14, 15, 16, 17, 20, 21, 24, 25]
-- 116: ExtentShelfModel.holds([II)Z
def xc_116 : List Instr := [.iconst 0, .istore 2, .iconst 9, .istore 3, .iload 3, .iconst 49, .if_icmp .ge 20, .iload 2, .ifCond .ne 14, .aload 0, .iload 3, .iaload, .iload 1, .if_icmp .ne 16, .iconst 1, .goto 17, .iconst 0, .istore 2, .iinc 3 (1), .goto 4, .iload 2, .freturn]
def xq_116 : List Nat := [0, 1, 2, 4, 5, 6, 8, 11, 12, 15, 16, 17, 18, 19, 22, 23, 26, 27, 28, 31, 34, 35]
-- 117: ExtentShelfModel.legsOn(I)I
def xc_117 : List Instr := [.iconst 0, .istore 2, .iconst 9, .istore 3, .iload 3, .iconst 49, .if_icmp .ge 30, .aload 0, .getfield 134, .iload 3, .iaload, .ifCond .le 26, .aload 0, .getfield 134, .iload 3, .iaload, .iconst 1, .isub, .iconst 8, .idiv, .iload 1, .if_icmp .ne 26, .iload 2, .iconst 1, .iadd, .goto 27, .iload 2, .istore 2, .iinc 3 (1), .goto 4, .iload 2, .ireturn]
def xq_117 : List Nat := [0, 1, 2, 4, 5, 6, 8, 11, 12, 15, 16, 17, 20, 21, 24, 25, 26, 27, 28, 30, 31, 32, 35, 36, 37, 38, 41, 42, 43, 46, 49, 50]
-- 118: ExtentShelfModel.isOneAbsent()Z
def xc_118 : List Instr := [.iconst 0, .istore 1, .iconst 0, .istore 2, .iload 2, .iconst 4, .if_icmp .ge 27, .iload 1, .ifCond .ne 21, .aload 0, .getfield 134, .iconst 1, .iload 2, .iadd, .iaload, .ifCond .le 23, .aload 0, .getfield 129, .iload 2, .baload, .ifCond .ne 23, .iconst 1, .goto 24, .iconst 0, .istore 1, .iinc 2 (1), .goto 4, .iload 1, .freturn]
def xq_118 : List Nat := [0, 1, 2, 3, 4, 5, 6, 9, 10, 13, 14, 17, 18, 19, 20, 21, 24, 25, 28, 29, 30, 33, 34, 37, 38, 39, 42, 45, 46]
-- 119: ExtentShelfModel.begin()V
def xc_119 : List Instr := [.iconst 0, .istore 1, .iload 1, .iconst 51, .if_icmp .ge 15, .aload 0, .getfield 135, .iload 1, .aload 0, .getfield 134, .iload 1, .iaload, .iastore, .iinc 1 (1), .goto 2, .return_]
def xq_119 : List Nat := [0, 1, 2, 3, 5, 8, 9, 12, 13, 14, 17, 18, 19, 20, 23, 26]
-- 120: ExtentShelfModel.numberOf(II)I
def xc_120 : List Instr := [.iconst 102, .iload 1, .imul, .iconst 51, .iload 2, .imul, .iadd, .istore 3, .iconst 0, .istore 4, .iconst 0, .istore 5, .iload 5, .iconst 49, .if_icmp .ge 30, .iload 4, .aload 0, .getfield 130, .iload 3, .iload 5, .iadd, .iaload, .iload 5, .iconst 1, .iadd, .imul, .iadd, .istore 4, .iinc 5 (1), .goto 12, .iload 4, .aload 0, .getfield 130, .iload 3, .iconst 49, .iadd, .iaload, .if_icmp .ne 56, .aload 0, .getfield 130, .iload 3, .iconst 50, .iadd, .iaload, .aload 0, .getfield 130, .iload 3, .iaload, .if_icmp .ne 56, .aload 0, .getfield 130, .iload 3, .iaload, .ifCond .le 56, .iconst 1, .goto 57, .iconst 0, .istore 5, .iload 5, .ifCond .eq 65, .aload 0, .getfield 130, .iload 3, .iaload, .goto 66, .iconst 0, .ireturn]
def xq_120 : List Nat := [0, 2, 3, 4, 6, 7, 8, 9, 10, 11, 13, 14, 16, 18, 20, 23, 25, 26, 29, 30, 32, 33, 34, 36, 37, 38, 39, 40, 42, 45, 48, 50, 51, 54, 55, 57, 58, 59, 62, 63, 66, 67, 69, 70, 71, 72, 75, 76, 77, 80, 81, 84, 85, 86, 89, 90, 93, 94, 96, 98, 101, 102, 105, 106, 107, 110, 111]
-- 121: ExtentShelfModel.slotToWrite(I)I
def xc_121 : List Instr := [.aload 0, .iload 1, .iconst 0, .invokeinterface 120 3, .istore 2, .aload 0, .iload 1, .iconst 1, .invokeinterface 120 3, .istore 3, .iload 2, .ifCond .eq 14, .iload 3, .ifCond .ne 20, .iload 2, .ifCond .ne 18, .iconst 0, .goto 19, .iconst 1, .ireturn, .iload 2, .iload 3, .if_icmp .ge 25, .iconst 0, .goto 26, .iconst 1, .ireturn]
def xq_121 : List Nat := [0, 1, 2, 3, 6, 7, 8, 9, 10, 13, 14, 15, 18, 19, 22, 23, 26, 27, 30, 31, 32, 33, 34, 37, 38, 41, 42]
-- 122: ExtentShelfModel.writeTo(I[I)V
def xc_122 : List Instr := [.iconst 102, .iload 1, .imul, .iconst 51, .aload 0, .iload 1, .invokeinterface 121 2, .imul, .iadd, .istore 3, .iconst 0, .istore 4, .iload 4, .iconst 51, .if_icmp .ge 32, .aload 0, .getfield 132, .ifCond .eq 32, .aload 0, .invokeinterface 109 1, .ifCond .eq 30, .aload 0, .getfield 130, .iload 3, .iload 4, .iadd, .aload 2, .iload 4, .iaload, .iastore, .iinc 4 (1), .goto 12, .return_]
def xq_122 : List Nat := [0, 2, 3, 4, 6, 7, 8, 11, 12, 13, 14, 15, 17, 19, 21, 24, 25, 28, 31, 32, 35, 38, 39, 42, 43, 45, 46, 47, 49, 50, 51, 54, 57]
-- 123: ExtentShelfModel.change()V
def xc_123 : List Instr := [.aload 0, .getfield 135, .iconst 0, .aload 0, .getfield 134, .iconst 0, .iaload, .aload 0, .invokeinterface 118 1, .ifCond .eq 12, .iconst 2, .goto 13, .iconst 1, .iadd, .iastore, .aload 0, .getfield 135, .iconst 50, .aload 0, .getfield 135, .iconst 0, .iaload, .iastore, .aload 0, .getfield 135, .iconst 49, .iconst 0, .iastore, .iconst 0, .istore 1, .iload 1, .iconst 49, .if_icmp .ge 52, .aload 0, .getfield 135, .iconst 49, .aload 0, .getfield 135, .iconst 49, .iaload, .aload 0, .getfield 135, .iload 1, .iaload, .iload 1, .iconst 1, .iadd, .imul, .iadd, .iastore, .iinc 1 (1), .goto 30, .iconst 0, .istore 1, .iload 1, .iconst 4, .if_icmp .ge 79, .aload 0, .getfield 132, .ifCond .eq 79, .aload 0, .getfield 135, .iconst 1, .iload 1, .iadd, .iaload, .ifCond .le 77, .aload 0, .getfield 129, .iload 1, .baload, .ifCond .eq 77, .aload 0, .iload 1, .aload 0, .getfield 135, .invokeinterface 122 3, .iinc 1 (1), .goto 54, .aload 0, .getfield 132, .ifCond .ne 83, .return_, .iconst 9, .iconst 10, .aload 0, .getfield 137, .imul, .iadd, .aload 0, .getfield 138, .iadd, .istore 1, .aload 0, .aload 0, .getfield 139, .ifCond .le 108, .aload 0, .getfield 135, .iload 1, .iaload, .aload 0, .getfield 134, .iload 1, .iaload, .if_icmp .eq 108, .iconst 0, .goto 110, .aload 0, .getfield 139, .putfield 139, .iconst 0, .istore 2, .iload 2, .iconst 51, .if_icmp .ge 126, .aload 0, .getfield 134, .iload 2, .aload 0, .getfield 135, .iload 2, .iaload, .iastore, .iinc 2 (1), .goto 113, .return_]
def xq_123 : List Nat := [0, 1, 4, 5, 6, 9, 10, 11, 12, 15, 18, 19, 22, 23, 24, 25, 26, 29, 31, 32, 35, 36, 37, 38, 39, 42, 44, 45, 46, 47, 48, 49, 51, 54, 55, 58, 60, 61, 64, 66, 67, 68, 71, 72, 73, 74, 75, 76, 77, 78, 79, 82, 85, 86, 87, 88, 89, 92, 93, 96, 99, 100, 103, 104, 105, 106, 107, 110, 111, 114, 115, 116, 119, 120, 121, 122, 125, 128, 131, 134, 135, 138, 141, 142, 144, 146, 147, 150, 151, 152, 153, 156, 157, 158, 159, 160, 163, 166, 167, 170, 171, 172, 173, 176, 177, 178, 181, 182, 185, 186, 189, 192, 193, 194, 195, 197, 200, 201, 204, 205, 206, 209, 210, 211, 212, 215, 218]
-- 124: ExtentShelfModel.ended(I)I
def xc_124 : List Instr := [.aload 0, .aload 0, .getfield 132, .ifCond .eq 6, .iconst 0, .goto 7, .iconst 1, .putfield 128, .aload 0, .getfield 132, .ifCond .eq 13, .iload 1, .goto 14, .iconst 0, .ireturn]
def xq_124 : List Nat := [0, 1, 2, 5, 8, 9, 12, 13, 16, 17, 20, 23, 24, 27, 28]
-- 125: ExtentShelfModel.isFree([II)Z
def xc_125 : List Instr := [.aload 1, .iload 2, .invokeinterface 116 2, .ifCond .ne 13, .aload 0, .getfield 136, .ifCond .lt 11, .aload 0, .getfield 139, .iload 2, .if_icmp .eq 13, .iconst 1, .goto 14, .iconst 0, .freturn]
def xq_125 : List Nat := [0, 1, 2, 5, 8, 9, 12, 15, 16, 19, 20, 23, 24, 27, 28]
-- 126: ExtentShelfModel.freeOn([II)I
def xc_126 : List Instr := [.iconst 0, .istore 3, .iconst 0, .istore 4, .iload 4, .aload 1, .iconst 1, .iload 2, .iadd, .iaload, .if_icmp .ge 30, .aload 0, .aload 1, .iconst 1, .iconst 8, .iload 2, .imul, .iadd, .iload 4, .iadd, .invokeinterface 125 3, .ifCond .eq 26, .iload 3, .iconst 1, .iadd, .goto 27, .iload 3, .istore 3, .iinc 4 (1), .goto 4, .iload 3, .ireturn]
def xq_126 : List Nat := [0, 1, 2, 3, 5, 7, 8, 9, 10, 11, 12, 15, 16, 17, 18, 20, 21, 22, 23, 25, 26, 29, 32, 33, 34, 35, 38, 39, 40, 43, 46, 47]
-- 127: ExtentShelfModel.isBeside([IIII)Z
def xc_127 : List Instr := [.aload 0, .iload 1, .invokeinterface 112 2, .istore 4, .iload 4, .iconst 1, .if_icmp .ne 33, .iload 2, .iconst 2, .idiv, .aload 0, .iload 1, .invokeinterface 113 2, .idiv, .iload 3, .iconst 2, .idiv, .aload 0, .iload 1, .invokeinterface 113 2, .idiv, .if_icmp .ne 31, .iload 2, .iconst 2, .idiv, .iload 3, .iconst 2, .idiv, .if_icmp .eq 31, .iconst 1, .goto 49, .iconst 0, .goto 49, .iload 4, .iconst 2, .if_icmp .ne 48, .iload 2, .iconst 2, .idiv, .iload 3, .iconst 2, .idiv, .if_icmp .ne 48, .iload 2, .iload 3, .if_icmp .eq 48, .iconst 1, .goto 49, .iconst 0, .freturn]
def xq_127 : List Nat := [0, 1, 2, 5, 7, 9, 10, 13, 14, 15, 16, 17, 18, 21, 22, 23, 24, 25, 26, 27, 30, 31, 34, 35, 36, 37, 38, 39, 40, 43, 44, 47, 48, 51, 53, 54, 57, 58, 59, 60, 61, 62, 63, 66, 67, 68, 71, 72, 75, 76]
-- 128: ExtentShelfModel.meets([IIII)Z
def xc_128 : List Instr := [.aload 0, .getfield 136, .ifCond .lt 27, .aload 0, .getfield 139, .ifCond .le 27, .aload 0, .getfield 137, .iload 2, .if_icmp .ne 27, .aload 0, .getfield 139, .iconst 1, .isub, .iconst 8, .idiv, .iload 4, .if_icmp .ne 27, .aload 1, .iload 2, .aload 0, .getfield 138, .iload 3, .invokeinterface 127 4, .ifCond .eq 27, .iconst 1, .goto 28, .iconst 0, .istore 5, .iconst 0, .istore 6, .iload 6, .iconst 2, .aload 1, .iload 2, .invokeinterface 114 2, .imul, .if_icmp .ge 71, .aload 1, .iconst 9, .iconst 10, .iload 2, .imul, .iadd, .iload 6, .iadd, .iaload, .istore 7, .iload 5, .ifCond .ne 65, .aload 1, .iload 2, .iload 6, .iload 3, .invokeinterface 127 4, .ifCond .eq 67, .iload 7, .ifCond .le 67, .iload 7, .iconst 1, .isub, .iconst 8, .idiv, .iload 4, .if_icmp .ne 67, .iconst 1, .goto 68, .iconst 0, .istore 5, .iinc 6 (1), .goto 31, .iload 5, .freturn]
def xq_128 : List Nat := [0, 1, 4, 7, 8, 11, 14, 15, 18, 19, 22, 23, 26, 27, 28, 30, 31, 33, 36, 37, 38, 39, 42, 43, 46, 49, 50, 53, 54, 56, 57, 59, 61, 62, 63, 64, 67, 68, 71, 72, 74, 76, 77, 78, 79, 81, 82, 83, 85, 87, 90, 91, 92, 94, 95, 98, 101, 103, 106, 108, 109, 110, 112, 113, 115, 118, 119, 122, 123, 125, 128, 131, 133]
-- 129: ExtentShelfModel.room([IIII)I
def xc_129 : List Instr := [.iconst (-1), .istore 5, .iconst 0, .istore 6, .iconst 3, .istore 7, .iload 7, .ifCond .lt 48, .iload 7, .iload 4, .if_icmp .eq 23, .aload 0, .getfield 129, .iload 7, .baload, .ifCond .eq 23, .aload 0, .aload 1, .iload 2, .iload 3, .iload 7, .invokeinterface 128 5, .ifCond .eq 25, .iconst 0, .goto 29, .aload 0, .aload 1, .iload 7, .invokeinterface 126 3, .istore 8, .iload 8, .ifCond .le 37, .iload 8, .iload 6, .if_icmp .lt 37, .iload 7, .goto 38, .iload 5, .istore 5, .iload 8, .iload 6, .if_icmp .le 44, .iload 8, .goto 45, .iload 6, .istore 6, .iinc 7 (-1), .goto 6, .iload 5, .ifCond .ge 52, .iconst 0, .ireturn, .iconst 0, .istore 7, .iload 7, .iconst 8, .if_icmp .ge 78, .aload 0, .aload 1, .iconst 1, .iconst 8, .iload 5, .imul, .iadd, .iload 7, .iadd, .invokeinterface 125 3, .ifCond .eq 76, .iconst 1, .iconst 8, .iload 5, .imul, .iadd, .iload 7, .iadd, .ireturn, .iinc 7 (1), .goto 54, .iconst 0, .ireturn]
def xq_129 : List Nat := [0, 1, 3, 4, 6, 7, 9, 11, 14, 16, 18, 21, 22, 25, 27, 28, 31, 32, 33, 34, 35, 37, 40, 43, 44, 47, 48, 49, 51, 54, 56, 58, 61, 63, 65, 68, 70, 73, 75, 77, 79, 81, 84, 86, 89, 91, 93, 96, 99, 101, 104, 105, 106, 107, 109, 111, 113, 116, 117, 118, 119, 121, 123, 124, 125, 127, 128, 131, 134, 135, 137, 139, 140, 141, 143, 144, 145, 148, 151, 152]
-- 130: ExtentShelfModel.find(II)Z
def xc_130 : List Instr := [.aload 0, .getfield 135, .iload 1, .invokeinterface 114 2, .istore 3, .iconst 2, .iload 2, .imul, .istore 4, .iload 4, .iconst 2, .iload 3, .imul, .if_icmp .ge 56, .iload 4, .iconst 2, .irem, .ifCond .eq 24, .aload 0, .getfield 135, .iload 1, .invokeinterface 112 2, .iconst 2, .if_icmp .ne 54, .aload 0, .getfield 135, .iconst 9, .iconst 10, .iload 1, .imul, .iadd, .iload 4, .iadd, .aload 0, .aload 0, .getfield 135, .iload 1, .iload 4, .iconst (-1), .invokeinterface 129 5, .iastore, .aload 0, .getfield 135, .iconst 9, .iconst 10, .iload 1, .imul, .iadd, .iload 4, .iadd, .iaload, .ifCond .ne 54, .iconst 0, .freturn, .iinc 4 (1), .goto 9, .iconst 1, .freturn]
def xq_130 : List Nat := [0, 1, 4, 5, 8, 9, 10, 11, 12, 14, 16, 17, 18, 19, 22, 24, 25, 26, 29, 30, 33, 34, 37, 38, 41, 42, 45, 47, 49, 50, 51, 52, 54, 55, 56, 57, 60, 61, 63, 64, 67, 68, 69, 72, 74, 76, 77, 78, 79, 81, 82, 83, 86, 87, 88, 91, 94, 95]
-- 131: ExtentShelfModel.clear(II)V
def xc_131 : List Instr := [.iconst 2, .iload 2, .imul, .istore 3, .iload 3, .iconst 2, .aload 0, .getfield 135, .iload 1, .invokeinterface 114 2, .imul, .if_icmp .ge 46, .iconst 0, .istore 4, .iload 4, .iconst 4, .if_icmp .ge 44, .aload 0, .getfield 135, .iconst 9, .iconst 10, .iload 1, .imul, .iadd, .iload 3, .iadd, .iaload, .ifCond .le 44, .aload 0, .aload 0, .getfield 135, .iconst 9, .iconst 10, .iload 1, .imul, .iadd, .iload 3, .iadd, .iaload, .iload 4, .iconst 0, .invokeinterface 110 4, .iinc 4 (1), .goto 14, .iinc 3 (1), .goto 4, .return_]
def xq_131 : List Nat := [0, 1, 2, 3, 4, 5, 6, 7, 10, 11, 14, 15, 18, 19, 21, 23, 24, 27, 28, 31, 33, 35, 36, 37, 38, 39, 40, 41, 44, 45, 46, 49, 51, 53, 54, 55, 56, 57, 58, 59, 61, 62, 65, 68, 71, 74, 77]
-- 132: ExtentShelfModel.listed()I
def xc_132 : List Instr := [.iconst 0, .istore 1, .iconst 0, .istore 2, .iload 2, .iconst 4, .if_icmp .ge 22, .aload 0, .getfield 134, .iconst 1, .iload 2, .iadd, .iaload, .ifCond .le 18, .iload 1, .iconst 1, .iadd, .goto 19, .iload 1, .istore 1, .iinc 2 (1), .goto 4, .iload 1, .ireturn]
def xq_132 : List Nat := [0, 1, 2, 3, 4, 5, 6, 9, 10, 13, 14, 15, 16, 17, 20, 21, 22, 23, 26, 27, 28, 31, 34, 35]
-- 133: ExtentShelfModel.add(II)V
def xc_133 : List Instr := [.aload 0, .aload 0, .getfield 132, .ifCond .ne 6, .iconst 1, .goto 35, .iload 1, .invokeinterface 108 1, .ifCond .eq 15, .iload 2, .iconst 2, .if_icmp .lt 15, .iload 2, .iconst 8, .if_icmp .le 17, .iconst 2, .goto 35, .aload 0, .getfield 134, .iconst 1, .iload 1, .iadd, .iaload, .ifCond .gt 32, .aload 0, .getfield 129, .iload 1, .baload, .ifCond .eq 32, .aload 0, .invokeinterface 118 1, .ifCond .eq 34, .iconst 3, .goto 35, .iconst 0, .putfield 128, .aload 0, .getfield 128, .ifCond .le 40, .return_, .iconst 0, .istore 3, .iload 3, .iconst 32, .if_icmp .ge 56, .aload 0, .getfield 131, .iconst 32, .iload 1, .imul, .iload 3, .iadd, .iconst 0, .iastore, .iinc 3 (1), .goto 42, .aload 0, .invokeinterface 119 1, .aload 0, .getfield 135, .iconst 1, .iload 1, .iadd, .iload 2, .iastore, .aload 0, .invokeinterface 123 1, .aload 0, .aload 0, .iconst 0, .invokeinterface 124 2, .ifCond .ne 77, .aload 0, .getfield 132, .ifCond .eq 77, .iconst 0, .goto 78, .iconst 1, .putfield 128, .return_]
def xq_133 : List Nat := [0, 1, 2, 5, 8, 9, 12, 13, 16, 19, 20, 21, 24, 25, 27, 30, 31, 34, 35, 38, 39, 40, 41, 42, 45, 46, 49, 50, 51, 54, 55, 58, 61, 62, 65, 66, 69, 70, 73, 76, 77, 78, 79, 80, 82, 85, 86, 89, 91, 92, 93, 94, 95, 96, 97, 100, 103, 104, 107, 108, 111, 112, 113, 114, 115, 116, 117, 120, 121, 122, 123, 126, 129, 130, 133, 136, 137, 140, 141, 144]
-- 134: ExtentShelfModel.remove(I)V
def xc_134 : List Instr := [.aload 0, .aload 0, .getfield 132, .ifCond .ne 6, .iconst 1, .goto 12, .iload 1, .invokeinterface 108 1, .ifCond .ne 11, .iconst 2, .goto 12, .iconst 0, .putfield 128, .aload 0, .getfield 128, .ifCond .le 17, .return_, .aload 0, .getfield 136, .ifCond .lt 33, .aload 0, .getfield 139, .ifCond .le 33, .aload 0, .getfield 139, .iconst 1, .isub, .iconst 8, .idiv, .iload 1, .if_icmp .ne 33, .iconst 1, .goto 34, .iconst 0, .istore 2, .aload 0, .aload 0, .getfield 134, .iconst 1, .iload 1, .iadd, .iaload, .ifCond .eq 56, .aload 0, .iload 1, .invokeinterface 117 2, .ifCond .gt 56, .iload 2, .ifCond .ne 56, .aload 0, .invokeinterface 132 1, .iconst 2, .if_icmp .lt 56, .aload 0, .invokeinterface 118 1, .ifCond .eq 58, .iconst 3, .goto 59, .iconst 0, .putfield 128, .aload 0, .getfield 128, .ifCond .le 64, .return_, .aload 0, .invokeinterface 119 1, .aload 0, .getfield 135, .iconst 1, .iload 1, .iadd, .iconst 0, .iastore, .aload 0, .invokeinterface 123 1, .aload 0, .aload 0, .getfield 136, .iload 1, .if_icmp .ne 82, .iconst (-1), .goto 84, .aload 0, .getfield 136, .putfield 136, .aload 0, .aload 0, .getfield 132, .ifCond .eq 91, .iconst 0, .goto 92, .iconst 1, .putfield 128, .return_]
def xq_134 : List Nat := [0, 1, 2, 5, 8, 9, 12, 13, 16, 19, 20, 23, 24, 27, 28, 31, 34, 35, 36, 39, 42, 43, 46, 49, 50, 53, 54, 55, 57, 58, 59, 62, 63, 66, 67, 68, 69, 70, 73, 74, 75, 76, 77, 80, 81, 82, 85, 88, 89, 92, 93, 96, 97, 100, 101, 104, 107, 108, 111, 112, 115, 116, 119, 122, 123, 124, 127, 128, 131, 132, 133, 134, 135, 136, 137, 140, 141, 142, 145, 146, 149, 150, 153, 154, 157, 160, 161, 162, 165, 168, 169, 172, 173, 176]
-- 135: ExtentShelfModel.drop(I)I
def xc_135 : List Instr := [.aload 0, .aload 0, .getfield 132, .ifCond .ne 6, .iconst 1, .goto 12, .iload 1, .invokeinterface 108 1, .ifCond .ne 11, .iconst 2, .goto 12, .iconst 0, .putfield 128, .aload 0, .getfield 128, .ifCond .le 18, .iconst 0, .ireturn, .iconst 0, .istore 2, .iconst 0, .istore 3, .iload 3, .iconst 4, .if_icmp .ge 45, .iload 2, .ifCond .ne 39, .aload 0, .getfield 134, .iconst 1, .iload 3, .iadd, .iaload, .ifCond .le 41, .aload 0, .getfield 129, .iload 3, .baload, .ifCond .eq 41, .iconst 1, .goto 42, .iconst 0, .istore 2, .iinc 3 (1), .goto 22, .aload 0, .aload 0, .getfield 134, .iconst 1, .iload 1, .iadd, .iaload, .ifCond .eq 60, .aload 0, .getfield 129, .iload 1, .baload, .ifCond .ne 60, .iload 2, .ifCond .ne 62, .iconst 3, .goto 63, .iconst 0, .putfield 128, .aload 0, .getfield 128, .ifCond .le 69, .iconst 0, .ireturn, .aload 0, .invokeinterface 119 1, .aload 0, .getfield 135, .iconst 1, .iload 1, .iadd, .iconst 0, .iastore, .iconst 0, .istore 3, .iconst 9, .istore 4, .iload 4, .iconst 49, .if_icmp .ge 108, .aload 0, .getfield 135, .iload 4, .iaload, .ifCond .le 106, .aload 0, .getfield 135, .iload 4, .iaload, .iconst 1, .isub, .iconst 8, .idiv, .iload 1, .if_icmp .ne 106, .aload 0, .getfield 135, .iload 4, .iconst 0, .iastore, .iinc 3 (1), .iinc 4 (1), .goto 82, .aload 0, .invokeinterface 123 1, .aload 0, .iload 3, .invokeinterface 124 2, .ireturn]
def xq_135 : List Nat := [0, 1, 2, 5, 8, 9, 12, 13, 16, 19, 20, 23, 24, 27, 28, 31, 34, 35, 36, 37, 38, 39, 40, 41, 42, 45, 46, 49, 50, 53, 54, 55, 56, 57, 60, 61, 64, 65, 66, 69, 70, 73, 74, 75, 78, 81, 82, 83, 86, 87, 88, 89, 90, 93, 94, 97, 98, 99, 102, 103, 106, 107, 110, 111, 114, 115, 118, 121, 122, 123, 124, 127, 128, 131, 132, 133, 134, 135, 136, 137, 138, 140, 142, 144, 146, 149, 150, 153, 155, 156, 159, 160, 163, 165, 166, 167, 168, 170, 171, 172, 175, 176, 179, 181, 182, 183, 186, 189, 192, 193, 196, 197, 198, 201]
-- 136: ExtentShelfModel.fits(II)Z
def xc_136 : List Instr := [.iload 1, .iconst 1, .if_icmp .lt 12, .iload 1, .iconst 5, .if_icmp .gt 12, .iload 1, .iload 0, .irem, .ifCond .ne 12, .iconst 1, .goto 13, .iconst 0, .freturn]
def xq_136 : List Nat := [0, 1, 2, 5, 6, 7, 10, 11, 12, 13, 16, 17, 20, 21]
-- 137: ExtentShelfModel.make(III)I
def xc_137 : List Instr := [.iload 1, .ifCond .lt 20, .iload 1, .iconst 3, .if_icmp .ge 20, .iload 1, .iconst 1, .if_icmp .ne 15, .iload 2, .iconst 2, .if_icmp .eq 18, .iload 2, .iconst 3, .if_icmp .ne 20, .goto 18, .iload 2, .iconst 1, .if_icmp .ne 20, .iconst 1, .goto 21, .iconst 0, .istore 4, .aload 0, .aload 0, .getfield 132, .ifCond .ne 28, .iconst 1, .goto 42, .iload 4, .ifCond .eq 34, .iload 2, .iload 3, .invokeinterface 136 2, .ifCond .ne 36, .iconst 2, .goto 42, .aload 0, .invokeinterface 118 1, .ifCond .eq 41, .iconst 3, .goto 42, .iconst 0, .putfield 128, .aload 0, .getfield 128, .ifCond .le 48, .iconst 0, .ireturn, .iconst 0, .istore 5, .iload 5, .iconst 4, .if_icmp .ge 62, .aload 0, .getfield 134, .iconst 5, .iload 5, .iadd, .iaload, .ifCond .eq 62, .iinc 5 (1), .goto 50, .aload 0, .invokeinterface 119 1, .iload 5, .iconst 4, .if_icmp .ge 84, .aload 0, .getfield 135, .iconst 5, .iload 5, .iadd, .iconst 1, .iload 1, .iadd, .iconst 4, .iload 2, .imul, .iadd, .iconst 32, .iload 3, .imul, .iadd, .iastore, .iload 5, .iconst 4, .if_icmp .eq 92, .aload 0, .iload 5, .iconst 0, .invokeinterface 130 3, .ifCond .ne 97, .aload 0, .iconst 3, .putfield 128, .iconst 0, .ireturn, .aload 0, .iload 5, .iconst 0, .invokeinterface 131 3, .aload 0, .invokeinterface 123 1, .aload 0, .iload 5, .invokeinterface 124 2, .ireturn]
def xq_137 : List Nat := [0, 1, 4, 5, 6, 9, 10, 11, 14, 15, 16, 19, 20, 21, 24, 27, 28, 29, 32, 33, 36, 37, 39, 40, 41, 44, 47, 48, 51, 53, 56, 57, 58, 61, 64, 65, 68, 69, 72, 75, 76, 79, 80, 83, 84, 87, 90, 91, 92, 93, 95, 97, 98, 101, 102, 105, 106, 108, 109, 110, 113, 116, 119, 120, 123, 125, 126, 129, 130, 133, 134, 136, 137, 138, 139, 140, 141, 142, 143, 144, 146, 147, 148, 149, 150, 152, 153, 156, 157, 159, 160, 163, 166, 167, 168, 171, 172, 173, 174, 176, 177, 180, 181, 184, 185, 187, 190]
-- 138: ExtentShelfModel.grow(II)I
def xc_138 : List Instr := [.aload 0, .aload 0, .getfield 132, .ifCond .ne 6, .iconst 1, .goto 13, .aload 0, .iload 1, .invokeinterface 115 2, .ifCond .ne 12, .iconst 2, .goto 13, .iconst 0, .putfield 128, .aload 0, .getfield 128, .ifCond .le 19, .iconst 0, .ireturn, .aload 0, .getfield 134, .iload 1, .invokeinterface 114 2, .istore 3, .aload 0, .iload 2, .iconst 1, .if_icmp .lt 40, .iload 2, .iconst 5, .if_icmp .gt 40, .aload 0, .getfield 134, .iload 1, .invokeinterface 113 2, .iload 3, .iload 2, .iadd, .invokeinterface 136 2, .ifCond .ne 42, .iconst 3, .goto 48, .aload 0, .invokeinterface 118 1, .ifCond .eq 47, .iconst 4, .goto 48, .iconst 0, .putfield 128, .aload 0, .getfield 128, .ifCond .le 54, .iconst 0, .ireturn, .aload 0, .invokeinterface 119 1, .aload 0, .getfield 135, .iconst 5, .iload 1, .iadd, .aload 0, .getfield 135, .iconst 5, .iload 1, .iadd, .iaload, .iconst 32, .iload 2, .imul, .iadd, .iastore, .aload 0, .iload 1, .iload 3, .invokeinterface 130 3, .ifCond .ne 82, .aload 0, .iconst 4, .putfield 128, .iconst 0, .ireturn, .aload 0, .iload 1, .iload 3, .invokeinterface 131 3, .aload 0, .invokeinterface 123 1, .aload 0, .iload 3, .iload 2, .iadd, .invokeinterface 124 2, .ireturn]
def xq_138 : List Nat := [0, 1, 2, 5, 8, 9, 12, 13, 14, 17, 20, 21, 24, 25, 28, 29, 32, 35, 36, 37, 38, 41, 42, 45, 46, 47, 48, 49, 52, 53, 54, 57, 58, 61, 62, 65, 66, 67, 68, 71, 74, 75, 78, 79, 82, 85, 86, 89, 90, 93, 94, 97, 100, 101, 102, 103, 106, 107, 110, 111, 112, 113, 114, 117, 118, 119, 120, 121, 123, 124, 125, 126, 127, 128, 129, 130, 133, 136, 137, 138, 141, 142, 143, 144, 145, 146, 149, 150, 153, 154, 155, 156, 157, 160]
-- 139: ExtentShelfModel.shrink(II)I
def xc_139 : List Instr := [.aload 0, .aload 0, .getfield 132, .ifCond .ne 6, .iconst 1, .goto 13, .aload 0, .iload 1, .invokeinterface 115 2, .ifCond .ne 12, .iconst 2, .goto 13, .iconst 0, .putfield 128, .aload 0, .getfield 128, .ifCond .le 19, .iconst 0, .ireturn, .aload 0, .getfield 134, .iload 1, .invokeinterface 114 2, .istore 3, .aload 0, .iload 2, .iload 3, .if_icmp .ge 35, .aload 0, .getfield 134, .iload 1, .invokeinterface 113 2, .iload 2, .invokeinterface 136 2, .ifCond .ne 37, .iconst 3, .goto 43, .aload 0, .invokeinterface 118 1, .ifCond .eq 42, .iconst 4, .goto 43, .iconst 0, .putfield 128, .aload 0, .getfield 128, .ifCond .le 49, .iconst 0, .ireturn, .aload 0, .invokeinterface 119 1, .aload 0, .getfield 135, .iconst 5, .iload 1, .iadd, .aload 0, .getfield 135, .iconst 5, .iload 1, .iadd, .iaload, .iconst 32, .iload 3, .iload 2, .isub, .imul, .isub, .iastore, .iconst 2, .iload 2, .imul, .istore 4, .iload 4, .iconst 10, .if_icmp .ge 89, .aload 0, .getfield 135, .iconst 9, .iconst 10, .iload 1, .imul, .iadd, .iload 4, .iadd, .iconst 0, .iastore, .iinc 4 (1), .goto 73, .aload 0, .invokeinterface 123 1, .aload 0, .iload 3, .iload 2, .isub, .invokeinterface 124 2, .ireturn]
def xq_139 : List Nat := [0, 1, 2, 5, 8, 9, 12, 13, 14, 17, 20, 21, 24, 25, 28, 29, 32, 35, 36, 37, 38, 41, 42, 45, 46, 47, 48, 49, 52, 53, 56, 57, 60, 61, 64, 67, 68, 71, 72, 75, 78, 79, 82, 83, 86, 87, 90, 93, 94, 95, 96, 99, 100, 103, 104, 105, 106, 107, 110, 111, 112, 113, 114, 116, 117, 118, 119, 120, 121, 122, 123, 124, 125, 127, 129, 131, 134, 135, 138, 140, 142, 143, 144, 145, 147, 148, 149, 150, 153, 156, 157, 160, 161, 162, 163, 164, 167]
-- 140: ExtentShelfModel.delete(I)V
def xc_140 : List Instr := [.aload 0, .aload 0, .getfield 132, .ifCond .ne 6, .iconst 1, .goto 18, .aload 0, .iload 1, .invokeinterface 115 2, .ifCond .ne 12, .iconst 2, .goto 18, .aload 0, .invokeinterface 118 1, .ifCond .eq 17, .iconst 3, .goto 18, .iconst 0, .putfield 128, .aload 0, .getfield 128, .ifCond .le 23, .return_, .aload 0, .invokeinterface 119 1, .aload 0, .getfield 135, .iconst 5, .iload 1, .iadd, .iconst 0, .iastore, .iconst 0, .istore 2, .iload 2, .iconst 10, .if_icmp .ge 50, .aload 0, .getfield 135, .iconst 9, .iconst 10, .iload 1, .imul, .iadd, .iload 2, .iadd, .iconst 0, .iastore, .iinc 2 (1), .goto 34, .aload 0, .invokeinterface 123 1, .aload 0, .aload 0, .getfield 132, .ifCond .eq 58, .iconst 0, .goto 59, .iconst 1, .putfield 128, .return_]
def xq_140 : List Nat := [0, 1, 2, 5, 8, 9, 12, 13, 14, 17, 20, 21, 24, 25, 28, 31, 32, 35, 36, 39, 40, 43, 46, 47, 48, 51, 52, 55, 56, 57, 58, 59, 60, 61, 62, 63, 65, 68, 69, 72, 74, 76, 77, 78, 79, 80, 81, 82, 83, 86, 89, 90, 93, 94, 95, 98, 101, 102, 105, 106, 109]
-- 141: ExtentShelfModel.twin(I)I
def xc_141 : List Instr := [.iload 0, .iconst 2, .irem, .ifCond .ne 8, .iload 0, .iconst 1, .iadd, .goto 11, .iload 0, .iconst 1, .isub, .ireturn]
def xq_141 : List Nat := [0, 1, 2, 3, 6, 7, 8, 9, 12, 13, 14, 15]
-- 142: ExtentShelfModel.mend(I)I
def xc_142 : List Instr := [.aload 0, .aload 0, .getfield 132, .ifCond .ne 6, .iconst 1, .goto 26, .aload 0, .iload 1, .invokeinterface 115 2, .ifCond .ne 12, .iconst 2, .goto 26, .aload 0, .getfield 134, .iload 1, .invokeinterface 112 2, .iconst 2, .if_icmp .eq 20, .iconst 3, .goto 26, .aload 0, .invokeinterface 118 1, .ifCond .eq 25, .iconst 4, .goto 26, .iconst 0, .putfield 128, .aload 0, .getfield 128, .ifCond .le 32, .iconst 0, .ireturn, .aload 0, .invokeinterface 119 1, .iconst 9, .iconst 10, .iload 1, .imul, .iadd, .istore 2, .iconst 0, .istore 3, .iconst 0, .istore 4, .iload 4, .iconst 2, .aload 0, .getfield 134, .iload 1, .invokeinterface 114 2, .imul, .if_icmp .ge 95, .aload 0, .getfield 134, .iload 2, .iload 4, .iadd, .iaload, .ifCond .ne 93, .aload 0, .getfield 134, .iload 2, .iload 4, .invokeinterface 141 1, .iadd, .iaload, .ifCond .le 93, .aload 0, .getfield 135, .iload 2, .iload 4, .iadd, .aload 0, .aload 0, .getfield 135, .iload 1, .iload 4, .iconst (-1), .invokeinterface 129 5, .iastore, .iinc 3 (1), .aload 0, .getfield 135, .iload 2, .iload 4, .iadd, .iaload, .ifCond .ne 93, .aload 0, .iconst 4, .putfield 128, .iconst 0, .ireturn, .iinc 4 (1), .goto 44, .iload 3, .ifCond .ne 99, .iconst 0, .ireturn, .iconst 0, .istore 4, .iload 4, .iconst 10, .if_icmp .ge 145, .iconst 0, .istore 5, .iload 5, .iconst 4, .if_icmp .ge 143, .aload 0, .getfield 135, .iload 2, .iload 4, .iadd, .iaload, .aload 0, .getfield 134, .iload 2, .iload 4, .iadd, .iaload, .if_icmp .eq 143, .aload 0, .aload 0, .getfield 135, .iload 2, .iload 4, .iadd, .iaload, .iload 5, .aload 0, .aload 0, .getfield 134, .iload 2, .iload 4, .invokeinterface 141 1, .iadd, .iaload, .iload 5, .invokeinterface 111 3, .invokeinterface 110 4, .iinc 5 (1), .goto 106, .iinc 4 (1), .goto 101, .aload 0, .invokeinterface 123 1, .aload 0, .iload 3, .invokeinterface 124 2, .ireturn]
def xq_142 : List Nat := [0, 1, 2, 5, 8, 9, 12, 13, 14, 17, 20, 21, 24, 25, 28, 29, 32, 33, 36, 37, 40, 41, 44, 47, 48, 51, 52, 55, 56, 59, 62, 63, 64, 65, 68, 70, 72, 73, 74, 75, 76, 77, 78, 79, 81, 83, 84, 85, 88, 89, 92, 93, 96, 97, 100, 101, 103, 104, 105, 108, 109, 112, 113, 115, 118, 119, 120, 123, 124, 127, 128, 130, 131, 132, 133, 136, 137, 139, 140, 143, 144, 147, 148, 151, 152, 154, 155, 156, 159, 160, 161, 164, 165, 166, 169, 172, 173, 176, 177, 178, 179, 181, 183, 185, 188, 189, 191, 193, 194, 197, 198, 201, 202, 204, 205, 206, 207, 210, 211, 213, 214, 215, 218, 219, 220, 223, 224, 226, 227, 228, 230, 231, 232, 235, 236, 238, 241, 242, 243, 245, 248, 251, 254, 257, 260, 263, 264, 267, 268, 269, 272]
-- 143: ExtentShelfModel.isReadable(I)Z
def xc_143 : List Instr := [.iload 1, .ifCond .le 13, .aload 0, .getfield 129, .iload 1, .iconst 1, .isub, .iconst 8, .idiv, .baload, .ifCond .eq 13, .iconst 1, .goto 14, .iconst 0, .freturn]
def xq_143 : List Nat := [0, 1, 4, 5, 8, 9, 10, 11, 13, 14, 15, 18, 19, 22, 23]
-- 144: ExtentShelfModel.elementOf(II)I
def xc_144 : List Instr := [.aload 0, .getfield 134, .iload 1, .invokeinterface 113 2, .istore 3, .iload 3, .iload 2, .iconst 4, .iload 3, .imul, .idiv, .imul, .iload 2, .iload 3, .irem, .iadd, .ireturn]
def xq_144 : List Nat := [0, 1, 4, 5, 8, 9, 10, 11, 12, 13, 14, 15, 16, 17, 18, 19, 20]
-- 145: ExtentShelfModel.wordOf(II)I
def xc_145 : List Instr := [.aload 0, .getfield 134, .iload 1, .invokeinterface 113 2, .istore 3, .iload 2, .iconst 4, .iload 3, .imul, .irem, .iload 3, .idiv, .ireturn]
def xq_145 : List Nat := [0, 1, 4, 5, 8, 9, 10, 11, 12, 13, 14, 15, 16]
-- 146: ExtentShelfModel.write(III)I
def xc_146 : List Instr := [.aload 0, .aload 0, .getfield 132, .ifCond .ne 6, .iconst 1, .goto 25, .aload 0, .iload 1, .invokeinterface 115 2, .ifCond .ne 12, .iconst 2, .goto 25, .iload 2, .ifCond .lt 22, .iload 2, .iconst 4, .aload 0, .getfield 134, .iload 1, .invokeinterface 114 2, .imul, .if_icmp .lt 24, .iconst 3, .goto 25, .iconst 0, .putfield 128, .aload 0, .getfield 128, .ifCond .le 31, .iconst 0, .ireturn, .iconst 9, .iconst 10, .iload 1, .imul, .iadd, .iconst 2, .aload 0, .iload 1, .iload 2, .invokeinterface 144 3, .imul, .iadd, .istore 4, .aload 0, .aload 0, .getfield 134, .iload 4, .iaload, .invokeinterface 143 2, .ifCond .eq 53, .iconst 1, .goto 54, .iconst 0, .aload 0, .aload 0, .getfield 134, .iload 4, .iconst 1, .iadd, .iaload, .invokeinterface 143 2, .ifCond .eq 65, .iconst 1, .goto 66, .iconst 0, .iadd, .istore 5, .iload 5, .ifCond .ne 75, .aload 0, .iconst 4, .putfield 128, .iconst 0, .ireturn, .aload 0, .aload 0, .getfield 134, .iload 4, .iaload, .invokeinterface 143 2, .ifCond .eq 86, .iload 4, .iconst 1, .iadd, .goto 87, .iload 4, .istore 6, .iload 5, .iconst 1, .if_icmp .ne 105, .aload 0, .getfield 134, .iload 6, .iaload, .ifCond .le 105, .aload 0, .invokeinterface 119 1, .aload 0, .getfield 135, .iload 6, .iconst 0, .iastore, .aload 0, .invokeinterface 123 1, .aload 0, .iload 1, .iload 2, .invokeinterface 145 3, .istore 7, .iload 4, .istore 8, .iload 8, .iload 4, .iconst 2, .iadd, .if_icmp .ge 173, .aload 0, .getfield 132, .ifCond .eq 173, .aload 0, .getfield 134, .iload 8, .iaload, .ifCond .le 127, .iconst 1, .goto 128, .iconst 0, .istore 9, .iload 9, .ifCond .eq 139, .aload 0, .aload 0, .getfield 134, .iload 8, .iaload, .iload 7, .iload 3, .invokeinterface 110 4, .iload 9, .ifCond .eq 171, .aload 0, .getfield 132, .ifCond .eq 171, .aload 0, .getfield 136, .ifCond .lt 171, .aload 0, .getfield 139, .ifCond .le 171, .iload 8, .iconst 9, .iconst 10, .aload 0, .getfield 137, .imul, .iadd, .aload 0, .getfield 138, .iadd, .if_icmp .ne 171, .iload 7, .aload 0, .getfield 140, .if_icmp .ge 171, .aload 0, .aload 0, .getfield 139, .iload 7, .iload 3, .invokeinterface 110 4, .iinc 8 (1), .goto 112, .aload 0, .iload 5, .invokeinterface 124 2, .ireturn]
def xq_146 : List Nat := [0, 1, 2, 5, 8, 9, 12, 13, 14, 17, 20, 21, 24, 25, 28, 29, 30, 31, 34, 35, 38, 39, 42, 43, 46, 47, 50, 51, 54, 57, 58, 59, 61, 63, 64, 65, 66, 67, 68, 69, 70, 73, 74, 75, 77, 78, 79, 82, 84, 85, 88, 91, 92, 95, 96, 97, 98, 101, 103, 104, 105, 106, 109, 112, 113, 116, 117, 118, 120, 122, 125, 126, 127, 130, 131, 132, 133, 134, 137, 139, 140, 143, 146, 148, 149, 150, 153, 155, 157, 159, 160, 163, 164, 167, 169, 170, 173, 174, 177, 178, 181, 183, 184, 185, 186, 189, 190, 191, 192, 195, 197, 199, 201, 203, 205, 206, 207, 210, 211, 214, 217, 218, 221, 223, 224, 227, 228, 231, 232, 234, 236, 239, 240, 241, 244, 246, 247, 249, 250, 253, 255, 258, 259, 262, 265, 266, 269, 272, 273, 276, 279, 281, 283, 285, 286, 289, 290, 291, 292, 295, 296, 299, 301, 302, 305, 308, 309, 310, 313, 315, 316, 319, 322, 325, 326, 328, 331]
-- 147: ExtentShelfModel.read(II)I
def xc_147 : List Instr := [.aload 0, .aload 0, .getfield 132, .ifCond .ne 6, .iconst 1, .goto 25, .aload 0, .iload 1, .invokeinterface 115 2, .ifCond .ne 12, .iconst 2, .goto 25, .iload 2, .ifCond .lt 22, .iload 2, .iconst 4, .aload 0, .getfield 134, .iload 1, .invokeinterface 114 2, .imul, .if_icmp .lt 24, .iconst 3, .goto 25, .iconst 0, .putfield 128, .aload 0, .getfield 128, .ifCond .le 31, .iconst 0, .ireturn, .iconst 9, .iconst 10, .iload 1, .imul, .iadd, .iconst 2, .aload 0, .iload 1, .iload 2, .invokeinterface 144 3, .imul, .iadd, .istore 3, .aload 0, .aload 0, .getfield 134, .iload 3, .iaload, .invokeinterface 143 2, .ifCond .eq 56, .aload 0, .getfield 134, .iload 3, .iaload, .goto 62, .aload 0, .getfield 134, .iload 3, .iconst 1, .iadd, .iaload, .istore 4, .aload 0, .aload 0, .iload 4, .invokeinterface 143 2, .ifCond .eq 70, .iconst 0, .goto 71, .iconst 4, .putfield 128, .aload 0, .getfield 128, .ifCond .le 77, .iconst 0, .goto 84, .aload 0, .iload 4, .aload 0, .iload 1, .iload 2, .invokeinterface 145 3, .invokeinterface 111 3, .ireturn]
def xq_147 : List Nat := [0, 1, 2, 5, 8, 9, 12, 13, 14, 17, 20, 21, 24, 25, 28, 29, 30, 31, 34, 35, 38, 39, 42, 43, 46, 47, 50, 51, 54, 57, 58, 59, 61, 63, 64, 65, 66, 67, 68, 69, 70, 73, 74, 75, 76, 77, 78, 81, 82, 83, 86, 89, 90, 93, 94, 95, 98, 99, 102, 103, 104, 105, 106, 108, 109, 110, 112, 115, 118, 119, 122, 123, 126, 127, 130, 133, 134, 137, 138, 140, 141, 142, 143, 146, 149]
-- 148: ExtentShelfModel.empty(I)I
def xc_148 : List Instr := [.aload 0, .aload 0, .getfield 132, .ifCond .ne 6, .iconst 1, .goto 27, .iload 1, .invokeinterface 108 1, .ifCond .ne 11, .iconst 2, .goto 27, .aload 0, .getfield 134, .iconst 1, .iload 1, .iadd, .iaload, .ifCond .eq 24, .aload 0, .getfield 136, .ifCond .ge 24, .aload 0, .invokeinterface 118 1, .ifCond .eq 26, .iconst 3, .goto 27, .iconst 0, .putfield 128, .aload 0, .getfield 128, .ifCond .le 33, .iconst 0, .ireturn, .aload 0, .iload 1, .putfield 136, .aload 0, .iconst 0, .putfield 139, .aload 0, .iload 1, .invokeinterface 117 2, .ireturn]
def xq_148 : List Nat := [0, 1, 2, 5, 8, 9, 12, 13, 16, 19, 20, 23, 24, 27, 28, 29, 30, 31, 34, 35, 38, 41, 42, 45, 48, 49, 52, 53, 56, 57, 60, 63, 64, 65, 66, 67, 70, 71, 72, 75, 76, 77, 80]
-- 149: ExtentShelfModel.step()I
def xc_149 : List Instr := [.aload 0, .aload 0, .getfield 132, .ifCond .ne 6, .iconst 1, .goto 12, .aload 0, .getfield 136, .ifCond .ge 11, .iconst 2, .goto 12, .iconst 0, .putfield 128, .aload 0, .getfield 128, .ifCond .le 18, .iconst 0, .ireturn, .aload 0, .getfield 139, .ifCond .ne 89, .iconst 9, .istore 1, .iload 1, .iconst 49, .if_icmp .ge 44, .aload 0, .getfield 134, .iload 1, .iaload, .ifCond .eq 42, .aload 0, .getfield 134, .iload 1, .iaload, .iconst 1, .isub, .iconst 8, .idiv, .aload 0, .getfield 136, .if_icmp .eq 44, .iinc 1 (1), .goto 23, .iload 1, .iconst 49, .if_icmp .ne 52, .aload 0, .iconst (-1), .putfield 136, .iconst 0, .ireturn, .aload 0, .iload 1, .iconst 9, .isub, .iconst 10, .idiv, .putfield 137, .aload 0, .iload 1, .iconst 9, .isub, .iconst 10, .irem, .putfield 138, .aload 0, .iconst 0, .putfield 140, .aload 0, .aload 0, .aload 0, .getfield 134, .aload 0, .getfield 137, .aload 0, .getfield 138, .aload 0, .getfield 136, .invokeinterface 129 5, .putfield 139, .aload 0, .getfield 139, .ifCond .ne 89, .aload 0, .iconst (-1), .putfield 136, .iconst (-1), .ireturn, .iconst 9, .iconst 10, .aload 0, .getfield 137, .imul, .iadd, .aload 0, .getfield 138, .iadd, .istore 1, .aload 0, .aload 0, .getfield 139, .aload 0, .getfield 140, .aload 0, .aload 0, .getfield 134, .iload 1, .iaload, .aload 0, .getfield 140, .invokeinterface 111 3, .invokeinterface 110 4, .aload 0, .dup, .getfield 140, .iconst 1, .iadd, .putfield 140, .aload 0, .getfield 132, .ifCond .eq 136, .aload 0, .getfield 140, .iconst 4, .if_icmp .ne 136, .aload 0, .invokeinterface 119 1, .aload 0, .getfield 135, .iload 1, .aload 0, .getfield 139, .iastore, .aload 0, .invokeinterface 123 1, .aload 0, .getfield 136, .ifCond .ge 141, .iconst 0, .goto 145, .aload 0, .aload 0, .getfield 136, .invokeinterface 117 2, .istore 2, .aload 0, .iload 2, .ifCond .ne 151, .iconst (-1), .goto 153, .aload 0, .getfield 136, .putfield 136, .aload 0, .iload 2, .invokeinterface 124 2, .ireturn]
def xq_149 : List Nat := [0, 1, 2, 5, 8, 9, 12, 13, 16, 19, 20, 23, 24, 27, 28, 31, 34, 35, 36, 37, 40, 43, 45, 46, 47, 49, 52, 53, 56, 57, 58, 61, 62, 65, 66, 67, 68, 69, 71, 72, 73, 76, 79, 82, 85, 86, 88, 91, 92, 93, 96, 97, 98, 99, 100, 102, 103, 105, 106, 109, 110, 111, 113, 114, 116, 117, 120, 121, 122, 125, 126, 127, 128, 131, 132, 135, 136, 139, 140, 143, 146, 149, 150, 153, 156, 157, 158, 161, 162, 163, 165, 167, 168, 171, 172, 173, 174, 177, 178, 179, 180, 181, 184, 185, 188, 189, 190, 193, 194, 195, 196, 199, 202, 205, 206, 207, 210, 211, 212, 215, 216, 219, 222, 223, 226, 227, 230, 231, 234, 235, 238, 239, 240, 243, 244, 245, 248, 249, 252, 255, 256, 259, 260, 261, 264, 267, 268, 269, 270, 273, 274, 277, 278, 281, 284, 285, 286, 289]
-- 150: ExtentShelfModel.moving()I
def xc_150 : List Instr := [.aload 0, .iconst 0, .putfield 128, .aload 0, .getfield 132, .ifCond .eq 9, .aload 0, .getfield 136, .goto 10, .iconst (-1), .ireturn]
def xq_150 : List Nat := [0, 1, 2, 5, 6, 9, 12, 13, 16, 19, 20]
-- 151: ExtentShelfModel.volume(II)I
def xc_151 : List Instr := [.aload 0, .aload 0, .getfield 132, .ifCond .ne 6, .iconst 1, .goto 20, .aload 0, .iload 1, .invokeinterface 115 2, .ifCond .ne 12, .iconst 2, .goto 20, .iload 2, .ifCond .lt 17, .iload 2, .iconst 3, .if_icmp .le 19, .iconst 3, .goto 20, .iconst 0, .putfield 128, .aload 0, .getfield 128, .ifCond .le 26, .iconst 0, .ireturn, .aload 0, .getfield 134, .iload 1, .invokeinterface 114 2, .istore 3, .iload 2, .ifCond .ne 38, .aload 0, .getfield 134, .iload 1, .invokeinterface 112 2, .goto 54, .iload 2, .iconst 1, .if_icmp .ne 46, .aload 0, .getfield 134, .iload 1, .invokeinterface 113 2, .goto 54, .iload 2, .iconst 2, .if_icmp .ne 51, .iload 3, .goto 54, .iconst 4, .iload 3, .imul, .ireturn]
def xq_151 : List Nat := [0, 1, 2, 5, 8, 9, 12, 13, 14, 17, 20, 21, 24, 25, 28, 29, 30, 33, 34, 37, 38, 41, 42, 45, 48, 49, 50, 51, 54, 55, 58, 59, 60, 63, 64, 67, 68, 71, 74, 75, 76, 79, 80, 83, 84, 87, 90, 91, 92, 95, 96, 99, 100, 101, 102]
-- 152: ExtentShelfModel.where(III)I
def xc_152 : List Instr := [.aload 0, .aload 0, .getfield 132, .ifCond .ne 6, .iconst 1, .goto 13, .aload 0, .iload 1, .invokeinterface 115 2, .ifCond .ne 12, .iconst 2, .goto 13, .iconst 0, .putfield 128, .aload 0, .getfield 128, .ifCond .gt 30, .iload 2, .ifCond .lt 30, .iload 2, .aload 0, .getfield 134, .iload 1, .invokeinterface 114 2, .if_icmp .ge 30, .iload 3, .ifCond .lt 30, .iload 3, .iconst 1, .if_icmp .le 37, .aload 0, .getfield 128, .ifCond .le 35, .iconst 0, .goto 36, .iconst (-1), .ireturn, .aload 0, .getfield 134, .iconst 9, .iconst 10, .iload 1, .imul, .iadd, .iconst 2, .iload 2, .imul, .iadd, .iload 3, .iadd, .iaload, .iconst 1, .isub, .ireturn]
def xq_152 : List Nat := [0, 1, 2, 5, 8, 9, 12, 13, 14, 17, 20, 21, 24, 25, 28, 29, 32, 35, 36, 39, 40, 41, 44, 45, 48, 51, 52, 55, 56, 57, 60, 61, 64, 67, 68, 71, 72, 73, 74, 77, 79, 81, 82, 83, 84, 85, 86, 87, 88, 89, 90, 91, 92, 93]
-- 153: ExtentShelfModel.free(I)I
def xc_153 : List Instr := [.aload 0, .aload 0, .getfield 132, .ifCond .ne 6, .iconst 1, .goto 12, .iload 1, .invokeinterface 108 1, .ifCond .ne 11, .iconst 2, .goto 12, .iconst 0, .putfield 128, .aload 0, .getfield 128, .ifCond .le 18, .iconst 0, .goto 32, .aload 0, .getfield 134, .iconst 1, .iload 1, .iadd, .iaload, .ifCond .ne 27, .iconst (-1), .goto 32, .aload 0, .aload 0, .getfield 134, .iload 1, .invokeinterface 126 3, .ireturn]
def xq_153 : List Nat := [0, 1, 2, 5, 8, 9, 12, 13, 16, 19, 20, 23, 24, 27, 28, 31, 34, 35, 38, 39, 42, 43, 44, 45, 46, 49, 50, 53, 54, 55, 58, 59, 62]
-- 154: ExtentShelfModel.number()I
def xc_154 : List Instr := [.aload 0, .iconst 0, .putfield 128, .aload 0, .getfield 132, .ifCond .eq 11, .aload 0, .getfield 134, .iconst 0, .iaload, .goto 12, .iconst (-1), .ireturn]
def xq_154 : List Nat := [0, 1, 2, 5, 6, 9, 12, 13, 16, 17, 18, 21, 22]
-- 155: ExtentShelfModel.look(III)I
def xc_155 : List Instr := [.iload 1, .invokeinterface 108 1, .ifCond .eq 20, .iload 2, .ifCond .lt 20, .iload 2, .iconst 3, .if_icmp .ge 20, .iload 3, .ifCond .lt 20, .iload 3, .iload 2, .iconst 2, .if_icmp .ne 16, .iconst 32, .goto 17, .iconst 51, .if_icmp .ge 20, .iconst 1, .goto 21, .iconst 0, .istore 4, .aload 0, .iload 4, .ifCond .eq 27, .iconst 0, .goto 28, .iconst 1, .putfield 128, .iload 4, .ifCond .ne 33, .iconst 0, .goto 57, .iload 2, .iconst 2, .if_icmp .ne 45, .aload 0, .getfield 131, .iconst 32, .iload 1, .imul, .iload 3, .iadd, .iaload, .goto 57, .aload 0, .getfield 130, .iconst 102, .iload 1, .imul, .iconst 51, .iload 2, .imul, .iadd, .iload 3, .iadd, .iaload, .ireturn]
def xq_155 : List Nat := [0, 1, 4, 7, 8, 11, 12, 13, 16, 17, 20, 21, 22, 23, 26, 28, 31, 33, 36, 37, 40, 41, 43, 44, 46, 49, 50, 53, 54, 57, 59, 62, 63, 66, 67, 68, 71, 72, 75, 77, 78, 79, 80, 81, 82, 85, 86, 89, 91, 92, 93, 95, 96, 97, 98, 99, 100, 101]
-- 156: ExtentShelfModel.cut(I)V
def xc_156 : List Instr := [.aload 0, .aload 0, .getfield 132, .ifCond .ne 6, .iconst 1, .goto 12, .iload 1, .iconst (-1), .if_icmp .ge 11, .iconst 2, .goto 12, .iconst 0, .putfield 128, .aload 0, .aload 0, .getfield 128, .ifCond .le 20, .aload 0, .getfield 133, .goto 21, .iload 1, .putfield 133, .return_]
def xq_156 : List Nat := [0, 1, 2, 5, 8, 9, 12, 13, 14, 17, 18, 21, 22, 25, 26, 27, 30, 33, 34, 37, 40, 41, 44]
-- 157: ExtentShelfModel.off()V
def xc_157 : List Instr := [.aload 0, .aload 0, .getfield 132, .ifCond .eq 6, .iconst 0, .goto 7, .iconst 1, .putfield 128, .aload 0, .iconst 0, .putstatic 132, .aload 0, .iconst (-1), .putfield 133, .aload 0, .iconst (-1), .putfield 136, .return_]
def xq_157 : List Nat := [0, 1, 2, 5, 8, 9, 12, 13, 16, 17, 18, 21, 22, 23, 26, 27, 28, 31]
-- 158: ExtentShelfModel.plug(IZ)Z
def xc_158 : List Instr := [.aload 0, .aload 0, .getfield 132, .ifCond .eq 6, .iconst 1, .goto 12, .iload 1, .invokeinterface 108 1, .ifCond .ne 11, .iconst 2, .goto 12, .iconst 0, .putfield 128, .aload 0, .getfield 128, .ifCond .le 18, .iconst 0, .freturn, .aload 0, .getfield 129, .iload 1, .baload, .iload 2, .if_icmp .eq 26, .iconst 1, .goto 27, .iconst 0, .istore 3, .aload 0, .getfield 129, .iload 1, .iload 2, .bastore, .iload 3, .freturn]
def xq_158 : List Nat := [0, 1, 2, 5, 8, 9, 12, 13, 16, 19, 20, 23, 24, 27, 28, 31, 34, 35, 36, 37, 40, 41, 42, 43, 46, 47, 50, 51, 52, 53, 56, 57, 58, 59, 60]
-- 159: ExtentShelfModel.start()I
def xc_159 : List Instr := [.aload 0, .aload 0, .getfield 132, .ifCond .eq 6, .iconst 1, .goto 7, .iconst 0, .putfield 128, .aload 0, .getfield 132, .ifCond .eq 13, .iconst 0, .ireturn, .aload 0, .iconst 1, .putstatic 132, .aload 0, .iconst (-1), .putfield 136, .aload 0, .iconst 0, .putfield 139, .iconst 0, .istore 1, .iconst 0, .istore 2, .iload 2, .iconst 51, .if_icmp .ge 36, .aload 0, .getfield 134, .iload 2, .iconst 0, .iastore, .iinc 2 (1), .goto 26, .iconst 0, .istore 2, .iload 2, .iconst 4, .if_icmp .ge 89, .iconst 0, .istore 3, .iload 3, .iconst 2, .if_icmp .ge 87, .aload 0, .getfield 129, .iload 2, .baload, .ifCond .eq 87, .aload 0, .iload 2, .iload 3, .invokeinterface 120 3, .iload 1, .if_icmp .le 85, .aload 0, .iload 2, .iload 3, .invokeinterface 120 3, .istore 1, .iconst 0, .istore 4, .iload 4, .iconst 51, .if_icmp .ge 85, .aload 0, .getfield 134, .iload 4, .aload 0, .getfield 130, .iconst 102, .iload 2, .imul, .iconst 51, .iload 3, .imul, .iadd, .iload 4, .iadd, .iaload, .iastore, .iinc 4 (1), .goto 64, .iinc 3 (1), .goto 43, .iinc 2 (1), .goto 38, .iconst 0, .istore 2, .iload 2, .iconst 4, .if_icmp .ge 125, .aload 0, .getfield 134, .iconst 1, .iload 2, .iadd, .iaload, .ifCond .le 123, .aload 0, .getfield 129, .iload 2, .baload, .ifCond .eq 123, .aload 0, .iload 2, .iconst 0, .invokeinterface 120 3, .iload 1, .if_icmp .eq 123, .aload 0, .iload 2, .iconst 1, .invokeinterface 120 3, .iload 1, .if_icmp .eq 123, .aload 0, .iload 2, .aload 0, .getfield 134, .invokeinterface 122 3, .iinc 2 (1), .goto 91, .iconst 9, .istore 2, .iload 2, .iconst 49, .if_icmp .ge 177, .iconst 0, .istore 3, .iload 3, .iconst 4, .if_icmp .ge 175, .aload 0, .aload 0, .getfield 134, .iload 2, .iaload, .invokeinterface 143 2, .ifCond .eq 175, .aload 0, .aload 0, .getfield 134, .iload 2, .iconst 1, .iadd, .iaload, .invokeinterface 143 2, .ifCond .eq 175, .aload 0, .getfield 131, .iconst 4, .aload 0, .getfield 134, .iload 2, .iconst 1, .iadd, .iaload, .iconst 1, .isub, .imul, .iload 3, .iadd, .aload 0, .aload 0, .getfield 134, .iload 2, .iaload, .iload 3, .invokeinterface 111 3, .iastore, .iinc 3 (1), .goto 132, .iinc 2 (2), .goto 127, .iload 1, .ireturn]
def xq_159 : List Nat := [0, 1, 2, 5, 8, 9, 12, 13, 16, 17, 20, 23, 24, 25, 26, 27, 30, 31, 32, 35, 36, 37, 40, 41, 42, 43, 44, 45, 47, 50, 51, 54, 55, 56, 57, 60, 63, 64, 65, 66, 67, 70, 71, 72, 73, 74, 77, 78, 81, 82, 83, 86, 87, 88, 89, 92, 93, 96, 97, 98, 99, 102, 103, 104, 106, 108, 110, 113, 114, 117, 119, 120, 123, 125, 126, 127, 129, 130, 131, 132, 134, 135, 136, 137, 140, 143, 146, 149, 152, 155, 156, 157, 158, 159, 162, 163, 166, 167, 168, 169, 170, 173, 174, 177, 178, 179, 182, 183, 184, 185, 188, 189, 192, 193, 194, 195, 198, 199, 202, 203, 204, 205, 208, 211, 214, 217, 219, 220, 221, 223, 226, 227, 228, 229, 230, 233, 234, 235, 238, 239, 240, 243, 246, 247, 248, 251, 252, 253, 254, 255, 258, 261, 262, 265, 266, 267, 270, 271, 272, 273, 274, 275, 276, 277, 278, 279, 280, 281, 284, 285, 286, 287, 290, 291, 294, 297, 300, 303, 304]
-- 160: ExtentShelfLaw.add(LExtentShelf;II)I
def xc_160 : List Instr := [.aload 0, .iload 1, .iload 2, .invokeinterface 40 3, .goto 14, .astore 3, .iconst 1, .ireturn, .astore 3, .iconst 2, .ireturn, .astore 3, .iconst 3, .ireturn, .iconst 0, .ireturn]
def xq_160 : List Nat := [0, 1, 2, 3, 6, 9, 10, 11, 12, 13, 14, 15, 16, 17, 18, 19]
-- 161: ExtentShelfLaw.remove(LExtentShelf;I)I
def xc_161 : List Instr := [.aload 0, .iload 1, .invokeinterface 41 2, .goto 13, .astore 2, .iconst 1, .ireturn, .astore 2, .iconst 2, .ireturn, .astore 2, .iconst 3, .ireturn, .iconst 0, .ireturn]
def xq_161 : List Nat := [0, 1, 2, 5, 8, 9, 10, 11, 12, 13, 14, 15, 16, 17, 18]
-- 162: ExtentShelfLaw.drop(LExtentShelf;I[J)I
def xc_162 : List Instr := [.aload 2, .iconst 0, .aload 0, .iload 1, .invokeinterface 42 2, .i2l, .lastore, .goto 17, .astore 3, .iconst 1, .ireturn, .astore 3, .iconst 2, .ireturn, .astore 3, .iconst 3, .ireturn, .iconst 0, .ireturn]
def xq_162 : List Nat := [0, 1, 2, 3, 4, 7, 8, 9, 12, 13, 14, 15, 16, 17, 18, 19, 20, 21, 22]
-- 163: ExtentShelfLaw.make(LExtentShelf;III[J)I
def xc_163 : List Instr := [.aload 4, .iconst 0, .aload 0, .iload 1, .iload 2, .iload 3, .invokeinterface 43 4, .i2l, .lastore, .goto 19, .astore 5, .iconst 1, .ireturn, .astore 5, .iconst 2, .ireturn, .astore 5, .iconst 3, .ireturn, .iconst 0, .ireturn]
def xq_163 : List Nat := [0, 2, 3, 4, 5, 6, 7, 10, 11, 12, 15, 17, 18, 19, 21, 22, 23, 25, 26, 27, 28]
-- 164: ExtentShelfLaw.grow(LExtentShelf;II[J)I
def xc_164 : List Instr := [.aload 3, .iconst 0, .aload 0, .iload 1, .iload 2, .invokeinterface 44 3, .i2l, .lastore, .goto 21, .astore 4, .iconst 1, .ireturn, .astore 4, .iconst 2, .ireturn, .astore 4, .iconst 3, .ireturn, .astore 4, .iconst 4, .ireturn, .iconst 0, .ireturn]
def xq_164 : List Nat := [0, 1, 2, 3, 4, 5, 8, 9, 10, 13, 15, 16, 17, 19, 20, 21, 23, 24, 25, 27, 28, 29, 30]
-- 165: ExtentShelfLaw.shrink(LExtentShelf;II[J)I
def xc_165 : List Instr := [.aload 3, .iconst 0, .aload 0, .iload 1, .iload 2, .invokeinterface 45 3, .i2l, .lastore, .goto 21, .astore 4, .iconst 1, .ireturn, .astore 4, .iconst 2, .ireturn, .astore 4, .iconst 3, .ireturn, .astore 4, .iconst 4, .ireturn, .iconst 0, .ireturn]
def xq_165 : List Nat := [0, 1, 2, 3, 4, 5, 8, 9, 10, 13, 15, 16, 17, 19, 20, 21, 23, 24, 25, 27, 28, 29, 30]
-- 166: ExtentShelfLaw.delete(LExtentShelf;I)I
def xc_166 : List Instr := [.aload 0, .iload 1, .invokeinterface 46 2, .goto 13, .astore 2, .iconst 1, .ireturn, .astore 2, .iconst 2, .ireturn, .astore 2, .iconst 3, .ireturn, .iconst 0, .ireturn]
def xq_166 : List Nat := [0, 1, 2, 5, 8, 9, 10, 11, 12, 13, 14, 15, 16, 17, 18]
-- 167: ExtentShelfLaw.mend(LExtentShelf;I[J)I
def xc_167 : List Instr := [.aload 2, .iconst 0, .aload 0, .iload 1, .invokeinterface 47 2, .i2l, .lastore, .goto 20, .astore 3, .iconst 1, .ireturn, .astore 3, .iconst 2, .ireturn, .astore 3, .iconst 3, .ireturn, .astore 3, .iconst 4, .ireturn, .iconst 0, .ireturn]
def xq_167 : List Nat := [0, 1, 2, 3, 4, 7, 8, 9, 12, 13, 14, 15, 16, 17, 18, 19, 20, 21, 22, 23, 24, 25]
-- 168: ExtentShelfLaw.write(LExtentShelf;III[J)I
def xc_168 : List Instr := [.aload 4, .iconst 0, .aload 0, .iload 1, .iload 2, .iload 3, .invokeinterface 48 4, .i2l, .lastore, .goto 22, .astore 5, .iconst 1, .ireturn, .astore 5, .iconst 2, .ireturn, .astore 5, .iconst 3, .ireturn, .astore 5, .iconst 4, .ireturn, .iconst 0, .ireturn]
def xq_168 : List Nat := [0, 2, 3, 4, 5, 6, 7, 10, 11, 12, 15, 17, 18, 19, 21, 22, 23, 25, 26, 27, 29, 30, 31, 32]
-- 169: ExtentShelfLaw.read(LExtentShelf;II[J)I
def xc_169 : List Instr := [.aload 3, .iconst 0, .aload 0, .iload 1, .iload 2, .invokeinterface 49 3, .i2l, .lastore, .goto 21, .astore 4, .iconst 1, .ireturn, .astore 4, .iconst 2, .ireturn, .astore 4, .iconst 3, .ireturn, .astore 4, .iconst 4, .ireturn, .iconst 0, .ireturn]
def xq_169 : List Nat := [0, 1, 2, 3, 4, 5, 8, 9, 10, 13, 15, 16, 17, 19, 20, 21, 23, 24, 25, 27, 28, 29, 30]
-- 170: ExtentShelfLaw.empty(LExtentShelf;I[J)I
def xc_170 : List Instr := [.aload 2, .iconst 0, .aload 0, .iload 1, .invokeinterface 50 2, .i2l, .lastore, .goto 17, .astore 3, .iconst 1, .ireturn, .astore 3, .iconst 2, .ireturn, .astore 3, .iconst 3, .ireturn, .iconst 0, .ireturn]
def xq_170 : List Nat := [0, 1, 2, 3, 4, 7, 8, 9, 12, 13, 14, 15, 16, 17, 18, 19, 20, 21, 22]
-- 171: ExtentShelfLaw.step(LExtentShelf;[J)I
def xc_171 : List Instr := [.aload 1, .iconst 0, .aload 0, .invokeinterface 51 1, .i2l, .lastore, .goto 13, .astore 2, .iconst 1, .ireturn, .astore 2, .iconst 2, .ireturn, .iconst 0, .ireturn]
def xq_171 : List Nat := [0, 1, 2, 3, 6, 7, 8, 11, 12, 13, 14, 15, 16, 17, 18]
-- 172: ExtentShelfLaw.volume(LExtentShelf;II[J)I
def xc_172 : List Instr := [.aload 3, .iconst 0, .aload 0, .iload 1, .iload 2, .invokeinterface 53 3, .i2l, .lastore, .goto 18, .astore 4, .iconst 1, .ireturn, .astore 4, .iconst 2, .ireturn, .astore 4, .iconst 3, .ireturn, .iconst 0, .ireturn]
def xq_172 : List Nat := [0, 1, 2, 3, 4, 5, 8, 9, 10, 13, 15, 16, 17, 19, 20, 21, 23, 24, 25, 26]
-- 173: ExtentShelfLaw.where(LExtentShelf;III[J)I
def xc_173 : List Instr := [.aload 4, .iconst 0, .aload 0, .iload 1, .iload 2, .iload 3, .invokeinterface 54 4, .i2l, .lastore, .goto 16, .astore 5, .iconst 1, .ireturn, .astore 5, .iconst 2, .ireturn, .iconst 0, .ireturn]
def xq_173 : List Nat := [0, 2, 3, 4, 5, 6, 7, 10, 11, 12, 15, 17, 18, 19, 21, 22, 23, 24]
-- 174: ExtentShelfLaw.free(LExtentShelf;I[J)I
def xc_174 : List Instr := [.aload 2, .iconst 0, .aload 0, .iload 1, .invokeinterface 55 2, .i2l, .lastore, .goto 14, .astore 3, .iconst 1, .ireturn, .astore 3, .iconst 2, .ireturn, .iconst 0, .ireturn]
def xq_174 : List Nat := [0, 1, 2, 3, 4, 7, 8, 9, 12, 13, 14, 15, 16, 17, 18, 19]
-- 175: ExtentShelfLaw.cut(LExtentShelf;I)I
def xc_175 : List Instr := [.aload 0, .iload 1, .invokeinterface 56 2, .goto 10, .astore 2, .iconst 1, .ireturn, .astore 2, .iconst 2, .ireturn, .iconst 0, .ireturn]
def xq_175 : List Nat := [0, 1, 2, 5, 8, 9, 10, 11, 12, 13, 14, 15]
-- 176: ExtentShelfLaw.off(LExtentShelf;)I
def xc_176 : List Instr := [.aload 0, .invokeinterface 57 1, .goto 6, .astore 1, .iconst 1, .ireturn, .iconst 0, .ireturn]
def xq_176 : List Nat := [0, 1, 4, 7, 8, 9, 10, 11]
-- 177: ExtentShelfLaw.plug(LExtentShelf;IZ[J)I
def xc_177 : List Instr := [.aload 3, .iconst 0, .aload 0, .iload 1, .iload 2, .invokeinterface 58 3, .ifCond .eq 9, .lconst 1, .goto 10, .lconst 0, .lastore, .goto 18, .astore 4, .iconst 1, .ireturn, .astore 4, .iconst 2, .ireturn, .iconst 0, .ireturn]
def xq_177 : List Nat := [0, 1, 2, 3, 4, 5, 8, 11, 12, 15, 16, 17, 20, 22, 23, 24, 26, 27, 28, 29]
-- 178: ExtentShelfLaw.start(LExtentShelf;[J)I
def xc_178 : List Instr := [.aload 1, .iconst 0, .aload 0, .invokeinterface 59 1, .i2l, .lastore, .goto 10, .astore 2, .iconst 1, .ireturn, .iconst 0, .ireturn]
def xq_178 : List Nat := [0, 1, 2, 3, 6, 7, 8, 11, 12, 13, 14, 15]
-- 179: ExtentShelfLaw.look(LExtentShelf;III[J)I
def xc_179 : List Instr := [.aload 4, .iconst 0, .aload 0, .iload 1, .iload 2, .iload 3, .invokeinterface 61 4, .i2l, .lastore, .goto 13, .astore 5, .iconst 1, .ireturn, .iconst 0, .ireturn]
def xq_179 : List Nat := [0, 2, 3, 4, 5, 6, 7, 10, 11, 12, 15, 17, 18, 19, 20]
def xp_P0 : List xk_M := [(xc_0, 2, some 0, []), (xc_1, 3, some 0, []), (xc_2, 2, none, []), (xc_3, 4, some 0, []), (xc_4, 5, some 0, []), (xc_5, 6, some 0, []), (xc_6, 3, some 0, []), (xc_7, 2, some 0, []), (xc_8, 6, some 0, []), (xc_9, 3, some 0, []), (xc_10, 4, some 0, []), (xc_11, 3, some 0, []), (xc_12, 2, some 1, []), (xc_13, 1, some 1, []), (xc_14, 3, some 1, []), (xc_15, 1, some 1, [])]
def xp_F0 : List xk_F := [(⟨"ExtentShelf$Disks", "isAbsent", "(I)Z"⟩, prog_2_method_2_code, (some .boolean), xq_0, 0, 0, []), (⟨"ExtentShelf$Disks", "setAbsent", "(IZ)V"⟩, prog_2_method_3_code, none, xq_1, 0, 0, []), (⟨"ExtentShelf$Disks", "startOfSlot", "(II)I"⟩, prog_2_method_4_code, (some .int), xq_2, 0, 0, []), (⟨"ExtentShelf$Disks", "slotWord", "(III)I"⟩, prog_2_method_5_code, (some .int), xq_3, 1, 21, []), (⟨"ExtentShelf$Disks", "setSlotWord", "(IIII)V"⟩, prog_2_method_6_code, none, xq_4, 1, 21, []), (⟨"ExtentShelf$Disks", "wholeSerial", "(II)I"⟩, prog_2_method_7_code, (some .int), xq_5, 1, 23, []), (⟨"ExtentShelf$Disks", "hasWhole", "(II)Z"⟩, prog_2_method_8_code, (some .boolean), xq_6, 2, 48, []), (⟨"ExtentShelf$Disks", "slotToWrite", "(I)I"⟩, prog_2_method_9_code, (some .int), xq_7, 2, 48, []), (⟨"ExtentShelf$Disks", "newestWholeSlot", "()I"⟩, prog_2_method_10_code, (some .int), xq_8, 2, 48, []), (⟨"ExtentShelf$Disks", "extentWord", "(II)I"⟩, prog_2_method_11_code, (some .int), xq_9, 0, 0, []), (⟨"ExtentShelf$Disks", "setExtentWord", "(III)V"⟩, prog_2_method_12_code, none, xq_10, 0, 0, []), (⟨"ExtentShelf$Disks", "clearExtents", "(I)V"⟩, prog_2_method_13_code, none, xq_11, 0, 0, []), (⟨"ExtentShelf$Move", "begin", "(I)V"⟩, prog_3_method_2_code, none, xq_12, 0, 0, []), (⟨"ExtentShelf$Move", "end", "()V"⟩, prog_3_method_3_code, none, xq_13, 0, 0, []), (⟨"ExtentShelf$Move", "beginCopy", "(II)V"⟩, prog_3_method_4_code, none, xq_14, 0, 0, []), (⟨"ExtentShelf$Move", "endCopy", "()V"⟩, prog_3_method_5_code, none, xq_15, 0, 0, [])]
def xp_P1 : List xk_M := [(xc_16, 3, some 1, []), (xc_17, 3, some 2, []), (xc_18, 2, some 2, []), (xc_19, 2, some 2, []), (xc_20, 4, none, []), (xc_21, 1, some 2, []), (xc_22, 2, some 2, []), (xc_23, 2, some 2, []), (xc_24, 3, some 2, []), (xc_25, 3, some 2, []), (xc_26, 2, some 2, []), (xc_27, 2, some 2, []), (xc_28, 5, some 2, []), (xc_29, 2, some 2, []), (xc_30, 2, some 2, []), (xc_31, 2, some 2, [])]
def xp_F1 : List xk_F := [(⟨"ExtentShelf$Move", "hasCopied", "(II)Z"⟩, prog_3_method_6_code, (some .boolean), xq_16, 0, 0, []), (⟨"ExtentShelf$Table", "takeFrom", "([II)V"⟩, prog_4_method_2_code, none, xq_17, 1, 26, []), (⟨"ExtentShelf$Table", "clear", "()V"⟩, prog_4_method_3_code, none, xq_18, 0, 0, []), (⟨"ExtentShelf$Table", "seal", "(I)V"⟩, prog_4_method_4_code, none, xq_19, 1, 23, []), (⟨"ExtentShelf$Table", "sumOf", "([II)I"⟩, prog_4_method_5_code, (some .int), xq_20, 0, 0, []), (⟨"ExtentShelf$Table", "serial", "()I"⟩, prog_4_method_6_code, (some .int), xq_21, 0, 0, []), (⟨"ExtentShelf$Table", "lists", "(I)Z"⟩, prog_4_method_7_code, (some .boolean), xq_22, 1, 21, []), (⟨"ExtentShelf$Table", "extentsOf", "(I)I"⟩, prog_4_method_8_code, (some .int), xq_23, 0, 0, []), (⟨"ExtentShelf$Table", "setExtents", "(II)V"⟩, prog_4_method_9_code, none, xq_24, 0, 0, []), (⟨"ExtentShelf$Table", "countListed", "()I"⟩, prog_4_method_10_code, (some .int), xq_25, 2, 42, []), (⟨"ExtentShelf$Table", "has", "(I)Z"⟩, prog_4_method_11_code, (some .boolean), xq_26, 0, 0, []), (⟨"ExtentShelf$Table", "leastUnusedVolume", "()I"⟩, prog_4_method_12_code, (some .int), xq_27, 1, 21, []), (⟨"ExtentShelf$Table", "describe", "(IIII)V"⟩, prog_4_method_13_code, none, xq_28, 0, 0, []), (⟨"ExtentShelf$Table", "kindOf", "(I)I"⟩, prog_4_method_14_code, (some .int), xq_29, 0, 0, []), (⟨"ExtentShelf$Table", "columnsOf", "(I)I"⟩, prog_4_method_15_code, (some .int), xq_30, 1, 26, []), (⟨"ExtentShelf$Table", "elementsOf", "(I)I"⟩, prog_4_method_16_code, (some .int), xq_31, 0, 0, [])]
def xp_P2 : List xk_M := [(xc_32, 2, some 2, []), (xc_33, 4, some 2, []), (xc_34, 2, some 2, []), (xc_35, 3, some 2, []), (xc_36, 3, some 2, []), (xc_37, 4, some 2, []), (xc_38, 3, some 2, []), (xc_39, 3, some 2, []), (xc_40, 3, some 3, []), (xc_41, 2, some 3, []), (xc_42, 3, some 3, []), (xc_43, 5, some 3, []), (xc_44, 4, some 3, []), (xc_45, 4, some 3, []), (xc_46, 2, some 3, []), (xc_47, 3, some 3, [])]
def xp_F2 : List xk_F := [(⟨"ExtentShelf$Table", "forget", "(I)V"⟩, prog_4_method_17_code, none, xq_32, 2, 45, []), (⟨"ExtentShelf$Table", "loseElements", "(II)V"⟩, prog_4_method_18_code, none, xq_33, 1, 22, []), (⟨"ExtentShelf$Table", "spotOf", "(I)I"⟩, prog_4_method_19_code, (some .int), xq_34, 0, 0, []), (⟨"ExtentShelf$Table", "setSpot", "(II)V"⟩, prog_4_method_20_code, none, xq_35, 0, 0, []), (⟨"ExtentShelf$Table", "isUsed", "(I)Z"⟩, prog_4_method_21_code, (some .boolean), xq_36, 1, 21, []), (⟨"ExtentShelf$Table", "legsOn", "(I)I"⟩, prog_4_method_22_code, (some .int), xq_37, 1, 21, []), (⟨"ExtentShelf$Table", "firstLegOn", "(I)I"⟩, prog_4_method_23_code, (some .int), xq_38, 1, 21, []), (⟨"ExtentShelf$Table", "loseLegsOn", "(I)V"⟩, prog_4_method_24_code, none, xq_39, 1, 22, []), (⟨"ExtentShelf", "add", "(II)V"⟩, prog_1_method_2_code, none, xq_40, 9, 147, []), (⟨"ExtentShelf", "remove", "(I)V"⟩, prog_1_method_3_code, none, xq_41, 9, 147, []), (⟨"ExtentShelf", "drop", "(I)I"⟩, prog_1_method_4_code, (some .int), xq_42, 9, 147, []), (⟨"ExtentShelf", "make", "(III)I"⟩, prog_1_method_5_code, (some .int), xq_43, 10, 173, []), (⟨"ExtentShelf", "grow", "(II)I"⟩, prog_1_method_6_code, (some .int), xq_44, 10, 173, []), (⟨"ExtentShelf", "shrink", "(II)I"⟩, prog_1_method_7_code, (some .int), xq_45, 9, 147, []), (⟨"ExtentShelf", "delete", "(I)V"⟩, prog_1_method_8_code, none, xq_46, 9, 147, []), (⟨"ExtentShelf", "mend", "(I)I"⟩, prog_1_method_9_code, (some .int), xq_47, 10, 172, [])]
def xp_P3 : List xk_M := [(xc_48, 9, some 3, []), (xc_49, 4, some 3, []), (xc_50, 2, some 3, []), (xc_51, 3, some 3, []), (xc_52, 1, some 3, []), (xc_53, 3, some 3, []), (xc_54, 4, some 3, []), (xc_55, 2, some 3, []), (xc_56, 2, some 3, []), (xc_57, 1, some 3, []), (xc_58, 4, some 3, []), (xc_59, 2, some 3, []), (xc_60, 1, some 3, []), (xc_61, 6, some 3, []), (xc_62, 1, some 3, []), (xc_63, 1, some 3, [])]
def xp_F3 : List xk_F := [(⟨"ExtentShelf", "write", "(III)I"⟩, prog_1_method_10_code, (some .int), xq_48, 10, 171, []), (⟨"ExtentShelf", "read", "(II)I"⟩, prog_1_method_11_code, (some .int), xq_49, 7, 104, []), (⟨"ExtentShelf", "empty", "(I)I"⟩, prog_1_method_12_code, (some .int), xq_50, 7, 103, []), (⟨"ExtentShelf", "step", "()I"⟩, prog_1_method_13_code, (some .int), xq_51, 10, 168, []), (⟨"ExtentShelf", "moving", "()I"⟩, prog_1_method_14_code, (some .int), xq_52, 0, 0, []), (⟨"ExtentShelf", "volume", "(II)I"⟩, prog_1_method_15_code, (some .int), xq_53, 7, 103, []), (⟨"ExtentShelf", "where", "(III)I"⟩, prog_1_method_16_code, (some .int), xq_54, 7, 103, []), (⟨"ExtentShelf", "free", "(I)I"⟩, prog_1_method_17_code, (some .int), xq_55, 7, 102, []), (⟨"ExtentShelf", "cut", "(I)V"⟩, prog_1_method_18_code, none, xq_56, 7, 102, []), (⟨"ExtentShelf", "off", "()V"⟩, prog_1_method_19_code, none, xq_57, 7, 102, []), (⟨"ExtentShelf", "plug", "(IZ)Z"⟩, prog_1_method_20_code, (some .boolean), xq_58, 7, 102, []), (⟨"ExtentShelf", "start", "()I"⟩, prog_1_method_21_code, (some .int), xq_59, 10, 170, []), (⟨"ExtentShelf", "number", "()I"⟩, prog_1_method_22_code, (some .int), xq_60, 1, 20, []), (⟨"ExtentShelf", "look", "(III)I"⟩, prog_1_method_23_code, (some .int), xq_61, 6, 82, []), (⟨"ExtentShelf", "requirePower", "()V"⟩, prog_1_method_24_code, none, xq_62, 6, 82, []), (⟨"ExtentShelf", "requireNoPower", "()V"⟩, prog_1_method_25_code, none, xq_63, 6, 82, [])]
def xp_P4 : List xk_M := [(xc_64, 1, none, []), (xc_65, 1, none, []), (xc_66, 2, some 3, []), (xc_67, 1, some 3, []), (xc_68, 2, some 3, []), (xc_69, 3, some 3, []), (xc_70, 2, some 3, []), (xc_71, 2, some 3, []), (xc_72, 2, none, []), (xc_73, 2, none, []), (xc_74, 3, none, []), (xc_75, 1, none, []), (xc_76, 2, some 3, []), (xc_77, 4, some 3, []), (xc_78, 4, some 3, []), (xc_79, 3, some 3, [])]
def xp_F4 : List xk_F := [(⟨"ExtentShelf", "isDisk", "(I)Z"⟩, prog_1_method_26_code, (some .boolean), xq_64, 0, 0, []), (⟨"ExtentShelf", "requireDisk", "(I)V"⟩, prog_1_method_27_code, none, xq_65, 6, 82, []), (⟨"ExtentShelf", "requireListed", "(I)V"⟩, prog_1_method_28_code, none, xq_66, 6, 82, []), (⟨"ExtentShelf", "requireListedPresent", "()V"⟩, prog_1_method_29_code, none, xq_67, 6, 82, []), (⟨"ExtentShelf", "requireVolume", "(I)V"⟩, prog_1_method_30_code, none, xq_68, 6, 82, []), (⟨"ExtentShelf", "requireWord", "(II)V"⟩, prog_1_method_31_code, none, xq_69, 6, 82, []), (⟨"ExtentShelf", "isAnyListedAbsent", "()Z"⟩, prog_1_method_32_code, (some .boolean), xq_70, 2, 42, []), (⟨"ExtentShelf", "isAnyListedPresent", "()Z"⟩, prog_1_method_33_code, (some .boolean), xq_71, 3, 64, []), (⟨"ExtentShelf", "isShape", "(II)Z"⟩, prog_1_method_34_code, (some .boolean), xq_72, 0, 0, []), (⟨"ExtentShelf", "mayHave", "(II)Z"⟩, prog_1_method_35_code, (some .boolean), xq_73, 0, 0, []), (⟨"ExtentShelf", "legOf", "(III)I"⟩, prog_1_method_36_code, (some .int), xq_74, 0, 0, []), (⟨"ExtentShelf", "diskOf", "(I)I"⟩, prog_1_method_37_code, (some .int), xq_75, 0, 0, []), (⟨"ExtentShelf", "countWords", "(I)I"⟩, prog_1_method_38_code, (some .int), xq_76, 1, 21, []), (⟨"ExtentShelf", "elementOfWord", "(II)I"⟩, prog_1_method_39_code, (some .int), xq_77, 2, 47, []), (⟨"ExtentShelf", "placeOfWord", "(II)I"⟩, prog_1_method_40_code, (some .int), xq_78, 2, 47, []), (⟨"ExtentShelf", "isReadable", "(I)Z"⟩, prog_1_method_41_code, (some .boolean), xq_79, 1, 21, [])]
def xp_P5 : List xk_M := [(xc_80, 5, some 3, []), (xc_81, 1, some 3, []), (xc_82, 1, some 3, []), (xc_83, 4, some 3, []), (xc_84, 4, some 3, []), (xc_85, 1, some 3, []), (xc_86, 2, some 3, []), (xc_87, 3, some 3, []), (xc_88, 5, some 3, []), (xc_89, 5, some 3, []), (xc_90, 3, some 3, []), (xc_91, 10, some 3, []), (xc_92, 4, some 3, []), (xc_93, 9, some 3, []), (xc_94, 3, some 3, []), (xc_95, 1, none, [])]
def xp_F5 : List xk_F := [(⟨"ExtentShelf", "leastReadableLeg", "(II)I"⟩, prog_1_method_42_code, (some .int), xq_80, 2, 43, []), (⟨"ExtentShelf", "losePower", "()V"⟩, prog_1_method_43_code, none, xq_81, 1, 20, []), (⟨"ExtentShelf", "spendWord", "()V"⟩, prog_1_method_44_code, none, xq_82, 6, 82, []), (⟨"ExtentShelf", "putWord", "(III)V"⟩, prog_1_method_45_code, none, xq_83, 7, 102, []), (⟨"ExtentShelf", "putLegWord", "(III)V"⟩, prog_1_method_46_code, none, xq_84, 8, 125, []), (⟨"ExtentShelf", "beginDraft", "()V"⟩, prog_1_method_47_code, none, xq_85, 2, 48, []), (⟨"ExtentShelf", "commitDraft", "()V"⟩, prog_1_method_48_code, none, xq_86, 8, 126, []), (⟨"ExtentShelf", "isListedAndPresent", "(LExtentShelf$Table;I)Z"⟩, prog_1_method_49_code, (some .boolean), xq_87, 2, 42, []), (⟨"ExtentShelf", "writeTable", "(LExtentShelf$Table;I)V"⟩, prog_1_method_50_code, none, xq_88, 7, 102, []), (⟨"ExtentShelf", "loseAbsentLeg", "(II)V"⟩, prog_1_method_51_code, none, xq_89, 9, 147, []), (⟨"ExtentShelf", "countFree", "(LExtentShelf$Table;I)I"⟩, prog_1_method_52_code, (some .int), xq_90, 2, 44, []), (⟨"ExtentShelf", "findRoom", "(IIII)I"⟩, prog_1_method_53_code, (some .int), xq_91, 3, 75, []), (⟨"ExtentShelf", "leastFreeSpot", "(I)I"⟩, prog_1_method_54_code, (some .int), xq_92, 2, 43, []), (⟨"ExtentShelf", "groupDisks", "(III)I"⟩, prog_1_method_55_code, (some .int), xq_93, 2, 47, []), (⟨"ExtentShelf", "disksOfLeg", "(I)I"⟩, prog_1_method_56_code, (some .int), xq_94, 1, 21, []), (⟨"ExtentShelf", "bitOfDisk", "(I)I"⟩, prog_1_method_57_code, (some .int), xq_95, 0, 0, [])]
def xp_P6 : List xk_M := [(xc_96, 5, some 3, []), (xc_97, 7, some 3, []), (xc_98, 3, some 3, []), (xc_99, 5, some 3, []), (xc_100, 5, some 3, []), (xc_101, 5, some 3, []), (xc_102, 4, some 3, []), (xc_103, 4, some 3, []), (xc_104, 2, some 3, []), (xc_105, 2, some 3, []), (xc_106, 3, some 3, []), (xc_107, 1, some 4, []), (xc_108, 1, none, []), (xc_109, 1, some 4, []), (xc_110, 4, some 4, []), (xc_111, 3, some 4, [])]
def xp_F6 : List xk_F := [(⟨"ExtentShelf", "giveRoom", "(III)V"⟩, prog_1_method_58_code, none, xq_96, 6, 104, []), (⟨"ExtentShelf", "fillElements", "(II)V"⟩, prog_1_method_59_code, none, xq_97, 9, 147, []), (⟨"ExtentShelf", "clearLeg", "(I)V"⟩, prog_1_method_60_code, none, xq_98, 8, 125, []), (⟨"ExtentShelf", "findRoomForLostLegs", "(I)I"⟩, prog_1_method_61_code, (some .int), xq_99, 7, 128, []), (⟨"ExtentShelf", "lostLeg", "(II)I"⟩, prog_1_method_62_code, (some .int), xq_100, 1, 22, []), (⟨"ExtentShelf", "copyToNewLegs", "(I)V"⟩, prog_1_method_63_code, none, xq_101, 9, 148, []), (⟨"ExtentShelf", "copyExtent", "(II)V"⟩, prog_1_method_64_code, none, xq_102, 8, 125, []), (⟨"ExtentShelf", "findRoomToMove", "(I)I"⟩, prog_1_method_65_code, (some .int), xq_103, 4, 104, []), (⟨"ExtentShelf", "copyNextWord", "()V"⟩, prog_1_method_66_code, none, xq_104, 9, 147, []), (⟨"ExtentShelf", "loadNewestTable", "()V"⟩, prog_1_method_67_code, none, xq_105, 3, 73, []), (⟨"ExtentShelf", "alignTwins", "(II)V"⟩, prog_1_method_68_code, none, xq_106, 9, 148, []), (⟨"ExtentShelfModel", "thrown", "()I"⟩, prog_6_method_2_code, (some .int), xq_107, 0, 0, []), (⟨"ExtentShelfModel", "isDisk", "(I)Z"⟩, prog_6_method_3_code, (some .boolean), xq_108, 0, 0, []), (⟨"ExtentShelfModel", "mayWrite", "()Z"⟩, prog_6_method_4_code, (some .boolean), xq_109, 0, 0, []), (⟨"ExtentShelfModel", "put", "(III)V"⟩, prog_6_method_5_code, none, xq_110, 1, 20, []), (⟨"ExtentShelfModel", "get", "(II)I"⟩, prog_6_method_6_code, (some .int), xq_111, 0, 0, [])]
def xp_P7 : List xk_M := [(xc_112, 2, none, []), (xc_113, 2, none, []), (xc_114, 2, none, []), (xc_115, 2, some 4, []), (xc_116, 4, none, []), (xc_117, 4, some 4, []), (xc_118, 3, some 4, []), (xc_119, 2, some 4, []), (xc_120, 6, some 4, []), (xc_121, 4, some 4, []), (xc_122, 5, some 4, []), (xc_123, 3, some 4, []), (xc_124, 2, some 4, []), (xc_125, 3, some 4, []), (xc_126, 5, some 4, []), (xc_127, 5, none, [])]
def xp_F7 : List xk_F := [(⟨"ExtentShelfModel", "kindOf", "([II)I"⟩, prog_6_method_7_code, (some .int), xq_112, 0, 0, []), (⟨"ExtentShelfModel", "columnsOf", "([II)I"⟩, prog_6_method_8_code, (some .int), xq_113, 0, 0, []), (⟨"ExtentShelfModel", "elementsOf", "([II)I"⟩, prog_6_method_9_code, (some .int), xq_114, 0, 0, []), (⟨"ExtentShelfModel", "isVolume", "(I)Z"⟩, prog_6_method_10_code, (some .boolean), xq_115, 0, 0, []), (⟨"ExtentShelfModel", "holds", "([II)Z"⟩, prog_6_method_11_code, (some .boolean), xq_116, 0, 0, []), (⟨"ExtentShelfModel", "legsOn", "(I)I"⟩, prog_6_method_12_code, (some .int), xq_117, 0, 0, []), (⟨"ExtentShelfModel", "isOneAbsent", "()Z"⟩, prog_6_method_13_code, (some .boolean), xq_118, 0, 0, []), (⟨"ExtentShelfModel", "begin", "()V"⟩, prog_6_method_14_code, none, xq_119, 0, 0, []), (⟨"ExtentShelfModel", "numberOf", "(II)I"⟩, prog_6_method_15_code, (some .int), xq_120, 0, 0, []), (⟨"ExtentShelfModel", "slotToWrite", "(I)I"⟩, prog_6_method_16_code, (some .int), xq_121, 1, 25, []), (⟨"ExtentShelfModel", "writeTo", "(I[I)V"⟩, prog_6_method_17_code, none, xq_122, 2, 48, []), (⟨"ExtentShelfModel", "change", "()V"⟩, prog_6_method_18_code, none, xq_123, 3, 72, []), (⟨"ExtentShelfModel", "ended", "(I)I"⟩, prog_6_method_19_code, (some .int), xq_124, 0, 0, []), (⟨"ExtentShelfModel", "isFree", "([II)Z"⟩, prog_6_method_20_code, (some .boolean), xq_125, 1, 23, []), (⟨"ExtentShelfModel", "freeOn", "([II)I"⟩, prog_6_method_21_code, (some .int), xq_126, 2, 45, []), (⟨"ExtentShelfModel", "isBeside", "([IIII)Z"⟩, prog_6_method_22_code, (some .boolean), xq_127, 1, 21, [])]
def xp_P8 : List xk_M := [(xc_128, 8, some 4, []), (xc_129, 9, some 4, []), (xc_130, 5, some 4, []), (xc_131, 5, some 4, []), (xc_132, 3, some 4, []), (xc_133, 4, some 4, []), (xc_134, 3, some 4, []), (xc_135, 5, some 4, []), (xc_136, 2, none, []), (xc_137, 6, some 4, []), (xc_138, 4, some 4, []), (xc_139, 5, some 4, []), (xc_140, 3, some 4, []), (xc_141, 1, none, []), (xc_142, 6, some 4, []), (xc_143, 2, some 4, [])]
def xp_F8 : List xk_F := [(⟨"ExtentShelfModel", "meets", "([IIII)Z"⟩, prog_6_method_23_code, (some .boolean), xq_128, 2, 45, []), (⟨"ExtentShelfModel", "room", "([IIII)I"⟩, prog_6_method_24_code, (some .int), xq_129, 3, 72, []), (⟨"ExtentShelfModel", "find", "(II)Z"⟩, prog_6_method_25_code, (some .boolean), xq_130, 4, 100, []), (⟨"ExtentShelfModel", "clear", "(II)V"⟩, prog_6_method_26_code, none, xq_131, 2, 43, []), (⟨"ExtentShelfModel", "listed", "()I"⟩, prog_6_method_27_code, (some .int), xq_132, 0, 0, []), (⟨"ExtentShelfModel", "add", "(II)V"⟩, prog_6_method_28_code, none, xq_133, 4, 94, []), (⟨"ExtentShelfModel", "remove", "(I)V"⟩, prog_6_method_29_code, none, xq_134, 4, 94, []), (⟨"ExtentShelfModel", "drop", "(I)I"⟩, prog_6_method_30_code, (some .int), xq_135, 4, 94, []), (⟨"ExtentShelfModel", "fits", "(II)Z"⟩, prog_6_method_31_code, (some .boolean), xq_136, 0, 0, []), (⟨"ExtentShelfModel", "make", "(III)I"⟩, prog_6_method_32_code, (some .int), xq_137, 5, 124, []), (⟨"ExtentShelfModel", "grow", "(II)I"⟩, prog_6_method_33_code, (some .int), xq_138, 5, 124, []), (⟨"ExtentShelfModel", "shrink", "(II)I"⟩, prog_6_method_34_code, (some .int), xq_139, 4, 94, []), (⟨"ExtentShelfModel", "delete", "(I)V"⟩, prog_6_method_35_code, none, xq_140, 4, 94, []), (⟨"ExtentShelfModel", "twin", "(I)I"⟩, prog_6_method_36_code, (some .int), xq_141, 0, 0, []), (⟨"ExtentShelfModel", "mend", "(I)I"⟩, prog_6_method_37_code, (some .int), xq_142, 4, 100, []), (⟨"ExtentShelfModel", "isReadable", "(I)Z"⟩, prog_6_method_38_code, (some .boolean), xq_143, 0, 0, [])]
def xp_P9 : List xk_M := [(xc_144, 4, some 4, []), (xc_145, 4, some 4, []), (xc_146, 10, some 4, []), (xc_147, 5, some 4, []), (xc_148, 2, some 4, []), (xc_149, 3, some 4, []), (xc_150, 1, some 4, []), (xc_151, 4, some 4, []), (xc_152, 4, some 4, []), (xc_153, 2, some 4, []), (xc_154, 1, some 4, []), (xc_155, 5, some 4, []), (xc_156, 2, some 4, []), (xc_157, 1, some 4, []), (xc_158, 4, some 4, []), (xc_159, 5, some 4, [])]
def xp_F9 : List xk_F := [(⟨"ExtentShelfModel", "elementOf", "(II)I"⟩, prog_6_method_39_code, (some .int), xq_144, 1, 21, []), (⟨"ExtentShelfModel", "wordOf", "(II)I"⟩, prog_6_method_40_code, (some .int), xq_145, 1, 21, []), (⟨"ExtentShelfModel", "write", "(III)I"⟩, prog_6_method_41_code, (some .int), xq_146, 4, 94, []), (⟨"ExtentShelfModel", "read", "(II)I"⟩, prog_6_method_42_code, (some .int), xq_147, 2, 44, []), (⟨"ExtentShelfModel", "empty", "(I)I"⟩, prog_6_method_43_code, (some .int), xq_148, 1, 23, []), (⟨"ExtentShelfModel", "step", "()I"⟩, prog_6_method_44_code, (some .int), xq_149, 4, 100, []), (⟨"ExtentShelfModel", "moving", "()I"⟩, prog_6_method_45_code, (some .int), xq_150, 0, 0, []), (⟨"ExtentShelfModel", "volume", "(II)I"⟩, prog_6_method_46_code, (some .int), xq_151, 1, 21, []), (⟨"ExtentShelfModel", "where", "(III)I"⟩, prog_6_method_47_code, (some .int), xq_152, 1, 21, []), (⟨"ExtentShelfModel", "free", "(I)I"⟩, prog_6_method_48_code, (some .int), xq_153, 3, 69, []), (⟨"ExtentShelfModel", "number", "()I"⟩, prog_6_method_49_code, (some .int), xq_154, 0, 0, []), (⟨"ExtentShelfModel", "look", "(III)I"⟩, prog_6_method_50_code, (some .int), xq_155, 1, 20, []), (⟨"ExtentShelfModel", "cut", "(I)V"⟩, prog_6_method_51_code, none, xq_156, 0, 0, []), (⟨"ExtentShelfModel", "off", "()V"⟩, prog_6_method_52_code, none, xq_157, 0, 0, []), (⟨"ExtentShelfModel", "plug", "(IZ)Z"⟩, prog_6_method_53_code, (some .boolean), xq_158, 1, 20, []), (⟨"ExtentShelfModel", "start", "()I"⟩, prog_6_method_54_code, (some .int), xq_159, 3, 72, [])]
def xp_P10 : List xk_M := [(xc_160, 4, none, [(0, 1), (1, 2), (2, 3)]), (xc_161, 3, none, [(0, 1), (1, 2), (2, 3)]), (xc_162, 4, none, [(0, 1), (1, 2), (2, 3)]), (xc_163, 6, none, [(0, 1), (1, 2), (2, 3)]), (xc_164, 5, none, [(0, 1), (3, 2), (1, 3), (2, 4)]), (xc_165, 5, none, [(0, 1), (3, 2), (1, 3), (2, 4)]), (xc_166, 3, none, [(0, 1), (3, 2), (2, 3)]), (xc_167, 4, none, [(0, 1), (3, 2), (1, 3), (2, 4)]), (xc_168, 6, none, [(0, 1), (3, 2), (4, 3), (2, 4)]), (xc_169, 5, none, [(0, 1), (3, 2), (4, 3), (2, 4)]), (xc_170, 4, none, [(0, 1), (1, 2), (2, 3)]), (xc_171, 3, none, [(0, 1), (2, 2)]), (xc_172, 5, none, [(0, 1), (3, 2), (1, 3)]), (xc_173, 6, none, [(0, 1), (3, 2)]), (xc_174, 4, none, [(0, 1), (1, 2)]), (xc_175, 3, none, [(0, 1), (1, 2)])]
def xp_F10 : List xk_F := [(⟨"ExtentShelfLaw", "add", "(LExtentShelf;II)I"⟩, method_3_code, (some .int), xq_160, 10, 169, [(0, 6, 9, 13), (0, 6, 12, 15), (0, 6, 15, 17)]), (⟨"ExtentShelfLaw", "remove", "(LExtentShelf;I)I"⟩, method_4_code, (some .int), xq_161, 10, 168, [(0, 5, 8, 13), (0, 5, 11, 15), (0, 5, 14, 17)]), (⟨"ExtentShelfLaw", "drop", "(LExtentShelf;I[J)I"⟩, method_5_code, (some .int), xq_162, 10, 169, [(0, 9, 12, 13), (0, 9, 15, 15), (0, 9, 18, 17)]), (⟨"ExtentShelfLaw", "make", "(LExtentShelf;III[J)I"⟩, method_6_code, (some .int), xq_163, 11, 197, [(0, 12, 15, 13), (0, 12, 19, 15), (0, 12, 23, 17)]), (⟨"ExtentShelfLaw", "grow", "(LExtentShelf;II[J)I"⟩, method_7_code, (some .int), xq_164, 11, 196, [(0, 10, 13, 13), (0, 10, 17, 35), (0, 10, 21, 15), (0, 10, 25, 17)]), (⟨"ExtentShelfLaw", "shrink", "(LExtentShelf;II[J)I"⟩, method_8_code, (some .int), xq_165, 10, 170, [(0, 10, 13, 13), (0, 10, 17, 35), (0, 10, 21, 15), (0, 10, 25, 17)]), (⟨"ExtentShelfLaw", "delete", "(LExtentShelf;I)I"⟩, method_9_code, (some .int), xq_166, 10, 168, [(0, 5, 8, 13), (0, 5, 11, 35), (0, 5, 14, 17)]), (⟨"ExtentShelfLaw", "mend", "(LExtentShelf;I[J)I"⟩, method_10_code, (some .int), xq_167, 11, 194, [(0, 9, 12, 13), (0, 9, 15, 35), (0, 9, 18, 15), (0, 9, 21, 17)]), (⟨"ExtentShelfLaw", "write", "(LExtentShelf;III[J)I"⟩, method_11_code, (some .int), xq_168, 11, 199, [(0, 12, 15, 13), (0, 12, 19, 35), (0, 12, 23, 49), (0, 12, 27, 17)]), (⟨"ExtentShelfLaw", "read", "(LExtentShelf;II[J)I"⟩, method_12_code, (some .int), xq_169, 8, 127, [(0, 10, 13, 13), (0, 10, 17, 35), (0, 10, 21, 49), (0, 10, 25, 17)]), (⟨"ExtentShelfLaw", "empty", "(LExtentShelf;I[J)I"⟩, method_13_code, (some .int), xq_170, 8, 124, [(0, 9, 12, 13), (0, 9, 15, 15), (0, 9, 18, 17)]), (⟨"ExtentShelfLaw", "step", "(LExtentShelf;[J)I"⟩, method_14_code, (some .int), xq_171, 11, 190, [(0, 8, 11, 13), (0, 8, 14, 17)]), (⟨"ExtentShelfLaw", "volume", "(LExtentShelf;II[J)I"⟩, method_15_code, (some .int), xq_172, 8, 125, [(0, 10, 13, 13), (0, 10, 17, 35), (0, 10, 21, 15)]), (⟨"ExtentShelfLaw", "where", "(LExtentShelf;III[J)I"⟩, method_16_code, (some .int), xq_173, 8, 126, [(0, 12, 15, 13), (0, 12, 19, 35)]), (⟨"ExtentShelfLaw", "free", "(LExtentShelf;I[J)I"⟩, method_17_code, (some .int), xq_174, 8, 123, [(0, 9, 12, 13), (0, 9, 15, 15)]), (⟨"ExtentShelfLaw", "cut", "(LExtentShelf;I)I"⟩, method_18_code, (some .int), xq_175, 8, 123, [(0, 5, 8, 13), (0, 5, 11, 15)])]
def xp_P11 : List xk_M := [(xc_176, 2, none, [(0, 1)]), (xc_177, 5, none, [(0, 1), (1, 2)]), (xc_178, 3, none, [(0, 1)]), (xc_179, 6, none, [(4, 1)])]
def xp_F11 : List xk_F := [(⟨"ExtentShelfLaw", "off", "(LExtentShelf;)I"⟩, method_19_code, (some .int), xq_176, 8, 122, [(0, 4, 7, 13)]), (⟨"ExtentShelfLaw", "plug", "(LExtentShelf;IZ[J)I"⟩, method_20_code, (some .int), xq_177, 8, 125, [(0, 17, 20, 13), (0, 17, 24, 15)]), (⟨"ExtentShelfLaw", "start", "(LExtentShelf;[J)I"⟩, method_21_code, (some .int), xq_178, 11, 191, [(0, 8, 11, 13)]), (⟨"ExtentShelfLaw", "look", "(LExtentShelf;III[J)I"⟩, method_22_code, (some .int), xq_179, 7, 107, [(0, 12, 15, 49)])]
def xp_Pl : List (List xk_M) := [xp_P0, xp_P1, xp_P2, xp_P3, xp_P4, xp_P5, xp_P6, xp_P7, xp_P8, xp_P9, xp_P10, xp_P11]
def xp_Fl : List (List xk_F) := [xp_F0, xp_F1, xp_F2, xp_F3, xp_F4, xp_F5, xp_F6, xp_F7, xp_F8, xp_F9, xp_F10, xp_F11]
def xp_P (k : Nat) : xk_M := (xp_Pl.getD (k / 16) []).getD (k % 16) ([], 0, none, [])
def xp_F (k : Nat) : xk_F := (xp_Fl.getD (k / 16) []).getD (k % 16) (⟨"ExtentShelf", "", ""⟩, ⟨#[]⟩, none, [], 0, 0, [])
end XkTables
