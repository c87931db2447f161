section
-- ===== PART A: goes FIRST, ahead of the names: the tables' words, and 'selects' of the private methods out of them =====
/-- a private method of a class that the tables say can be made, by its rows of tables_1 -/
def lw_okq (q : MethodName × Nat) : Prop := (q.1.cls ≠ "java/lang/invoke/MethodHandle" ∧ q.1.cls ≠ "java/lang/invoke/VarHandle") ∧ Cond.instantiable q.1.cls q.2 ∈ tables_1 ∧ Cond.privateMethod q.1 ∈ tables_1 ∧ Cond.instanceMethod q.1 ∈ tables_1
theorem lw_p0 : lw_okq (⟨"SumForms$Form", "become", "(IJJJZZ)V"⟩, 8) := ⟨⟨by decide +kernel, by decide +kernel⟩, List.mem_of_getElem? (i := 36) (by decide +kernel), List.mem_of_getElem? (i := 139) (by decide +kernel), List.mem_of_getElem? (i := 140) (by decide +kernel)⟩
theorem lw_p1 : lw_okq (⟨"SumForms", "isForm", "(I)Z"⟩, 5) := ⟨⟨by decide +kernel, by decide +kernel⟩, List.mem_of_getElem? (i := 9) (by decide +kernel), List.mem_of_getElem? (i := 167) (by decide +kernel), List.mem_of_getElem? (i := 168) (by decide +kernel)⟩
theorem lw_p2 : lw_okq (⟨"SumForms", "isPart", "(II)Z"⟩, 5) := ⟨⟨by decide +kernel, by decide +kernel⟩, List.mem_of_getElem? (i := 9) (by decide +kernel), List.mem_of_getElem? (i := 171) (by decide +kernel), List.mem_of_getElem? (i := 172) (by decide +kernel)⟩
theorem lw_p3 : lw_okq (⟨"SumForms$Form", "behindOctet", "(JI)J"⟩, 8) := ⟨⟨by decide +kernel, by decide +kernel⟩, List.mem_of_getElem? (i := 36) (by decide +kernel), List.mem_of_getElem? (i := 176) (by decide +kernel), List.mem_of_getElem? (i := 177) (by decide +kernel)⟩
theorem lw_p4 : lw_okq (⟨"SumForms$Form", "sumOf", "(J)J"⟩, 8) := ⟨⟨by decide +kernel, by decide +kernel⟩, List.mem_of_getElem? (i := 36) (by decide +kernel), List.mem_of_getElem? (i := 183) (by decide +kernel), List.mem_of_getElem? (i := 184) (by decide +kernel)⟩
theorem lw_p5 : lw_okq (⟨"SumForms", "isSum", "(IJ)Z"⟩, 5) := ⟨⟨by decide +kernel, by decide +kernel⟩, List.mem_of_getElem? (i := 9) (by decide +kernel), List.mem_of_getElem? (i := 194) (by decide +kernel), List.mem_of_getElem? (i := 195) (by decide +kernel)⟩
theorem lw_p6 : lw_okq (⟨"SumForms$Form", "registerOf", "(J)J"⟩, 8) := ⟨⟨by decide +kernel, by decide +kernel⟩, List.mem_of_getElem? (i := 36) (by decide +kernel), List.mem_of_getElem? (i := 202) (by decide +kernel), List.mem_of_getElem? (i := 203) (by decide +kernel)⟩
theorem lw_p7 : lw_okq (⟨"SumForms$Form", "movedByOctets", "(JJ)J"⟩, 8) := ⟨⟨by decide +kernel, by decide +kernel⟩, List.mem_of_getElem? (i := 36) (by decide +kernel), List.mem_of_getElem? (i := 206) (by decide +kernel), List.mem_of_getElem? (i := 207) (by decide +kernel)⟩
theorem lw_p8 : lw_okq (⟨"SumForms$Form", "octetsBetween", "(JJ)J"⟩, 8) := ⟨⟨by decide +kernel, by decide +kernel⟩, List.mem_of_getElem? (i := 36) (by decide +kernel), List.mem_of_getElem? (i := 229) (by decide +kernel), List.mem_of_getElem? (i := 230) (by decide +kernel)⟩
theorem lw_p9 : lw_okq (⟨"SumForms$Form", "movedDown", "(J)J"⟩, 8) := ⟨⟨by decide +kernel, by decide +kernel⟩, List.mem_of_getElem? (i := 36) (by decide +kernel), List.mem_of_getElem? (i := 233) (by decide +kernel), List.mem_of_getElem? (i := 234) (by decide +kernel)⟩
theorem lw_p10 : lw_okq (⟨"SumForms$Form", "turnedByOctets", "(J)J"⟩, 8) := ⟨⟨by decide +kernel, by decide +kernel⟩, List.mem_of_getElem? (i := 36) (by decide +kernel), List.mem_of_getElem? (i := 237) (by decide +kernel), List.mem_of_getElem? (i := 238) (by decide +kernel)⟩
theorem lw_p11 : lw_okq (⟨"SumForms$Factors", "findFor", "(J)V"⟩, 5) := ⟨⟨by decide +kernel, by decide +kernel⟩, List.mem_of_getElem? (i := 42) (by decide +kernel), List.mem_of_getElem? (i := 246) (by decide +kernel), List.mem_of_getElem? (i := 247) (by decide +kernel)⟩
theorem lw_p12 : lw_okq (⟨"SumForms$Factors", "append", "(JI)V"⟩, 5) := ⟨⟨by decide +kernel, by decide +kernel⟩, List.mem_of_getElem? (i := 42) (by decide +kernel), List.mem_of_getElem? (i := 259) (by decide +kernel), List.mem_of_getElem? (i := 260) (by decide +kernel)⟩
theorem lw_p13 : lw_okq (⟨"SumForms$Factors", "split", "(IJI)V"⟩, 5) := ⟨⟨by decide +kernel, by decide +kernel⟩, List.mem_of_getElem? (i := 42) (by decide +kernel), List.mem_of_getElem? (i := 263) (by decide +kernel), List.mem_of_getElem? (i := 264) (by decide +kernel)⟩
theorem lw_p14 : lw_okq (⟨"SumForms$Factors", "splitOne", "(IJ)V"⟩, 5) := ⟨⟨by decide +kernel, by decide +kernel⟩, List.mem_of_getElem? (i := 42) (by decide +kernel), List.mem_of_getElem? (i := 272) (by decide +kernel), List.mem_of_getElem? (i := 273) (by decide +kernel)⟩
theorem lw_p15 : lw_okq (⟨"SumForms$Factors", "sort", "(I)V"⟩, 5) := ⟨⟨by decide +kernel, by decide +kernel⟩, List.mem_of_getElem? (i := 42) (by decide +kernel), List.mem_of_getElem? (i := 280) (by decide +kernel), List.mem_of_getElem? (i := 281) (by decide +kernel)⟩
def lw_privs_1 : List (MethodName × Nat) := [(⟨"SumForms$Form", "become", "(IJJJZZ)V"⟩, 8), (⟨"SumForms", "isForm", "(I)Z"⟩, 5), (⟨"SumForms", "isPart", "(II)Z"⟩, 5), (⟨"SumForms$Form", "behindOctet", "(JI)J"⟩, 8), (⟨"SumForms$Form", "sumOf", "(J)J"⟩, 8), (⟨"SumForms", "isSum", "(IJ)Z"⟩, 5), (⟨"SumForms$Form", "registerOf", "(J)J"⟩, 8), (⟨"SumForms$Form", "movedByOctets", "(JJ)J"⟩, 8), (⟨"SumForms$Form", "octetsBetween", "(JJ)J"⟩, 8), (⟨"SumForms$Form", "movedDown", "(J)J"⟩, 8), (⟨"SumForms$Form", "turnedByOctets", "(J)J"⟩, 8), (⟨"SumForms$Factors", "findFor", "(J)V"⟩, 5), (⟨"SumForms$Factors", "append", "(JI)V"⟩, 5), (⟨"SumForms$Factors", "split", "(IJI)V"⟩, 5), (⟨"SumForms$Factors", "splitOne", "(IJ)V"⟩, 5), (⟨"SumForms$Factors", "sort", "(I)V"⟩, 5)]
theorem lw_r1 : ∀ q ∈ lw_privs_1, lw_okq q := List.forall_mem_cons.mpr ⟨lw_p0, List.forall_mem_cons.mpr ⟨lw_p1, List.forall_mem_cons.mpr ⟨lw_p2, List.forall_mem_cons.mpr ⟨lw_p3, List.forall_mem_cons.mpr ⟨lw_p4, List.forall_mem_cons.mpr ⟨lw_p5, List.forall_mem_cons.mpr ⟨lw_p6, List.forall_mem_cons.mpr ⟨lw_p7, List.forall_mem_cons.mpr ⟨lw_p8, List.forall_mem_cons.mpr ⟨lw_p9, List.forall_mem_cons.mpr ⟨lw_p10, List.forall_mem_cons.mpr ⟨lw_p11, List.forall_mem_cons.mpr ⟨lw_p12, List.forall_mem_cons.mpr ⟨lw_p13, List.forall_mem_cons.mpr ⟨lw_p14, List.forall_mem_cons.mpr ⟨lw_p15, fun _ h => absurd h List.not_mem_nil⟩⟩⟩⟩⟩⟩⟩⟩⟩⟩⟩⟩⟩⟩⟩⟩
theorem lw_p16 : lw_okq (⟨"SumForms$Factors", "withoutFactorsFrom", "(IJ)J"⟩, 5) := ⟨⟨by decide +kernel, by decide +kernel⟩, List.mem_of_getElem? (i := 42) (by decide +kernel), List.mem_of_getElem? (i := 284) (by decide +kernel), List.mem_of_getElem? (i := 285) (by decide +kernel)⟩
theorem lw_p17 : lw_okq (⟨"SumForms$Factors", "foundPeriod", "()J"⟩, 5) := ⟨⟨by decide +kernel, by decide +kernel⟩, List.mem_of_getElem? (i := 42) (by decide +kernel), List.mem_of_getElem? (i := 296) (by decide +kernel), List.mem_of_getElem? (i := 297) (by decide +kernel)⟩
theorem lw_p18 : lw_okq (⟨"SumForms$Unseen", "findFor", "(JLSumForms$Remainders;)V"⟩, 4) := ⟨⟨by decide +kernel, by decide +kernel⟩, List.mem_of_getElem? (i := 67) (by decide +kernel), List.mem_of_getElem? (i := 318) (by decide +kernel), List.mem_of_getElem? (i := 319) (by decide +kernel)⟩
theorem lw_p19 : lw_okq (⟨"SumForms$Remainders", "clear", "()V"⟩, 3) := ⟨⟨by decide +kernel, by decide +kernel⟩, List.mem_of_getElem? (i := 19) (by decide +kernel), List.mem_of_getElem? (i := 323) (by decide +kernel), List.mem_of_getElem? (i := 324) (by decide +kernel)⟩
theorem lw_p20 : lw_okq (⟨"SumForms$Remainders", "add", "(J)V"⟩, 3) := ⟨⟨by decide +kernel, by decide +kernel⟩, List.mem_of_getElem? (i := 19) (by decide +kernel), List.mem_of_getElem? (i := 327) (by decide +kernel), List.mem_of_getElem? (i := 328) (by decide +kernel)⟩
theorem lw_p21 : lw_okq (⟨"SumForms$Remainders", "slotOf", "(J)I"⟩, 3) := ⟨⟨by decide +kernel, by decide +kernel⟩, List.mem_of_getElem? (i := 19) (by decide +kernel), List.mem_of_getElem? (i := 331) (by decide +kernel), List.mem_of_getElem? (i := 332) (by decide +kernel)⟩
theorem lw_p22 : lw_okq (⟨"SumForms$Unseen", "lookAt", "(JILSumForms$Remainders;)V"⟩, 4) := ⟨⟨by decide +kernel, by decide +kernel⟩, List.mem_of_getElem? (i := 67) (by decide +kernel), List.mem_of_getElem? (i := 337) (by decide +kernel), List.mem_of_getElem? (i := 338) (by decide +kernel)⟩
theorem lw_p23 : lw_okq (⟨"SumForms$Remainders", "has", "(J)Z"⟩, 3) := ⟨⟨by decide +kernel, by decide +kernel⟩, List.mem_of_getElem? (i := 19) (by decide +kernel), List.mem_of_getElem? (i := 341) (by decide +kernel), List.mem_of_getElem? (i := 342) (by decide +kernel)⟩
theorem lw_p24 : lw_okq (⟨"SumForms$Remainders", "hasTwo", "(J)Z"⟩, 3) := ⟨⟨by decide +kernel, by decide +kernel⟩, List.mem_of_getElem? (i := 19) (by decide +kernel), List.mem_of_getElem? (i := 345) (by decide +kernel), List.mem_of_getElem? (i := 346) (by decide +kernel)⟩
theorem lw_p25 : lw_okq (⟨"SumForms$Unseen", "fewest", "(I)I"⟩, 4) := ⟨⟨by decide +kernel, by decide +kernel⟩, List.mem_of_getElem? (i := 67) (by decide +kernel), List.mem_of_getElem? (i := 350) (by decide +kernel), List.mem_of_getElem? (i := 351) (by decide +kernel)⟩
theorem lw_p26 : lw_okq (⟨"SumFormsModel", "isForm", "(I)Z"⟩, 16) := ⟨⟨by decide +kernel, by decide +kernel⟩, List.mem_of_getElem? (i := 383) (by decide +kernel), List.mem_of_getElem? (i := 472) (by decide +kernel), List.mem_of_getElem? (i := 473) (by decide +kernel)⟩
theorem lw_p27 : lw_okq (⟨"SumFormsModel", "isSpan", "(II)Z"⟩, 16) := ⟨⟨by decide +kernel, by decide +kernel⟩, List.mem_of_getElem? (i := 383) (by decide +kernel), List.mem_of_getElem? (i := 476) (by decide +kernel), List.mem_of_getElem? (i := 477) (by decide +kernel)⟩
theorem lw_p28 : lw_okq (⟨"SumFormsModel", "taken", "(IJI)J"⟩, 16) := ⟨⟨by decide +kernel, by decide +kernel⟩, List.mem_of_getElem? (i := 383) (by decide +kernel), List.mem_of_getElem? (i := 481) (by decide +kernel), List.mem_of_getElem? (i := 482) (by decide +kernel)⟩
theorem lw_p29 : lw_okq (⟨"SumFormsModel", "up", "(IJ)J"⟩, 16) := ⟨⟨by decide +kernel, by decide +kernel⟩, List.mem_of_getElem? (i := 383) (by decide +kernel), List.mem_of_getElem? (i := 485) (by decide +kernel), List.mem_of_getElem? (i := 486) (by decide +kernel)⟩
theorem lw_p30 : lw_okq (⟨"SumFormsModel", "told", "(IJ)J"⟩, 16) := ⟨⟨by decide +kernel, by decide +kernel⟩, List.mem_of_getElem? (i := 383) (by decide +kernel), List.mem_of_getElem? (i := 489) (by decide +kernel), List.mem_of_getElem? (i := 490) (by decide +kernel)⟩
theorem lw_p31 : lw_okq (⟨"SumFormsModel", "isSum", "(IJ)Z"⟩, 16) := ⟨⟨by decide +kernel, by decide +kernel⟩, List.mem_of_getElem? (i := 383) (by decide +kernel), List.mem_of_getElem? (i := 500) (by decide +kernel), List.mem_of_getElem? (i := 501) (by decide +kernel)⟩
def lw_privs_2 : List (MethodName × Nat) := [(⟨"SumForms$Factors", "withoutFactorsFrom", "(IJ)J"⟩, 5), (⟨"SumForms$Factors", "foundPeriod", "()J"⟩, 5), (⟨"SumForms$Unseen", "findFor", "(JLSumForms$Remainders;)V"⟩, 4), (⟨"SumForms$Remainders", "clear", "()V"⟩, 3), (⟨"SumForms$Remainders", "add", "(J)V"⟩, 3), (⟨"SumForms$Remainders", "slotOf", "(J)I"⟩, 3), (⟨"SumForms$Unseen", "lookAt", "(JILSumForms$Remainders;)V"⟩, 4), (⟨"SumForms$Remainders", "has", "(J)Z"⟩, 3), (⟨"SumForms$Remainders", "hasTwo", "(J)Z"⟩, 3), (⟨"SumForms$Unseen", "fewest", "(I)I"⟩, 4), (⟨"SumFormsModel", "isForm", "(I)Z"⟩, 16), (⟨"SumFormsModel", "isSpan", "(II)Z"⟩, 16), (⟨"SumFormsModel", "taken", "(IJI)J"⟩, 16), (⟨"SumFormsModel", "up", "(IJ)J"⟩, 16), (⟨"SumFormsModel", "told", "(IJ)J"⟩, 16), (⟨"SumFormsModel", "isSum", "(IJ)Z"⟩, 16)]
theorem lw_r2 : ∀ q ∈ lw_privs_2, lw_okq q := List.forall_mem_cons.mpr ⟨lw_p16, List.forall_mem_cons.mpr ⟨lw_p17, List.forall_mem_cons.mpr ⟨lw_p18, List.forall_mem_cons.mpr ⟨lw_p19, List.forall_mem_cons.mpr ⟨lw_p20, List.forall_mem_cons.mpr ⟨lw_p21, List.forall_mem_cons.mpr ⟨lw_p22, List.forall_mem_cons.mpr ⟨lw_p23, List.forall_mem_cons.mpr ⟨lw_p24, List.forall_mem_cons.mpr ⟨lw_p25, List.forall_mem_cons.mpr ⟨lw_p26, List.forall_mem_cons.mpr ⟨lw_p27, List.forall_mem_cons.mpr ⟨lw_p28, List.forall_mem_cons.mpr ⟨lw_p29, List.forall_mem_cons.mpr ⟨lw_p30, List.forall_mem_cons.mpr ⟨lw_p31, fun _ h => absurd h List.not_mem_nil⟩⟩⟩⟩⟩⟩⟩⟩⟩⟩⟩⟩⟩⟩⟩⟩
theorem lw_p32 : lw_okq (⟨"SumFormsModel", "register", "(IJ)J"⟩, 16) := ⟨⟨by decide +kernel, by decide +kernel⟩, List.mem_of_getElem? (i := 383) (by decide +kernel), List.mem_of_getElem? (i := 508) (by decide +kernel), List.mem_of_getElem? (i := 509) (by decide +kernel)⟩
theorem lw_p33 : lw_okq (⟨"SumFormsModel", "moved", "(IJJ)J"⟩, 16) := ⟨⟨by decide +kernel, by decide +kernel⟩, List.mem_of_getElem? (i := 383) (by decide +kernel), List.mem_of_getElem? (i := 512) (by decide +kernel), List.mem_of_getElem? (i := 513) (by decide +kernel)⟩
theorem lw_p34 : lw_okq (⟨"SumFormsModel", "power", "(IJJ)J"⟩, 16) := ⟨⟨by decide +kernel, by decide +kernel⟩, List.mem_of_getElem? (i := 383) (by decide +kernel), List.mem_of_getElem? (i := 516) (by decide +kernel), List.mem_of_getElem? (i := 517) (by decide +kernel)⟩
theorem lw_p35 : lw_okq (⟨"SumFormsModel", "times", "(IJJ)J"⟩, 16) := ⟨⟨by decide +kernel, by decide +kernel⟩, List.mem_of_getElem? (i := 383) (by decide +kernel), List.mem_of_getElem? (i := 520) (by decide +kernel), List.mem_of_getElem? (i := 521) (by decide +kernel)⟩
theorem lw_p36 : lw_okq (⟨"SumFormsModel", "down", "(IJ)J"⟩, 16) := ⟨⟨by decide +kernel, by decide +kernel⟩, List.mem_of_getElem? (i := 383) (by decide +kernel), List.mem_of_getElem? (i := 536) (by decide +kernel), List.mem_of_getElem? (i := 537) (by decide +kernel)⟩
theorem lw_p37 : lw_okq (⟨"SumFormsModel", "know", "(I)V"⟩, 16) := ⟨⟨by decide +kernel, by decide +kernel⟩, List.mem_of_getElem? (i := 383) (by decide +kernel), List.mem_of_getElem? (i := 544) (by decide +kernel), List.mem_of_getElem? (i := 545) (by decide +kernel)⟩
theorem lw_p38 : lw_okq (⟨"SumFormsModel", "findOrder", "(I)J"⟩, 16) := ⟨⟨by decide +kernel, by decide +kernel⟩, List.mem_of_getElem? (i := 383) (by decide +kernel), List.mem_of_getElem? (i := 559) (by decide +kernel), List.mem_of_getElem? (i := 560) (by decide +kernel)⟩
theorem lw_p39 : lw_okq (⟨"SumFormsModel", "clear", "()V"⟩, 16) := ⟨⟨by decide +kernel, by decide +kernel⟩, List.mem_of_getElem? (i := 383) (by decide +kernel), List.mem_of_getElem? (i := 578) (by decide +kernel), List.mem_of_getElem? (i := 579) (by decide +kernel)⟩
theorem lw_p40 : lw_okq (⟨"SumFormsModel", "had", "(JZ)Z"⟩, 16) := ⟨⟨by decide +kernel, by decide +kernel⟩, List.mem_of_getElem? (i := 383) (by decide +kernel), List.mem_of_getElem? (i := 582) (by decide +kernel), List.mem_of_getElem? (i := 583) (by decide +kernel)⟩
def lw_privs_3 : List (MethodName × Nat) := [(⟨"SumFormsModel", "register", "(IJ)J"⟩, 16), (⟨"SumFormsModel", "moved", "(IJJ)J"⟩, 16), (⟨"SumFormsModel", "power", "(IJJ)J"⟩, 16), (⟨"SumFormsModel", "times", "(IJJ)J"⟩, 16), (⟨"SumFormsModel", "down", "(IJ)J"⟩, 16), (⟨"SumFormsModel", "know", "(I)V"⟩, 16), (⟨"SumFormsModel", "findOrder", "(I)J"⟩, 16), (⟨"SumFormsModel", "clear", "()V"⟩, 16), (⟨"SumFormsModel", "had", "(JZ)Z"⟩, 16)]
theorem lw_r3 : ∀ q ∈ lw_privs_3, lw_okq q := List.forall_mem_cons.mpr ⟨lw_p32, List.forall_mem_cons.mpr ⟨lw_p33, List.forall_mem_cons.mpr ⟨lw_p34, List.forall_mem_cons.mpr ⟨lw_p35, List.forall_mem_cons.mpr ⟨lw_p36, List.forall_mem_cons.mpr ⟨lw_p37, List.forall_mem_cons.mpr ⟨lw_p38, List.forall_mem_cons.mpr ⟨lw_p39, List.forall_mem_cons.mpr ⟨lw_p40, fun _ h => absurd h List.not_mem_nil⟩⟩⟩⟩⟩⟩⟩⟩⟩
def lw_privs : List (MethodName × Nat) := lw_privs_1 ++ (lw_privs_2 ++ (lw_privs_3))
def lw_tbl : List Cond := k2_sels lw_privs ++ tables_1
theorem lw_privs_ok : ∀ q ∈ lw_privs, lw_okq q := by
  show ∀ q ∈ lw_privs_1 ++ (lw_privs_2 ++ (lw_privs_3)), lw_okq q
  exact List.forall_mem_append.mpr ⟨lw_r1, List.forall_mem_append.mpr ⟨lw_r2, lw_r3⟩⟩
end
section
/-! ===== BEGIN words of one list among another's, by their places ===== -/
theorem goodIn_r {big : List Cond} (ws : List Cond) (ps : List Nat) (hp : ws = ps.filterMap (fun i => big[i]?)) (h : ws.all goodWord = true) : GoodIn big ws := by
  intro w hw
  have h1 := List.all_eq_true.mp h w hw
  rw [hp] at hw
  obtain ⟨i, -, hi⟩ := List.mem_filterMap.mp hw
  have hm : w ∈ big := by first | exact List.mem_of_getElem? hi | exact List.getElem?_mem hi
  exact ⟨hm, good_of_word h1⟩
theorem goodIn_app {big a b : List Cond} (ha : GoodIn big a) (hb : GoodIn big b) : GoodIn big (a ++ b) := fun w h => (List.mem_append.mp h).elim (ha w) (hb w)
theorem goodIn_ca {big a b : List Cond} {c : Cond} (ha : GoodIn big (c :: a)) (hb : GoodIn big b) : GoodIn big (c :: (a ++ b)) := fun w h => (List.mem_cons.mp h).elim (fun e => ha w (List.mem_cons.mpr (Or.inl e))) (fun h => (List.mem_append.mp h).elim (fun h => ha w (List.mem_cons.mpr (Or.inr h))) (hb w))
theorem goodIn_sub {big ws : List Cond} (hm : ∀ w ∈ ws, w ∈ big) (h : ws.all goodWord = true) : GoodIn big ws := fun w hw => ⟨hm w hw, good_of_word (List.all_eq_true.mp h w hw)⟩
/-! ===== END ===== -/

/-! ===== BEGIN printed: names, fields, word lists, decode rows ===== -/
def RX0 : String := "SumForms$Factors"
def TX0 : u_T := fun k => match k with
  | 0 => ("SumForms$Factors", "polynomials", "[J", true)
  | 1 => ("SumForms$Factors", "times", "[I", true)
  | 2 => ("SumForms$Factors", "size", "I", false)
  | 3 => ("SumForms$Factors", "period", "J", false)
  | _ => ("SumForms$Factors", "foundFor", "J", false)
def tyX0 : Nat → FieldType := fun k => match k with
  | 0 => .array .long
  | 1 => .array .int
  | 2 => .int
  | 3 => .long
  | _ => .long
abbrev wsX00 : List Cond := u_ws RX0 TX0 5
theorem nmX0 : ∀ a, a < 5 → ∀ b, b < 5 → a ≠ b → (TX0 a).2.1 ≠ (TX0 b).2.1 := by decide +kernel
theorem tyX0_ok : ∀ k, k < 5 → parseFieldDescriptor (TX0 k).2.2.1 = some (tyX0 k) := by decide +kernel
abbrev cX0_init : ByteArray := prog_2_method_1_code
def yX0_init : MethodName := ⟨RX0, "<init>", "()V"⟩
abbrev cX0_findFor : ByteArray := prog_2_method_2_code
def yX0_findFor : MethodName := ⟨RX0, "findFor", "(J)V"⟩
abbrev cX0_append : ByteArray := prog_2_method_3_code
def yX0_append : MethodName := ⟨RX0, "append", "(JI)V"⟩
abbrev cX0_split : ByteArray := prog_2_method_4_code
def yX0_split : MethodName := ⟨RX0, "split", "(IJI)V"⟩
abbrev cX0_splitOne : ByteArray := prog_2_method_5_code
def yX0_splitOne : MethodName := ⟨RX0, "splitOne", "(IJ)V"⟩
abbrev cX0_sort : ByteArray := prog_2_method_6_code
def yX0_sort : MethodName := ⟨RX0, "sort", "(I)V"⟩
abbrev cX0_withoutFactorsFrom : ByteArray := prog_2_method_7_code
def yX0_withoutFactorsFrom : MethodName := ⟨RX0, "withoutFactorsFrom", "(IJ)J"⟩
abbrev cX0_foundPeriod : ByteArray := prog_2_method_8_code
def yX0_foundPeriod : MethodName := ⟨RX0, "foundPeriod", "()J"⟩
abbrev cX0_periodOf : ByteArray := prog_2_method_9_code
def yX0_periodOf : MethodName := ⟨RX0, "periodOf", "(J)J"⟩
abbrev cX0_withoutPrime : ByteArray := prog_2_method_10_code
def yX0_withoutPrime : MethodName := ⟨RX0, "withoutPrime", "(JIJ)J"⟩
abbrev cX0_leastCommonMultiple : ByteArray := prog_2_method_11_code
def yX0_leastCommonMultiple : MethodName := ⟨RX0, "leastCommonMultiple", "(JJ)J"⟩
def RX1 : String := "SumForms$Form"
def TX1 : u_T := fun k => match k with
  | 0 => ("SumForms$Form", "width", "I", false)
  | 1 => ("SumForms$Form", "generator", "J", false)
  | 2 => ("SumForms$Form", "start", "J", false)
  | 3 => ("SumForms$Form", "end", "J", false)
  | 4 => ("SumForms$Form", "in", "Z", false)
  | 5 => ("SumForms$Form", "out", "Z", false)
  | 6 => ("SumForms$Form", "factoring", "LSumForms$Factors;", true)
  | _ => ("SumForms$Form", "unseen", "LSumForms$Unseen;", true)
def tyX1 : Nat → FieldType := fun k => match k with
  | 0 => .int
  | 1 => .long
  | 2 => .long
  | 3 => .long
  | 4 => .boolean
  | 5 => .boolean
  | 6 => .object "SumForms$Factors"
  | _ => .object "SumForms$Unseen"
abbrev wsX10 : List Cond := u_ws RX1 TX1 8
theorem nmX1 : ∀ a, a < 8 → ∀ b, b < 8 → a ≠ b → (TX1 a).2.1 ≠ (TX1 b).2.1 := by decide +kernel
theorem tyX1_ok : ∀ k, k < 8 → parseFieldDescriptor (TX1 k).2.2.1 = some (tyX1 k) := by decide +kernel
abbrev cX1_init : ByteArray := prog_3_method_1_code
def yX1_init : MethodName := ⟨RX1, "<init>", "()V"⟩
abbrev cX1_become : ByteArray := prog_3_method_2_code
def yX1_become : MethodName := ⟨RX1, "become", "(IJJJZZ)V"⟩
abbrev cX1_sumOf : ByteArray := prog_3_method_3_code
def yX1_sumOf : MethodName := ⟨RX1, "sumOf", "(J)J"⟩
abbrev cX1_registerOf : ByteArray := prog_3_method_4_code
def yX1_registerOf : MethodName := ⟨RX1, "registerOf", "(J)J"⟩
abbrev cX1_behindOctet : ByteArray := prog_3_method_5_code
def yX1_behindOctet : MethodName := ⟨RX1, "behindOctet", "(JI)J"⟩
abbrev cX1_movedDown : ByteArray := prog_3_method_6_code
def yX1_movedDown : MethodName := ⟨RX1, "movedDown", "(J)J"⟩
abbrev cX1_movedByOctets : ByteArray := prog_3_method_7_code
def yX1_movedByOctets : MethodName := ⟨RX1, "movedByOctets", "(JJ)J"⟩
abbrev cX1_octetsBetween : ByteArray := prog_3_method_8_code
def yX1_octetsBetween : MethodName := ⟨RX1, "octetsBetween", "(JJ)J"⟩
abbrev cX1_turnedByOctets : ByteArray := prog_3_method_9_code
def yX1_turnedByOctets : MethodName := ⟨RX1, "turnedByOctets", "(J)J"⟩
abbrev cX1_turned : ByteArray := prog_3_method_10_code
def yX1_turned : MethodName := ⟨RX1, "turned", "(JI)J"⟩
def RX2 : String := "SumForms$Polynomials"
def TX2 : u_T := fun k => match k with
  | _ => ("", "", "", false)
def tyX2 : Nat → FieldType := fun k => match k with
  | _ => .int
abbrev wsX20 : List Cond := u_ws RX2 TX2 0
theorem nmX2 : ∀ a, a < 0 → ∀ b, b < 0 → a ≠ b → (TX2 a).2.1 ≠ (TX2 b).2.1 := by decide +kernel
theorem tyX2_ok : ∀ k, k < 0 → parseFieldDescriptor (TX2 k).2.2.1 = some (tyX2 k) := by decide +kernel
abbrev cX2_degree : ByteArray := prog_4_method_2_code
def yX2_degree : MethodName := ⟨RX2, "degree", "(J)I"⟩
abbrev cX2_remainder : ByteArray := prog_4_method_3_code
def yX2_remainder : MethodName := ⟨RX2, "remainder", "(JJ)J"⟩
abbrev cX2_quotient : ByteArray := prog_4_method_4_code
def yX2_quotient : MethodName := ⟨RX2, "quotient", "(JJ)J"⟩
abbrev cX2_greatestCommon : ByteArray := prog_4_method_5_code
def yX2_greatestCommon : MethodName := ⟨RX2, "greatestCommon", "(JJ)J"⟩
abbrev cX2_timesX : ByteArray := prog_4_method_6_code
def yX2_timesX : MethodName := ⟨RX2, "timesX", "(JJI)J"⟩
abbrev cX2_product : ByteArray := prog_4_method_7_code
def yX2_product : MethodName := ⟨RX2, "product", "(JJJ)J"⟩
abbrev cX2_powerOfX : ByteArray := prog_4_method_8_code
def yX2_powerOfX : MethodName := ⟨RX2, "powerOfX", "(JJ)J"⟩
abbrev cX2_trace : ByteArray := prog_4_method_9_code
def yX2_trace : MethodName := ⟨RX2, "trace", "(JIJ)J"⟩
def RX3 : String := "SumForms$Remainders"
def TX3 : u_T := fun k => match k with
  | 0 => ("SumForms$Remainders", "row", "[J", true)
  | 1 => ("SumForms$Remainders", "slots", "[J", true)
  | _ => ("SumForms$Remainders", "size", "I", false)
def tyX3 : Nat → FieldType := fun k => match k with
  | 0 => .array .long
  | 1 => .array .long
  | _ => .int
abbrev wsX30 : List Cond := u_ws RX3 TX3 3
theorem nmX3 : ∀ a, a < 3 → ∀ b, b < 3 → a ≠ b → (TX3 a).2.1 ≠ (TX3 b).2.1 := by decide +kernel
theorem tyX3_ok : ∀ k, k < 3 → parseFieldDescriptor (TX3 k).2.2.1 = some (tyX3 k) := by decide +kernel
abbrev cX3_init : ByteArray := prog_5_method_1_code
def yX3_init : MethodName := ⟨RX3, "<init>", "()V"⟩
abbrev cX3_clear : ByteArray := prog_5_method_2_code
def yX3_clear : MethodName := ⟨RX3, "clear", "()V"⟩
abbrev cX3_add : ByteArray := prog_5_method_3_code
def yX3_add : MethodName := ⟨RX3, "add", "(J)V"⟩
abbrev cX3_has : ByteArray := prog_5_method_4_code
def yX3_has : MethodName := ⟨RX3, "has", "(J)Z"⟩
abbrev cX3_hasTwo : ByteArray := prog_5_method_5_code
def yX3_hasTwo : MethodName := ⟨RX3, "hasTwo", "(J)Z"⟩
abbrev cX3_slotOf : ByteArray := prog_5_method_6_code
def yX3_slotOf : MethodName := ⟨RX3, "slotOf", "(J)I"⟩
def RX4 : String := "SumForms$Unseen"
def TX4 : u_T := fun k => match k with
  | 0 => ("SumForms$Unseen", "twoFrom", "I", false)
  | 1 => ("SumForms$Unseen", "threeFrom", "I", false)
  | 2 => ("SumForms$Unseen", "fourFrom", "I", false)
  | _ => ("SumForms$Unseen", "foundFor", "J", false)
def tyX4 : Nat → FieldType := fun k => match k with
  | 0 => .int
  | 1 => .int
  | 2 => .int
  | _ => .long
abbrev wsX40 : List Cond := u_ws RX4 TX4 4
theorem nmX4 : ∀ a, a < 4 → ∀ b, b < 4 → a ≠ b → (TX4 a).2.1 ≠ (TX4 b).2.1 := by decide +kernel
theorem tyX4_ok : ∀ k, k < 4 → parseFieldDescriptor (TX4 k).2.2.1 = some (tyX4 k) := by decide +kernel
abbrev cX4_init : ByteArray := prog_6_method_1_code
def yX4_init : MethodName := ⟨RX4, "<init>", "()V"⟩
abbrev cX4_fewest : ByteArray := prog_6_method_2_code
def yX4_fewest : MethodName := ⟨RX4, "fewest", "(I)I"⟩
abbrev cX4_findFor : ByteArray := prog_6_method_3_code
def yX4_findFor : MethodName := ⟨RX4, "findFor", "(JLSumForms$Remainders;)V"⟩
abbrev cX4_lookAt : ByteArray := prog_6_method_4_code
def yX4_lookAt : MethodName := ⟨RX4, "lookAt", "(JILSumForms$Remainders;)V"⟩
def RX5 : String := "SumForms"
def TX5 : u_T := fun k => match k with
  | 0 => ("SumForms", "text", "[I", true)
  | 1 => ("SumForms", "octets", "I", false)
  | 2 => ("SumForms", "forms", "[LSumForms$Form;", true)
  | 3 => ("SumForms", "formCount", "I", false)
  | _ => ("SumForms", "remainders", "LSumForms$Remainders;", true)
def tyX5 : Nat → FieldType := fun k => match k with
  | 0 => .array .int
  | 1 => .int
  | 2 => .array (.object "SumForms$Form")
  | 3 => .int
  | _ => .object "SumForms$Remainders"
abbrev wsX50 : List Cond := u_ws RX5 TX5 5
theorem nmX5 : ∀ a, a < 5 → ∀ b, b < 5 → a ≠ b → (TX5 a).2.1 ≠ (TX5 b).2.1 := by decide +kernel
theorem tyX5_ok : ∀ k, k < 5 → parseFieldDescriptor (TX5 k).2.2.1 = some (tyX5 k) := by decide +kernel
abbrev cX5_init : ByteArray := prog_1_method_1_code
def yX5_init : MethodName := ⟨RX5, "<init>", "()V"⟩
abbrev cX5_form : ByteArray := prog_1_method_2_code
def yX5_form : MethodName := ⟨RX5, "form", "(IJJJZZ)I"⟩
abbrev cX5_forget : ByteArray := prog_1_method_3_code
def yX5_forget : MethodName := ⟨RX5, "forget", "()I"⟩
abbrev cX5_feed : ByteArray := prog_1_method_4_code
def yX5_feed : MethodName := ⟨RX5, "feed", "(IJ)I"⟩
abbrev cX5_cut : ByteArray := prog_1_method_5_code
def yX5_cut : MethodName := ⟨RX5, "cut", "(I)I"⟩
abbrev cX5_octet : ByteArray := prog_1_method_6_code
def yX5_octet : MethodName := ⟨RX5, "octet", "(I)I"⟩
abbrev cX5_count : ByteArray := prog_1_method_7_code
def yX5_count : MethodName := ⟨RX5, "count", "(I)I"⟩
abbrev cX5_sum : ByteArray := prog_1_method_8_code
def yX5_sum : MethodName := ⟨RX5, "sum", "(III)J"⟩
abbrev cX5_joined : ByteArray := prog_1_method_9_code
def yX5_joined : MethodName := ⟨RX5, "joined", "(IJJJ)J"⟩
abbrev cX5_zeros : ByteArray := prog_1_method_10_code
def yX5_zeros : MethodName := ⟨RX5, "zeros", "(IJJ)J"⟩
abbrev cX5_changed : ByteArray := prog_1_method_11_code
def yX5_changed : MethodName := ⟨RX5, "changed", "(IJJI)J"⟩
abbrev cX5_tail : ByteArray := prog_1_method_12_code
def yX5_tail : MethodName := ⟨RX5, "tail", "(IJJ)J"⟩
abbrev cX5_factors : ByteArray := prog_1_method_13_code
def yX5_factors : MethodName := ⟨RX5, "factors", "(I)I"⟩
abbrev cX5_factor : ByteArray := prog_1_method_14_code
def yX5_factor : MethodName := ⟨RX5, "factor", "(III)J"⟩
abbrev cX5_order : ByteArray := prog_1_method_15_code
def yX5_order : MethodName := ⟨RX5, "order", "(I)J"⟩
abbrev cX5_distance : ByteArray := prog_1_method_16_code
def yX5_distance : MethodName := ⟨RX5, "distance", "(II)I"⟩
abbrev cX5_added : ByteArray := prog_1_method_17_code
def yX5_added : MethodName := ⟨RX5, "added", "(III)J"⟩
abbrev cX5_addedJoined : ByteArray := prog_1_method_18_code
def yX5_addedJoined : MethodName := ⟨RX5, "addedJoined", "(IJJJ)J"⟩
abbrev cX5_isForm : ByteArray := prog_1_method_19_code
def yX5_isForm : MethodName := ⟨RX5, "isForm", "(I)Z"⟩
abbrev cX5_isSum : ByteArray := prog_1_method_20_code
def yX5_isSum : MethodName := ⟨RX5, "isSum", "(IJ)Z"⟩
abbrev cX5_isPart : ByteArray := prog_1_method_21_code
def yX5_isPart : MethodName := ⟨RX5, "isPart", "(II)Z"⟩
abbrev cX5_isLength : ByteArray := prog_1_method_22_code
def yX5_isLength : MethodName := ⟨RX5, "isLength", "(J)Z"⟩
abbrev cX5_hasBits : ByteArray := prog_1_method_23_code
def yX5_hasBits : MethodName := ⟨RX5, "hasBits", "(JI)Z"⟩
abbrev cX5_isAdding : ByteArray := prog_1_method_24_code
def yX5_isAdding : MethodName := ⟨RX5, "isAdding", "(I)Z"⟩
abbrev cX5_isAddingSum : ByteArray := prog_1_method_25_code
def yX5_isAddingSum : MethodName := ⟨RX5, "isAddingSum", "(IJ)Z"⟩
abbrev cX5_lowHalf : ByteArray := prog_1_method_26_code
def yX5_lowHalf : MethodName := ⟨RX5, "lowHalf", "(IJ)J"⟩
abbrev cX5_highHalf : ByteArray := prog_1_method_27_code
def yX5_highHalf : MethodName := ⟨RX5, "highHalf", "(IJ)J"⟩
abbrev cX5_halves : ByteArray := prog_1_method_28_code
def yX5_halves : MethodName := ⟨RX5, "halves", "(IJJ)J"⟩
def RX6 : String := "SumFormsModel"
def TX6 : u_T := fun k => match k with
  | 0 => ("SumFormsModel", "forms", "I", false)
  | 1 => ("SumFormsModel", "width", "[I", true)
  | 2 => ("SumFormsModel", "poly", "[J", true)
  | 3 => ("SumFormsModel", "start", "[J", true)
  | 4 => ("SumFormsModel", "end", "[J", true)
  | 5 => ("SumFormsModel", "turnsIn", "[Z", true)
  | 6 => ("SumFormsModel", "turnsOut", "[Z", true)
  | 7 => ("SumFormsModel", "text", "[I", true)
  | 8 => ("SumFormsModel", "size", "I", false)
  | 9 => ("SumFormsModel", "known", "[Z", true)
  | 10 => ("SumFormsModel", "factor", "[J", true)
  | 11 => ("SumFormsModel", "often", "[I", true)
  | 12 => ("SumFormsModel", "many", "[I", true)
  | 13 => ("SumFormsModel", "orders", "[J", true)
  | 14 => ("SumFormsModel", "rests", "[J", true)
  | _ => ("SumFormsModel", "table", "[J", true)
def tyX6 : Nat → FieldType := fun k => match k with
  | 0 => .int
  | 1 => .array .int
  | 2 => .array .long
  | 3 => .array .long
  | 4 => .array .long
  | 5 => .array .boolean
  | 6 => .array .boolean
  | 7 => .array .int
  | 8 => .int
  | 9 => .array .boolean
  | 10 => .array .long
  | 11 => .array .int
  | 12 => .array .int
  | 13 => .array .long
  | 14 => .array .long
  | _ => .array .long
abbrev wsX60 : List Cond := u_ws RX6 TX6 16
theorem nmX6 : ∀ a, a < 16 → ∀ b, b < 16 → a ≠ b → (TX6 a).2.1 ≠ (TX6 b).2.1 := by decide +kernel
theorem tyX6_ok : ∀ k, k < 16 → parseFieldDescriptor (TX6 k).2.2.1 = some (tyX6 k) := by decide +kernel
abbrev cX6_init : ByteArray := prog_8_method_1_code
def yX6_init : MethodName := ⟨RX6, "<init>", "()V"⟩
abbrev cX6_isOf : ByteArray := prog_8_method_2_code
def yX6_isOf : MethodName := ⟨RX6, "isOf", "(IJ)Z"⟩
abbrev cX6_form : ByteArray := prog_8_method_3_code
def yX6_form : MethodName := ⟨RX6, "form", "(IJJJZZ)I"⟩
abbrev cX6_forget : ByteArray := prog_8_method_4_code
def yX6_forget : MethodName := ⟨RX6, "forget", "()I"⟩
abbrev cX6_feed : ByteArray := prog_8_method_5_code
def yX6_feed : MethodName := ⟨RX6, "feed", "(IJ)I"⟩
abbrev cX6_cut : ByteArray := prog_8_method_6_code
def yX6_cut : MethodName := ⟨RX6, "cut", "(I)I"⟩
abbrev cX6_octet : ByteArray := prog_8_method_7_code
def yX6_octet : MethodName := ⟨RX6, "octet", "(I)I"⟩
abbrev cX6_count : ByteArray := prog_8_method_8_code
def yX6_count : MethodName := ⟨RX6, "count", "(I)I"⟩
abbrev cX6_isForm : ByteArray := prog_8_method_9_code
def yX6_isForm : MethodName := ⟨RX6, "isForm", "(I)Z"⟩
abbrev cX6_isSum : ByteArray := prog_8_method_10_code
def yX6_isSum : MethodName := ⟨RX6, "isSum", "(IJ)Z"⟩
abbrev cX6_turned : ByteArray := prog_8_method_11_code
def yX6_turned : MethodName := ⟨RX6, "turned", "(JI)J"⟩
abbrev cX6_up : ByteArray := prog_8_method_12_code
def yX6_up : MethodName := ⟨RX6, "up", "(IJ)J"⟩
abbrev cX6_down : ByteArray := prog_8_method_13_code
def yX6_down : MethodName := ⟨RX6, "down", "(IJ)J"⟩
abbrev cX6_times : ByteArray := prog_8_method_14_code
def yX6_times : MethodName := ⟨RX6, "times", "(IJJ)J"⟩
abbrev cX6_power : ByteArray := prog_8_method_15_code
def yX6_power : MethodName := ⟨RX6, "power", "(IJJ)J"⟩
abbrev cX6_moved : ByteArray := prog_8_method_16_code
def yX6_moved : MethodName := ⟨RX6, "moved", "(IJJ)J"⟩
abbrev cX6_taken : ByteArray := prog_8_method_17_code
def yX6_taken : MethodName := ⟨RX6, "taken", "(IJI)J"⟩
abbrev cX6_told : ByteArray := prog_8_method_18_code
def yX6_told : MethodName := ⟨RX6, "told", "(IJ)J"⟩
abbrev cX6_register : ByteArray := prog_8_method_19_code
def yX6_register : MethodName := ⟨RX6, "register", "(IJ)J"⟩
abbrev cX6_isSpan : ByteArray := prog_8_method_20_code
def yX6_isSpan : MethodName := ⟨RX6, "isSpan", "(II)Z"⟩
abbrev cX6_sum : ByteArray := prog_8_method_21_code
def yX6_sum : MethodName := ⟨RX6, "sum", "(III)J"⟩
abbrev cX6_isFar : ByteArray := prog_8_method_22_code
def yX6_isFar : MethodName := ⟨RX6, "isFar", "(J)Z"⟩
abbrev cX6_joined : ByteArray := prog_8_method_23_code
def yX6_joined : MethodName := ⟨RX6, "joined", "(IJJJ)J"⟩
abbrev cX6_zeros : ByteArray := prog_8_method_24_code
def yX6_zeros : MethodName := ⟨RX6, "zeros", "(IJJ)J"⟩
abbrev cX6_changed : ByteArray := prog_8_method_25_code
def yX6_changed : MethodName := ⟨RX6, "changed", "(IJJI)J"⟩
abbrev cX6_tail : ByteArray := prog_8_method_26_code
def yX6_tail : MethodName := ⟨RX6, "tail", "(IJJ)J"⟩
abbrev cX6_degree : ByteArray := prog_8_method_27_code
def yX6_degree : MethodName := ⟨RX6, "degree", "(J)I"⟩
abbrev cX6_rest : ByteArray := prog_8_method_28_code
def yX6_rest : MethodName := ⟨RX6, "rest", "(JJI)J"⟩
abbrev cX6_quotient : ByteArray := prog_8_method_29_code
def yX6_quotient : MethodName := ⟨RX6, "quotient", "(JJI)J"⟩
abbrev cX6_know : ByteArray := prog_8_method_30_code
def yX6_know : MethodName := ⟨RX6, "know", "(I)V"⟩
abbrev cX6_common : ByteArray := prog_8_method_31_code
def yX6_common : MethodName := ⟨RX6, "common", "(JJ)J"⟩
abbrev cX6_findOrder : ByteArray := prog_8_method_32_code
def yX6_findOrder : MethodName := ⟨RX6, "findOrder", "(I)J"⟩
abbrev cX6_factors : ByteArray := prog_8_method_33_code
def yX6_factors : MethodName := ⟨RX6, "factors", "(I)I"⟩
abbrev cX6_factor : ByteArray := prog_8_method_34_code
def yX6_factor : MethodName := ⟨RX6, "factor", "(III)J"⟩
abbrev cX6_order : ByteArray := prog_8_method_35_code
def yX6_order : MethodName := ⟨RX6, "order", "(I)J"⟩
abbrev cX6_had : ByteArray := prog_8_method_36_code
def yX6_had : MethodName := ⟨RX6, "had", "(JZ)Z"⟩
abbrev cX6_clear : ByteArray := prog_8_method_37_code
def yX6_clear : MethodName := ⟨RX6, "clear", "()V"⟩
abbrev cX6_distance : ByteArray := prog_8_method_38_code
def yX6_distance : MethodName := ⟨RX6, "distance", "(II)I"⟩
abbrev cX6_added : ByteArray := prog_8_method_39_code
def yX6_added : MethodName := ⟨RX6, "added", "(III)J"⟩
abbrev cX6_isAdded : ByteArray := prog_8_method_40_code
def yX6_isAdded : MethodName := ⟨RX6, "isAdded", "(IJ)Z"⟩
abbrev cX6_addedJoined : ByteArray := prog_8_method_41_code
def yX6_addedJoined : MethodName := ⟨RX6, "addedJoined", "(IJJJ)J"⟩
def RL : String := "SumFormsLaw"
abbrev cL_law : ByteArray := code
def yL_law : MethodName := ⟨RL, "law", "([I)Z"⟩
def wsX0_init : List Cond := .code yX0_init cX0_init 1 none :: ([.methodLink RX0 3 objectInit, .instanceMethod objectInit, .code objectInit ⟨#[0xb1]⟩ 1 none, .arrayClass .long, .fieldLink RX0 11 "SumForms$Factors" "polynomials" "[J", .arrayClass .int, .fieldLink RX0 15 "SumForms$Factors" "times" "[I", .fieldLink RX0 19 "SumForms$Factors" "size" "I", .fieldLink RX0 23 "SumForms$Factors" "period" "J", .fieldLink RX0 27 "SumForms$Factors" "foundFor" "J"] ++ wsX00)
def wsX2_degree : List Cond := .code yX2_degree cX2_degree 4 (some .int) :: ([])
def wsX2_timesX : List Cond := .code yX2_timesX cX2_timesX 7 (some .long) :: ([])
def wsX2_product : List Cond := .code yX2_product cX2_product 10 (some .long) :: ([.methodLink RX2 7 yX2_degree, .static yX2_degree, .initialized RX2, .code yX2_degree cX2_degree 4 (some .int), .methodLink RX2 17 yX2_timesX, .static yX2_timesX, .code yX2_timesX cX2_timesX 7 (some .long)])
def wsX2_remainder : List Cond := .code yX2_remainder cX2_remainder 8 (some .long) :: ([.methodLink RX2 7 yX2_degree, .static yX2_degree, .initialized RX2, .code yX2_degree cX2_degree 4 (some .int)])
def wsX2_greatestCommon : List Cond := .code yX2_greatestCommon cX2_greatestCommon 11 (some .long) :: ([.methodLink RX2 13 yX2_remainder, .static yX2_remainder, .initialized RX2, .code yX2_remainder cX2_remainder 8 (some .long), .methodLink RX2 7 yX2_degree, .static yX2_degree, .code yX2_degree cX2_degree 4 (some .int)])
def wsX0_append : List Cond := .code yX0_append cX0_append 4 none :: ([.fieldLink RX0 19 "SumForms$Factors" "size" "I", .fieldLink RX0 11 "SumForms$Factors" "polynomials" "[J", .fieldLink RX0 15 "SumForms$Factors" "times" "[I"] ++ wsX00)
def wsX2_trace : List Cond := .code yX2_trace cX2_trace 10 (some .long) :: ([.methodLink RX2 21 yX2_product, .static yX2_product, .initialized RX2, .code yX2_product cX2_product 10 (some .long), .methodLink RX2 7 yX2_degree, .static yX2_degree, .code yX2_degree cX2_degree 4 (some .int), .methodLink RX2 17 yX2_timesX, .static yX2_timesX, .code yX2_timesX cX2_timesX 7 (some .long)])
def wsX2_quotient : List Cond := .code yX2_quotient cX2_quotient 10 (some .long) :: ([.methodLink RX2 7 yX2_degree, .static yX2_degree, .initialized RX2, .code yX2_degree cX2_degree 4 (some .int)])
def wsX0_splitOne : List Cond := .code yX0_splitOne cX0_splitOne 8 none :: ([.fieldLink RX0 11 "SumForms$Factors" "polynomials" "[J", .static yX2_remainder, .initialized RX2, .code yX2_remainder cX2_remainder 8 (some .long), .methodLink RX2 7 yX2_degree, .static yX2_degree, .code yX2_degree cX2_degree 4 (some .int), .static yX2_greatestCommon, .code yX2_greatestCommon cX2_greatestCommon 11 (some .long), .methodLink RX2 13 yX2_remainder, .static yX2_quotient, .code yX2_quotient cX2_quotient 10 (some .long), .methodLink RX0 46 yX0_append, .instanceMethod yX0_append, .selects RX0 yX0_append yX0_append, .initialized RX0, .code yX0_append cX0_append 4 none, .fieldLink RX0 19 "SumForms$Factors" "size" "I", .fieldLink RX0 15 "SumForms$Factors" "times" "[I"] ++ wsX00)
def wsX0_split_r1 : List Cond := [Cond.fieldLink RX0 19 "SumForms$Factors" "size" "I", Cond.static yX2_degree, Cond.initialized RX2, Cond.code yX2_degree cX2_degree 4 (some .int), Cond.static yX2_timesX, Cond.code yX2_timesX cX2_timesX 7 (some .long), Cond.static yX2_trace, Cond.code yX2_trace cX2_trace 10 (some .long), Cond.methodLink RX2 21 yX2_product, Cond.static yX2_product, Cond.code yX2_product cX2_product 10 (some .long), Cond.methodLink RX2 7 yX2_degree, Cond.methodLink RX2 17 yX2_timesX, Cond.methodLink RX0 73 yX0_splitOne, Cond.instanceMethod yX0_splitOne, Cond.selects RX0 yX0_splitOne yX0_splitOne, Cond.initialized RX0, Cond.code yX0_splitOne cX0_splitOne 8 none, Cond.fieldLink RX0 11 "SumForms$Factors" "polynomials" "[J", Cond.static yX2_remainder, Cond.code yX2_remainder cX2_remainder 8 (some .long), Cond.static yX2_greatestCommon, Cond.code yX2_greatestCommon cX2_greatestCommon 11 (some .long), Cond.methodLink RX2 13 yX2_remainder]
def wsX0_split_r2 : List Cond := [Cond.static yX2_quotient, Cond.code yX2_quotient cX2_quotient 10 (some .long), Cond.methodLink RX0 46 yX0_append, Cond.instanceMethod yX0_append, Cond.selects RX0 yX0_append yX0_append, Cond.code yX0_append cX0_append 4 none, Cond.fieldLink RX0 15 "SumForms$Factors" "times" "[I"]
def wsX0_split : List Cond := .code yX0_split cX0_split 13 none :: ((wsX0_split_r1 ++ wsX0_split_r2) ++ wsX00)
def wsX0_sort : List Cond := .code yX0_sort cX0_sort 6 none :: ([.fieldLink RX0 19 "SumForms$Factors" "size" "I", .fieldLink RX0 11 "SumForms$Factors" "polynomials" "[J"] ++ wsX00)
def wsX0_withoutFactorsFrom : List Cond := .code yX0_withoutFactorsFrom cX0_withoutFactorsFrom 7 (some .long) :: ([.fieldLink RX0 19 "SumForms$Factors" "size" "I", .fieldLink RX0 15 "SumForms$Factors" "times" "[I", .fieldLink RX0 11 "SumForms$Factors" "polynomials" "[J", .static yX2_remainder, .initialized RX2, .code yX2_remainder cX2_remainder 8 (some .long), .methodLink RX2 7 yX2_degree, .static yX2_degree, .code yX2_degree cX2_degree 4 (some .int), .static yX2_quotient, .code yX2_quotient cX2_quotient 10 (some .long)] ++ wsX00)
def wsX0_findFor_r1 : List Cond := [Cond.fieldLink RX0 27 "SumForms$Factors" "foundFor" "J", Cond.fieldLink RX0 19 "SumForms$Factors" "size" "I", Cond.fieldLink RX0 23 "SumForms$Factors" "period" "J", Cond.constantLong RX0 32 (2), Cond.static yX2_degree, Cond.initialized RX2, Cond.code yX2_degree cX2_degree 4 (some .int), Cond.static yX2_product, Cond.code yX2_product cX2_product 10 (some .long), Cond.methodLink RX2 7 yX2_degree, Cond.methodLink RX2 17 yX2_timesX, Cond.static yX2_timesX, Cond.code yX2_timesX cX2_timesX 7 (some .long), Cond.static yX2_greatestCommon, Cond.code yX2_greatestCommon cX2_greatestCommon 11 (some .long), Cond.methodLink RX2 13 yX2_remainder, Cond.static yX2_remainder, Cond.code yX2_remainder cX2_remainder 8 (some .long), Cond.methodLink RX0 46 yX0_append, Cond.instanceMethod yX0_append, Cond.selects RX0 yX0_append yX0_append, Cond.initialized RX0, Cond.code yX0_append cX0_append 4 none, Cond.fieldLink RX0 11 "SumForms$Factors" "polynomials" "[J"]
def wsX0_findFor_r2 : List Cond := [Cond.fieldLink RX0 15 "SumForms$Factors" "times" "[I", Cond.methodLink RX0 50 yX0_split, Cond.instanceMethod yX0_split, Cond.selects RX0 yX0_split yX0_split, Cond.code yX0_split cX0_split 13 none, Cond.static yX2_trace, Cond.code yX2_trace cX2_trace 10 (some .long), Cond.methodLink RX2 21 yX2_product, Cond.methodLink RX0 73 yX0_splitOne, Cond.instanceMethod yX0_splitOne, Cond.selects RX0 yX0_splitOne yX0_splitOne, Cond.code yX0_splitOne cX0_splitOne 8 none, Cond.static yX2_quotient, Cond.code yX2_quotient cX2_quotient 10 (some .long), Cond.methodLink RX0 54 yX0_sort, Cond.instanceMethod yX0_sort, Cond.selects RX0 yX0_sort yX0_sort, Cond.code yX0_sort cX0_sort 6 none, Cond.methodLink RX0 58 yX0_withoutFactorsFrom, Cond.instanceMethod yX0_withoutFactorsFrom, Cond.selects RX0 yX0_withoutFactorsFrom yX0_withoutFactorsFrom, Cond.code yX0_withoutFactorsFrom cX0_withoutFactorsFrom 7 (some .long)]
def wsX0_findFor : List Cond := .code yX0_findFor cX0_findFor 11 none :: ((wsX0_findFor_r1 ++ wsX0_findFor_r2) ++ wsX00)
def wsX2_powerOfX : List Cond := .code yX2_powerOfX cX2_powerOfX 8 (some .long) :: ([.methodLink RX2 7 yX2_degree, .static yX2_degree, .initialized RX2, .code yX2_degree cX2_degree 4 (some .int), .methodLink RX2 21 yX2_product, .static yX2_product, .code yX2_product cX2_product 10 (some .long), .methodLink RX2 17 yX2_timesX, .static yX2_timesX, .code yX2_timesX cX2_timesX 7 (some .long)])
def wsX0_withoutPrime : List Cond := .code yX0_withoutPrime cX0_withoutPrime 8 (some .long) :: ([.static yX2_powerOfX, .initialized RX2, .code yX2_powerOfX cX2_powerOfX 8 (some .long), .methodLink RX2 7 yX2_degree, .static yX2_degree, .code yX2_degree cX2_degree 4 (some .int), .methodLink RX2 21 yX2_product, .static yX2_product, .code yX2_product cX2_product 10 (some .long), .methodLink RX2 17 yX2_timesX, .static yX2_timesX, .code yX2_timesX cX2_timesX 7 (some .long)])
def wsX0_periodOf : List Cond := .code yX0_periodOf cX0_periodOf 8 (some .long) :: ([.fieldLink RX0 87 "SumForms$Factors" "PRIMES" "[I", .static yX2_degree, .initialized RX2, .code yX2_degree cX2_degree 4 (some .int), .methodLink RX0 90 yX0_withoutPrime, .static yX0_withoutPrime, .initialized RX0, .code yX0_withoutPrime cX0_withoutPrime 8 (some .long), .static yX2_powerOfX, .code yX2_powerOfX cX2_powerOfX 8 (some .long), .methodLink RX2 7 yX2_degree, .methodLink RX2 21 yX2_product, .static yX2_product, .code yX2_product cX2_product 10 (some .long), .methodLink RX2 17 yX2_timesX, .static yX2_timesX, .code yX2_timesX cX2_timesX 7 (some .long)])
def wsX0_leastCommonMultiple : List Cond := .code yX0_leastCommonMultiple cX0_leastCommonMultiple 11 (some .long) :: ([])
def wsX0_foundPeriod_r1 : List Cond := [Cond.fieldLink RX0 23 "SumForms$Factors" "period" "J", Cond.fieldLink RX0 19 "SumForms$Factors" "size" "I", Cond.fieldLink RX0 11 "SumForms$Factors" "polynomials" "[J", Cond.fieldLink RX0 15 "SumForms$Factors" "times" "[I", Cond.constantLong RX0 32 (2), Cond.methodLink RX0 80 yX0_periodOf, Cond.static yX0_periodOf, Cond.initialized RX0, Cond.code yX0_periodOf cX0_periodOf 8 (some .long), Cond.fieldLink RX0 87 "SumForms$Factors" "PRIMES" "[I", Cond.static yX2_degree, Cond.initialized RX2, Cond.code yX2_degree cX2_degree 4 (some .int), Cond.methodLink RX0 90 yX0_withoutPrime, Cond.static yX0_withoutPrime, Cond.code yX0_withoutPrime cX0_withoutPrime 8 (some .long), Cond.static yX2_powerOfX, Cond.code yX2_powerOfX cX2_powerOfX 8 (some .long), Cond.methodLink RX2 7 yX2_degree, Cond.methodLink RX2 21 yX2_product, Cond.static yX2_product, Cond.code yX2_product cX2_product 10 (some .long), Cond.methodLink RX2 17 yX2_timesX, Cond.static yX2_timesX]
def wsX0_foundPeriod_r2 : List Cond := [Cond.code yX2_timesX cX2_timesX 7 (some .long), Cond.methodLink RX0 84 yX0_leastCommonMultiple, Cond.static yX0_leastCommonMultiple, Cond.code yX0_leastCommonMultiple cX0_leastCommonMultiple 11 (some .long)]
def wsX0_foundPeriod : List Cond := .code yX0_foundPeriod cX0_foundPeriod 3 (some .long) :: ((wsX0_foundPeriod_r1 ++ wsX0_foundPeriod_r2) ++ wsX00)
def wsX4_init : List Cond := .code yX4_init cX4_init 1 none :: ([.methodLink RX4 3 objectInit, .instanceMethod objectInit, .code objectInit ⟨#[0xb1]⟩ 1 none, .fieldLink RX4 11 "SumForms$Unseen" "twoFrom" "I", .fieldLink RX4 15 "SumForms$Unseen" "threeFrom" "I", .fieldLink RX4 18 "SumForms$Unseen" "fourFrom" "I", .fieldLink RX4 21 "SumForms$Unseen" "foundFor" "J"] ++ wsX40)
def wsX1_init_r1 : List Cond := [Cond.methodLink RX1 3 objectInit, Cond.instanceMethod objectInit, Cond.code objectInit ⟨#[0xb1]⟩ 1 none, Cond.classLink RX1 9 RX0, Cond.instantiable RX0 5, Cond.initialized RX0, Cond.fieldLink RX1 12 "SumForms$Form" "factoring" "LSumForms$Factors;", Cond.classLink RX1 18 RX4, Cond.instantiable RX4 4, Cond.initialized RX4, Cond.fieldLink RX1 21 "SumForms$Form" "unseen" "LSumForms$Unseen;", Cond.instanceMethod yX0_init, Cond.code yX0_init cX0_init 1 none, Cond.methodLink RX0 3 objectInit, Cond.arrayClass .long, Cond.fieldLink RX0 11 "SumForms$Factors" "polynomials" "[J", Cond.arrayClass .int, Cond.fieldLink RX0 15 "SumForms$Factors" "times" "[I", Cond.fieldLink RX0 19 "SumForms$Factors" "size" "I", Cond.fieldLink RX0 23 "SumForms$Factors" "period" "J", Cond.fieldLink RX0 27 "SumForms$Factors" "foundFor" "J", Cond.instanceMethod yX4_init, Cond.code yX4_init cX4_init 1 none, Cond.methodLink RX4 3 objectInit]
def wsX1_init_r2 : List Cond := [Cond.fieldLink RX4 11 "SumForms$Unseen" "twoFrom" "I", Cond.fieldLink RX4 15 "SumForms$Unseen" "threeFrom" "I", Cond.fieldLink RX4 18 "SumForms$Unseen" "fourFrom" "I", Cond.fieldLink RX4 21 "SumForms$Unseen" "foundFor" "J"]
def wsX1_init : List Cond := .code yX1_init cX1_init 1 none :: ((wsX1_init_r1 ++ wsX1_init_r2) ++ wsX00 ++ wsX10 ++ wsX40)
def wsX1_become : List Cond := .code yX1_become cX1_become 10 none :: ([.fieldLink RX1 25 "SumForms$Form" "width" "I", .fieldLink RX1 29 "SumForms$Form" "generator" "J", .fieldLink RX1 33 "SumForms$Form" "start" "J", .fieldLink RX1 36 "SumForms$Form" "end" "J", .fieldLink RX1 39 "SumForms$Form" "in" "Z", .fieldLink RX1 43 "SumForms$Form" "out" "Z"] ++ wsX10)
def wsX1_turned : List Cond := .code yX1_turned cX1_turned 6 (some .long) :: ([])
def wsX1_sumOf : List Cond := .code yX1_sumOf cX1_sumOf 3 (some .long) :: ([.fieldLink RX1 43 "SumForms$Form" "out" "Z", .fieldLink RX1 25 "SumForms$Form" "width" "I", .fieldLink RX1 36 "SumForms$Form" "end" "J", .methodLink RX1 46 yX1_turned, .static yX1_turned, .initialized RX1, .code yX1_turned cX1_turned 6 (some .long)] ++ wsX10)
def wsX1_registerOf : List Cond := .code yX1_registerOf cX1_registerOf 3 (some .long) :: ([.fieldLink RX1 43 "SumForms$Form" "out" "Z", .fieldLink RX1 36 "SumForms$Form" "end" "J", .fieldLink RX1 25 "SumForms$Form" "width" "I", .methodLink RX1 46 yX1_turned, .static yX1_turned, .initialized RX1, .code yX1_turned cX1_turned 6 (some .long)] ++ wsX10)
def wsX1_behindOctet : List Cond := .code yX1_behindOctet cX1_behindOctet 9 (some .long) :: ([.fieldLink RX1 39 "SumForms$Form" "in" "Z", .fieldLink RX1 25 "SumForms$Form" "width" "I", .fieldLink RX1 29 "SumForms$Form" "generator" "J", .static yX2_timesX, .initialized RX2, .code yX2_timesX cX2_timesX 7 (some .long)] ++ wsX10)
def wsX1_movedDown : List Cond := .code yX1_movedDown cX1_movedDown 3 (some .long) :: ([.fieldLink RX1 29 "SumForms$Form" "generator" "J"] ++ wsX10)
def wsX1_movedByOctets : List Cond := .code yX1_movedByOctets cX1_movedByOctets 10 (some .long) :: ([.fieldLink RX1 29 "SumForms$Form" "generator" "J", .fieldLink RX1 25 "SumForms$Form" "width" "I", .static yX2_timesX, .initialized RX2, .code yX2_timesX cX2_timesX 7 (some .long), .static yX2_product, .code yX2_product cX2_product 10 (some .long), .methodLink RX2 7 yX2_degree, .static yX2_degree, .code yX2_degree cX2_degree 4 (some .int), .methodLink RX2 17 yX2_timesX] ++ wsX10)
def wsX1_turnedByOctets : List Cond := .code yX1_turnedByOctets cX1_turnedByOctets 6 (some .long) :: ([.fieldLink RX1 25 "SumForms$Form" "width" "I", .constantLong RX1 67 (255), .methodLink RX1 46 yX1_turned, .static yX1_turned, .initialized RX1, .code yX1_turned cX1_turned 6 (some .long)] ++ wsX10)
def wsX1_octetsBetween : List Cond := .code yX1_octetsBetween cX1_octetsBetween 9 (some .long) :: ([.fieldLink RX1 25 "SumForms$Form" "width" "I", .fieldLink RX1 39 "SumForms$Form" "in" "Z", .methodLink RX1 60 yX1_movedDown, .instanceMethod yX1_movedDown, .selects RX1 yX1_movedDown yX1_movedDown, .initialized RX1, .code yX1_movedDown cX1_movedDown 3 (some .long), .fieldLink RX1 29 "SumForms$Form" "generator" "J", .methodLink RX1 64 yX1_turnedByOctets, .instanceMethod yX1_turnedByOctets, .selects RX1 yX1_turnedByOctets yX1_turnedByOctets, .code yX1_turnedByOctets cX1_turnedByOctets 6 (some .long), .constantLong RX1 67 (255), .methodLink RX1 46 yX1_turned, .static yX1_turned, .code yX1_turned cX1_turned 6 (some .long)] ++ wsX10)
def wsX3_init : List Cond := .code yX3_init cX3_init 1 none :: ([.methodLink RX3 5 objectInit, .instanceMethod objectInit, .code objectInit ⟨#[0xb1]⟩ 1 none, .arrayClass .long, .fieldLink RX3 11 "SumForms$Remainders" "row" "[J", .fieldLink RX3 15 "SumForms$Remainders" "slots" "[J", .fieldLink RX3 18 "SumForms$Remainders" "size" "I"] ++ wsX30)
def wsX3_clear : List Cond := .code yX3_clear cX3_clear 2 none :: ([.fieldLink RX3 18 "SumForms$Remainders" "size" "I", .fieldLink RX3 15 "SumForms$Remainders" "slots" "[J"] ++ wsX30)
def wsX3_slotOf : List Cond := .code yX3_slotOf cX3_slotOf 5 (some .int) :: ([.constantLong RX3 30 (-7046029254386353131), .fieldLink RX3 15 "SumForms$Remainders" "slots" "[J"] ++ wsX30)
def wsX3_add : List Cond := .code yX3_add cX3_add 3 none :: ([.fieldLink RX3 18 "SumForms$Remainders" "size" "I", .fieldLink RX3 11 "SumForms$Remainders" "row" "[J", .fieldLink RX3 15 "SumForms$Remainders" "slots" "[J", .methodLink RX3 22 yX3_slotOf, .instanceMethod yX3_slotOf, .selects RX3 yX3_slotOf yX3_slotOf, .initialized RX3, .code yX3_slotOf cX3_slotOf 5 (some .int), .constantLong RX3 30 (-7046029254386353131)] ++ wsX30)
def wsX3_has : List Cond := .code yX3_has cX3_has 3 (some .boolean) :: ([.fieldLink RX3 15 "SumForms$Remainders" "slots" "[J", .methodLink RX3 22 yX3_slotOf, .instanceMethod yX3_slotOf, .selects RX3 yX3_slotOf yX3_slotOf, .initialized RX3, .code yX3_slotOf cX3_slotOf 5 (some .int), .constantLong RX3 30 (-7046029254386353131)] ++ wsX30)
def wsX3_hasTwo : List Cond := .code yX3_hasTwo cX3_hasTwo 4 (some .boolean) :: ([.fieldLink RX3 18 "SumForms$Remainders" "size" "I", .fieldLink RX3 11 "SumForms$Remainders" "row" "[J", .methodLink RX3 26 yX3_has, .instanceMethod yX3_has, .selects RX3 yX3_has yX3_has, .initialized RX3, .code yX3_has cX3_has 3 (some .boolean), .fieldLink RX3 15 "SumForms$Remainders" "slots" "[J", .methodLink RX3 22 yX3_slotOf, .instanceMethod yX3_slotOf, .selects RX3 yX3_slotOf yX3_slotOf, .code yX3_slotOf cX3_slotOf 5 (some .int), .constantLong RX3 30 (-7046029254386353131)] ++ wsX30)
def wsX4_fewest : List Cond := .code yX4_fewest cX4_fewest 2 (some .int) :: ([.fieldLink RX4 11 "SumForms$Unseen" "twoFrom" "I", .fieldLink RX4 15 "SumForms$Unseen" "threeFrom" "I", .fieldLink RX4 18 "SumForms$Unseen" "fourFrom" "I"] ++ wsX40)
def wsX4_lookAt : List Cond := .code yX4_lookAt cX4_lookAt 5 none :: ([.fieldLink RX4 11 "SumForms$Unseen" "twoFrom" "I", .fieldLink RX4 15 "SumForms$Unseen" "threeFrom" "I", .fieldLink RX4 18 "SumForms$Unseen" "fourFrom" "I", .instanceMethod yX3_has, .initialized RX3, .selects RX3 yX3_has yX3_has, .code yX3_has cX3_has 3 (some .boolean), .fieldLink RX3 15 "SumForms$Remainders" "slots" "[J", .methodLink RX3 22 yX3_slotOf, .instanceMethod yX3_slotOf, .selects RX3 yX3_slotOf yX3_slotOf, .code yX3_slotOf cX3_slotOf 5 (some .int), .constantLong RX3 30 (-7046029254386353131), .instanceMethod yX3_hasTwo, .selects RX3 yX3_hasTwo yX3_hasTwo, .code yX3_hasTwo cX3_hasTwo 4 (some .boolean), .fieldLink RX3 18 "SumForms$Remainders" "size" "I", .fieldLink RX3 11 "SumForms$Remainders" "row" "[J", .methodLink RX3 26 yX3_has] ++ wsX40 ++ wsX30)
def wsX4_findFor_r1 : List Cond := [Cond.fieldLink RX4 21 "SumForms$Unseen" "foundFor" "J", Cond.fieldLink RX4 11 "SumForms$Unseen" "twoFrom" "I", Cond.fieldLink RX4 15 "SumForms$Unseen" "threeFrom" "I", Cond.fieldLink RX4 18 "SumForms$Unseen" "fourFrom" "I", Cond.static yX2_degree, Cond.initialized RX2, Cond.code yX2_degree cX2_degree 4 (some .int), Cond.instanceMethod yX3_clear, Cond.initialized RX3, Cond.selects RX3 yX3_clear yX3_clear, Cond.code yX3_clear cX3_clear 2 none, Cond.fieldLink RX3 18 "SumForms$Remainders" "size" "I", Cond.fieldLink RX3 15 "SumForms$Remainders" "slots" "[J", Cond.instanceMethod yX3_add, Cond.selects RX3 yX3_add yX3_add, Cond.code yX3_add cX3_add 3 none, Cond.fieldLink RX3 11 "SumForms$Remainders" "row" "[J", Cond.methodLink RX3 22 yX3_slotOf, Cond.instanceMethod yX3_slotOf, Cond.selects RX3 yX3_slotOf yX3_slotOf, Cond.code yX3_slotOf cX3_slotOf 5 (some .int), Cond.constantLong RX3 30 (-7046029254386353131), Cond.static yX2_timesX, Cond.code yX2_timesX cX2_timesX 7 (some .long)]
def wsX4_findFor_r2 : List Cond := [Cond.methodLink RX4 44 yX4_lookAt, Cond.instanceMethod yX4_lookAt, Cond.selects RX4 yX4_lookAt yX4_lookAt, Cond.initialized RX4, Cond.code yX4_lookAt cX4_lookAt 5 none, Cond.instanceMethod yX3_has, Cond.selects RX3 yX3_has yX3_has, Cond.code yX3_has cX3_has 3 (some .boolean), Cond.instanceMethod yX3_hasTwo, Cond.selects RX3 yX3_hasTwo yX3_hasTwo, Cond.code yX3_hasTwo cX3_hasTwo 4 (some .boolean), Cond.methodLink RX3 26 yX3_has]
def wsX4_findFor : List Cond := .code yX4_findFor cX4_findFor 8 none :: ((wsX4_findFor_r1 ++ wsX4_findFor_r2) ++ wsX40 ++ wsX30)
def wsX5_init_r1 : List Cond := [Cond.methodLink RX5 1 objectInit, Cond.instanceMethod objectInit, Cond.code objectInit ⟨#[0xb1]⟩ 1 none, Cond.arrayClass .int, Cond.fieldLink RX5 9 "SumForms" "text" "[I", Cond.fieldLink RX5 13 "SumForms" "octets" "I", Cond.classLink RX5 17 RX1, Cond.fieldLink RX5 19 "SumForms" "forms" "[LSumForms$Form;", Cond.fieldLink RX5 23 "SumForms" "formCount" "I", Cond.classLink RX5 26 RX3, Cond.instantiable RX3 3, Cond.initialized RX3, Cond.fieldLink RX5 29 "SumForms" "remainders" "LSumForms$Remainders;", Cond.instantiable RX1 8, Cond.initialized RX1, Cond.instanceMethod yX3_init, Cond.code yX3_init cX3_init 1 none, Cond.methodLink RX3 5 objectInit, Cond.arrayClass .long, Cond.fieldLink RX3 11 "SumForms$Remainders" "row" "[J", Cond.fieldLink RX3 15 "SumForms$Remainders" "slots" "[J", Cond.fieldLink RX3 18 "SumForms$Remainders" "size" "I", Cond.instanceMethod yX1_init, Cond.code yX1_init cX1_init 1 none]
def wsX5_init_r2 : List Cond := [Cond.methodLink RX1 3 objectInit, Cond.classLink RX1 9 RX0, Cond.instantiable RX0 5, Cond.initialized RX0, Cond.fieldLink RX1 12 "SumForms$Form" "factoring" "LSumForms$Factors;", Cond.classLink RX1 18 RX4, Cond.instantiable RX4 4, Cond.initialized RX4, Cond.fieldLink RX1 21 "SumForms$Form" "unseen" "LSumForms$Unseen;", Cond.instanceMethod yX0_init, Cond.code yX0_init cX0_init 1 none, Cond.methodLink RX0 3 objectInit, Cond.fieldLink RX0 11 "SumForms$Factors" "polynomials" "[J", Cond.fieldLink RX0 15 "SumForms$Factors" "times" "[I", Cond.fieldLink RX0 19 "SumForms$Factors" "size" "I", Cond.fieldLink RX0 23 "SumForms$Factors" "period" "J", Cond.fieldLink RX0 27 "SumForms$Factors" "foundFor" "J", Cond.instanceMethod yX4_init, Cond.code yX4_init cX4_init 1 none, Cond.methodLink RX4 3 objectInit, Cond.fieldLink RX4 11 "SumForms$Unseen" "twoFrom" "I", Cond.fieldLink RX4 15 "SumForms$Unseen" "threeFrom" "I", Cond.fieldLink RX4 18 "SumForms$Unseen" "fourFrom" "I", Cond.fieldLink RX4 21 "SumForms$Unseen" "foundFor" "J"]
def wsX5_init : List Cond := .code yX5_init cX5_init 2 none :: ((wsX5_init_r1 ++ wsX5_init_r2) ++ wsX50 ++ wsX30 ++ wsX10 ++ wsX00 ++ wsX40)
def wsX5_hasBits : List Cond := .code yX5_hasBits cX5_hasBits 3 (some .boolean) :: ([])
def wsX5_form : List Cond := .code yX5_form cX5_form 10 (some .int) :: ([.fieldLink RX5 23 "SumForms" "formCount" "I", .fieldLink RX5 19 "SumForms" "forms" "[LSumForms$Form;", .methodLink RX5 34 yX5_hasBits, .static yX5_hasBits, .initialized RX5, .code yX5_hasBits cX5_hasBits 3 (some .boolean), .instanceMethod yX1_become, .initialized RX1, .selects RX1 yX1_become yX1_become, .code yX1_become cX1_become 10 none, .fieldLink RX1 25 "SumForms$Form" "width" "I", .fieldLink RX1 29 "SumForms$Form" "generator" "J", .fieldLink RX1 33 "SumForms$Form" "start" "J", .fieldLink RX1 36 "SumForms$Form" "end" "J", .fieldLink RX1 39 "SumForms$Form" "in" "Z", .fieldLink RX1 43 "SumForms$Form" "out" "Z"] ++ wsX50 ++ wsX10)
def wsX5_forget : List Cond := .code yX5_forget cX5_forget 2 (some .int) :: ([.fieldLink RX5 23 "SumForms" "formCount" "I"] ++ wsX50)
def wsX5_feed : List Cond := .code yX5_feed cX5_feed 5 (some .int) :: ([.fieldLink RX5 13 "SumForms" "octets" "I", .fieldLink RX5 9 "SumForms" "text" "[I"] ++ wsX50)
def wsX5_cut : List Cond := .code yX5_cut cX5_cut 3 (some .int) :: ([.fieldLink RX5 13 "SumForms" "octets" "I"] ++ wsX50)
def wsX5_octet : List Cond := .code yX5_octet cX5_octet 2 (some .int) :: ([.fieldLink RX5 13 "SumForms" "octets" "I", .fieldLink RX5 9 "SumForms" "text" "[I"] ++ wsX50)
def wsX5_count : List Cond := .code yX5_count cX5_count 2 (some .int) :: ([.fieldLink RX5 23 "SumForms" "formCount" "I", .fieldLink RX5 13 "SumForms" "octets" "I"] ++ wsX50)
def wsX5_isForm : List Cond := .code yX5_isForm cX5_isForm 2 (some .boolean) :: ([.fieldLink RX5 23 "SumForms" "formCount" "I"] ++ wsX50)
def wsX5_isPart : List Cond := .code yX5_isPart cX5_isPart 3 (some .boolean) :: ([.fieldLink RX5 13 "SumForms" "octets" "I"] ++ wsX50)
def wsX5_sum_r1 : List Cond := [Cond.constantLong RX5 50 (-1), Cond.fieldLink RX5 19 "SumForms" "forms" "[LSumForms$Form;", Cond.fieldLink RX5 9 "SumForms" "text" "[I", Cond.methodLink RX5 42 yX5_isForm, Cond.instanceMethod yX5_isForm, Cond.selects RX5 yX5_isForm yX5_isForm, Cond.initialized RX5, Cond.code yX5_isForm cX5_isForm 2 (some .boolean), Cond.fieldLink RX5 23 "SumForms" "formCount" "I", Cond.methodLink RX5 46 yX5_isPart, Cond.instanceMethod yX5_isPart, Cond.selects RX5 yX5_isPart yX5_isPart, Cond.code yX5_isPart cX5_isPart 3 (some .boolean), Cond.fieldLink RX5 13 "SumForms" "octets" "I", Cond.instanceMethod yX1_behindOctet, Cond.initialized RX1, Cond.selects RX1 yX1_behindOctet yX1_behindOctet, Cond.code yX1_behindOctet cX1_behindOctet 9 (some .long), Cond.fieldLink RX1 39 "SumForms$Form" "in" "Z", Cond.fieldLink RX1 25 "SumForms$Form" "width" "I", Cond.fieldLink RX1 29 "SumForms$Form" "generator" "J", Cond.static yX2_timesX, Cond.initialized RX2, Cond.code yX2_timesX cX2_timesX 7 (some .long)]
def wsX5_sum_r2 : List Cond := [Cond.instanceMethod yX1_sumOf, Cond.selects RX1 yX1_sumOf yX1_sumOf, Cond.code yX1_sumOf cX1_sumOf 3 (some .long), Cond.fieldLink RX1 43 "SumForms$Form" "out" "Z", Cond.fieldLink RX1 36 "SumForms$Form" "end" "J", Cond.methodLink RX1 46 yX1_turned, Cond.static yX1_turned, Cond.code yX1_turned cX1_turned 6 (some .long)]
def wsX5_sum : List Cond := .code yX5_sum cX5_sum 8 (some .long) :: ((wsX5_sum_r1 ++ wsX5_sum_r2) ++ wsX50 ++ wsX10)
def wsX5_isSum : List Cond := .code yX5_isSum cX5_isSum 4 (some .boolean) :: ([.fieldLink RX5 19 "SumForms" "forms" "[LSumForms$Form;", .methodLink RX5 42 yX5_isForm, .instanceMethod yX5_isForm, .selects RX5 yX5_isForm yX5_isForm, .initialized RX5, .code yX5_isForm cX5_isForm 2 (some .boolean), .fieldLink RX5 23 "SumForms" "formCount" "I", .methodLink RX5 34 yX5_hasBits, .static yX5_hasBits, .code yX5_hasBits cX5_hasBits 3 (some .boolean)] ++ wsX50 ++ wsX10)
def wsX5_isLength : List Cond := .code yX5_isLength cX5_isLength 2 (some .boolean) :: ([.constantLong RX5 148 (1152921504606846976)])
def wsX5_joined_r1 : List Cond := [Cond.constantLong RX5 50 (-1), Cond.fieldLink RX5 19 "SumForms" "forms" "[LSumForms$Form;", Cond.methodLink RX5 64 yX5_isSum, Cond.instanceMethod yX5_isSum, Cond.selects RX5 yX5_isSum yX5_isSum, Cond.initialized RX5, Cond.code yX5_isSum cX5_isSum 4 (some .boolean), Cond.methodLink RX5 42 yX5_isForm, Cond.instanceMethod yX5_isForm, Cond.selects RX5 yX5_isForm yX5_isForm, Cond.code yX5_isForm cX5_isForm 2 (some .boolean), Cond.fieldLink RX5 23 "SumForms" "formCount" "I", Cond.methodLink RX5 34 yX5_hasBits, Cond.static yX5_hasBits, Cond.code yX5_hasBits cX5_hasBits 3 (some .boolean), Cond.methodLink RX5 68 yX5_isLength, Cond.static yX5_isLength, Cond.code yX5_isLength cX5_isLength 2 (some .boolean), Cond.constantLong RX5 148 (1152921504606846976), Cond.instanceMethod yX1_registerOf, Cond.initialized RX1, Cond.selects RX1 yX1_registerOf yX1_registerOf, Cond.code yX1_registerOf cX1_registerOf 3 (some .long), Cond.fieldLink RX1 43 "SumForms$Form" "out" "Z"]
def wsX5_joined_r2 : List Cond := [Cond.fieldLink RX1 36 "SumForms$Form" "end" "J", Cond.fieldLink RX1 25 "SumForms$Form" "width" "I", Cond.methodLink RX1 46 yX1_turned, Cond.static yX1_turned, Cond.code yX1_turned cX1_turned 6 (some .long), Cond.instanceMethod yX1_movedByOctets, Cond.selects RX1 yX1_movedByOctets yX1_movedByOctets, Cond.code yX1_movedByOctets cX1_movedByOctets 10 (some .long), Cond.fieldLink RX1 29 "SumForms$Form" "generator" "J", Cond.static yX2_timesX, Cond.initialized RX2, Cond.code yX2_timesX cX2_timesX 7 (some .long), Cond.static yX2_product, Cond.code yX2_product cX2_product 10 (some .long), Cond.methodLink RX2 7 yX2_degree, Cond.static yX2_degree, Cond.code yX2_degree cX2_degree 4 (some .int), Cond.methodLink RX2 17 yX2_timesX, Cond.instanceMethod yX1_sumOf, Cond.selects RX1 yX1_sumOf yX1_sumOf, Cond.code yX1_sumOf cX1_sumOf 3 (some .long)]
def wsX5_joined : List Cond := .code yX5_joined cX5_joined 11 (some .long) :: ((wsX5_joined_r1 ++ wsX5_joined_r2) ++ wsX50 ++ wsX10)
def wsX5_zeros_r1 : List Cond := [Cond.constantLong RX5 50 (-1), Cond.fieldLink RX5 19 "SumForms" "forms" "[LSumForms$Form;", Cond.methodLink RX5 64 yX5_isSum, Cond.instanceMethod yX5_isSum, Cond.selects RX5 yX5_isSum yX5_isSum, Cond.initialized RX5, Cond.code yX5_isSum cX5_isSum 4 (some .boolean), Cond.methodLink RX5 42 yX5_isForm, Cond.instanceMethod yX5_isForm, Cond.selects RX5 yX5_isForm yX5_isForm, Cond.code yX5_isForm cX5_isForm 2 (some .boolean), Cond.fieldLink RX5 23 "SumForms" "formCount" "I", Cond.methodLink RX5 34 yX5_hasBits, Cond.static yX5_hasBits, Cond.code yX5_hasBits cX5_hasBits 3 (some .boolean), Cond.methodLink RX5 68 yX5_isLength, Cond.static yX5_isLength, Cond.code yX5_isLength cX5_isLength 2 (some .boolean), Cond.constantLong RX5 148 (1152921504606846976), Cond.instanceMethod yX1_registerOf, Cond.initialized RX1, Cond.selects RX1 yX1_registerOf yX1_registerOf, Cond.code yX1_registerOf cX1_registerOf 3 (some .long), Cond.fieldLink RX1 43 "SumForms$Form" "out" "Z"]
def wsX5_zeros_r2 : List Cond := [Cond.fieldLink RX1 36 "SumForms$Form" "end" "J", Cond.fieldLink RX1 25 "SumForms$Form" "width" "I", Cond.methodLink RX1 46 yX1_turned, Cond.static yX1_turned, Cond.code yX1_turned cX1_turned 6 (some .long), Cond.instanceMethod yX1_movedByOctets, Cond.selects RX1 yX1_movedByOctets yX1_movedByOctets, Cond.code yX1_movedByOctets cX1_movedByOctets 10 (some .long), Cond.fieldLink RX1 29 "SumForms$Form" "generator" "J", Cond.static yX2_timesX, Cond.initialized RX2, Cond.code yX2_timesX cX2_timesX 7 (some .long), Cond.static yX2_product, Cond.code yX2_product cX2_product 10 (some .long), Cond.methodLink RX2 7 yX2_degree, Cond.static yX2_degree, Cond.code yX2_degree cX2_degree 4 (some .int), Cond.methodLink RX2 17 yX2_timesX, Cond.instanceMethod yX1_sumOf, Cond.selects RX1 yX1_sumOf yX1_sumOf, Cond.code yX1_sumOf cX1_sumOf 3 (some .long)]
def wsX5_zeros : List Cond := .code yX5_zeros cX5_zeros 7 (some .long) :: ((wsX5_zeros_r1 ++ wsX5_zeros_r2) ++ wsX50 ++ wsX10)
def wsX5_changed_r1 : List Cond := [Cond.constantLong RX5 50 (-1), Cond.fieldLink RX5 19 "SumForms" "forms" "[LSumForms$Form;", Cond.methodLink RX5 64 yX5_isSum, Cond.instanceMethod yX5_isSum, Cond.selects RX5 yX5_isSum yX5_isSum, Cond.initialized RX5, Cond.code yX5_isSum cX5_isSum 4 (some .boolean), Cond.methodLink RX5 42 yX5_isForm, Cond.instanceMethod yX5_isForm, Cond.selects RX5 yX5_isForm yX5_isForm, Cond.code yX5_isForm cX5_isForm 2 (some .boolean), Cond.fieldLink RX5 23 "SumForms" "formCount" "I", Cond.methodLink RX5 34 yX5_hasBits, Cond.static yX5_hasBits, Cond.code yX5_hasBits cX5_hasBits 3 (some .boolean), Cond.methodLink RX5 68 yX5_isLength, Cond.static yX5_isLength, Cond.code yX5_isLength cX5_isLength 2 (some .boolean), Cond.constantLong RX5 148 (1152921504606846976), Cond.instanceMethod yX1_behindOctet, Cond.initialized RX1, Cond.selects RX1 yX1_behindOctet yX1_behindOctet, Cond.code yX1_behindOctet cX1_behindOctet 9 (some .long), Cond.fieldLink RX1 39 "SumForms$Form" "in" "Z"]
def wsX5_changed_r2 : List Cond := [Cond.fieldLink RX1 25 "SumForms$Form" "width" "I", Cond.fieldLink RX1 29 "SumForms$Form" "generator" "J", Cond.static yX2_timesX, Cond.initialized RX2, Cond.code yX2_timesX cX2_timesX 7 (some .long), Cond.instanceMethod yX1_movedByOctets, Cond.selects RX1 yX1_movedByOctets yX1_movedByOctets, Cond.code yX1_movedByOctets cX1_movedByOctets 10 (some .long), Cond.static yX2_product, Cond.code yX2_product cX2_product 10 (some .long), Cond.methodLink RX2 7 yX2_degree, Cond.static yX2_degree, Cond.code yX2_degree cX2_degree 4 (some .int), Cond.methodLink RX2 17 yX2_timesX, Cond.instanceMethod yX1_registerOf, Cond.selects RX1 yX1_registerOf yX1_registerOf, Cond.code yX1_registerOf cX1_registerOf 3 (some .long), Cond.fieldLink RX1 43 "SumForms$Form" "out" "Z", Cond.fieldLink RX1 36 "SumForms$Form" "end" "J", Cond.methodLink RX1 46 yX1_turned, Cond.static yX1_turned, Cond.code yX1_turned cX1_turned 6 (some .long), Cond.instanceMethod yX1_sumOf, Cond.selects RX1 yX1_sumOf yX1_sumOf]
def wsX5_changed_r3 : List Cond := [Cond.code yX1_sumOf cX1_sumOf 3 (some .long)]
def wsX5_changed : List Cond := .code yX5_changed cX5_changed 10 (some .long) :: ((wsX5_changed_r1 ++ (wsX5_changed_r2 ++ wsX5_changed_r3)) ++ wsX50 ++ wsX10)
def wsX5_tail_r1 : List Cond := [Cond.fieldLink RX5 19 "SumForms" "forms" "[LSumForms$Form;", Cond.constantLong RX5 50 (-1), Cond.methodLink RX5 64 yX5_isSum, Cond.instanceMethod yX5_isSum, Cond.selects RX5 yX5_isSum yX5_isSum, Cond.initialized RX5, Cond.code yX5_isSum cX5_isSum 4 (some .boolean), Cond.methodLink RX5 42 yX5_isForm, Cond.instanceMethod yX5_isForm, Cond.selects RX5 yX5_isForm yX5_isForm, Cond.code yX5_isForm cX5_isForm 2 (some .boolean), Cond.fieldLink RX5 23 "SumForms" "formCount" "I", Cond.methodLink RX5 34 yX5_hasBits, Cond.static yX5_hasBits, Cond.code yX5_hasBits cX5_hasBits 3 (some .boolean), Cond.instanceMethod yX1_registerOf, Cond.initialized RX1, Cond.selects RX1 yX1_registerOf yX1_registerOf, Cond.code yX1_registerOf cX1_registerOf 3 (some .long), Cond.fieldLink RX1 43 "SumForms$Form" "out" "Z", Cond.fieldLink RX1 36 "SumForms$Form" "end" "J", Cond.fieldLink RX1 25 "SumForms$Form" "width" "I", Cond.methodLink RX1 46 yX1_turned, Cond.static yX1_turned]
def wsX5_tail_r2 : List Cond := [Cond.code yX1_turned cX1_turned 6 (some .long), Cond.instanceMethod yX1_octetsBetween, Cond.selects RX1 yX1_octetsBetween yX1_octetsBetween, Cond.code yX1_octetsBetween cX1_octetsBetween 9 (some .long), Cond.fieldLink RX1 39 "SumForms$Form" "in" "Z", Cond.methodLink RX1 60 yX1_movedDown, Cond.instanceMethod yX1_movedDown, Cond.selects RX1 yX1_movedDown yX1_movedDown, Cond.code yX1_movedDown cX1_movedDown 3 (some .long), Cond.fieldLink RX1 29 "SumForms$Form" "generator" "J", Cond.methodLink RX1 64 yX1_turnedByOctets, Cond.instanceMethod yX1_turnedByOctets, Cond.selects RX1 yX1_turnedByOctets yX1_turnedByOctets, Cond.code yX1_turnedByOctets cX1_turnedByOctets 6 (some .long), Cond.constantLong RX1 67 (255)]
def wsX5_tail : List Cond := .code yX5_tail cX5_tail 7 (some .long) :: ((wsX5_tail_r1 ++ wsX5_tail_r2) ++ wsX50 ++ wsX10)
def wsX5_factors_r1 : List Cond := [Cond.fieldLink RX5 19 "SumForms" "forms" "[LSumForms$Form;", Cond.methodLink RX5 42 yX5_isForm, Cond.instanceMethod yX5_isForm, Cond.selects RX5 yX5_isForm yX5_isForm, Cond.initialized RX5, Cond.code yX5_isForm cX5_isForm 2 (some .boolean), Cond.fieldLink RX5 23 "SumForms" "formCount" "I", Cond.instanceMethod yX0_findFor, Cond.initialized RX0, Cond.selects RX0 yX0_findFor yX0_findFor, Cond.code yX0_findFor cX0_findFor 11 none, Cond.fieldLink RX0 27 "SumForms$Factors" "foundFor" "J", Cond.fieldLink RX0 19 "SumForms$Factors" "size" "I", Cond.fieldLink RX0 23 "SumForms$Factors" "period" "J", Cond.constantLong RX0 32 (2), Cond.static yX2_degree, Cond.initialized RX2, Cond.code yX2_degree cX2_degree 4 (some .int), Cond.static yX2_product, Cond.code yX2_product cX2_product 10 (some .long), Cond.methodLink RX2 7 yX2_degree, Cond.methodLink RX2 17 yX2_timesX, Cond.static yX2_timesX, Cond.code yX2_timesX cX2_timesX 7 (some .long)]
def wsX5_factors_r2 : List Cond := [Cond.static yX2_greatestCommon, Cond.code yX2_greatestCommon cX2_greatestCommon 11 (some .long), Cond.methodLink RX2 13 yX2_remainder, Cond.static yX2_remainder, Cond.code yX2_remainder cX2_remainder 8 (some .long), Cond.methodLink RX0 46 yX0_append, Cond.instanceMethod yX0_append, Cond.selects RX0 yX0_append yX0_append, Cond.code yX0_append cX0_append 4 none, Cond.fieldLink RX0 11 "SumForms$Factors" "polynomials" "[J", Cond.fieldLink RX0 15 "SumForms$Factors" "times" "[I", Cond.methodLink RX0 50 yX0_split, Cond.instanceMethod yX0_split, Cond.selects RX0 yX0_split yX0_split, Cond.code yX0_split cX0_split 13 none, Cond.static yX2_trace, Cond.code yX2_trace cX2_trace 10 (some .long), Cond.methodLink RX2 21 yX2_product, Cond.methodLink RX0 73 yX0_splitOne, Cond.instanceMethod yX0_splitOne, Cond.selects RX0 yX0_splitOne yX0_splitOne, Cond.code yX0_splitOne cX0_splitOne 8 none, Cond.static yX2_quotient, Cond.code yX2_quotient cX2_quotient 10 (some .long)]
def wsX5_factors_r3 : List Cond := [Cond.methodLink RX0 54 yX0_sort, Cond.instanceMethod yX0_sort, Cond.selects RX0 yX0_sort yX0_sort, Cond.code yX0_sort cX0_sort 6 none, Cond.methodLink RX0 58 yX0_withoutFactorsFrom, Cond.instanceMethod yX0_withoutFactorsFrom, Cond.selects RX0 yX0_withoutFactorsFrom yX0_withoutFactorsFrom, Cond.code yX0_withoutFactorsFrom cX0_withoutFactorsFrom 7 (some .long)]
def wsX5_factors : List Cond := .code yX5_factors cX5_factors 3 (some .int) :: ((wsX5_factors_r1 ++ (wsX5_factors_r2 ++ wsX5_factors_r3)) ++ wsX50 ++ wsX10 ++ wsX00)
def wsX5_factor_r1 : List Cond := [Cond.constantLong RX5 50 (-1), Cond.fieldLink RX5 19 "SumForms" "forms" "[LSumForms$Form;", Cond.methodLink RX5 42 yX5_isForm, Cond.instanceMethod yX5_isForm, Cond.selects RX5 yX5_isForm yX5_isForm, Cond.initialized RX5, Cond.code yX5_isForm cX5_isForm 2 (some .boolean), Cond.fieldLink RX5 23 "SumForms" "formCount" "I", Cond.instanceMethod yX0_findFor, Cond.initialized RX0, Cond.selects RX0 yX0_findFor yX0_findFor, Cond.code yX0_findFor cX0_findFor 11 none, Cond.fieldLink RX0 27 "SumForms$Factors" "foundFor" "J", Cond.fieldLink RX0 19 "SumForms$Factors" "size" "I", Cond.fieldLink RX0 23 "SumForms$Factors" "period" "J", Cond.constantLong RX0 32 (2), Cond.static yX2_degree, Cond.initialized RX2, Cond.code yX2_degree cX2_degree 4 (some .int), Cond.static yX2_product, Cond.code yX2_product cX2_product 10 (some .long), Cond.methodLink RX2 7 yX2_degree, Cond.methodLink RX2 17 yX2_timesX, Cond.static yX2_timesX]
def wsX5_factor_r2 : List Cond := [Cond.code yX2_timesX cX2_timesX 7 (some .long), Cond.static yX2_greatestCommon, Cond.code yX2_greatestCommon cX2_greatestCommon 11 (some .long), Cond.methodLink RX2 13 yX2_remainder, Cond.static yX2_remainder, Cond.code yX2_remainder cX2_remainder 8 (some .long), Cond.methodLink RX0 46 yX0_append, Cond.instanceMethod yX0_append, Cond.selects RX0 yX0_append yX0_append, Cond.code yX0_append cX0_append 4 none, Cond.fieldLink RX0 11 "SumForms$Factors" "polynomials" "[J", Cond.fieldLink RX0 15 "SumForms$Factors" "times" "[I", Cond.methodLink RX0 50 yX0_split, Cond.instanceMethod yX0_split, Cond.selects RX0 yX0_split yX0_split, Cond.code yX0_split cX0_split 13 none, Cond.static yX2_trace, Cond.code yX2_trace cX2_trace 10 (some .long), Cond.methodLink RX2 21 yX2_product, Cond.methodLink RX0 73 yX0_splitOne, Cond.instanceMethod yX0_splitOne, Cond.selects RX0 yX0_splitOne yX0_splitOne, Cond.code yX0_splitOne cX0_splitOne 8 none, Cond.static yX2_quotient]
def wsX5_factor_r3 : List Cond := [Cond.code yX2_quotient cX2_quotient 10 (some .long), Cond.methodLink RX0 54 yX0_sort, Cond.instanceMethod yX0_sort, Cond.selects RX0 yX0_sort yX0_sort, Cond.code yX0_sort cX0_sort 6 none, Cond.methodLink RX0 58 yX0_withoutFactorsFrom, Cond.instanceMethod yX0_withoutFactorsFrom, Cond.selects RX0 yX0_withoutFactorsFrom yX0_withoutFactorsFrom, Cond.code yX0_withoutFactorsFrom cX0_withoutFactorsFrom 7 (some .long)]
def wsX5_factor : List Cond := .code yX5_factor cX5_factor 5 (some .long) :: ((wsX5_factor_r1 ++ (wsX5_factor_r2 ++ wsX5_factor_r3)) ++ wsX50 ++ wsX10 ++ wsX00)
def wsX5_order_r1 : List Cond := [Cond.constantLong RX5 50 (-1), Cond.fieldLink RX5 19 "SumForms" "forms" "[LSumForms$Form;", Cond.methodLink RX5 42 yX5_isForm, Cond.instanceMethod yX5_isForm, Cond.selects RX5 yX5_isForm yX5_isForm, Cond.initialized RX5, Cond.code yX5_isForm cX5_isForm 2 (some .boolean), Cond.fieldLink RX5 23 "SumForms" "formCount" "I", Cond.instanceMethod yX0_findFor, Cond.initialized RX0, Cond.selects RX0 yX0_findFor yX0_findFor, Cond.code yX0_findFor cX0_findFor 11 none, Cond.fieldLink RX0 27 "SumForms$Factors" "foundFor" "J", Cond.fieldLink RX0 19 "SumForms$Factors" "size" "I", Cond.fieldLink RX0 23 "SumForms$Factors" "period" "J", Cond.constantLong RX0 32 (2), Cond.static yX2_degree, Cond.initialized RX2, Cond.code yX2_degree cX2_degree 4 (some .int), Cond.static yX2_product, Cond.code yX2_product cX2_product 10 (some .long), Cond.methodLink RX2 7 yX2_degree, Cond.methodLink RX2 17 yX2_timesX, Cond.static yX2_timesX]
def wsX5_order_r2 : List Cond := [Cond.code yX2_timesX cX2_timesX 7 (some .long), Cond.static yX2_greatestCommon, Cond.code yX2_greatestCommon cX2_greatestCommon 11 (some .long), Cond.methodLink RX2 13 yX2_remainder, Cond.static yX2_remainder, Cond.code yX2_remainder cX2_remainder 8 (some .long), Cond.methodLink RX0 46 yX0_append, Cond.instanceMethod yX0_append, Cond.selects RX0 yX0_append yX0_append, Cond.code yX0_append cX0_append 4 none, Cond.fieldLink RX0 11 "SumForms$Factors" "polynomials" "[J", Cond.fieldLink RX0 15 "SumForms$Factors" "times" "[I", Cond.methodLink RX0 50 yX0_split, Cond.instanceMethod yX0_split, Cond.selects RX0 yX0_split yX0_split, Cond.code yX0_split cX0_split 13 none, Cond.static yX2_trace, Cond.code yX2_trace cX2_trace 10 (some .long), Cond.methodLink RX2 21 yX2_product, Cond.methodLink RX0 73 yX0_splitOne, Cond.instanceMethod yX0_splitOne, Cond.selects RX0 yX0_splitOne yX0_splitOne, Cond.code yX0_splitOne cX0_splitOne 8 none, Cond.static yX2_quotient]
def wsX5_order_r3 : List Cond := [Cond.code yX2_quotient cX2_quotient 10 (some .long), Cond.methodLink RX0 54 yX0_sort, Cond.instanceMethod yX0_sort, Cond.selects RX0 yX0_sort yX0_sort, Cond.code yX0_sort cX0_sort 6 none, Cond.methodLink RX0 58 yX0_withoutFactorsFrom, Cond.instanceMethod yX0_withoutFactorsFrom, Cond.selects RX0 yX0_withoutFactorsFrom yX0_withoutFactorsFrom, Cond.code yX0_withoutFactorsFrom cX0_withoutFactorsFrom 7 (some .long), Cond.instanceMethod yX0_foundPeriod, Cond.selects RX0 yX0_foundPeriod yX0_foundPeriod, Cond.code yX0_foundPeriod cX0_foundPeriod 3 (some .long), Cond.methodLink RX0 80 yX0_periodOf, Cond.static yX0_periodOf, Cond.code yX0_periodOf cX0_periodOf 8 (some .long), Cond.fieldLink RX0 87 "SumForms$Factors" "PRIMES" "[I", Cond.methodLink RX0 90 yX0_withoutPrime, Cond.static yX0_withoutPrime, Cond.code yX0_withoutPrime cX0_withoutPrime 8 (some .long), Cond.static yX2_powerOfX, Cond.code yX2_powerOfX cX2_powerOfX 8 (some .long), Cond.methodLink RX0 84 yX0_leastCommonMultiple, Cond.static yX0_leastCommonMultiple, Cond.code yX0_leastCommonMultiple cX0_leastCommonMultiple 11 (some .long)]
def wsX5_order : List Cond := .code yX5_order cX5_order 3 (some .long) :: ((wsX5_order_r1 ++ (wsX5_order_r2 ++ wsX5_order_r3)) ++ wsX50 ++ wsX10 ++ wsX00)
def wsX5_distance_r1 : List Cond := [Cond.fieldLink RX5 19 "SumForms" "forms" "[LSumForms$Form;", Cond.fieldLink RX5 29 "SumForms" "remainders" "LSumForms$Remainders;", Cond.methodLink RX5 42 yX5_isForm, Cond.instanceMethod yX5_isForm, Cond.selects RX5 yX5_isForm yX5_isForm, Cond.initialized RX5, Cond.code yX5_isForm cX5_isForm 2 (some .boolean), Cond.fieldLink RX5 23 "SumForms" "formCount" "I", Cond.instanceMethod yX4_findFor, Cond.initialized RX4, Cond.selects RX4 yX4_findFor yX4_findFor, Cond.code yX4_findFor cX4_findFor 8 none, Cond.fieldLink RX4 21 "SumForms$Unseen" "foundFor" "J", Cond.fieldLink RX4 11 "SumForms$Unseen" "twoFrom" "I", Cond.fieldLink RX4 15 "SumForms$Unseen" "threeFrom" "I", Cond.fieldLink RX4 18 "SumForms$Unseen" "fourFrom" "I", Cond.static yX2_degree, Cond.initialized RX2, Cond.code yX2_degree cX2_degree 4 (some .int), Cond.instanceMethod yX3_clear, Cond.initialized RX3, Cond.selects RX3 yX3_clear yX3_clear, Cond.code yX3_clear cX3_clear 2 none, Cond.fieldLink RX3 18 "SumForms$Remainders" "size" "I"]
def wsX5_distance_r2 : List Cond := [Cond.fieldLink RX3 15 "SumForms$Remainders" "slots" "[J", Cond.instanceMethod yX3_add, Cond.selects RX3 yX3_add yX3_add, Cond.code yX3_add cX3_add 3 none, Cond.fieldLink RX3 11 "SumForms$Remainders" "row" "[J", Cond.methodLink RX3 22 yX3_slotOf, Cond.instanceMethod yX3_slotOf, Cond.selects RX3 yX3_slotOf yX3_slotOf, Cond.code yX3_slotOf cX3_slotOf 5 (some .int), Cond.constantLong RX3 30 (-7046029254386353131), Cond.static yX2_timesX, Cond.code yX2_timesX cX2_timesX 7 (some .long), Cond.methodLink RX4 44 yX4_lookAt, Cond.instanceMethod yX4_lookAt, Cond.selects RX4 yX4_lookAt yX4_lookAt, Cond.code yX4_lookAt cX4_lookAt 5 none, Cond.instanceMethod yX3_has, Cond.selects RX3 yX3_has yX3_has, Cond.code yX3_has cX3_has 3 (some .boolean), Cond.instanceMethod yX3_hasTwo, Cond.selects RX3 yX3_hasTwo yX3_hasTwo, Cond.code yX3_hasTwo cX3_hasTwo 4 (some .boolean), Cond.methodLink RX3 26 yX3_has, Cond.instanceMethod yX4_fewest]
def wsX5_distance_r3 : List Cond := [Cond.selects RX4 yX4_fewest yX4_fewest, Cond.code yX4_fewest cX4_fewest 2 (some .int)]
def wsX5_distance : List Cond := .code yX5_distance cX5_distance 4 (some .int) :: ((wsX5_distance_r1 ++ (wsX5_distance_r2 ++ wsX5_distance_r3)) ++ wsX50 ++ wsX10 ++ wsX40 ++ wsX30)
def wsX5_isAdding : List Cond := .code yX5_isAdding cX5_isAdding 1 (some .boolean) :: ([])
def wsX5_halves : List Cond := .code yX5_halves cX5_halves 5 (some .long) :: ([.fieldLink RX5 150 "SumForms" "ADDING_HALF_BITS" "[I"])
def wsX5_added : List Cond := .code yX5_added cX5_added 8 (some .long) :: ([.constantLong RX5 50 (-1), .fieldLink RX5 128 "SumForms" "ADDING_MODULUS" "[I", .fieldLink RX5 131 "SumForms" "ADDING_FIRST" "[I", .fieldLink RX5 9 "SumForms" "text" "[I", .methodLink RX5 125 yX5_isAdding, .static yX5_isAdding, .initialized RX5, .code yX5_isAdding cX5_isAdding 1 (some .boolean), .methodLink RX5 46 yX5_isPart, .instanceMethod yX5_isPart, .selects RX5 yX5_isPart yX5_isPart, .code yX5_isPart cX5_isPart 3 (some .boolean), .fieldLink RX5 13 "SumForms" "octets" "I", .methodLink RX5 134 yX5_halves, .static yX5_halves, .code yX5_halves cX5_halves 5 (some .long), .fieldLink RX5 150 "SumForms" "ADDING_HALF_BITS" "[I"] ++ wsX50)
def wsX5_lowHalf : List Cond := .code yX5_lowHalf cX5_lowHalf 3 (some .long) :: ([.fieldLink RX5 150 "SumForms" "ADDING_HALF_BITS" "[I"])
def wsX5_highHalf : List Cond := .code yX5_highHalf cX5_highHalf 3 (some .long) :: ([.fieldLink RX5 150 "SumForms" "ADDING_HALF_BITS" "[I"])
def wsX5_isAddingSum : List Cond := .code yX5_isAddingSum cX5_isAddingSum 4 (some .boolean) :: ([.fieldLink RX5 128 "SumForms" "ADDING_MODULUS" "[I", .methodLink RX5 141 yX5_lowHalf, .static yX5_lowHalf, .initialized RX5, .code yX5_lowHalf cX5_lowHalf 3 (some .long), .fieldLink RX5 150 "SumForms" "ADDING_HALF_BITS" "[I", .methodLink RX5 145 yX5_highHalf, .static yX5_highHalf, .code yX5_highHalf cX5_highHalf 3 (some .long)])
def wsX5_addedJoined : List Cond := .code yX5_addedJoined cX5_addedJoined 15 (some .long) :: ([.constantLong RX5 50 (-1), .fieldLink RX5 128 "SumForms" "ADDING_MODULUS" "[I", .fieldLink RX5 131 "SumForms" "ADDING_FIRST" "[I", .methodLink RX5 125 yX5_isAdding, .static yX5_isAdding, .initialized RX5, .code yX5_isAdding cX5_isAdding 1 (some .boolean), .methodLink RX5 138 yX5_isAddingSum, .static yX5_isAddingSum, .code yX5_isAddingSum cX5_isAddingSum 4 (some .boolean), .methodLink RX5 141 yX5_lowHalf, .static yX5_lowHalf, .code yX5_lowHalf cX5_lowHalf 3 (some .long), .fieldLink RX5 150 "SumForms" "ADDING_HALF_BITS" "[I", .methodLink RX5 145 yX5_highHalf, .static yX5_highHalf, .code yX5_highHalf cX5_highHalf 3 (some .long), .methodLink RX5 68 yX5_isLength, .static yX5_isLength, .code yX5_isLength cX5_isLength 2 (some .boolean), .constantLong RX5 148 (1152921504606846976), .methodLink RX5 134 yX5_halves, .static yX5_halves, .code yX5_halves cX5_halves 5 (some .long)])
def wsX6_init : List Cond := .code yX6_init cX6_init 1 none :: ([.methodLink RX6 1 objectInit, .instanceMethod objectInit, .code objectInit ⟨#[0xb1]⟩ 1 none, .arrayClass .int, .fieldLink RX6 7 "SumFormsModel" "width" "[I", .arrayClass .long, .fieldLink RX6 13 "SumFormsModel" "poly" "[J", .fieldLink RX6 17 "SumFormsModel" "start" "[J", .fieldLink RX6 20 "SumFormsModel" "end" "[J", .arrayClass .boolean, .fieldLink RX6 23 "SumFormsModel" "turnsIn" "[Z", .fieldLink RX6 27 "SumFormsModel" "turnsOut" "[Z", .fieldLink RX6 30 "SumFormsModel" "text" "[I", .fieldLink RX6 33 "SumFormsModel" "known" "[Z", .fieldLink RX6 36 "SumFormsModel" "factor" "[J", .fieldLink RX6 39 "SumFormsModel" "often" "[I", .fieldLink RX6 42 "SumFormsModel" "many" "[I", .fieldLink RX6 45 "SumFormsModel" "orders" "[J", .fieldLink RX6 48 "SumFormsModel" "rests" "[J", .constant RX6 51 (65536), .fieldLink RX6 52 "SumFormsModel" "table" "[J"] ++ wsX60)
def wsX6_isOf : List Cond := .code yX6_isOf cX6_isOf 3 (some .boolean) :: ([])
def wsX6_form : List Cond := .code yX6_form cX6_form 11 (some .int) :: ([.fieldLink RX6 59 "SumFormsModel" "forms" "I", .fieldLink RX6 7 "SumFormsModel" "width" "[I", .fieldLink RX6 13 "SumFormsModel" "poly" "[J", .fieldLink RX6 17 "SumFormsModel" "start" "[J", .fieldLink RX6 20 "SumFormsModel" "end" "[J", .fieldLink RX6 23 "SumFormsModel" "turnsIn" "[Z", .fieldLink RX6 27 "SumFormsModel" "turnsOut" "[Z", .fieldLink RX6 33 "SumFormsModel" "known" "[Z", .methodLink RX6 55 yX6_isOf, .static yX6_isOf, .initialized RX6, .code yX6_isOf cX6_isOf 3 (some .boolean)] ++ wsX60)
def wsX6_forget : List Cond := .code yX6_forget cX6_forget 2 (some .int) :: ([.fieldLink RX6 59 "SumFormsModel" "forms" "I"] ++ wsX60)
def wsX6_feed : List Cond := .code yX6_feed cX6_feed 5 (some .int) :: ([.fieldLink RX6 63 "SumFormsModel" "size" "I", .fieldLink RX6 30 "SumFormsModel" "text" "[I", .constantLong RX6 66 (255)] ++ wsX60)
def wsX6_cut : List Cond := .code yX6_cut cX6_cut 3 (some .int) :: ([.fieldLink RX6 63 "SumFormsModel" "size" "I"] ++ wsX60)
def wsX6_octet : List Cond := .code yX6_octet cX6_octet 2 (some .int) :: ([.fieldLink RX6 63 "SumFormsModel" "size" "I", .fieldLink RX6 30 "SumFormsModel" "text" "[I"] ++ wsX60)
def wsX6_count : List Cond := .code yX6_count cX6_count 2 (some .int) :: ([.fieldLink RX6 59 "SumFormsModel" "forms" "I", .fieldLink RX6 63 "SumFormsModel" "size" "I"] ++ wsX60)
def wsX6_isForm : List Cond := .code yX6_isForm cX6_isForm 2 (some .boolean) :: ([.fieldLink RX6 59 "SumFormsModel" "forms" "I"] ++ wsX60)
def wsX6_isSum : List Cond := .code yX6_isSum cX6_isSum 4 (some .boolean) :: ([.fieldLink RX6 7 "SumFormsModel" "width" "[I", .methodLink RX6 68 yX6_isForm, .instanceMethod yX6_isForm, .selects RX6 yX6_isForm yX6_isForm, .initialized RX6, .code yX6_isForm cX6_isForm 2 (some .boolean), .fieldLink RX6 59 "SumFormsModel" "forms" "I", .methodLink RX6 55 yX6_isOf, .static yX6_isOf, .code yX6_isOf cX6_isOf 3 (some .boolean)] ++ wsX60)
def wsX6_turned : List Cond := .code yX6_turned cX6_turned 6 (some .long) :: ([])
def wsX6_up : List Cond := .code yX6_up cX6_up 8 (some .long) :: ([.fieldLink RX6 7 "SumFormsModel" "width" "[I", .fieldLink RX6 13 "SumFormsModel" "poly" "[J"] ++ wsX60)
def wsX6_down : List Cond := .code yX6_down cX6_down 6 (some .long) :: ([.fieldLink RX6 7 "SumFormsModel" "width" "[I", .fieldLink RX6 13 "SumFormsModel" "poly" "[J"] ++ wsX60)
def wsX6_times : List Cond := .code yX6_times cX6_times 9 (some .long) :: ([.fieldLink RX6 7 "SumFormsModel" "width" "[I", .methodLink RX6 72 yX6_up, .instanceMethod yX6_up, .selects RX6 yX6_up yX6_up, .initialized RX6, .code yX6_up cX6_up 8 (some .long), .fieldLink RX6 13 "SumFormsModel" "poly" "[J"] ++ wsX60)
def wsX6_power : List Cond := .code yX6_power cX6_power 11 (some .long) :: ([.methodLink RX6 76 yX6_times, .instanceMethod yX6_times, .selects RX6 yX6_times yX6_times, .initialized RX6, .code yX6_times cX6_times 9 (some .long), .fieldLink RX6 7 "SumFormsModel" "width" "[I", .methodLink RX6 72 yX6_up, .instanceMethod yX6_up, .selects RX6 yX6_up yX6_up, .code yX6_up cX6_up 8 (some .long), .fieldLink RX6 13 "SumFormsModel" "poly" "[J"] ++ wsX60)
def wsX6_moved : List Cond := .code yX6_moved cX6_moved 9 (some .long) :: ([.methodLink RX6 72 yX6_up, .instanceMethod yX6_up, .selects RX6 yX6_up yX6_up, .initialized RX6, .code yX6_up cX6_up 8 (some .long), .fieldLink RX6 7 "SumFormsModel" "width" "[I", .fieldLink RX6 13 "SumFormsModel" "poly" "[J", .methodLink RX6 80 yX6_power, .instanceMethod yX6_power, .selects RX6 yX6_power yX6_power, .code yX6_power cX6_power 11 (some .long), .methodLink RX6 76 yX6_times, .instanceMethod yX6_times, .selects RX6 yX6_times yX6_times, .code yX6_times cX6_times 9 (some .long)] ++ wsX60)
def wsX6_taken : List Cond := .code yX6_taken cX6_taken 9 (some .long) :: ([.fieldLink RX6 23 "SumFormsModel" "turnsIn" "[Z", .fieldLink RX6 7 "SumFormsModel" "width" "[I", .methodLink RX6 72 yX6_up, .instanceMethod yX6_up, .selects RX6 yX6_up yX6_up, .initialized RX6, .code yX6_up cX6_up 8 (some .long), .fieldLink RX6 13 "SumFormsModel" "poly" "[J"] ++ wsX60)
def wsX6_told : List Cond := .code yX6_told cX6_told 4 (some .long) :: ([.fieldLink RX6 27 "SumFormsModel" "turnsOut" "[Z", .fieldLink RX6 7 "SumFormsModel" "width" "[I", .fieldLink RX6 20 "SumFormsModel" "end" "[J", .methodLink RX6 83 yX6_turned, .static yX6_turned, .initialized RX6, .code yX6_turned cX6_turned 6 (some .long)] ++ wsX60)
def wsX6_register : List Cond := .code yX6_register cX6_register 6 (some .long) :: ([.fieldLink RX6 20 "SumFormsModel" "end" "[J", .fieldLink RX6 27 "SumFormsModel" "turnsOut" "[Z", .fieldLink RX6 7 "SumFormsModel" "width" "[I", .methodLink RX6 83 yX6_turned, .static yX6_turned, .initialized RX6, .code yX6_turned cX6_turned 6 (some .long)] ++ wsX60)
def wsX6_isSpan : List Cond := .code yX6_isSpan cX6_isSpan 3 (some .boolean) :: ([.fieldLink RX6 63 "SumFormsModel" "size" "I"] ++ wsX60)
def wsX6_sum_r1 : List Cond := [Cond.constantLong RX6 91 (-1), Cond.fieldLink RX6 17 "SumFormsModel" "start" "[J", Cond.fieldLink RX6 30 "SumFormsModel" "text" "[I", Cond.methodLink RX6 68 yX6_isForm, Cond.instanceMethod yX6_isForm, Cond.selects RX6 yX6_isForm yX6_isForm, Cond.initialized RX6, Cond.code yX6_isForm cX6_isForm 2 (some .boolean), Cond.fieldLink RX6 59 "SumFormsModel" "forms" "I", Cond.methodLink RX6 87 yX6_isSpan, Cond.instanceMethod yX6_isSpan, Cond.selects RX6 yX6_isSpan yX6_isSpan, Cond.code yX6_isSpan cX6_isSpan 3 (some .boolean), Cond.fieldLink RX6 63 "SumFormsModel" "size" "I", Cond.methodLink RX6 93 yX6_taken, Cond.instanceMethod yX6_taken, Cond.selects RX6 yX6_taken yX6_taken, Cond.code yX6_taken cX6_taken 9 (some .long), Cond.fieldLink RX6 23 "SumFormsModel" "turnsIn" "[Z", Cond.fieldLink RX6 7 "SumFormsModel" "width" "[I", Cond.methodLink RX6 72 yX6_up, Cond.instanceMethod yX6_up, Cond.selects RX6 yX6_up yX6_up, Cond.code yX6_up cX6_up 8 (some .long)]
def wsX6_sum_r2 : List Cond := [Cond.fieldLink RX6 13 "SumFormsModel" "poly" "[J", Cond.methodLink RX6 97 yX6_told, Cond.instanceMethod yX6_told, Cond.selects RX6 yX6_told yX6_told, Cond.code yX6_told cX6_told 4 (some .long), Cond.fieldLink RX6 27 "SumFormsModel" "turnsOut" "[Z", Cond.fieldLink RX6 20 "SumFormsModel" "end" "[J", Cond.methodLink RX6 83 yX6_turned, Cond.static yX6_turned, Cond.code yX6_turned cX6_turned 6 (some .long)]
def wsX6_sum : List Cond := .code yX6_sum cX6_sum 7 (some .long) :: ((wsX6_sum_r1 ++ wsX6_sum_r2) ++ wsX60)
def wsX6_isFar : List Cond := .code yX6_isFar cX6_isFar 2 (some .boolean) :: ([.constantLong RX6 100 (1152921504606846976)])
def wsX6_joined_r1 : List Cond := [Cond.constantLong RX6 91 (-1), Cond.fieldLink RX6 17 "SumFormsModel" "start" "[J", Cond.methodLink RX6 102 yX6_isSum, Cond.instanceMethod yX6_isSum, Cond.selects RX6 yX6_isSum yX6_isSum, Cond.initialized RX6, Cond.code yX6_isSum cX6_isSum 4 (some .boolean), Cond.fieldLink RX6 7 "SumFormsModel" "width" "[I", Cond.methodLink RX6 68 yX6_isForm, Cond.instanceMethod yX6_isForm, Cond.selects RX6 yX6_isForm yX6_isForm, Cond.code yX6_isForm cX6_isForm 2 (some .boolean), Cond.fieldLink RX6 59 "SumFormsModel" "forms" "I", Cond.methodLink RX6 55 yX6_isOf, Cond.static yX6_isOf, Cond.code yX6_isOf cX6_isOf 3 (some .boolean), Cond.methodLink RX6 105 yX6_isFar, Cond.static yX6_isFar, Cond.code yX6_isFar cX6_isFar 2 (some .boolean), Cond.constantLong RX6 100 (1152921504606846976), Cond.methodLink RX6 109 yX6_register, Cond.instanceMethod yX6_register, Cond.selects RX6 yX6_register yX6_register, Cond.code yX6_register cX6_register 6 (some .long)]
def wsX6_joined_r2 : List Cond := [Cond.fieldLink RX6 20 "SumFormsModel" "end" "[J", Cond.fieldLink RX6 27 "SumFormsModel" "turnsOut" "[Z", Cond.methodLink RX6 83 yX6_turned, Cond.static yX6_turned, Cond.code yX6_turned cX6_turned 6 (some .long), Cond.methodLink RX6 112 yX6_moved, Cond.instanceMethod yX6_moved, Cond.selects RX6 yX6_moved yX6_moved, Cond.code yX6_moved cX6_moved 9 (some .long), Cond.methodLink RX6 72 yX6_up, Cond.instanceMethod yX6_up, Cond.selects RX6 yX6_up yX6_up, Cond.code yX6_up cX6_up 8 (some .long), Cond.fieldLink RX6 13 "SumFormsModel" "poly" "[J", Cond.methodLink RX6 80 yX6_power, Cond.instanceMethod yX6_power, Cond.selects RX6 yX6_power yX6_power, Cond.code yX6_power cX6_power 11 (some .long), Cond.methodLink RX6 76 yX6_times, Cond.instanceMethod yX6_times, Cond.selects RX6 yX6_times yX6_times, Cond.code yX6_times cX6_times 9 (some .long), Cond.methodLink RX6 97 yX6_told, Cond.instanceMethod yX6_told]
def wsX6_joined_r3 : List Cond := [Cond.selects RX6 yX6_told yX6_told, Cond.code yX6_told cX6_told 4 (some .long)]
def wsX6_joined : List Cond := .code yX6_joined cX6_joined 8 (some .long) :: ((wsX6_joined_r1 ++ (wsX6_joined_r2 ++ wsX6_joined_r3)) ++ wsX60)
def wsX6_zeros_r1 : List Cond := [Cond.constantLong RX6 91 (-1), Cond.methodLink RX6 102 yX6_isSum, Cond.instanceMethod yX6_isSum, Cond.selects RX6 yX6_isSum yX6_isSum, Cond.initialized RX6, Cond.code yX6_isSum cX6_isSum 4 (some .boolean), Cond.fieldLink RX6 7 "SumFormsModel" "width" "[I", Cond.methodLink RX6 68 yX6_isForm, Cond.instanceMethod yX6_isForm, Cond.selects RX6 yX6_isForm yX6_isForm, Cond.code yX6_isForm cX6_isForm 2 (some .boolean), Cond.fieldLink RX6 59 "SumFormsModel" "forms" "I", Cond.methodLink RX6 55 yX6_isOf, Cond.static yX6_isOf, Cond.code yX6_isOf cX6_isOf 3 (some .boolean), Cond.methodLink RX6 105 yX6_isFar, Cond.static yX6_isFar, Cond.code yX6_isFar cX6_isFar 2 (some .boolean), Cond.constantLong RX6 100 (1152921504606846976), Cond.methodLink RX6 109 yX6_register, Cond.instanceMethod yX6_register, Cond.selects RX6 yX6_register yX6_register, Cond.code yX6_register cX6_register 6 (some .long), Cond.fieldLink RX6 20 "SumFormsModel" "end" "[J"]
def wsX6_zeros_r2 : List Cond := [Cond.fieldLink RX6 27 "SumFormsModel" "turnsOut" "[Z", Cond.methodLink RX6 83 yX6_turned, Cond.static yX6_turned, Cond.code yX6_turned cX6_turned 6 (some .long), Cond.methodLink RX6 112 yX6_moved, Cond.instanceMethod yX6_moved, Cond.selects RX6 yX6_moved yX6_moved, Cond.code yX6_moved cX6_moved 9 (some .long), Cond.methodLink RX6 72 yX6_up, Cond.instanceMethod yX6_up, Cond.selects RX6 yX6_up yX6_up, Cond.code yX6_up cX6_up 8 (some .long), Cond.fieldLink RX6 13 "SumFormsModel" "poly" "[J", Cond.methodLink RX6 80 yX6_power, Cond.instanceMethod yX6_power, Cond.selects RX6 yX6_power yX6_power, Cond.code yX6_power cX6_power 11 (some .long), Cond.methodLink RX6 76 yX6_times, Cond.instanceMethod yX6_times, Cond.selects RX6 yX6_times yX6_times, Cond.code yX6_times cX6_times 9 (some .long), Cond.methodLink RX6 97 yX6_told, Cond.instanceMethod yX6_told, Cond.selects RX6 yX6_told yX6_told]
def wsX6_zeros_r3 : List Cond := [Cond.code yX6_told cX6_told 4 (some .long)]
def wsX6_zeros : List Cond := .code yX6_zeros cX6_zeros 6 (some .long) :: ((wsX6_zeros_r1 ++ (wsX6_zeros_r2 ++ wsX6_zeros_r3)) ++ wsX60)
def wsX6_changed_r1 : List Cond := [Cond.constantLong RX6 91 (-1), Cond.methodLink RX6 102 yX6_isSum, Cond.instanceMethod yX6_isSum, Cond.selects RX6 yX6_isSum yX6_isSum, Cond.initialized RX6, Cond.code yX6_isSum cX6_isSum 4 (some .boolean), Cond.fieldLink RX6 7 "SumFormsModel" "width" "[I", Cond.methodLink RX6 68 yX6_isForm, Cond.instanceMethod yX6_isForm, Cond.selects RX6 yX6_isForm yX6_isForm, Cond.code yX6_isForm cX6_isForm 2 (some .boolean), Cond.fieldLink RX6 59 "SumFormsModel" "forms" "I", Cond.methodLink RX6 55 yX6_isOf, Cond.static yX6_isOf, Cond.code yX6_isOf cX6_isOf 3 (some .boolean), Cond.methodLink RX6 105 yX6_isFar, Cond.static yX6_isFar, Cond.code yX6_isFar cX6_isFar 2 (some .boolean), Cond.constantLong RX6 100 (1152921504606846976), Cond.methodLink RX6 109 yX6_register, Cond.instanceMethod yX6_register, Cond.selects RX6 yX6_register yX6_register, Cond.code yX6_register cX6_register 6 (some .long), Cond.fieldLink RX6 20 "SumFormsModel" "end" "[J"]
def wsX6_changed_r2 : List Cond := [Cond.fieldLink RX6 27 "SumFormsModel" "turnsOut" "[Z", Cond.methodLink RX6 83 yX6_turned, Cond.static yX6_turned, Cond.code yX6_turned cX6_turned 6 (some .long), Cond.methodLink RX6 93 yX6_taken, Cond.instanceMethod yX6_taken, Cond.selects RX6 yX6_taken yX6_taken, Cond.code yX6_taken cX6_taken 9 (some .long), Cond.fieldLink RX6 23 "SumFormsModel" "turnsIn" "[Z", Cond.methodLink RX6 72 yX6_up, Cond.instanceMethod yX6_up, Cond.selects RX6 yX6_up yX6_up, Cond.code yX6_up cX6_up 8 (some .long), Cond.fieldLink RX6 13 "SumFormsModel" "poly" "[J", Cond.methodLink RX6 112 yX6_moved, Cond.instanceMethod yX6_moved, Cond.selects RX6 yX6_moved yX6_moved, Cond.code yX6_moved cX6_moved 9 (some .long), Cond.methodLink RX6 80 yX6_power, Cond.instanceMethod yX6_power, Cond.selects RX6 yX6_power yX6_power, Cond.code yX6_power cX6_power 11 (some .long), Cond.methodLink RX6 76 yX6_times, Cond.instanceMethod yX6_times]
def wsX6_changed_r3 : List Cond := [Cond.selects RX6 yX6_times yX6_times, Cond.code yX6_times cX6_times 9 (some .long), Cond.methodLink RX6 97 yX6_told, Cond.instanceMethod yX6_told, Cond.selects RX6 yX6_told yX6_told, Cond.code yX6_told cX6_told 4 (some .long)]
def wsX6_changed : List Cond := .code yX6_changed cX6_changed 7 (some .long) :: ((wsX6_changed_r1 ++ (wsX6_changed_r2 ++ wsX6_changed_r3)) ++ wsX60)
def wsX6_tail_r1 : List Cond := [Cond.fieldLink RX6 7 "SumFormsModel" "width" "[I", Cond.constantLong RX6 91 (-1), Cond.constantLong RX6 66 (255), Cond.fieldLink RX6 23 "SumFormsModel" "turnsIn" "[Z", Cond.methodLink RX6 102 yX6_isSum, Cond.instanceMethod yX6_isSum, Cond.selects RX6 yX6_isSum yX6_isSum, Cond.initialized RX6, Cond.code yX6_isSum cX6_isSum 4 (some .boolean), Cond.methodLink RX6 68 yX6_isForm, Cond.instanceMethod yX6_isForm, Cond.selects RX6 yX6_isForm yX6_isForm, Cond.code yX6_isForm cX6_isForm 2 (some .boolean), Cond.fieldLink RX6 59 "SumFormsModel" "forms" "I", Cond.methodLink RX6 55 yX6_isOf, Cond.static yX6_isOf, Cond.code yX6_isOf cX6_isOf 3 (some .boolean), Cond.methodLink RX6 109 yX6_register, Cond.instanceMethod yX6_register, Cond.selects RX6 yX6_register yX6_register, Cond.code yX6_register cX6_register 6 (some .long), Cond.fieldLink RX6 20 "SumFormsModel" "end" "[J", Cond.fieldLink RX6 27 "SumFormsModel" "turnsOut" "[Z", Cond.methodLink RX6 83 yX6_turned]
def wsX6_tail_r2 : List Cond := [Cond.static yX6_turned, Cond.code yX6_turned cX6_turned 6 (some .long), Cond.methodLink RX6 115 yX6_down, Cond.instanceMethod yX6_down, Cond.selects RX6 yX6_down yX6_down, Cond.code yX6_down cX6_down 6 (some .long), Cond.fieldLink RX6 13 "SumFormsModel" "poly" "[J"]
def wsX6_tail : List Cond := .code yX6_tail cX6_tail 15 (some .long) :: ((wsX6_tail_r1 ++ wsX6_tail_r2) ++ wsX60)
def wsX6_degree : List Cond := .code yX6_degree cX6_degree 4 (some .int) :: ([])
def wsX6_rest : List Cond := .code yX6_rest cX6_rest 8 (some .long) :: ([])
def wsX6_quotient : List Cond := .code yX6_quotient cX6_quotient 10 (some .long) :: ([])
def wsX6_common : List Cond := .code yX6_common cX6_common 10 (some .long) :: ([])
def wsX6_findOrder_r1 : List Cond := [Cond.fieldLink RX6 42 "SumFormsModel" "many" "[I", Cond.fieldLink RX6 36 "SumFormsModel" "factor" "[J", Cond.fieldLink RX6 39 "SumFormsModel" "often" "[I", Cond.constantLong RX6 131 (2), Cond.methodLink RX6 120 yX6_degree, Cond.static yX6_degree, Cond.initialized RX6, Cond.code yX6_degree cX6_degree 4 (some .int), Cond.methodLink RX6 137 yX6_common, Cond.static yX6_common, Cond.code yX6_common cX6_common 10 (some .long), Cond.methodLink RX6 72 yX6_up, Cond.instanceMethod yX6_up, Cond.selects RX6 yX6_up yX6_up, Cond.code yX6_up cX6_up 8 (some .long), Cond.fieldLink RX6 7 "SumFormsModel" "width" "[I", Cond.fieldLink RX6 13 "SumFormsModel" "poly" "[J", Cond.methodLink RX6 80 yX6_power, Cond.instanceMethod yX6_power, Cond.selects RX6 yX6_power yX6_power, Cond.code yX6_power cX6_power 11 (some .long), Cond.methodLink RX6 76 yX6_times, Cond.instanceMethod yX6_times, Cond.selects RX6 yX6_times yX6_times]
def wsX6_findOrder_r2 : List Cond := [Cond.code yX6_times cX6_times 9 (some .long)]
def wsX6_findOrder : List Cond := .code yX6_findOrder cX6_findOrder 10 (some .long) :: ((wsX6_findOrder_r1 ++ wsX6_findOrder_r2) ++ wsX60)
def wsX6_know_r1 : List Cond := [Cond.fieldLink RX6 33 "SumFormsModel" "known" "[Z", Cond.fieldLink RX6 42 "SumFormsModel" "many" "[I", Cond.fieldLink RX6 7 "SumFormsModel" "width" "[I", Cond.fieldLink RX6 13 "SumFormsModel" "poly" "[J", Cond.constantLong RX6 118 (3), Cond.fieldLink RX6 36 "SumFormsModel" "factor" "[J", Cond.fieldLink RX6 39 "SumFormsModel" "often" "[I", Cond.constantLong RX6 131 (2), Cond.fieldLink RX6 45 "SumFormsModel" "orders" "[J", Cond.methodLink RX6 120 yX6_degree, Cond.static yX6_degree, Cond.initialized RX6, Cond.code yX6_degree cX6_degree 4 (some .int), Cond.methodLink RX6 124 yX6_rest, Cond.static yX6_rest, Cond.code yX6_rest cX6_rest 8 (some .long), Cond.methodLink RX6 128 yX6_quotient, Cond.static yX6_quotient, Cond.code yX6_quotient cX6_quotient 10 (some .long), Cond.methodLink RX6 133 yX6_findOrder, Cond.instanceMethod yX6_findOrder, Cond.selects RX6 yX6_findOrder yX6_findOrder, Cond.code yX6_findOrder cX6_findOrder 10 (some .long), Cond.methodLink RX6 137 yX6_common]
def wsX6_know_r2 : List Cond := [Cond.static yX6_common, Cond.code yX6_common cX6_common 10 (some .long), Cond.methodLink RX6 72 yX6_up, Cond.instanceMethod yX6_up, Cond.selects RX6 yX6_up yX6_up, Cond.code yX6_up cX6_up 8 (some .long), Cond.methodLink RX6 80 yX6_power, Cond.instanceMethod yX6_power, Cond.selects RX6 yX6_power yX6_power, Cond.code yX6_power cX6_power 11 (some .long), Cond.methodLink RX6 76 yX6_times, Cond.instanceMethod yX6_times, Cond.selects RX6 yX6_times yX6_times, Cond.code yX6_times cX6_times 9 (some .long)]
def wsX6_know : List Cond := .code yX6_know cX6_know 8 none :: ((wsX6_know_r1 ++ wsX6_know_r2) ++ wsX60)
def wsX6_factors_r1 : List Cond := [Cond.fieldLink RX6 42 "SumFormsModel" "many" "[I", Cond.methodLink RX6 68 yX6_isForm, Cond.instanceMethod yX6_isForm, Cond.selects RX6 yX6_isForm yX6_isForm, Cond.initialized RX6, Cond.code yX6_isForm cX6_isForm 2 (some .boolean), Cond.fieldLink RX6 59 "SumFormsModel" "forms" "I", Cond.methodLink RX6 141 yX6_know, Cond.instanceMethod yX6_know, Cond.selects RX6 yX6_know yX6_know, Cond.code yX6_know cX6_know 8 none, Cond.fieldLink RX6 33 "SumFormsModel" "known" "[Z", Cond.fieldLink RX6 7 "SumFormsModel" "width" "[I", Cond.fieldLink RX6 13 "SumFormsModel" "poly" "[J", Cond.constantLong RX6 118 (3), Cond.fieldLink RX6 36 "SumFormsModel" "factor" "[J", Cond.fieldLink RX6 39 "SumFormsModel" "often" "[I", Cond.constantLong RX6 131 (2), Cond.fieldLink RX6 45 "SumFormsModel" "orders" "[J", Cond.methodLink RX6 120 yX6_degree, Cond.static yX6_degree, Cond.code yX6_degree cX6_degree 4 (some .int), Cond.methodLink RX6 124 yX6_rest, Cond.static yX6_rest]
def wsX6_factors_r2 : List Cond := [Cond.code yX6_rest cX6_rest 8 (some .long), Cond.methodLink RX6 128 yX6_quotient, Cond.static yX6_quotient, Cond.code yX6_quotient cX6_quotient 10 (some .long), Cond.methodLink RX6 133 yX6_findOrder, Cond.instanceMethod yX6_findOrder, Cond.selects RX6 yX6_findOrder yX6_findOrder, Cond.code yX6_findOrder cX6_findOrder 10 (some .long), Cond.methodLink RX6 137 yX6_common, Cond.static yX6_common, Cond.code yX6_common cX6_common 10 (some .long), Cond.methodLink RX6 72 yX6_up, Cond.instanceMethod yX6_up, Cond.selects RX6 yX6_up yX6_up, Cond.code yX6_up cX6_up 8 (some .long), Cond.methodLink RX6 80 yX6_power, Cond.instanceMethod yX6_power, Cond.selects RX6 yX6_power yX6_power, Cond.code yX6_power cX6_power 11 (some .long), Cond.methodLink RX6 76 yX6_times, Cond.instanceMethod yX6_times, Cond.selects RX6 yX6_times yX6_times, Cond.code yX6_times cX6_times 9 (some .long)]
def wsX6_factors : List Cond := .code yX6_factors cX6_factors 2 (some .int) :: ((wsX6_factors_r1 ++ wsX6_factors_r2) ++ wsX60)
def wsX6_factor_r1 : List Cond := [Cond.constantLong RX6 91 (-1), Cond.fieldLink RX6 42 "SumFormsModel" "many" "[I", Cond.fieldLink RX6 36 "SumFormsModel" "factor" "[J", Cond.fieldLink RX6 39 "SumFormsModel" "often" "[I", Cond.methodLink RX6 68 yX6_isForm, Cond.instanceMethod yX6_isForm, Cond.selects RX6 yX6_isForm yX6_isForm, Cond.initialized RX6, Cond.code yX6_isForm cX6_isForm 2 (some .boolean), Cond.fieldLink RX6 59 "SumFormsModel" "forms" "I", Cond.methodLink RX6 141 yX6_know, Cond.instanceMethod yX6_know, Cond.selects RX6 yX6_know yX6_know, Cond.code yX6_know cX6_know 8 none, Cond.fieldLink RX6 33 "SumFormsModel" "known" "[Z", Cond.fieldLink RX6 7 "SumFormsModel" "width" "[I", Cond.fieldLink RX6 13 "SumFormsModel" "poly" "[J", Cond.constantLong RX6 118 (3), Cond.constantLong RX6 131 (2), Cond.fieldLink RX6 45 "SumFormsModel" "orders" "[J", Cond.methodLink RX6 120 yX6_degree, Cond.static yX6_degree, Cond.code yX6_degree cX6_degree 4 (some .int), Cond.methodLink RX6 124 yX6_rest]
def wsX6_factor_r2 : List Cond := [Cond.static yX6_rest, Cond.code yX6_rest cX6_rest 8 (some .long), Cond.methodLink RX6 128 yX6_quotient, Cond.static yX6_quotient, Cond.code yX6_quotient cX6_quotient 10 (some .long), Cond.methodLink RX6 133 yX6_findOrder, Cond.instanceMethod yX6_findOrder, Cond.selects RX6 yX6_findOrder yX6_findOrder, Cond.code yX6_findOrder cX6_findOrder 10 (some .long), Cond.methodLink RX6 137 yX6_common, Cond.static yX6_common, Cond.code yX6_common cX6_common 10 (some .long), Cond.methodLink RX6 72 yX6_up, Cond.instanceMethod yX6_up, Cond.selects RX6 yX6_up yX6_up, Cond.code yX6_up cX6_up 8 (some .long), Cond.methodLink RX6 80 yX6_power, Cond.instanceMethod yX6_power, Cond.selects RX6 yX6_power yX6_power, Cond.code yX6_power cX6_power 11 (some .long), Cond.methodLink RX6 76 yX6_times, Cond.instanceMethod yX6_times, Cond.selects RX6 yX6_times yX6_times, Cond.code yX6_times cX6_times 9 (some .long)]
def wsX6_factor : List Cond := .code yX6_factor cX6_factor 4 (some .long) :: ((wsX6_factor_r1 ++ wsX6_factor_r2) ++ wsX60)
def wsX6_order_r1 : List Cond := [Cond.constantLong RX6 91 (-1), Cond.fieldLink RX6 45 "SumFormsModel" "orders" "[J", Cond.methodLink RX6 68 yX6_isForm, Cond.instanceMethod yX6_isForm, Cond.selects RX6 yX6_isForm yX6_isForm, Cond.initialized RX6, Cond.code yX6_isForm cX6_isForm 2 (some .boolean), Cond.fieldLink RX6 59 "SumFormsModel" "forms" "I", Cond.methodLink RX6 141 yX6_know, Cond.instanceMethod yX6_know, Cond.selects RX6 yX6_know yX6_know, Cond.code yX6_know cX6_know 8 none, Cond.fieldLink RX6 33 "SumFormsModel" "known" "[Z", Cond.fieldLink RX6 42 "SumFormsModel" "many" "[I", Cond.fieldLink RX6 7 "SumFormsModel" "width" "[I", Cond.fieldLink RX6 13 "SumFormsModel" "poly" "[J", Cond.constantLong RX6 118 (3), Cond.fieldLink RX6 36 "SumFormsModel" "factor" "[J", Cond.fieldLink RX6 39 "SumFormsModel" "often" "[I", Cond.constantLong RX6 131 (2), Cond.methodLink RX6 120 yX6_degree, Cond.static yX6_degree, Cond.code yX6_degree cX6_degree 4 (some .int), Cond.methodLink RX6 124 yX6_rest]
def wsX6_order_r2 : List Cond := [Cond.static yX6_rest, Cond.code yX6_rest cX6_rest 8 (some .long), Cond.methodLink RX6 128 yX6_quotient, Cond.static yX6_quotient, Cond.code yX6_quotient cX6_quotient 10 (some .long), Cond.methodLink RX6 133 yX6_findOrder, Cond.instanceMethod yX6_findOrder, Cond.selects RX6 yX6_findOrder yX6_findOrder, Cond.code yX6_findOrder cX6_findOrder 10 (some .long), Cond.methodLink RX6 137 yX6_common, Cond.static yX6_common, Cond.code yX6_common cX6_common 10 (some .long), Cond.methodLink RX6 72 yX6_up, Cond.instanceMethod yX6_up, Cond.selects RX6 yX6_up yX6_up, Cond.code yX6_up cX6_up 8 (some .long), Cond.methodLink RX6 80 yX6_power, Cond.instanceMethod yX6_power, Cond.selects RX6 yX6_power yX6_power, Cond.code yX6_power cX6_power 11 (some .long), Cond.methodLink RX6 76 yX6_times, Cond.instanceMethod yX6_times, Cond.selects RX6 yX6_times yX6_times, Cond.code yX6_times cX6_times 9 (some .long)]
def wsX6_order : List Cond := .code yX6_order cX6_order 2 (some .long) :: ((wsX6_order_r1 ++ wsX6_order_r2) ++ wsX60)
def wsX6_had : List Cond := .code yX6_had cX6_had 6 (some .boolean) :: ([.constantLong RX6 145 (2654435761), .constantLong RX6 147 (65535), .fieldLink RX6 52 "SumFormsModel" "table" "[J", .constant RX6 149 (65535)] ++ wsX60)
def wsX6_clear : List Cond := .code yX6_clear cX6_clear 2 none :: ([.constant RX6 51 (65536), .fieldLink RX6 52 "SumFormsModel" "table" "[J"] ++ wsX60)
def wsX6_distance_r1 : List Cond := [Cond.fieldLink RX6 48 "SumFormsModel" "rests" "[J", Cond.methodLink RX6 68 yX6_isForm, Cond.instanceMethod yX6_isForm, Cond.selects RX6 yX6_isForm yX6_isForm, Cond.initialized RX6, Cond.code yX6_isForm cX6_isForm 2 (some .boolean), Cond.fieldLink RX6 59 "SumFormsModel" "forms" "I", Cond.methodLink RX6 150 yX6_clear, Cond.instanceMethod yX6_clear, Cond.selects RX6 yX6_clear yX6_clear, Cond.code yX6_clear cX6_clear 2 none, Cond.constant RX6 51 (65536), Cond.fieldLink RX6 52 "SumFormsModel" "table" "[J", Cond.methodLink RX6 72 yX6_up, Cond.instanceMethod yX6_up, Cond.selects RX6 yX6_up yX6_up, Cond.code yX6_up cX6_up 8 (some .long), Cond.fieldLink RX6 7 "SumFormsModel" "width" "[I", Cond.fieldLink RX6 13 "SumFormsModel" "poly" "[J", Cond.methodLink RX6 153 yX6_had, Cond.instanceMethod yX6_had, Cond.selects RX6 yX6_had yX6_had, Cond.code yX6_had cX6_had 6 (some .boolean), Cond.constantLong RX6 145 (2654435761)]
def wsX6_distance_r2 : List Cond := [Cond.constantLong RX6 147 (65535), Cond.constant RX6 149 (65535)]
def wsX6_distance : List Cond := .code yX6_distance cX6_distance 7 (some .int) :: ((wsX6_distance_r1 ++ wsX6_distance_r2) ++ wsX60)
def wsX6_added : List Cond := .code yX6_added cX6_added 11 (some .long) :: ([.constantLong RX6 91 (-1), .constantLong RX6 157 (65521), .constantLong RX6 66 (255), .fieldLink RX6 30 "SumFormsModel" "text" "[I", .constantLong RX6 159 (65536), .constantLong RX6 161 (256), .methodLink RX6 87 yX6_isSpan, .instanceMethod yX6_isSpan, .selects RX6 yX6_isSpan yX6_isSpan, .initialized RX6, .code yX6_isSpan cX6_isSpan 3 (some .boolean), .fieldLink RX6 63 "SumFormsModel" "size" "I"] ++ wsX60)
def wsX6_isAdded : List Cond := .code yX6_isAdded cX6_isAdded 7 (some .boolean) :: ([.constantLong RX6 159 (65536), .constantLong RX6 161 (256), .constantLong RX6 157 (65521), .constantLong RX6 66 (255)])
def wsX6_addedJoined : List Cond := .code yX6_addedJoined cX6_addedJoined 20 (some .long) :: ([.constantLong RX6 91 (-1), .constantLong RX6 159 (65536), .constantLong RX6 161 (256), .constantLong RX6 157 (65521), .constantLong RX6 66 (255), .methodLink RX6 163 yX6_isAdded, .static yX6_isAdded, .initialized RX6, .code yX6_isAdded cX6_isAdded 7 (some .boolean), .methodLink RX6 105 yX6_isFar, .static yX6_isFar, .code yX6_isFar cX6_isFar 2 (some .boolean), .constantLong RX6 100 (1152921504606846976)])
theorem inX2 : ∀ w ∈ wsX20, w ∈ lw_tbl := by decide +kernel
abbrev vwCl : List vw_C := [(RX0, TX0, 5), (RX1, TX1, 8), (RX3, TX3, 3), (RX4, TX4, 4), (RX5, TX5, 5), (RX6, TX6, 16)]
end
section
set_option maxRecDepth 20000 in
theorem ggX0_findFor_X2_degree : GoodIn wsX0_findFor wsX2_degree := goodIn_r _ [7] (by decide +kernel) (by decide +kernel)
set_option maxRecDepth 20000 in
theorem gX0_findFor_X2_degree_n34 : GoodIn wsX0_findFor (wsX2_degree) := ggX0_findFor_X2_degree
set_option maxRecDepth 20000 in
theorem ggX0_findFor_X2_product : GoodIn wsX0_findFor wsX2_product := goodIn_r _ [9, 10, 5, 6, 7, 11, 12, 13] (by decide +kernel) (by decide +kernel)
set_option maxRecDepth 20000 in
theorem gX0_findFor_X2_product_n38 : GoodIn wsX0_findFor (wsX2_product) := ggX0_findFor_X2_product
set_option maxRecDepth 20000 in
theorem ggX0_findFor_X2_greatestCommon : GoodIn wsX0_findFor wsX2_greatestCommon := goodIn_r _ [15, 16, 17, 6, 18, 10, 5, 7] (by decide +kernel) (by decide +kernel)
set_option maxRecDepth 20000 in
theorem gX0_findFor_X2_greatestCommon_n42 : GoodIn wsX0_findFor (wsX2_greatestCommon) := ggX0_findFor_X2_greatestCommon
set_option maxRecDepth 20000 in
theorem ggX0_findFor_X0_append : GoodIn wsX0_findFor wsX0_append := goodIn_r _ [23, 2, 24, 25, 47, 48, 49, 50, 51] (by decide +kernel) (by decide +kernel)
set_option maxRecDepth 20000 in
theorem gX0_findFor_X0_append : GoodIn wsX0_findFor (wsV RX0 46 RX0 yX0_append wsX0_append) := goodIn_app (goodIn_of _ (by decide +kernel)) ggX0_findFor_X0_append
set_option maxRecDepth 20000 in
theorem ggX0_findFor_X0_split : GoodIn wsX0_findFor wsX0_split := goodIn_r _ [29, 2, 5, 6, 7, 12, 13, 30, 31, 32, 8, 9, 10, 11, 33, 34, 35, 22, 36, 24, 17, 18, 14, 15, 16, 37, 38, 19, 20, 21, 23, 25, 47, 48, 49, 50, 51] (by decide +kernel) (by decide +kernel)
set_option maxRecDepth 20000 in
theorem gX0_findFor_X0_split : GoodIn wsX0_findFor (wsV RX0 50 RX0 yX0_split wsX0_split) := goodIn_app (goodIn_of _ (by decide +kernel)) ggX0_findFor_X0_split
set_option maxRecDepth 20000 in
theorem ggX0_findFor_X0_sort : GoodIn wsX0_findFor wsX0_sort := goodIn_r _ [42, 2, 24, 47, 48, 49, 50, 51] (by decide +kernel) (by decide +kernel)
set_option maxRecDepth 20000 in
theorem gX0_findFor_X0_sort : GoodIn wsX0_findFor (wsV RX0 54 RX0 yX0_sort wsX0_sort) := goodIn_app (goodIn_of _ (by decide +kernel)) ggX0_findFor_X0_sort
set_option maxRecDepth 20000 in
theorem ggX0_findFor_X0_withoutFactorsFrom : GoodIn wsX0_findFor wsX0_withoutFactorsFrom := goodIn_r _ [46, 2, 25, 24, 17, 6, 18, 10, 5, 7, 37, 38, 47, 48, 49, 50, 51] (by decide +kernel) (by decide +kernel)
set_option maxRecDepth 20000 in
theorem gX0_findFor_X0_withoutFactorsFrom : GoodIn wsX0_findFor (wsV RX0 58 RX0 yX0_withoutFactorsFrom wsX0_withoutFactorsFrom) := goodIn_app (goodIn_of _ (by decide +kernel)) ggX0_findFor_X0_withoutFactorsFrom
set_option maxRecDepth 20000 in
theorem ggX0_findFor_X2_remainder : GoodIn wsX0_findFor wsX2_remainder := goodIn_r _ [18, 10, 5, 6, 7] (by decide +kernel) (by decide +kernel)
set_option maxRecDepth 20000 in
theorem gX0_findFor_X2_remainder_n62 : GoodIn wsX0_findFor (wsX2_remainder) := ggX0_findFor_X2_remainder
set_option maxRecDepth 20000 in
theorem ggX0_split_X2_degree : GoodIn wsX0_split wsX2_degree := goodIn_r _ [4] (by decide +kernel) (by decide +kernel)
set_option maxRecDepth 20000 in
theorem gX0_split_X2_degree_n34 : GoodIn wsX0_split (wsX2_degree) := ggX0_split_X2_degree
set_option maxRecDepth 20000 in
theorem ggX0_split_X2_timesX : GoodIn wsX0_split wsX2_timesX := goodIn_r _ [6] (by decide +kernel) (by decide +kernel)
set_option maxRecDepth 20000 in
theorem gX0_split_X2_timesX_n65 : GoodIn wsX0_split (wsX2_timesX) := ggX0_split_X2_timesX
set_option maxRecDepth 20000 in
theorem ggX0_split_X2_trace : GoodIn wsX0_split wsX2_trace := goodIn_r _ [8, 9, 10, 3, 11, 12, 2, 4, 13, 5, 6] (by decide +kernel) (by decide +kernel)
set_option maxRecDepth 20000 in
theorem gX0_split_X2_trace_n69 : GoodIn wsX0_split (wsX2_trace) := ggX0_split_X2_trace
set_option maxRecDepth 20000 in
theorem ggX0_split_X0_splitOne : GoodIn wsX0_split wsX0_splitOne := goodIn_r _ [18, 19, 20, 3, 21, 12, 2, 4, 22, 23, 24, 25, 26, 27, 28, 29, 17, 30, 1, 31, 32, 33, 34, 35, 36] (by decide +kernel) (by decide +kernel)
set_option maxRecDepth 20000 in
theorem gX0_split_X0_splitOne : GoodIn wsX0_split (wsV RX0 73 RX0 yX0_splitOne wsX0_splitOne) := goodIn_app (goodIn_of _ (by decide +kernel)) ggX0_split_X0_splitOne
set_option maxRecDepth 20000 in
theorem ggX0_splitOne_X2_remainder : GoodIn wsX0_splitOne wsX2_remainder := goodIn_r _ [4, 5, 6, 3, 7] (by decide +kernel) (by decide +kernel)
set_option maxRecDepth 20000 in
theorem gX0_splitOne_X2_remainder_n62 : GoodIn wsX0_splitOne (wsX2_remainder) := ggX0_splitOne_X2_remainder
set_option maxRecDepth 20000 in
theorem ggX0_splitOne_X2_greatestCommon : GoodIn wsX0_splitOne wsX2_greatestCommon := goodIn_r _ [9, 10, 2, 3, 4, 5, 6, 7] (by decide +kernel) (by decide +kernel)
set_option maxRecDepth 20000 in
theorem gX0_splitOne_X2_greatestCommon_n42 : GoodIn wsX0_splitOne (wsX2_greatestCommon) := ggX0_splitOne_X2_greatestCommon
set_option maxRecDepth 20000 in
theorem ggX0_splitOne_X2_quotient : GoodIn wsX0_splitOne wsX2_quotient := goodIn_r _ [12, 5, 6, 3, 7] (by decide +kernel) (by decide +kernel)
set_option maxRecDepth 20000 in
theorem gX0_splitOne_X2_quotient_n77 : GoodIn wsX0_splitOne (wsX2_quotient) := ggX0_splitOne_X2_quotient
set_option maxRecDepth 20000 in
theorem ggX0_splitOne_X0_append : GoodIn wsX0_splitOne wsX0_append := goodIn_r _ [17, 18, 1, 19, 20, 21, 22, 23, 24] (by decide +kernel) (by decide +kernel)
set_option maxRecDepth 20000 in
theorem gX0_splitOne_X0_append : GoodIn wsX0_splitOne (wsV RX0 46 RX0 yX0_append wsX0_append) := goodIn_app (goodIn_of _ (by decide +kernel)) ggX0_splitOne_X0_append
set_option maxRecDepth 20000 in
theorem ggX0_withoutFactorsFrom_X2_remainder : GoodIn wsX0_withoutFactorsFrom wsX2_remainder := goodIn_r _ [6, 7, 8, 5, 9] (by decide +kernel) (by decide +kernel)
set_option maxRecDepth 20000 in
theorem gX0_withoutFactorsFrom_X2_remainder_n62 : GoodIn wsX0_withoutFactorsFrom (wsX2_remainder) := ggX0_withoutFactorsFrom_X2_remainder
set_option maxRecDepth 20000 in
theorem ggX0_withoutFactorsFrom_X2_quotient : GoodIn wsX0_withoutFactorsFrom wsX2_quotient := goodIn_r _ [11, 7, 8, 5, 9] (by decide +kernel) (by decide +kernel)
set_option maxRecDepth 20000 in
theorem gX0_withoutFactorsFrom_X2_quotient_n77 : GoodIn wsX0_withoutFactorsFrom (wsX2_quotient) := ggX0_withoutFactorsFrom_X2_quotient
set_option maxRecDepth 20000 in
theorem ggX0_foundPeriod_X0_periodOf : GoodIn wsX0_foundPeriod wsX0_periodOf := goodIn_r _ [9, 10, 11, 12, 13, 14, 15, 8, 16, 17, 18, 19, 20, 21, 22, 23, 24, 25] (by decide +kernel) (by decide +kernel)
set_option maxRecDepth 20000 in
theorem gX0_foundPeriod_X0_periodOf : GoodIn wsX0_foundPeriod (va_wsS RX0 80 yX0_periodOf wsX0_periodOf) := goodIn_app (goodIn_of _ (by decide +kernel)) ggX0_foundPeriod_X0_periodOf
set_option maxRecDepth 20000 in
theorem ggX0_foundPeriod_X0_leastCommonMultiple : GoodIn wsX0_foundPeriod wsX0_leastCommonMultiple := goodIn_r _ [28] (by decide +kernel) (by decide +kernel)
set_option maxRecDepth 20000 in
theorem gX0_foundPeriod_X0_leastCommonMultiple : GoodIn wsX0_foundPeriod (va_wsS RX0 84 yX0_leastCommonMultiple wsX0_leastCommonMultiple) := goodIn_app (goodIn_of _ (by decide +kernel)) ggX0_foundPeriod_X0_leastCommonMultiple
set_option maxRecDepth 20000 in
theorem ggX0_periodOf_X2_degree : GoodIn wsX0_periodOf wsX2_degree := goodIn_r _ [4] (by decide +kernel) (by decide +kernel)
set_option maxRecDepth 20000 in
theorem gX0_periodOf_X2_degree_n34 : GoodIn wsX0_periodOf (wsX2_degree) := ggX0_periodOf_X2_degree
set_option maxRecDepth 20000 in
theorem ggX0_periodOf_X0_withoutPrime : GoodIn wsX0_periodOf wsX0_withoutPrime := goodIn_r _ [8, 9, 3, 10, 11, 2, 4, 12, 13, 14, 15, 16, 17] (by decide +kernel) (by decide +kernel)
set_option maxRecDepth 20000 in
theorem gX0_periodOf_X0_withoutPrime : GoodIn wsX0_periodOf (va_wsS RX0 90 yX0_withoutPrime wsX0_withoutPrime) := goodIn_app (goodIn_of _ (by decide +kernel)) ggX0_periodOf_X0_withoutPrime
set_option maxRecDepth 20000 in
theorem ggX0_withoutPrime_X2_powerOfX : GoodIn wsX0_withoutPrime wsX2_powerOfX := goodIn_r _ [3, 4, 5, 2, 6, 7, 8, 9, 10, 11, 12] (by decide +kernel) (by decide +kernel)
set_option maxRecDepth 20000 in
theorem gX0_withoutPrime_X2_powerOfX_n93 : GoodIn wsX0_withoutPrime (wsX2_powerOfX) := ggX0_withoutPrime_X2_powerOfX
end
section
set_option maxRecDepth 20000 in
theorem ggX1_init_X0_init : GoodIn wsX1_init wsX0_init := goodIn_r _ [13, 14, 2, 3, 15, 16, 17, 18, 19, 20, 21, 29, 30, 31, 32, 33] (by decide +kernel) (by decide +kernel)
set_option maxRecDepth 20000 in
theorem gX1_init_X0_init_n11 : GoodIn wsX1_init (wsX0_init) := ggX1_init_X0_init
set_option maxRecDepth 20000 in
theorem ggX1_init_X4_init : GoodIn wsX1_init wsX4_init := goodIn_r _ [23, 24, 2, 3, 25, 26, 27, 28, 42, 43, 44, 45] (by decide +kernel) (by decide +kernel)
set_option maxRecDepth 20000 in
theorem gX1_init_X4_init_n20 : GoodIn wsX1_init (wsX4_init) := ggX1_init_X4_init
set_option maxRecDepth 20000 in
theorem ggX1_sumOf_X1_turned : GoodIn wsX1_sumOf wsX1_turned := goodIn_r _ [7] (by decide +kernel) (by decide +kernel)
set_option maxRecDepth 20000 in
theorem gX1_sumOf_X1_turned : GoodIn wsX1_sumOf (va_wsS RX1 46 yX1_turned wsX1_turned) := goodIn_app (goodIn_of _ (by decide +kernel)) ggX1_sumOf_X1_turned
set_option maxRecDepth 20000 in
theorem ggX1_registerOf_X1_turned : GoodIn wsX1_registerOf wsX1_turned := goodIn_r _ [7] (by decide +kernel) (by decide +kernel)
set_option maxRecDepth 20000 in
theorem gX1_registerOf_X1_turned : GoodIn wsX1_registerOf (va_wsS RX1 46 yX1_turned wsX1_turned) := goodIn_app (goodIn_of _ (by decide +kernel)) ggX1_registerOf_X1_turned
set_option maxRecDepth 20000 in
theorem ggX1_behindOctet_X2_timesX : GoodIn wsX1_behindOctet wsX2_timesX := goodIn_r _ [6] (by decide +kernel) (by decide +kernel)
set_option maxRecDepth 20000 in
theorem gX1_behindOctet_X2_timesX_n50 : GoodIn wsX1_behindOctet (wsX2_timesX) := ggX1_behindOctet_X2_timesX
set_option maxRecDepth 20000 in
theorem ggX1_movedByOctets_X2_timesX : GoodIn wsX1_movedByOctets wsX2_timesX := goodIn_r _ [5] (by decide +kernel) (by decide +kernel)
set_option maxRecDepth 20000 in
theorem gX1_movedByOctets_X2_timesX_n50 : GoodIn wsX1_movedByOctets (wsX2_timesX) := ggX1_movedByOctets_X2_timesX
set_option maxRecDepth 20000 in
theorem ggX1_movedByOctets_X2_product : GoodIn wsX1_movedByOctets wsX2_product := goodIn_r _ [7, 8, 9, 4, 10, 11, 3, 5] (by decide +kernel) (by decide +kernel)
set_option maxRecDepth 20000 in
theorem gX1_movedByOctets_X2_product_n56 : GoodIn wsX1_movedByOctets (wsX2_product) := ggX1_movedByOctets_X2_product
set_option maxRecDepth 20000 in
theorem ggX1_octetsBetween_X1_movedDown : GoodIn wsX1_octetsBetween wsX1_movedDown := goodIn_r _ [7, 8, 17, 18, 19, 20, 21, 22, 23, 24] (by decide +kernel) (by decide +kernel)
set_option maxRecDepth 20000 in
theorem gX1_octetsBetween_X1_movedDown : GoodIn wsX1_octetsBetween (wsV RX1 60 RX1 yX1_movedDown wsX1_movedDown) := goodIn_app (goodIn_of _ (by decide +kernel)) ggX1_octetsBetween_X1_movedDown
set_option maxRecDepth 20000 in
theorem ggX1_octetsBetween_X1_turnedByOctets : GoodIn wsX1_octetsBetween wsX1_turnedByOctets := goodIn_r _ [12, 1, 13, 14, 15, 6, 16, 17, 18, 19, 20, 21, 22, 23, 24] (by decide +kernel) (by decide +kernel)
set_option maxRecDepth 20000 in
theorem gX1_octetsBetween_X1_turnedByOctets : GoodIn wsX1_octetsBetween (wsV RX1 64 RX1 yX1_turnedByOctets wsX1_turnedByOctets) := goodIn_app (goodIn_of _ (by decide +kernel)) ggX1_octetsBetween_X1_turnedByOctets
set_option maxRecDepth 20000 in
theorem ggX1_turnedByOctets_X1_turned : GoodIn wsX1_turnedByOctets wsX1_turned := goodIn_r _ [6] (by decide +kernel) (by decide +kernel)
set_option maxRecDepth 20000 in
theorem gX1_turnedByOctets_X1_turned : GoodIn wsX1_turnedByOctets (va_wsS RX1 46 yX1_turned wsX1_turned) := goodIn_app (goodIn_of _ (by decide +kernel)) ggX1_turnedByOctets_X1_turned
end
section
set_option maxRecDepth 20000 in
theorem ggX2_remainder_X2_degree : GoodIn wsX2_remainder wsX2_degree := goodIn_r _ [4] (by decide +kernel) (by decide +kernel)
set_option maxRecDepth 20000 in
theorem gX2_remainder_X2_degree : GoodIn wsX2_remainder (va_wsS RX2 7 yX2_degree wsX2_degree) := goodIn_app (goodIn_of _ (by decide +kernel)) ggX2_remainder_X2_degree
set_option maxRecDepth 20000 in
theorem ggX2_quotient_X2_degree : GoodIn wsX2_quotient wsX2_degree := goodIn_r _ [4] (by decide +kernel) (by decide +kernel)
set_option maxRecDepth 20000 in
theorem gX2_quotient_X2_degree : GoodIn wsX2_quotient (va_wsS RX2 7 yX2_degree wsX2_degree) := goodIn_app (goodIn_of _ (by decide +kernel)) ggX2_quotient_X2_degree
set_option maxRecDepth 20000 in
theorem ggX2_greatestCommon_X2_remainder : GoodIn wsX2_greatestCommon wsX2_remainder := goodIn_r _ [4, 5, 6, 3, 7] (by decide +kernel) (by decide +kernel)
set_option maxRecDepth 20000 in
theorem gX2_greatestCommon_X2_remainder : GoodIn wsX2_greatestCommon (va_wsS RX2 13 yX2_remainder wsX2_remainder) := goodIn_app (goodIn_of _ (by decide +kernel)) ggX2_greatestCommon_X2_remainder
set_option maxRecDepth 20000 in
theorem ggX2_product_X2_degree : GoodIn wsX2_product wsX2_degree := goodIn_r _ [4] (by decide +kernel) (by decide +kernel)
set_option maxRecDepth 20000 in
theorem gX2_product_X2_degree : GoodIn wsX2_product (va_wsS RX2 7 yX2_degree wsX2_degree) := goodIn_app (goodIn_of _ (by decide +kernel)) ggX2_product_X2_degree
set_option maxRecDepth 20000 in
theorem ggX2_product_X2_timesX : GoodIn wsX2_product wsX2_timesX := goodIn_r _ [7] (by decide +kernel) (by decide +kernel)
set_option maxRecDepth 20000 in
theorem gX2_product_X2_timesX : GoodIn wsX2_product (va_wsS RX2 17 yX2_timesX wsX2_timesX) := goodIn_app (goodIn_of _ (by decide +kernel)) ggX2_product_X2_timesX
set_option maxRecDepth 20000 in
theorem ggX2_powerOfX_X2_degree : GoodIn wsX2_powerOfX wsX2_degree := goodIn_r _ [4] (by decide +kernel) (by decide +kernel)
set_option maxRecDepth 20000 in
theorem gX2_powerOfX_X2_degree : GoodIn wsX2_powerOfX (va_wsS RX2 7 yX2_degree wsX2_degree) := goodIn_app (goodIn_of _ (by decide +kernel)) ggX2_powerOfX_X2_degree
set_option maxRecDepth 20000 in
theorem ggX2_powerOfX_X2_product : GoodIn wsX2_powerOfX wsX2_product := goodIn_r _ [7, 1, 2, 3, 4, 8, 9, 10] (by decide +kernel) (by decide +kernel)
set_option maxRecDepth 20000 in
theorem gX2_powerOfX_X2_product : GoodIn wsX2_powerOfX (va_wsS RX2 21 yX2_product wsX2_product) := goodIn_app (goodIn_of _ (by decide +kernel)) ggX2_powerOfX_X2_product
set_option maxRecDepth 20000 in
theorem ggX2_powerOfX_X2_timesX : GoodIn wsX2_powerOfX wsX2_timesX := goodIn_r _ [10] (by decide +kernel) (by decide +kernel)
set_option maxRecDepth 20000 in
theorem gX2_powerOfX_X2_timesX : GoodIn wsX2_powerOfX (va_wsS RX2 17 yX2_timesX wsX2_timesX) := goodIn_app (goodIn_of _ (by decide +kernel)) ggX2_powerOfX_X2_timesX
set_option maxRecDepth 20000 in
theorem ggX2_trace_X2_product : GoodIn wsX2_trace wsX2_product := goodIn_r _ [4, 5, 6, 3, 7, 8, 9, 10] (by decide +kernel) (by decide +kernel)
set_option maxRecDepth 20000 in
theorem gX2_trace_X2_product : GoodIn wsX2_trace (va_wsS RX2 21 yX2_product wsX2_product) := goodIn_app (goodIn_of _ (by decide +kernel)) ggX2_trace_X2_product
end
section
set_option maxRecDepth 20000 in
theorem ggX3_add_X3_slotOf : GoodIn wsX3_add wsX3_slotOf := goodIn_r _ [8, 9, 3, 10, 11, 12] (by decide +kernel) (by decide +kernel)
set_option maxRecDepth 20000 in
theorem gX3_add_X3_slotOf : GoodIn wsX3_add (wsV RX3 22 RX3 yX3_slotOf wsX3_slotOf) := goodIn_app (goodIn_of _ (by decide +kernel)) ggX3_add_X3_slotOf
set_option maxRecDepth 20000 in
theorem ggX3_has_X3_slotOf : GoodIn wsX3_has wsX3_slotOf := goodIn_r _ [6, 7, 1, 8, 9, 10] (by decide +kernel) (by decide +kernel)
set_option maxRecDepth 20000 in
theorem gX3_has_X3_slotOf : GoodIn wsX3_has (wsV RX3 22 RX3 yX3_slotOf wsX3_slotOf) := goodIn_app (goodIn_of _ (by decide +kernel)) ggX3_has_X3_slotOf
set_option maxRecDepth 20000 in
theorem ggX3_hasTwo_X3_has : GoodIn wsX3_hasTwo wsX3_has := goodIn_r _ [7, 8, 9, 10, 11, 6, 12, 13, 14, 15, 16] (by decide +kernel) (by decide +kernel)
set_option maxRecDepth 20000 in
theorem gX3_hasTwo_X3_has : GoodIn wsX3_hasTwo (wsV RX3 26 RX3 yX3_has wsX3_has) := goodIn_app (goodIn_of _ (by decide +kernel)) ggX3_hasTwo_X3_has
end
section
set_option maxRecDepth 20000 in
theorem ggX4_findFor_X2_degree : GoodIn wsX4_findFor wsX2_degree := goodIn_r _ [7] (by decide +kernel) (by decide +kernel)
set_option maxRecDepth 20000 in
theorem gX4_findFor_X2_degree_n25 : GoodIn wsX4_findFor (wsX2_degree) := ggX4_findFor_X2_degree
set_option maxRecDepth 20000 in
theorem ggX4_findFor_X3_clear : GoodIn wsX4_findFor wsX3_clear := goodIn_r _ [11, 12, 13, 41, 42, 43] (by decide +kernel) (by decide +kernel)
set_option maxRecDepth 20000 in
theorem gX4_findFor_X3_clear_n31 : GoodIn wsX4_findFor (wsX3_clear) := ggX4_findFor_X3_clear
set_option maxRecDepth 20000 in
theorem ggX4_findFor_X3_add : GoodIn wsX4_findFor wsX3_add := goodIn_r _ [16, 12, 17, 13, 18, 19, 20, 9, 21, 22, 41, 42, 43] (by decide +kernel) (by decide +kernel)
set_option maxRecDepth 20000 in
theorem gX4_findFor_X3_add_n36 : GoodIn wsX4_findFor (wsX3_add) := ggX4_findFor_X3_add
set_option maxRecDepth 20000 in
theorem ggX4_findFor_X2_timesX : GoodIn wsX4_findFor wsX2_timesX := goodIn_r _ [24] (by decide +kernel) (by decide +kernel)
set_option maxRecDepth 20000 in
theorem gX4_findFor_X2_timesX_n40 : GoodIn wsX4_findFor (wsX2_timesX) := ggX4_findFor_X2_timesX
set_option maxRecDepth 20000 in
theorem ggX4_findFor_X4_lookAt : GoodIn wsX4_findFor wsX4_lookAt := goodIn_r _ [29, 2, 3, 4, 30, 9, 31, 32, 13, 18, 19, 20, 21, 22, 33, 34, 35, 12, 17, 36, 37, 38, 39, 40, 41, 42, 43] (by decide +kernel) (by decide +kernel)
set_option maxRecDepth 20000 in
theorem gX4_findFor_X4_lookAt : GoodIn wsX4_findFor (wsV RX4 44 RX4 yX4_lookAt wsX4_lookAt) := goodIn_app (goodIn_of _ (by decide +kernel)) ggX4_findFor_X4_lookAt
set_option maxRecDepth 20000 in
theorem ggX4_lookAt_X3_has : GoodIn wsX4_lookAt wsX3_has := goodIn_r _ [7, 8, 9, 10, 11, 5, 12, 13, 24, 25, 26] (by decide +kernel) (by decide +kernel)
set_option maxRecDepth 20000 in
theorem gX4_lookAt_X3_has_n48 : GoodIn wsX4_lookAt (wsX3_has) := ggX4_lookAt_X3_has
set_option maxRecDepth 20000 in
theorem ggX4_lookAt_X3_hasTwo : GoodIn wsX4_lookAt wsX3_hasTwo := goodIn_r _ [16, 17, 18, 19, 4, 6, 5, 7, 8, 9, 10, 11, 12, 13, 24, 25, 26] (by decide +kernel) (by decide +kernel)
set_option maxRecDepth 20000 in
theorem gX4_lookAt_X3_hasTwo_n52 : GoodIn wsX4_lookAt (wsX3_hasTwo) := ggX4_lookAt_X3_hasTwo
end
section
set_option maxRecDepth 20000 in
theorem ggX5_init_X3_init : GoodIn wsX5_init wsX3_init := goodIn_r _ [17, 18, 2, 3, 19, 20, 21, 22, 54, 55, 56] (by decide +kernel) (by decide +kernel)
set_option maxRecDepth 20000 in
theorem gX5_init_X3_init_n28 : GoodIn wsX5_init (wsX3_init) := ggX5_init_X3_init
set_option maxRecDepth 20000 in
theorem ggX5_init_X1_init : GoodIn wsX5_init wsX1_init := goodIn_r _ [24, 25, 2, 3, 26, 27, 28, 29, 30, 31, 32, 33, 34, 35, 36, 19, 37, 4, 38, 39, 40, 41, 42, 43, 44, 45, 46, 47, 48, 65, 66, 67, 68, 69, 57, 58, 59, 60, 61, 62, 63, 64, 70, 71, 72, 73] (by decide +kernel) (by decide +kernel)
set_option maxRecDepth 20000 in
theorem gX5_init_X1_init_n33 : GoodIn wsX5_init (wsX1_init) := ggX5_init_X1_init
set_option maxRecDepth 20000 in
theorem ggX5_form_X5_hasBits : GoodIn wsX5_form wsX5_hasBits := goodIn_r _ [6] (by decide +kernel) (by decide +kernel)
set_option maxRecDepth 20000 in
theorem gX5_form_X5_hasBits : GoodIn wsX5_form (va_wsS RX5 34 yX5_hasBits wsX5_hasBits) := goodIn_app (goodIn_of _ (by decide +kernel)) ggX5_form_X5_hasBits
set_option maxRecDepth 20000 in
theorem ggX5_form_X1_become : GoodIn wsX5_form wsX1_become := goodIn_r _ [10, 11, 12, 13, 14, 15, 16, 22, 23, 24, 25, 26, 27, 28, 29] (by decide +kernel) (by decide +kernel)
set_option maxRecDepth 20000 in
theorem gX5_form_X1_become_n38 : GoodIn wsX5_form (wsX1_become) := ggX5_form_X1_become
set_option maxRecDepth 20000 in
theorem ggX5_sum_X5_isForm : GoodIn wsX5_sum wsX5_isForm := goodIn_r _ [8, 9, 33, 34, 35, 36, 37] (by decide +kernel) (by decide +kernel)
set_option maxRecDepth 20000 in
theorem gX5_sum_X5_isForm : GoodIn wsX5_sum (wsV RX5 42 RX5 yX5_isForm wsX5_isForm) := goodIn_app (goodIn_of _ (by decide +kernel)) ggX5_sum_X5_isForm
set_option maxRecDepth 20000 in
theorem ggX5_sum_X5_isPart : GoodIn wsX5_sum wsX5_isPart := goodIn_r _ [13, 14, 33, 34, 35, 36, 37] (by decide +kernel) (by decide +kernel)
set_option maxRecDepth 20000 in
theorem gX5_sum_X5_isPart : GoodIn wsX5_sum (wsV RX5 46 RX5 yX5_isPart wsX5_isPart) := goodIn_app (goodIn_of _ (by decide +kernel)) ggX5_sum_X5_isPart
set_option maxRecDepth 20000 in
theorem ggX5_sum_X1_behindOctet : GoodIn wsX5_sum wsX1_behindOctet := goodIn_r _ [18, 19, 20, 21, 22, 23, 24, 38, 39, 40, 41, 42, 43, 44, 45] (by decide +kernel) (by decide +kernel)
set_option maxRecDepth 20000 in
theorem gX5_sum_X1_behindOctet_n56 : GoodIn wsX5_sum (wsX1_behindOctet) := ggX5_sum_X1_behindOctet
set_option maxRecDepth 20000 in
theorem ggX5_sum_X1_sumOf : GoodIn wsX5_sum wsX1_sumOf := goodIn_r _ [27, 28, 20, 29, 30, 31, 16, 32, 38, 39, 40, 41, 42, 43, 44, 45] (by decide +kernel) (by decide +kernel)
set_option maxRecDepth 20000 in
theorem gX5_sum_X1_sumOf_n60 : GoodIn wsX5_sum (wsX1_sumOf) := ggX5_sum_X1_sumOf
set_option maxRecDepth 20000 in
theorem ggX5_joined_X5_isSum : GoodIn wsX5_joined wsX5_isSum := goodIn_r _ [7, 2, 8, 9, 10, 6, 11, 12, 13, 14, 15, 46, 47, 48, 49, 50, 51, 52, 53, 54, 55, 56, 57, 58] (by decide +kernel) (by decide +kernel)
set_option maxRecDepth 20000 in
theorem gX5_joined_X5_isSum : GoodIn wsX5_joined (wsV RX5 64 RX5 yX5_isSum wsX5_isSum) := goodIn_app (goodIn_of _ (by decide +kernel)) ggX5_joined_X5_isSum
set_option maxRecDepth 20000 in
theorem ggX5_joined_X5_isLength : GoodIn wsX5_joined wsX5_isLength := goodIn_r _ [18, 19] (by decide +kernel) (by decide +kernel)
set_option maxRecDepth 20000 in
theorem gX5_joined_X5_isLength : GoodIn wsX5_joined (va_wsS RX5 68 yX5_isLength wsX5_isLength) := goodIn_app (goodIn_of _ (by decide +kernel)) ggX5_joined_X5_isLength
set_option maxRecDepth 20000 in
theorem ggX5_joined_X1_registerOf : GoodIn wsX5_joined wsX1_registerOf := goodIn_r _ [23, 24, 25, 26, 27, 28, 21, 29, 51, 52, 53, 54, 55, 56, 57, 58] (by decide +kernel) (by decide +kernel)
set_option maxRecDepth 20000 in
theorem gX5_joined_X1_registerOf_n72 : GoodIn wsX5_joined (wsX1_registerOf) := ggX5_joined_X1_registerOf
set_option maxRecDepth 20000 in
theorem ggX5_joined_X1_movedByOctets : GoodIn wsX5_joined wsX1_movedByOctets := goodIn_r _ [32, 33, 26, 34, 35, 36, 37, 38, 39, 40, 41, 42, 51, 52, 53, 54, 55, 56, 57, 58] (by decide +kernel) (by decide +kernel)
set_option maxRecDepth 20000 in
theorem gX5_joined_X1_movedByOctets_n75 : GoodIn wsX5_joined (wsX1_movedByOctets) := ggX5_joined_X1_movedByOctets
set_option maxRecDepth 20000 in
theorem ggX5_joined_X1_sumOf : GoodIn wsX5_joined wsX1_sumOf := goodIn_r _ [45, 24, 26, 25, 27, 28, 21, 29, 51, 52, 53, 54, 55, 56, 57, 58] (by decide +kernel) (by decide +kernel)
set_option maxRecDepth 20000 in
theorem gX5_joined_X1_sumOf_n60 : GoodIn wsX5_joined (wsX1_sumOf) := ggX5_joined_X1_sumOf
set_option maxRecDepth 20000 in
theorem ggX5_zeros_X5_isSum : GoodIn wsX5_zeros wsX5_isSum := goodIn_r _ [7, 2, 8, 9, 10, 6, 11, 12, 13, 14, 15, 46, 47, 48, 49, 50, 51, 52, 53, 54, 55, 56, 57, 58] (by decide +kernel) (by decide +kernel)
set_option maxRecDepth 20000 in
theorem gX5_zeros_X5_isSum : GoodIn wsX5_zeros (wsV RX5 64 RX5 yX5_isSum wsX5_isSum) := goodIn_app (goodIn_of _ (by decide +kernel)) ggX5_zeros_X5_isSum
set_option maxRecDepth 20000 in
theorem ggX5_zeros_X5_isLength : GoodIn wsX5_zeros wsX5_isLength := goodIn_r _ [18, 19] (by decide +kernel) (by decide +kernel)
set_option maxRecDepth 20000 in
theorem gX5_zeros_X5_isLength : GoodIn wsX5_zeros (va_wsS RX5 68 yX5_isLength wsX5_isLength) := goodIn_app (goodIn_of _ (by decide +kernel)) ggX5_zeros_X5_isLength
set_option maxRecDepth 20000 in
theorem ggX5_zeros_X1_registerOf : GoodIn wsX5_zeros wsX1_registerOf := goodIn_r _ [23, 24, 25, 26, 27, 28, 21, 29, 51, 52, 53, 54, 55, 56, 57, 58] (by decide +kernel) (by decide +kernel)
set_option maxRecDepth 20000 in
theorem gX5_zeros_X1_registerOf_n72 : GoodIn wsX5_zeros (wsX1_registerOf) := ggX5_zeros_X1_registerOf
set_option maxRecDepth 20000 in
theorem ggX5_zeros_X1_movedByOctets : GoodIn wsX5_zeros wsX1_movedByOctets := goodIn_r _ [32, 33, 26, 34, 35, 36, 37, 38, 39, 40, 41, 42, 51, 52, 53, 54, 55, 56, 57, 58] (by decide +kernel) (by decide +kernel)
set_option maxRecDepth 20000 in
theorem gX5_zeros_X1_movedByOctets_n75 : GoodIn wsX5_zeros (wsX1_movedByOctets) := ggX5_zeros_X1_movedByOctets
set_option maxRecDepth 20000 in
theorem ggX5_zeros_X1_sumOf : GoodIn wsX5_zeros wsX1_sumOf := goodIn_r _ [45, 24, 26, 25, 27, 28, 21, 29, 51, 52, 53, 54, 55, 56, 57, 58] (by decide +kernel) (by decide +kernel)
set_option maxRecDepth 20000 in
theorem gX5_zeros_X1_sumOf_n60 : GoodIn wsX5_zeros (wsX1_sumOf) := ggX5_zeros_X1_sumOf
set_option maxRecDepth 20000 in
theorem ggX5_changed_X5_isSum : GoodIn wsX5_changed wsX5_isSum := goodIn_r _ [7, 2, 8, 9, 10, 6, 11, 12, 13, 14, 15, 50, 51, 52, 53, 54, 55, 56, 57, 58, 59, 60, 61, 62] (by decide +kernel) (by decide +kernel)
set_option maxRecDepth 20000 in
theorem gX5_changed_X5_isSum : GoodIn wsX5_changed (wsV RX5 64 RX5 yX5_isSum wsX5_isSum) := goodIn_app (goodIn_of _ (by decide +kernel)) ggX5_changed_X5_isSum
set_option maxRecDepth 20000 in
theorem ggX5_changed_X5_isLength : GoodIn wsX5_changed wsX5_isLength := goodIn_r _ [18, 19] (by decide +kernel) (by decide +kernel)
set_option maxRecDepth 20000 in
theorem gX5_changed_X5_isLength : GoodIn wsX5_changed (va_wsS RX5 68 yX5_isLength wsX5_isLength) := goodIn_app (goodIn_of _ (by decide +kernel)) ggX5_changed_X5_isLength
set_option maxRecDepth 20000 in
theorem ggX5_changed_X1_behindOctet : GoodIn wsX5_changed wsX1_behindOctet := goodIn_r _ [23, 24, 25, 26, 27, 28, 29, 55, 56, 57, 58, 59, 60, 61, 62] (by decide +kernel) (by decide +kernel)
set_option maxRecDepth 20000 in
theorem gX5_changed_X1_behindOctet_n56 : GoodIn wsX5_changed (wsX1_behindOctet) := ggX5_changed_X1_behindOctet
set_option maxRecDepth 20000 in
theorem ggX5_changed_X1_movedByOctets : GoodIn wsX5_changed wsX1_movedByOctets := goodIn_r _ [32, 26, 25, 27, 28, 29, 33, 34, 35, 36, 37, 38, 55, 56, 57, 58, 59, 60, 61, 62] (by decide +kernel) (by decide +kernel)
set_option maxRecDepth 20000 in
theorem gX5_changed_X1_movedByOctets_n75 : GoodIn wsX5_changed (wsX1_movedByOctets) := ggX5_changed_X1_movedByOctets
set_option maxRecDepth 20000 in
theorem ggX5_changed_X1_registerOf : GoodIn wsX5_changed wsX1_registerOf := goodIn_r _ [41, 42, 43, 25, 44, 45, 21, 46, 55, 56, 57, 58, 59, 60, 61, 62] (by decide +kernel) (by decide +kernel)
set_option maxRecDepth 20000 in
theorem gX5_changed_X1_registerOf_n72 : GoodIn wsX5_changed (wsX1_registerOf) := ggX5_changed_X1_registerOf
set_option maxRecDepth 20000 in
theorem ggX5_changed_X1_sumOf : GoodIn wsX5_changed wsX1_sumOf := goodIn_r _ [49, 42, 25, 43, 44, 45, 21, 46, 55, 56, 57, 58, 59, 60, 61, 62] (by decide +kernel) (by decide +kernel)
set_option maxRecDepth 20000 in
theorem gX5_changed_X1_sumOf_n60 : GoodIn wsX5_changed (wsX1_sumOf) := ggX5_changed_X1_sumOf
set_option maxRecDepth 20000 in
theorem ggX5_tail_X5_isSum : GoodIn wsX5_tail wsX5_isSum := goodIn_r _ [7, 1, 8, 9, 10, 6, 11, 12, 13, 14, 15, 40, 41, 42, 43, 44, 45, 46, 47, 48, 49, 50, 51, 52] (by decide +kernel) (by decide +kernel)
set_option maxRecDepth 20000 in
theorem gX5_tail_X5_isSum : GoodIn wsX5_tail (wsV RX5 64 RX5 yX5_isSum wsX5_isSum) := goodIn_app (goodIn_of _ (by decide +kernel)) ggX5_tail_X5_isSum
set_option maxRecDepth 20000 in
theorem ggX5_tail_X1_registerOf : GoodIn wsX5_tail wsX1_registerOf := goodIn_r _ [19, 20, 21, 22, 23, 24, 17, 25, 45, 46, 47, 48, 49, 50, 51, 52] (by decide +kernel) (by decide +kernel)
set_option maxRecDepth 20000 in
theorem gX5_tail_X1_registerOf_n72 : GoodIn wsX5_tail (wsX1_registerOf) := ggX5_tail_X1_registerOf
set_option maxRecDepth 20000 in
theorem ggX5_tail_X1_octetsBetween : GoodIn wsX5_tail wsX1_octetsBetween := goodIn_r _ [28, 22, 29, 30, 31, 32, 17, 33, 34, 35, 36, 37, 38, 39, 23, 24, 25, 45, 46, 47, 48, 49, 50, 51, 52] (by decide +kernel) (by decide +kernel)
set_option maxRecDepth 20000 in
theorem gX5_tail_X1_octetsBetween_n82 : GoodIn wsX5_tail (wsX1_octetsBetween) := ggX5_tail_X1_octetsBetween
set_option maxRecDepth 20000 in
theorem ggX5_factors_X5_isForm : GoodIn wsX5_factors wsX5_isForm := goodIn_r _ [6, 7, 57, 58, 59, 60, 61] (by decide +kernel) (by decide +kernel)
set_option maxRecDepth 20000 in
theorem gX5_factors_X5_isForm : GoodIn wsX5_factors (wsV RX5 42 RX5 yX5_isForm wsX5_isForm) := goodIn_app (goodIn_of _ (by decide +kernel)) ggX5_factors_X5_isForm
set_option maxRecDepth 20000 in
theorem ggX5_factors_X0_findFor : GoodIn wsX5_factors wsX0_findFor := goodIn_r _ [11, 12, 13, 14, 15, 16, 17, 18, 19, 20, 21, 22, 23, 24, 25, 26, 27, 28, 29, 30, 31, 32, 9, 33, 34, 35, 36, 37, 38, 39, 40, 41, 42, 43, 44, 45, 46, 47, 48, 49, 50, 51, 52, 53, 54, 55, 56, 70, 71, 72, 73, 74] (by decide +kernel) (by decide +kernel)
set_option maxRecDepth 20000 in
theorem gX5_factors_X0_findFor_n92 : GoodIn wsX5_factors (wsX0_findFor) := ggX5_factors_X0_findFor
set_option maxRecDepth 20000 in
theorem ggX5_factor_X5_isForm : GoodIn wsX5_factor wsX5_isForm := goodIn_r _ [7, 8, 58, 59, 60, 61, 62] (by decide +kernel) (by decide +kernel)
set_option maxRecDepth 20000 in
theorem gX5_factor_X5_isForm : GoodIn wsX5_factor (wsV RX5 42 RX5 yX5_isForm wsX5_isForm) := goodIn_app (goodIn_of _ (by decide +kernel)) ggX5_factor_X5_isForm
set_option maxRecDepth 20000 in
theorem ggX5_factor_X0_findFor : GoodIn wsX5_factor wsX0_findFor := goodIn_r _ [12, 13, 14, 15, 16, 17, 18, 19, 20, 21, 22, 23, 24, 25, 26, 27, 28, 29, 30, 31, 32, 33, 10, 34, 35, 36, 37, 38, 39, 40, 41, 42, 43, 44, 45, 46, 47, 48, 49, 50, 51, 52, 53, 54, 55, 56, 57, 71, 72, 73, 74, 75] (by decide +kernel) (by decide +kernel)
set_option maxRecDepth 20000 in
theorem gX5_factor_X0_findFor_n92 : GoodIn wsX5_factor (wsX0_findFor) := ggX5_factor_X0_findFor
set_option maxRecDepth 20000 in
theorem ggX5_order_X5_isForm : GoodIn wsX5_order wsX5_isForm := goodIn_r _ [7, 8, 73, 74, 75, 76, 77] (by decide +kernel) (by decide +kernel)
set_option maxRecDepth 20000 in
theorem gX5_order_X5_isForm : GoodIn wsX5_order (wsV RX5 42 RX5 yX5_isForm wsX5_isForm) := goodIn_app (goodIn_of _ (by decide +kernel)) ggX5_order_X5_isForm
set_option maxRecDepth 20000 in
theorem ggX5_order_X0_findFor : GoodIn wsX5_order wsX0_findFor := goodIn_r _ [12, 13, 14, 15, 16, 17, 18, 19, 20, 21, 22, 23, 24, 25, 26, 27, 28, 29, 30, 31, 32, 33, 10, 34, 35, 36, 37, 38, 39, 40, 41, 42, 43, 44, 45, 46, 47, 48, 49, 50, 51, 52, 53, 54, 55, 56, 57, 86, 87, 88, 89, 90] (by decide +kernel) (by decide +kernel)
set_option maxRecDepth 20000 in
theorem gX5_order_X0_findFor_n92 : GoodIn wsX5_order (wsX0_findFor) := ggX5_order_X0_findFor
set_option maxRecDepth 20000 in
theorem ggX5_order_X0_foundPeriod : GoodIn wsX5_order wsX0_foundPeriod := goodIn_r _ [60, 15, 14, 35, 36, 16, 61, 62, 10, 63, 64, 17, 18, 19, 65, 66, 67, 68, 69, 22, 43, 20, 21, 23, 24, 25, 70, 71, 72, 86, 87, 88, 89, 90] (by decide +kernel) (by decide +kernel)
set_option maxRecDepth 20000 in
theorem gX5_order_X0_foundPeriod_n108 : GoodIn wsX5_order (wsX0_foundPeriod) := ggX5_order_X0_foundPeriod
set_option maxRecDepth 20000 in
theorem ggX5_distance_X5_isForm : GoodIn wsX5_distance wsX5_isForm := goodIn_r _ [7, 8, 51, 52, 53, 54, 55] (by decide +kernel) (by decide +kernel)
set_option maxRecDepth 20000 in
theorem gX5_distance_X5_isForm : GoodIn wsX5_distance (wsV RX5 42 RX5 yX5_isForm wsX5_isForm) := goodIn_app (goodIn_of _ (by decide +kernel)) ggX5_distance_X5_isForm
set_option maxRecDepth 20000 in
theorem ggX5_distance_X4_findFor : GoodIn wsX5_distance wsX4_findFor := goodIn_r _ [12, 13, 14, 15, 16, 17, 18, 19, 20, 21, 22, 23, 24, 25, 26, 27, 28, 29, 30, 31, 32, 33, 34, 35, 36, 37, 38, 39, 10, 40, 41, 42, 43, 44, 45, 46, 47, 64, 65, 66, 67, 68, 69, 70] (by decide +kernel) (by decide +kernel)
set_option maxRecDepth 20000 in
theorem gX5_distance_X4_findFor_n116 : GoodIn wsX5_distance (wsX4_findFor) := ggX5_distance_X4_findFor
set_option maxRecDepth 20000 in
theorem ggX5_distance_X4_fewest : GoodIn wsX5_distance wsX4_fewest := goodIn_r _ [50, 14, 15, 16, 64, 65, 66, 67] (by decide +kernel) (by decide +kernel)
set_option maxRecDepth 20000 in
theorem gX5_distance_X4_fewest_n121 : GoodIn wsX5_distance (wsX4_fewest) := ggX5_distance_X4_fewest
set_option maxRecDepth 20000 in
theorem ggX5_added_X5_isAdding : GoodIn wsX5_added wsX5_isAdding := goodIn_r _ [8] (by decide +kernel) (by decide +kernel)
set_option maxRecDepth 20000 in
theorem gX5_added_X5_isAdding : GoodIn wsX5_added (va_wsS RX5 125 yX5_isAdding wsX5_isAdding) := goodIn_app (goodIn_of _ (by decide +kernel)) ggX5_added_X5_isAdding
set_option maxRecDepth 20000 in
theorem ggX5_added_X5_isPart : GoodIn wsX5_added wsX5_isPart := goodIn_r _ [12, 13, 18, 19, 20, 21, 22] (by decide +kernel) (by decide +kernel)
set_option maxRecDepth 20000 in
theorem gX5_added_X5_isPart : GoodIn wsX5_added (wsV RX5 46 RX5 yX5_isPart wsX5_isPart) := goodIn_app (goodIn_of _ (by decide +kernel)) ggX5_added_X5_isPart
set_option maxRecDepth 20000 in
theorem ggX5_added_X5_halves : GoodIn wsX5_added wsX5_halves := goodIn_r _ [16, 17] (by decide +kernel) (by decide +kernel)
set_option maxRecDepth 20000 in
theorem gX5_added_X5_halves : GoodIn wsX5_added (va_wsS RX5 134 yX5_halves wsX5_halves) := goodIn_app (goodIn_of _ (by decide +kernel)) ggX5_added_X5_halves
set_option maxRecDepth 20000 in
theorem ggX5_addedJoined_X5_isAdding : GoodIn wsX5_addedJoined wsX5_isAdding := goodIn_r _ [7] (by decide +kernel) (by decide +kernel)
set_option maxRecDepth 20000 in
theorem gX5_addedJoined_X5_isAdding : GoodIn wsX5_addedJoined (va_wsS RX5 125 yX5_isAdding wsX5_isAdding) := goodIn_app (goodIn_of _ (by decide +kernel)) ggX5_addedJoined_X5_isAdding
set_option maxRecDepth 20000 in
theorem ggX5_addedJoined_X5_isAddingSum : GoodIn wsX5_addedJoined wsX5_isAddingSum := goodIn_r _ [10, 2, 11, 12, 6, 13, 14, 15, 16, 17] (by decide +kernel) (by decide +kernel)
set_option maxRecDepth 20000 in
theorem gX5_addedJoined_X5_isAddingSum : GoodIn wsX5_addedJoined (va_wsS RX5 138 yX5_isAddingSum wsX5_isAddingSum) := goodIn_app (goodIn_of _ (by decide +kernel)) ggX5_addedJoined_X5_isAddingSum
set_option maxRecDepth 20000 in
theorem ggX5_addedJoined_X5_isLength : GoodIn wsX5_addedJoined wsX5_isLength := goodIn_r _ [20, 21] (by decide +kernel) (by decide +kernel)
set_option maxRecDepth 20000 in
theorem gX5_addedJoined_X5_isLength : GoodIn wsX5_addedJoined (va_wsS RX5 68 yX5_isLength wsX5_isLength) := goodIn_app (goodIn_of _ (by decide +kernel)) ggX5_addedJoined_X5_isLength
set_option maxRecDepth 20000 in
theorem ggX5_addedJoined_X5_lowHalf : GoodIn wsX5_addedJoined wsX5_lowHalf := goodIn_r _ [13, 14] (by decide +kernel) (by decide +kernel)
set_option maxRecDepth 20000 in
theorem gX5_addedJoined_X5_lowHalf : GoodIn wsX5_addedJoined (va_wsS RX5 141 yX5_lowHalf wsX5_lowHalf) := goodIn_app (goodIn_of _ (by decide +kernel)) ggX5_addedJoined_X5_lowHalf
set_option maxRecDepth 20000 in
theorem ggX5_addedJoined_X5_highHalf : GoodIn wsX5_addedJoined wsX5_highHalf := goodIn_r _ [17, 14] (by decide +kernel) (by decide +kernel)
set_option maxRecDepth 20000 in
theorem gX5_addedJoined_X5_highHalf : GoodIn wsX5_addedJoined (va_wsS RX5 145 yX5_highHalf wsX5_highHalf) := goodIn_app (goodIn_of _ (by decide +kernel)) ggX5_addedJoined_X5_highHalf
set_option maxRecDepth 20000 in
theorem ggX5_addedJoined_X5_halves : GoodIn wsX5_addedJoined wsX5_halves := goodIn_r _ [24, 14] (by decide +kernel) (by decide +kernel)
set_option maxRecDepth 20000 in
theorem gX5_addedJoined_X5_halves : GoodIn wsX5_addedJoined (va_wsS RX5 134 yX5_halves wsX5_halves) := goodIn_app (goodIn_of _ (by decide +kernel)) ggX5_addedJoined_X5_halves
set_option maxRecDepth 20000 in
theorem ggX5_isSum_X5_isForm : GoodIn wsX5_isSum wsX5_isForm := goodIn_r _ [6, 7, 11, 12, 13, 14, 15] (by decide +kernel) (by decide +kernel)
set_option maxRecDepth 20000 in
theorem gX5_isSum_X5_isForm : GoodIn wsX5_isSum (wsV RX5 42 RX5 yX5_isForm wsX5_isForm) := goodIn_app (goodIn_of _ (by decide +kernel)) ggX5_isSum_X5_isForm
set_option maxRecDepth 20000 in
theorem ggX5_isSum_X5_hasBits : GoodIn wsX5_isSum wsX5_hasBits := goodIn_r _ [10] (by decide +kernel) (by decide +kernel)
set_option maxRecDepth 20000 in
theorem gX5_isSum_X5_hasBits : GoodIn wsX5_isSum (va_wsS RX5 34 yX5_hasBits wsX5_hasBits) := goodIn_app (goodIn_of _ (by decide +kernel)) ggX5_isSum_X5_hasBits
set_option maxRecDepth 20000 in
theorem ggX5_isAddingSum_X5_lowHalf : GoodIn wsX5_isAddingSum wsX5_lowHalf := goodIn_r _ [5, 6] (by decide +kernel) (by decide +kernel)
set_option maxRecDepth 20000 in
theorem gX5_isAddingSum_X5_lowHalf : GoodIn wsX5_isAddingSum (va_wsS RX5 141 yX5_lowHalf wsX5_lowHalf) := goodIn_app (goodIn_of _ (by decide +kernel)) ggX5_isAddingSum_X5_lowHalf
set_option maxRecDepth 20000 in
theorem ggX5_isAddingSum_X5_highHalf : GoodIn wsX5_isAddingSum wsX5_highHalf := goodIn_r _ [9, 6] (by decide +kernel) (by decide +kernel)
set_option maxRecDepth 20000 in
theorem gX5_isAddingSum_X5_highHalf : GoodIn wsX5_isAddingSum (va_wsS RX5 145 yX5_highHalf wsX5_highHalf) := goodIn_app (goodIn_of _ (by decide +kernel)) ggX5_isAddingSum_X5_highHalf
end
section
set_option maxRecDepth 20000 in
theorem ggX6_form_X6_isOf : GoodIn wsX6_form wsX6_isOf := goodIn_r _ [12] (by decide +kernel) (by decide +kernel)
set_option maxRecDepth 20000 in
theorem gX6_form_X6_isOf : GoodIn wsX6_form (va_wsS RX6 55 yX6_isOf wsX6_isOf) := goodIn_app (goodIn_of _ (by decide +kernel)) ggX6_form_X6_isOf
set_option maxRecDepth 20000 in
theorem ggX6_isSum_X6_isForm : GoodIn wsX6_isSum wsX6_isForm := goodIn_r _ [6, 7, 11, 12, 13, 14, 15, 16, 17, 18, 19, 20, 21, 22, 23, 24, 25, 26] (by decide +kernel) (by decide +kernel)
set_option maxRecDepth 20000 in
theorem gX6_isSum_X6_isForm : GoodIn wsX6_isSum (wsV RX6 68 RX6 yX6_isForm wsX6_isForm) := goodIn_app (goodIn_of _ (by decide +kernel)) ggX6_isSum_X6_isForm
set_option maxRecDepth 20000 in
theorem ggX6_isSum_X6_isOf : GoodIn wsX6_isSum wsX6_isOf := goodIn_r _ [10] (by decide +kernel) (by decide +kernel)
set_option maxRecDepth 20000 in
theorem gX6_isSum_X6_isOf : GoodIn wsX6_isSum (va_wsS RX6 55 yX6_isOf wsX6_isOf) := goodIn_app (goodIn_of _ (by decide +kernel)) ggX6_isSum_X6_isOf
set_option maxRecDepth 20000 in
theorem ggX6_times_X6_up : GoodIn wsX6_times wsX6_up := goodIn_r _ [6, 1, 7, 8, 9, 10, 11, 12, 13, 14, 15, 16, 17, 18, 19, 20, 21, 22, 23] (by decide +kernel) (by decide +kernel)
set_option maxRecDepth 20000 in
theorem gX6_times_X6_up : GoodIn wsX6_times (wsV RX6 72 RX6 yX6_up wsX6_up) := goodIn_app (goodIn_of _ (by decide +kernel)) ggX6_times_X6_up
set_option maxRecDepth 20000 in
theorem ggX6_power_X6_times : GoodIn wsX6_power wsX6_times := goodIn_r _ [5, 6, 7, 8, 9, 4, 10, 11, 12, 13, 14, 15, 16, 17, 18, 19, 20, 21, 22, 23, 24, 25, 26, 27] (by decide +kernel) (by decide +kernel)
set_option maxRecDepth 20000 in
theorem gX6_power_X6_times : GoodIn wsX6_power (wsV RX6 76 RX6 yX6_times wsX6_times) := goodIn_app (goodIn_of _ (by decide +kernel)) ggX6_power_X6_times
set_option maxRecDepth 20000 in
theorem ggX6_moved_X6_up : GoodIn wsX6_moved wsX6_up := goodIn_r _ [5, 6, 7, 16, 17, 18, 19, 20, 21, 22, 23, 24, 25, 26, 27, 28, 29, 30, 31] (by decide +kernel) (by decide +kernel)
set_option maxRecDepth 20000 in
theorem gX6_moved_X6_up : GoodIn wsX6_moved (wsV RX6 72 RX6 yX6_up wsX6_up) := goodIn_app (goodIn_of _ (by decide +kernel)) ggX6_moved_X6_up
set_option maxRecDepth 20000 in
theorem ggX6_moved_X6_power : GoodIn wsX6_moved wsX6_power := goodIn_r _ [11, 12, 13, 14, 4, 15, 6, 1, 2, 3, 5, 7, 16, 17, 18, 19, 20, 21, 22, 23, 24, 25, 26, 27, 28, 29, 30, 31] (by decide +kernel) (by decide +kernel)
set_option maxRecDepth 20000 in
theorem gX6_moved_X6_power : GoodIn wsX6_moved (wsV RX6 80 RX6 yX6_power wsX6_power) := goodIn_app (goodIn_of _ (by decide +kernel)) ggX6_moved_X6_power
set_option maxRecDepth 20000 in
theorem ggX6_moved_X6_times : GoodIn wsX6_moved wsX6_times := goodIn_r _ [15, 6, 1, 2, 3, 4, 5, 7, 16, 17, 18, 19, 20, 21, 22, 23, 24, 25, 26, 27, 28, 29, 30, 31] (by decide +kernel) (by decide +kernel)
set_option maxRecDepth 20000 in
theorem gX6_moved_X6_times : GoodIn wsX6_moved (wsV RX6 76 RX6 yX6_times wsX6_times) := goodIn_app (goodIn_of _ (by decide +kernel)) ggX6_moved_X6_times
set_option maxRecDepth 20000 in
theorem ggX6_taken_X6_up : GoodIn wsX6_taken wsX6_up := goodIn_r _ [7, 2, 8, 9, 10, 11, 12, 13, 14, 15, 16, 17, 18, 19, 20, 21, 22, 23, 24] (by decide +kernel) (by decide +kernel)
set_option maxRecDepth 20000 in
theorem gX6_taken_X6_up : GoodIn wsX6_taken (wsV RX6 72 RX6 yX6_up wsX6_up) := goodIn_app (goodIn_of _ (by decide +kernel)) ggX6_taken_X6_up
set_option maxRecDepth 20000 in
theorem ggX6_told_X6_turned : GoodIn wsX6_told wsX6_turned := goodIn_r _ [7] (by decide +kernel) (by decide +kernel)
set_option maxRecDepth 20000 in
theorem gX6_told_X6_turned : GoodIn wsX6_told (va_wsS RX6 83 yX6_turned wsX6_turned) := goodIn_app (goodIn_of _ (by decide +kernel)) ggX6_told_X6_turned
set_option maxRecDepth 20000 in
theorem ggX6_register_X6_turned : GoodIn wsX6_register wsX6_turned := goodIn_r _ [7] (by decide +kernel) (by decide +kernel)
set_option maxRecDepth 20000 in
theorem gX6_register_X6_turned : GoodIn wsX6_register (va_wsS RX6 83 yX6_turned wsX6_turned) := goodIn_app (goodIn_of _ (by decide +kernel)) ggX6_register_X6_turned
set_option maxRecDepth 20000 in
theorem ggX6_sum_X6_isForm : GoodIn wsX6_sum wsX6_isForm := goodIn_r _ [8, 9, 35, 36, 37, 38, 39, 40, 41, 42, 43, 44, 45, 46, 47, 48, 49, 50] (by decide +kernel) (by decide +kernel)
set_option maxRecDepth 20000 in
theorem gX6_sum_X6_isForm : GoodIn wsX6_sum (wsV RX6 68 RX6 yX6_isForm wsX6_isForm) := goodIn_app (goodIn_of _ (by decide +kernel)) ggX6_sum_X6_isForm
set_option maxRecDepth 20000 in
theorem ggX6_sum_X6_isSpan : GoodIn wsX6_sum wsX6_isSpan := goodIn_r _ [13, 14, 35, 36, 37, 38, 39, 40, 41, 42, 43, 44, 45, 46, 47, 48, 49, 50] (by decide +kernel) (by decide +kernel)
set_option maxRecDepth 20000 in
theorem gX6_sum_X6_isSpan : GoodIn wsX6_sum (wsV RX6 87 RX6 yX6_isSpan wsX6_isSpan) := goodIn_app (goodIn_of _ (by decide +kernel)) ggX6_sum_X6_isSpan
set_option maxRecDepth 20000 in
theorem ggX6_sum_X6_taken : GoodIn wsX6_sum wsX6_taken := goodIn_r _ [18, 19, 20, 21, 22, 23, 7, 24, 25, 35, 36, 37, 38, 39, 40, 41, 42, 43, 44, 45, 46, 47, 48, 49, 50] (by decide +kernel) (by decide +kernel)
set_option maxRecDepth 20000 in
theorem gX6_sum_X6_taken : GoodIn wsX6_sum (wsV RX6 93 RX6 yX6_taken wsX6_taken) := goodIn_app (goodIn_of _ (by decide +kernel)) ggX6_sum_X6_taken
set_option maxRecDepth 20000 in
theorem ggX6_sum_X6_told : GoodIn wsX6_sum wsX6_told := goodIn_r _ [29, 30, 20, 31, 32, 33, 7, 34, 35, 36, 37, 38, 39, 40, 41, 42, 43, 44, 45, 46, 47, 48, 49, 50] (by decide +kernel) (by decide +kernel)
set_option maxRecDepth 20000 in
theorem gX6_sum_X6_told : GoodIn wsX6_sum (wsV RX6 97 RX6 yX6_told wsX6_told) := goodIn_app (goodIn_of _ (by decide +kernel)) ggX6_sum_X6_told
set_option maxRecDepth 20000 in
theorem ggX6_joined_X6_isSum : GoodIn wsX6_joined wsX6_isSum := goodIn_r _ [7, 8, 9, 10, 11, 6, 12, 13, 14, 15, 16, 51, 52, 53, 54, 55, 56, 57, 58, 59, 60, 61, 62, 63, 64, 65, 66] (by decide +kernel) (by decide +kernel)
set_option maxRecDepth 20000 in
theorem gX6_joined_X6_isSum : GoodIn wsX6_joined (wsV RX6 102 RX6 yX6_isSum wsX6_isSum) := goodIn_app (goodIn_of _ (by decide +kernel)) ggX6_joined_X6_isSum
set_option maxRecDepth 20000 in
theorem ggX6_joined_X6_isFar : GoodIn wsX6_joined wsX6_isFar := goodIn_r _ [19, 20] (by decide +kernel) (by decide +kernel)
set_option maxRecDepth 20000 in
theorem gX6_joined_X6_isFar : GoodIn wsX6_joined (va_wsS RX6 105 yX6_isFar wsX6_isFar) := goodIn_app (goodIn_of _ (by decide +kernel)) ggX6_joined_X6_isFar
set_option maxRecDepth 20000 in
theorem ggX6_joined_X6_register : GoodIn wsX6_joined wsX6_register := goodIn_r _ [24, 25, 26, 8, 27, 28, 6, 29, 51, 52, 53, 54, 55, 56, 57, 58, 59, 60, 61, 62, 63, 64, 65, 66] (by decide +kernel) (by decide +kernel)
set_option maxRecDepth 20000 in
theorem gX6_joined_X6_register : GoodIn wsX6_joined (wsV RX6 109 RX6 yX6_register wsX6_register) := goodIn_app (goodIn_of _ (by decide +kernel)) ggX6_joined_X6_register
set_option maxRecDepth 20000 in
theorem ggX6_joined_X6_moved : GoodIn wsX6_joined wsX6_moved := goodIn_r _ [33, 34, 35, 36, 6, 37, 8, 38, 39, 40, 41, 42, 43, 44, 45, 46, 51, 52, 53, 54, 55, 56, 57, 58, 59, 60, 61, 62, 63, 64, 65, 66] (by decide +kernel) (by decide +kernel)
set_option maxRecDepth 20000 in
theorem gX6_joined_X6_moved : GoodIn wsX6_joined (wsV RX6 112 RX6 yX6_moved wsX6_moved) := goodIn_app (goodIn_of _ (by decide +kernel)) ggX6_joined_X6_moved
set_option maxRecDepth 20000 in
theorem ggX6_joined_X6_told : GoodIn wsX6_joined wsX6_told := goodIn_r _ [50, 26, 8, 25, 27, 28, 6, 29, 51, 52, 53, 54, 55, 56, 57, 58, 59, 60, 61, 62, 63, 64, 65, 66] (by decide +kernel) (by decide +kernel)
set_option maxRecDepth 20000 in
theorem gX6_joined_X6_told : GoodIn wsX6_joined (wsV RX6 97 RX6 yX6_told wsX6_told) := goodIn_app (goodIn_of _ (by decide +kernel)) ggX6_joined_X6_told
set_option maxRecDepth 20000 in
theorem ggX6_zeros_X6_isSum : GoodIn wsX6_zeros wsX6_isSum := goodIn_r _ [6, 7, 8, 9, 10, 5, 11, 12, 13, 14, 15, 50, 51, 52, 53, 54, 55, 56, 57, 58, 59, 60, 61, 62, 63, 64, 65] (by decide +kernel) (by decide +kernel)
set_option maxRecDepth 20000 in
theorem gX6_zeros_X6_isSum : GoodIn wsX6_zeros (wsV RX6 102 RX6 yX6_isSum wsX6_isSum) := goodIn_app (goodIn_of _ (by decide +kernel)) ggX6_zeros_X6_isSum
set_option maxRecDepth 20000 in
theorem ggX6_zeros_X6_isFar : GoodIn wsX6_zeros wsX6_isFar := goodIn_r _ [18, 19] (by decide +kernel) (by decide +kernel)
set_option maxRecDepth 20000 in
theorem gX6_zeros_X6_isFar : GoodIn wsX6_zeros (va_wsS RX6 105 yX6_isFar wsX6_isFar) := goodIn_app (goodIn_of _ (by decide +kernel)) ggX6_zeros_X6_isFar
set_option maxRecDepth 20000 in
theorem ggX6_zeros_X6_register : GoodIn wsX6_zeros wsX6_register := goodIn_r _ [23, 24, 25, 7, 26, 27, 5, 28, 50, 51, 52, 53, 54, 55, 56, 57, 58, 59, 60, 61, 62, 63, 64, 65] (by decide +kernel) (by decide +kernel)
set_option maxRecDepth 20000 in
theorem gX6_zeros_X6_register : GoodIn wsX6_zeros (wsV RX6 109 RX6 yX6_register wsX6_register) := goodIn_app (goodIn_of _ (by decide +kernel)) ggX6_zeros_X6_register
set_option maxRecDepth 20000 in
theorem ggX6_zeros_X6_moved : GoodIn wsX6_zeros wsX6_moved := goodIn_r _ [32, 33, 34, 35, 5, 36, 7, 37, 38, 39, 40, 41, 42, 43, 44, 45, 50, 51, 52, 53, 54, 55, 56, 57, 58, 59, 60, 61, 62, 63, 64, 65] (by decide +kernel) (by decide +kernel)
set_option maxRecDepth 20000 in
theorem gX6_zeros_X6_moved : GoodIn wsX6_zeros (wsV RX6 112 RX6 yX6_moved wsX6_moved) := goodIn_app (goodIn_of _ (by decide +kernel)) ggX6_zeros_X6_moved
set_option maxRecDepth 20000 in
theorem ggX6_zeros_X6_told : GoodIn wsX6_zeros wsX6_told := goodIn_r _ [49, 25, 7, 24, 26, 27, 5, 28, 50, 51, 52, 53, 54, 55, 56, 57, 58, 59, 60, 61, 62, 63, 64, 65] (by decide +kernel) (by decide +kernel)
set_option maxRecDepth 20000 in
theorem gX6_zeros_X6_told : GoodIn wsX6_zeros (wsV RX6 97 RX6 yX6_told wsX6_told) := goodIn_app (goodIn_of _ (by decide +kernel)) ggX6_zeros_X6_told
set_option maxRecDepth 20000 in
theorem ggX6_changed_X6_isSum : GoodIn wsX6_changed wsX6_isSum := goodIn_r _ [6, 7, 8, 9, 10, 5, 11, 12, 13, 14, 15, 55, 56, 57, 58, 59, 60, 61, 62, 63, 64, 65, 66, 67, 68, 69, 70] (by decide +kernel) (by decide +kernel)
set_option maxRecDepth 20000 in
theorem gX6_changed_X6_isSum : GoodIn wsX6_changed (wsV RX6 102 RX6 yX6_isSum wsX6_isSum) := goodIn_app (goodIn_of _ (by decide +kernel)) ggX6_changed_X6_isSum
set_option maxRecDepth 20000 in
theorem ggX6_changed_X6_isFar : GoodIn wsX6_changed wsX6_isFar := goodIn_r _ [18, 19] (by decide +kernel) (by decide +kernel)
set_option maxRecDepth 20000 in
theorem gX6_changed_X6_isFar : GoodIn wsX6_changed (va_wsS RX6 105 yX6_isFar wsX6_isFar) := goodIn_app (goodIn_of _ (by decide +kernel)) ggX6_changed_X6_isFar
set_option maxRecDepth 20000 in
theorem ggX6_changed_X6_register : GoodIn wsX6_changed wsX6_register := goodIn_r _ [23, 24, 25, 7, 26, 27, 5, 28, 55, 56, 57, 58, 59, 60, 61, 62, 63, 64, 65, 66, 67, 68, 69, 70] (by decide +kernel) (by decide +kernel)
set_option maxRecDepth 20000 in
theorem gX6_changed_X6_register : GoodIn wsX6_changed (wsV RX6 109 RX6 yX6_register wsX6_register) := goodIn_app (goodIn_of _ (by decide +kernel)) ggX6_changed_X6_register
set_option maxRecDepth 20000 in
theorem ggX6_changed_X6_taken : GoodIn wsX6_changed wsX6_taken := goodIn_r _ [32, 33, 7, 34, 35, 36, 5, 37, 38, 55, 56, 57, 58, 59, 60, 61, 62, 63, 64, 65, 66, 67, 68, 69, 70] (by decide +kernel) (by decide +kernel)
set_option maxRecDepth 20000 in
theorem gX6_changed_X6_taken : GoodIn wsX6_changed (wsV RX6 93 RX6 yX6_taken wsX6_taken) := goodIn_app (goodIn_of _ (by decide +kernel)) ggX6_changed_X6_taken
set_option maxRecDepth 20000 in
theorem ggX6_changed_X6_moved : GoodIn wsX6_changed wsX6_moved := goodIn_r _ [42, 34, 35, 36, 5, 37, 7, 38, 43, 44, 45, 46, 47, 48, 49, 50, 55, 56, 57, 58, 59, 60, 61, 62, 63, 64, 65, 66, 67, 68, 69, 70] (by decide +kernel) (by decide +kernel)
set_option maxRecDepth 20000 in
theorem gX6_changed_X6_moved : GoodIn wsX6_changed (wsV RX6 112 RX6 yX6_moved wsX6_moved) := goodIn_app (goodIn_of _ (by decide +kernel)) ggX6_changed_X6_moved
set_option maxRecDepth 20000 in
theorem ggX6_changed_X6_told : GoodIn wsX6_changed wsX6_told := goodIn_r _ [54, 25, 7, 24, 26, 27, 5, 28, 55, 56, 57, 58, 59, 60, 61, 62, 63, 64, 65, 66, 67, 68, 69, 70] (by decide +kernel) (by decide +kernel)
set_option maxRecDepth 20000 in
theorem gX6_changed_X6_told : GoodIn wsX6_changed (wsV RX6 97 RX6 yX6_told wsX6_told) := goodIn_app (goodIn_of _ (by decide +kernel)) ggX6_changed_X6_told
set_option maxRecDepth 20000 in
theorem ggX6_tail_X6_isSum : GoodIn wsX6_tail wsX6_isSum := goodIn_r _ [9, 1, 10, 11, 12, 8, 13, 14, 15, 16, 17, 32, 33, 34, 35, 36, 37, 38, 39, 40, 41, 42, 43, 44, 45, 46, 47] (by decide +kernel) (by decide +kernel)
set_option maxRecDepth 20000 in
theorem gX6_tail_X6_isSum : GoodIn wsX6_tail (wsV RX6 102 RX6 yX6_isSum wsX6_isSum) := goodIn_app (goodIn_of _ (by decide +kernel)) ggX6_tail_X6_isSum
set_option maxRecDepth 20000 in
theorem ggX6_tail_X6_register : GoodIn wsX6_tail wsX6_register := goodIn_r _ [21, 22, 23, 1, 24, 25, 8, 26, 32, 33, 34, 35, 36, 37, 38, 39, 40, 41, 42, 43, 44, 45, 46, 47] (by decide +kernel) (by decide +kernel)
set_option maxRecDepth 20000 in
theorem gX6_tail_X6_register : GoodIn wsX6_tail (wsV RX6 109 RX6 yX6_register wsX6_register) := goodIn_app (goodIn_of _ (by decide +kernel)) ggX6_tail_X6_register
set_option maxRecDepth 20000 in
theorem ggX6_tail_X6_down : GoodIn wsX6_tail wsX6_down := goodIn_r _ [30, 1, 31, 32, 33, 34, 35, 36, 37, 38, 39, 40, 41, 42, 43, 44, 45, 46, 47] (by decide +kernel) (by decide +kernel)
set_option maxRecDepth 20000 in
theorem gX6_tail_X6_down : GoodIn wsX6_tail (wsV RX6 115 RX6 yX6_down wsX6_down) := goodIn_app (goodIn_of _ (by decide +kernel)) ggX6_tail_X6_down
set_option maxRecDepth 20000 in
theorem ggX6_tail_X6_turned : GoodIn wsX6_tail wsX6_turned := goodIn_r _ [26] (by decide +kernel) (by decide +kernel)
set_option maxRecDepth 20000 in
theorem gX6_tail_X6_turned : GoodIn wsX6_tail (va_wsS RX6 83 yX6_turned wsX6_turned) := goodIn_app (goodIn_of _ (by decide +kernel)) ggX6_tail_X6_turned
set_option maxRecDepth 20000 in
theorem ggX6_know_X6_degree : GoodIn wsX6_know wsX6_degree := goodIn_r _ [13] (by decide +kernel) (by decide +kernel)
set_option maxRecDepth 20000 in
theorem gX6_know_X6_degree : GoodIn wsX6_know (va_wsS RX6 120 yX6_degree wsX6_degree) := goodIn_app (goodIn_of _ (by decide +kernel)) ggX6_know_X6_degree
set_option maxRecDepth 20000 in
theorem ggX6_know_X6_rest : GoodIn wsX6_know wsX6_rest := goodIn_r _ [16] (by decide +kernel) (by decide +kernel)
set_option maxRecDepth 20000 in
theorem gX6_know_X6_rest : GoodIn wsX6_know (va_wsS RX6 124 yX6_rest wsX6_rest) := goodIn_app (goodIn_of _ (by decide +kernel)) ggX6_know_X6_rest
set_option maxRecDepth 20000 in
theorem ggX6_know_X6_quotient : GoodIn wsX6_know wsX6_quotient := goodIn_r _ [19] (by decide +kernel) (by decide +kernel)
set_option maxRecDepth 20000 in
theorem gX6_know_X6_quotient : GoodIn wsX6_know (va_wsS RX6 128 yX6_quotient wsX6_quotient) := goodIn_app (goodIn_of _ (by decide +kernel)) ggX6_know_X6_quotient
set_option maxRecDepth 20000 in
theorem ggX6_know_X6_findOrder : GoodIn wsX6_know wsX6_findOrder := goodIn_r _ [23, 2, 6, 7, 8, 10, 11, 12, 13, 24, 25, 26, 27, 28, 29, 30, 3, 4, 31, 32, 33, 34, 35, 36, 37, 38, 39, 40, 41, 42, 43, 44, 45, 46, 47, 48, 49, 50, 51, 52, 53, 54] (by decide +kernel) (by decide +kernel)
set_option maxRecDepth 20000 in
theorem gX6_know_X6_findOrder : GoodIn wsX6_know (wsV RX6 133 RX6 yX6_findOrder wsX6_findOrder) := goodIn_app (goodIn_of _ (by decide +kernel)) ggX6_know_X6_findOrder
set_option maxRecDepth 20000 in
theorem ggX6_findOrder_X6_degree : GoodIn wsX6_findOrder wsX6_degree := goodIn_r _ [8] (by decide +kernel) (by decide +kernel)
set_option maxRecDepth 20000 in
theorem gX6_findOrder_X6_degree : GoodIn wsX6_findOrder (va_wsS RX6 120 yX6_degree wsX6_degree) := goodIn_app (goodIn_of _ (by decide +kernel)) ggX6_findOrder_X6_degree
set_option maxRecDepth 20000 in
theorem ggX6_findOrder_X6_common : GoodIn wsX6_findOrder wsX6_common := goodIn_r _ [11] (by decide +kernel) (by decide +kernel)
set_option maxRecDepth 20000 in
theorem gX6_findOrder_X6_common : GoodIn wsX6_findOrder (va_wsS RX6 137 yX6_common wsX6_common) := goodIn_app (goodIn_of _ (by decide +kernel)) ggX6_findOrder_X6_common
set_option maxRecDepth 20000 in
theorem ggX6_findOrder_X6_up : GoodIn wsX6_findOrder wsX6_up := goodIn_r _ [15, 16, 17, 26, 27, 28, 29, 30, 31, 32, 33, 34, 35, 36, 37, 38, 39, 40, 41] (by decide +kernel) (by decide +kernel)
set_option maxRecDepth 20000 in
theorem gX6_findOrder_X6_up : GoodIn wsX6_findOrder (wsV RX6 72 RX6 yX6_up wsX6_up) := goodIn_app (goodIn_of _ (by decide +kernel)) ggX6_findOrder_X6_up
set_option maxRecDepth 20000 in
theorem ggX6_findOrder_X6_power : GoodIn wsX6_findOrder wsX6_power := goodIn_r _ [21, 22, 23, 24, 7, 25, 16, 12, 13, 14, 15, 17, 26, 27, 28, 29, 30, 31, 32, 33, 34, 35, 36, 37, 38, 39, 40, 41] (by decide +kernel) (by decide +kernel)
set_option maxRecDepth 20000 in
theorem gX6_findOrder_X6_power : GoodIn wsX6_findOrder (wsV RX6 80 RX6 yX6_power wsX6_power) := goodIn_app (goodIn_of _ (by decide +kernel)) ggX6_findOrder_X6_power
set_option maxRecDepth 20000 in
theorem ggX6_factors_X6_isForm : GoodIn wsX6_factors wsX6_isForm := goodIn_r _ [6, 7, 48, 49, 50, 51, 52, 53, 54, 55, 56, 57, 58, 59, 60, 61, 62, 63] (by decide +kernel) (by decide +kernel)
set_option maxRecDepth 20000 in
theorem gX6_factors_X6_isForm : GoodIn wsX6_factors (wsV RX6 68 RX6 yX6_isForm wsX6_isForm) := goodIn_app (goodIn_of _ (by decide +kernel)) ggX6_factors_X6_isForm
set_option maxRecDepth 20000 in
theorem ggX6_factors_X6_know : GoodIn wsX6_factors wsX6_know := goodIn_r _ [11, 12, 1, 13, 14, 15, 16, 17, 18, 19, 20, 21, 5, 22, 23, 24, 25, 26, 27, 28, 29, 30, 31, 32, 33, 34, 35, 36, 37, 38, 39, 40, 41, 42, 43, 44, 45, 46, 47, 48, 49, 50, 51, 52, 53, 54, 55, 56, 57, 58, 59, 60, 61, 62, 63] (by decide +kernel) (by decide +kernel)
set_option maxRecDepth 20000 in
theorem gX6_factors_X6_know : GoodIn wsX6_factors (wsV RX6 141 RX6 yX6_know wsX6_know) := goodIn_app (goodIn_of _ (by decide +kernel)) ggX6_factors_X6_know
set_option maxRecDepth 20000 in
theorem ggX6_factor_X6_isForm : GoodIn wsX6_factor wsX6_isForm := goodIn_r _ [9, 10, 49, 50, 51, 52, 53, 54, 55, 56, 57, 58, 59, 60, 61, 62, 63, 64] (by decide +kernel) (by decide +kernel)
set_option maxRecDepth 20000 in
theorem gX6_factor_X6_isForm : GoodIn wsX6_factor (wsV RX6 68 RX6 yX6_isForm wsX6_isForm) := goodIn_app (goodIn_of _ (by decide +kernel)) ggX6_factor_X6_isForm
set_option maxRecDepth 20000 in
theorem ggX6_factor_X6_know : GoodIn wsX6_factor wsX6_know := goodIn_r _ [14, 15, 2, 16, 17, 18, 3, 4, 19, 20, 21, 22, 8, 23, 24, 25, 26, 27, 28, 29, 30, 31, 32, 33, 34, 35, 36, 37, 38, 39, 40, 41, 42, 43, 44, 45, 46, 47, 48, 49, 50, 51, 52, 53, 54, 55, 56, 57, 58, 59, 60, 61, 62, 63, 64] (by decide +kernel) (by decide +kernel)
set_option maxRecDepth 20000 in
theorem gX6_factor_X6_know : GoodIn wsX6_factor (wsV RX6 141 RX6 yX6_know wsX6_know) := goodIn_app (goodIn_of _ (by decide +kernel)) ggX6_factor_X6_know
set_option maxRecDepth 20000 in
theorem ggX6_order_X6_isForm : GoodIn wsX6_order wsX6_isForm := goodIn_r _ [7, 8, 49, 50, 51, 52, 53, 54, 55, 56, 57, 58, 59, 60, 61, 62, 63, 64] (by decide +kernel) (by decide +kernel)
set_option maxRecDepth 20000 in
theorem gX6_order_X6_isForm : GoodIn wsX6_order (wsV RX6 68 RX6 yX6_isForm wsX6_isForm) := goodIn_app (goodIn_of _ (by decide +kernel)) ggX6_order_X6_isForm
set_option maxRecDepth 20000 in
theorem ggX6_order_X6_know : GoodIn wsX6_order wsX6_know := goodIn_r _ [12, 13, 14, 15, 16, 17, 18, 19, 20, 2, 21, 22, 6, 23, 24, 25, 26, 27, 28, 29, 30, 31, 32, 33, 34, 35, 36, 37, 38, 39, 40, 41, 42, 43, 44, 45, 46, 47, 48, 49, 50, 51, 52, 53, 54, 55, 56, 57, 58, 59, 60, 61, 62, 63, 64] (by decide +kernel) (by decide +kernel)
set_option maxRecDepth 20000 in
theorem gX6_order_X6_know : GoodIn wsX6_order (wsV RX6 141 RX6 yX6_know wsX6_know) := goodIn_app (goodIn_of _ (by decide +kernel)) ggX6_order_X6_know
set_option maxRecDepth 20000 in
theorem ggX6_distance_X6_isForm : GoodIn wsX6_distance wsX6_isForm := goodIn_r _ [6, 7, 27, 28, 29, 30, 31, 32, 33, 34, 35, 36, 37, 38, 39, 40, 41, 42] (by decide +kernel) (by decide +kernel)
set_option maxRecDepth 20000 in
theorem gX6_distance_X6_isForm : GoodIn wsX6_distance (wsV RX6 68 RX6 yX6_isForm wsX6_isForm) := goodIn_app (goodIn_of _ (by decide +kernel)) ggX6_distance_X6_isForm
set_option maxRecDepth 20000 in
theorem ggX6_distance_X6_clear : GoodIn wsX6_distance wsX6_clear := goodIn_r _ [11, 12, 13, 27, 28, 29, 30, 31, 32, 33, 34, 35, 36, 37, 38, 39, 40, 41, 42] (by decide +kernel) (by decide +kernel)
set_option maxRecDepth 20000 in
theorem gX6_distance_X6_clear : GoodIn wsX6_distance (wsV RX6 150 RX6 yX6_clear wsX6_clear) := goodIn_app (goodIn_of _ (by decide +kernel)) ggX6_distance_X6_clear
set_option maxRecDepth 20000 in
theorem ggX6_distance_X6_up : GoodIn wsX6_distance wsX6_up := goodIn_r _ [17, 18, 19, 27, 28, 29, 30, 31, 32, 33, 34, 35, 36, 37, 38, 39, 40, 41, 42] (by decide +kernel) (by decide +kernel)
set_option maxRecDepth 20000 in
theorem gX6_distance_X6_up : GoodIn wsX6_distance (wsV RX6 72 RX6 yX6_up wsX6_up) := goodIn_app (goodIn_of _ (by decide +kernel)) ggX6_distance_X6_up
set_option maxRecDepth 20000 in
theorem ggX6_distance_X6_had : GoodIn wsX6_distance wsX6_had := goodIn_r _ [23, 24, 25, 13, 26, 27, 28, 29, 30, 31, 32, 33, 34, 35, 36, 37, 38, 39, 40, 41, 42] (by decide +kernel) (by decide +kernel)
set_option maxRecDepth 20000 in
theorem gX6_distance_X6_had : GoodIn wsX6_distance (wsV RX6 153 RX6 yX6_had wsX6_had) := goodIn_app (goodIn_of _ (by decide +kernel)) ggX6_distance_X6_had
set_option maxRecDepth 20000 in
theorem ggX6_added_X6_isSpan : GoodIn wsX6_added wsX6_isSpan := goodIn_r _ [11, 12, 13, 14, 15, 16, 17, 18, 19, 20, 21, 22, 23, 24, 25, 26, 27, 28] (by decide +kernel) (by decide +kernel)
set_option maxRecDepth 20000 in
theorem gX6_added_X6_isSpan : GoodIn wsX6_added (wsV RX6 87 RX6 yX6_isSpan wsX6_isSpan) := goodIn_app (goodIn_of _ (by decide +kernel)) ggX6_added_X6_isSpan
set_option maxRecDepth 20000 in
theorem ggX6_addedJoined_X6_isAdded : GoodIn wsX6_addedJoined wsX6_isAdded := goodIn_r _ [9, 2, 3, 4, 5] (by decide +kernel) (by decide +kernel)
set_option maxRecDepth 20000 in
theorem gX6_addedJoined_X6_isAdded : GoodIn wsX6_addedJoined (va_wsS RX6 163 yX6_isAdded wsX6_isAdded) := goodIn_app (goodIn_of _ (by decide +kernel)) ggX6_addedJoined_X6_isAdded
set_option maxRecDepth 20000 in
theorem ggX6_addedJoined_X6_isFar : GoodIn wsX6_addedJoined wsX6_isFar := goodIn_r _ [12, 13] (by decide +kernel) (by decide +kernel)
set_option maxRecDepth 20000 in
theorem gX6_addedJoined_X6_isFar : GoodIn wsX6_addedJoined (va_wsS RX6 105 yX6_isFar wsX6_isFar) := goodIn_app (goodIn_of _ (by decide +kernel)) ggX6_addedJoined_X6_isFar
end
section
theorem dX0_init_0 : decode cX0_init 0 = .ok (.aload_n 0, 1) := by decide +kernel
theorem dX0_init_1 : decode cX0_init 1 = .ok (.invokespecial 3, 3) := by decide +kernel
theorem dX0_init_4 : decode cX0_init 4 = .ok (.aload_n 0, 1) := by decide +kernel
theorem dX0_init_5 : decode cX0_init 5 = .ok (.bipush 9, 2) := by decide +kernel
theorem dX0_init_7 : decode cX0_init 7 = .ok (.newarray .long, 2) := by decide +kernel
theorem dX0_init_9 : decode cX0_init 9 = .ok (.putfield 11, 3) := by decide +kernel
theorem dX0_init_12 : decode cX0_init 12 = .ok (.aload_n 0, 1) := by decide +kernel
theorem dX0_init_13 : decode cX0_init 13 = .ok (.bipush 9, 2) := by decide +kernel
theorem dX0_init_15 : decode cX0_init 15 = .ok (.newarray .int, 2) := by decide +kernel
theorem dX0_init_17 : decode cX0_init 17 = .ok (.putfield 15, 3) := by decide +kernel
theorem dX0_init_20 : decode cX0_init 20 = .ok (.aload_n 0, 1) := by decide +kernel
theorem dX0_init_21 : decode cX0_init 21 = .ok (.iconst 0, 1) := by decide +kernel
theorem dX0_init_22 : decode cX0_init 22 = .ok (.putfield 19, 3) := by decide +kernel
theorem dX0_init_25 : decode cX0_init 25 = .ok (.aload_n 0, 1) := by decide +kernel
theorem dX0_init_26 : decode cX0_init 26 = .ok (.lconst 0, 1) := by decide +kernel
theorem dX0_init_27 : decode cX0_init 27 = .ok (.putfield 23, 3) := by decide +kernel
theorem dX0_init_30 : decode cX0_init 30 = .ok (.aload_n 0, 1) := by decide +kernel
theorem dX0_init_31 : decode cX0_init 31 = .ok (.lconst 0, 1) := by decide +kernel
theorem dX0_init_32 : decode cX0_init 32 = .ok (.putfield 27, 3) := by decide +kernel
theorem dX0_init_35 : decode cX0_init 35 = .ok (.return_, 1) := by decide +kernel
theorem dX0_findFor_0 : decode cX0_findFor 0 = .ok (.aload_n 0, 1) := by decide +kernel
theorem dX0_findFor_1 : decode cX0_findFor 1 = .ok (.getfield 27, 3) := by decide +kernel
theorem dX0_findFor_4 : decode cX0_findFor 4 = .ok (.lload_n 1, 1) := by decide +kernel
theorem dX0_findFor_5 : decode cX0_findFor 5 = .ok (.lcmp, 1) := by decide +kernel
theorem dX0_findFor_6 : decode cX0_findFor 6 = .ok (.ifCond .ne 4, 3) := by decide +kernel
theorem dX0_findFor_9 : decode cX0_findFor 9 = .ok (.return_, 1) := by decide +kernel
theorem dX0_findFor_10 : decode cX0_findFor 10 = .ok (.aload_n 0, 1) := by decide +kernel
theorem dX0_findFor_11 : decode cX0_findFor 11 = .ok (.lload_n 1, 1) := by decide +kernel
theorem dX0_findFor_12 : decode cX0_findFor 12 = .ok (.putfield 27, 3) := by decide +kernel
theorem dX0_findFor_15 : decode cX0_findFor 15 = .ok (.aload_n 0, 1) := by decide +kernel
theorem dX0_findFor_16 : decode cX0_findFor 16 = .ok (.iconst 0, 1) := by decide +kernel
theorem dX0_findFor_17 : decode cX0_findFor 17 = .ok (.putfield 19, 3) := by decide +kernel
theorem dX0_findFor_20 : decode cX0_findFor 20 = .ok (.aload_n 0, 1) := by decide +kernel
theorem dX0_findFor_21 : decode cX0_findFor 21 = .ok (.lconst 0, 1) := by decide +kernel
theorem dX0_findFor_22 : decode cX0_findFor 22 = .ok (.putfield 23, 3) := by decide +kernel
theorem dX0_findFor_25 : decode cX0_findFor 25 = .ok (.lload_n 1, 1) := by decide +kernel
theorem dX0_findFor_26 : decode cX0_findFor 26 = .ok (.lstore_n 3, 1) := by decide +kernel
theorem dX0_findFor_27 : decode cX0_findFor 27 = .ok (.ldc2_w 32, 3) := by decide +kernel
theorem dX0_findFor_30 : decode cX0_findFor 30 = .ok (.lstore 5, 2) := by decide +kernel
theorem dX0_findFor_32 : decode cX0_findFor 32 = .ok (.iconst 1, 1) := by decide +kernel
theorem dX0_findFor_33 : decode cX0_findFor 33 = .ok (.istore 7, 2) := by decide +kernel
theorem dX0_findFor_35 : decode cX0_findFor 35 = .ok (.iconst 2, 1) := by decide +kernel
theorem dX0_findFor_36 : decode cX0_findFor 36 = .ok (.iload 7, 2) := by decide +kernel
theorem dX0_findFor_38 : decode cX0_findFor 38 = .ok (.imul, 1) := by decide +kernel
theorem dX0_findFor_39 : decode cX0_findFor 39 = .ok (.lload_n 3, 1) := by decide +kernel
theorem dX0_findFor_40 : decode cX0_findFor 40 = .ok (.invokestatic 34, 3) := by decide +kernel
theorem dX0_findFor_43 : decode cX0_findFor 43 = .ok (.if_icmp .gt 83, 3) := by decide +kernel
theorem dX0_findFor_46 : decode cX0_findFor 46 = .ok (.lload 5, 2) := by decide +kernel
theorem dX0_findFor_48 : decode cX0_findFor 48 = .ok (.lload 5, 2) := by decide +kernel
theorem dX0_findFor_50 : decode cX0_findFor 50 = .ok (.lload_n 3, 1) := by decide +kernel
theorem dX0_findFor_51 : decode cX0_findFor 51 = .ok (.invokestatic 38, 3) := by decide +kernel
theorem dX0_findFor_54 : decode cX0_findFor 54 = .ok (.lstore 5, 2) := by decide +kernel
theorem dX0_findFor_56 : decode cX0_findFor 56 = .ok (.lload_n 3, 1) := by decide +kernel
theorem dX0_findFor_57 : decode cX0_findFor 57 = .ok (.lload 5, 2) := by decide +kernel
theorem dX0_findFor_59 : decode cX0_findFor 59 = .ok (.ldc2_w 32, 3) := by decide +kernel
theorem dX0_findFor_62 : decode cX0_findFor 62 = .ok (.lxor, 1) := by decide +kernel
theorem dX0_findFor_63 : decode cX0_findFor 63 = .ok (.invokestatic 42, 3) := by decide +kernel
theorem dX0_findFor_66 : decode cX0_findFor 66 = .ok (.lstore 8, 2) := by decide +kernel
theorem dX0_findFor_68 : decode cX0_findFor 68 = .ok (.lload 8, 2) := by decide +kernel
theorem dX0_findFor_70 : decode cX0_findFor 70 = .ok (.lconst 1, 1) := by decide +kernel
theorem dX0_findFor_71 : decode cX0_findFor 71 = .ok (.lcmp, 1) := by decide +kernel
theorem dX0_findFor_72 : decode cX0_findFor 72 = .ok (.ifCond .eq 48, 3) := by decide +kernel
theorem dX0_findFor_75 : decode cX0_findFor 75 = .ok (.aload_n 0, 1) := by decide +kernel
theorem dX0_findFor_76 : decode cX0_findFor 76 = .ok (.getfield 19, 3) := by decide +kernel
theorem dX0_findFor_79 : decode cX0_findFor 79 = .ok (.istore 10, 2) := by decide +kernel
theorem dX0_findFor_81 : decode cX0_findFor 81 = .ok (.aload_n 0, 1) := by decide +kernel
theorem dX0_findFor_82 : decode cX0_findFor 82 = .ok (.lload 8, 2) := by decide +kernel
theorem dX0_findFor_84 : decode cX0_findFor 84 = .ok (.iconst 0, 1) := by decide +kernel
theorem dX0_findFor_85 : decode cX0_findFor 85 = .ok (.invokevirtual 46, 3) := by decide +kernel
theorem dX0_findFor_88 : decode cX0_findFor 88 = .ok (.aload_n 0, 1) := by decide +kernel
theorem dX0_findFor_89 : decode cX0_findFor 89 = .ok (.iload 10, 2) := by decide +kernel
theorem dX0_findFor_91 : decode cX0_findFor 91 = .ok (.lload 8, 2) := by decide +kernel
theorem dX0_findFor_93 : decode cX0_findFor 93 = .ok (.iload 7, 2) := by decide +kernel
theorem dX0_findFor_95 : decode cX0_findFor 95 = .ok (.invokevirtual 50, 3) := by decide +kernel
theorem dX0_findFor_98 : decode cX0_findFor 98 = .ok (.aload_n 0, 1) := by decide +kernel
theorem dX0_findFor_99 : decode cX0_findFor 99 = .ok (.iload 10, 2) := by decide +kernel
theorem dX0_findFor_101 : decode cX0_findFor 101 = .ok (.invokevirtual 54, 3) := by decide +kernel
theorem dX0_findFor_104 : decode cX0_findFor 104 = .ok (.aload_n 0, 1) := by decide +kernel
theorem dX0_findFor_105 : decode cX0_findFor 105 = .ok (.iload 10, 2) := by decide +kernel
theorem dX0_findFor_107 : decode cX0_findFor 107 = .ok (.lload_n 3, 1) := by decide +kernel
theorem dX0_findFor_108 : decode cX0_findFor 108 = .ok (.invokevirtual 58, 3) := by decide +kernel
theorem dX0_findFor_111 : decode cX0_findFor 111 = .ok (.lstore_n 3, 1) := by decide +kernel
theorem dX0_findFor_112 : decode cX0_findFor 112 = .ok (.lload 5, 2) := by decide +kernel
theorem dX0_findFor_114 : decode cX0_findFor 114 = .ok (.lload_n 3, 1) := by decide +kernel
theorem dX0_findFor_115 : decode cX0_findFor 115 = .ok (.invokestatic 62, 3) := by decide +kernel
theorem dX0_findFor_118 : decode cX0_findFor 118 = .ok (.lstore 5, 2) := by decide +kernel
theorem dX0_findFor_120 : decode cX0_findFor 120 = .ok (.iinc 7 1, 3) := by decide +kernel
theorem dX0_findFor_123 : decode cX0_findFor 123 = .ok (.goto (-88), 3) := by decide +kernel
theorem dX0_findFor_126 : decode cX0_findFor 126 = .ok (.lload_n 3, 1) := by decide +kernel
theorem dX0_findFor_127 : decode cX0_findFor 127 = .ok (.lconst 1, 1) := by decide +kernel
theorem dX0_findFor_128 : decode cX0_findFor 128 = .ok (.lcmp, 1) := by decide +kernel
theorem dX0_findFor_129 : decode cX0_findFor 129 = .ok (.ifCond .eq 9, 3) := by decide +kernel
theorem dX0_findFor_132 : decode cX0_findFor 132 = .ok (.aload_n 0, 1) := by decide +kernel
theorem dX0_findFor_133 : decode cX0_findFor 133 = .ok (.lload_n 3, 1) := by decide +kernel
theorem dX0_findFor_134 : decode cX0_findFor 134 = .ok (.iconst 1, 1) := by decide +kernel
theorem dX0_findFor_135 : decode cX0_findFor 135 = .ok (.invokevirtual 46, 3) := by decide +kernel
theorem dX0_findFor_138 : decode cX0_findFor 138 = .ok (.return_, 1) := by decide +kernel
theorem dX0_append_0 : decode cX0_append 0 = .ok (.aload_n 0, 1) := by decide +kernel
theorem dX0_append_1 : decode cX0_append 1 = .ok (.getfield 19, 3) := by decide +kernel
theorem dX0_append_4 : decode cX0_append 4 = .ok (.bipush 9, 2) := by decide +kernel
theorem dX0_append_6 : decode cX0_append 6 = .ok (.if_icmp .ge 33, 3) := by decide +kernel
theorem dX0_append_9 : decode cX0_append 9 = .ok (.aload_n 0, 1) := by decide +kernel
theorem dX0_append_10 : decode cX0_append 10 = .ok (.getfield 11, 3) := by decide +kernel
theorem dX0_append_13 : decode cX0_append 13 = .ok (.aload_n 0, 1) := by decide +kernel
theorem dX0_append_14 : decode cX0_append 14 = .ok (.getfield 19, 3) := by decide +kernel
theorem dX0_append_17 : decode cX0_append 17 = .ok (.lload_n 1, 1) := by decide +kernel
theorem dX0_append_18 : decode cX0_append 18 = .ok (.lastore, 1) := by decide +kernel
theorem dX0_append_19 : decode cX0_append 19 = .ok (.aload_n 0, 1) := by decide +kernel
theorem dX0_append_20 : decode cX0_append 20 = .ok (.getfield 15, 3) := by decide +kernel
theorem dX0_append_23 : decode cX0_append 23 = .ok (.aload_n 0, 1) := by decide +kernel
theorem dX0_append_24 : decode cX0_append 24 = .ok (.getfield 19, 3) := by decide +kernel
theorem dX0_append_27 : decode cX0_append 27 = .ok (.iload_n 3, 1) := by decide +kernel
theorem dX0_append_28 : decode cX0_append 28 = .ok (.iastore, 1) := by decide +kernel
theorem dX0_append_29 : decode cX0_append 29 = .ok (.aload_n 0, 1) := by decide +kernel
theorem dX0_append_30 : decode cX0_append 30 = .ok (.dup, 1) := by decide +kernel
theorem dX0_append_31 : decode cX0_append 31 = .ok (.getfield 19, 3) := by decide +kernel
theorem dX0_append_34 : decode cX0_append 34 = .ok (.iconst 1, 1) := by decide +kernel
theorem dX0_append_35 : decode cX0_append 35 = .ok (.iadd, 1) := by decide +kernel
theorem dX0_append_36 : decode cX0_append 36 = .ok (.putfield 19, 3) := by decide +kernel
theorem dX0_append_39 : decode cX0_append 39 = .ok (.return_, 1) := by decide +kernel
theorem dX0_split_0 : decode cX0_split 0 = .ok (.lload_n 2, 1) := by decide +kernel
theorem dX0_split_1 : decode cX0_split 1 = .ok (.invokestatic 34, 3) := by decide +kernel
theorem dX0_split_4 : decode cX0_split 4 = .ok (.istore 5, 2) := by decide +kernel
theorem dX0_split_6 : decode cX0_split 6 = .ok (.lconst 1, 1) := by decide +kernel
theorem dX0_split_7 : decode cX0_split 7 = .ok (.lstore 6, 2) := by decide +kernel
theorem dX0_split_9 : decode cX0_split 9 = .ok (.iconst 1, 1) := by decide +kernel
theorem dX0_split_10 : decode cX0_split 10 = .ok (.istore 8, 2) := by decide +kernel
theorem dX0_split_12 : decode cX0_split 12 = .ok (.iload 8, 2) := by decide +kernel
theorem dX0_split_14 : decode cX0_split 14 = .ok (.iload 5, 2) := by decide +kernel
theorem dX0_split_16 : decode cX0_split 16 = .ok (.if_icmp .ge 73, 3) := by decide +kernel
theorem dX0_split_19 : decode cX0_split 19 = .ok (.aload_n 0, 1) := by decide +kernel
theorem dX0_split_20 : decode cX0_split 20 = .ok (.getfield 19, 3) := by decide +kernel
theorem dX0_split_23 : decode cX0_split 23 = .ok (.iload_n 1, 1) := by decide +kernel
theorem dX0_split_24 : decode cX0_split 24 = .ok (.isub, 1) := by decide +kernel
theorem dX0_split_25 : decode cX0_split 25 = .ok (.iload 4, 2) := by decide +kernel
theorem dX0_split_27 : decode cX0_split 27 = .ok (.imul, 1) := by decide +kernel
theorem dX0_split_28 : decode cX0_split 28 = .ok (.iload 5, 2) := by decide +kernel
theorem dX0_split_30 : decode cX0_split 30 = .ok (.if_icmp .ge 59, 3) := by decide +kernel
theorem dX0_split_33 : decode cX0_split 33 = .ok (.lload 6, 2) := by decide +kernel
theorem dX0_split_35 : decode cX0_split 35 = .ok (.lload_n 2, 1) := by decide +kernel
theorem dX0_split_36 : decode cX0_split 36 = .ok (.iload 5, 2) := by decide +kernel
theorem dX0_split_38 : decode cX0_split 38 = .ok (.invokestatic 65, 3) := by decide +kernel
theorem dX0_split_41 : decode cX0_split 41 = .ok (.lstore 6, 2) := by decide +kernel
theorem dX0_split_43 : decode cX0_split 43 = .ok (.lload 6, 2) := by decide +kernel
theorem dX0_split_45 : decode cX0_split 45 = .ok (.iload 4, 2) := by decide +kernel
theorem dX0_split_47 : decode cX0_split 47 = .ok (.lload_n 2, 1) := by decide +kernel
theorem dX0_split_48 : decode cX0_split 48 = .ok (.invokestatic 69, 3) := by decide +kernel
theorem dX0_split_51 : decode cX0_split 51 = .ok (.lstore 9, 2) := by decide +kernel
theorem dX0_split_53 : decode cX0_split 53 = .ok (.aload_n 0, 1) := by decide +kernel
theorem dX0_split_54 : decode cX0_split 54 = .ok (.getfield 19, 3) := by decide +kernel
theorem dX0_split_57 : decode cX0_split 57 = .ok (.istore 11, 2) := by decide +kernel
theorem dX0_split_59 : decode cX0_split 59 = .ok (.iload_n 1, 1) := by decide +kernel
theorem dX0_split_60 : decode cX0_split 60 = .ok (.istore 12, 2) := by decide +kernel
theorem dX0_split_62 : decode cX0_split 62 = .ok (.iload 12, 2) := by decide +kernel
theorem dX0_split_64 : decode cX0_split 64 = .ok (.iload 11, 2) := by decide +kernel
theorem dX0_split_66 : decode cX0_split 66 = .ok (.if_icmp .ge 17, 3) := by decide +kernel
theorem dX0_split_69 : decode cX0_split 69 = .ok (.aload_n 0, 1) := by decide +kernel
theorem dX0_split_70 : decode cX0_split 70 = .ok (.iload 12, 2) := by decide +kernel
theorem dX0_split_72 : decode cX0_split 72 = .ok (.lload 9, 2) := by decide +kernel
theorem dX0_split_74 : decode cX0_split 74 = .ok (.invokevirtual 73, 3) := by decide +kernel
theorem dX0_split_77 : decode cX0_split 77 = .ok (.iinc 12 1, 3) := by decide +kernel
theorem dX0_split_80 : decode cX0_split 80 = .ok (.goto (-18), 3) := by decide +kernel
theorem dX0_split_83 : decode cX0_split 83 = .ok (.iinc 8 1, 3) := by decide +kernel
theorem dX0_split_86 : decode cX0_split 86 = .ok (.goto (-74), 3) := by decide +kernel
theorem dX0_split_89 : decode cX0_split 89 = .ok (.return_, 1) := by decide +kernel
theorem dX0_splitOne_0 : decode cX0_splitOne 0 = .ok (.aload_n 0, 1) := by decide +kernel
theorem dX0_splitOne_1 : decode cX0_splitOne 1 = .ok (.getfield 11, 3) := by decide +kernel
theorem dX0_splitOne_4 : decode cX0_splitOne 4 = .ok (.iload_n 1, 1) := by decide +kernel
theorem dX0_splitOne_5 : decode cX0_splitOne 5 = .ok (.laload, 1) := by decide +kernel
theorem dX0_splitOne_6 : decode cX0_splitOne 6 = .ok (.lstore 4, 2) := by decide +kernel
theorem dX0_splitOne_8 : decode cX0_splitOne 8 = .ok (.lload 4, 2) := by decide +kernel
theorem dX0_splitOne_10 : decode cX0_splitOne 10 = .ok (.lload_n 2, 1) := by decide +kernel
theorem dX0_splitOne_11 : decode cX0_splitOne 11 = .ok (.lload 4, 2) := by decide +kernel
theorem dX0_splitOne_13 : decode cX0_splitOne 13 = .ok (.invokestatic 62, 3) := by decide +kernel
theorem dX0_splitOne_16 : decode cX0_splitOne 16 = .ok (.invokestatic 42, 3) := by decide +kernel
theorem dX0_splitOne_19 : decode cX0_splitOne 19 = .ok (.lstore 6, 2) := by decide +kernel
theorem dX0_splitOne_21 : decode cX0_splitOne 21 = .ok (.lload 6, 2) := by decide +kernel
theorem dX0_splitOne_23 : decode cX0_splitOne 23 = .ok (.lconst 1, 1) := by decide +kernel
theorem dX0_splitOne_24 : decode cX0_splitOne 24 = .ok (.lcmp, 1) := by decide +kernel
theorem dX0_splitOne_25 : decode cX0_splitOne 25 = .ok (.ifCond .eq 31, 3) := by decide +kernel
theorem dX0_splitOne_28 : decode cX0_splitOne 28 = .ok (.lload 6, 2) := by decide +kernel
theorem dX0_splitOne_30 : decode cX0_splitOne 30 = .ok (.lload 4, 2) := by decide +kernel
theorem dX0_splitOne_32 : decode cX0_splitOne 32 = .ok (.lcmp, 1) := by decide +kernel
theorem dX0_splitOne_33 : decode cX0_splitOne 33 = .ok (.ifCond .eq 23, 3) := by decide +kernel
theorem dX0_splitOne_36 : decode cX0_splitOne 36 = .ok (.aload_n 0, 1) := by decide +kernel
theorem dX0_splitOne_37 : decode cX0_splitOne 37 = .ok (.getfield 11, 3) := by decide +kernel
theorem dX0_splitOne_40 : decode cX0_splitOne 40 = .ok (.iload_n 1, 1) := by decide +kernel
theorem dX0_splitOne_41 : decode cX0_splitOne 41 = .ok (.lload 6, 2) := by decide +kernel
theorem dX0_splitOne_43 : decode cX0_splitOne 43 = .ok (.lastore, 1) := by decide +kernel
theorem dX0_splitOne_44 : decode cX0_splitOne 44 = .ok (.aload_n 0, 1) := by decide +kernel
theorem dX0_splitOne_45 : decode cX0_splitOne 45 = .ok (.lload 4, 2) := by decide +kernel
theorem dX0_splitOne_47 : decode cX0_splitOne 47 = .ok (.lload 6, 2) := by decide +kernel
theorem dX0_splitOne_49 : decode cX0_splitOne 49 = .ok (.invokestatic 77, 3) := by decide +kernel
theorem dX0_splitOne_52 : decode cX0_splitOne 52 = .ok (.iconst 0, 1) := by decide +kernel
theorem dX0_splitOne_53 : decode cX0_splitOne 53 = .ok (.invokevirtual 46, 3) := by decide +kernel
theorem dX0_splitOne_56 : decode cX0_splitOne 56 = .ok (.return_, 1) := by decide +kernel
theorem dX0_sort_0 : decode cX0_sort 0 = .ok (.iload_n 1, 1) := by decide +kernel
theorem dX0_sort_1 : decode cX0_sort 1 = .ok (.iconst 1, 1) := by decide +kernel
theorem dX0_sort_2 : decode cX0_sort 2 = .ok (.iadd, 1) := by decide +kernel
theorem dX0_sort_3 : decode cX0_sort 3 = .ok (.istore_n 2, 1) := by decide +kernel
theorem dX0_sort_4 : decode cX0_sort 4 = .ok (.iload_n 2, 1) := by decide +kernel
theorem dX0_sort_5 : decode cX0_sort 5 = .ok (.aload_n 0, 1) := by decide +kernel
theorem dX0_sort_6 : decode cX0_sort 6 = .ok (.getfield 19, 3) := by decide +kernel
theorem dX0_sort_9 : decode cX0_sort 9 = .ok (.if_icmp .ge 72, 3) := by decide +kernel
theorem dX0_sort_12 : decode cX0_sort 12 = .ok (.iload_n 2, 1) := by decide +kernel
theorem dX0_sort_13 : decode cX0_sort 13 = .ok (.istore_n 3, 1) := by decide +kernel
theorem dX0_sort_14 : decode cX0_sort 14 = .ok (.iload_n 3, 1) := by decide +kernel
theorem dX0_sort_15 : decode cX0_sort 15 = .ok (.iload_n 1, 1) := by decide +kernel
theorem dX0_sort_16 : decode cX0_sort 16 = .ok (.if_icmp .le 59, 3) := by decide +kernel
theorem dX0_sort_19 : decode cX0_sort 19 = .ok (.aload_n 0, 1) := by decide +kernel
theorem dX0_sort_20 : decode cX0_sort 20 = .ok (.getfield 11, 3) := by decide +kernel
theorem dX0_sort_23 : decode cX0_sort 23 = .ok (.iload_n 3, 1) := by decide +kernel
theorem dX0_sort_24 : decode cX0_sort 24 = .ok (.iconst 1, 1) := by decide +kernel
theorem dX0_sort_25 : decode cX0_sort 25 = .ok (.isub, 1) := by decide +kernel
theorem dX0_sort_26 : decode cX0_sort 26 = .ok (.laload, 1) := by decide +kernel
theorem dX0_sort_27 : decode cX0_sort 27 = .ok (.aload_n 0, 1) := by decide +kernel
theorem dX0_sort_28 : decode cX0_sort 28 = .ok (.getfield 11, 3) := by decide +kernel
theorem dX0_sort_31 : decode cX0_sort 31 = .ok (.iload_n 3, 1) := by decide +kernel
theorem dX0_sort_32 : decode cX0_sort 32 = .ok (.laload, 1) := by decide +kernel
theorem dX0_sort_33 : decode cX0_sort 33 = .ok (.lcmp, 1) := by decide +kernel
theorem dX0_sort_34 : decode cX0_sort 34 = .ok (.ifCond .le 41, 3) := by decide +kernel
theorem dX0_sort_37 : decode cX0_sort 37 = .ok (.aload_n 0, 1) := by decide +kernel
theorem dX0_sort_38 : decode cX0_sort 38 = .ok (.getfield 11, 3) := by decide +kernel
theorem dX0_sort_41 : decode cX0_sort 41 = .ok (.iload_n 3, 1) := by decide +kernel
theorem dX0_sort_42 : decode cX0_sort 42 = .ok (.iconst 1, 1) := by decide +kernel
theorem dX0_sort_43 : decode cX0_sort 43 = .ok (.isub, 1) := by decide +kernel
theorem dX0_sort_44 : decode cX0_sort 44 = .ok (.laload, 1) := by decide +kernel
theorem dX0_sort_45 : decode cX0_sort 45 = .ok (.lstore 4, 2) := by decide +kernel
theorem dX0_sort_47 : decode cX0_sort 47 = .ok (.aload_n 0, 1) := by decide +kernel
theorem dX0_sort_48 : decode cX0_sort 48 = .ok (.getfield 11, 3) := by decide +kernel
theorem dX0_sort_51 : decode cX0_sort 51 = .ok (.iload_n 3, 1) := by decide +kernel
theorem dX0_sort_52 : decode cX0_sort 52 = .ok (.iconst 1, 1) := by decide +kernel
theorem dX0_sort_53 : decode cX0_sort 53 = .ok (.isub, 1) := by decide +kernel
theorem dX0_sort_54 : decode cX0_sort 54 = .ok (.aload_n 0, 1) := by decide +kernel
theorem dX0_sort_55 : decode cX0_sort 55 = .ok (.getfield 11, 3) := by decide +kernel
theorem dX0_sort_58 : decode cX0_sort 58 = .ok (.iload_n 3, 1) := by decide +kernel
theorem dX0_sort_59 : decode cX0_sort 59 = .ok (.laload, 1) := by decide +kernel
theorem dX0_sort_60 : decode cX0_sort 60 = .ok (.lastore, 1) := by decide +kernel
theorem dX0_sort_61 : decode cX0_sort 61 = .ok (.aload_n 0, 1) := by decide +kernel
theorem dX0_sort_62 : decode cX0_sort 62 = .ok (.getfield 11, 3) := by decide +kernel
theorem dX0_sort_65 : decode cX0_sort 65 = .ok (.iload_n 3, 1) := by decide +kernel
theorem dX0_sort_66 : decode cX0_sort 66 = .ok (.lload 4, 2) := by decide +kernel
theorem dX0_sort_68 : decode cX0_sort 68 = .ok (.lastore, 1) := by decide +kernel
theorem dX0_sort_69 : decode cX0_sort 69 = .ok (.iinc 3 (-1), 3) := by decide +kernel
theorem dX0_sort_72 : decode cX0_sort 72 = .ok (.goto (-58), 3) := by decide +kernel
theorem dX0_sort_75 : decode cX0_sort 75 = .ok (.iinc 2 1, 3) := by decide +kernel
theorem dX0_sort_78 : decode cX0_sort 78 = .ok (.goto (-74), 3) := by decide +kernel
theorem dX0_sort_81 : decode cX0_sort 81 = .ok (.return_, 1) := by decide +kernel
theorem dX0_withoutFactorsFrom_0 : decode cX0_withoutFactorsFrom 0 = .ok (.lload_n 2, 1) := by decide +kernel
theorem dX0_withoutFactorsFrom_1 : decode cX0_withoutFactorsFrom 1 = .ok (.lstore 4, 2) := by decide +kernel
theorem dX0_withoutFactorsFrom_3 : decode cX0_withoutFactorsFrom 3 = .ok (.iload_n 1, 1) := by decide +kernel
theorem dX0_withoutFactorsFrom_4 : decode cX0_withoutFactorsFrom 4 = .ok (.istore 6, 2) := by decide +kernel
theorem dX0_withoutFactorsFrom_6 : decode cX0_withoutFactorsFrom 6 = .ok (.iload 6, 2) := by decide +kernel
theorem dX0_withoutFactorsFrom_8 : decode cX0_withoutFactorsFrom 8 = .ok (.aload_n 0, 1) := by decide +kernel
theorem dX0_withoutFactorsFrom_9 : decode cX0_withoutFactorsFrom 9 = .ok (.getfield 19, 3) := by decide +kernel
theorem dX0_withoutFactorsFrom_12 : decode cX0_withoutFactorsFrom 12 = .ok (.if_icmp .ge 66, 3) := by decide +kernel
theorem dX0_withoutFactorsFrom_15 : decode cX0_withoutFactorsFrom 15 = .ok (.aload_n 0, 1) := by decide +kernel
theorem dX0_withoutFactorsFrom_16 : decode cX0_withoutFactorsFrom 16 = .ok (.getfield 15, 3) := by decide +kernel
theorem dX0_withoutFactorsFrom_19 : decode cX0_withoutFactorsFrom 19 = .ok (.iload 6, 2) := by decide +kernel
theorem dX0_withoutFactorsFrom_21 : decode cX0_withoutFactorsFrom 21 = .ok (.iaload, 1) := by decide +kernel
theorem dX0_withoutFactorsFrom_22 : decode cX0_withoutFactorsFrom 22 = .ok (.bipush 32, 2) := by decide +kernel
theorem dX0_withoutFactorsFrom_24 : decode cX0_withoutFactorsFrom 24 = .ok (.if_icmp .ge 48, 3) := by decide +kernel
theorem dX0_withoutFactorsFrom_27 : decode cX0_withoutFactorsFrom 27 = .ok (.lload 4, 2) := by decide +kernel
theorem dX0_withoutFactorsFrom_29 : decode cX0_withoutFactorsFrom 29 = .ok (.aload_n 0, 1) := by decide +kernel
theorem dX0_withoutFactorsFrom_30 : decode cX0_withoutFactorsFrom 30 = .ok (.getfield 11, 3) := by decide +kernel
theorem dX0_withoutFactorsFrom_33 : decode cX0_withoutFactorsFrom 33 = .ok (.iload 6, 2) := by decide +kernel
theorem dX0_withoutFactorsFrom_35 : decode cX0_withoutFactorsFrom 35 = .ok (.laload, 1) := by decide +kernel
theorem dX0_withoutFactorsFrom_36 : decode cX0_withoutFactorsFrom 36 = .ok (.invokestatic 62, 3) := by decide +kernel
theorem dX0_withoutFactorsFrom_39 : decode cX0_withoutFactorsFrom 39 = .ok (.lconst 0, 1) := by decide +kernel
theorem dX0_withoutFactorsFrom_40 : decode cX0_withoutFactorsFrom 40 = .ok (.lcmp, 1) := by decide +kernel
theorem dX0_withoutFactorsFrom_41 : decode cX0_withoutFactorsFrom 41 = .ok (.ifCond .ne 31, 3) := by decide +kernel
theorem dX0_withoutFactorsFrom_44 : decode cX0_withoutFactorsFrom 44 = .ok (.lload 4, 2) := by decide +kernel
theorem dX0_withoutFactorsFrom_46 : decode cX0_withoutFactorsFrom 46 = .ok (.aload_n 0, 1) := by decide +kernel
theorem dX0_withoutFactorsFrom_47 : decode cX0_withoutFactorsFrom 47 = .ok (.getfield 11, 3) := by decide +kernel
theorem dX0_withoutFactorsFrom_50 : decode cX0_withoutFactorsFrom 50 = .ok (.iload 6, 2) := by decide +kernel
theorem dX0_withoutFactorsFrom_52 : decode cX0_withoutFactorsFrom 52 = .ok (.laload, 1) := by decide +kernel
theorem dX0_withoutFactorsFrom_53 : decode cX0_withoutFactorsFrom 53 = .ok (.invokestatic 77, 3) := by decide +kernel
theorem dX0_withoutFactorsFrom_56 : decode cX0_withoutFactorsFrom 56 = .ok (.lstore 4, 2) := by decide +kernel
theorem dX0_withoutFactorsFrom_58 : decode cX0_withoutFactorsFrom 58 = .ok (.aload_n 0, 1) := by decide +kernel
theorem dX0_withoutFactorsFrom_59 : decode cX0_withoutFactorsFrom 59 = .ok (.getfield 15, 3) := by decide +kernel
theorem dX0_withoutFactorsFrom_62 : decode cX0_withoutFactorsFrom 62 = .ok (.iload 6, 2) := by decide +kernel
theorem dX0_withoutFactorsFrom_64 : decode cX0_withoutFactorsFrom 64 = .ok (.dup2, 1) := by decide +kernel
theorem dX0_withoutFactorsFrom_65 : decode cX0_withoutFactorsFrom 65 = .ok (.iaload, 1) := by decide +kernel
theorem dX0_withoutFactorsFrom_66 : decode cX0_withoutFactorsFrom 66 = .ok (.iconst 1, 1) := by decide +kernel
theorem dX0_withoutFactorsFrom_67 : decode cX0_withoutFactorsFrom 67 = .ok (.iadd, 1) := by decide +kernel
theorem dX0_withoutFactorsFrom_68 : decode cX0_withoutFactorsFrom 68 = .ok (.iastore, 1) := by decide +kernel
theorem dX0_withoutFactorsFrom_69 : decode cX0_withoutFactorsFrom 69 = .ok (.goto (-54), 3) := by decide +kernel
theorem dX0_withoutFactorsFrom_72 : decode cX0_withoutFactorsFrom 72 = .ok (.iinc 6 1, 3) := by decide +kernel
theorem dX0_withoutFactorsFrom_75 : decode cX0_withoutFactorsFrom 75 = .ok (.goto (-69), 3) := by decide +kernel
theorem dX0_withoutFactorsFrom_78 : decode cX0_withoutFactorsFrom 78 = .ok (.lload 4, 2) := by decide +kernel
theorem dX0_withoutFactorsFrom_80 : decode cX0_withoutFactorsFrom 80 = .ok (.lreturn, 1) := by decide +kernel
theorem dX0_foundPeriod_0 : decode cX0_foundPeriod 0 = .ok (.aload_n 0, 1) := by decide +kernel
theorem dX0_foundPeriod_1 : decode cX0_foundPeriod 1 = .ok (.getfield 23, 3) := by decide +kernel
theorem dX0_foundPeriod_4 : decode cX0_foundPeriod 4 = .ok (.lconst 0, 1) := by decide +kernel
theorem dX0_foundPeriod_5 : decode cX0_foundPeriod 5 = .ok (.lcmp, 1) := by decide +kernel
theorem dX0_foundPeriod_6 : decode cX0_foundPeriod 6 = .ok (.ifCond .eq 8, 3) := by decide +kernel
theorem dX0_foundPeriod_9 : decode cX0_foundPeriod 9 = .ok (.aload_n 0, 1) := by decide +kernel
theorem dX0_foundPeriod_10 : decode cX0_foundPeriod 10 = .ok (.getfield 23, 3) := by decide +kernel
theorem dX0_foundPeriod_13 : decode cX0_foundPeriod 13 = .ok (.lreturn, 1) := by decide +kernel
theorem dX0_foundPeriod_14 : decode cX0_foundPeriod 14 = .ok (.iconst 1, 1) := by decide +kernel
theorem dX0_foundPeriod_15 : decode cX0_foundPeriod 15 = .ok (.istore_n 1, 1) := by decide +kernel
theorem dX0_foundPeriod_16 : decode cX0_foundPeriod 16 = .ok (.aload_n 0, 1) := by decide +kernel
theorem dX0_foundPeriod_17 : decode cX0_foundPeriod 17 = .ok (.lconst 1, 1) := by decide +kernel
theorem dX0_foundPeriod_18 : decode cX0_foundPeriod 18 = .ok (.putfield 23, 3) := by decide +kernel
theorem dX0_foundPeriod_21 : decode cX0_foundPeriod 21 = .ok (.iconst 0, 1) := by decide +kernel
theorem dX0_foundPeriod_22 : decode cX0_foundPeriod 22 = .ok (.istore_n 2, 1) := by decide +kernel
theorem dX0_foundPeriod_23 : decode cX0_foundPeriod 23 = .ok (.iload_n 2, 1) := by decide +kernel
theorem dX0_foundPeriod_24 : decode cX0_foundPeriod 24 = .ok (.aload_n 0, 1) := by decide +kernel
theorem dX0_foundPeriod_25 : decode cX0_foundPeriod 25 = .ok (.getfield 19, 3) := by decide +kernel
theorem dX0_foundPeriod_28 : decode cX0_foundPeriod 28 = .ok (.if_icmp .ge 50, 3) := by decide +kernel
theorem dX0_foundPeriod_31 : decode cX0_foundPeriod 31 = .ok (.aload_n 0, 1) := by decide +kernel
theorem dX0_foundPeriod_32 : decode cX0_foundPeriod 32 = .ok (.aload_n 0, 1) := by decide +kernel
theorem dX0_foundPeriod_33 : decode cX0_foundPeriod 33 = .ok (.getfield 23, 3) := by decide +kernel
theorem dX0_foundPeriod_36 : decode cX0_foundPeriod 36 = .ok (.aload_n 0, 1) := by decide +kernel
theorem dX0_foundPeriod_37 : decode cX0_foundPeriod 37 = .ok (.getfield 11, 3) := by decide +kernel
theorem dX0_foundPeriod_40 : decode cX0_foundPeriod 40 = .ok (.iload_n 2, 1) := by decide +kernel
theorem dX0_foundPeriod_41 : decode cX0_foundPeriod 41 = .ok (.laload, 1) := by decide +kernel
theorem dX0_foundPeriod_42 : decode cX0_foundPeriod 42 = .ok (.invokestatic 80, 3) := by decide +kernel
theorem dX0_foundPeriod_45 : decode cX0_foundPeriod 45 = .ok (.invokestatic 84, 3) := by decide +kernel
theorem dX0_foundPeriod_48 : decode cX0_foundPeriod 48 = .ok (.putfield 23, 3) := by decide +kernel
theorem dX0_foundPeriod_51 : decode cX0_foundPeriod 51 = .ok (.iload_n 1, 1) := by decide +kernel
theorem dX0_foundPeriod_52 : decode cX0_foundPeriod 52 = .ok (.aload_n 0, 1) := by decide +kernel
theorem dX0_foundPeriod_53 : decode cX0_foundPeriod 53 = .ok (.getfield 15, 3) := by decide +kernel
theorem dX0_foundPeriod_56 : decode cX0_foundPeriod 56 = .ok (.iload_n 2, 1) := by decide +kernel
theorem dX0_foundPeriod_57 : decode cX0_foundPeriod 57 = .ok (.iaload, 1) := by decide +kernel
theorem dX0_foundPeriod_58 : decode cX0_foundPeriod 58 = .ok (.if_icmp .ge 12, 3) := by decide +kernel
theorem dX0_foundPeriod_61 : decode cX0_foundPeriod 61 = .ok (.aload_n 0, 1) := by decide +kernel
theorem dX0_foundPeriod_62 : decode cX0_foundPeriod 62 = .ok (.getfield 15, 3) := by decide +kernel
theorem dX0_foundPeriod_65 : decode cX0_foundPeriod 65 = .ok (.iload_n 2, 1) := by decide +kernel
theorem dX0_foundPeriod_66 : decode cX0_foundPeriod 66 = .ok (.iaload, 1) := by decide +kernel
theorem dX0_foundPeriod_67 : decode cX0_foundPeriod 67 = .ok (.goto 4, 3) := by decide +kernel
theorem dX0_foundPeriod_70 : decode cX0_foundPeriod 70 = .ok (.iload_n 1, 1) := by decide +kernel
theorem dX0_foundPeriod_71 : decode cX0_foundPeriod 71 = .ok (.istore_n 1, 1) := by decide +kernel
theorem dX0_foundPeriod_72 : decode cX0_foundPeriod 72 = .ok (.iinc 2 1, 3) := by decide +kernel
theorem dX0_foundPeriod_75 : decode cX0_foundPeriod 75 = .ok (.goto (-52), 3) := by decide +kernel
theorem dX0_foundPeriod_78 : decode cX0_foundPeriod 78 = .ok (.iconst 1, 1) := by decide +kernel
theorem dX0_foundPeriod_79 : decode cX0_foundPeriod 79 = .ok (.istore_n 2, 1) := by decide +kernel
theorem dX0_foundPeriod_80 : decode cX0_foundPeriod 80 = .ok (.iload_n 2, 1) := by decide +kernel
theorem dX0_foundPeriod_81 : decode cX0_foundPeriod 81 = .ok (.iload_n 1, 1) := by decide +kernel
theorem dX0_foundPeriod_82 : decode cX0_foundPeriod 82 = .ok (.if_icmp .ge 22, 3) := by decide +kernel
theorem dX0_foundPeriod_85 : decode cX0_foundPeriod 85 = .ok (.aload_n 0, 1) := by decide +kernel
theorem dX0_foundPeriod_86 : decode cX0_foundPeriod 86 = .ok (.dup, 1) := by decide +kernel
theorem dX0_foundPeriod_87 : decode cX0_foundPeriod 87 = .ok (.getfield 23, 3) := by decide +kernel
theorem dX0_foundPeriod_90 : decode cX0_foundPeriod 90 = .ok (.ldc2_w 32, 3) := by decide +kernel
theorem dX0_foundPeriod_93 : decode cX0_foundPeriod 93 = .ok (.lmul, 1) := by decide +kernel
theorem dX0_foundPeriod_94 : decode cX0_foundPeriod 94 = .ok (.putfield 23, 3) := by decide +kernel
theorem dX0_foundPeriod_97 : decode cX0_foundPeriod 97 = .ok (.iload_n 2, 1) := by decide +kernel
theorem dX0_foundPeriod_98 : decode cX0_foundPeriod 98 = .ok (.iconst 2, 1) := by decide +kernel
theorem dX0_foundPeriod_99 : decode cX0_foundPeriod 99 = .ok (.imul, 1) := by decide +kernel
theorem dX0_foundPeriod_100 : decode cX0_foundPeriod 100 = .ok (.istore_n 2, 1) := by decide +kernel
theorem dX0_foundPeriod_101 : decode cX0_foundPeriod 101 = .ok (.goto (-21), 3) := by decide +kernel
theorem dX0_foundPeriod_104 : decode cX0_foundPeriod 104 = .ok (.aload_n 0, 1) := by decide +kernel
theorem dX0_foundPeriod_105 : decode cX0_foundPeriod 105 = .ok (.getfield 23, 3) := by decide +kernel
theorem dX0_foundPeriod_108 : decode cX0_foundPeriod 108 = .ok (.lreturn, 1) := by decide +kernel
theorem dX0_periodOf_0 : decode cX0_periodOf 0 = .ok (.lconst 1, 1) := by decide +kernel
theorem dX0_periodOf_1 : decode cX0_periodOf 1 = .ok (.lload_n 0, 1) := by decide +kernel
theorem dX0_periodOf_2 : decode cX0_periodOf 2 = .ok (.invokestatic 34, 3) := by decide +kernel
theorem dX0_periodOf_5 : decode cX0_periodOf 5 = .ok (.lshl, 1) := by decide +kernel
theorem dX0_periodOf_6 : decode cX0_periodOf 6 = .ok (.lconst 1, 1) := by decide +kernel
theorem dX0_periodOf_7 : decode cX0_periodOf 7 = .ok (.lsub, 1) := by decide +kernel
theorem dX0_periodOf_8 : decode cX0_periodOf 8 = .ok (.lstore_n 2, 1) := by decide +kernel
theorem dX0_periodOf_9 : decode cX0_periodOf 9 = .ok (.getstatic 87, 3) := by decide +kernel
theorem dX0_periodOf_12 : decode cX0_periodOf 12 = .ok (.astore 4, 2) := by decide +kernel
theorem dX0_periodOf_14 : decode cX0_periodOf 14 = .ok (.aload 4, 2) := by decide +kernel
theorem dX0_periodOf_16 : decode cX0_periodOf 16 = .ok (.arraylength, 1) := by decide +kernel
theorem dX0_periodOf_17 : decode cX0_periodOf 17 = .ok (.istore 5, 2) := by decide +kernel
theorem dX0_periodOf_19 : decode cX0_periodOf 19 = .ok (.iconst 0, 1) := by decide +kernel
theorem dX0_periodOf_20 : decode cX0_periodOf 20 = .ok (.istore 6, 2) := by decide +kernel
theorem dX0_periodOf_22 : decode cX0_periodOf 22 = .ok (.iload 6, 2) := by decide +kernel
theorem dX0_periodOf_24 : decode cX0_periodOf 24 = .ok (.iload 5, 2) := by decide +kernel
theorem dX0_periodOf_26 : decode cX0_periodOf 26 = .ok (.if_icmp .ge 24, 3) := by decide +kernel
theorem dX0_periodOf_29 : decode cX0_periodOf 29 = .ok (.aload 4, 2) := by decide +kernel
theorem dX0_periodOf_31 : decode cX0_periodOf 31 = .ok (.iload 6, 2) := by decide +kernel
theorem dX0_periodOf_33 : decode cX0_periodOf 33 = .ok (.iaload, 1) := by decide +kernel
theorem dX0_periodOf_34 : decode cX0_periodOf 34 = .ok (.istore 7, 2) := by decide +kernel
theorem dX0_periodOf_36 : decode cX0_periodOf 36 = .ok (.lload_n 2, 1) := by decide +kernel
theorem dX0_periodOf_37 : decode cX0_periodOf 37 = .ok (.iload 7, 2) := by decide +kernel
theorem dX0_periodOf_39 : decode cX0_periodOf 39 = .ok (.lload_n 0, 1) := by decide +kernel
theorem dX0_periodOf_40 : decode cX0_periodOf 40 = .ok (.invokestatic 90, 3) := by decide +kernel
theorem dX0_periodOf_43 : decode cX0_periodOf 43 = .ok (.lstore_n 2, 1) := by decide +kernel
theorem dX0_periodOf_44 : decode cX0_periodOf 44 = .ok (.iinc 6 1, 3) := by decide +kernel
theorem dX0_periodOf_47 : decode cX0_periodOf 47 = .ok (.goto (-25), 3) := by decide +kernel
theorem dX0_periodOf_50 : decode cX0_periodOf 50 = .ok (.lload_n 2, 1) := by decide +kernel
theorem dX0_periodOf_51 : decode cX0_periodOf 51 = .ok (.lreturn, 1) := by decide +kernel
theorem dX0_withoutPrime_0 : decode cX0_withoutPrime 0 = .ok (.lload_n 0, 1) := by decide +kernel
theorem dX0_withoutPrime_1 : decode cX0_withoutPrime 1 = .ok (.lstore 5, 2) := by decide +kernel
theorem dX0_withoutPrime_3 : decode cX0_withoutPrime 3 = .ok (.iconst 0, 1) := by decide +kernel
theorem dX0_withoutPrime_4 : decode cX0_withoutPrime 4 = .ok (.istore 7, 2) := by decide +kernel
theorem dX0_withoutPrime_6 : decode cX0_withoutPrime 6 = .ok (.iload 7, 2) := by decide +kernel
theorem dX0_withoutPrime_8 : decode cX0_withoutPrime 8 = .ok (.bipush 32, 2) := by decide +kernel
theorem dX0_withoutPrime_10 : decode cX0_withoutPrime 10 = .ok (.if_icmp .ge 43, 3) := by decide +kernel
theorem dX0_withoutPrime_13 : decode cX0_withoutPrime 13 = .ok (.lload 5, 2) := by decide +kernel
theorem dX0_withoutPrime_15 : decode cX0_withoutPrime 15 = .ok (.iload_n 2, 1) := by decide +kernel
theorem dX0_withoutPrime_16 : decode cX0_withoutPrime 16 = .ok (.i2l, 1) := by decide +kernel
theorem dX0_withoutPrime_17 : decode cX0_withoutPrime 17 = .ok (.lrem, 1) := by decide +kernel
theorem dX0_withoutPrime_18 : decode cX0_withoutPrime 18 = .ok (.lconst 0, 1) := by decide +kernel
theorem dX0_withoutPrime_19 : decode cX0_withoutPrime 19 = .ok (.lcmp, 1) := by decide +kernel
theorem dX0_withoutPrime_20 : decode cX0_withoutPrime 20 = .ok (.ifCond .ne 33, 3) := by decide +kernel
theorem dX0_withoutPrime_23 : decode cX0_withoutPrime 23 = .ok (.lload 5, 2) := by decide +kernel
theorem dX0_withoutPrime_25 : decode cX0_withoutPrime 25 = .ok (.iload_n 2, 1) := by decide +kernel
theorem dX0_withoutPrime_26 : decode cX0_withoutPrime 26 = .ok (.i2l, 1) := by decide +kernel
theorem dX0_withoutPrime_27 : decode cX0_withoutPrime 27 = .ok (.ldiv, 1) := by decide +kernel
theorem dX0_withoutPrime_28 : decode cX0_withoutPrime 28 = .ok (.lload_n 3, 1) := by decide +kernel
theorem dX0_withoutPrime_29 : decode cX0_withoutPrime 29 = .ok (.invokestatic 93, 3) := by decide +kernel
theorem dX0_withoutPrime_32 : decode cX0_withoutPrime 32 = .ok (.lconst 1, 1) := by decide +kernel
theorem dX0_withoutPrime_33 : decode cX0_withoutPrime 33 = .ok (.lcmp, 1) := by decide +kernel
theorem dX0_withoutPrime_34 : decode cX0_withoutPrime 34 = .ok (.ifCond .eq 6, 3) := by decide +kernel
theorem dX0_withoutPrime_37 : decode cX0_withoutPrime 37 = .ok (.goto 16, 3) := by decide +kernel
theorem dX0_withoutPrime_40 : decode cX0_withoutPrime 40 = .ok (.lload 5, 2) := by decide +kernel
theorem dX0_withoutPrime_42 : decode cX0_withoutPrime 42 = .ok (.iload_n 2, 1) := by decide +kernel
theorem dX0_withoutPrime_43 : decode cX0_withoutPrime 43 = .ok (.i2l, 1) := by decide +kernel
theorem dX0_withoutPrime_44 : decode cX0_withoutPrime 44 = .ok (.ldiv, 1) := by decide +kernel
theorem dX0_withoutPrime_45 : decode cX0_withoutPrime 45 = .ok (.lstore 5, 2) := by decide +kernel
theorem dX0_withoutPrime_47 : decode cX0_withoutPrime 47 = .ok (.iinc 7 1, 3) := by decide +kernel
theorem dX0_withoutPrime_50 : decode cX0_withoutPrime 50 = .ok (.goto (-44), 3) := by decide +kernel
theorem dX0_withoutPrime_53 : decode cX0_withoutPrime 53 = .ok (.lload 5, 2) := by decide +kernel
theorem dX0_withoutPrime_55 : decode cX0_withoutPrime 55 = .ok (.lreturn, 1) := by decide +kernel
theorem dX0_leastCommonMultiple_0 : decode cX0_leastCommonMultiple 0 = .ok (.lload_n 0, 1) := by decide +kernel
theorem dX0_leastCommonMultiple_1 : decode cX0_leastCommonMultiple 1 = .ok (.lstore 4, 2) := by decide +kernel
theorem dX0_leastCommonMultiple_3 : decode cX0_leastCommonMultiple 3 = .ok (.lload_n 2, 1) := by decide +kernel
theorem dX0_leastCommonMultiple_4 : decode cX0_leastCommonMultiple 4 = .ok (.lstore 6, 2) := by decide +kernel
theorem dX0_leastCommonMultiple_6 : decode cX0_leastCommonMultiple 6 = .ok (.iconst 0, 1) := by decide +kernel
theorem dX0_leastCommonMultiple_7 : decode cX0_leastCommonMultiple 7 = .ok (.istore 8, 2) := by decide +kernel
theorem dX0_leastCommonMultiple_9 : decode cX0_leastCommonMultiple 9 = .ok (.iload 8, 2) := by decide +kernel
theorem dX0_leastCommonMultiple_11 : decode cX0_leastCommonMultiple 11 = .ok (.bipush 100, 2) := by decide +kernel
theorem dX0_leastCommonMultiple_13 : decode cX0_leastCommonMultiple 13 = .ok (.if_icmp .ge 31, 3) := by decide +kernel
theorem dX0_leastCommonMultiple_16 : decode cX0_leastCommonMultiple 16 = .ok (.lload 6, 2) := by decide +kernel
theorem dX0_leastCommonMultiple_18 : decode cX0_leastCommonMultiple 18 = .ok (.lconst 0, 1) := by decide +kernel
theorem dX0_leastCommonMultiple_19 : decode cX0_leastCommonMultiple 19 = .ok (.lcmp, 1) := by decide +kernel
theorem dX0_leastCommonMultiple_20 : decode cX0_leastCommonMultiple 20 = .ok (.ifCond .eq 24, 3) := by decide +kernel
theorem dX0_leastCommonMultiple_23 : decode cX0_leastCommonMultiple 23 = .ok (.lload 4, 2) := by decide +kernel
theorem dX0_leastCommonMultiple_25 : decode cX0_leastCommonMultiple 25 = .ok (.lload 6, 2) := by decide +kernel
theorem dX0_leastCommonMultiple_27 : decode cX0_leastCommonMultiple 27 = .ok (.lrem, 1) := by decide +kernel
theorem dX0_leastCommonMultiple_28 : decode cX0_leastCommonMultiple 28 = .ok (.lstore 9, 2) := by decide +kernel
theorem dX0_leastCommonMultiple_30 : decode cX0_leastCommonMultiple 30 = .ok (.lload 6, 2) := by decide +kernel
theorem dX0_leastCommonMultiple_32 : decode cX0_leastCommonMultiple 32 = .ok (.lstore 4, 2) := by decide +kernel
theorem dX0_leastCommonMultiple_34 : decode cX0_leastCommonMultiple 34 = .ok (.lload 9, 2) := by decide +kernel
theorem dX0_leastCommonMultiple_36 : decode cX0_leastCommonMultiple 36 = .ok (.lstore 6, 2) := by decide +kernel
theorem dX0_leastCommonMultiple_38 : decode cX0_leastCommonMultiple 38 = .ok (.iinc 8 1, 3) := by decide +kernel
theorem dX0_leastCommonMultiple_41 : decode cX0_leastCommonMultiple 41 = .ok (.goto (-32), 3) := by decide +kernel
theorem dX0_leastCommonMultiple_44 : decode cX0_leastCommonMultiple 44 = .ok (.lload 4, 2) := by decide +kernel
theorem dX0_leastCommonMultiple_46 : decode cX0_leastCommonMultiple 46 = .ok (.lconst 0, 1) := by decide +kernel
theorem dX0_leastCommonMultiple_47 : decode cX0_leastCommonMultiple 47 = .ok (.lcmp, 1) := by decide +kernel
theorem dX0_leastCommonMultiple_48 : decode cX0_leastCommonMultiple 48 = .ok (.ifCond .ne 7, 3) := by decide +kernel
theorem dX0_leastCommonMultiple_51 : decode cX0_leastCommonMultiple 51 = .ok (.lconst 0, 1) := by decide +kernel
theorem dX0_leastCommonMultiple_52 : decode cX0_leastCommonMultiple 52 = .ok (.goto 9, 3) := by decide +kernel
theorem dX0_leastCommonMultiple_55 : decode cX0_leastCommonMultiple 55 = .ok (.lload_n 0, 1) := by decide +kernel
theorem dX0_leastCommonMultiple_56 : decode cX0_leastCommonMultiple 56 = .ok (.lload 4, 2) := by decide +kernel
theorem dX0_leastCommonMultiple_58 : decode cX0_leastCommonMultiple 58 = .ok (.ldiv, 1) := by decide +kernel
theorem dX0_leastCommonMultiple_59 : decode cX0_leastCommonMultiple 59 = .ok (.lload_n 2, 1) := by decide +kernel
theorem dX0_leastCommonMultiple_60 : decode cX0_leastCommonMultiple 60 = .ok (.lmul, 1) := by decide +kernel
theorem dX0_leastCommonMultiple_61 : decode cX0_leastCommonMultiple 61 = .ok (.lreturn, 1) := by decide +kernel
end
section
theorem dX1_init_0 : decode cX1_init 0 = .ok (.aload_n 0, 1) := by decide +kernel
theorem dX1_init_1 : decode cX1_init 1 = .ok (.invokespecial 3, 3) := by decide +kernel
theorem dX1_init_4 : decode cX1_init 4 = .ok (.aload_n 0, 1) := by decide +kernel
theorem dX1_init_5 : decode cX1_init 5 = .ok (.new 9, 3) := by decide +kernel
theorem dX1_init_8 : decode cX1_init 8 = .ok (.dup, 1) := by decide +kernel
theorem dX1_init_9 : decode cX1_init 9 = .ok (.invokespecial 11, 3) := by decide +kernel
theorem dX1_init_12 : decode cX1_init 12 = .ok (.putfield 12, 3) := by decide +kernel
theorem dX1_init_15 : decode cX1_init 15 = .ok (.aload_n 0, 1) := by decide +kernel
theorem dX1_init_16 : decode cX1_init 16 = .ok (.new 18, 3) := by decide +kernel
theorem dX1_init_19 : decode cX1_init 19 = .ok (.dup, 1) := by decide +kernel
theorem dX1_init_20 : decode cX1_init 20 = .ok (.invokespecial 20, 3) := by decide +kernel
theorem dX1_init_23 : decode cX1_init 23 = .ok (.putfield 21, 3) := by decide +kernel
theorem dX1_init_26 : decode cX1_init 26 = .ok (.return_, 1) := by decide +kernel
theorem dX1_become_0 : decode cX1_become 0 = .ok (.aload_n 0, 1) := by decide +kernel
theorem dX1_become_1 : decode cX1_become 1 = .ok (.iload_n 1, 1) := by decide +kernel
theorem dX1_become_2 : decode cX1_become 2 = .ok (.putfield 25, 3) := by decide +kernel
theorem dX1_become_5 : decode cX1_become 5 = .ok (.aload_n 0, 1) := by decide +kernel
theorem dX1_become_6 : decode cX1_become 6 = .ok (.lconst 1, 1) := by decide +kernel
theorem dX1_become_7 : decode cX1_become 7 = .ok (.iload_n 1, 1) := by decide +kernel
theorem dX1_become_8 : decode cX1_become 8 = .ok (.lshl, 1) := by decide +kernel
theorem dX1_become_9 : decode cX1_become 9 = .ok (.lload_n 2, 1) := by decide +kernel
theorem dX1_become_10 : decode cX1_become 10 = .ok (.lor, 1) := by decide +kernel
theorem dX1_become_11 : decode cX1_become 11 = .ok (.putfield 29, 3) := by decide +kernel
theorem dX1_become_14 : decode cX1_become 14 = .ok (.aload_n 0, 1) := by decide +kernel
theorem dX1_become_15 : decode cX1_become 15 = .ok (.lload 4, 2) := by decide +kernel
theorem dX1_become_17 : decode cX1_become 17 = .ok (.putfield 33, 3) := by decide +kernel
theorem dX1_become_20 : decode cX1_become 20 = .ok (.aload_n 0, 1) := by decide +kernel
theorem dX1_become_21 : decode cX1_become 21 = .ok (.lload 6, 2) := by decide +kernel
theorem dX1_become_23 : decode cX1_become 23 = .ok (.putfield 36, 3) := by decide +kernel
theorem dX1_become_26 : decode cX1_become 26 = .ok (.aload_n 0, 1) := by decide +kernel
theorem dX1_become_27 : decode cX1_become 27 = .ok (.iload 8, 2) := by decide +kernel
theorem dX1_become_29 : decode cX1_become 29 = .ok (.putfield 39, 3) := by decide +kernel
theorem dX1_become_32 : decode cX1_become 32 = .ok (.aload_n 0, 1) := by decide +kernel
theorem dX1_become_33 : decode cX1_become 33 = .ok (.iload 9, 2) := by decide +kernel
theorem dX1_become_35 : decode cX1_become 35 = .ok (.putfield 43, 3) := by decide +kernel
theorem dX1_become_38 : decode cX1_become 38 = .ok (.return_, 1) := by decide +kernel
theorem dX1_sumOf_0 : decode cX1_sumOf 0 = .ok (.aload_n 0, 1) := by decide +kernel
theorem dX1_sumOf_1 : decode cX1_sumOf 1 = .ok (.getfield 43, 3) := by decide +kernel
theorem dX1_sumOf_4 : decode cX1_sumOf 4 = .ok (.ifCond .eq 14, 3) := by decide +kernel
theorem dX1_sumOf_7 : decode cX1_sumOf 7 = .ok (.lload_n 1, 1) := by decide +kernel
theorem dX1_sumOf_8 : decode cX1_sumOf 8 = .ok (.aload_n 0, 1) := by decide +kernel
theorem dX1_sumOf_9 : decode cX1_sumOf 9 = .ok (.getfield 25, 3) := by decide +kernel
theorem dX1_sumOf_12 : decode cX1_sumOf 12 = .ok (.invokestatic 46, 3) := by decide +kernel
theorem dX1_sumOf_15 : decode cX1_sumOf 15 = .ok (.goto 4, 3) := by decide +kernel
theorem dX1_sumOf_18 : decode cX1_sumOf 18 = .ok (.lload_n 1, 1) := by decide +kernel
theorem dX1_sumOf_19 : decode cX1_sumOf 19 = .ok (.aload_n 0, 1) := by decide +kernel
theorem dX1_sumOf_20 : decode cX1_sumOf 20 = .ok (.getfield 36, 3) := by decide +kernel
theorem dX1_sumOf_23 : decode cX1_sumOf 23 = .ok (.lxor, 1) := by decide +kernel
theorem dX1_sumOf_24 : decode cX1_sumOf 24 = .ok (.lreturn, 1) := by decide +kernel
theorem dX1_registerOf_0 : decode cX1_registerOf 0 = .ok (.aload_n 0, 1) := by decide +kernel
theorem dX1_registerOf_1 : decode cX1_registerOf 1 = .ok (.getfield 43, 3) := by decide +kernel
theorem dX1_registerOf_4 : decode cX1_registerOf 4 = .ok (.ifCond .eq 19, 3) := by decide +kernel
theorem dX1_registerOf_7 : decode cX1_registerOf 7 = .ok (.lload_n 1, 1) := by decide +kernel
theorem dX1_registerOf_8 : decode cX1_registerOf 8 = .ok (.aload_n 0, 1) := by decide +kernel
theorem dX1_registerOf_9 : decode cX1_registerOf 9 = .ok (.getfield 36, 3) := by decide +kernel
theorem dX1_registerOf_12 : decode cX1_registerOf 12 = .ok (.lxor, 1) := by decide +kernel
theorem dX1_registerOf_13 : decode cX1_registerOf 13 = .ok (.aload_n 0, 1) := by decide +kernel
theorem dX1_registerOf_14 : decode cX1_registerOf 14 = .ok (.getfield 25, 3) := by decide +kernel
theorem dX1_registerOf_17 : decode cX1_registerOf 17 = .ok (.invokestatic 46, 3) := by decide +kernel
theorem dX1_registerOf_20 : decode cX1_registerOf 20 = .ok (.goto 9, 3) := by decide +kernel
theorem dX1_registerOf_23 : decode cX1_registerOf 23 = .ok (.lload_n 1, 1) := by decide +kernel
theorem dX1_registerOf_24 : decode cX1_registerOf 24 = .ok (.aload_n 0, 1) := by decide +kernel
theorem dX1_registerOf_25 : decode cX1_registerOf 25 = .ok (.getfield 36, 3) := by decide +kernel
theorem dX1_registerOf_28 : decode cX1_registerOf 28 = .ok (.lxor, 1) := by decide +kernel
theorem dX1_registerOf_29 : decode cX1_registerOf 29 = .ok (.lreturn, 1) := by decide +kernel
theorem dX1_behindOctet_0 : decode cX1_behindOctet 0 = .ok (.lload_n 1, 1) := by decide +kernel
theorem dX1_behindOctet_1 : decode cX1_behindOctet 1 = .ok (.lstore 4, 2) := by decide +kernel
theorem dX1_behindOctet_3 : decode cX1_behindOctet 3 = .ok (.iconst 0, 1) := by decide +kernel
theorem dX1_behindOctet_4 : decode cX1_behindOctet 4 = .ok (.istore 6, 2) := by decide +kernel
theorem dX1_behindOctet_6 : decode cX1_behindOctet 6 = .ok (.iload 6, 2) := by decide +kernel
theorem dX1_behindOctet_8 : decode cX1_behindOctet 8 = .ok (.bipush 8, 2) := by decide +kernel
theorem dX1_behindOctet_10 : decode cX1_behindOctet 10 = .ok (.if_icmp .ge 58, 3) := by decide +kernel
theorem dX1_behindOctet_13 : decode cX1_behindOctet 13 = .ok (.iload_n 3, 1) := by decide +kernel
theorem dX1_behindOctet_14 : decode cX1_behindOctet 14 = .ok (.aload_n 0, 1) := by decide +kernel
theorem dX1_behindOctet_15 : decode cX1_behindOctet 15 = .ok (.getfield 39, 3) := by decide +kernel
theorem dX1_behindOctet_18 : decode cX1_behindOctet 18 = .ok (.ifCond .eq 8, 3) := by decide +kernel
theorem dX1_behindOctet_21 : decode cX1_behindOctet 21 = .ok (.iload 6, 2) := by decide +kernel
theorem dX1_behindOctet_23 : decode cX1_behindOctet 23 = .ok (.goto 8, 3) := by decide +kernel
theorem dX1_behindOctet_26 : decode cX1_behindOctet 26 = .ok (.bipush 7, 2) := by decide +kernel
theorem dX1_behindOctet_28 : decode cX1_behindOctet 28 = .ok (.iload 6, 2) := by decide +kernel
theorem dX1_behindOctet_30 : decode cX1_behindOctet 30 = .ok (.isub, 1) := by decide +kernel
theorem dX1_behindOctet_31 : decode cX1_behindOctet 31 = .ok (.ishr, 1) := by decide +kernel
theorem dX1_behindOctet_32 : decode cX1_behindOctet 32 = .ok (.iconst 1, 1) := by decide +kernel
theorem dX1_behindOctet_33 : decode cX1_behindOctet 33 = .ok (.iand, 1) := by decide +kernel
theorem dX1_behindOctet_34 : decode cX1_behindOctet 34 = .ok (.i2l, 1) := by decide +kernel
theorem dX1_behindOctet_35 : decode cX1_behindOctet 35 = .ok (.lstore 7, 2) := by decide +kernel
theorem dX1_behindOctet_37 : decode cX1_behindOctet 37 = .ok (.lload 4, 2) := by decide +kernel
theorem dX1_behindOctet_39 : decode cX1_behindOctet 39 = .ok (.lload 7, 2) := by decide +kernel
theorem dX1_behindOctet_41 : decode cX1_behindOctet 41 = .ok (.aload_n 0, 1) := by decide +kernel
theorem dX1_behindOctet_42 : decode cX1_behindOctet 42 = .ok (.getfield 25, 3) := by decide +kernel
theorem dX1_behindOctet_45 : decode cX1_behindOctet 45 = .ok (.iconst 1, 1) := by decide +kernel
theorem dX1_behindOctet_46 : decode cX1_behindOctet 46 = .ok (.isub, 1) := by decide +kernel
theorem dX1_behindOctet_47 : decode cX1_behindOctet 47 = .ok (.lshl, 1) := by decide +kernel
theorem dX1_behindOctet_48 : decode cX1_behindOctet 48 = .ok (.lxor, 1) := by decide +kernel
theorem dX1_behindOctet_49 : decode cX1_behindOctet 49 = .ok (.aload_n 0, 1) := by decide +kernel
theorem dX1_behindOctet_50 : decode cX1_behindOctet 50 = .ok (.getfield 29, 3) := by decide +kernel
theorem dX1_behindOctet_53 : decode cX1_behindOctet 53 = .ok (.aload_n 0, 1) := by decide +kernel
theorem dX1_behindOctet_54 : decode cX1_behindOctet 54 = .ok (.getfield 25, 3) := by decide +kernel
theorem dX1_behindOctet_57 : decode cX1_behindOctet 57 = .ok (.invokestatic 50, 3) := by decide +kernel
theorem dX1_behindOctet_60 : decode cX1_behindOctet 60 = .ok (.lstore 4, 2) := by decide +kernel
theorem dX1_behindOctet_62 : decode cX1_behindOctet 62 = .ok (.iinc 6 1, 3) := by decide +kernel
theorem dX1_behindOctet_65 : decode cX1_behindOctet 65 = .ok (.goto (-59), 3) := by decide +kernel
theorem dX1_behindOctet_68 : decode cX1_behindOctet 68 = .ok (.lload 4, 2) := by decide +kernel
theorem dX1_behindOctet_70 : decode cX1_behindOctet 70 = .ok (.lreturn, 1) := by decide +kernel
theorem dX1_movedDown_0 : decode cX1_movedDown 0 = .ok (.lload_n 1, 1) := by decide +kernel
theorem dX1_movedDown_1 : decode cX1_movedDown 1 = .ok (.lconst 1, 1) := by decide +kernel
theorem dX1_movedDown_2 : decode cX1_movedDown 2 = .ok (.land, 1) := by decide +kernel
theorem dX1_movedDown_3 : decode cX1_movedDown 3 = .ok (.lconst 0, 1) := by decide +kernel
theorem dX1_movedDown_4 : decode cX1_movedDown 4 = .ok (.lcmp, 1) := by decide +kernel
theorem dX1_movedDown_5 : decode cX1_movedDown 5 = .ok (.ifCond .eq 12, 3) := by decide +kernel
theorem dX1_movedDown_8 : decode cX1_movedDown 8 = .ok (.lload_n 1, 1) := by decide +kernel
theorem dX1_movedDown_9 : decode cX1_movedDown 9 = .ok (.aload_n 0, 1) := by decide +kernel
theorem dX1_movedDown_10 : decode cX1_movedDown 10 = .ok (.getfield 29, 3) := by decide +kernel
theorem dX1_movedDown_13 : decode cX1_movedDown 13 = .ok (.lxor, 1) := by decide +kernel
theorem dX1_movedDown_14 : decode cX1_movedDown 14 = .ok (.goto 4, 3) := by decide +kernel
theorem dX1_movedDown_17 : decode cX1_movedDown 17 = .ok (.lload_n 1, 1) := by decide +kernel
theorem dX1_movedDown_18 : decode cX1_movedDown 18 = .ok (.iconst 1, 1) := by decide +kernel
theorem dX1_movedDown_19 : decode cX1_movedDown 19 = .ok (.lushr, 1) := by decide +kernel
theorem dX1_movedDown_20 : decode cX1_movedDown 20 = .ok (.lreturn, 1) := by decide +kernel
theorem dX1_movedByOctets_0 : decode cX1_movedByOctets 0 = .ok (.lconst 1, 1) := by decide +kernel
theorem dX1_movedByOctets_1 : decode cX1_movedByOctets 1 = .ok (.lstore 5, 2) := by decide +kernel
theorem dX1_movedByOctets_3 : decode cX1_movedByOctets 3 = .ok (.iconst 0, 1) := by decide +kernel
theorem dX1_movedByOctets_4 : decode cX1_movedByOctets 4 = .ok (.istore 7, 2) := by decide +kernel
theorem dX1_movedByOctets_6 : decode cX1_movedByOctets 6 = .ok (.iload 7, 2) := by decide +kernel
theorem dX1_movedByOctets_8 : decode cX1_movedByOctets 8 = .ok (.bipush 8, 2) := by decide +kernel
theorem dX1_movedByOctets_10 : decode cX1_movedByOctets 10 = .ok (.if_icmp .ge 24, 3) := by decide +kernel
theorem dX1_movedByOctets_13 : decode cX1_movedByOctets 13 = .ok (.lload 5, 2) := by decide +kernel
theorem dX1_movedByOctets_15 : decode cX1_movedByOctets 15 = .ok (.aload_n 0, 1) := by decide +kernel
theorem dX1_movedByOctets_16 : decode cX1_movedByOctets 16 = .ok (.getfield 29, 3) := by decide +kernel
theorem dX1_movedByOctets_19 : decode cX1_movedByOctets 19 = .ok (.aload_n 0, 1) := by decide +kernel
theorem dX1_movedByOctets_20 : decode cX1_movedByOctets 20 = .ok (.getfield 25, 3) := by decide +kernel
theorem dX1_movedByOctets_23 : decode cX1_movedByOctets 23 = .ok (.invokestatic 50, 3) := by decide +kernel
theorem dX1_movedByOctets_26 : decode cX1_movedByOctets 26 = .ok (.lstore 5, 2) := by decide +kernel
theorem dX1_movedByOctets_28 : decode cX1_movedByOctets 28 = .ok (.iinc 7 1, 3) := by decide +kernel
theorem dX1_movedByOctets_31 : decode cX1_movedByOctets 31 = .ok (.goto (-25), 3) := by decide +kernel
theorem dX1_movedByOctets_34 : decode cX1_movedByOctets 34 = .ok (.lload_n 1, 1) := by decide +kernel
theorem dX1_movedByOctets_35 : decode cX1_movedByOctets 35 = .ok (.lstore 7, 2) := by decide +kernel
theorem dX1_movedByOctets_37 : decode cX1_movedByOctets 37 = .ok (.iconst 0, 1) := by decide +kernel
theorem dX1_movedByOctets_38 : decode cX1_movedByOctets 38 = .ok (.istore 9, 2) := by decide +kernel
theorem dX1_movedByOctets_40 : decode cX1_movedByOctets 40 = .ok (.iload 9, 2) := by decide +kernel
theorem dX1_movedByOctets_42 : decode cX1_movedByOctets 42 = .ok (.bipush 61, 2) := by decide +kernel
theorem dX1_movedByOctets_44 : decode cX1_movedByOctets 44 = .ok (.if_icmp .ge 55, 3) := by decide +kernel
theorem dX1_movedByOctets_47 : decode cX1_movedByOctets 47 = .ok (.lload_n 3, 1) := by decide +kernel
theorem dX1_movedByOctets_48 : decode cX1_movedByOctets 48 = .ok (.iload 9, 2) := by decide +kernel
theorem dX1_movedByOctets_50 : decode cX1_movedByOctets 50 = .ok (.lushr, 1) := by decide +kernel
theorem dX1_movedByOctets_51 : decode cX1_movedByOctets 51 = .ok (.lconst 0, 1) := by decide +kernel
theorem dX1_movedByOctets_52 : decode cX1_movedByOctets 52 = .ok (.lcmp, 1) := by decide +kernel
theorem dX1_movedByOctets_53 : decode cX1_movedByOctets 53 = .ok (.ifCond .eq 46, 3) := by decide +kernel
theorem dX1_movedByOctets_56 : decode cX1_movedByOctets 56 = .ok (.lload_n 3, 1) := by decide +kernel
theorem dX1_movedByOctets_57 : decode cX1_movedByOctets 57 = .ok (.iload 9, 2) := by decide +kernel
theorem dX1_movedByOctets_59 : decode cX1_movedByOctets 59 = .ok (.lushr, 1) := by decide +kernel
theorem dX1_movedByOctets_60 : decode cX1_movedByOctets 60 = .ok (.lconst 1, 1) := by decide +kernel
theorem dX1_movedByOctets_61 : decode cX1_movedByOctets 61 = .ok (.land, 1) := by decide +kernel
theorem dX1_movedByOctets_62 : decode cX1_movedByOctets 62 = .ok (.lconst 0, 1) := by decide +kernel
theorem dX1_movedByOctets_63 : decode cX1_movedByOctets 63 = .ok (.lcmp, 1) := by decide +kernel
theorem dX1_movedByOctets_64 : decode cX1_movedByOctets 64 = .ok (.ifCond .eq 16, 3) := by decide +kernel
theorem dX1_movedByOctets_67 : decode cX1_movedByOctets 67 = .ok (.lload 7, 2) := by decide +kernel
theorem dX1_movedByOctets_69 : decode cX1_movedByOctets 69 = .ok (.lload 5, 2) := by decide +kernel
theorem dX1_movedByOctets_71 : decode cX1_movedByOctets 71 = .ok (.aload_n 0, 1) := by decide +kernel
theorem dX1_movedByOctets_72 : decode cX1_movedByOctets 72 = .ok (.getfield 29, 3) := by decide +kernel
theorem dX1_movedByOctets_75 : decode cX1_movedByOctets 75 = .ok (.invokestatic 56, 3) := by decide +kernel
theorem dX1_movedByOctets_78 : decode cX1_movedByOctets 78 = .ok (.lstore 7, 2) := by decide +kernel
theorem dX1_movedByOctets_80 : decode cX1_movedByOctets 80 = .ok (.lload 5, 2) := by decide +kernel
theorem dX1_movedByOctets_82 : decode cX1_movedByOctets 82 = .ok (.lload 5, 2) := by decide +kernel
theorem dX1_movedByOctets_84 : decode cX1_movedByOctets 84 = .ok (.aload_n 0, 1) := by decide +kernel
theorem dX1_movedByOctets_85 : decode cX1_movedByOctets 85 = .ok (.getfield 29, 3) := by decide +kernel
theorem dX1_movedByOctets_88 : decode cX1_movedByOctets 88 = .ok (.invokestatic 56, 3) := by decide +kernel
theorem dX1_movedByOctets_91 : decode cX1_movedByOctets 91 = .ok (.lstore 5, 2) := by decide +kernel
theorem dX1_movedByOctets_93 : decode cX1_movedByOctets 93 = .ok (.iinc 9 1, 3) := by decide +kernel
theorem dX1_movedByOctets_96 : decode cX1_movedByOctets 96 = .ok (.goto (-56), 3) := by decide +kernel
theorem dX1_movedByOctets_99 : decode cX1_movedByOctets 99 = .ok (.lload 7, 2) := by decide +kernel
theorem dX1_movedByOctets_101 : decode cX1_movedByOctets 101 = .ok (.lreturn, 1) := by decide +kernel
theorem dX1_octetsBetween_0 : decode cX1_octetsBetween 0 = .ok (.lload_n 3, 1) := by decide +kernel
theorem dX1_octetsBetween_1 : decode cX1_octetsBetween 1 = .ok (.lstore 5, 2) := by decide +kernel
theorem dX1_octetsBetween_3 : decode cX1_octetsBetween 3 = .ok (.iconst 0, 1) := by decide +kernel
theorem dX1_octetsBetween_4 : decode cX1_octetsBetween 4 = .ok (.istore 7, 2) := by decide +kernel
theorem dX1_octetsBetween_6 : decode cX1_octetsBetween 6 = .ok (.iload 7, 2) := by decide +kernel
theorem dX1_octetsBetween_8 : decode cX1_octetsBetween 8 = .ok (.aload_n 0, 1) := by decide +kernel
theorem dX1_octetsBetween_9 : decode cX1_octetsBetween 9 = .ok (.getfield 25, 3) := by decide +kernel
theorem dX1_octetsBetween_12 : decode cX1_octetsBetween 12 = .ok (.if_icmp .ge 17, 3) := by decide +kernel
theorem dX1_octetsBetween_15 : decode cX1_octetsBetween 15 = .ok (.aload_n 0, 1) := by decide +kernel
theorem dX1_octetsBetween_16 : decode cX1_octetsBetween 16 = .ok (.lload 5, 2) := by decide +kernel
theorem dX1_octetsBetween_18 : decode cX1_octetsBetween 18 = .ok (.invokevirtual 60, 3) := by decide +kernel
theorem dX1_octetsBetween_21 : decode cX1_octetsBetween 21 = .ok (.lstore 5, 2) := by decide +kernel
theorem dX1_octetsBetween_23 : decode cX1_octetsBetween 23 = .ok (.iinc 7 1, 3) := by decide +kernel
theorem dX1_octetsBetween_26 : decode cX1_octetsBetween 26 = .ok (.goto (-20), 3) := by decide +kernel
theorem dX1_octetsBetween_29 : decode cX1_octetsBetween 29 = .ok (.lload 5, 2) := by decide +kernel
theorem dX1_octetsBetween_31 : decode cX1_octetsBetween 31 = .ok (.lload_n 1, 1) := by decide +kernel
theorem dX1_octetsBetween_32 : decode cX1_octetsBetween 32 = .ok (.lxor, 1) := by decide +kernel
theorem dX1_octetsBetween_33 : decode cX1_octetsBetween 33 = .ok (.lstore 7, 2) := by decide +kernel
theorem dX1_octetsBetween_35 : decode cX1_octetsBetween 35 = .ok (.aload_n 0, 1) := by decide +kernel
theorem dX1_octetsBetween_36 : decode cX1_octetsBetween 36 = .ok (.getfield 39, 3) := by decide +kernel
theorem dX1_octetsBetween_39 : decode cX1_octetsBetween 39 = .ok (.ifCond .eq 12, 3) := by decide +kernel
theorem dX1_octetsBetween_42 : decode cX1_octetsBetween 42 = .ok (.aload_n 0, 1) := by decide +kernel
theorem dX1_octetsBetween_43 : decode cX1_octetsBetween 43 = .ok (.lload 7, 2) := by decide +kernel
theorem dX1_octetsBetween_45 : decode cX1_octetsBetween 45 = .ok (.invokevirtual 64, 3) := by decide +kernel
theorem dX1_octetsBetween_48 : decode cX1_octetsBetween 48 = .ok (.goto 5, 3) := by decide +kernel
theorem dX1_octetsBetween_51 : decode cX1_octetsBetween 51 = .ok (.lload 7, 2) := by decide +kernel
theorem dX1_octetsBetween_53 : decode cX1_octetsBetween 53 = .ok (.lreturn, 1) := by decide +kernel
theorem dX1_turnedByOctets_0 : decode cX1_turnedByOctets 0 = .ok (.lconst 0, 1) := by decide +kernel
theorem dX1_turnedByOctets_1 : decode cX1_turnedByOctets 1 = .ok (.lstore_n 3, 1) := by decide +kernel
theorem dX1_turnedByOctets_2 : decode cX1_turnedByOctets 2 = .ok (.iconst 0, 1) := by decide +kernel
theorem dX1_turnedByOctets_3 : decode cX1_turnedByOctets 3 = .ok (.istore 5, 2) := by decide +kernel
theorem dX1_turnedByOctets_5 : decode cX1_turnedByOctets 5 = .ok (.iload 5, 2) := by decide +kernel
theorem dX1_turnedByOctets_7 : decode cX1_turnedByOctets 7 = .ok (.aload_n 0, 1) := by decide +kernel
theorem dX1_turnedByOctets_8 : decode cX1_turnedByOctets 8 = .ok (.getfield 25, 3) := by decide +kernel
theorem dX1_turnedByOctets_11 : decode cX1_turnedByOctets 11 = .ok (.if_icmp .ge 28, 3) := by decide +kernel
theorem dX1_turnedByOctets_14 : decode cX1_turnedByOctets 14 = .ok (.lload_n 3, 1) := by decide +kernel
theorem dX1_turnedByOctets_15 : decode cX1_turnedByOctets 15 = .ok (.lload_n 1, 1) := by decide +kernel
theorem dX1_turnedByOctets_16 : decode cX1_turnedByOctets 16 = .ok (.iload 5, 2) := by decide +kernel
theorem dX1_turnedByOctets_18 : decode cX1_turnedByOctets 18 = .ok (.lushr, 1) := by decide +kernel
theorem dX1_turnedByOctets_19 : decode cX1_turnedByOctets 19 = .ok (.ldc2_w 67, 3) := by decide +kernel
theorem dX1_turnedByOctets_22 : decode cX1_turnedByOctets 22 = .ok (.land, 1) := by decide +kernel
theorem dX1_turnedByOctets_23 : decode cX1_turnedByOctets 23 = .ok (.bipush 8, 2) := by decide +kernel
theorem dX1_turnedByOctets_25 : decode cX1_turnedByOctets 25 = .ok (.invokestatic 46, 3) := by decide +kernel
theorem dX1_turnedByOctets_28 : decode cX1_turnedByOctets 28 = .ok (.iload 5, 2) := by decide +kernel
theorem dX1_turnedByOctets_30 : decode cX1_turnedByOctets 30 = .ok (.lshl, 1) := by decide +kernel
theorem dX1_turnedByOctets_31 : decode cX1_turnedByOctets 31 = .ok (.lor, 1) := by decide +kernel
theorem dX1_turnedByOctets_32 : decode cX1_turnedByOctets 32 = .ok (.lstore_n 3, 1) := by decide +kernel
theorem dX1_turnedByOctets_33 : decode cX1_turnedByOctets 33 = .ok (.iinc 5 8, 3) := by decide +kernel
theorem dX1_turnedByOctets_36 : decode cX1_turnedByOctets 36 = .ok (.goto (-31), 3) := by decide +kernel
theorem dX1_turnedByOctets_39 : decode cX1_turnedByOctets 39 = .ok (.lload_n 3, 1) := by decide +kernel
theorem dX1_turnedByOctets_40 : decode cX1_turnedByOctets 40 = .ok (.lreturn, 1) := by decide +kernel
theorem dX1_turned_0 : decode cX1_turned 0 = .ok (.lconst 0, 1) := by decide +kernel
theorem dX1_turned_1 : decode cX1_turned 1 = .ok (.lstore_n 3, 1) := by decide +kernel
theorem dX1_turned_2 : decode cX1_turned 2 = .ok (.iconst 0, 1) := by decide +kernel
theorem dX1_turned_3 : decode cX1_turned 3 = .ok (.istore 5, 2) := by decide +kernel
theorem dX1_turned_5 : decode cX1_turned 5 = .ok (.iload 5, 2) := by decide +kernel
theorem dX1_turned_7 : decode cX1_turned 7 = .ok (.iload_n 2, 1) := by decide +kernel
theorem dX1_turned_8 : decode cX1_turned 8 = .ok (.if_icmp .ge 20, 3) := by decide +kernel
theorem dX1_turned_11 : decode cX1_turned 11 = .ok (.lload_n 3, 1) := by decide +kernel
theorem dX1_turned_12 : decode cX1_turned 12 = .ok (.iconst 1, 1) := by decide +kernel
theorem dX1_turned_13 : decode cX1_turned 13 = .ok (.lshl, 1) := by decide +kernel
theorem dX1_turned_14 : decode cX1_turned 14 = .ok (.lload_n 0, 1) := by decide +kernel
theorem dX1_turned_15 : decode cX1_turned 15 = .ok (.iload 5, 2) := by decide +kernel
theorem dX1_turned_17 : decode cX1_turned 17 = .ok (.lushr, 1) := by decide +kernel
theorem dX1_turned_18 : decode cX1_turned 18 = .ok (.lconst 1, 1) := by decide +kernel
theorem dX1_turned_19 : decode cX1_turned 19 = .ok (.land, 1) := by decide +kernel
theorem dX1_turned_20 : decode cX1_turned 20 = .ok (.lor, 1) := by decide +kernel
theorem dX1_turned_21 : decode cX1_turned 21 = .ok (.lstore_n 3, 1) := by decide +kernel
theorem dX1_turned_22 : decode cX1_turned 22 = .ok (.iinc 5 1, 3) := by decide +kernel
theorem dX1_turned_25 : decode cX1_turned 25 = .ok (.goto (-20), 3) := by decide +kernel
theorem dX1_turned_28 : decode cX1_turned 28 = .ok (.lload_n 3, 1) := by decide +kernel
theorem dX1_turned_29 : decode cX1_turned 29 = .ok (.lreturn, 1) := by decide +kernel
end
section
theorem dX2_degree_0 : decode cX2_degree 0 = .ok (.lload_n 0, 1) := by decide +kernel
theorem dX2_degree_1 : decode cX2_degree 1 = .ok (.lconst 0, 1) := by decide +kernel
theorem dX2_degree_2 : decode cX2_degree 2 = .ok (.lcmp, 1) := by decide +kernel
theorem dX2_degree_3 : decode cX2_degree 3 = .ok (.ifCond .ne 5, 3) := by decide +kernel
theorem dX2_degree_6 : decode cX2_degree 6 = .ok (.iconst (-1), 1) := by decide +kernel
theorem dX2_degree_7 : decode cX2_degree 7 = .ok (.ireturn, 1) := by decide +kernel
theorem dX2_degree_8 : decode cX2_degree 8 = .ok (.iconst 0, 1) := by decide +kernel
theorem dX2_degree_9 : decode cX2_degree 9 = .ok (.istore_n 2, 1) := by decide +kernel
theorem dX2_degree_10 : decode cX2_degree 10 = .ok (.bipush 32, 2) := by decide +kernel
theorem dX2_degree_12 : decode cX2_degree 12 = .ok (.istore_n 3, 1) := by decide +kernel
theorem dX2_degree_13 : decode cX2_degree 13 = .ok (.iload_n 3, 1) := by decide +kernel
theorem dX2_degree_14 : decode cX2_degree 14 = .ok (.ifCond .le 24, 3) := by decide +kernel
theorem dX2_degree_17 : decode cX2_degree 17 = .ok (.lload_n 0, 1) := by decide +kernel
theorem dX2_degree_18 : decode cX2_degree 18 = .ok (.iload_n 2, 1) := by decide +kernel
theorem dX2_degree_19 : decode cX2_degree 19 = .ok (.iload_n 3, 1) := by decide +kernel
theorem dX2_degree_20 : decode cX2_degree 20 = .ok (.iadd, 1) := by decide +kernel
theorem dX2_degree_21 : decode cX2_degree 21 = .ok (.lushr, 1) := by decide +kernel
theorem dX2_degree_22 : decode cX2_degree 22 = .ok (.lconst 0, 1) := by decide +kernel
theorem dX2_degree_23 : decode cX2_degree 23 = .ok (.lcmp, 1) := by decide +kernel
theorem dX2_degree_24 : decode cX2_degree 24 = .ok (.ifCond .eq 7, 3) := by decide +kernel
theorem dX2_degree_27 : decode cX2_degree 27 = .ok (.iload_n 2, 1) := by decide +kernel
theorem dX2_degree_28 : decode cX2_degree 28 = .ok (.iload_n 3, 1) := by decide +kernel
theorem dX2_degree_29 : decode cX2_degree 29 = .ok (.iadd, 1) := by decide +kernel
theorem dX2_degree_30 : decode cX2_degree 30 = .ok (.istore_n 2, 1) := by decide +kernel
theorem dX2_degree_31 : decode cX2_degree 31 = .ok (.iload_n 3, 1) := by decide +kernel
theorem dX2_degree_32 : decode cX2_degree 32 = .ok (.iconst 1, 1) := by decide +kernel
theorem dX2_degree_33 : decode cX2_degree 33 = .ok (.ishr, 1) := by decide +kernel
theorem dX2_degree_34 : decode cX2_degree 34 = .ok (.istore_n 3, 1) := by decide +kernel
theorem dX2_degree_35 : decode cX2_degree 35 = .ok (.goto (-22), 3) := by decide +kernel
theorem dX2_degree_38 : decode cX2_degree 38 = .ok (.iload_n 2, 1) := by decide +kernel
theorem dX2_degree_39 : decode cX2_degree 39 = .ok (.ireturn, 1) := by decide +kernel
theorem dX2_remainder_0 : decode cX2_remainder 0 = .ok (.lload_n 2, 1) := by decide +kernel
theorem dX2_remainder_1 : decode cX2_remainder 1 = .ok (.invokestatic 7, 3) := by decide +kernel
theorem dX2_remainder_4 : decode cX2_remainder 4 = .ok (.istore 4, 2) := by decide +kernel
theorem dX2_remainder_6 : decode cX2_remainder 6 = .ok (.iload 4, 2) := by decide +kernel
theorem dX2_remainder_8 : decode cX2_remainder 8 = .ok (.ifCond .ge 5, 3) := by decide +kernel
theorem dX2_remainder_11 : decode cX2_remainder 11 = .ok (.lload_n 0, 1) := by decide +kernel
theorem dX2_remainder_12 : decode cX2_remainder 12 = .ok (.lreturn, 1) := by decide +kernel
theorem dX2_remainder_13 : decode cX2_remainder 13 = .ok (.lload_n 0, 1) := by decide +kernel
theorem dX2_remainder_14 : decode cX2_remainder 14 = .ok (.lstore 5, 2) := by decide +kernel
theorem dX2_remainder_16 : decode cX2_remainder 16 = .ok (.lload_n 0, 1) := by decide +kernel
theorem dX2_remainder_17 : decode cX2_remainder 17 = .ok (.invokestatic 7, 3) := by decide +kernel
theorem dX2_remainder_20 : decode cX2_remainder 20 = .ok (.istore 7, 2) := by decide +kernel
theorem dX2_remainder_22 : decode cX2_remainder 22 = .ok (.iload 7, 2) := by decide +kernel
theorem dX2_remainder_24 : decode cX2_remainder 24 = .ok (.iload 4, 2) := by decide +kernel
theorem dX2_remainder_26 : decode cX2_remainder 26 = .ok (.if_icmp .lt 33, 3) := by decide +kernel
theorem dX2_remainder_29 : decode cX2_remainder 29 = .ok (.lload 5, 2) := by decide +kernel
theorem dX2_remainder_31 : decode cX2_remainder 31 = .ok (.iload 7, 2) := by decide +kernel
theorem dX2_remainder_33 : decode cX2_remainder 33 = .ok (.lushr, 1) := by decide +kernel
theorem dX2_remainder_34 : decode cX2_remainder 34 = .ok (.lconst 1, 1) := by decide +kernel
theorem dX2_remainder_35 : decode cX2_remainder 35 = .ok (.land, 1) := by decide +kernel
theorem dX2_remainder_36 : decode cX2_remainder 36 = .ok (.lconst 0, 1) := by decide +kernel
theorem dX2_remainder_37 : decode cX2_remainder 37 = .ok (.lcmp, 1) := by decide +kernel
theorem dX2_remainder_38 : decode cX2_remainder 38 = .ok (.ifCond .eq 15, 3) := by decide +kernel
theorem dX2_remainder_41 : decode cX2_remainder 41 = .ok (.lload 5, 2) := by decide +kernel
theorem dX2_remainder_43 : decode cX2_remainder 43 = .ok (.lload_n 2, 1) := by decide +kernel
theorem dX2_remainder_44 : decode cX2_remainder 44 = .ok (.iload 7, 2) := by decide +kernel
theorem dX2_remainder_46 : decode cX2_remainder 46 = .ok (.iload 4, 2) := by decide +kernel
theorem dX2_remainder_48 : decode cX2_remainder 48 = .ok (.isub, 1) := by decide +kernel
theorem dX2_remainder_49 : decode cX2_remainder 49 = .ok (.lshl, 1) := by decide +kernel
theorem dX2_remainder_50 : decode cX2_remainder 50 = .ok (.lxor, 1) := by decide +kernel
theorem dX2_remainder_51 : decode cX2_remainder 51 = .ok (.lstore 5, 2) := by decide +kernel
theorem dX2_remainder_53 : decode cX2_remainder 53 = .ok (.iinc 7 (-1), 3) := by decide +kernel
theorem dX2_remainder_56 : decode cX2_remainder 56 = .ok (.goto (-34), 3) := by decide +kernel
theorem dX2_remainder_59 : decode cX2_remainder 59 = .ok (.lload 5, 2) := by decide +kernel
theorem dX2_remainder_61 : decode cX2_remainder 61 = .ok (.lreturn, 1) := by decide +kernel
theorem dX2_quotient_0 : decode cX2_quotient 0 = .ok (.lload_n 2, 1) := by decide +kernel
theorem dX2_quotient_1 : decode cX2_quotient 1 = .ok (.invokestatic 7, 3) := by decide +kernel
theorem dX2_quotient_4 : decode cX2_quotient 4 = .ok (.istore 4, 2) := by decide +kernel
theorem dX2_quotient_6 : decode cX2_quotient 6 = .ok (.iload 4, 2) := by decide +kernel
theorem dX2_quotient_8 : decode cX2_quotient 8 = .ok (.ifCond .ge 5, 3) := by decide +kernel
theorem dX2_quotient_11 : decode cX2_quotient 11 = .ok (.lconst 0, 1) := by decide +kernel
theorem dX2_quotient_12 : decode cX2_quotient 12 = .ok (.lreturn, 1) := by decide +kernel
theorem dX2_quotient_13 : decode cX2_quotient 13 = .ok (.lload_n 0, 1) := by decide +kernel
theorem dX2_quotient_14 : decode cX2_quotient 14 = .ok (.lstore 5, 2) := by decide +kernel
theorem dX2_quotient_16 : decode cX2_quotient 16 = .ok (.lconst 0, 1) := by decide +kernel
theorem dX2_quotient_17 : decode cX2_quotient 17 = .ok (.lstore 7, 2) := by decide +kernel
theorem dX2_quotient_19 : decode cX2_quotient 19 = .ok (.lload_n 0, 1) := by decide +kernel
theorem dX2_quotient_20 : decode cX2_quotient 20 = .ok (.invokestatic 7, 3) := by decide +kernel
theorem dX2_quotient_23 : decode cX2_quotient 23 = .ok (.istore 9, 2) := by decide +kernel
theorem dX2_quotient_25 : decode cX2_quotient 25 = .ok (.iload 9, 2) := by decide +kernel
theorem dX2_quotient_27 : decode cX2_quotient 27 = .ok (.iload 4, 2) := by decide +kernel
theorem dX2_quotient_29 : decode cX2_quotient 29 = .ok (.if_icmp .lt 45, 3) := by decide +kernel
theorem dX2_quotient_32 : decode cX2_quotient 32 = .ok (.lload 5, 2) := by decide +kernel
theorem dX2_quotient_34 : decode cX2_quotient 34 = .ok (.iload 9, 2) := by decide +kernel
theorem dX2_quotient_36 : decode cX2_quotient 36 = .ok (.lushr, 1) := by decide +kernel
theorem dX2_quotient_37 : decode cX2_quotient 37 = .ok (.lconst 1, 1) := by decide +kernel
theorem dX2_quotient_38 : decode cX2_quotient 38 = .ok (.land, 1) := by decide +kernel
theorem dX2_quotient_39 : decode cX2_quotient 39 = .ok (.lconst 0, 1) := by decide +kernel
theorem dX2_quotient_40 : decode cX2_quotient 40 = .ok (.lcmp, 1) := by decide +kernel
theorem dX2_quotient_41 : decode cX2_quotient 41 = .ok (.ifCond .eq 27, 3) := by decide +kernel
theorem dX2_quotient_44 : decode cX2_quotient 44 = .ok (.lload 5, 2) := by decide +kernel
theorem dX2_quotient_46 : decode cX2_quotient 46 = .ok (.lload_n 2, 1) := by decide +kernel
theorem dX2_quotient_47 : decode cX2_quotient 47 = .ok (.iload 9, 2) := by decide +kernel
theorem dX2_quotient_49 : decode cX2_quotient 49 = .ok (.iload 4, 2) := by decide +kernel
theorem dX2_quotient_51 : decode cX2_quotient 51 = .ok (.isub, 1) := by decide +kernel
theorem dX2_quotient_52 : decode cX2_quotient 52 = .ok (.lshl, 1) := by decide +kernel
theorem dX2_quotient_53 : decode cX2_quotient 53 = .ok (.lxor, 1) := by decide +kernel
theorem dX2_quotient_54 : decode cX2_quotient 54 = .ok (.lstore 5, 2) := by decide +kernel
theorem dX2_quotient_56 : decode cX2_quotient 56 = .ok (.lload 7, 2) := by decide +kernel
theorem dX2_quotient_58 : decode cX2_quotient 58 = .ok (.lconst 1, 1) := by decide +kernel
theorem dX2_quotient_59 : decode cX2_quotient 59 = .ok (.iload 9, 2) := by decide +kernel
theorem dX2_quotient_61 : decode cX2_quotient 61 = .ok (.iload 4, 2) := by decide +kernel
theorem dX2_quotient_63 : decode cX2_quotient 63 = .ok (.isub, 1) := by decide +kernel
theorem dX2_quotient_64 : decode cX2_quotient 64 = .ok (.lshl, 1) := by decide +kernel
theorem dX2_quotient_65 : decode cX2_quotient 65 = .ok (.lor, 1) := by decide +kernel
theorem dX2_quotient_66 : decode cX2_quotient 66 = .ok (.lstore 7, 2) := by decide +kernel
theorem dX2_quotient_68 : decode cX2_quotient 68 = .ok (.iinc 9 (-1), 3) := by decide +kernel
theorem dX2_quotient_71 : decode cX2_quotient 71 = .ok (.goto (-46), 3) := by decide +kernel
theorem dX2_quotient_74 : decode cX2_quotient 74 = .ok (.lload 7, 2) := by decide +kernel
theorem dX2_quotient_76 : decode cX2_quotient 76 = .ok (.lreturn, 1) := by decide +kernel
theorem dX2_greatestCommon_0 : decode cX2_greatestCommon 0 = .ok (.lload_n 0, 1) := by decide +kernel
theorem dX2_greatestCommon_1 : decode cX2_greatestCommon 1 = .ok (.lstore 4, 2) := by decide +kernel
theorem dX2_greatestCommon_3 : decode cX2_greatestCommon 3 = .ok (.lload_n 2, 1) := by decide +kernel
theorem dX2_greatestCommon_4 : decode cX2_greatestCommon 4 = .ok (.lstore 6, 2) := by decide +kernel
theorem dX2_greatestCommon_6 : decode cX2_greatestCommon 6 = .ok (.iconst 0, 1) := by decide +kernel
theorem dX2_greatestCommon_7 : decode cX2_greatestCommon 7 = .ok (.istore 8, 2) := by decide +kernel
theorem dX2_greatestCommon_9 : decode cX2_greatestCommon 9 = .ok (.iload 8, 2) := by decide +kernel
theorem dX2_greatestCommon_11 : decode cX2_greatestCommon 11 = .ok (.bipush 64, 2) := by decide +kernel
theorem dX2_greatestCommon_13 : decode cX2_greatestCommon 13 = .ok (.if_icmp .ge 33, 3) := by decide +kernel
theorem dX2_greatestCommon_16 : decode cX2_greatestCommon 16 = .ok (.lload 6, 2) := by decide +kernel
theorem dX2_greatestCommon_18 : decode cX2_greatestCommon 18 = .ok (.lconst 0, 1) := by decide +kernel
theorem dX2_greatestCommon_19 : decode cX2_greatestCommon 19 = .ok (.lcmp, 1) := by decide +kernel
theorem dX2_greatestCommon_20 : decode cX2_greatestCommon 20 = .ok (.ifCond .eq 26, 3) := by decide +kernel
theorem dX2_greatestCommon_23 : decode cX2_greatestCommon 23 = .ok (.lload 4, 2) := by decide +kernel
theorem dX2_greatestCommon_25 : decode cX2_greatestCommon 25 = .ok (.lload 6, 2) := by decide +kernel
theorem dX2_greatestCommon_27 : decode cX2_greatestCommon 27 = .ok (.invokestatic 13, 3) := by decide +kernel
theorem dX2_greatestCommon_30 : decode cX2_greatestCommon 30 = .ok (.lstore 9, 2) := by decide +kernel
theorem dX2_greatestCommon_32 : decode cX2_greatestCommon 32 = .ok (.lload 6, 2) := by decide +kernel
theorem dX2_greatestCommon_34 : decode cX2_greatestCommon 34 = .ok (.lstore 4, 2) := by decide +kernel
theorem dX2_greatestCommon_36 : decode cX2_greatestCommon 36 = .ok (.lload 9, 2) := by decide +kernel
theorem dX2_greatestCommon_38 : decode cX2_greatestCommon 38 = .ok (.lstore 6, 2) := by decide +kernel
theorem dX2_greatestCommon_40 : decode cX2_greatestCommon 40 = .ok (.iinc 8 1, 3) := by decide +kernel
theorem dX2_greatestCommon_43 : decode cX2_greatestCommon 43 = .ok (.goto (-34), 3) := by decide +kernel
theorem dX2_greatestCommon_46 : decode cX2_greatestCommon 46 = .ok (.lload 4, 2) := by decide +kernel
theorem dX2_greatestCommon_48 : decode cX2_greatestCommon 48 = .ok (.lreturn, 1) := by decide +kernel
theorem dX2_timesX_0 : decode cX2_timesX 0 = .ok (.lload_n 0, 1) := by decide +kernel
theorem dX2_timesX_1 : decode cX2_timesX 1 = .ok (.iconst 1, 1) := by decide +kernel
theorem dX2_timesX_2 : decode cX2_timesX 2 = .ok (.lshl, 1) := by decide +kernel
theorem dX2_timesX_3 : decode cX2_timesX 3 = .ok (.lstore 5, 2) := by decide +kernel
theorem dX2_timesX_5 : decode cX2_timesX 5 = .ok (.lload 5, 2) := by decide +kernel
theorem dX2_timesX_7 : decode cX2_timesX 7 = .ok (.iload 4, 2) := by decide +kernel
theorem dX2_timesX_9 : decode cX2_timesX 9 = .ok (.lushr, 1) := by decide +kernel
theorem dX2_timesX_10 : decode cX2_timesX 10 = .ok (.lconst 1, 1) := by decide +kernel
theorem dX2_timesX_11 : decode cX2_timesX 11 = .ok (.land, 1) := by decide +kernel
theorem dX2_timesX_12 : decode cX2_timesX 12 = .ok (.lconst 0, 1) := by decide +kernel
theorem dX2_timesX_13 : decode cX2_timesX 13 = .ok (.lcmp, 1) := by decide +kernel
theorem dX2_timesX_14 : decode cX2_timesX 14 = .ok (.ifCond .eq 10, 3) := by decide +kernel
theorem dX2_timesX_17 : decode cX2_timesX 17 = .ok (.lload 5, 2) := by decide +kernel
theorem dX2_timesX_19 : decode cX2_timesX 19 = .ok (.lload_n 2, 1) := by decide +kernel
theorem dX2_timesX_20 : decode cX2_timesX 20 = .ok (.lxor, 1) := by decide +kernel
theorem dX2_timesX_21 : decode cX2_timesX 21 = .ok (.goto 5, 3) := by decide +kernel
theorem dX2_timesX_24 : decode cX2_timesX 24 = .ok (.lload 5, 2) := by decide +kernel
theorem dX2_timesX_26 : decode cX2_timesX 26 = .ok (.lreturn, 1) := by decide +kernel
theorem dX2_product_0 : decode cX2_product 0 = .ok (.lload 4, 2) := by decide +kernel
theorem dX2_product_2 : decode cX2_product 2 = .ok (.invokestatic 7, 3) := by decide +kernel
theorem dX2_product_5 : decode cX2_product 5 = .ok (.istore 6, 2) := by decide +kernel
theorem dX2_product_7 : decode cX2_product 7 = .ok (.lconst 0, 1) := by decide +kernel
theorem dX2_product_8 : decode cX2_product 8 = .ok (.lstore 7, 2) := by decide +kernel
theorem dX2_product_10 : decode cX2_product 10 = .ok (.iload 6, 2) := by decide +kernel
theorem dX2_product_12 : decode cX2_product 12 = .ok (.iconst 1, 1) := by decide +kernel
theorem dX2_product_13 : decode cX2_product 13 = .ok (.isub, 1) := by decide +kernel
theorem dX2_product_14 : decode cX2_product 14 = .ok (.istore 9, 2) := by decide +kernel
theorem dX2_product_16 : decode cX2_product 16 = .ok (.iload 9, 2) := by decide +kernel
theorem dX2_product_18 : decode cX2_product 18 = .ok (.ifCond .lt 37, 3) := by decide +kernel
theorem dX2_product_21 : decode cX2_product 21 = .ok (.lload 7, 2) := by decide +kernel
theorem dX2_product_23 : decode cX2_product 23 = .ok (.lload 4, 2) := by decide +kernel
theorem dX2_product_25 : decode cX2_product 25 = .ok (.iload 6, 2) := by decide +kernel
theorem dX2_product_27 : decode cX2_product 27 = .ok (.invokestatic 17, 3) := by decide +kernel
theorem dX2_product_30 : decode cX2_product 30 = .ok (.lstore 7, 2) := by decide +kernel
theorem dX2_product_32 : decode cX2_product 32 = .ok (.lload_n 2, 1) := by decide +kernel
theorem dX2_product_33 : decode cX2_product 33 = .ok (.iload 9, 2) := by decide +kernel
theorem dX2_product_35 : decode cX2_product 35 = .ok (.lushr, 1) := by decide +kernel
theorem dX2_product_36 : decode cX2_product 36 = .ok (.lconst 1, 1) := by decide +kernel
theorem dX2_product_37 : decode cX2_product 37 = .ok (.land, 1) := by decide +kernel
theorem dX2_product_38 : decode cX2_product 38 = .ok (.lconst 0, 1) := by decide +kernel
theorem dX2_product_39 : decode cX2_product 39 = .ok (.lcmp, 1) := by decide +kernel
theorem dX2_product_40 : decode cX2_product 40 = .ok (.ifCond .eq 9, 3) := by decide +kernel
theorem dX2_product_43 : decode cX2_product 43 = .ok (.lload 7, 2) := by decide +kernel
theorem dX2_product_45 : decode cX2_product 45 = .ok (.lload_n 0, 1) := by decide +kernel
theorem dX2_product_46 : decode cX2_product 46 = .ok (.lxor, 1) := by decide +kernel
theorem dX2_product_47 : decode cX2_product 47 = .ok (.lstore 7, 2) := by decide +kernel
theorem dX2_product_49 : decode cX2_product 49 = .ok (.iinc 9 (-1), 3) := by decide +kernel
theorem dX2_product_52 : decode cX2_product 52 = .ok (.goto (-36), 3) := by decide +kernel
theorem dX2_product_55 : decode cX2_product 55 = .ok (.lload 7, 2) := by decide +kernel
theorem dX2_product_57 : decode cX2_product 57 = .ok (.lreturn, 1) := by decide +kernel
theorem dX2_powerOfX_0 : decode cX2_powerOfX 0 = .ok (.lload_n 2, 1) := by decide +kernel
theorem dX2_powerOfX_1 : decode cX2_powerOfX 1 = .ok (.invokestatic 7, 3) := by decide +kernel
theorem dX2_powerOfX_4 : decode cX2_powerOfX 4 = .ok (.istore 4, 2) := by decide +kernel
theorem dX2_powerOfX_6 : decode cX2_powerOfX 6 = .ok (.lconst 1, 1) := by decide +kernel
theorem dX2_powerOfX_7 : decode cX2_powerOfX 7 = .ok (.lstore 5, 2) := by decide +kernel
theorem dX2_powerOfX_9 : decode cX2_powerOfX 9 = .ok (.lload_n 0, 1) := by decide +kernel
theorem dX2_powerOfX_10 : decode cX2_powerOfX 10 = .ok (.invokestatic 7, 3) := by decide +kernel
theorem dX2_powerOfX_13 : decode cX2_powerOfX 13 = .ok (.istore 7, 2) := by decide +kernel
theorem dX2_powerOfX_15 : decode cX2_powerOfX 15 = .ok (.iload 7, 2) := by decide +kernel
theorem dX2_powerOfX_17 : decode cX2_powerOfX 17 = .ok (.ifCond .lt 40, 3) := by decide +kernel
theorem dX2_powerOfX_20 : decode cX2_powerOfX 20 = .ok (.lload 5, 2) := by decide +kernel
theorem dX2_powerOfX_22 : decode cX2_powerOfX 22 = .ok (.lload 5, 2) := by decide +kernel
theorem dX2_powerOfX_24 : decode cX2_powerOfX 24 = .ok (.lload_n 2, 1) := by decide +kernel
theorem dX2_powerOfX_25 : decode cX2_powerOfX 25 = .ok (.invokestatic 21, 3) := by decide +kernel
theorem dX2_powerOfX_28 : decode cX2_powerOfX 28 = .ok (.lstore 5, 2) := by decide +kernel
theorem dX2_powerOfX_30 : decode cX2_powerOfX 30 = .ok (.lload_n 0, 1) := by decide +kernel
theorem dX2_powerOfX_31 : decode cX2_powerOfX 31 = .ok (.iload 7, 2) := by decide +kernel
theorem dX2_powerOfX_33 : decode cX2_powerOfX 33 = .ok (.lushr, 1) := by decide +kernel
theorem dX2_powerOfX_34 : decode cX2_powerOfX 34 = .ok (.lconst 1, 1) := by decide +kernel
theorem dX2_powerOfX_35 : decode cX2_powerOfX 35 = .ok (.land, 1) := by decide +kernel
theorem dX2_powerOfX_36 : decode cX2_powerOfX 36 = .ok (.lconst 0, 1) := by decide +kernel
theorem dX2_powerOfX_37 : decode cX2_powerOfX 37 = .ok (.lcmp, 1) := by decide +kernel
theorem dX2_powerOfX_38 : decode cX2_powerOfX 38 = .ok (.ifCond .eq 13, 3) := by decide +kernel
theorem dX2_powerOfX_41 : decode cX2_powerOfX 41 = .ok (.lload 5, 2) := by decide +kernel
theorem dX2_powerOfX_43 : decode cX2_powerOfX 43 = .ok (.lload_n 2, 1) := by decide +kernel
theorem dX2_powerOfX_44 : decode cX2_powerOfX 44 = .ok (.iload 4, 2) := by decide +kernel
theorem dX2_powerOfX_46 : decode cX2_powerOfX 46 = .ok (.invokestatic 17, 3) := by decide +kernel
theorem dX2_powerOfX_49 : decode cX2_powerOfX 49 = .ok (.lstore 5, 2) := by decide +kernel
theorem dX2_powerOfX_51 : decode cX2_powerOfX 51 = .ok (.iinc 7 (-1), 3) := by decide +kernel
theorem dX2_powerOfX_54 : decode cX2_powerOfX 54 = .ok (.goto (-39), 3) := by decide +kernel
theorem dX2_powerOfX_57 : decode cX2_powerOfX 57 = .ok (.lload 5, 2) := by decide +kernel
theorem dX2_powerOfX_59 : decode cX2_powerOfX 59 = .ok (.lreturn, 1) := by decide +kernel
theorem dX2_trace_0 : decode cX2_trace 0 = .ok (.lload_n 0, 1) := by decide +kernel
theorem dX2_trace_1 : decode cX2_trace 1 = .ok (.lstore 5, 2) := by decide +kernel
theorem dX2_trace_3 : decode cX2_trace 3 = .ok (.lload_n 0, 1) := by decide +kernel
theorem dX2_trace_4 : decode cX2_trace 4 = .ok (.lstore 7, 2) := by decide +kernel
theorem dX2_trace_6 : decode cX2_trace 6 = .ok (.iconst 1, 1) := by decide +kernel
theorem dX2_trace_7 : decode cX2_trace 7 = .ok (.istore 9, 2) := by decide +kernel
theorem dX2_trace_9 : decode cX2_trace 9 = .ok (.iload 9, 2) := by decide +kernel
theorem dX2_trace_11 : decode cX2_trace 11 = .ok (.iload_n 2, 1) := by decide +kernel
theorem dX2_trace_12 : decode cX2_trace 12 = .ok (.if_icmp .ge 26, 3) := by decide +kernel
theorem dX2_trace_15 : decode cX2_trace 15 = .ok (.lload 5, 2) := by decide +kernel
theorem dX2_trace_17 : decode cX2_trace 17 = .ok (.lload 5, 2) := by decide +kernel
theorem dX2_trace_19 : decode cX2_trace 19 = .ok (.lload_n 3, 1) := by decide +kernel
theorem dX2_trace_20 : decode cX2_trace 20 = .ok (.invokestatic 21, 3) := by decide +kernel
theorem dX2_trace_23 : decode cX2_trace 23 = .ok (.lstore 5, 2) := by decide +kernel
theorem dX2_trace_25 : decode cX2_trace 25 = .ok (.lload 7, 2) := by decide +kernel
theorem dX2_trace_27 : decode cX2_trace 27 = .ok (.lload 5, 2) := by decide +kernel
theorem dX2_trace_29 : decode cX2_trace 29 = .ok (.lxor, 1) := by decide +kernel
theorem dX2_trace_30 : decode cX2_trace 30 = .ok (.lstore 7, 2) := by decide +kernel
theorem dX2_trace_32 : decode cX2_trace 32 = .ok (.iinc 9 1, 3) := by decide +kernel
theorem dX2_trace_35 : decode cX2_trace 35 = .ok (.goto (-26), 3) := by decide +kernel
theorem dX2_trace_38 : decode cX2_trace 38 = .ok (.lload 7, 2) := by decide +kernel
theorem dX2_trace_40 : decode cX2_trace 40 = .ok (.lreturn, 1) := by decide +kernel
end
section
theorem dX3_init_0 : decode cX3_init 0 = .ok (.aload_n 0, 1) := by decide +kernel
theorem dX3_init_1 : decode cX3_init 1 = .ok (.invokespecial 5, 3) := by decide +kernel
theorem dX3_init_4 : decode cX3_init 4 = .ok (.aload_n 0, 1) := by decide +kernel
theorem dX3_init_5 : decode cX3_init 5 = .ok (.sipush 200, 3) := by decide +kernel
theorem dX3_init_8 : decode cX3_init 8 = .ok (.newarray .long, 2) := by decide +kernel
theorem dX3_init_10 : decode cX3_init 10 = .ok (.putfield 11, 3) := by decide +kernel
theorem dX3_init_13 : decode cX3_init 13 = .ok (.aload_n 0, 1) := by decide +kernel
theorem dX3_init_14 : decode cX3_init 14 = .ok (.sipush 512, 3) := by decide +kernel
theorem dX3_init_17 : decode cX3_init 17 = .ok (.newarray .long, 2) := by decide +kernel
theorem dX3_init_19 : decode cX3_init 19 = .ok (.putfield 15, 3) := by decide +kernel
theorem dX3_init_22 : decode cX3_init 22 = .ok (.aload_n 0, 1) := by decide +kernel
theorem dX3_init_23 : decode cX3_init 23 = .ok (.iconst 0, 1) := by decide +kernel
theorem dX3_init_24 : decode cX3_init 24 = .ok (.putfield 18, 3) := by decide +kernel
theorem dX3_init_27 : decode cX3_init 27 = .ok (.return_, 1) := by decide +kernel
theorem dX3_clear_0 : decode cX3_clear 0 = .ok (.aload_n 0, 1) := by decide +kernel
theorem dX3_clear_1 : decode cX3_clear 1 = .ok (.iconst 0, 1) := by decide +kernel
theorem dX3_clear_2 : decode cX3_clear 2 = .ok (.putfield 18, 3) := by decide +kernel
theorem dX3_clear_5 : decode cX3_clear 5 = .ok (.iconst 0, 1) := by decide +kernel
theorem dX3_clear_6 : decode cX3_clear 6 = .ok (.istore_n 1, 1) := by decide +kernel
theorem dX3_clear_7 : decode cX3_clear 7 = .ok (.iload_n 1, 1) := by decide +kernel
theorem dX3_clear_8 : decode cX3_clear 8 = .ok (.sipush 512, 3) := by decide +kernel
theorem dX3_clear_11 : decode cX3_clear 11 = .ok (.if_icmp .ge 16, 3) := by decide +kernel
theorem dX3_clear_14 : decode cX3_clear 14 = .ok (.aload_n 0, 1) := by decide +kernel
theorem dX3_clear_15 : decode cX3_clear 15 = .ok (.getfield 15, 3) := by decide +kernel
theorem dX3_clear_18 : decode cX3_clear 18 = .ok (.iload_n 1, 1) := by decide +kernel
theorem dX3_clear_19 : decode cX3_clear 19 = .ok (.lconst 0, 1) := by decide +kernel
theorem dX3_clear_20 : decode cX3_clear 20 = .ok (.lastore, 1) := by decide +kernel
theorem dX3_clear_21 : decode cX3_clear 21 = .ok (.iinc 1 1, 3) := by decide +kernel
theorem dX3_clear_24 : decode cX3_clear 24 = .ok (.goto (-17), 3) := by decide +kernel
theorem dX3_clear_27 : decode cX3_clear 27 = .ok (.return_, 1) := by decide +kernel
theorem dX3_add_0 : decode cX3_add 0 = .ok (.aload_n 0, 1) := by decide +kernel
theorem dX3_add_1 : decode cX3_add 1 = .ok (.getfield 18, 3) := by decide +kernel
theorem dX3_add_4 : decode cX3_add 4 = .ok (.sipush 200, 3) := by decide +kernel
theorem dX3_add_7 : decode cX3_add 7 = .ok (.if_icmp .ge 34, 3) := by decide +kernel
theorem dX3_add_10 : decode cX3_add 10 = .ok (.aload_n 0, 1) := by decide +kernel
theorem dX3_add_11 : decode cX3_add 11 = .ok (.getfield 11, 3) := by decide +kernel
theorem dX3_add_14 : decode cX3_add 14 = .ok (.aload_n 0, 1) := by decide +kernel
theorem dX3_add_15 : decode cX3_add 15 = .ok (.getfield 18, 3) := by decide +kernel
theorem dX3_add_18 : decode cX3_add 18 = .ok (.lload_n 1, 1) := by decide +kernel
theorem dX3_add_19 : decode cX3_add 19 = .ok (.lastore, 1) := by decide +kernel
theorem dX3_add_20 : decode cX3_add 20 = .ok (.aload_n 0, 1) := by decide +kernel
theorem dX3_add_21 : decode cX3_add 21 = .ok (.dup, 1) := by decide +kernel
theorem dX3_add_22 : decode cX3_add 22 = .ok (.getfield 18, 3) := by decide +kernel
theorem dX3_add_25 : decode cX3_add 25 = .ok (.iconst 1, 1) := by decide +kernel
theorem dX3_add_26 : decode cX3_add 26 = .ok (.iadd, 1) := by decide +kernel
theorem dX3_add_27 : decode cX3_add 27 = .ok (.putfield 18, 3) := by decide +kernel
theorem dX3_add_30 : decode cX3_add 30 = .ok (.aload_n 0, 1) := by decide +kernel
theorem dX3_add_31 : decode cX3_add 31 = .ok (.getfield 15, 3) := by decide +kernel
theorem dX3_add_34 : decode cX3_add 34 = .ok (.aload_n 0, 1) := by decide +kernel
theorem dX3_add_35 : decode cX3_add 35 = .ok (.lload_n 1, 1) := by decide +kernel
theorem dX3_add_36 : decode cX3_add 36 = .ok (.invokevirtual 22, 3) := by decide +kernel
theorem dX3_add_39 : decode cX3_add 39 = .ok (.lload_n 1, 1) := by decide +kernel
theorem dX3_add_40 : decode cX3_add 40 = .ok (.lastore, 1) := by decide +kernel
theorem dX3_add_41 : decode cX3_add 41 = .ok (.return_, 1) := by decide +kernel
theorem dX3_has_0 : decode cX3_has 0 = .ok (.lload_n 1, 1) := by decide +kernel
theorem dX3_has_1 : decode cX3_has 1 = .ok (.lconst 0, 1) := by decide +kernel
theorem dX3_has_2 : decode cX3_has 2 = .ok (.lcmp, 1) := by decide +kernel
theorem dX3_has_3 : decode cX3_has 3 = .ok (.ifCond .eq 22, 3) := by decide +kernel
theorem dX3_has_6 : decode cX3_has 6 = .ok (.aload_n 0, 1) := by decide +kernel
theorem dX3_has_7 : decode cX3_has 7 = .ok (.getfield 15, 3) := by decide +kernel
theorem dX3_has_10 : decode cX3_has 10 = .ok (.aload_n 0, 1) := by decide +kernel
theorem dX3_has_11 : decode cX3_has 11 = .ok (.lload_n 1, 1) := by decide +kernel
theorem dX3_has_12 : decode cX3_has 12 = .ok (.invokevirtual 22, 3) := by decide +kernel
theorem dX3_has_15 : decode cX3_has 15 = .ok (.laload, 1) := by decide +kernel
theorem dX3_has_16 : decode cX3_has 16 = .ok (.lload_n 1, 1) := by decide +kernel
theorem dX3_has_17 : decode cX3_has 17 = .ok (.lcmp, 1) := by decide +kernel
theorem dX3_has_18 : decode cX3_has 18 = .ok (.ifCond .ne 7, 3) := by decide +kernel
theorem dX3_has_21 : decode cX3_has 21 = .ok (.iconst 1, 1) := by decide +kernel
theorem dX3_has_22 : decode cX3_has 22 = .ok (.goto 4, 3) := by decide +kernel
theorem dX3_has_25 : decode cX3_has 25 = .ok (.iconst 0, 1) := by decide +kernel
theorem dX3_has_26 : decode cX3_has 26 = .ok (.ireturn, 1) := by decide +kernel
theorem dX3_hasTwo_0 : decode cX3_hasTwo 0 = .ok (.iconst 0, 1) := by decide +kernel
theorem dX3_hasTwo_1 : decode cX3_hasTwo 1 = .ok (.istore_n 3, 1) := by decide +kernel
theorem dX3_hasTwo_2 : decode cX3_hasTwo 2 = .ok (.iload_n 3, 1) := by decide +kernel
theorem dX3_hasTwo_3 : decode cX3_hasTwo 3 = .ok (.aload_n 0, 1) := by decide +kernel
theorem dX3_hasTwo_4 : decode cX3_hasTwo 4 = .ok (.getfield 18, 3) := by decide +kernel
theorem dX3_hasTwo_7 : decode cX3_hasTwo 7 = .ok (.if_icmp .ge 26, 3) := by decide +kernel
theorem dX3_hasTwo_10 : decode cX3_hasTwo 10 = .ok (.aload_n 0, 1) := by decide +kernel
theorem dX3_hasTwo_11 : decode cX3_hasTwo 11 = .ok (.lload_n 1, 1) := by decide +kernel
theorem dX3_hasTwo_12 : decode cX3_hasTwo 12 = .ok (.aload_n 0, 1) := by decide +kernel
theorem dX3_hasTwo_13 : decode cX3_hasTwo 13 = .ok (.getfield 11, 3) := by decide +kernel
theorem dX3_hasTwo_16 : decode cX3_hasTwo 16 = .ok (.iload_n 3, 1) := by decide +kernel
theorem dX3_hasTwo_17 : decode cX3_hasTwo 17 = .ok (.laload, 1) := by decide +kernel
theorem dX3_hasTwo_18 : decode cX3_hasTwo 18 = .ok (.lxor, 1) := by decide +kernel
theorem dX3_hasTwo_19 : decode cX3_hasTwo 19 = .ok (.invokevirtual 26, 3) := by decide +kernel
theorem dX3_hasTwo_22 : decode cX3_hasTwo 22 = .ok (.ifCond .eq 5, 3) := by decide +kernel
theorem dX3_hasTwo_25 : decode cX3_hasTwo 25 = .ok (.iconst 1, 1) := by decide +kernel
theorem dX3_hasTwo_26 : decode cX3_hasTwo 26 = .ok (.ireturn, 1) := by decide +kernel
theorem dX3_hasTwo_27 : decode cX3_hasTwo 27 = .ok (.iinc 3 1, 3) := by decide +kernel
theorem dX3_hasTwo_30 : decode cX3_hasTwo 30 = .ok (.goto (-28), 3) := by decide +kernel
theorem dX3_hasTwo_33 : decode cX3_hasTwo 33 = .ok (.iconst 0, 1) := by decide +kernel
theorem dX3_hasTwo_34 : decode cX3_hasTwo 34 = .ok (.ireturn, 1) := by decide +kernel
theorem dX3_slotOf_0 : decode cX3_slotOf 0 = .ok (.lload_n 1, 1) := by decide +kernel
theorem dX3_slotOf_1 : decode cX3_slotOf 1 = .ok (.ldc2_w 30, 3) := by decide +kernel
theorem dX3_slotOf_4 : decode cX3_slotOf 4 = .ok (.lmul, 1) := by decide +kernel
theorem dX3_slotOf_5 : decode cX3_slotOf 5 = .ok (.bipush 55, 2) := by decide +kernel
theorem dX3_slotOf_7 : decode cX3_slotOf 7 = .ok (.lushr, 1) := by decide +kernel
theorem dX3_slotOf_8 : decode cX3_slotOf 8 = .ok (.l2i, 1) := by decide +kernel
theorem dX3_slotOf_9 : decode cX3_slotOf 9 = .ok (.istore_n 3, 1) := by decide +kernel
theorem dX3_slotOf_10 : decode cX3_slotOf 10 = .ok (.iconst 0, 1) := by decide +kernel
theorem dX3_slotOf_11 : decode cX3_slotOf 11 = .ok (.istore 4, 2) := by decide +kernel
theorem dX3_slotOf_13 : decode cX3_slotOf 13 = .ok (.iload 4, 2) := by decide +kernel
theorem dX3_slotOf_15 : decode cX3_slotOf 15 = .ok (.sipush 512, 3) := by decide +kernel
theorem dX3_slotOf_18 : decode cX3_slotOf 18 = .ok (.if_icmp .ge 39, 3) := by decide +kernel
theorem dX3_slotOf_21 : decode cX3_slotOf 21 = .ok (.aload_n 0, 1) := by decide +kernel
theorem dX3_slotOf_22 : decode cX3_slotOf 22 = .ok (.getfield 15, 3) := by decide +kernel
theorem dX3_slotOf_25 : decode cX3_slotOf 25 = .ok (.iload_n 3, 1) := by decide +kernel
theorem dX3_slotOf_26 : decode cX3_slotOf 26 = .ok (.laload, 1) := by decide +kernel
theorem dX3_slotOf_27 : decode cX3_slotOf 27 = .ok (.lconst 0, 1) := by decide +kernel
theorem dX3_slotOf_28 : decode cX3_slotOf 28 = .ok (.lcmp, 1) := by decide +kernel
theorem dX3_slotOf_29 : decode cX3_slotOf 29 = .ok (.ifCond .eq 28, 3) := by decide +kernel
theorem dX3_slotOf_32 : decode cX3_slotOf 32 = .ok (.aload_n 0, 1) := by decide +kernel
theorem dX3_slotOf_33 : decode cX3_slotOf 33 = .ok (.getfield 15, 3) := by decide +kernel
theorem dX3_slotOf_36 : decode cX3_slotOf 36 = .ok (.iload_n 3, 1) := by decide +kernel
theorem dX3_slotOf_37 : decode cX3_slotOf 37 = .ok (.laload, 1) := by decide +kernel
theorem dX3_slotOf_38 : decode cX3_slotOf 38 = .ok (.lload_n 1, 1) := by decide +kernel
theorem dX3_slotOf_39 : decode cX3_slotOf 39 = .ok (.lcmp, 1) := by decide +kernel
theorem dX3_slotOf_40 : decode cX3_slotOf 40 = .ok (.ifCond .eq 17, 3) := by decide +kernel
theorem dX3_slotOf_43 : decode cX3_slotOf 43 = .ok (.iload_n 3, 1) := by decide +kernel
theorem dX3_slotOf_44 : decode cX3_slotOf 44 = .ok (.iconst 1, 1) := by decide +kernel
theorem dX3_slotOf_45 : decode cX3_slotOf 45 = .ok (.iadd, 1) := by decide +kernel
theorem dX3_slotOf_46 : decode cX3_slotOf 46 = .ok (.sipush 511, 3) := by decide +kernel
theorem dX3_slotOf_49 : decode cX3_slotOf 49 = .ok (.iand, 1) := by decide +kernel
theorem dX3_slotOf_50 : decode cX3_slotOf 50 = .ok (.istore_n 3, 1) := by decide +kernel
theorem dX3_slotOf_51 : decode cX3_slotOf 51 = .ok (.iinc 4 1, 3) := by decide +kernel
theorem dX3_slotOf_54 : decode cX3_slotOf 54 = .ok (.goto (-41), 3) := by decide +kernel
theorem dX3_slotOf_57 : decode cX3_slotOf 57 = .ok (.iload_n 3, 1) := by decide +kernel
theorem dX3_slotOf_58 : decode cX3_slotOf 58 = .ok (.ireturn, 1) := by decide +kernel
end
section
theorem dX4_init_0 : decode cX4_init 0 = .ok (.aload_n 0, 1) := by decide +kernel
theorem dX4_init_1 : decode cX4_init 1 = .ok (.invokespecial 3, 3) := by decide +kernel
theorem dX4_init_4 : decode cX4_init 4 = .ok (.aload_n 0, 1) := by decide +kernel
theorem dX4_init_5 : decode cX4_init 5 = .ok (.sipush 201, 3) := by decide +kernel
theorem dX4_init_8 : decode cX4_init 8 = .ok (.putfield 11, 3) := by decide +kernel
theorem dX4_init_11 : decode cX4_init 11 = .ok (.aload_n 0, 1) := by decide +kernel
theorem dX4_init_12 : decode cX4_init 12 = .ok (.sipush 201, 3) := by decide +kernel
theorem dX4_init_15 : decode cX4_init 15 = .ok (.putfield 15, 3) := by decide +kernel
theorem dX4_init_18 : decode cX4_init 18 = .ok (.aload_n 0, 1) := by decide +kernel
theorem dX4_init_19 : decode cX4_init 19 = .ok (.sipush 201, 3) := by decide +kernel
theorem dX4_init_22 : decode cX4_init 22 = .ok (.putfield 18, 3) := by decide +kernel
theorem dX4_init_25 : decode cX4_init 25 = .ok (.aload_n 0, 1) := by decide +kernel
theorem dX4_init_26 : decode cX4_init 26 = .ok (.lconst 0, 1) := by decide +kernel
theorem dX4_init_27 : decode cX4_init 27 = .ok (.putfield 21, 3) := by decide +kernel
theorem dX4_init_30 : decode cX4_init 30 = .ok (.return_, 1) := by decide +kernel
theorem dX4_fewest_0 : decode cX4_fewest 0 = .ok (.iload_n 1, 1) := by decide +kernel
theorem dX4_fewest_1 : decode cX4_fewest 1 = .ok (.aload_n 0, 1) := by decide +kernel
theorem dX4_fewest_2 : decode cX4_fewest 2 = .ok (.getfield 11, 3) := by decide +kernel
theorem dX4_fewest_5 : decode cX4_fewest 5 = .ok (.if_icmp .lt 5, 3) := by decide +kernel
theorem dX4_fewest_8 : decode cX4_fewest 8 = .ok (.iconst 2, 1) := by decide +kernel
theorem dX4_fewest_9 : decode cX4_fewest 9 = .ok (.ireturn, 1) := by decide +kernel
theorem dX4_fewest_10 : decode cX4_fewest 10 = .ok (.iload_n 1, 1) := by decide +kernel
theorem dX4_fewest_11 : decode cX4_fewest 11 = .ok (.aload_n 0, 1) := by decide +kernel
theorem dX4_fewest_12 : decode cX4_fewest 12 = .ok (.getfield 15, 3) := by decide +kernel
theorem dX4_fewest_15 : decode cX4_fewest 15 = .ok (.if_icmp .lt 5, 3) := by decide +kernel
theorem dX4_fewest_18 : decode cX4_fewest 18 = .ok (.iconst 3, 1) := by decide +kernel
theorem dX4_fewest_19 : decode cX4_fewest 19 = .ok (.ireturn, 1) := by decide +kernel
theorem dX4_fewest_20 : decode cX4_fewest 20 = .ok (.iload_n 1, 1) := by decide +kernel
theorem dX4_fewest_21 : decode cX4_fewest 21 = .ok (.aload_n 0, 1) := by decide +kernel
theorem dX4_fewest_22 : decode cX4_fewest 22 = .ok (.getfield 18, 3) := by decide +kernel
theorem dX4_fewest_25 : decode cX4_fewest 25 = .ok (.if_icmp .lt 7, 3) := by decide +kernel
theorem dX4_fewest_28 : decode cX4_fewest 28 = .ok (.iconst 4, 1) := by decide +kernel
theorem dX4_fewest_29 : decode cX4_fewest 29 = .ok (.goto 4, 3) := by decide +kernel
theorem dX4_fewest_32 : decode cX4_fewest 32 = .ok (.iconst 5, 1) := by decide +kernel
theorem dX4_fewest_33 : decode cX4_fewest 33 = .ok (.ireturn, 1) := by decide +kernel
theorem dX4_findFor_0 : decode cX4_findFor 0 = .ok (.aload_n 0, 1) := by decide +kernel
theorem dX4_findFor_1 : decode cX4_findFor 1 = .ok (.getfield 21, 3) := by decide +kernel
theorem dX4_findFor_4 : decode cX4_findFor 4 = .ok (.lload_n 1, 1) := by decide +kernel
theorem dX4_findFor_5 : decode cX4_findFor 5 = .ok (.lcmp, 1) := by decide +kernel
theorem dX4_findFor_6 : decode cX4_findFor 6 = .ok (.ifCond .ne 4, 3) := by decide +kernel
theorem dX4_findFor_9 : decode cX4_findFor 9 = .ok (.return_, 1) := by decide +kernel
theorem dX4_findFor_10 : decode cX4_findFor 10 = .ok (.aload_n 0, 1) := by decide +kernel
theorem dX4_findFor_11 : decode cX4_findFor 11 = .ok (.lload_n 1, 1) := by decide +kernel
theorem dX4_findFor_12 : decode cX4_findFor 12 = .ok (.putfield 21, 3) := by decide +kernel
theorem dX4_findFor_15 : decode cX4_findFor 15 = .ok (.aload_n 0, 1) := by decide +kernel
theorem dX4_findFor_16 : decode cX4_findFor 16 = .ok (.sipush 201, 3) := by decide +kernel
theorem dX4_findFor_19 : decode cX4_findFor 19 = .ok (.putfield 11, 3) := by decide +kernel
theorem dX4_findFor_22 : decode cX4_findFor 22 = .ok (.aload_n 0, 1) := by decide +kernel
theorem dX4_findFor_23 : decode cX4_findFor 23 = .ok (.sipush 201, 3) := by decide +kernel
theorem dX4_findFor_26 : decode cX4_findFor 26 = .ok (.putfield 15, 3) := by decide +kernel
theorem dX4_findFor_29 : decode cX4_findFor 29 = .ok (.aload_n 0, 1) := by decide +kernel
theorem dX4_findFor_30 : decode cX4_findFor 30 = .ok (.sipush 201, 3) := by decide +kernel
theorem dX4_findFor_33 : decode cX4_findFor 33 = .ok (.putfield 18, 3) := by decide +kernel
theorem dX4_findFor_36 : decode cX4_findFor 36 = .ok (.lload_n 1, 1) := by decide +kernel
theorem dX4_findFor_37 : decode cX4_findFor 37 = .ok (.invokestatic 25, 3) := by decide +kernel
theorem dX4_findFor_40 : decode cX4_findFor 40 = .ok (.istore 4, 2) := by decide +kernel
theorem dX4_findFor_42 : decode cX4_findFor 42 = .ok (.lconst 1, 1) := by decide +kernel
theorem dX4_findFor_43 : decode cX4_findFor 43 = .ok (.lstore 5, 2) := by decide +kernel
theorem dX4_findFor_45 : decode cX4_findFor 45 = .ok (.aload_n 3, 1) := by decide +kernel
theorem dX4_findFor_46 : decode cX4_findFor 46 = .ok (.invokevirtual 31, 3) := by decide +kernel
theorem dX4_findFor_49 : decode cX4_findFor 49 = .ok (.iconst 1, 1) := by decide +kernel
theorem dX4_findFor_50 : decode cX4_findFor 50 = .ok (.istore 7, 2) := by decide +kernel
theorem dX4_findFor_52 : decode cX4_findFor 52 = .ok (.iload 7, 2) := by decide +kernel
theorem dX4_findFor_54 : decode cX4_findFor 54 = .ok (.sipush 200, 3) := by decide +kernel
theorem dX4_findFor_57 : decode cX4_findFor 57 = .ok (.if_icmp .ge 48, 3) := by decide +kernel
theorem dX4_findFor_60 : decode cX4_findFor 60 = .ok (.aload_n 0, 1) := by decide +kernel
theorem dX4_findFor_61 : decode cX4_findFor 61 = .ok (.getfield 11, 3) := by decide +kernel
theorem dX4_findFor_64 : decode cX4_findFor 64 = .ok (.sipush 201, 3) := by decide +kernel
theorem dX4_findFor_67 : decode cX4_findFor 67 = .ok (.if_icmp .ne 38, 3) := by decide +kernel
theorem dX4_findFor_70 : decode cX4_findFor 70 = .ok (.aload_n 3, 1) := by decide +kernel
theorem dX4_findFor_71 : decode cX4_findFor 71 = .ok (.lload 5, 2) := by decide +kernel
theorem dX4_findFor_73 : decode cX4_findFor 73 = .ok (.invokevirtual 36, 3) := by decide +kernel
theorem dX4_findFor_76 : decode cX4_findFor 76 = .ok (.lload 5, 2) := by decide +kernel
theorem dX4_findFor_78 : decode cX4_findFor 78 = .ok (.lload_n 1, 1) := by decide +kernel
theorem dX4_findFor_79 : decode cX4_findFor 79 = .ok (.iload 4, 2) := by decide +kernel
theorem dX4_findFor_81 : decode cX4_findFor 81 = .ok (.invokestatic 40, 3) := by decide +kernel
theorem dX4_findFor_84 : decode cX4_findFor 84 = .ok (.lstore 5, 2) := by decide +kernel
theorem dX4_findFor_86 : decode cX4_findFor 86 = .ok (.aload_n 0, 1) := by decide +kernel
theorem dX4_findFor_87 : decode cX4_findFor 87 = .ok (.lload 5, 2) := by decide +kernel
theorem dX4_findFor_89 : decode cX4_findFor 89 = .ok (.lconst 1, 1) := by decide +kernel
theorem dX4_findFor_90 : decode cX4_findFor 90 = .ok (.lxor, 1) := by decide +kernel
theorem dX4_findFor_91 : decode cX4_findFor 91 = .ok (.iload 7, 2) := by decide +kernel
theorem dX4_findFor_93 : decode cX4_findFor 93 = .ok (.iconst 1, 1) := by decide +kernel
theorem dX4_findFor_94 : decode cX4_findFor 94 = .ok (.iadd, 1) := by decide +kernel
theorem dX4_findFor_95 : decode cX4_findFor 95 = .ok (.aload_n 3, 1) := by decide +kernel
theorem dX4_findFor_96 : decode cX4_findFor 96 = .ok (.invokevirtual 44, 3) := by decide +kernel
theorem dX4_findFor_99 : decode cX4_findFor 99 = .ok (.iinc 7 1, 3) := by decide +kernel
theorem dX4_findFor_102 : decode cX4_findFor 102 = .ok (.goto (-50), 3) := by decide +kernel
theorem dX4_findFor_105 : decode cX4_findFor 105 = .ok (.return_, 1) := by decide +kernel
theorem dX4_lookAt_0 : decode cX4_lookAt 0 = .ok (.lload_n 1, 1) := by decide +kernel
theorem dX4_lookAt_1 : decode cX4_lookAt 1 = .ok (.lconst 0, 1) := by decide +kernel
theorem dX4_lookAt_2 : decode cX4_lookAt 2 = .ok (.lcmp, 1) := by decide +kernel
theorem dX4_lookAt_3 : decode cX4_lookAt 3 = .ok (.ifCond .ne 11, 3) := by decide +kernel
theorem dX4_lookAt_6 : decode cX4_lookAt 6 = .ok (.aload_n 0, 1) := by decide +kernel
theorem dX4_lookAt_7 : decode cX4_lookAt 7 = .ok (.iload_n 3, 1) := by decide +kernel
theorem dX4_lookAt_8 : decode cX4_lookAt 8 = .ok (.putfield 11, 3) := by decide +kernel
theorem dX4_lookAt_11 : decode cX4_lookAt 11 = .ok (.goto 54, 3) := by decide +kernel
theorem dX4_lookAt_14 : decode cX4_lookAt 14 = .ok (.aload_n 0, 1) := by decide +kernel
theorem dX4_lookAt_15 : decode cX4_lookAt 15 = .ok (.getfield 15, 3) := by decide +kernel
theorem dX4_lookAt_18 : decode cX4_lookAt 18 = .ok (.sipush 201, 3) := by decide +kernel
theorem dX4_lookAt_21 : decode cX4_lookAt 21 = .ok (.if_icmp .ne 44, 3) := by decide +kernel
theorem dX4_lookAt_24 : decode cX4_lookAt 24 = .ok (.aload 4, 2) := by decide +kernel
theorem dX4_lookAt_26 : decode cX4_lookAt 26 = .ok (.lload_n 1, 1) := by decide +kernel
theorem dX4_lookAt_27 : decode cX4_lookAt 27 = .ok (.invokevirtual 48, 3) := by decide +kernel
theorem dX4_lookAt_30 : decode cX4_lookAt 30 = .ok (.ifCond .eq 11, 3) := by decide +kernel
theorem dX4_lookAt_33 : decode cX4_lookAt 33 = .ok (.aload_n 0, 1) := by decide +kernel
theorem dX4_lookAt_34 : decode cX4_lookAt 34 = .ok (.iload_n 3, 1) := by decide +kernel
theorem dX4_lookAt_35 : decode cX4_lookAt 35 = .ok (.putfield 15, 3) := by decide +kernel
theorem dX4_lookAt_38 : decode cX4_lookAt 38 = .ok (.goto 27, 3) := by decide +kernel
theorem dX4_lookAt_41 : decode cX4_lookAt 41 = .ok (.aload_n 0, 1) := by decide +kernel
theorem dX4_lookAt_42 : decode cX4_lookAt 42 = .ok (.getfield 18, 3) := by decide +kernel
theorem dX4_lookAt_45 : decode cX4_lookAt 45 = .ok (.sipush 201, 3) := by decide +kernel
theorem dX4_lookAt_48 : decode cX4_lookAt 48 = .ok (.if_icmp .ne 17, 3) := by decide +kernel
theorem dX4_lookAt_51 : decode cX4_lookAt 51 = .ok (.aload 4, 2) := by decide +kernel
theorem dX4_lookAt_53 : decode cX4_lookAt 53 = .ok (.lload_n 1, 1) := by decide +kernel
theorem dX4_lookAt_54 : decode cX4_lookAt 54 = .ok (.invokevirtual 52, 3) := by decide +kernel
theorem dX4_lookAt_57 : decode cX4_lookAt 57 = .ok (.ifCond .eq 8, 3) := by decide +kernel
theorem dX4_lookAt_60 : decode cX4_lookAt 60 = .ok (.aload_n 0, 1) := by decide +kernel
theorem dX4_lookAt_61 : decode cX4_lookAt 61 = .ok (.iload_n 3, 1) := by decide +kernel
theorem dX4_lookAt_62 : decode cX4_lookAt 62 = .ok (.putfield 18, 3) := by decide +kernel
theorem dX4_lookAt_65 : decode cX4_lookAt 65 = .ok (.return_, 1) := by decide +kernel
end
section
theorem dX5_init_0 : decode cX5_init 0 = .ok (.aload_n 0, 1) := by decide +kernel
theorem dX5_init_1 : decode cX5_init 1 = .ok (.invokespecial 1, 3) := by decide +kernel
theorem dX5_init_4 : decode cX5_init 4 = .ok (.aload_n 0, 1) := by decide +kernel
theorem dX5_init_5 : decode cX5_init 5 = .ok (.sipush 600, 3) := by decide +kernel
theorem dX5_init_8 : decode cX5_init 8 = .ok (.newarray .int, 2) := by decide +kernel
theorem dX5_init_10 : decode cX5_init 10 = .ok (.putfield 9, 3) := by decide +kernel
theorem dX5_init_13 : decode cX5_init 13 = .ok (.aload_n 0, 1) := by decide +kernel
theorem dX5_init_14 : decode cX5_init 14 = .ok (.iconst 0, 1) := by decide +kernel
theorem dX5_init_15 : decode cX5_init 15 = .ok (.putfield 13, 3) := by decide +kernel
theorem dX5_init_18 : decode cX5_init 18 = .ok (.aload_n 0, 1) := by decide +kernel
theorem dX5_init_19 : decode cX5_init 19 = .ok (.bipush 8, 2) := by decide +kernel
theorem dX5_init_21 : decode cX5_init 21 = .ok (.anewarray 17, 3) := by decide +kernel
theorem dX5_init_24 : decode cX5_init 24 = .ok (.putfield 19, 3) := by decide +kernel
theorem dX5_init_27 : decode cX5_init 27 = .ok (.aload_n 0, 1) := by decide +kernel
theorem dX5_init_28 : decode cX5_init 28 = .ok (.iconst 0, 1) := by decide +kernel
theorem dX5_init_29 : decode cX5_init 29 = .ok (.putfield 23, 3) := by decide +kernel
theorem dX5_init_32 : decode cX5_init 32 = .ok (.aload_n 0, 1) := by decide +kernel
theorem dX5_init_33 : decode cX5_init 33 = .ok (.new 26, 3) := by decide +kernel
theorem dX5_init_36 : decode cX5_init 36 = .ok (.dup, 1) := by decide +kernel
theorem dX5_init_37 : decode cX5_init 37 = .ok (.invokespecial 28, 3) := by decide +kernel
theorem dX5_init_40 : decode cX5_init 40 = .ok (.putfield 29, 3) := by decide +kernel
theorem dX5_init_43 : decode cX5_init 43 = .ok (.iconst 0, 1) := by decide +kernel
theorem dX5_init_44 : decode cX5_init 44 = .ok (.istore_n 1, 1) := by decide +kernel
theorem dX5_init_45 : decode cX5_init 45 = .ok (.iload_n 1, 1) := by decide +kernel
theorem dX5_init_46 : decode cX5_init 46 = .ok (.bipush 8, 2) := by decide +kernel
theorem dX5_init_48 : decode cX5_init 48 = .ok (.if_icmp .ge 22, 3) := by decide +kernel
theorem dX5_init_51 : decode cX5_init 51 = .ok (.aload_n 0, 1) := by decide +kernel
theorem dX5_init_52 : decode cX5_init 52 = .ok (.getfield 19, 3) := by decide +kernel
theorem dX5_init_55 : decode cX5_init 55 = .ok (.iload_n 1, 1) := by decide +kernel
theorem dX5_init_56 : decode cX5_init 56 = .ok (.new 17, 3) := by decide +kernel
theorem dX5_init_59 : decode cX5_init 59 = .ok (.dup, 1) := by decide +kernel
theorem dX5_init_60 : decode cX5_init 60 = .ok (.invokespecial 33, 3) := by decide +kernel
theorem dX5_init_63 : decode cX5_init 63 = .ok (.aastore, 1) := by decide +kernel
theorem dX5_init_64 : decode cX5_init 64 = .ok (.iinc 1 1, 3) := by decide +kernel
theorem dX5_init_67 : decode cX5_init 67 = .ok (.goto (-22), 3) := by decide +kernel
theorem dX5_init_70 : decode cX5_init 70 = .ok (.return_, 1) := by decide +kernel
theorem dX5_form_0 : decode cX5_form 0 = .ok (.iload_n 1, 1) := by decide +kernel
theorem dX5_form_1 : decode cX5_form 1 = .ok (.iconst 3, 1) := by decide +kernel
theorem dX5_form_2 : decode cX5_form 2 = .ok (.if_icmp .lt 9, 3) := by decide +kernel
theorem dX5_form_5 : decode cX5_form 5 = .ok (.iload_n 1, 1) := by decide +kernel
theorem dX5_form_6 : decode cX5_form 6 = .ok (.bipush 32, 2) := by decide +kernel
theorem dX5_form_8 : decode cX5_form 8 = .ok (.if_icmp .le 5, 3) := by decide +kernel
theorem dX5_form_11 : decode cX5_form 11 = .ok (.iconst (-1), 1) := by decide +kernel
theorem dX5_form_12 : decode cX5_form 12 = .ok (.ireturn, 1) := by decide +kernel
theorem dX5_form_13 : decode cX5_form 13 = .ok (.lload_n 2, 1) := by decide +kernel
theorem dX5_form_14 : decode cX5_form 14 = .ok (.iload_n 1, 1) := by decide +kernel
theorem dX5_form_15 : decode cX5_form 15 = .ok (.invokestatic 34, 3) := by decide +kernel
theorem dX5_form_18 : decode cX5_form 18 = .ok (.ifCond .eq 21, 3) := by decide +kernel
theorem dX5_form_21 : decode cX5_form 21 = .ok (.lload 4, 2) := by decide +kernel
theorem dX5_form_23 : decode cX5_form 23 = .ok (.iload_n 1, 1) := by decide +kernel
theorem dX5_form_24 : decode cX5_form 24 = .ok (.invokestatic 34, 3) := by decide +kernel
theorem dX5_form_27 : decode cX5_form 27 = .ok (.ifCond .eq 12, 3) := by decide +kernel
theorem dX5_form_30 : decode cX5_form 30 = .ok (.lload 6, 2) := by decide +kernel
theorem dX5_form_32 : decode cX5_form 32 = .ok (.iload_n 1, 1) := by decide +kernel
theorem dX5_form_33 : decode cX5_form 33 = .ok (.invokestatic 34, 3) := by decide +kernel
theorem dX5_form_36 : decode cX5_form 36 = .ok (.ifCond .ne 5, 3) := by decide +kernel
theorem dX5_form_39 : decode cX5_form 39 = .ok (.iconst (-1), 1) := by decide +kernel
theorem dX5_form_40 : decode cX5_form 40 = .ok (.ireturn, 1) := by decide +kernel
theorem dX5_form_41 : decode cX5_form 41 = .ok (.lload_n 2, 1) := by decide +kernel
theorem dX5_form_42 : decode cX5_form 42 = .ok (.lconst 1, 1) := by decide +kernel
theorem dX5_form_43 : decode cX5_form 43 = .ok (.land, 1) := by decide +kernel
theorem dX5_form_44 : decode cX5_form 44 = .ok (.lconst 0, 1) := by decide +kernel
theorem dX5_form_45 : decode cX5_form 45 = .ok (.lcmp, 1) := by decide +kernel
theorem dX5_form_46 : decode cX5_form 46 = .ok (.ifCond .ne 5, 3) := by decide +kernel
theorem dX5_form_49 : decode cX5_form 49 = .ok (.iconst (-1), 1) := by decide +kernel
theorem dX5_form_50 : decode cX5_form 50 = .ok (.ireturn, 1) := by decide +kernel
theorem dX5_form_51 : decode cX5_form 51 = .ok (.aload_n 0, 1) := by decide +kernel
theorem dX5_form_52 : decode cX5_form 52 = .ok (.getfield 23, 3) := by decide +kernel
theorem dX5_form_55 : decode cX5_form 55 = .ok (.bipush 8, 2) := by decide +kernel
theorem dX5_form_57 : decode cX5_form 57 = .ok (.if_icmp .lt 6, 3) := by decide +kernel
theorem dX5_form_60 : decode cX5_form 60 = .ok (.bipush (-2), 2) := by decide +kernel
theorem dX5_form_62 : decode cX5_form 62 = .ok (.ireturn, 1) := by decide +kernel
theorem dX5_form_63 : decode cX5_form 63 = .ok (.aload_n 0, 1) := by decide +kernel
theorem dX5_form_64 : decode cX5_form 64 = .ok (.getfield 19, 3) := by decide +kernel
theorem dX5_form_67 : decode cX5_form 67 = .ok (.aload_n 0, 1) := by decide +kernel
theorem dX5_form_68 : decode cX5_form 68 = .ok (.getfield 23, 3) := by decide +kernel
theorem dX5_form_71 : decode cX5_form 71 = .ok (.aaload, 1) := by decide +kernel
theorem dX5_form_72 : decode cX5_form 72 = .ok (.iload_n 1, 1) := by decide +kernel
theorem dX5_form_73 : decode cX5_form 73 = .ok (.lload_n 2, 1) := by decide +kernel
theorem dX5_form_74 : decode cX5_form 74 = .ok (.lload 4, 2) := by decide +kernel
theorem dX5_form_76 : decode cX5_form 76 = .ok (.lload 6, 2) := by decide +kernel
theorem dX5_form_78 : decode cX5_form 78 = .ok (.iload 8, 2) := by decide +kernel
theorem dX5_form_80 : decode cX5_form 80 = .ok (.iload 9, 2) := by decide +kernel
theorem dX5_form_82 : decode cX5_form 82 = .ok (.invokevirtual 38, 3) := by decide +kernel
theorem dX5_form_85 : decode cX5_form 85 = .ok (.aload_n 0, 1) := by decide +kernel
theorem dX5_form_86 : decode cX5_form 86 = .ok (.dup, 1) := by decide +kernel
theorem dX5_form_87 : decode cX5_form 87 = .ok (.getfield 23, 3) := by decide +kernel
theorem dX5_form_90 : decode cX5_form 90 = .ok (.iconst 1, 1) := by decide +kernel
theorem dX5_form_91 : decode cX5_form 91 = .ok (.iadd, 1) := by decide +kernel
theorem dX5_form_92 : decode cX5_form 92 = .ok (.putfield 23, 3) := by decide +kernel
theorem dX5_form_95 : decode cX5_form 95 = .ok (.aload_n 0, 1) := by decide +kernel
theorem dX5_form_96 : decode cX5_form 96 = .ok (.getfield 23, 3) := by decide +kernel
theorem dX5_form_99 : decode cX5_form 99 = .ok (.iconst 1, 1) := by decide +kernel
theorem dX5_form_100 : decode cX5_form 100 = .ok (.isub, 1) := by decide +kernel
theorem dX5_form_101 : decode cX5_form 101 = .ok (.ireturn, 1) := by decide +kernel
theorem dX5_forget_0 : decode cX5_forget 0 = .ok (.aload_n 0, 1) := by decide +kernel
theorem dX5_forget_1 : decode cX5_forget 1 = .ok (.getfield 23, 3) := by decide +kernel
theorem dX5_forget_4 : decode cX5_forget 4 = .ok (.istore_n 1, 1) := by decide +kernel
theorem dX5_forget_5 : decode cX5_forget 5 = .ok (.aload_n 0, 1) := by decide +kernel
theorem dX5_forget_6 : decode cX5_forget 6 = .ok (.iconst 0, 1) := by decide +kernel
theorem dX5_forget_7 : decode cX5_forget 7 = .ok (.putfield 23, 3) := by decide +kernel
theorem dX5_forget_10 : decode cX5_forget 10 = .ok (.iload_n 1, 1) := by decide +kernel
theorem dX5_forget_11 : decode cX5_forget 11 = .ok (.ireturn, 1) := by decide +kernel
theorem dX5_feed_0 : decode cX5_feed 0 = .ok (.iload_n 1, 1) := by decide +kernel
theorem dX5_feed_1 : decode cX5_feed 1 = .ok (.iconst 1, 1) := by decide +kernel
theorem dX5_feed_2 : decode cX5_feed 2 = .ok (.if_icmp .lt 9, 3) := by decide +kernel
theorem dX5_feed_5 : decode cX5_feed 5 = .ok (.iload_n 1, 1) := by decide +kernel
theorem dX5_feed_6 : decode cX5_feed 6 = .ok (.bipush 8, 2) := by decide +kernel
theorem dX5_feed_8 : decode cX5_feed 8 = .ok (.if_icmp .le 5, 3) := by decide +kernel
theorem dX5_feed_11 : decode cX5_feed 11 = .ok (.iconst (-1), 1) := by decide +kernel
theorem dX5_feed_12 : decode cX5_feed 12 = .ok (.ireturn, 1) := by decide +kernel
theorem dX5_feed_13 : decode cX5_feed 13 = .ok (.aload_n 0, 1) := by decide +kernel
theorem dX5_feed_14 : decode cX5_feed 14 = .ok (.getfield 13, 3) := by decide +kernel
theorem dX5_feed_17 : decode cX5_feed 17 = .ok (.iload_n 1, 1) := by decide +kernel
theorem dX5_feed_18 : decode cX5_feed 18 = .ok (.iadd, 1) := by decide +kernel
theorem dX5_feed_19 : decode cX5_feed 19 = .ok (.sipush 600, 3) := by decide +kernel
theorem dX5_feed_22 : decode cX5_feed 22 = .ok (.if_icmp .le 6, 3) := by decide +kernel
theorem dX5_feed_25 : decode cX5_feed 25 = .ok (.bipush (-2), 2) := by decide +kernel
theorem dX5_feed_27 : decode cX5_feed 27 = .ok (.ireturn, 1) := by decide +kernel
theorem dX5_feed_28 : decode cX5_feed 28 = .ok (.iload_n 1, 1) := by decide +kernel
theorem dX5_feed_29 : decode cX5_feed 29 = .ok (.iconst 1, 1) := by decide +kernel
theorem dX5_feed_30 : decode cX5_feed 30 = .ok (.isub, 1) := by decide +kernel
theorem dX5_feed_31 : decode cX5_feed 31 = .ok (.istore 4, 2) := by decide +kernel
theorem dX5_feed_33 : decode cX5_feed 33 = .ok (.iload 4, 2) := by decide +kernel
theorem dX5_feed_35 : decode cX5_feed 35 = .ok (.ifCond .lt 40, 3) := by decide +kernel
theorem dX5_feed_38 : decode cX5_feed 38 = .ok (.aload_n 0, 1) := by decide +kernel
theorem dX5_feed_39 : decode cX5_feed 39 = .ok (.getfield 9, 3) := by decide +kernel
theorem dX5_feed_42 : decode cX5_feed 42 = .ok (.aload_n 0, 1) := by decide +kernel
theorem dX5_feed_43 : decode cX5_feed 43 = .ok (.getfield 13, 3) := by decide +kernel
theorem dX5_feed_46 : decode cX5_feed 46 = .ok (.lload_n 2, 1) := by decide +kernel
theorem dX5_feed_47 : decode cX5_feed 47 = .ok (.bipush 8, 2) := by decide +kernel
theorem dX5_feed_49 : decode cX5_feed 49 = .ok (.iload 4, 2) := by decide +kernel
theorem dX5_feed_51 : decode cX5_feed 51 = .ok (.imul, 1) := by decide +kernel
theorem dX5_feed_52 : decode cX5_feed 52 = .ok (.lushr, 1) := by decide +kernel
theorem dX5_feed_53 : decode cX5_feed 53 = .ok (.l2i, 1) := by decide +kernel
theorem dX5_feed_54 : decode cX5_feed 54 = .ok (.sipush 255, 3) := by decide +kernel
theorem dX5_feed_57 : decode cX5_feed 57 = .ok (.iand, 1) := by decide +kernel
theorem dX5_feed_58 : decode cX5_feed 58 = .ok (.iastore, 1) := by decide +kernel
theorem dX5_feed_59 : decode cX5_feed 59 = .ok (.aload_n 0, 1) := by decide +kernel
theorem dX5_feed_60 : decode cX5_feed 60 = .ok (.dup, 1) := by decide +kernel
theorem dX5_feed_61 : decode cX5_feed 61 = .ok (.getfield 13, 3) := by decide +kernel
theorem dX5_feed_64 : decode cX5_feed 64 = .ok (.iconst 1, 1) := by decide +kernel
theorem dX5_feed_65 : decode cX5_feed 65 = .ok (.iadd, 1) := by decide +kernel
theorem dX5_feed_66 : decode cX5_feed 66 = .ok (.putfield 13, 3) := by decide +kernel
theorem dX5_feed_69 : decode cX5_feed 69 = .ok (.iinc 4 (-1), 3) := by decide +kernel
theorem dX5_feed_72 : decode cX5_feed 72 = .ok (.goto (-39), 3) := by decide +kernel
theorem dX5_feed_75 : decode cX5_feed 75 = .ok (.aload_n 0, 1) := by decide +kernel
theorem dX5_feed_76 : decode cX5_feed 76 = .ok (.getfield 13, 3) := by decide +kernel
theorem dX5_feed_79 : decode cX5_feed 79 = .ok (.ireturn, 1) := by decide +kernel
theorem dX5_cut_0 : decode cX5_cut 0 = .ok (.iload_n 1, 1) := by decide +kernel
theorem dX5_cut_1 : decode cX5_cut 1 = .ok (.ifCond .lt 11, 3) := by decide +kernel
theorem dX5_cut_4 : decode cX5_cut 4 = .ok (.iload_n 1, 1) := by decide +kernel
theorem dX5_cut_5 : decode cX5_cut 5 = .ok (.aload_n 0, 1) := by decide +kernel
theorem dX5_cut_6 : decode cX5_cut 6 = .ok (.getfield 13, 3) := by decide +kernel
theorem dX5_cut_9 : decode cX5_cut 9 = .ok (.if_icmp .le 5, 3) := by decide +kernel
theorem dX5_cut_12 : decode cX5_cut 12 = .ok (.iconst (-1), 1) := by decide +kernel
theorem dX5_cut_13 : decode cX5_cut 13 = .ok (.ireturn, 1) := by decide +kernel
theorem dX5_cut_14 : decode cX5_cut 14 = .ok (.aload_n 0, 1) := by decide +kernel
theorem dX5_cut_15 : decode cX5_cut 15 = .ok (.getfield 13, 3) := by decide +kernel
theorem dX5_cut_18 : decode cX5_cut 18 = .ok (.iload_n 1, 1) := by decide +kernel
theorem dX5_cut_19 : decode cX5_cut 19 = .ok (.isub, 1) := by decide +kernel
theorem dX5_cut_20 : decode cX5_cut 20 = .ok (.istore_n 2, 1) := by decide +kernel
theorem dX5_cut_21 : decode cX5_cut 21 = .ok (.aload_n 0, 1) := by decide +kernel
theorem dX5_cut_22 : decode cX5_cut 22 = .ok (.iload_n 1, 1) := by decide +kernel
theorem dX5_cut_23 : decode cX5_cut 23 = .ok (.putfield 13, 3) := by decide +kernel
theorem dX5_cut_26 : decode cX5_cut 26 = .ok (.iload_n 2, 1) := by decide +kernel
theorem dX5_cut_27 : decode cX5_cut 27 = .ok (.ireturn, 1) := by decide +kernel
theorem dX5_octet_0 : decode cX5_octet 0 = .ok (.iload_n 1, 1) := by decide +kernel
theorem dX5_octet_1 : decode cX5_octet 1 = .ok (.ifCond .lt 11, 3) := by decide +kernel
theorem dX5_octet_4 : decode cX5_octet 4 = .ok (.iload_n 1, 1) := by decide +kernel
theorem dX5_octet_5 : decode cX5_octet 5 = .ok (.aload_n 0, 1) := by decide +kernel
theorem dX5_octet_6 : decode cX5_octet 6 = .ok (.getfield 13, 3) := by decide +kernel
theorem dX5_octet_9 : decode cX5_octet 9 = .ok (.if_icmp .lt 5, 3) := by decide +kernel
theorem dX5_octet_12 : decode cX5_octet 12 = .ok (.iconst (-1), 1) := by decide +kernel
theorem dX5_octet_13 : decode cX5_octet 13 = .ok (.ireturn, 1) := by decide +kernel
theorem dX5_octet_14 : decode cX5_octet 14 = .ok (.aload_n 0, 1) := by decide +kernel
theorem dX5_octet_15 : decode cX5_octet 15 = .ok (.getfield 9, 3) := by decide +kernel
theorem dX5_octet_18 : decode cX5_octet 18 = .ok (.iload_n 1, 1) := by decide +kernel
theorem dX5_octet_19 : decode cX5_octet 19 = .ok (.iaload, 1) := by decide +kernel
theorem dX5_octet_20 : decode cX5_octet 20 = .ok (.ireturn, 1) := by decide +kernel
theorem dX5_count_0 : decode cX5_count 0 = .ok (.iload_n 1, 1) := by decide +kernel
theorem dX5_count_1 : decode cX5_count 1 = .ok (.ifCond .ne 8, 3) := by decide +kernel
theorem dX5_count_4 : decode cX5_count 4 = .ok (.aload_n 0, 1) := by decide +kernel
theorem dX5_count_5 : decode cX5_count 5 = .ok (.getfield 23, 3) := by decide +kernel
theorem dX5_count_8 : decode cX5_count 8 = .ok (.ireturn, 1) := by decide +kernel
theorem dX5_count_9 : decode cX5_count 9 = .ok (.iload_n 1, 1) := by decide +kernel
theorem dX5_count_10 : decode cX5_count 10 = .ok (.iconst 1, 1) := by decide +kernel
theorem dX5_count_11 : decode cX5_count 11 = .ok (.if_icmp .ne 10, 3) := by decide +kernel
theorem dX5_count_14 : decode cX5_count 14 = .ok (.aload_n 0, 1) := by decide +kernel
theorem dX5_count_15 : decode cX5_count 15 = .ok (.getfield 13, 3) := by decide +kernel
theorem dX5_count_18 : decode cX5_count 18 = .ok (.goto 4, 3) := by decide +kernel
theorem dX5_count_21 : decode cX5_count 21 = .ok (.iconst (-1), 1) := by decide +kernel
theorem dX5_count_22 : decode cX5_count 22 = .ok (.ireturn, 1) := by decide +kernel
theorem dX5_sum_0 : decode cX5_sum 0 = .ok (.aload_n 0, 1) := by decide +kernel
theorem dX5_sum_1 : decode cX5_sum 1 = .ok (.iload_n 1, 1) := by decide +kernel
theorem dX5_sum_2 : decode cX5_sum 2 = .ok (.invokevirtual 42, 3) := by decide +kernel
theorem dX5_sum_5 : decode cX5_sum 5 = .ok (.ifCond .eq 12, 3) := by decide +kernel
theorem dX5_sum_8 : decode cX5_sum 8 = .ok (.aload_n 0, 1) := by decide +kernel
theorem dX5_sum_9 : decode cX5_sum 9 = .ok (.iload_n 2, 1) := by decide +kernel
theorem dX5_sum_10 : decode cX5_sum 10 = .ok (.iload_n 3, 1) := by decide +kernel
theorem dX5_sum_11 : decode cX5_sum 11 = .ok (.invokevirtual 46, 3) := by decide +kernel
theorem dX5_sum_14 : decode cX5_sum 14 = .ok (.ifCond .ne 7, 3) := by decide +kernel
theorem dX5_sum_17 : decode cX5_sum 17 = .ok (.ldc2_w 50, 3) := by decide +kernel
theorem dX5_sum_20 : decode cX5_sum 20 = .ok (.lreturn, 1) := by decide +kernel
theorem dX5_sum_21 : decode cX5_sum 21 = .ok (.aload_n 0, 1) := by decide +kernel
theorem dX5_sum_22 : decode cX5_sum 22 = .ok (.getfield 19, 3) := by decide +kernel
theorem dX5_sum_25 : decode cX5_sum 25 = .ok (.iload_n 1, 1) := by decide +kernel
theorem dX5_sum_26 : decode cX5_sum 26 = .ok (.aaload, 1) := by decide +kernel
theorem dX5_sum_27 : decode cX5_sum 27 = .ok (.astore 4, 2) := by decide +kernel
theorem dX5_sum_29 : decode cX5_sum 29 = .ok (.aload 4, 2) := by decide +kernel
theorem dX5_sum_31 : decode cX5_sum 31 = .ok (.getfield 52, 3) := by decide +kernel
theorem dX5_sum_34 : decode cX5_sum 34 = .ok (.lstore 5, 2) := by decide +kernel
theorem dX5_sum_36 : decode cX5_sum 36 = .ok (.iload_n 2, 1) := by decide +kernel
theorem dX5_sum_37 : decode cX5_sum 37 = .ok (.istore 7, 2) := by decide +kernel
theorem dX5_sum_39 : decode cX5_sum 39 = .ok (.iload 7, 2) := by decide +kernel
theorem dX5_sum_41 : decode cX5_sum 41 = .ok (.iload_n 3, 1) := by decide +kernel
theorem dX5_sum_42 : decode cX5_sum 42 = .ok (.if_icmp .ge 25, 3) := by decide +kernel
theorem dX5_sum_45 : decode cX5_sum 45 = .ok (.aload 4, 2) := by decide +kernel
theorem dX5_sum_47 : decode cX5_sum 47 = .ok (.lload 5, 2) := by decide +kernel
theorem dX5_sum_49 : decode cX5_sum 49 = .ok (.aload_n 0, 1) := by decide +kernel
theorem dX5_sum_50 : decode cX5_sum 50 = .ok (.getfield 9, 3) := by decide +kernel
theorem dX5_sum_53 : decode cX5_sum 53 = .ok (.iload 7, 2) := by decide +kernel
theorem dX5_sum_55 : decode cX5_sum 55 = .ok (.iaload, 1) := by decide +kernel
theorem dX5_sum_56 : decode cX5_sum 56 = .ok (.invokevirtual 56, 3) := by decide +kernel
theorem dX5_sum_59 : decode cX5_sum 59 = .ok (.lstore 5, 2) := by decide +kernel
theorem dX5_sum_61 : decode cX5_sum 61 = .ok (.iinc 7 1, 3) := by decide +kernel
theorem dX5_sum_64 : decode cX5_sum 64 = .ok (.goto (-25), 3) := by decide +kernel
theorem dX5_sum_67 : decode cX5_sum 67 = .ok (.aload 4, 2) := by decide +kernel
theorem dX5_sum_69 : decode cX5_sum 69 = .ok (.lload 5, 2) := by decide +kernel
theorem dX5_sum_71 : decode cX5_sum 71 = .ok (.invokevirtual 60, 3) := by decide +kernel
theorem dX5_sum_74 : decode cX5_sum 74 = .ok (.lreturn, 1) := by decide +kernel
theorem dX5_joined_0 : decode cX5_joined 0 = .ok (.aload_n 0, 1) := by decide +kernel
theorem dX5_joined_1 : decode cX5_joined 1 = .ok (.iload_n 1, 1) := by decide +kernel
theorem dX5_joined_2 : decode cX5_joined 2 = .ok (.lload_n 2, 1) := by decide +kernel
theorem dX5_joined_3 : decode cX5_joined 3 = .ok (.invokevirtual 64, 3) := by decide +kernel
theorem dX5_joined_6 : decode cX5_joined 6 = .ok (.ifCond .eq 21, 3) := by decide +kernel
theorem dX5_joined_9 : decode cX5_joined 9 = .ok (.aload_n 0, 1) := by decide +kernel
theorem dX5_joined_10 : decode cX5_joined 10 = .ok (.iload_n 1, 1) := by decide +kernel
theorem dX5_joined_11 : decode cX5_joined 11 = .ok (.lload 4, 2) := by decide +kernel
theorem dX5_joined_13 : decode cX5_joined 13 = .ok (.invokevirtual 64, 3) := by decide +kernel
theorem dX5_joined_16 : decode cX5_joined 16 = .ok (.ifCond .eq 11, 3) := by decide +kernel
theorem dX5_joined_19 : decode cX5_joined 19 = .ok (.lload 6, 2) := by decide +kernel
theorem dX5_joined_21 : decode cX5_joined 21 = .ok (.invokestatic 68, 3) := by decide +kernel
theorem dX5_joined_24 : decode cX5_joined 24 = .ok (.ifCond .ne 7, 3) := by decide +kernel
theorem dX5_joined_27 : decode cX5_joined 27 = .ok (.ldc2_w 50, 3) := by decide +kernel
theorem dX5_joined_30 : decode cX5_joined 30 = .ok (.lreturn, 1) := by decide +kernel
theorem dX5_joined_31 : decode cX5_joined 31 = .ok (.aload_n 0, 1) := by decide +kernel
theorem dX5_joined_32 : decode cX5_joined 32 = .ok (.getfield 19, 3) := by decide +kernel
theorem dX5_joined_35 : decode cX5_joined 35 = .ok (.iload_n 1, 1) := by decide +kernel
theorem dX5_joined_36 : decode cX5_joined 36 = .ok (.aaload, 1) := by decide +kernel
theorem dX5_joined_37 : decode cX5_joined 37 = .ok (.astore 8, 2) := by decide +kernel
theorem dX5_joined_39 : decode cX5_joined 39 = .ok (.aload 8, 2) := by decide +kernel
theorem dX5_joined_41 : decode cX5_joined 41 = .ok (.aload 8, 2) := by decide +kernel
theorem dX5_joined_43 : decode cX5_joined 43 = .ok (.lload_n 2, 1) := by decide +kernel
theorem dX5_joined_44 : decode cX5_joined 44 = .ok (.invokevirtual 72, 3) := by decide +kernel
theorem dX5_joined_47 : decode cX5_joined 47 = .ok (.aload 8, 2) := by decide +kernel
theorem dX5_joined_49 : decode cX5_joined 49 = .ok (.getfield 52, 3) := by decide +kernel
theorem dX5_joined_52 : decode cX5_joined 52 = .ok (.lxor, 1) := by decide +kernel
theorem dX5_joined_53 : decode cX5_joined 53 = .ok (.lload 6, 2) := by decide +kernel
theorem dX5_joined_55 : decode cX5_joined 55 = .ok (.invokevirtual 75, 3) := by decide +kernel
theorem dX5_joined_58 : decode cX5_joined 58 = .ok (.lstore 9, 2) := by decide +kernel
theorem dX5_joined_60 : decode cX5_joined 60 = .ok (.aload 8, 2) := by decide +kernel
theorem dX5_joined_62 : decode cX5_joined 62 = .ok (.aload 8, 2) := by decide +kernel
theorem dX5_joined_64 : decode cX5_joined 64 = .ok (.lload 4, 2) := by decide +kernel
theorem dX5_joined_66 : decode cX5_joined 66 = .ok (.invokevirtual 72, 3) := by decide +kernel
theorem dX5_joined_69 : decode cX5_joined 69 = .ok (.lload 9, 2) := by decide +kernel
theorem dX5_joined_71 : decode cX5_joined 71 = .ok (.lxor, 1) := by decide +kernel
theorem dX5_joined_72 : decode cX5_joined 72 = .ok (.invokevirtual 60, 3) := by decide +kernel
theorem dX5_joined_75 : decode cX5_joined 75 = .ok (.lreturn, 1) := by decide +kernel
theorem dX5_zeros_0 : decode cX5_zeros 0 = .ok (.aload_n 0, 1) := by decide +kernel
theorem dX5_zeros_1 : decode cX5_zeros 1 = .ok (.iload_n 1, 1) := by decide +kernel
theorem dX5_zeros_2 : decode cX5_zeros 2 = .ok (.lload_n 2, 1) := by decide +kernel
theorem dX5_zeros_3 : decode cX5_zeros 3 = .ok (.invokevirtual 64, 3) := by decide +kernel
theorem dX5_zeros_6 : decode cX5_zeros 6 = .ok (.ifCond .eq 11, 3) := by decide +kernel
theorem dX5_zeros_9 : decode cX5_zeros 9 = .ok (.lload 4, 2) := by decide +kernel
theorem dX5_zeros_11 : decode cX5_zeros 11 = .ok (.invokestatic 68, 3) := by decide +kernel
theorem dX5_zeros_14 : decode cX5_zeros 14 = .ok (.ifCond .ne 7, 3) := by decide +kernel
theorem dX5_zeros_17 : decode cX5_zeros 17 = .ok (.ldc2_w 50, 3) := by decide +kernel
theorem dX5_zeros_20 : decode cX5_zeros 20 = .ok (.lreturn, 1) := by decide +kernel
theorem dX5_zeros_21 : decode cX5_zeros 21 = .ok (.aload_n 0, 1) := by decide +kernel
theorem dX5_zeros_22 : decode cX5_zeros 22 = .ok (.getfield 19, 3) := by decide +kernel
theorem dX5_zeros_25 : decode cX5_zeros 25 = .ok (.iload_n 1, 1) := by decide +kernel
theorem dX5_zeros_26 : decode cX5_zeros 26 = .ok (.aaload, 1) := by decide +kernel
theorem dX5_zeros_27 : decode cX5_zeros 27 = .ok (.astore 6, 2) := by decide +kernel
theorem dX5_zeros_29 : decode cX5_zeros 29 = .ok (.aload 6, 2) := by decide +kernel
theorem dX5_zeros_31 : decode cX5_zeros 31 = .ok (.aload 6, 2) := by decide +kernel
theorem dX5_zeros_33 : decode cX5_zeros 33 = .ok (.aload 6, 2) := by decide +kernel
theorem dX5_zeros_35 : decode cX5_zeros 35 = .ok (.lload_n 2, 1) := by decide +kernel
theorem dX5_zeros_36 : decode cX5_zeros 36 = .ok (.invokevirtual 72, 3) := by decide +kernel
theorem dX5_zeros_39 : decode cX5_zeros 39 = .ok (.lload 4, 2) := by decide +kernel
theorem dX5_zeros_41 : decode cX5_zeros 41 = .ok (.invokevirtual 75, 3) := by decide +kernel
theorem dX5_zeros_44 : decode cX5_zeros 44 = .ok (.invokevirtual 60, 3) := by decide +kernel
theorem dX5_zeros_47 : decode cX5_zeros 47 = .ok (.lreturn, 1) := by decide +kernel
theorem dX5_changed_0 : decode cX5_changed 0 = .ok (.aload_n 0, 1) := by decide +kernel
theorem dX5_changed_1 : decode cX5_changed 1 = .ok (.iload_n 1, 1) := by decide +kernel
theorem dX5_changed_2 : decode cX5_changed 2 = .ok (.lload_n 2, 1) := by decide +kernel
theorem dX5_changed_3 : decode cX5_changed 3 = .ok (.invokevirtual 64, 3) := by decide +kernel
theorem dX5_changed_6 : decode cX5_changed 6 = .ok (.ifCond .eq 24, 3) := by decide +kernel
theorem dX5_changed_9 : decode cX5_changed 9 = .ok (.lload 4, 2) := by decide +kernel
theorem dX5_changed_11 : decode cX5_changed 11 = .ok (.invokestatic 68, 3) := by decide +kernel
theorem dX5_changed_14 : decode cX5_changed 14 = .ok (.ifCond .eq 16, 3) := by decide +kernel
theorem dX5_changed_17 : decode cX5_changed 17 = .ok (.iload 6, 2) := by decide +kernel
theorem dX5_changed_19 : decode cX5_changed 19 = .ok (.ifCond .lt 11, 3) := by decide +kernel
theorem dX5_changed_22 : decode cX5_changed 22 = .ok (.iload 6, 2) := by decide +kernel
theorem dX5_changed_24 : decode cX5_changed 24 = .ok (.sipush 255, 3) := by decide +kernel
theorem dX5_changed_27 : decode cX5_changed 27 = .ok (.if_icmp .le 7, 3) := by decide +kernel
theorem dX5_changed_30 : decode cX5_changed 30 = .ok (.ldc2_w 50, 3) := by decide +kernel
theorem dX5_changed_33 : decode cX5_changed 33 = .ok (.lreturn, 1) := by decide +kernel
theorem dX5_changed_34 : decode cX5_changed 34 = .ok (.aload_n 0, 1) := by decide +kernel
theorem dX5_changed_35 : decode cX5_changed 35 = .ok (.getfield 19, 3) := by decide +kernel
theorem dX5_changed_38 : decode cX5_changed 38 = .ok (.iload_n 1, 1) := by decide +kernel
theorem dX5_changed_39 : decode cX5_changed 39 = .ok (.aaload, 1) := by decide +kernel
theorem dX5_changed_40 : decode cX5_changed 40 = .ok (.astore 7, 2) := by decide +kernel
theorem dX5_changed_42 : decode cX5_changed 42 = .ok (.aload 7, 2) := by decide +kernel
theorem dX5_changed_44 : decode cX5_changed 44 = .ok (.aload 7, 2) := by decide +kernel
theorem dX5_changed_46 : decode cX5_changed 46 = .ok (.lconst 0, 1) := by decide +kernel
theorem dX5_changed_47 : decode cX5_changed 47 = .ok (.iload 6, 2) := by decide +kernel
theorem dX5_changed_49 : decode cX5_changed 49 = .ok (.invokevirtual 56, 3) := by decide +kernel
theorem dX5_changed_52 : decode cX5_changed 52 = .ok (.lload 4, 2) := by decide +kernel
theorem dX5_changed_54 : decode cX5_changed 54 = .ok (.invokevirtual 75, 3) := by decide +kernel
theorem dX5_changed_57 : decode cX5_changed 57 = .ok (.lstore 8, 2) := by decide +kernel
theorem dX5_changed_59 : decode cX5_changed 59 = .ok (.aload 7, 2) := by decide +kernel
theorem dX5_changed_61 : decode cX5_changed 61 = .ok (.aload 7, 2) := by decide +kernel
theorem dX5_changed_63 : decode cX5_changed 63 = .ok (.lload_n 2, 1) := by decide +kernel
theorem dX5_changed_64 : decode cX5_changed 64 = .ok (.invokevirtual 72, 3) := by decide +kernel
theorem dX5_changed_67 : decode cX5_changed 67 = .ok (.lload 8, 2) := by decide +kernel
theorem dX5_changed_69 : decode cX5_changed 69 = .ok (.lxor, 1) := by decide +kernel
theorem dX5_changed_70 : decode cX5_changed 70 = .ok (.invokevirtual 60, 3) := by decide +kernel
theorem dX5_changed_73 : decode cX5_changed 73 = .ok (.lreturn, 1) := by decide +kernel
theorem dX5_tail_0 : decode cX5_tail 0 = .ok (.aload_n 0, 1) := by decide +kernel
theorem dX5_tail_1 : decode cX5_tail 1 = .ok (.iload_n 1, 1) := by decide +kernel
theorem dX5_tail_2 : decode cX5_tail 2 = .ok (.lload_n 2, 1) := by decide +kernel
theorem dX5_tail_3 : decode cX5_tail 3 = .ok (.invokevirtual 64, 3) := by decide +kernel
theorem dX5_tail_6 : decode cX5_tail 6 = .ok (.ifCond .eq 28, 3) := by decide +kernel
theorem dX5_tail_9 : decode cX5_tail 9 = .ok (.aload_n 0, 1) := by decide +kernel
theorem dX5_tail_10 : decode cX5_tail 10 = .ok (.iload_n 1, 1) := by decide +kernel
theorem dX5_tail_11 : decode cX5_tail 11 = .ok (.lload 4, 2) := by decide +kernel
theorem dX5_tail_13 : decode cX5_tail 13 = .ok (.invokevirtual 64, 3) := by decide +kernel
theorem dX5_tail_16 : decode cX5_tail 16 = .ok (.ifCond .eq 18, 3) := by decide +kernel
theorem dX5_tail_19 : decode cX5_tail 19 = .ok (.aload_n 0, 1) := by decide +kernel
theorem dX5_tail_20 : decode cX5_tail 20 = .ok (.getfield 19, 3) := by decide +kernel
theorem dX5_tail_23 : decode cX5_tail 23 = .ok (.iload_n 1, 1) := by decide +kernel
theorem dX5_tail_24 : decode cX5_tail 24 = .ok (.aaload, 1) := by decide +kernel
theorem dX5_tail_25 : decode cX5_tail 25 = .ok (.getfield 79, 3) := by decide +kernel
theorem dX5_tail_28 : decode cX5_tail 28 = .ok (.bipush 8, 2) := by decide +kernel
theorem dX5_tail_30 : decode cX5_tail 30 = .ok (.irem, 1) := by decide +kernel
theorem dX5_tail_31 : decode cX5_tail 31 = .ok (.ifCond .eq 7, 3) := by decide +kernel
theorem dX5_tail_34 : decode cX5_tail 34 = .ok (.ldc2_w 50, 3) := by decide +kernel
theorem dX5_tail_37 : decode cX5_tail 37 = .ok (.lreturn, 1) := by decide +kernel
theorem dX5_tail_38 : decode cX5_tail 38 = .ok (.aload_n 0, 1) := by decide +kernel
theorem dX5_tail_39 : decode cX5_tail 39 = .ok (.getfield 19, 3) := by decide +kernel
theorem dX5_tail_42 : decode cX5_tail 42 = .ok (.iload_n 1, 1) := by decide +kernel
theorem dX5_tail_43 : decode cX5_tail 43 = .ok (.aaload, 1) := by decide +kernel
theorem dX5_tail_44 : decode cX5_tail 44 = .ok (.astore 6, 2) := by decide +kernel
theorem dX5_tail_46 : decode cX5_tail 46 = .ok (.aload 6, 2) := by decide +kernel
theorem dX5_tail_48 : decode cX5_tail 48 = .ok (.aload 6, 2) := by decide +kernel
theorem dX5_tail_50 : decode cX5_tail 50 = .ok (.lload_n 2, 1) := by decide +kernel
theorem dX5_tail_51 : decode cX5_tail 51 = .ok (.invokevirtual 72, 3) := by decide +kernel
theorem dX5_tail_54 : decode cX5_tail 54 = .ok (.aload 6, 2) := by decide +kernel
theorem dX5_tail_56 : decode cX5_tail 56 = .ok (.lload 4, 2) := by decide +kernel
theorem dX5_tail_58 : decode cX5_tail 58 = .ok (.invokevirtual 72, 3) := by decide +kernel
theorem dX5_tail_61 : decode cX5_tail 61 = .ok (.invokevirtual 82, 3) := by decide +kernel
theorem dX5_tail_64 : decode cX5_tail 64 = .ok (.lreturn, 1) := by decide +kernel
theorem dX5_factors_0 : decode cX5_factors 0 = .ok (.aload_n 0, 1) := by decide +kernel
theorem dX5_factors_1 : decode cX5_factors 1 = .ok (.iload_n 1, 1) := by decide +kernel
theorem dX5_factors_2 : decode cX5_factors 2 = .ok (.invokevirtual 42, 3) := by decide +kernel
theorem dX5_factors_5 : decode cX5_factors 5 = .ok (.ifCond .ne 5, 3) := by decide +kernel
theorem dX5_factors_8 : decode cX5_factors 8 = .ok (.iconst (-1), 1) := by decide +kernel
theorem dX5_factors_9 : decode cX5_factors 9 = .ok (.ireturn, 1) := by decide +kernel
theorem dX5_factors_10 : decode cX5_factors 10 = .ok (.aload_n 0, 1) := by decide +kernel
theorem dX5_factors_11 : decode cX5_factors 11 = .ok (.getfield 19, 3) := by decide +kernel
theorem dX5_factors_14 : decode cX5_factors 14 = .ok (.iload_n 1, 1) := by decide +kernel
theorem dX5_factors_15 : decode cX5_factors 15 = .ok (.aaload, 1) := by decide +kernel
theorem dX5_factors_16 : decode cX5_factors 16 = .ok (.astore_n 2, 1) := by decide +kernel
theorem dX5_factors_17 : decode cX5_factors 17 = .ok (.aload_n 2, 1) := by decide +kernel
theorem dX5_factors_18 : decode cX5_factors 18 = .ok (.getfield 85, 3) := by decide +kernel
theorem dX5_factors_21 : decode cX5_factors 21 = .ok (.aload_n 2, 1) := by decide +kernel
theorem dX5_factors_22 : decode cX5_factors 22 = .ok (.getfield 89, 3) := by decide +kernel
theorem dX5_factors_25 : decode cX5_factors 25 = .ok (.invokevirtual 92, 3) := by decide +kernel
theorem dX5_factors_28 : decode cX5_factors 28 = .ok (.aload_n 2, 1) := by decide +kernel
theorem dX5_factors_29 : decode cX5_factors 29 = .ok (.getfield 85, 3) := by decide +kernel
theorem dX5_factors_32 : decode cX5_factors 32 = .ok (.getfield 98, 3) := by decide +kernel
theorem dX5_factors_35 : decode cX5_factors 35 = .ok (.ireturn, 1) := by decide +kernel
theorem dX5_factor_0 : decode cX5_factor 0 = .ok (.aload_n 0, 1) := by decide +kernel
theorem dX5_factor_1 : decode cX5_factor 1 = .ok (.iload_n 1, 1) := by decide +kernel
theorem dX5_factor_2 : decode cX5_factor 2 = .ok (.invokevirtual 42, 3) := by decide +kernel
theorem dX5_factor_5 : decode cX5_factor 5 = .ok (.ifCond .eq 16, 3) := by decide +kernel
theorem dX5_factor_8 : decode cX5_factor 8 = .ok (.iload_n 2, 1) := by decide +kernel
theorem dX5_factor_9 : decode cX5_factor 9 = .ok (.ifCond .lt 12, 3) := by decide +kernel
theorem dX5_factor_12 : decode cX5_factor 12 = .ok (.iload_n 3, 1) := by decide +kernel
theorem dX5_factor_13 : decode cX5_factor 13 = .ok (.ifCond .lt 8, 3) := by decide +kernel
theorem dX5_factor_16 : decode cX5_factor 16 = .ok (.iload_n 3, 1) := by decide +kernel
theorem dX5_factor_17 : decode cX5_factor 17 = .ok (.iconst 1, 1) := by decide +kernel
theorem dX5_factor_18 : decode cX5_factor 18 = .ok (.if_icmp .le 7, 3) := by decide +kernel
theorem dX5_factor_21 : decode cX5_factor 21 = .ok (.ldc2_w 50, 3) := by decide +kernel
theorem dX5_factor_24 : decode cX5_factor 24 = .ok (.lreturn, 1) := by decide +kernel
theorem dX5_factor_25 : decode cX5_factor 25 = .ok (.aload_n 0, 1) := by decide +kernel
theorem dX5_factor_26 : decode cX5_factor 26 = .ok (.getfield 19, 3) := by decide +kernel
theorem dX5_factor_29 : decode cX5_factor 29 = .ok (.iload_n 1, 1) := by decide +kernel
theorem dX5_factor_30 : decode cX5_factor 30 = .ok (.aaload, 1) := by decide +kernel
theorem dX5_factor_31 : decode cX5_factor 31 = .ok (.astore 4, 2) := by decide +kernel
theorem dX5_factor_33 : decode cX5_factor 33 = .ok (.aload 4, 2) := by decide +kernel
theorem dX5_factor_35 : decode cX5_factor 35 = .ok (.getfield 85, 3) := by decide +kernel
theorem dX5_factor_38 : decode cX5_factor 38 = .ok (.aload 4, 2) := by decide +kernel
theorem dX5_factor_40 : decode cX5_factor 40 = .ok (.getfield 89, 3) := by decide +kernel
theorem dX5_factor_43 : decode cX5_factor 43 = .ok (.invokevirtual 92, 3) := by decide +kernel
theorem dX5_factor_46 : decode cX5_factor 46 = .ok (.iload_n 2, 1) := by decide +kernel
theorem dX5_factor_47 : decode cX5_factor 47 = .ok (.aload 4, 2) := by decide +kernel
theorem dX5_factor_49 : decode cX5_factor 49 = .ok (.getfield 85, 3) := by decide +kernel
theorem dX5_factor_52 : decode cX5_factor 52 = .ok (.getfield 98, 3) := by decide +kernel
theorem dX5_factor_55 : decode cX5_factor 55 = .ok (.if_icmp .lt 7, 3) := by decide +kernel
theorem dX5_factor_58 : decode cX5_factor 58 = .ok (.ldc2_w 50, 3) := by decide +kernel
theorem dX5_factor_61 : decode cX5_factor 61 = .ok (.lreturn, 1) := by decide +kernel
theorem dX5_factor_62 : decode cX5_factor 62 = .ok (.iload_n 3, 1) := by decide +kernel
theorem dX5_factor_63 : decode cX5_factor 63 = .ok (.ifCond .ne 16, 3) := by decide +kernel
theorem dX5_factor_66 : decode cX5_factor 66 = .ok (.aload 4, 2) := by decide +kernel
theorem dX5_factor_68 : decode cX5_factor 68 = .ok (.getfield 85, 3) := by decide +kernel
theorem dX5_factor_71 : decode cX5_factor 71 = .ok (.getfield 101, 3) := by decide +kernel
theorem dX5_factor_74 : decode cX5_factor 74 = .ok (.iload_n 2, 1) := by decide +kernel
theorem dX5_factor_75 : decode cX5_factor 75 = .ok (.laload, 1) := by decide +kernel
theorem dX5_factor_76 : decode cX5_factor 76 = .ok (.goto 14, 3) := by decide +kernel
theorem dX5_factor_79 : decode cX5_factor 79 = .ok (.aload 4, 2) := by decide +kernel
theorem dX5_factor_81 : decode cX5_factor 81 = .ok (.getfield 85, 3) := by decide +kernel
theorem dX5_factor_84 : decode cX5_factor 84 = .ok (.getfield 105, 3) := by decide +kernel
theorem dX5_factor_87 : decode cX5_factor 87 = .ok (.iload_n 2, 1) := by decide +kernel
theorem dX5_factor_88 : decode cX5_factor 88 = .ok (.iaload, 1) := by decide +kernel
theorem dX5_factor_89 : decode cX5_factor 89 = .ok (.i2l, 1) := by decide +kernel
theorem dX5_factor_90 : decode cX5_factor 90 = .ok (.lreturn, 1) := by decide +kernel
theorem dX5_order_0 : decode cX5_order 0 = .ok (.aload_n 0, 1) := by decide +kernel
theorem dX5_order_1 : decode cX5_order 1 = .ok (.iload_n 1, 1) := by decide +kernel
theorem dX5_order_2 : decode cX5_order 2 = .ok (.invokevirtual 42, 3) := by decide +kernel
theorem dX5_order_5 : decode cX5_order 5 = .ok (.ifCond .ne 7, 3) := by decide +kernel
theorem dX5_order_8 : decode cX5_order 8 = .ok (.ldc2_w 50, 3) := by decide +kernel
theorem dX5_order_11 : decode cX5_order 11 = .ok (.lreturn, 1) := by decide +kernel
theorem dX5_order_12 : decode cX5_order 12 = .ok (.aload_n 0, 1) := by decide +kernel
theorem dX5_order_13 : decode cX5_order 13 = .ok (.getfield 19, 3) := by decide +kernel
theorem dX5_order_16 : decode cX5_order 16 = .ok (.iload_n 1, 1) := by decide +kernel
theorem dX5_order_17 : decode cX5_order 17 = .ok (.aaload, 1) := by decide +kernel
theorem dX5_order_18 : decode cX5_order 18 = .ok (.astore_n 2, 1) := by decide +kernel
theorem dX5_order_19 : decode cX5_order 19 = .ok (.aload_n 2, 1) := by decide +kernel
theorem dX5_order_20 : decode cX5_order 20 = .ok (.getfield 85, 3) := by decide +kernel
theorem dX5_order_23 : decode cX5_order 23 = .ok (.aload_n 2, 1) := by decide +kernel
theorem dX5_order_24 : decode cX5_order 24 = .ok (.getfield 89, 3) := by decide +kernel
theorem dX5_order_27 : decode cX5_order 27 = .ok (.invokevirtual 92, 3) := by decide +kernel
theorem dX5_order_30 : decode cX5_order 30 = .ok (.aload_n 2, 1) := by decide +kernel
theorem dX5_order_31 : decode cX5_order 31 = .ok (.getfield 85, 3) := by decide +kernel
theorem dX5_order_34 : decode cX5_order 34 = .ok (.invokevirtual 108, 3) := by decide +kernel
theorem dX5_order_37 : decode cX5_order 37 = .ok (.lreturn, 1) := by decide +kernel
theorem dX5_distance_0 : decode cX5_distance 0 = .ok (.aload_n 0, 1) := by decide +kernel
theorem dX5_distance_1 : decode cX5_distance 1 = .ok (.iload_n 1, 1) := by decide +kernel
theorem dX5_distance_2 : decode cX5_distance 2 = .ok (.invokevirtual 42, 3) := by decide +kernel
theorem dX5_distance_5 : decode cX5_distance 5 = .ok (.ifCond .eq 15, 3) := by decide +kernel
theorem dX5_distance_8 : decode cX5_distance 8 = .ok (.iload_n 2, 1) := by decide +kernel
theorem dX5_distance_9 : decode cX5_distance 9 = .ok (.iconst 1, 1) := by decide +kernel
theorem dX5_distance_10 : decode cX5_distance 10 = .ok (.if_icmp .lt 10, 3) := by decide +kernel
theorem dX5_distance_13 : decode cX5_distance 13 = .ok (.iload_n 2, 1) := by decide +kernel
theorem dX5_distance_14 : decode cX5_distance 14 = .ok (.sipush 200, 3) := by decide +kernel
theorem dX5_distance_17 : decode cX5_distance 17 = .ok (.if_icmp .le 5, 3) := by decide +kernel
theorem dX5_distance_20 : decode cX5_distance 20 = .ok (.iconst (-1), 1) := by decide +kernel
theorem dX5_distance_21 : decode cX5_distance 21 = .ok (.ireturn, 1) := by decide +kernel
theorem dX5_distance_22 : decode cX5_distance 22 = .ok (.aload_n 0, 1) := by decide +kernel
theorem dX5_distance_23 : decode cX5_distance 23 = .ok (.getfield 19, 3) := by decide +kernel
theorem dX5_distance_26 : decode cX5_distance 26 = .ok (.iload_n 1, 1) := by decide +kernel
theorem dX5_distance_27 : decode cX5_distance 27 = .ok (.aaload, 1) := by decide +kernel
theorem dX5_distance_28 : decode cX5_distance 28 = .ok (.astore_n 3, 1) := by decide +kernel
theorem dX5_distance_29 : decode cX5_distance 29 = .ok (.aload_n 3, 1) := by decide +kernel
theorem dX5_distance_30 : decode cX5_distance 30 = .ok (.getfield 112, 3) := by decide +kernel
theorem dX5_distance_33 : decode cX5_distance 33 = .ok (.aload_n 3, 1) := by decide +kernel
theorem dX5_distance_34 : decode cX5_distance 34 = .ok (.getfield 89, 3) := by decide +kernel
theorem dX5_distance_37 : decode cX5_distance 37 = .ok (.aload_n 0, 1) := by decide +kernel
theorem dX5_distance_38 : decode cX5_distance 38 = .ok (.getfield 29, 3) := by decide +kernel
theorem dX5_distance_41 : decode cX5_distance 41 = .ok (.invokevirtual 116, 3) := by decide +kernel
theorem dX5_distance_44 : decode cX5_distance 44 = .ok (.aload_n 3, 1) := by decide +kernel
theorem dX5_distance_45 : decode cX5_distance 45 = .ok (.getfield 112, 3) := by decide +kernel
theorem dX5_distance_48 : decode cX5_distance 48 = .ok (.iload_n 2, 1) := by decide +kernel
theorem dX5_distance_49 : decode cX5_distance 49 = .ok (.invokevirtual 121, 3) := by decide +kernel
theorem dX5_distance_52 : decode cX5_distance 52 = .ok (.ireturn, 1) := by decide +kernel
theorem dX5_added_0 : decode cX5_added 0 = .ok (.iload_n 1, 1) := by decide +kernel
theorem dX5_added_1 : decode cX5_added 1 = .ok (.invokestatic 125, 3) := by decide +kernel
theorem dX5_added_4 : decode cX5_added 4 = .ok (.ifCond .eq 12, 3) := by decide +kernel
theorem dX5_added_7 : decode cX5_added 7 = .ok (.aload_n 0, 1) := by decide +kernel
theorem dX5_added_8 : decode cX5_added 8 = .ok (.iload_n 2, 1) := by decide +kernel
theorem dX5_added_9 : decode cX5_added 9 = .ok (.iload_n 3, 1) := by decide +kernel
theorem dX5_added_10 : decode cX5_added 10 = .ok (.invokevirtual 46, 3) := by decide +kernel
theorem dX5_added_13 : decode cX5_added 13 = .ok (.ifCond .ne 7, 3) := by decide +kernel
theorem dX5_added_16 : decode cX5_added 16 = .ok (.ldc2_w 50, 3) := by decide +kernel
theorem dX5_added_19 : decode cX5_added 19 = .ok (.lreturn, 1) := by decide +kernel
theorem dX5_added_20 : decode cX5_added 20 = .ok (.getstatic 128, 3) := by decide +kernel
theorem dX5_added_23 : decode cX5_added 23 = .ok (.iload_n 1, 1) := by decide +kernel
theorem dX5_added_24 : decode cX5_added 24 = .ok (.iaload, 1) := by decide +kernel
theorem dX5_added_25 : decode cX5_added 25 = .ok (.istore 4, 2) := by decide +kernel
theorem dX5_added_27 : decode cX5_added 27 = .ok (.getstatic 131, 3) := by decide +kernel
theorem dX5_added_30 : decode cX5_added 30 = .ok (.iload_n 1, 1) := by decide +kernel
theorem dX5_added_31 : decode cX5_added 31 = .ok (.iaload, 1) := by decide +kernel
theorem dX5_added_32 : decode cX5_added 32 = .ok (.istore 5, 2) := by decide +kernel
theorem dX5_added_34 : decode cX5_added 34 = .ok (.iconst 0, 1) := by decide +kernel
theorem dX5_added_35 : decode cX5_added 35 = .ok (.istore 6, 2) := by decide +kernel
theorem dX5_added_37 : decode cX5_added 37 = .ok (.iload_n 2, 1) := by decide +kernel
theorem dX5_added_38 : decode cX5_added 38 = .ok (.istore 7, 2) := by decide +kernel
theorem dX5_added_40 : decode cX5_added 40 = .ok (.iload 7, 2) := by decide +kernel
theorem dX5_added_42 : decode cX5_added 42 = .ok (.iload_n 3, 1) := by decide +kernel
theorem dX5_added_43 : decode cX5_added 43 = .ok (.if_icmp .ge 34, 3) := by decide +kernel
theorem dX5_added_46 : decode cX5_added 46 = .ok (.iload 5, 2) := by decide +kernel
theorem dX5_added_48 : decode cX5_added 48 = .ok (.aload_n 0, 1) := by decide +kernel
theorem dX5_added_49 : decode cX5_added 49 = .ok (.getfield 9, 3) := by decide +kernel
theorem dX5_added_52 : decode cX5_added 52 = .ok (.iload 7, 2) := by decide +kernel
theorem dX5_added_54 : decode cX5_added 54 = .ok (.iaload, 1) := by decide +kernel
theorem dX5_added_55 : decode cX5_added 55 = .ok (.iadd, 1) := by decide +kernel
theorem dX5_added_56 : decode cX5_added 56 = .ok (.iload 4, 2) := by decide +kernel
theorem dX5_added_58 : decode cX5_added 58 = .ok (.irem, 1) := by decide +kernel
theorem dX5_added_59 : decode cX5_added 59 = .ok (.istore 5, 2) := by decide +kernel
theorem dX5_added_61 : decode cX5_added 61 = .ok (.iload 6, 2) := by decide +kernel
theorem dX5_added_63 : decode cX5_added 63 = .ok (.iload 5, 2) := by decide +kernel
theorem dX5_added_65 : decode cX5_added 65 = .ok (.iadd, 1) := by decide +kernel
theorem dX5_added_66 : decode cX5_added 66 = .ok (.iload 4, 2) := by decide +kernel
theorem dX5_added_68 : decode cX5_added 68 = .ok (.irem, 1) := by decide +kernel
theorem dX5_added_69 : decode cX5_added 69 = .ok (.istore 6, 2) := by decide +kernel
theorem dX5_added_71 : decode cX5_added 71 = .ok (.iinc 7 1, 3) := by decide +kernel
theorem dX5_added_74 : decode cX5_added 74 = .ok (.goto (-34), 3) := by decide +kernel
theorem dX5_added_77 : decode cX5_added 77 = .ok (.iload_n 1, 1) := by decide +kernel
theorem dX5_added_78 : decode cX5_added 78 = .ok (.iload 5, 2) := by decide +kernel
theorem dX5_added_80 : decode cX5_added 80 = .ok (.i2l, 1) := by decide +kernel
theorem dX5_added_81 : decode cX5_added 81 = .ok (.iload 6, 2) := by decide +kernel
theorem dX5_added_83 : decode cX5_added 83 = .ok (.i2l, 1) := by decide +kernel
theorem dX5_added_84 : decode cX5_added 84 = .ok (.invokestatic 134, 3) := by decide +kernel
theorem dX5_added_87 : decode cX5_added 87 = .ok (.lreturn, 1) := by decide +kernel
theorem dX5_addedJoined_0 : decode cX5_addedJoined 0 = .ok (.iload_n 1, 1) := by decide +kernel
theorem dX5_addedJoined_1 : decode cX5_addedJoined 1 = .ok (.invokestatic 125, 3) := by decide +kernel
theorem dX5_addedJoined_4 : decode cX5_addedJoined 4 = .ok (.ifCond .eq 28, 3) := by decide +kernel
theorem dX5_addedJoined_7 : decode cX5_addedJoined 7 = .ok (.iload_n 1, 1) := by decide +kernel
theorem dX5_addedJoined_8 : decode cX5_addedJoined 8 = .ok (.lload_n 2, 1) := by decide +kernel
theorem dX5_addedJoined_9 : decode cX5_addedJoined 9 = .ok (.invokestatic 138, 3) := by decide +kernel
theorem dX5_addedJoined_12 : decode cX5_addedJoined 12 = .ok (.ifCond .eq 20, 3) := by decide +kernel
theorem dX5_addedJoined_15 : decode cX5_addedJoined 15 = .ok (.iload_n 1, 1) := by decide +kernel
theorem dX5_addedJoined_16 : decode cX5_addedJoined 16 = .ok (.lload 4, 2) := by decide +kernel
theorem dX5_addedJoined_18 : decode cX5_addedJoined 18 = .ok (.invokestatic 138, 3) := by decide +kernel
theorem dX5_addedJoined_21 : decode cX5_addedJoined 21 = .ok (.ifCond .eq 11, 3) := by decide +kernel
theorem dX5_addedJoined_24 : decode cX5_addedJoined 24 = .ok (.lload 6, 2) := by decide +kernel
theorem dX5_addedJoined_26 : decode cX5_addedJoined 26 = .ok (.invokestatic 68, 3) := by decide +kernel
theorem dX5_addedJoined_29 : decode cX5_addedJoined 29 = .ok (.ifCond .ne 7, 3) := by decide +kernel
theorem dX5_addedJoined_32 : decode cX5_addedJoined 32 = .ok (.ldc2_w 50, 3) := by decide +kernel
theorem dX5_addedJoined_35 : decode cX5_addedJoined 35 = .ok (.lreturn, 1) := by decide +kernel
theorem dX5_addedJoined_36 : decode cX5_addedJoined 36 = .ok (.getstatic 128, 3) := by decide +kernel
theorem dX5_addedJoined_39 : decode cX5_addedJoined 39 = .ok (.iload_n 1, 1) := by decide +kernel
theorem dX5_addedJoined_40 : decode cX5_addedJoined 40 = .ok (.iaload, 1) := by decide +kernel
theorem dX5_addedJoined_41 : decode cX5_addedJoined 41 = .ok (.istore 8, 2) := by decide +kernel
theorem dX5_addedJoined_43 : decode cX5_addedJoined 43 = .ok (.iload_n 1, 1) := by decide +kernel
theorem dX5_addedJoined_44 : decode cX5_addedJoined 44 = .ok (.lload_n 2, 1) := by decide +kernel
theorem dX5_addedJoined_45 : decode cX5_addedJoined 45 = .ok (.invokestatic 141, 3) := by decide +kernel
theorem dX5_addedJoined_48 : decode cX5_addedJoined 48 = .ok (.iload 8, 2) := by decide +kernel
theorem dX5_addedJoined_50 : decode cX5_addedJoined 50 = .ok (.i2l, 1) := by decide +kernel
theorem dX5_addedJoined_51 : decode cX5_addedJoined 51 = .ok (.ladd, 1) := by decide +kernel
theorem dX5_addedJoined_52 : decode cX5_addedJoined 52 = .ok (.getstatic 131, 3) := by decide +kernel
theorem dX5_addedJoined_55 : decode cX5_addedJoined 55 = .ok (.iload_n 1, 1) := by decide +kernel
theorem dX5_addedJoined_56 : decode cX5_addedJoined 56 = .ok (.iaload, 1) := by decide +kernel
theorem dX5_addedJoined_57 : decode cX5_addedJoined 57 = .ok (.i2l, 1) := by decide +kernel
theorem dX5_addedJoined_58 : decode cX5_addedJoined 58 = .ok (.lsub, 1) := by decide +kernel
theorem dX5_addedJoined_59 : decode cX5_addedJoined 59 = .ok (.iload 8, 2) := by decide +kernel
theorem dX5_addedJoined_61 : decode cX5_addedJoined 61 = .ok (.i2l, 1) := by decide +kernel
theorem dX5_addedJoined_62 : decode cX5_addedJoined 62 = .ok (.lrem, 1) := by decide +kernel
theorem dX5_addedJoined_63 : decode cX5_addedJoined 63 = .ok (.lstore 9, 2) := by decide +kernel
theorem dX5_addedJoined_65 : decode cX5_addedJoined 65 = .ok (.iload_n 1, 1) := by decide +kernel
theorem dX5_addedJoined_66 : decode cX5_addedJoined 66 = .ok (.lload 4, 2) := by decide +kernel
theorem dX5_addedJoined_68 : decode cX5_addedJoined 68 = .ok (.invokestatic 141, 3) := by decide +kernel
theorem dX5_addedJoined_71 : decode cX5_addedJoined 71 = .ok (.lload 9, 2) := by decide +kernel
theorem dX5_addedJoined_73 : decode cX5_addedJoined 73 = .ok (.ladd, 1) := by decide +kernel
theorem dX5_addedJoined_74 : decode cX5_addedJoined 74 = .ok (.iload 8, 2) := by decide +kernel
theorem dX5_addedJoined_76 : decode cX5_addedJoined 76 = .ok (.i2l, 1) := by decide +kernel
theorem dX5_addedJoined_77 : decode cX5_addedJoined 77 = .ok (.lrem, 1) := by decide +kernel
theorem dX5_addedJoined_78 : decode cX5_addedJoined 78 = .ok (.lstore 11, 2) := by decide +kernel
theorem dX5_addedJoined_80 : decode cX5_addedJoined 80 = .ok (.iload_n 1, 1) := by decide +kernel
theorem dX5_addedJoined_81 : decode cX5_addedJoined 81 = .ok (.lload_n 2, 1) := by decide +kernel
theorem dX5_addedJoined_82 : decode cX5_addedJoined 82 = .ok (.invokestatic 145, 3) := by decide +kernel
theorem dX5_addedJoined_85 : decode cX5_addedJoined 85 = .ok (.iload_n 1, 1) := by decide +kernel
theorem dX5_addedJoined_86 : decode cX5_addedJoined 86 = .ok (.lload 4, 2) := by decide +kernel
theorem dX5_addedJoined_88 : decode cX5_addedJoined 88 = .ok (.invokestatic 145, 3) := by decide +kernel
theorem dX5_addedJoined_91 : decode cX5_addedJoined 91 = .ok (.ladd, 1) := by decide +kernel
theorem dX5_addedJoined_92 : decode cX5_addedJoined 92 = .ok (.lload 6, 2) := by decide +kernel
theorem dX5_addedJoined_94 : decode cX5_addedJoined 94 = .ok (.iload 8, 2) := by decide +kernel
theorem dX5_addedJoined_96 : decode cX5_addedJoined 96 = .ok (.i2l, 1) := by decide +kernel
theorem dX5_addedJoined_97 : decode cX5_addedJoined 97 = .ok (.lrem, 1) := by decide +kernel
theorem dX5_addedJoined_98 : decode cX5_addedJoined 98 = .ok (.lload 9, 2) := by decide +kernel
theorem dX5_addedJoined_100 : decode cX5_addedJoined 100 = .ok (.lmul, 1) := by decide +kernel
theorem dX5_addedJoined_101 : decode cX5_addedJoined 101 = .ok (.ladd, 1) := by decide +kernel
theorem dX5_addedJoined_102 : decode cX5_addedJoined 102 = .ok (.iload 8, 2) := by decide +kernel
theorem dX5_addedJoined_104 : decode cX5_addedJoined 104 = .ok (.i2l, 1) := by decide +kernel
theorem dX5_addedJoined_105 : decode cX5_addedJoined 105 = .ok (.lrem, 1) := by decide +kernel
theorem dX5_addedJoined_106 : decode cX5_addedJoined 106 = .ok (.lstore 13, 2) := by decide +kernel
theorem dX5_addedJoined_108 : decode cX5_addedJoined 108 = .ok (.iload_n 1, 1) := by decide +kernel
theorem dX5_addedJoined_109 : decode cX5_addedJoined 109 = .ok (.lload 11, 2) := by decide +kernel
theorem dX5_addedJoined_111 : decode cX5_addedJoined 111 = .ok (.lload 13, 2) := by decide +kernel
theorem dX5_addedJoined_113 : decode cX5_addedJoined 113 = .ok (.invokestatic 134, 3) := by decide +kernel
theorem dX5_addedJoined_116 : decode cX5_addedJoined 116 = .ok (.lreturn, 1) := by decide +kernel
theorem dX5_isForm_0 : decode cX5_isForm 0 = .ok (.iload_n 1, 1) := by decide +kernel
theorem dX5_isForm_1 : decode cX5_isForm 1 = .ok (.ifCond .lt 15, 3) := by decide +kernel
theorem dX5_isForm_4 : decode cX5_isForm 4 = .ok (.iload_n 1, 1) := by decide +kernel
theorem dX5_isForm_5 : decode cX5_isForm 5 = .ok (.aload_n 0, 1) := by decide +kernel
theorem dX5_isForm_6 : decode cX5_isForm 6 = .ok (.getfield 23, 3) := by decide +kernel
theorem dX5_isForm_9 : decode cX5_isForm 9 = .ok (.if_icmp .ge 7, 3) := by decide +kernel
theorem dX5_isForm_12 : decode cX5_isForm 12 = .ok (.iconst 1, 1) := by decide +kernel
theorem dX5_isForm_13 : decode cX5_isForm 13 = .ok (.goto 4, 3) := by decide +kernel
theorem dX5_isForm_16 : decode cX5_isForm 16 = .ok (.iconst 0, 1) := by decide +kernel
theorem dX5_isForm_17 : decode cX5_isForm 17 = .ok (.ireturn, 1) := by decide +kernel
theorem dX5_isSum_0 : decode cX5_isSum 0 = .ok (.aload_n 0, 1) := by decide +kernel
theorem dX5_isSum_1 : decode cX5_isSum 1 = .ok (.iload_n 1, 1) := by decide +kernel
theorem dX5_isSum_2 : decode cX5_isSum 2 = .ok (.invokevirtual 42, 3) := by decide +kernel
theorem dX5_isSum_5 : decode cX5_isSum 5 = .ok (.ifCond .eq 23, 3) := by decide +kernel
theorem dX5_isSum_8 : decode cX5_isSum 8 = .ok (.lload_n 2, 1) := by decide +kernel
theorem dX5_isSum_9 : decode cX5_isSum 9 = .ok (.aload_n 0, 1) := by decide +kernel
theorem dX5_isSum_10 : decode cX5_isSum 10 = .ok (.getfield 19, 3) := by decide +kernel
theorem dX5_isSum_13 : decode cX5_isSum 13 = .ok (.iload_n 1, 1) := by decide +kernel
theorem dX5_isSum_14 : decode cX5_isSum 14 = .ok (.aaload, 1) := by decide +kernel
theorem dX5_isSum_15 : decode cX5_isSum 15 = .ok (.getfield 79, 3) := by decide +kernel
theorem dX5_isSum_18 : decode cX5_isSum 18 = .ok (.invokestatic 34, 3) := by decide +kernel
theorem dX5_isSum_21 : decode cX5_isSum 21 = .ok (.ifCond .eq 7, 3) := by decide +kernel
theorem dX5_isSum_24 : decode cX5_isSum 24 = .ok (.iconst 1, 1) := by decide +kernel
theorem dX5_isSum_25 : decode cX5_isSum 25 = .ok (.goto 4, 3) := by decide +kernel
theorem dX5_isSum_28 : decode cX5_isSum 28 = .ok (.iconst 0, 1) := by decide +kernel
theorem dX5_isSum_29 : decode cX5_isSum 29 = .ok (.ireturn, 1) := by decide +kernel
theorem dX5_isPart_0 : decode cX5_isPart 0 = .ok (.iload_n 1, 1) := by decide +kernel
theorem dX5_isPart_1 : decode cX5_isPart 1 = .ok (.ifCond .lt 20, 3) := by decide +kernel
theorem dX5_isPart_4 : decode cX5_isPart 4 = .ok (.iload_n 1, 1) := by decide +kernel
theorem dX5_isPart_5 : decode cX5_isPart 5 = .ok (.iload_n 2, 1) := by decide +kernel
theorem dX5_isPart_6 : decode cX5_isPart 6 = .ok (.if_icmp .gt 15, 3) := by decide +kernel
theorem dX5_isPart_9 : decode cX5_isPart 9 = .ok (.iload_n 2, 1) := by decide +kernel
theorem dX5_isPart_10 : decode cX5_isPart 10 = .ok (.aload_n 0, 1) := by decide +kernel
theorem dX5_isPart_11 : decode cX5_isPart 11 = .ok (.getfield 13, 3) := by decide +kernel
theorem dX5_isPart_14 : decode cX5_isPart 14 = .ok (.if_icmp .gt 7, 3) := by decide +kernel
theorem dX5_isPart_17 : decode cX5_isPart 17 = .ok (.iconst 1, 1) := by decide +kernel
theorem dX5_isPart_18 : decode cX5_isPart 18 = .ok (.goto 4, 3) := by decide +kernel
theorem dX5_isPart_21 : decode cX5_isPart 21 = .ok (.iconst 0, 1) := by decide +kernel
theorem dX5_isPart_22 : decode cX5_isPart 22 = .ok (.ireturn, 1) := by decide +kernel
theorem dX5_isLength_0 : decode cX5_isLength 0 = .ok (.lload_n 0, 1) := by decide +kernel
theorem dX5_isLength_1 : decode cX5_isLength 1 = .ok (.lconst 0, 1) := by decide +kernel
theorem dX5_isLength_2 : decode cX5_isLength 2 = .ok (.lcmp, 1) := by decide +kernel
theorem dX5_isLength_3 : decode cX5_isLength 3 = .ok (.ifCond .lt 15, 3) := by decide +kernel
theorem dX5_isLength_6 : decode cX5_isLength 6 = .ok (.lload_n 0, 1) := by decide +kernel
theorem dX5_isLength_7 : decode cX5_isLength 7 = .ok (.ldc2_w 148, 3) := by decide +kernel
theorem dX5_isLength_10 : decode cX5_isLength 10 = .ok (.lcmp, 1) := by decide +kernel
theorem dX5_isLength_11 : decode cX5_isLength 11 = .ok (.ifCond .gt 7, 3) := by decide +kernel
theorem dX5_isLength_14 : decode cX5_isLength 14 = .ok (.iconst 1, 1) := by decide +kernel
theorem dX5_isLength_15 : decode cX5_isLength 15 = .ok (.goto 4, 3) := by decide +kernel
theorem dX5_isLength_18 : decode cX5_isLength 18 = .ok (.iconst 0, 1) := by decide +kernel
theorem dX5_isLength_19 : decode cX5_isLength 19 = .ok (.ireturn, 1) := by decide +kernel
theorem dX5_hasBits_0 : decode cX5_hasBits 0 = .ok (.lload_n 0, 1) := by decide +kernel
theorem dX5_hasBits_1 : decode cX5_hasBits 1 = .ok (.lconst 0, 1) := by decide +kernel
theorem dX5_hasBits_2 : decode cX5_hasBits 2 = .ok (.lcmp, 1) := by decide +kernel
theorem dX5_hasBits_3 : decode cX5_hasBits 3 = .ok (.ifCond .lt 15, 3) := by decide +kernel
theorem dX5_hasBits_6 : decode cX5_hasBits 6 = .ok (.lload_n 0, 1) := by decide +kernel
theorem dX5_hasBits_7 : decode cX5_hasBits 7 = .ok (.lconst 1, 1) := by decide +kernel
theorem dX5_hasBits_8 : decode cX5_hasBits 8 = .ok (.iload_n 2, 1) := by decide +kernel
theorem dX5_hasBits_9 : decode cX5_hasBits 9 = .ok (.lshl, 1) := by decide +kernel
theorem dX5_hasBits_10 : decode cX5_hasBits 10 = .ok (.lcmp, 1) := by decide +kernel
theorem dX5_hasBits_11 : decode cX5_hasBits 11 = .ok (.ifCond .ge 7, 3) := by decide +kernel
theorem dX5_hasBits_14 : decode cX5_hasBits 14 = .ok (.iconst 1, 1) := by decide +kernel
theorem dX5_hasBits_15 : decode cX5_hasBits 15 = .ok (.goto 4, 3) := by decide +kernel
theorem dX5_hasBits_18 : decode cX5_hasBits 18 = .ok (.iconst 0, 1) := by decide +kernel
theorem dX5_hasBits_19 : decode cX5_hasBits 19 = .ok (.ireturn, 1) := by decide +kernel
theorem dX5_isAdding_0 : decode cX5_isAdding 0 = .ok (.iload_n 0, 1) := by decide +kernel
theorem dX5_isAdding_1 : decode cX5_isAdding 1 = .ok (.ifCond .eq 8, 3) := by decide +kernel
theorem dX5_isAdding_4 : decode cX5_isAdding 4 = .ok (.iload_n 0, 1) := by decide +kernel
theorem dX5_isAdding_5 : decode cX5_isAdding 5 = .ok (.iconst 1, 1) := by decide +kernel
theorem dX5_isAdding_6 : decode cX5_isAdding 6 = .ok (.if_icmp .ne 7, 3) := by decide +kernel
theorem dX5_isAdding_9 : decode cX5_isAdding 9 = .ok (.iconst 1, 1) := by decide +kernel
theorem dX5_isAdding_10 : decode cX5_isAdding 10 = .ok (.goto 4, 3) := by decide +kernel
theorem dX5_isAdding_13 : decode cX5_isAdding 13 = .ok (.iconst 0, 1) := by decide +kernel
theorem dX5_isAdding_14 : decode cX5_isAdding 14 = .ok (.ireturn, 1) := by decide +kernel
theorem dX5_isAddingSum_0 : decode cX5_isAddingSum 0 = .ok (.getstatic 128, 3) := by decide +kernel
theorem dX5_isAddingSum_3 : decode cX5_isAddingSum 3 = .ok (.iload_n 0, 1) := by decide +kernel
theorem dX5_isAddingSum_4 : decode cX5_isAddingSum 4 = .ok (.iaload, 1) := by decide +kernel
theorem dX5_isAddingSum_5 : decode cX5_isAddingSum 5 = .ok (.istore_n 3, 1) := by decide +kernel
theorem dX5_isAddingSum_6 : decode cX5_isAddingSum 6 = .ok (.lload_n 1, 1) := by decide +kernel
theorem dX5_isAddingSum_7 : decode cX5_isAddingSum 7 = .ok (.lconst 0, 1) := by decide +kernel
theorem dX5_isAddingSum_8 : decode cX5_isAddingSum 8 = .ok (.lcmp, 1) := by decide +kernel
theorem dX5_isAddingSum_9 : decode cX5_isAddingSum 9 = .ok (.ifCond .lt 29, 3) := by decide +kernel
theorem dX5_isAddingSum_12 : decode cX5_isAddingSum 12 = .ok (.iload_n 0, 1) := by decide +kernel
theorem dX5_isAddingSum_13 : decode cX5_isAddingSum 13 = .ok (.lload_n 1, 1) := by decide +kernel
theorem dX5_isAddingSum_14 : decode cX5_isAddingSum 14 = .ok (.invokestatic 141, 3) := by decide +kernel
theorem dX5_isAddingSum_17 : decode cX5_isAddingSum 17 = .ok (.iload_n 3, 1) := by decide +kernel
theorem dX5_isAddingSum_18 : decode cX5_isAddingSum 18 = .ok (.i2l, 1) := by decide +kernel
theorem dX5_isAddingSum_19 : decode cX5_isAddingSum 19 = .ok (.lcmp, 1) := by decide +kernel
theorem dX5_isAddingSum_20 : decode cX5_isAddingSum 20 = .ok (.ifCond .ge 18, 3) := by decide +kernel
theorem dX5_isAddingSum_23 : decode cX5_isAddingSum 23 = .ok (.iload_n 0, 1) := by decide +kernel
theorem dX5_isAddingSum_24 : decode cX5_isAddingSum 24 = .ok (.lload_n 1, 1) := by decide +kernel
theorem dX5_isAddingSum_25 : decode cX5_isAddingSum 25 = .ok (.invokestatic 145, 3) := by decide +kernel
theorem dX5_isAddingSum_28 : decode cX5_isAddingSum 28 = .ok (.iload_n 3, 1) := by decide +kernel
theorem dX5_isAddingSum_29 : decode cX5_isAddingSum 29 = .ok (.i2l, 1) := by decide +kernel
theorem dX5_isAddingSum_30 : decode cX5_isAddingSum 30 = .ok (.lcmp, 1) := by decide +kernel
theorem dX5_isAddingSum_31 : decode cX5_isAddingSum 31 = .ok (.ifCond .ge 7, 3) := by decide +kernel
theorem dX5_isAddingSum_34 : decode cX5_isAddingSum 34 = .ok (.iconst 1, 1) := by decide +kernel
theorem dX5_isAddingSum_35 : decode cX5_isAddingSum 35 = .ok (.goto 4, 3) := by decide +kernel
theorem dX5_isAddingSum_38 : decode cX5_isAddingSum 38 = .ok (.iconst 0, 1) := by decide +kernel
theorem dX5_isAddingSum_39 : decode cX5_isAddingSum 39 = .ok (.ireturn, 1) := by decide +kernel
theorem dX5_lowHalf_0 : decode cX5_lowHalf 0 = .ok (.lload_n 1, 1) := by decide +kernel
theorem dX5_lowHalf_1 : decode cX5_lowHalf 1 = .ok (.lconst 1, 1) := by decide +kernel
theorem dX5_lowHalf_2 : decode cX5_lowHalf 2 = .ok (.getstatic 150, 3) := by decide +kernel
theorem dX5_lowHalf_5 : decode cX5_lowHalf 5 = .ok (.iload_n 0, 1) := by decide +kernel
theorem dX5_lowHalf_6 : decode cX5_lowHalf 6 = .ok (.iaload, 1) := by decide +kernel
theorem dX5_lowHalf_7 : decode cX5_lowHalf 7 = .ok (.lshl, 1) := by decide +kernel
theorem dX5_lowHalf_8 : decode cX5_lowHalf 8 = .ok (.lconst 1, 1) := by decide +kernel
theorem dX5_lowHalf_9 : decode cX5_lowHalf 9 = .ok (.lsub, 1) := by decide +kernel
theorem dX5_lowHalf_10 : decode cX5_lowHalf 10 = .ok (.land, 1) := by decide +kernel
theorem dX5_lowHalf_11 : decode cX5_lowHalf 11 = .ok (.lreturn, 1) := by decide +kernel
theorem dX5_highHalf_0 : decode cX5_highHalf 0 = .ok (.lload_n 1, 1) := by decide +kernel
theorem dX5_highHalf_1 : decode cX5_highHalf 1 = .ok (.getstatic 150, 3) := by decide +kernel
theorem dX5_highHalf_4 : decode cX5_highHalf 4 = .ok (.iload_n 0, 1) := by decide +kernel
theorem dX5_highHalf_5 : decode cX5_highHalf 5 = .ok (.iaload, 1) := by decide +kernel
theorem dX5_highHalf_6 : decode cX5_highHalf 6 = .ok (.lushr, 1) := by decide +kernel
theorem dX5_highHalf_7 : decode cX5_highHalf 7 = .ok (.lreturn, 1) := by decide +kernel
theorem dX5_halves_0 : decode cX5_halves 0 = .ok (.lload_n 3, 1) := by decide +kernel
theorem dX5_halves_1 : decode cX5_halves 1 = .ok (.getstatic 150, 3) := by decide +kernel
theorem dX5_halves_4 : decode cX5_halves 4 = .ok (.iload_n 0, 1) := by decide +kernel
theorem dX5_halves_5 : decode cX5_halves 5 = .ok (.iaload, 1) := by decide +kernel
theorem dX5_halves_6 : decode cX5_halves 6 = .ok (.lshl, 1) := by decide +kernel
theorem dX5_halves_7 : decode cX5_halves 7 = .ok (.lload_n 1, 1) := by decide +kernel
theorem dX5_halves_8 : decode cX5_halves 8 = .ok (.ladd, 1) := by decide +kernel
theorem dX5_halves_9 : decode cX5_halves 9 = .ok (.lreturn, 1) := by decide +kernel
end
section
theorem dX6_init_0 : decode cX6_init 0 = .ok (.aload_n 0, 1) := by decide +kernel
theorem dX6_init_1 : decode cX6_init 1 = .ok (.invokespecial 1, 3) := by decide +kernel
theorem dX6_init_4 : decode cX6_init 4 = .ok (.aload_n 0, 1) := by decide +kernel
theorem dX6_init_5 : decode cX6_init 5 = .ok (.bipush 8, 2) := by decide +kernel
theorem dX6_init_7 : decode cX6_init 7 = .ok (.newarray .int, 2) := by decide +kernel
theorem dX6_init_9 : decode cX6_init 9 = .ok (.putfield 7, 3) := by decide +kernel
theorem dX6_init_12 : decode cX6_init 12 = .ok (.aload_n 0, 1) := by decide +kernel
theorem dX6_init_13 : decode cX6_init 13 = .ok (.bipush 8, 2) := by decide +kernel
theorem dX6_init_15 : decode cX6_init 15 = .ok (.newarray .long, 2) := by decide +kernel
theorem dX6_init_17 : decode cX6_init 17 = .ok (.putfield 13, 3) := by decide +kernel
theorem dX6_init_20 : decode cX6_init 20 = .ok (.aload_n 0, 1) := by decide +kernel
theorem dX6_init_21 : decode cX6_init 21 = .ok (.bipush 8, 2) := by decide +kernel
theorem dX6_init_23 : decode cX6_init 23 = .ok (.newarray .long, 2) := by decide +kernel
theorem dX6_init_25 : decode cX6_init 25 = .ok (.putfield 17, 3) := by decide +kernel
theorem dX6_init_28 : decode cX6_init 28 = .ok (.aload_n 0, 1) := by decide +kernel
theorem dX6_init_29 : decode cX6_init 29 = .ok (.bipush 8, 2) := by decide +kernel
theorem dX6_init_31 : decode cX6_init 31 = .ok (.newarray .long, 2) := by decide +kernel
theorem dX6_init_33 : decode cX6_init 33 = .ok (.putfield 20, 3) := by decide +kernel
theorem dX6_init_36 : decode cX6_init 36 = .ok (.aload_n 0, 1) := by decide +kernel
theorem dX6_init_37 : decode cX6_init 37 = .ok (.bipush 8, 2) := by decide +kernel
theorem dX6_init_39 : decode cX6_init 39 = .ok (.newarray .boolean, 2) := by decide +kernel
theorem dX6_init_41 : decode cX6_init 41 = .ok (.putfield 23, 3) := by decide +kernel
theorem dX6_init_44 : decode cX6_init 44 = .ok (.aload_n 0, 1) := by decide +kernel
theorem dX6_init_45 : decode cX6_init 45 = .ok (.bipush 8, 2) := by decide +kernel
theorem dX6_init_47 : decode cX6_init 47 = .ok (.newarray .boolean, 2) := by decide +kernel
theorem dX6_init_49 : decode cX6_init 49 = .ok (.putfield 27, 3) := by decide +kernel
theorem dX6_init_52 : decode cX6_init 52 = .ok (.aload_n 0, 1) := by decide +kernel
theorem dX6_init_53 : decode cX6_init 53 = .ok (.sipush 600, 3) := by decide +kernel
theorem dX6_init_56 : decode cX6_init 56 = .ok (.newarray .int, 2) := by decide +kernel
theorem dX6_init_58 : decode cX6_init 58 = .ok (.putfield 30, 3) := by decide +kernel
theorem dX6_init_61 : decode cX6_init 61 = .ok (.aload_n 0, 1) := by decide +kernel
theorem dX6_init_62 : decode cX6_init 62 = .ok (.bipush 8, 2) := by decide +kernel
theorem dX6_init_64 : decode cX6_init 64 = .ok (.newarray .boolean, 2) := by decide +kernel
theorem dX6_init_66 : decode cX6_init 66 = .ok (.putfield 33, 3) := by decide +kernel
theorem dX6_init_69 : decode cX6_init 69 = .ok (.aload_n 0, 1) := by decide +kernel
theorem dX6_init_70 : decode cX6_init 70 = .ok (.sipush 264, 3) := by decide +kernel
theorem dX6_init_73 : decode cX6_init 73 = .ok (.newarray .long, 2) := by decide +kernel
theorem dX6_init_75 : decode cX6_init 75 = .ok (.putfield 36, 3) := by decide +kernel
theorem dX6_init_78 : decode cX6_init 78 = .ok (.aload_n 0, 1) := by decide +kernel
theorem dX6_init_79 : decode cX6_init 79 = .ok (.sipush 264, 3) := by decide +kernel
theorem dX6_init_82 : decode cX6_init 82 = .ok (.newarray .int, 2) := by decide +kernel
theorem dX6_init_84 : decode cX6_init 84 = .ok (.putfield 39, 3) := by decide +kernel
theorem dX6_init_87 : decode cX6_init 87 = .ok (.aload_n 0, 1) := by decide +kernel
theorem dX6_init_88 : decode cX6_init 88 = .ok (.bipush 8, 2) := by decide +kernel
theorem dX6_init_90 : decode cX6_init 90 = .ok (.newarray .int, 2) := by decide +kernel
theorem dX6_init_92 : decode cX6_init 92 = .ok (.putfield 42, 3) := by decide +kernel
theorem dX6_init_95 : decode cX6_init 95 = .ok (.aload_n 0, 1) := by decide +kernel
theorem dX6_init_96 : decode cX6_init 96 = .ok (.bipush 8, 2) := by decide +kernel
theorem dX6_init_98 : decode cX6_init 98 = .ok (.newarray .long, 2) := by decide +kernel
theorem dX6_init_100 : decode cX6_init 100 = .ok (.putfield 45, 3) := by decide +kernel
theorem dX6_init_103 : decode cX6_init 103 = .ok (.aload_n 0, 1) := by decide +kernel
theorem dX6_init_104 : decode cX6_init 104 = .ok (.sipush 200, 3) := by decide +kernel
theorem dX6_init_107 : decode cX6_init 107 = .ok (.newarray .long, 2) := by decide +kernel
theorem dX6_init_109 : decode cX6_init 109 = .ok (.putfield 48, 3) := by decide +kernel
theorem dX6_init_112 : decode cX6_init 112 = .ok (.aload_n 0, 1) := by decide +kernel
theorem dX6_init_113 : decode cX6_init 113 = .ok (.ldc 51, 2) := by decide +kernel
theorem dX6_init_115 : decode cX6_init 115 = .ok (.newarray .long, 2) := by decide +kernel
theorem dX6_init_117 : decode cX6_init 117 = .ok (.putfield 52, 3) := by decide +kernel
theorem dX6_init_120 : decode cX6_init 120 = .ok (.return_, 1) := by decide +kernel
theorem dX6_isOf_0 : decode cX6_isOf 0 = .ok (.lload_n 1, 1) := by decide +kernel
theorem dX6_isOf_1 : decode cX6_isOf 1 = .ok (.lconst 0, 1) := by decide +kernel
theorem dX6_isOf_2 : decode cX6_isOf 2 = .ok (.lcmp, 1) := by decide +kernel
theorem dX6_isOf_3 : decode cX6_isOf 3 = .ok (.ifCond .lt 15, 3) := by decide +kernel
theorem dX6_isOf_6 : decode cX6_isOf 6 = .ok (.lload_n 1, 1) := by decide +kernel
theorem dX6_isOf_7 : decode cX6_isOf 7 = .ok (.lconst 1, 1) := by decide +kernel
theorem dX6_isOf_8 : decode cX6_isOf 8 = .ok (.iload_n 0, 1) := by decide +kernel
theorem dX6_isOf_9 : decode cX6_isOf 9 = .ok (.lshl, 1) := by decide +kernel
theorem dX6_isOf_10 : decode cX6_isOf 10 = .ok (.lcmp, 1) := by decide +kernel
theorem dX6_isOf_11 : decode cX6_isOf 11 = .ok (.ifCond .ge 7, 3) := by decide +kernel
theorem dX6_isOf_14 : decode cX6_isOf 14 = .ok (.iconst 1, 1) := by decide +kernel
theorem dX6_isOf_15 : decode cX6_isOf 15 = .ok (.goto 4, 3) := by decide +kernel
theorem dX6_isOf_18 : decode cX6_isOf 18 = .ok (.iconst 0, 1) := by decide +kernel
theorem dX6_isOf_19 : decode cX6_isOf 19 = .ok (.ireturn, 1) := by decide +kernel
theorem dX6_form_0 : decode cX6_form 0 = .ok (.iload_n 1, 1) := by decide +kernel
theorem dX6_form_1 : decode cX6_form 1 = .ok (.iconst 3, 1) := by decide +kernel
theorem dX6_form_2 : decode cX6_form 2 = .ok (.if_icmp .lt 47, 3) := by decide +kernel
theorem dX6_form_5 : decode cX6_form 5 = .ok (.iload_n 1, 1) := by decide +kernel
theorem dX6_form_6 : decode cX6_form 6 = .ok (.bipush 32, 2) := by decide +kernel
theorem dX6_form_8 : decode cX6_form 8 = .ok (.if_icmp .gt 41, 3) := by decide +kernel
theorem dX6_form_11 : decode cX6_form 11 = .ok (.iload_n 1, 1) := by decide +kernel
theorem dX6_form_12 : decode cX6_form 12 = .ok (.lload_n 2, 1) := by decide +kernel
theorem dX6_form_13 : decode cX6_form 13 = .ok (.invokestatic 55, 3) := by decide +kernel
theorem dX6_form_16 : decode cX6_form 16 = .ok (.ifCond .eq 33, 3) := by decide +kernel
theorem dX6_form_19 : decode cX6_form 19 = .ok (.lload_n 2, 1) := by decide +kernel
theorem dX6_form_20 : decode cX6_form 20 = .ok (.lconst 1, 1) := by decide +kernel
theorem dX6_form_21 : decode cX6_form 21 = .ok (.land, 1) := by decide +kernel
theorem dX6_form_22 : decode cX6_form 22 = .ok (.lconst 1, 1) := by decide +kernel
theorem dX6_form_23 : decode cX6_form 23 = .ok (.lcmp, 1) := by decide +kernel
theorem dX6_form_24 : decode cX6_form 24 = .ok (.ifCond .ne 25, 3) := by decide +kernel
theorem dX6_form_27 : decode cX6_form 27 = .ok (.iload_n 1, 1) := by decide +kernel
theorem dX6_form_28 : decode cX6_form 28 = .ok (.lload 4, 2) := by decide +kernel
theorem dX6_form_30 : decode cX6_form 30 = .ok (.invokestatic 55, 3) := by decide +kernel
theorem dX6_form_33 : decode cX6_form 33 = .ok (.ifCond .eq 16, 3) := by decide +kernel
theorem dX6_form_36 : decode cX6_form 36 = .ok (.iload_n 1, 1) := by decide +kernel
theorem dX6_form_37 : decode cX6_form 37 = .ok (.lload 6, 2) := by decide +kernel
theorem dX6_form_39 : decode cX6_form 39 = .ok (.invokestatic 55, 3) := by decide +kernel
theorem dX6_form_42 : decode cX6_form 42 = .ok (.ifCond .eq 7, 3) := by decide +kernel
theorem dX6_form_45 : decode cX6_form 45 = .ok (.iconst 1, 1) := by decide +kernel
theorem dX6_form_46 : decode cX6_form 46 = .ok (.goto 4, 3) := by decide +kernel
theorem dX6_form_49 : decode cX6_form 49 = .ok (.iconst 0, 1) := by decide +kernel
theorem dX6_form_50 : decode cX6_form 50 = .ok (.istore 10, 2) := by decide +kernel
theorem dX6_form_52 : decode cX6_form 52 = .ok (.iload 10, 2) := by decide +kernel
theorem dX6_form_54 : decode cX6_form 54 = .ok (.ifCond .ne 5, 3) := by decide +kernel
theorem dX6_form_57 : decode cX6_form 57 = .ok (.iconst (-1), 1) := by decide +kernel
theorem dX6_form_58 : decode cX6_form 58 = .ok (.ireturn, 1) := by decide +kernel
theorem dX6_form_59 : decode cX6_form 59 = .ok (.aload_n 0, 1) := by decide +kernel
theorem dX6_form_60 : decode cX6_form 60 = .ok (.getfield 59, 3) := by decide +kernel
theorem dX6_form_63 : decode cX6_form 63 = .ok (.bipush 8, 2) := by decide +kernel
theorem dX6_form_65 : decode cX6_form 65 = .ok (.if_icmp .ne 6, 3) := by decide +kernel
theorem dX6_form_68 : decode cX6_form 68 = .ok (.bipush (-2), 2) := by decide +kernel
theorem dX6_form_70 : decode cX6_form 70 = .ok (.ireturn, 1) := by decide +kernel
theorem dX6_form_71 : decode cX6_form 71 = .ok (.aload_n 0, 1) := by decide +kernel
theorem dX6_form_72 : decode cX6_form 72 = .ok (.getfield 7, 3) := by decide +kernel
theorem dX6_form_75 : decode cX6_form 75 = .ok (.aload_n 0, 1) := by decide +kernel
theorem dX6_form_76 : decode cX6_form 76 = .ok (.getfield 59, 3) := by decide +kernel
theorem dX6_form_79 : decode cX6_form 79 = .ok (.iload_n 1, 1) := by decide +kernel
theorem dX6_form_80 : decode cX6_form 80 = .ok (.iastore, 1) := by decide +kernel
theorem dX6_form_81 : decode cX6_form 81 = .ok (.aload_n 0, 1) := by decide +kernel
theorem dX6_form_82 : decode cX6_form 82 = .ok (.getfield 13, 3) := by decide +kernel
theorem dX6_form_85 : decode cX6_form 85 = .ok (.aload_n 0, 1) := by decide +kernel
theorem dX6_form_86 : decode cX6_form 86 = .ok (.getfield 59, 3) := by decide +kernel
theorem dX6_form_89 : decode cX6_form 89 = .ok (.lload_n 2, 1) := by decide +kernel
theorem dX6_form_90 : decode cX6_form 90 = .ok (.lastore, 1) := by decide +kernel
theorem dX6_form_91 : decode cX6_form 91 = .ok (.aload_n 0, 1) := by decide +kernel
theorem dX6_form_92 : decode cX6_form 92 = .ok (.getfield 17, 3) := by decide +kernel
theorem dX6_form_95 : decode cX6_form 95 = .ok (.aload_n 0, 1) := by decide +kernel
theorem dX6_form_96 : decode cX6_form 96 = .ok (.getfield 59, 3) := by decide +kernel
theorem dX6_form_99 : decode cX6_form 99 = .ok (.lload 4, 2) := by decide +kernel
theorem dX6_form_101 : decode cX6_form 101 = .ok (.lastore, 1) := by decide +kernel
theorem dX6_form_102 : decode cX6_form 102 = .ok (.aload_n 0, 1) := by decide +kernel
theorem dX6_form_103 : decode cX6_form 103 = .ok (.getfield 20, 3) := by decide +kernel
theorem dX6_form_106 : decode cX6_form 106 = .ok (.aload_n 0, 1) := by decide +kernel
theorem dX6_form_107 : decode cX6_form 107 = .ok (.getfield 59, 3) := by decide +kernel
theorem dX6_form_110 : decode cX6_form 110 = .ok (.lload 6, 2) := by decide +kernel
theorem dX6_form_112 : decode cX6_form 112 = .ok (.lastore, 1) := by decide +kernel
theorem dX6_form_113 : decode cX6_form 113 = .ok (.aload_n 0, 1) := by decide +kernel
theorem dX6_form_114 : decode cX6_form 114 = .ok (.getfield 23, 3) := by decide +kernel
theorem dX6_form_117 : decode cX6_form 117 = .ok (.aload_n 0, 1) := by decide +kernel
theorem dX6_form_118 : decode cX6_form 118 = .ok (.getfield 59, 3) := by decide +kernel
theorem dX6_form_121 : decode cX6_form 121 = .ok (.iload 8, 2) := by decide +kernel
theorem dX6_form_123 : decode cX6_form 123 = .ok (.bastore, 1) := by decide +kernel
theorem dX6_form_124 : decode cX6_form 124 = .ok (.aload_n 0, 1) := by decide +kernel
theorem dX6_form_125 : decode cX6_form 125 = .ok (.getfield 27, 3) := by decide +kernel
theorem dX6_form_128 : decode cX6_form 128 = .ok (.aload_n 0, 1) := by decide +kernel
theorem dX6_form_129 : decode cX6_form 129 = .ok (.getfield 59, 3) := by decide +kernel
theorem dX6_form_132 : decode cX6_form 132 = .ok (.iload 9, 2) := by decide +kernel
theorem dX6_form_134 : decode cX6_form 134 = .ok (.bastore, 1) := by decide +kernel
theorem dX6_form_135 : decode cX6_form 135 = .ok (.aload_n 0, 1) := by decide +kernel
theorem dX6_form_136 : decode cX6_form 136 = .ok (.getfield 33, 3) := by decide +kernel
theorem dX6_form_139 : decode cX6_form 139 = .ok (.aload_n 0, 1) := by decide +kernel
theorem dX6_form_140 : decode cX6_form 140 = .ok (.getfield 59, 3) := by decide +kernel
theorem dX6_form_143 : decode cX6_form 143 = .ok (.iconst 0, 1) := by decide +kernel
theorem dX6_form_144 : decode cX6_form 144 = .ok (.bastore, 1) := by decide +kernel
theorem dX6_form_145 : decode cX6_form 145 = .ok (.aload_n 0, 1) := by decide +kernel
theorem dX6_form_146 : decode cX6_form 146 = .ok (.dup, 1) := by decide +kernel
theorem dX6_form_147 : decode cX6_form 147 = .ok (.getfield 59, 3) := by decide +kernel
theorem dX6_form_150 : decode cX6_form 150 = .ok (.iconst 1, 1) := by decide +kernel
theorem dX6_form_151 : decode cX6_form 151 = .ok (.iadd, 1) := by decide +kernel
theorem dX6_form_152 : decode cX6_form 152 = .ok (.putfield 59, 3) := by decide +kernel
theorem dX6_form_155 : decode cX6_form 155 = .ok (.aload_n 0, 1) := by decide +kernel
theorem dX6_form_156 : decode cX6_form 156 = .ok (.getfield 59, 3) := by decide +kernel
theorem dX6_form_159 : decode cX6_form 159 = .ok (.iconst 1, 1) := by decide +kernel
theorem dX6_form_160 : decode cX6_form 160 = .ok (.isub, 1) := by decide +kernel
theorem dX6_form_161 : decode cX6_form 161 = .ok (.ireturn, 1) := by decide +kernel
theorem dX6_forget_0 : decode cX6_forget 0 = .ok (.aload_n 0, 1) := by decide +kernel
theorem dX6_forget_1 : decode cX6_forget 1 = .ok (.getfield 59, 3) := by decide +kernel
theorem dX6_forget_4 : decode cX6_forget 4 = .ok (.istore_n 1, 1) := by decide +kernel
theorem dX6_forget_5 : decode cX6_forget 5 = .ok (.aload_n 0, 1) := by decide +kernel
theorem dX6_forget_6 : decode cX6_forget 6 = .ok (.iconst 0, 1) := by decide +kernel
theorem dX6_forget_7 : decode cX6_forget 7 = .ok (.putfield 59, 3) := by decide +kernel
theorem dX6_forget_10 : decode cX6_forget 10 = .ok (.iload_n 1, 1) := by decide +kernel
theorem dX6_forget_11 : decode cX6_forget 11 = .ok (.ireturn, 1) := by decide +kernel
theorem dX6_feed_0 : decode cX6_feed 0 = .ok (.iload_n 1, 1) := by decide +kernel
theorem dX6_feed_1 : decode cX6_feed 1 = .ok (.iconst 1, 1) := by decide +kernel
theorem dX6_feed_2 : decode cX6_feed 2 = .ok (.if_icmp .lt 9, 3) := by decide +kernel
theorem dX6_feed_5 : decode cX6_feed 5 = .ok (.iload_n 1, 1) := by decide +kernel
theorem dX6_feed_6 : decode cX6_feed 6 = .ok (.bipush 8, 2) := by decide +kernel
theorem dX6_feed_8 : decode cX6_feed 8 = .ok (.if_icmp .le 5, 3) := by decide +kernel
theorem dX6_feed_11 : decode cX6_feed 11 = .ok (.iconst (-1), 1) := by decide +kernel
theorem dX6_feed_12 : decode cX6_feed 12 = .ok (.ireturn, 1) := by decide +kernel
theorem dX6_feed_13 : decode cX6_feed 13 = .ok (.aload_n 0, 1) := by decide +kernel
theorem dX6_feed_14 : decode cX6_feed 14 = .ok (.getfield 63, 3) := by decide +kernel
theorem dX6_feed_17 : decode cX6_feed 17 = .ok (.iload_n 1, 1) := by decide +kernel
theorem dX6_feed_18 : decode cX6_feed 18 = .ok (.iadd, 1) := by decide +kernel
theorem dX6_feed_19 : decode cX6_feed 19 = .ok (.sipush 600, 3) := by decide +kernel
theorem dX6_feed_22 : decode cX6_feed 22 = .ok (.if_icmp .le 6, 3) := by decide +kernel
theorem dX6_feed_25 : decode cX6_feed 25 = .ok (.bipush (-2), 2) := by decide +kernel
theorem dX6_feed_27 : decode cX6_feed 27 = .ok (.ireturn, 1) := by decide +kernel
theorem dX6_feed_28 : decode cX6_feed 28 = .ok (.iload_n 1, 1) := by decide +kernel
theorem dX6_feed_29 : decode cX6_feed 29 = .ok (.iconst 1, 1) := by decide +kernel
theorem dX6_feed_30 : decode cX6_feed 30 = .ok (.isub, 1) := by decide +kernel
theorem dX6_feed_31 : decode cX6_feed 31 = .ok (.istore 4, 2) := by decide +kernel
theorem dX6_feed_33 : decode cX6_feed 33 = .ok (.iload 4, 2) := by decide +kernel
theorem dX6_feed_35 : decode cX6_feed 35 = .ok (.ifCond .lt 40, 3) := by decide +kernel
theorem dX6_feed_38 : decode cX6_feed 38 = .ok (.aload_n 0, 1) := by decide +kernel
theorem dX6_feed_39 : decode cX6_feed 39 = .ok (.getfield 30, 3) := by decide +kernel
theorem dX6_feed_42 : decode cX6_feed 42 = .ok (.aload_n 0, 1) := by decide +kernel
theorem dX6_feed_43 : decode cX6_feed 43 = .ok (.getfield 63, 3) := by decide +kernel
theorem dX6_feed_46 : decode cX6_feed 46 = .ok (.lload_n 2, 1) := by decide +kernel
theorem dX6_feed_47 : decode cX6_feed 47 = .ok (.bipush 8, 2) := by decide +kernel
theorem dX6_feed_49 : decode cX6_feed 49 = .ok (.iload 4, 2) := by decide +kernel
theorem dX6_feed_51 : decode cX6_feed 51 = .ok (.imul, 1) := by decide +kernel
theorem dX6_feed_52 : decode cX6_feed 52 = .ok (.lshr, 1) := by decide +kernel
theorem dX6_feed_53 : decode cX6_feed 53 = .ok (.ldc2_w 66, 3) := by decide +kernel
theorem dX6_feed_56 : decode cX6_feed 56 = .ok (.land, 1) := by decide +kernel
theorem dX6_feed_57 : decode cX6_feed 57 = .ok (.l2i, 1) := by decide +kernel
theorem dX6_feed_58 : decode cX6_feed 58 = .ok (.iastore, 1) := by decide +kernel
theorem dX6_feed_59 : decode cX6_feed 59 = .ok (.aload_n 0, 1) := by decide +kernel
theorem dX6_feed_60 : decode cX6_feed 60 = .ok (.dup, 1) := by decide +kernel
theorem dX6_feed_61 : decode cX6_feed 61 = .ok (.getfield 63, 3) := by decide +kernel
theorem dX6_feed_64 : decode cX6_feed 64 = .ok (.iconst 1, 1) := by decide +kernel
theorem dX6_feed_65 : decode cX6_feed 65 = .ok (.iadd, 1) := by decide +kernel
theorem dX6_feed_66 : decode cX6_feed 66 = .ok (.putfield 63, 3) := by decide +kernel
theorem dX6_feed_69 : decode cX6_feed 69 = .ok (.iinc 4 (-1), 3) := by decide +kernel
theorem dX6_feed_72 : decode cX6_feed 72 = .ok (.goto (-39), 3) := by decide +kernel
theorem dX6_feed_75 : decode cX6_feed 75 = .ok (.aload_n 0, 1) := by decide +kernel
theorem dX6_feed_76 : decode cX6_feed 76 = .ok (.getfield 63, 3) := by decide +kernel
theorem dX6_feed_79 : decode cX6_feed 79 = .ok (.ireturn, 1) := by decide +kernel
theorem dX6_cut_0 : decode cX6_cut 0 = .ok (.iload_n 1, 1) := by decide +kernel
theorem dX6_cut_1 : decode cX6_cut 1 = .ok (.ifCond .lt 11, 3) := by decide +kernel
theorem dX6_cut_4 : decode cX6_cut 4 = .ok (.iload_n 1, 1) := by decide +kernel
theorem dX6_cut_5 : decode cX6_cut 5 = .ok (.aload_n 0, 1) := by decide +kernel
theorem dX6_cut_6 : decode cX6_cut 6 = .ok (.getfield 63, 3) := by decide +kernel
theorem dX6_cut_9 : decode cX6_cut 9 = .ok (.if_icmp .le 5, 3) := by decide +kernel
theorem dX6_cut_12 : decode cX6_cut 12 = .ok (.iconst (-1), 1) := by decide +kernel
theorem dX6_cut_13 : decode cX6_cut 13 = .ok (.ireturn, 1) := by decide +kernel
theorem dX6_cut_14 : decode cX6_cut 14 = .ok (.aload_n 0, 1) := by decide +kernel
theorem dX6_cut_15 : decode cX6_cut 15 = .ok (.getfield 63, 3) := by decide +kernel
theorem dX6_cut_18 : decode cX6_cut 18 = .ok (.iload_n 1, 1) := by decide +kernel
theorem dX6_cut_19 : decode cX6_cut 19 = .ok (.isub, 1) := by decide +kernel
theorem dX6_cut_20 : decode cX6_cut 20 = .ok (.istore_n 2, 1) := by decide +kernel
theorem dX6_cut_21 : decode cX6_cut 21 = .ok (.aload_n 0, 1) := by decide +kernel
theorem dX6_cut_22 : decode cX6_cut 22 = .ok (.iload_n 1, 1) := by decide +kernel
theorem dX6_cut_23 : decode cX6_cut 23 = .ok (.putfield 63, 3) := by decide +kernel
theorem dX6_cut_26 : decode cX6_cut 26 = .ok (.iload_n 2, 1) := by decide +kernel
theorem dX6_cut_27 : decode cX6_cut 27 = .ok (.ireturn, 1) := by decide +kernel
theorem dX6_octet_0 : decode cX6_octet 0 = .ok (.iload_n 1, 1) := by decide +kernel
theorem dX6_octet_1 : decode cX6_octet 1 = .ok (.ifCond .lt 11, 3) := by decide +kernel
theorem dX6_octet_4 : decode cX6_octet 4 = .ok (.iload_n 1, 1) := by decide +kernel
theorem dX6_octet_5 : decode cX6_octet 5 = .ok (.aload_n 0, 1) := by decide +kernel
theorem dX6_octet_6 : decode cX6_octet 6 = .ok (.getfield 63, 3) := by decide +kernel
theorem dX6_octet_9 : decode cX6_octet 9 = .ok (.if_icmp .lt 7, 3) := by decide +kernel
theorem dX6_octet_12 : decode cX6_octet 12 = .ok (.iconst (-1), 1) := by decide +kernel
theorem dX6_octet_13 : decode cX6_octet 13 = .ok (.goto 9, 3) := by decide +kernel
theorem dX6_octet_16 : decode cX6_octet 16 = .ok (.aload_n 0, 1) := by decide +kernel
theorem dX6_octet_17 : decode cX6_octet 17 = .ok (.getfield 30, 3) := by decide +kernel
theorem dX6_octet_20 : decode cX6_octet 20 = .ok (.iload_n 1, 1) := by decide +kernel
theorem dX6_octet_21 : decode cX6_octet 21 = .ok (.iaload, 1) := by decide +kernel
theorem dX6_octet_22 : decode cX6_octet 22 = .ok (.ireturn, 1) := by decide +kernel
theorem dX6_count_0 : decode cX6_count 0 = .ok (.iload_n 1, 1) := by decide +kernel
theorem dX6_count_1 : decode cX6_count 1 = .ok (.ifCond .ne 10, 3) := by decide +kernel
theorem dX6_count_4 : decode cX6_count 4 = .ok (.aload_n 0, 1) := by decide +kernel
theorem dX6_count_5 : decode cX6_count 5 = .ok (.getfield 59, 3) := by decide +kernel
theorem dX6_count_8 : decode cX6_count 8 = .ok (.goto 16, 3) := by decide +kernel
theorem dX6_count_11 : decode cX6_count 11 = .ok (.iload_n 1, 1) := by decide +kernel
theorem dX6_count_12 : decode cX6_count 12 = .ok (.iconst 1, 1) := by decide +kernel
theorem dX6_count_13 : decode cX6_count 13 = .ok (.if_icmp .ne 10, 3) := by decide +kernel
theorem dX6_count_16 : decode cX6_count 16 = .ok (.aload_n 0, 1) := by decide +kernel
theorem dX6_count_17 : decode cX6_count 17 = .ok (.getfield 63, 3) := by decide +kernel
theorem dX6_count_20 : decode cX6_count 20 = .ok (.goto 4, 3) := by decide +kernel
theorem dX6_count_23 : decode cX6_count 23 = .ok (.iconst (-1), 1) := by decide +kernel
theorem dX6_count_24 : decode cX6_count 24 = .ok (.ireturn, 1) := by decide +kernel
theorem dX6_isForm_0 : decode cX6_isForm 0 = .ok (.iload_n 1, 1) := by decide +kernel
theorem dX6_isForm_1 : decode cX6_isForm 1 = .ok (.ifCond .lt 15, 3) := by decide +kernel
theorem dX6_isForm_4 : decode cX6_isForm 4 = .ok (.iload_n 1, 1) := by decide +kernel
theorem dX6_isForm_5 : decode cX6_isForm 5 = .ok (.aload_n 0, 1) := by decide +kernel
theorem dX6_isForm_6 : decode cX6_isForm 6 = .ok (.getfield 59, 3) := by decide +kernel
theorem dX6_isForm_9 : decode cX6_isForm 9 = .ok (.if_icmp .ge 7, 3) := by decide +kernel
theorem dX6_isForm_12 : decode cX6_isForm 12 = .ok (.iconst 1, 1) := by decide +kernel
theorem dX6_isForm_13 : decode cX6_isForm 13 = .ok (.goto 4, 3) := by decide +kernel
theorem dX6_isForm_16 : decode cX6_isForm 16 = .ok (.iconst 0, 1) := by decide +kernel
theorem dX6_isForm_17 : decode cX6_isForm 17 = .ok (.ireturn, 1) := by decide +kernel
theorem dX6_isSum_0 : decode cX6_isSum 0 = .ok (.aload_n 0, 1) := by decide +kernel
theorem dX6_isSum_1 : decode cX6_isSum 1 = .ok (.iload_n 1, 1) := by decide +kernel
theorem dX6_isSum_2 : decode cX6_isSum 2 = .ok (.invokevirtual 68, 3) := by decide +kernel
theorem dX6_isSum_5 : decode cX6_isSum 5 = .ok (.ifCond .eq 20, 3) := by decide +kernel
theorem dX6_isSum_8 : decode cX6_isSum 8 = .ok (.aload_n 0, 1) := by decide +kernel
theorem dX6_isSum_9 : decode cX6_isSum 9 = .ok (.getfield 7, 3) := by decide +kernel
theorem dX6_isSum_12 : decode cX6_isSum 12 = .ok (.iload_n 1, 1) := by decide +kernel
theorem dX6_isSum_13 : decode cX6_isSum 13 = .ok (.iaload, 1) := by decide +kernel
theorem dX6_isSum_14 : decode cX6_isSum 14 = .ok (.lload_n 2, 1) := by decide +kernel
theorem dX6_isSum_15 : decode cX6_isSum 15 = .ok (.invokestatic 55, 3) := by decide +kernel
theorem dX6_isSum_18 : decode cX6_isSum 18 = .ok (.ifCond .eq 7, 3) := by decide +kernel
theorem dX6_isSum_21 : decode cX6_isSum 21 = .ok (.iconst 1, 1) := by decide +kernel
theorem dX6_isSum_22 : decode cX6_isSum 22 = .ok (.goto 4, 3) := by decide +kernel
theorem dX6_isSum_25 : decode cX6_isSum 25 = .ok (.iconst 0, 1) := by decide +kernel
theorem dX6_isSum_26 : decode cX6_isSum 26 = .ok (.ireturn, 1) := by decide +kernel
theorem dX6_turned_0 : decode cX6_turned 0 = .ok (.lconst 0, 1) := by decide +kernel
theorem dX6_turned_1 : decode cX6_turned 1 = .ok (.lstore_n 3, 1) := by decide +kernel
theorem dX6_turned_2 : decode cX6_turned 2 = .ok (.iconst 0, 1) := by decide +kernel
theorem dX6_turned_3 : decode cX6_turned 3 = .ok (.istore 5, 2) := by decide +kernel
theorem dX6_turned_5 : decode cX6_turned 5 = .ok (.iload 5, 2) := by decide +kernel
theorem dX6_turned_7 : decode cX6_turned 7 = .ok (.iload_n 2, 1) := by decide +kernel
theorem dX6_turned_8 : decode cX6_turned 8 = .ok (.if_icmp .ge 25, 3) := by decide +kernel
theorem dX6_turned_11 : decode cX6_turned 11 = .ok (.lload_n 3, 1) := by decide +kernel
theorem dX6_turned_12 : decode cX6_turned 12 = .ok (.lload_n 0, 1) := by decide +kernel
theorem dX6_turned_13 : decode cX6_turned 13 = .ok (.iload 5, 2) := by decide +kernel
theorem dX6_turned_15 : decode cX6_turned 15 = .ok (.lshr, 1) := by decide +kernel
theorem dX6_turned_16 : decode cX6_turned 16 = .ok (.lconst 1, 1) := by decide +kernel
theorem dX6_turned_17 : decode cX6_turned 17 = .ok (.land, 1) := by decide +kernel
theorem dX6_turned_18 : decode cX6_turned 18 = .ok (.iload_n 2, 1) := by decide +kernel
theorem dX6_turned_19 : decode cX6_turned 19 = .ok (.iconst 1, 1) := by decide +kernel
theorem dX6_turned_20 : decode cX6_turned 20 = .ok (.isub, 1) := by decide +kernel
theorem dX6_turned_21 : decode cX6_turned 21 = .ok (.iload 5, 2) := by decide +kernel
theorem dX6_turned_23 : decode cX6_turned 23 = .ok (.isub, 1) := by decide +kernel
theorem dX6_turned_24 : decode cX6_turned 24 = .ok (.lshl, 1) := by decide +kernel
theorem dX6_turned_25 : decode cX6_turned 25 = .ok (.lor, 1) := by decide +kernel
theorem dX6_turned_26 : decode cX6_turned 26 = .ok (.lstore_n 3, 1) := by decide +kernel
theorem dX6_turned_27 : decode cX6_turned 27 = .ok (.iinc 5 1, 3) := by decide +kernel
theorem dX6_turned_30 : decode cX6_turned 30 = .ok (.goto (-25), 3) := by decide +kernel
theorem dX6_turned_33 : decode cX6_turned 33 = .ok (.lload_n 3, 1) := by decide +kernel
theorem dX6_turned_34 : decode cX6_turned 34 = .ok (.lreturn, 1) := by decide +kernel
theorem dX6_up_0 : decode cX6_up 0 = .ok (.lload_n 2, 1) := by decide +kernel
theorem dX6_up_1 : decode cX6_up 1 = .ok (.aload_n 0, 1) := by decide +kernel
theorem dX6_up_2 : decode cX6_up 2 = .ok (.getfield 7, 3) := by decide +kernel
theorem dX6_up_5 : decode cX6_up 5 = .ok (.iload_n 1, 1) := by decide +kernel
theorem dX6_up_6 : decode cX6_up 6 = .ok (.iaload, 1) := by decide +kernel
theorem dX6_up_7 : decode cX6_up 7 = .ok (.iconst 1, 1) := by decide +kernel
theorem dX6_up_8 : decode cX6_up 8 = .ok (.isub, 1) := by decide +kernel
theorem dX6_up_9 : decode cX6_up 9 = .ok (.lshr, 1) := by decide +kernel
theorem dX6_up_10 : decode cX6_up 10 = .ok (.lconst 1, 1) := by decide +kernel
theorem dX6_up_11 : decode cX6_up 11 = .ok (.land, 1) := by decide +kernel
theorem dX6_up_12 : decode cX6_up 12 = .ok (.lstore 4, 2) := by decide +kernel
theorem dX6_up_14 : decode cX6_up 14 = .ok (.lload_n 2, 1) := by decide +kernel
theorem dX6_up_15 : decode cX6_up 15 = .ok (.iconst 1, 1) := by decide +kernel
theorem dX6_up_16 : decode cX6_up 16 = .ok (.lshl, 1) := by decide +kernel
theorem dX6_up_17 : decode cX6_up 17 = .ok (.lconst 1, 1) := by decide +kernel
theorem dX6_up_18 : decode cX6_up 18 = .ok (.aload_n 0, 1) := by decide +kernel
theorem dX6_up_19 : decode cX6_up 19 = .ok (.getfield 7, 3) := by decide +kernel
theorem dX6_up_22 : decode cX6_up 22 = .ok (.iload_n 1, 1) := by decide +kernel
theorem dX6_up_23 : decode cX6_up 23 = .ok (.iaload, 1) := by decide +kernel
theorem dX6_up_24 : decode cX6_up 24 = .ok (.lshl, 1) := by decide +kernel
theorem dX6_up_25 : decode cX6_up 25 = .ok (.lconst 1, 1) := by decide +kernel
theorem dX6_up_26 : decode cX6_up 26 = .ok (.lsub, 1) := by decide +kernel
theorem dX6_up_27 : decode cX6_up 27 = .ok (.land, 1) := by decide +kernel
theorem dX6_up_28 : decode cX6_up 28 = .ok (.lstore 6, 2) := by decide +kernel
theorem dX6_up_30 : decode cX6_up 30 = .ok (.lload 4, 2) := by decide +kernel
theorem dX6_up_32 : decode cX6_up 32 = .ok (.lconst 1, 1) := by decide +kernel
theorem dX6_up_33 : decode cX6_up 33 = .ok (.lcmp, 1) := by decide +kernel
theorem dX6_up_34 : decode cX6_up 34 = .ok (.ifCond .ne 15, 3) := by decide +kernel
theorem dX6_up_37 : decode cX6_up 37 = .ok (.lload 6, 2) := by decide +kernel
theorem dX6_up_39 : decode cX6_up 39 = .ok (.aload_n 0, 1) := by decide +kernel
theorem dX6_up_40 : decode cX6_up 40 = .ok (.getfield 13, 3) := by decide +kernel
theorem dX6_up_43 : decode cX6_up 43 = .ok (.iload_n 1, 1) := by decide +kernel
theorem dX6_up_44 : decode cX6_up 44 = .ok (.laload, 1) := by decide +kernel
theorem dX6_up_45 : decode cX6_up 45 = .ok (.lxor, 1) := by decide +kernel
theorem dX6_up_46 : decode cX6_up 46 = .ok (.goto 5, 3) := by decide +kernel
theorem dX6_up_49 : decode cX6_up 49 = .ok (.lload 6, 2) := by decide +kernel
theorem dX6_up_51 : decode cX6_up 51 = .ok (.lreturn, 1) := by decide +kernel
theorem dX6_down_0 : decode cX6_down 0 = .ok (.lconst 1, 1) := by decide +kernel
theorem dX6_down_1 : decode cX6_down 1 = .ok (.aload_n 0, 1) := by decide +kernel
theorem dX6_down_2 : decode cX6_down 2 = .ok (.getfield 7, 3) := by decide +kernel
theorem dX6_down_5 : decode cX6_down 5 = .ok (.iload_n 1, 1) := by decide +kernel
theorem dX6_down_6 : decode cX6_down 6 = .ok (.iaload, 1) := by decide +kernel
theorem dX6_down_7 : decode cX6_down 7 = .ok (.iconst 1, 1) := by decide +kernel
theorem dX6_down_8 : decode cX6_down 8 = .ok (.isub, 1) := by decide +kernel
theorem dX6_down_9 : decode cX6_down 9 = .ok (.lshl, 1) := by decide +kernel
theorem dX6_down_10 : decode cX6_down 10 = .ok (.lstore 4, 2) := by decide +kernel
theorem dX6_down_12 : decode cX6_down 12 = .ok (.lload_n 2, 1) := by decide +kernel
theorem dX6_down_13 : decode cX6_down 13 = .ok (.lconst 1, 1) := by decide +kernel
theorem dX6_down_14 : decode cX6_down 14 = .ok (.land, 1) := by decide +kernel
theorem dX6_down_15 : decode cX6_down 15 = .ok (.lconst 1, 1) := by decide +kernel
theorem dX6_down_16 : decode cX6_down 16 = .ok (.lcmp, 1) := by decide +kernel
theorem dX6_down_17 : decode cX6_down 17 = .ok (.ifCond .ne 19, 3) := by decide +kernel
theorem dX6_down_20 : decode cX6_down 20 = .ok (.lload_n 2, 1) := by decide +kernel
theorem dX6_down_21 : decode cX6_down 21 = .ok (.aload_n 0, 1) := by decide +kernel
theorem dX6_down_22 : decode cX6_down 22 = .ok (.getfield 13, 3) := by decide +kernel
theorem dX6_down_25 : decode cX6_down 25 = .ok (.iload_n 1, 1) := by decide +kernel
theorem dX6_down_26 : decode cX6_down 26 = .ok (.laload, 1) := by decide +kernel
theorem dX6_down_27 : decode cX6_down 27 = .ok (.lxor, 1) := by decide +kernel
theorem dX6_down_28 : decode cX6_down 28 = .ok (.iconst 1, 1) := by decide +kernel
theorem dX6_down_29 : decode cX6_down 29 = .ok (.lshr, 1) := by decide +kernel
theorem dX6_down_30 : decode cX6_down 30 = .ok (.lload 4, 2) := by decide +kernel
theorem dX6_down_32 : decode cX6_down 32 = .ok (.lor, 1) := by decide +kernel
theorem dX6_down_33 : decode cX6_down 33 = .ok (.goto 6, 3) := by decide +kernel
theorem dX6_down_36 : decode cX6_down 36 = .ok (.lload_n 2, 1) := by decide +kernel
theorem dX6_down_37 : decode cX6_down 37 = .ok (.iconst 1, 1) := by decide +kernel
theorem dX6_down_38 : decode cX6_down 38 = .ok (.lshr, 1) := by decide +kernel
theorem dX6_down_39 : decode cX6_down 39 = .ok (.lreturn, 1) := by decide +kernel
theorem dX6_times_0 : decode cX6_times 0 = .ok (.lconst 0, 1) := by decide +kernel
theorem dX6_times_1 : decode cX6_times 1 = .ok (.lstore 6, 2) := by decide +kernel
theorem dX6_times_3 : decode cX6_times 3 = .ok (.aload_n 0, 1) := by decide +kernel
theorem dX6_times_4 : decode cX6_times 4 = .ok (.getfield 7, 3) := by decide +kernel
theorem dX6_times_7 : decode cX6_times 7 = .ok (.iload_n 1, 1) := by decide +kernel
theorem dX6_times_8 : decode cX6_times 8 = .ok (.iaload, 1) := by decide +kernel
theorem dX6_times_9 : decode cX6_times 9 = .ok (.iconst 1, 1) := by decide +kernel
theorem dX6_times_10 : decode cX6_times 10 = .ok (.isub, 1) := by decide +kernel
theorem dX6_times_11 : decode cX6_times 11 = .ok (.istore 8, 2) := by decide +kernel
theorem dX6_times_13 : decode cX6_times 13 = .ok (.iload 8, 2) := by decide +kernel
theorem dX6_times_15 : decode cX6_times 15 = .ok (.ifCond .lt 40, 3) := by decide +kernel
theorem dX6_times_18 : decode cX6_times 18 = .ok (.aload_n 0, 1) := by decide +kernel
theorem dX6_times_19 : decode cX6_times 19 = .ok (.iload_n 1, 1) := by decide +kernel
theorem dX6_times_20 : decode cX6_times 20 = .ok (.lload 6, 2) := by decide +kernel
theorem dX6_times_22 : decode cX6_times 22 = .ok (.invokevirtual 72, 3) := by decide +kernel
theorem dX6_times_25 : decode cX6_times 25 = .ok (.lstore 6, 2) := by decide +kernel
theorem dX6_times_27 : decode cX6_times 27 = .ok (.lload 6, 2) := by decide +kernel
theorem dX6_times_29 : decode cX6_times 29 = .ok (.lload 4, 2) := by decide +kernel
theorem dX6_times_31 : decode cX6_times 31 = .ok (.iload 8, 2) := by decide +kernel
theorem dX6_times_33 : decode cX6_times 33 = .ok (.lshr, 1) := by decide +kernel
theorem dX6_times_34 : decode cX6_times 34 = .ok (.lconst 1, 1) := by decide +kernel
theorem dX6_times_35 : decode cX6_times 35 = .ok (.land, 1) := by decide +kernel
theorem dX6_times_36 : decode cX6_times 36 = .ok (.lconst 1, 1) := by decide +kernel
theorem dX6_times_37 : decode cX6_times 37 = .ok (.lcmp, 1) := by decide +kernel
theorem dX6_times_38 : decode cX6_times 38 = .ok (.ifCond .ne 7, 3) := by decide +kernel
theorem dX6_times_41 : decode cX6_times 41 = .ok (.lload_n 2, 1) := by decide +kernel
theorem dX6_times_42 : decode cX6_times 42 = .ok (.goto 4, 3) := by decide +kernel
theorem dX6_times_45 : decode cX6_times 45 = .ok (.lconst 0, 1) := by decide +kernel
theorem dX6_times_46 : decode cX6_times 46 = .ok (.lxor, 1) := by decide +kernel
theorem dX6_times_47 : decode cX6_times 47 = .ok (.lstore 6, 2) := by decide +kernel
theorem dX6_times_49 : decode cX6_times 49 = .ok (.iinc 8 (-1), 3) := by decide +kernel
theorem dX6_times_52 : decode cX6_times 52 = .ok (.goto (-39), 3) := by decide +kernel
theorem dX6_times_55 : decode cX6_times 55 = .ok (.lload 6, 2) := by decide +kernel
theorem dX6_times_57 : decode cX6_times 57 = .ok (.lreturn, 1) := by decide +kernel
theorem dX6_power_0 : decode cX6_power 0 = .ok (.lconst 1, 1) := by decide +kernel
theorem dX6_power_1 : decode cX6_power 1 = .ok (.lstore 6, 2) := by decide +kernel
theorem dX6_power_3 : decode cX6_power 3 = .ok (.lload_n 2, 1) := by decide +kernel
theorem dX6_power_4 : decode cX6_power 4 = .ok (.lstore 8, 2) := by decide +kernel
theorem dX6_power_6 : decode cX6_power 6 = .ok (.iconst 0, 1) := by decide +kernel
theorem dX6_power_7 : decode cX6_power 7 = .ok (.istore 10, 2) := by decide +kernel
theorem dX6_power_9 : decode cX6_power 9 = .ok (.iload 10, 2) := by decide +kernel
theorem dX6_power_11 : decode cX6_power 11 = .ok (.bipush 63, 2) := by decide +kernel
theorem dX6_power_13 : decode cX6_power 13 = .ok (.if_icmp .ge 43, 3) := by decide +kernel
theorem dX6_power_16 : decode cX6_power 16 = .ok (.lload 4, 2) := by decide +kernel
theorem dX6_power_18 : decode cX6_power 18 = .ok (.iload 10, 2) := by decide +kernel
theorem dX6_power_20 : decode cX6_power 20 = .ok (.lshr, 1) := by decide +kernel
theorem dX6_power_21 : decode cX6_power 21 = .ok (.lconst 1, 1) := by decide +kernel
theorem dX6_power_22 : decode cX6_power 22 = .ok (.land, 1) := by decide +kernel
theorem dX6_power_23 : decode cX6_power 23 = .ok (.lconst 1, 1) := by decide +kernel
theorem dX6_power_24 : decode cX6_power 24 = .ok (.lcmp, 1) := by decide +kernel
theorem dX6_power_25 : decode cX6_power 25 = .ok (.ifCond .ne 14, 3) := by decide +kernel
theorem dX6_power_28 : decode cX6_power 28 = .ok (.aload_n 0, 1) := by decide +kernel
theorem dX6_power_29 : decode cX6_power 29 = .ok (.iload_n 1, 1) := by decide +kernel
theorem dX6_power_30 : decode cX6_power 30 = .ok (.lload 6, 2) := by decide +kernel
theorem dX6_power_32 : decode cX6_power 32 = .ok (.lload 8, 2) := by decide +kernel
theorem dX6_power_34 : decode cX6_power 34 = .ok (.invokevirtual 76, 3) := by decide +kernel
theorem dX6_power_37 : decode cX6_power 37 = .ok (.lstore 6, 2) := by decide +kernel
theorem dX6_power_39 : decode cX6_power 39 = .ok (.aload_n 0, 1) := by decide +kernel
theorem dX6_power_40 : decode cX6_power 40 = .ok (.iload_n 1, 1) := by decide +kernel
theorem dX6_power_41 : decode cX6_power 41 = .ok (.lload 8, 2) := by decide +kernel
theorem dX6_power_43 : decode cX6_power 43 = .ok (.lload 8, 2) := by decide +kernel
theorem dX6_power_45 : decode cX6_power 45 = .ok (.invokevirtual 76, 3) := by decide +kernel
theorem dX6_power_48 : decode cX6_power 48 = .ok (.lstore 8, 2) := by decide +kernel
theorem dX6_power_50 : decode cX6_power 50 = .ok (.iinc 10 1, 3) := by decide +kernel
theorem dX6_power_53 : decode cX6_power 53 = .ok (.goto (-44), 3) := by decide +kernel
theorem dX6_power_56 : decode cX6_power 56 = .ok (.lload 6, 2) := by decide +kernel
theorem dX6_power_58 : decode cX6_power 58 = .ok (.lreturn, 1) := by decide +kernel
theorem dX6_moved_0 : decode cX6_moved 0 = .ok (.lconst 1, 1) := by decide +kernel
theorem dX6_moved_1 : decode cX6_moved 1 = .ok (.lstore 6, 2) := by decide +kernel
theorem dX6_moved_3 : decode cX6_moved 3 = .ok (.iconst 0, 1) := by decide +kernel
theorem dX6_moved_4 : decode cX6_moved 4 = .ok (.istore 8, 2) := by decide +kernel
theorem dX6_moved_6 : decode cX6_moved 6 = .ok (.iload 8, 2) := by decide +kernel
theorem dX6_moved_8 : decode cX6_moved 8 = .ok (.bipush 8, 2) := by decide +kernel
theorem dX6_moved_10 : decode cX6_moved 10 = .ok (.if_icmp .ge 18, 3) := by decide +kernel
theorem dX6_moved_13 : decode cX6_moved 13 = .ok (.aload_n 0, 1) := by decide +kernel
theorem dX6_moved_14 : decode cX6_moved 14 = .ok (.iload_n 1, 1) := by decide +kernel
theorem dX6_moved_15 : decode cX6_moved 15 = .ok (.lload 6, 2) := by decide +kernel
theorem dX6_moved_17 : decode cX6_moved 17 = .ok (.invokevirtual 72, 3) := by decide +kernel
theorem dX6_moved_20 : decode cX6_moved 20 = .ok (.lstore 6, 2) := by decide +kernel
theorem dX6_moved_22 : decode cX6_moved 22 = .ok (.iinc 8 1, 3) := by decide +kernel
theorem dX6_moved_25 : decode cX6_moved 25 = .ok (.goto (-19), 3) := by decide +kernel
theorem dX6_moved_28 : decode cX6_moved 28 = .ok (.aload_n 0, 1) := by decide +kernel
theorem dX6_moved_29 : decode cX6_moved 29 = .ok (.iload_n 1, 1) := by decide +kernel
theorem dX6_moved_30 : decode cX6_moved 30 = .ok (.lload_n 2, 1) := by decide +kernel
theorem dX6_moved_31 : decode cX6_moved 31 = .ok (.aload_n 0, 1) := by decide +kernel
theorem dX6_moved_32 : decode cX6_moved 32 = .ok (.iload_n 1, 1) := by decide +kernel
theorem dX6_moved_33 : decode cX6_moved 33 = .ok (.lload 6, 2) := by decide +kernel
theorem dX6_moved_35 : decode cX6_moved 35 = .ok (.lload 4, 2) := by decide +kernel
theorem dX6_moved_37 : decode cX6_moved 37 = .ok (.invokevirtual 80, 3) := by decide +kernel
theorem dX6_moved_40 : decode cX6_moved 40 = .ok (.invokevirtual 76, 3) := by decide +kernel
theorem dX6_moved_43 : decode cX6_moved 43 = .ok (.lreturn, 1) := by decide +kernel
theorem dX6_taken_0 : decode cX6_taken 0 = .ok (.lload_n 2, 1) := by decide +kernel
theorem dX6_taken_1 : decode cX6_taken 1 = .ok (.lstore 5, 2) := by decide +kernel
theorem dX6_taken_3 : decode cX6_taken 3 = .ok (.iconst 0, 1) := by decide +kernel
theorem dX6_taken_4 : decode cX6_taken 4 = .ok (.istore 7, 2) := by decide +kernel
theorem dX6_taken_6 : decode cX6_taken 6 = .ok (.iload 7, 2) := by decide +kernel
theorem dX6_taken_8 : decode cX6_taken 8 = .ok (.bipush 8, 2) := by decide +kernel
theorem dX6_taken_10 : decode cX6_taken 10 = .ok (.if_icmp .ge 71, 3) := by decide +kernel
theorem dX6_taken_13 : decode cX6_taken 13 = .ok (.aload_n 0, 1) := by decide +kernel
theorem dX6_taken_14 : decode cX6_taken 14 = .ok (.getfield 23, 3) := by decide +kernel
theorem dX6_taken_17 : decode cX6_taken 17 = .ok (.iload_n 1, 1) := by decide +kernel
theorem dX6_taken_18 : decode cX6_taken 18 = .ok (.baload, 1) := by decide +kernel
theorem dX6_taken_19 : decode cX6_taken 19 = .ok (.ifCond .eq 13, 3) := by decide +kernel
theorem dX6_taken_22 : decode cX6_taken 22 = .ok (.iload 4, 2) := by decide +kernel
theorem dX6_taken_24 : decode cX6_taken 24 = .ok (.iload 7, 2) := by decide +kernel
theorem dX6_taken_26 : decode cX6_taken 26 = .ok (.ishr, 1) := by decide +kernel
theorem dX6_taken_27 : decode cX6_taken 27 = .ok (.iconst 1, 1) := by decide +kernel
theorem dX6_taken_28 : decode cX6_taken 28 = .ok (.iand, 1) := by decide +kernel
theorem dX6_taken_29 : decode cX6_taken 29 = .ok (.goto 13, 3) := by decide +kernel
theorem dX6_taken_32 : decode cX6_taken 32 = .ok (.iload 4, 2) := by decide +kernel
theorem dX6_taken_34 : decode cX6_taken 34 = .ok (.bipush 7, 2) := by decide +kernel
theorem dX6_taken_36 : decode cX6_taken 36 = .ok (.iload 7, 2) := by decide +kernel
theorem dX6_taken_38 : decode cX6_taken 38 = .ok (.isub, 1) := by decide +kernel
theorem dX6_taken_39 : decode cX6_taken 39 = .ok (.ishr, 1) := by decide +kernel
theorem dX6_taken_40 : decode cX6_taken 40 = .ok (.iconst 1, 1) := by decide +kernel
theorem dX6_taken_41 : decode cX6_taken 41 = .ok (.iand, 1) := by decide +kernel
theorem dX6_taken_42 : decode cX6_taken 42 = .ok (.istore 8, 2) := by decide +kernel
theorem dX6_taken_44 : decode cX6_taken 44 = .ok (.aload_n 0, 1) := by decide +kernel
theorem dX6_taken_45 : decode cX6_taken 45 = .ok (.iload_n 1, 1) := by decide +kernel
theorem dX6_taken_46 : decode cX6_taken 46 = .ok (.iload 8, 2) := by decide +kernel
theorem dX6_taken_48 : decode cX6_taken 48 = .ok (.iconst 1, 1) := by decide +kernel
theorem dX6_taken_49 : decode cX6_taken 49 = .ok (.if_icmp .ne 19, 3) := by decide +kernel
theorem dX6_taken_52 : decode cX6_taken 52 = .ok (.lload 5, 2) := by decide +kernel
theorem dX6_taken_54 : decode cX6_taken 54 = .ok (.lconst 1, 1) := by decide +kernel
theorem dX6_taken_55 : decode cX6_taken 55 = .ok (.aload_n 0, 1) := by decide +kernel
theorem dX6_taken_56 : decode cX6_taken 56 = .ok (.getfield 7, 3) := by decide +kernel
theorem dX6_taken_59 : decode cX6_taken 59 = .ok (.iload_n 1, 1) := by decide +kernel
theorem dX6_taken_60 : decode cX6_taken 60 = .ok (.iaload, 1) := by decide +kernel
theorem dX6_taken_61 : decode cX6_taken 61 = .ok (.iconst 1, 1) := by decide +kernel
theorem dX6_taken_62 : decode cX6_taken 62 = .ok (.isub, 1) := by decide +kernel
theorem dX6_taken_63 : decode cX6_taken 63 = .ok (.lshl, 1) := by decide +kernel
theorem dX6_taken_64 : decode cX6_taken 64 = .ok (.lxor, 1) := by decide +kernel
theorem dX6_taken_65 : decode cX6_taken 65 = .ok (.goto 5, 3) := by decide +kernel
theorem dX6_taken_68 : decode cX6_taken 68 = .ok (.lload 5, 2) := by decide +kernel
theorem dX6_taken_70 : decode cX6_taken 70 = .ok (.invokevirtual 72, 3) := by decide +kernel
theorem dX6_taken_73 : decode cX6_taken 73 = .ok (.lstore 5, 2) := by decide +kernel
theorem dX6_taken_75 : decode cX6_taken 75 = .ok (.iinc 7 1, 3) := by decide +kernel
theorem dX6_taken_78 : decode cX6_taken 78 = .ok (.goto (-72), 3) := by decide +kernel
theorem dX6_taken_81 : decode cX6_taken 81 = .ok (.lload 5, 2) := by decide +kernel
theorem dX6_taken_83 : decode cX6_taken 83 = .ok (.lreturn, 1) := by decide +kernel
theorem dX6_told_0 : decode cX6_told 0 = .ok (.aload_n 0, 1) := by decide +kernel
theorem dX6_told_1 : decode cX6_told 1 = .ok (.getfield 27, 3) := by decide +kernel
theorem dX6_told_4 : decode cX6_told 4 = .ok (.iload_n 1, 1) := by decide +kernel
theorem dX6_told_5 : decode cX6_told 5 = .ok (.baload, 1) := by decide +kernel
theorem dX6_told_6 : decode cX6_told 6 = .ok (.ifCond .eq 16, 3) := by decide +kernel
theorem dX6_told_9 : decode cX6_told 9 = .ok (.lload_n 2, 1) := by decide +kernel
theorem dX6_told_10 : decode cX6_told 10 = .ok (.aload_n 0, 1) := by decide +kernel
theorem dX6_told_11 : decode cX6_told 11 = .ok (.getfield 7, 3) := by decide +kernel
theorem dX6_told_14 : decode cX6_told 14 = .ok (.iload_n 1, 1) := by decide +kernel
theorem dX6_told_15 : decode cX6_told 15 = .ok (.iaload, 1) := by decide +kernel
theorem dX6_told_16 : decode cX6_told 16 = .ok (.invokestatic 83, 3) := by decide +kernel
theorem dX6_told_19 : decode cX6_told 19 = .ok (.goto 4, 3) := by decide +kernel
theorem dX6_told_22 : decode cX6_told 22 = .ok (.lload_n 2, 1) := by decide +kernel
theorem dX6_told_23 : decode cX6_told 23 = .ok (.aload_n 0, 1) := by decide +kernel
theorem dX6_told_24 : decode cX6_told 24 = .ok (.getfield 20, 3) := by decide +kernel
theorem dX6_told_27 : decode cX6_told 27 = .ok (.iload_n 1, 1) := by decide +kernel
theorem dX6_told_28 : decode cX6_told 28 = .ok (.laload, 1) := by decide +kernel
theorem dX6_told_29 : decode cX6_told 29 = .ok (.lxor, 1) := by decide +kernel
theorem dX6_told_30 : decode cX6_told 30 = .ok (.lreturn, 1) := by decide +kernel
theorem dX6_register_0 : decode cX6_register 0 = .ok (.lload_n 2, 1) := by decide +kernel
theorem dX6_register_1 : decode cX6_register 1 = .ok (.aload_n 0, 1) := by decide +kernel
theorem dX6_register_2 : decode cX6_register 2 = .ok (.getfield 20, 3) := by decide +kernel
theorem dX6_register_5 : decode cX6_register 5 = .ok (.iload_n 1, 1) := by decide +kernel
theorem dX6_register_6 : decode cX6_register 6 = .ok (.laload, 1) := by decide +kernel
theorem dX6_register_7 : decode cX6_register 7 = .ok (.lxor, 1) := by decide +kernel
theorem dX6_register_8 : decode cX6_register 8 = .ok (.lstore 4, 2) := by decide +kernel
theorem dX6_register_10 : decode cX6_register 10 = .ok (.aload_n 0, 1) := by decide +kernel
theorem dX6_register_11 : decode cX6_register 11 = .ok (.getfield 27, 3) := by decide +kernel
theorem dX6_register_14 : decode cX6_register 14 = .ok (.iload_n 1, 1) := by decide +kernel
theorem dX6_register_15 : decode cX6_register 15 = .ok (.baload, 1) := by decide +kernel
theorem dX6_register_16 : decode cX6_register 16 = .ok (.ifCond .eq 17, 3) := by decide +kernel
theorem dX6_register_19 : decode cX6_register 19 = .ok (.lload 4, 2) := by decide +kernel
theorem dX6_register_21 : decode cX6_register 21 = .ok (.aload_n 0, 1) := by decide +kernel
theorem dX6_register_22 : decode cX6_register 22 = .ok (.getfield 7, 3) := by decide +kernel
theorem dX6_register_25 : decode cX6_register 25 = .ok (.iload_n 1, 1) := by decide +kernel
theorem dX6_register_26 : decode cX6_register 26 = .ok (.iaload, 1) := by decide +kernel
theorem dX6_register_27 : decode cX6_register 27 = .ok (.invokestatic 83, 3) := by decide +kernel
theorem dX6_register_30 : decode cX6_register 30 = .ok (.goto 5, 3) := by decide +kernel
theorem dX6_register_33 : decode cX6_register 33 = .ok (.lload 4, 2) := by decide +kernel
theorem dX6_register_35 : decode cX6_register 35 = .ok (.lreturn, 1) := by decide +kernel
theorem dX6_isSpan_0 : decode cX6_isSpan 0 = .ok (.iload_n 1, 1) := by decide +kernel
theorem dX6_isSpan_1 : decode cX6_isSpan 1 = .ok (.ifCond .lt 20, 3) := by decide +kernel
theorem dX6_isSpan_4 : decode cX6_isSpan 4 = .ok (.iload_n 1, 1) := by decide +kernel
theorem dX6_isSpan_5 : decode cX6_isSpan 5 = .ok (.iload_n 2, 1) := by decide +kernel
theorem dX6_isSpan_6 : decode cX6_isSpan 6 = .ok (.if_icmp .gt 15, 3) := by decide +kernel
theorem dX6_isSpan_9 : decode cX6_isSpan 9 = .ok (.iload_n 2, 1) := by decide +kernel
theorem dX6_isSpan_10 : decode cX6_isSpan 10 = .ok (.aload_n 0, 1) := by decide +kernel
theorem dX6_isSpan_11 : decode cX6_isSpan 11 = .ok (.getfield 63, 3) := by decide +kernel
theorem dX6_isSpan_14 : decode cX6_isSpan 14 = .ok (.if_icmp .gt 7, 3) := by decide +kernel
theorem dX6_isSpan_17 : decode cX6_isSpan 17 = .ok (.iconst 1, 1) := by decide +kernel
theorem dX6_isSpan_18 : decode cX6_isSpan 18 = .ok (.goto 4, 3) := by decide +kernel
theorem dX6_isSpan_21 : decode cX6_isSpan 21 = .ok (.iconst 0, 1) := by decide +kernel
theorem dX6_isSpan_22 : decode cX6_isSpan 22 = .ok (.ireturn, 1) := by decide +kernel
theorem dX6_sum_0 : decode cX6_sum 0 = .ok (.aload_n 0, 1) := by decide +kernel
theorem dX6_sum_1 : decode cX6_sum 1 = .ok (.iload_n 1, 1) := by decide +kernel
theorem dX6_sum_2 : decode cX6_sum 2 = .ok (.invokevirtual 68, 3) := by decide +kernel
theorem dX6_sum_5 : decode cX6_sum 5 = .ok (.ifCond .eq 12, 3) := by decide +kernel
theorem dX6_sum_8 : decode cX6_sum 8 = .ok (.aload_n 0, 1) := by decide +kernel
theorem dX6_sum_9 : decode cX6_sum 9 = .ok (.iload_n 2, 1) := by decide +kernel
theorem dX6_sum_10 : decode cX6_sum 10 = .ok (.iload_n 3, 1) := by decide +kernel
theorem dX6_sum_11 : decode cX6_sum 11 = .ok (.invokevirtual 87, 3) := by decide +kernel
theorem dX6_sum_14 : decode cX6_sum 14 = .ok (.ifCond .ne 7, 3) := by decide +kernel
theorem dX6_sum_17 : decode cX6_sum 17 = .ok (.ldc2_w 91, 3) := by decide +kernel
theorem dX6_sum_20 : decode cX6_sum 20 = .ok (.lreturn, 1) := by decide +kernel
theorem dX6_sum_21 : decode cX6_sum 21 = .ok (.aload_n 0, 1) := by decide +kernel
theorem dX6_sum_22 : decode cX6_sum 22 = .ok (.getfield 17, 3) := by decide +kernel
theorem dX6_sum_25 : decode cX6_sum 25 = .ok (.iload_n 1, 1) := by decide +kernel
theorem dX6_sum_26 : decode cX6_sum 26 = .ok (.laload, 1) := by decide +kernel
theorem dX6_sum_27 : decode cX6_sum 27 = .ok (.lstore 4, 2) := by decide +kernel
theorem dX6_sum_29 : decode cX6_sum 29 = .ok (.iload_n 2, 1) := by decide +kernel
theorem dX6_sum_30 : decode cX6_sum 30 = .ok (.istore 6, 2) := by decide +kernel
theorem dX6_sum_32 : decode cX6_sum 32 = .ok (.iload 6, 2) := by decide +kernel
theorem dX6_sum_34 : decode cX6_sum 34 = .ok (.iload_n 3, 1) := by decide +kernel
theorem dX6_sum_35 : decode cX6_sum 35 = .ok (.if_icmp .ge 25, 3) := by decide +kernel
theorem dX6_sum_38 : decode cX6_sum 38 = .ok (.aload_n 0, 1) := by decide +kernel
theorem dX6_sum_39 : decode cX6_sum 39 = .ok (.iload_n 1, 1) := by decide +kernel
theorem dX6_sum_40 : decode cX6_sum 40 = .ok (.lload 4, 2) := by decide +kernel
theorem dX6_sum_42 : decode cX6_sum 42 = .ok (.aload_n 0, 1) := by decide +kernel
theorem dX6_sum_43 : decode cX6_sum 43 = .ok (.getfield 30, 3) := by decide +kernel
theorem dX6_sum_46 : decode cX6_sum 46 = .ok (.iload 6, 2) := by decide +kernel
theorem dX6_sum_48 : decode cX6_sum 48 = .ok (.iaload, 1) := by decide +kernel
theorem dX6_sum_49 : decode cX6_sum 49 = .ok (.invokevirtual 93, 3) := by decide +kernel
theorem dX6_sum_52 : decode cX6_sum 52 = .ok (.lstore 4, 2) := by decide +kernel
theorem dX6_sum_54 : decode cX6_sum 54 = .ok (.iinc 6 1, 3) := by decide +kernel
theorem dX6_sum_57 : decode cX6_sum 57 = .ok (.goto (-25), 3) := by decide +kernel
theorem dX6_sum_60 : decode cX6_sum 60 = .ok (.aload_n 0, 1) := by decide +kernel
theorem dX6_sum_61 : decode cX6_sum 61 = .ok (.iload_n 1, 1) := by decide +kernel
theorem dX6_sum_62 : decode cX6_sum 62 = .ok (.lload 4, 2) := by decide +kernel
theorem dX6_sum_64 : decode cX6_sum 64 = .ok (.invokevirtual 97, 3) := by decide +kernel
theorem dX6_sum_67 : decode cX6_sum 67 = .ok (.lreturn, 1) := by decide +kernel
theorem dX6_isFar_0 : decode cX6_isFar 0 = .ok (.lload_n 0, 1) := by decide +kernel
theorem dX6_isFar_1 : decode cX6_isFar 1 = .ok (.lconst 0, 1) := by decide +kernel
theorem dX6_isFar_2 : decode cX6_isFar 2 = .ok (.lcmp, 1) := by decide +kernel
theorem dX6_isFar_3 : decode cX6_isFar 3 = .ok (.ifCond .lt 15, 3) := by decide +kernel
theorem dX6_isFar_6 : decode cX6_isFar 6 = .ok (.lload_n 0, 1) := by decide +kernel
theorem dX6_isFar_7 : decode cX6_isFar 7 = .ok (.ldc2_w 100, 3) := by decide +kernel
theorem dX6_isFar_10 : decode cX6_isFar 10 = .ok (.lcmp, 1) := by decide +kernel
theorem dX6_isFar_11 : decode cX6_isFar 11 = .ok (.ifCond .gt 7, 3) := by decide +kernel
theorem dX6_isFar_14 : decode cX6_isFar 14 = .ok (.iconst 1, 1) := by decide +kernel
theorem dX6_isFar_15 : decode cX6_isFar 15 = .ok (.goto 4, 3) := by decide +kernel
theorem dX6_isFar_18 : decode cX6_isFar 18 = .ok (.iconst 0, 1) := by decide +kernel
theorem dX6_isFar_19 : decode cX6_isFar 19 = .ok (.ireturn, 1) := by decide +kernel
theorem dX6_joined_0 : decode cX6_joined 0 = .ok (.aload_n 0, 1) := by decide +kernel
theorem dX6_joined_1 : decode cX6_joined 1 = .ok (.iload_n 1, 1) := by decide +kernel
theorem dX6_joined_2 : decode cX6_joined 2 = .ok (.lload_n 2, 1) := by decide +kernel
theorem dX6_joined_3 : decode cX6_joined 3 = .ok (.invokevirtual 102, 3) := by decide +kernel
theorem dX6_joined_6 : decode cX6_joined 6 = .ok (.ifCond .eq 21, 3) := by decide +kernel
theorem dX6_joined_9 : decode cX6_joined 9 = .ok (.aload_n 0, 1) := by decide +kernel
theorem dX6_joined_10 : decode cX6_joined 10 = .ok (.iload_n 1, 1) := by decide +kernel
theorem dX6_joined_11 : decode cX6_joined 11 = .ok (.lload 4, 2) := by decide +kernel
theorem dX6_joined_13 : decode cX6_joined 13 = .ok (.invokevirtual 102, 3) := by decide +kernel
theorem dX6_joined_16 : decode cX6_joined 16 = .ok (.ifCond .eq 11, 3) := by decide +kernel
theorem dX6_joined_19 : decode cX6_joined 19 = .ok (.lload 6, 2) := by decide +kernel
theorem dX6_joined_21 : decode cX6_joined 21 = .ok (.invokestatic 105, 3) := by decide +kernel
theorem dX6_joined_24 : decode cX6_joined 24 = .ok (.ifCond .ne 7, 3) := by decide +kernel
theorem dX6_joined_27 : decode cX6_joined 27 = .ok (.ldc2_w 91, 3) := by decide +kernel
theorem dX6_joined_30 : decode cX6_joined 30 = .ok (.lreturn, 1) := by decide +kernel
theorem dX6_joined_31 : decode cX6_joined 31 = .ok (.aload_n 0, 1) := by decide +kernel
theorem dX6_joined_32 : decode cX6_joined 32 = .ok (.iload_n 1, 1) := by decide +kernel
theorem dX6_joined_33 : decode cX6_joined 33 = .ok (.aload_n 0, 1) := by decide +kernel
theorem dX6_joined_34 : decode cX6_joined 34 = .ok (.iload_n 1, 1) := by decide +kernel
theorem dX6_joined_35 : decode cX6_joined 35 = .ok (.lload 4, 2) := by decide +kernel
theorem dX6_joined_37 : decode cX6_joined 37 = .ok (.invokevirtual 109, 3) := by decide +kernel
theorem dX6_joined_40 : decode cX6_joined 40 = .ok (.aload_n 0, 1) := by decide +kernel
theorem dX6_joined_41 : decode cX6_joined 41 = .ok (.iload_n 1, 1) := by decide +kernel
theorem dX6_joined_42 : decode cX6_joined 42 = .ok (.aload_n 0, 1) := by decide +kernel
theorem dX6_joined_43 : decode cX6_joined 43 = .ok (.iload_n 1, 1) := by decide +kernel
theorem dX6_joined_44 : decode cX6_joined 44 = .ok (.lload_n 2, 1) := by decide +kernel
theorem dX6_joined_45 : decode cX6_joined 45 = .ok (.invokevirtual 109, 3) := by decide +kernel
theorem dX6_joined_48 : decode cX6_joined 48 = .ok (.aload_n 0, 1) := by decide +kernel
theorem dX6_joined_49 : decode cX6_joined 49 = .ok (.getfield 17, 3) := by decide +kernel
theorem dX6_joined_52 : decode cX6_joined 52 = .ok (.iload_n 1, 1) := by decide +kernel
theorem dX6_joined_53 : decode cX6_joined 53 = .ok (.laload, 1) := by decide +kernel
theorem dX6_joined_54 : decode cX6_joined 54 = .ok (.lxor, 1) := by decide +kernel
theorem dX6_joined_55 : decode cX6_joined 55 = .ok (.lload 6, 2) := by decide +kernel
theorem dX6_joined_57 : decode cX6_joined 57 = .ok (.invokevirtual 112, 3) := by decide +kernel
theorem dX6_joined_60 : decode cX6_joined 60 = .ok (.lxor, 1) := by decide +kernel
theorem dX6_joined_61 : decode cX6_joined 61 = .ok (.invokevirtual 97, 3) := by decide +kernel
theorem dX6_joined_64 : decode cX6_joined 64 = .ok (.lreturn, 1) := by decide +kernel
theorem dX6_zeros_0 : decode cX6_zeros 0 = .ok (.aload_n 0, 1) := by decide +kernel
theorem dX6_zeros_1 : decode cX6_zeros 1 = .ok (.iload_n 1, 1) := by decide +kernel
theorem dX6_zeros_2 : decode cX6_zeros 2 = .ok (.lload_n 2, 1) := by decide +kernel
theorem dX6_zeros_3 : decode cX6_zeros 3 = .ok (.invokevirtual 102, 3) := by decide +kernel
theorem dX6_zeros_6 : decode cX6_zeros 6 = .ok (.ifCond .eq 32, 3) := by decide +kernel
theorem dX6_zeros_9 : decode cX6_zeros 9 = .ok (.lload 4, 2) := by decide +kernel
theorem dX6_zeros_11 : decode cX6_zeros 11 = .ok (.invokestatic 105, 3) := by decide +kernel
theorem dX6_zeros_14 : decode cX6_zeros 14 = .ok (.ifCond .eq 24, 3) := by decide +kernel
theorem dX6_zeros_17 : decode cX6_zeros 17 = .ok (.aload_n 0, 1) := by decide +kernel
theorem dX6_zeros_18 : decode cX6_zeros 18 = .ok (.iload_n 1, 1) := by decide +kernel
theorem dX6_zeros_19 : decode cX6_zeros 19 = .ok (.aload_n 0, 1) := by decide +kernel
theorem dX6_zeros_20 : decode cX6_zeros 20 = .ok (.iload_n 1, 1) := by decide +kernel
theorem dX6_zeros_21 : decode cX6_zeros 21 = .ok (.aload_n 0, 1) := by decide +kernel
theorem dX6_zeros_22 : decode cX6_zeros 22 = .ok (.iload_n 1, 1) := by decide +kernel
theorem dX6_zeros_23 : decode cX6_zeros 23 = .ok (.lload_n 2, 1) := by decide +kernel
theorem dX6_zeros_24 : decode cX6_zeros 24 = .ok (.invokevirtual 109, 3) := by decide +kernel
theorem dX6_zeros_27 : decode cX6_zeros 27 = .ok (.lload 4, 2) := by decide +kernel
theorem dX6_zeros_29 : decode cX6_zeros 29 = .ok (.invokevirtual 112, 3) := by decide +kernel
theorem dX6_zeros_32 : decode cX6_zeros 32 = .ok (.invokevirtual 97, 3) := by decide +kernel
theorem dX6_zeros_35 : decode cX6_zeros 35 = .ok (.goto 6, 3) := by decide +kernel
theorem dX6_zeros_38 : decode cX6_zeros 38 = .ok (.ldc2_w 91, 3) := by decide +kernel
theorem dX6_zeros_41 : decode cX6_zeros 41 = .ok (.lreturn, 1) := by decide +kernel
theorem dX6_changed_0 : decode cX6_changed 0 = .ok (.aload_n 0, 1) := by decide +kernel
theorem dX6_changed_1 : decode cX6_changed 1 = .ok (.iload_n 1, 1) := by decide +kernel
theorem dX6_changed_2 : decode cX6_changed 2 = .ok (.lload_n 2, 1) := by decide +kernel
theorem dX6_changed_3 : decode cX6_changed 3 = .ok (.invokevirtual 102, 3) := by decide +kernel
theorem dX6_changed_6 : decode cX6_changed 6 = .ok (.ifCond .eq 24, 3) := by decide +kernel
theorem dX6_changed_9 : decode cX6_changed 9 = .ok (.lload 4, 2) := by decide +kernel
theorem dX6_changed_11 : decode cX6_changed 11 = .ok (.invokestatic 105, 3) := by decide +kernel
theorem dX6_changed_14 : decode cX6_changed 14 = .ok (.ifCond .eq 16, 3) := by decide +kernel
theorem dX6_changed_17 : decode cX6_changed 17 = .ok (.iload 6, 2) := by decide +kernel
theorem dX6_changed_19 : decode cX6_changed 19 = .ok (.ifCond .lt 11, 3) := by decide +kernel
theorem dX6_changed_22 : decode cX6_changed 22 = .ok (.iload 6, 2) := by decide +kernel
theorem dX6_changed_24 : decode cX6_changed 24 = .ok (.sipush 255, 3) := by decide +kernel
theorem dX6_changed_27 : decode cX6_changed 27 = .ok (.if_icmp .le 7, 3) := by decide +kernel
theorem dX6_changed_30 : decode cX6_changed 30 = .ok (.ldc2_w 91, 3) := by decide +kernel
theorem dX6_changed_33 : decode cX6_changed 33 = .ok (.lreturn, 1) := by decide +kernel
theorem dX6_changed_34 : decode cX6_changed 34 = .ok (.aload_n 0, 1) := by decide +kernel
theorem dX6_changed_35 : decode cX6_changed 35 = .ok (.iload_n 1, 1) := by decide +kernel
theorem dX6_changed_36 : decode cX6_changed 36 = .ok (.aload_n 0, 1) := by decide +kernel
theorem dX6_changed_37 : decode cX6_changed 37 = .ok (.iload_n 1, 1) := by decide +kernel
theorem dX6_changed_38 : decode cX6_changed 38 = .ok (.lload_n 2, 1) := by decide +kernel
theorem dX6_changed_39 : decode cX6_changed 39 = .ok (.invokevirtual 109, 3) := by decide +kernel
theorem dX6_changed_42 : decode cX6_changed 42 = .ok (.aload_n 0, 1) := by decide +kernel
theorem dX6_changed_43 : decode cX6_changed 43 = .ok (.iload_n 1, 1) := by decide +kernel
theorem dX6_changed_44 : decode cX6_changed 44 = .ok (.aload_n 0, 1) := by decide +kernel
theorem dX6_changed_45 : decode cX6_changed 45 = .ok (.iload_n 1, 1) := by decide +kernel
theorem dX6_changed_46 : decode cX6_changed 46 = .ok (.lconst 0, 1) := by decide +kernel
theorem dX6_changed_47 : decode cX6_changed 47 = .ok (.iload 6, 2) := by decide +kernel
theorem dX6_changed_49 : decode cX6_changed 49 = .ok (.invokevirtual 93, 3) := by decide +kernel
theorem dX6_changed_52 : decode cX6_changed 52 = .ok (.lload 4, 2) := by decide +kernel
theorem dX6_changed_54 : decode cX6_changed 54 = .ok (.invokevirtual 112, 3) := by decide +kernel
theorem dX6_changed_57 : decode cX6_changed 57 = .ok (.lxor, 1) := by decide +kernel
theorem dX6_changed_58 : decode cX6_changed 58 = .ok (.invokevirtual 97, 3) := by decide +kernel
theorem dX6_changed_61 : decode cX6_changed 61 = .ok (.lreturn, 1) := by decide +kernel
theorem dX6_tail_0 : decode cX6_tail 0 = .ok (.aload_n 0, 1) := by decide +kernel
theorem dX6_tail_1 : decode cX6_tail 1 = .ok (.iload_n 1, 1) := by decide +kernel
theorem dX6_tail_2 : decode cX6_tail 2 = .ok (.lload_n 2, 1) := by decide +kernel
theorem dX6_tail_3 : decode cX6_tail 3 = .ok (.invokevirtual 102, 3) := by decide +kernel
theorem dX6_tail_6 : decode cX6_tail 6 = .ok (.ifCond .eq 25, 3) := by decide +kernel
theorem dX6_tail_9 : decode cX6_tail 9 = .ok (.aload_n 0, 1) := by decide +kernel
theorem dX6_tail_10 : decode cX6_tail 10 = .ok (.iload_n 1, 1) := by decide +kernel
theorem dX6_tail_11 : decode cX6_tail 11 = .ok (.lload 4, 2) := by decide +kernel
theorem dX6_tail_13 : decode cX6_tail 13 = .ok (.invokevirtual 102, 3) := by decide +kernel
theorem dX6_tail_16 : decode cX6_tail 16 = .ok (.ifCond .eq 15, 3) := by decide +kernel
theorem dX6_tail_19 : decode cX6_tail 19 = .ok (.aload_n 0, 1) := by decide +kernel
theorem dX6_tail_20 : decode cX6_tail 20 = .ok (.getfield 7, 3) := by decide +kernel
theorem dX6_tail_23 : decode cX6_tail 23 = .ok (.iload_n 1, 1) := by decide +kernel
theorem dX6_tail_24 : decode cX6_tail 24 = .ok (.iaload, 1) := by decide +kernel
theorem dX6_tail_25 : decode cX6_tail 25 = .ok (.bipush 8, 2) := by decide +kernel
theorem dX6_tail_27 : decode cX6_tail 27 = .ok (.irem, 1) := by decide +kernel
theorem dX6_tail_28 : decode cX6_tail 28 = .ok (.ifCond .eq 7, 3) := by decide +kernel
theorem dX6_tail_31 : decode cX6_tail 31 = .ok (.ldc2_w 91, 3) := by decide +kernel
theorem dX6_tail_34 : decode cX6_tail 34 = .ok (.lreturn, 1) := by decide +kernel
theorem dX6_tail_35 : decode cX6_tail 35 = .ok (.aload_n 0, 1) := by decide +kernel
theorem dX6_tail_36 : decode cX6_tail 36 = .ok (.iload_n 1, 1) := by decide +kernel
theorem dX6_tail_37 : decode cX6_tail 37 = .ok (.lload 4, 2) := by decide +kernel
theorem dX6_tail_39 : decode cX6_tail 39 = .ok (.invokevirtual 109, 3) := by decide +kernel
theorem dX6_tail_42 : decode cX6_tail 42 = .ok (.lstore 6, 2) := by decide +kernel
theorem dX6_tail_44 : decode cX6_tail 44 = .ok (.iconst 0, 1) := by decide +kernel
theorem dX6_tail_45 : decode cX6_tail 45 = .ok (.istore 8, 2) := by decide +kernel
theorem dX6_tail_47 : decode cX6_tail 47 = .ok (.iload 8, 2) := by decide +kernel
theorem dX6_tail_49 : decode cX6_tail 49 = .ok (.aload_n 0, 1) := by decide +kernel
theorem dX6_tail_50 : decode cX6_tail 50 = .ok (.getfield 7, 3) := by decide +kernel
theorem dX6_tail_53 : decode cX6_tail 53 = .ok (.iload_n 1, 1) := by decide +kernel
theorem dX6_tail_54 : decode cX6_tail 54 = .ok (.iaload, 1) := by decide +kernel
theorem dX6_tail_55 : decode cX6_tail 55 = .ok (.if_icmp .ge 18, 3) := by decide +kernel
theorem dX6_tail_58 : decode cX6_tail 58 = .ok (.aload_n 0, 1) := by decide +kernel
theorem dX6_tail_59 : decode cX6_tail 59 = .ok (.iload_n 1, 1) := by decide +kernel
theorem dX6_tail_60 : decode cX6_tail 60 = .ok (.lload 6, 2) := by decide +kernel
theorem dX6_tail_62 : decode cX6_tail 62 = .ok (.invokevirtual 115, 3) := by decide +kernel
theorem dX6_tail_65 : decode cX6_tail 65 = .ok (.lstore 6, 2) := by decide +kernel
theorem dX6_tail_67 : decode cX6_tail 67 = .ok (.iinc 8 1, 3) := by decide +kernel
theorem dX6_tail_70 : decode cX6_tail 70 = .ok (.goto (-23), 3) := by decide +kernel
theorem dX6_tail_73 : decode cX6_tail 73 = .ok (.lload 6, 2) := by decide +kernel
theorem dX6_tail_75 : decode cX6_tail 75 = .ok (.aload_n 0, 1) := by decide +kernel
theorem dX6_tail_76 : decode cX6_tail 76 = .ok (.iload_n 1, 1) := by decide +kernel
theorem dX6_tail_77 : decode cX6_tail 77 = .ok (.lload_n 2, 1) := by decide +kernel
theorem dX6_tail_78 : decode cX6_tail 78 = .ok (.invokevirtual 109, 3) := by decide +kernel
theorem dX6_tail_81 : decode cX6_tail 81 = .ok (.lxor, 1) := by decide +kernel
theorem dX6_tail_82 : decode cX6_tail 82 = .ok (.lstore 8, 2) := by decide +kernel
theorem dX6_tail_84 : decode cX6_tail 84 = .ok (.lconst 0, 1) := by decide +kernel
theorem dX6_tail_85 : decode cX6_tail 85 = .ok (.lstore 10, 2) := by decide +kernel
theorem dX6_tail_87 : decode cX6_tail 87 = .ok (.aload_n 0, 1) := by decide +kernel
theorem dX6_tail_88 : decode cX6_tail 88 = .ok (.getfield 7, 3) := by decide +kernel
theorem dX6_tail_91 : decode cX6_tail 91 = .ok (.iload_n 1, 1) := by decide +kernel
theorem dX6_tail_92 : decode cX6_tail 92 = .ok (.iaload, 1) := by decide +kernel
theorem dX6_tail_93 : decode cX6_tail 93 = .ok (.bipush 8, 2) := by decide +kernel
theorem dX6_tail_95 : decode cX6_tail 95 = .ok (.isub, 1) := by decide +kernel
theorem dX6_tail_96 : decode cX6_tail 96 = .ok (.istore 12, 2) := by decide +kernel
theorem dX6_tail_98 : decode cX6_tail 98 = .ok (.iload 12, 2) := by decide +kernel
theorem dX6_tail_100 : decode cX6_tail 100 = .ok (.ifCond .lt 49, 3) := by decide +kernel
theorem dX6_tail_103 : decode cX6_tail 103 = .ok (.lload 8, 2) := by decide +kernel
theorem dX6_tail_105 : decode cX6_tail 105 = .ok (.iload 12, 2) := by decide +kernel
theorem dX6_tail_107 : decode cX6_tail 107 = .ok (.lshr, 1) := by decide +kernel
theorem dX6_tail_108 : decode cX6_tail 108 = .ok (.ldc2_w 66, 3) := by decide +kernel
theorem dX6_tail_111 : decode cX6_tail 111 = .ok (.land, 1) := by decide +kernel
theorem dX6_tail_112 : decode cX6_tail 112 = .ok (.lstore 13, 2) := by decide +kernel
theorem dX6_tail_114 : decode cX6_tail 114 = .ok (.lload 10, 2) := by decide +kernel
theorem dX6_tail_116 : decode cX6_tail 116 = .ok (.bipush 8, 2) := by decide +kernel
theorem dX6_tail_118 : decode cX6_tail 118 = .ok (.lshl, 1) := by decide +kernel
theorem dX6_tail_119 : decode cX6_tail 119 = .ok (.aload_n 0, 1) := by decide +kernel
theorem dX6_tail_120 : decode cX6_tail 120 = .ok (.getfield 23, 3) := by decide +kernel
theorem dX6_tail_123 : decode cX6_tail 123 = .ok (.iload_n 1, 1) := by decide +kernel
theorem dX6_tail_124 : decode cX6_tail 124 = .ok (.baload, 1) := by decide +kernel
theorem dX6_tail_125 : decode cX6_tail 125 = .ok (.ifCond .eq 13, 3) := by decide +kernel
theorem dX6_tail_128 : decode cX6_tail 128 = .ok (.lload 13, 2) := by decide +kernel
theorem dX6_tail_130 : decode cX6_tail 130 = .ok (.bipush 8, 2) := by decide +kernel
theorem dX6_tail_132 : decode cX6_tail 132 = .ok (.invokestatic 83, 3) := by decide +kernel
theorem dX6_tail_135 : decode cX6_tail 135 = .ok (.goto 5, 3) := by decide +kernel
theorem dX6_tail_138 : decode cX6_tail 138 = .ok (.lload 13, 2) := by decide +kernel
theorem dX6_tail_140 : decode cX6_tail 140 = .ok (.lor, 1) := by decide +kernel
theorem dX6_tail_141 : decode cX6_tail 141 = .ok (.lstore 10, 2) := by decide +kernel
theorem dX6_tail_143 : decode cX6_tail 143 = .ok (.iinc 12 (-8), 3) := by decide +kernel
theorem dX6_tail_146 : decode cX6_tail 146 = .ok (.goto (-48), 3) := by decide +kernel
theorem dX6_tail_149 : decode cX6_tail 149 = .ok (.lload 10, 2) := by decide +kernel
theorem dX6_tail_151 : decode cX6_tail 151 = .ok (.lreturn, 1) := by decide +kernel
theorem dX6_degree_0 : decode cX6_degree 0 = .ok (.iconst (-1), 1) := by decide +kernel
theorem dX6_degree_1 : decode cX6_degree 1 = .ok (.istore_n 2, 1) := by decide +kernel
theorem dX6_degree_2 : decode cX6_degree 2 = .ok (.iconst 0, 1) := by decide +kernel
theorem dX6_degree_3 : decode cX6_degree 3 = .ok (.istore_n 3, 1) := by decide +kernel
theorem dX6_degree_4 : decode cX6_degree 4 = .ok (.iload_n 3, 1) := by decide +kernel
theorem dX6_degree_5 : decode cX6_degree 5 = .ok (.bipush 34, 2) := by decide +kernel
theorem dX6_degree_7 : decode cX6_degree 7 = .ok (.if_icmp .ge 25, 3) := by decide +kernel
theorem dX6_degree_10 : decode cX6_degree 10 = .ok (.lload_n 0, 1) := by decide +kernel
theorem dX6_degree_11 : decode cX6_degree 11 = .ok (.iload_n 3, 1) := by decide +kernel
theorem dX6_degree_12 : decode cX6_degree 12 = .ok (.lshr, 1) := by decide +kernel
theorem dX6_degree_13 : decode cX6_degree 13 = .ok (.lconst 1, 1) := by decide +kernel
theorem dX6_degree_14 : decode cX6_degree 14 = .ok (.land, 1) := by decide +kernel
theorem dX6_degree_15 : decode cX6_degree 15 = .ok (.lconst 1, 1) := by decide +kernel
theorem dX6_degree_16 : decode cX6_degree 16 = .ok (.lcmp, 1) := by decide +kernel
theorem dX6_degree_17 : decode cX6_degree 17 = .ok (.ifCond .ne 7, 3) := by decide +kernel
theorem dX6_degree_20 : decode cX6_degree 20 = .ok (.iload_n 3, 1) := by decide +kernel
theorem dX6_degree_21 : decode cX6_degree 21 = .ok (.goto 4, 3) := by decide +kernel
theorem dX6_degree_24 : decode cX6_degree 24 = .ok (.iload_n 2, 1) := by decide +kernel
theorem dX6_degree_25 : decode cX6_degree 25 = .ok (.istore_n 2, 1) := by decide +kernel
theorem dX6_degree_26 : decode cX6_degree 26 = .ok (.iinc 3 1, 3) := by decide +kernel
theorem dX6_degree_29 : decode cX6_degree 29 = .ok (.goto (-25), 3) := by decide +kernel
theorem dX6_degree_32 : decode cX6_degree 32 = .ok (.iload_n 2, 1) := by decide +kernel
theorem dX6_degree_33 : decode cX6_degree 33 = .ok (.ireturn, 1) := by decide +kernel
theorem dX6_rest_0 : decode cX6_rest 0 = .ok (.lload_n 0, 1) := by decide +kernel
theorem dX6_rest_1 : decode cX6_rest 1 = .ok (.lstore 5, 2) := by decide +kernel
theorem dX6_rest_3 : decode cX6_rest 3 = .ok (.bipush 33, 2) := by decide +kernel
theorem dX6_rest_5 : decode cX6_rest 5 = .ok (.istore 7, 2) := by decide +kernel
theorem dX6_rest_7 : decode cX6_rest 7 = .ok (.iload 7, 2) := by decide +kernel
theorem dX6_rest_9 : decode cX6_rest 9 = .ok (.iload 4, 2) := by decide +kernel
theorem dX6_rest_11 : decode cX6_rest 11 = .ok (.if_icmp .lt 37, 3) := by decide +kernel
theorem dX6_rest_14 : decode cX6_rest 14 = .ok (.lload 5, 2) := by decide +kernel
theorem dX6_rest_16 : decode cX6_rest 16 = .ok (.lload 5, 2) := by decide +kernel
theorem dX6_rest_18 : decode cX6_rest 18 = .ok (.iload 7, 2) := by decide +kernel
theorem dX6_rest_20 : decode cX6_rest 20 = .ok (.lshr, 1) := by decide +kernel
theorem dX6_rest_21 : decode cX6_rest 21 = .ok (.lconst 1, 1) := by decide +kernel
theorem dX6_rest_22 : decode cX6_rest 22 = .ok (.land, 1) := by decide +kernel
theorem dX6_rest_23 : decode cX6_rest 23 = .ok (.lconst 1, 1) := by decide +kernel
theorem dX6_rest_24 : decode cX6_rest 24 = .ok (.lcmp, 1) := by decide +kernel
theorem dX6_rest_25 : decode cX6_rest 25 = .ok (.ifCond .ne 13, 3) := by decide +kernel
theorem dX6_rest_28 : decode cX6_rest 28 = .ok (.lload_n 2, 1) := by decide +kernel
theorem dX6_rest_29 : decode cX6_rest 29 = .ok (.iload 7, 2) := by decide +kernel
theorem dX6_rest_31 : decode cX6_rest 31 = .ok (.iload 4, 2) := by decide +kernel
theorem dX6_rest_33 : decode cX6_rest 33 = .ok (.isub, 1) := by decide +kernel
theorem dX6_rest_34 : decode cX6_rest 34 = .ok (.lshl, 1) := by decide +kernel
theorem dX6_rest_35 : decode cX6_rest 35 = .ok (.goto 4, 3) := by decide +kernel
theorem dX6_rest_38 : decode cX6_rest 38 = .ok (.lconst 0, 1) := by decide +kernel
theorem dX6_rest_39 : decode cX6_rest 39 = .ok (.lxor, 1) := by decide +kernel
theorem dX6_rest_40 : decode cX6_rest 40 = .ok (.lstore 5, 2) := by decide +kernel
theorem dX6_rest_42 : decode cX6_rest 42 = .ok (.iinc 7 (-1), 3) := by decide +kernel
theorem dX6_rest_45 : decode cX6_rest 45 = .ok (.goto (-38), 3) := by decide +kernel
theorem dX6_rest_48 : decode cX6_rest 48 = .ok (.lload 5, 2) := by decide +kernel
theorem dX6_rest_50 : decode cX6_rest 50 = .ok (.lreturn, 1) := by decide +kernel
theorem dX6_quotient_0 : decode cX6_quotient 0 = .ok (.lload_n 0, 1) := by decide +kernel
theorem dX6_quotient_1 : decode cX6_quotient 1 = .ok (.lstore 5, 2) := by decide +kernel
theorem dX6_quotient_3 : decode cX6_quotient 3 = .ok (.lconst 0, 1) := by decide +kernel
theorem dX6_quotient_4 : decode cX6_quotient 4 = .ok (.lstore 7, 2) := by decide +kernel
theorem dX6_quotient_6 : decode cX6_quotient 6 = .ok (.bipush 33, 2) := by decide +kernel
theorem dX6_quotient_8 : decode cX6_quotient 8 = .ok (.istore 9, 2) := by decide +kernel
theorem dX6_quotient_10 : decode cX6_quotient 10 = .ok (.iload 9, 2) := by decide +kernel
theorem dX6_quotient_12 : decode cX6_quotient 12 = .ok (.iload 4, 2) := by decide +kernel
theorem dX6_quotient_14 : decode cX6_quotient 14 = .ok (.if_icmp .lt 45, 3) := by decide +kernel
theorem dX6_quotient_17 : decode cX6_quotient 17 = .ok (.lload 5, 2) := by decide +kernel
theorem dX6_quotient_19 : decode cX6_quotient 19 = .ok (.iload 9, 2) := by decide +kernel
theorem dX6_quotient_21 : decode cX6_quotient 21 = .ok (.lshr, 1) := by decide +kernel
theorem dX6_quotient_22 : decode cX6_quotient 22 = .ok (.lconst 1, 1) := by decide +kernel
theorem dX6_quotient_23 : decode cX6_quotient 23 = .ok (.land, 1) := by decide +kernel
theorem dX6_quotient_24 : decode cX6_quotient 24 = .ok (.lconst 1, 1) := by decide +kernel
theorem dX6_quotient_25 : decode cX6_quotient 25 = .ok (.lcmp, 1) := by decide +kernel
theorem dX6_quotient_26 : decode cX6_quotient 26 = .ok (.ifCond .ne 27, 3) := by decide +kernel
theorem dX6_quotient_29 : decode cX6_quotient 29 = .ok (.lload 5, 2) := by decide +kernel
theorem dX6_quotient_31 : decode cX6_quotient 31 = .ok (.lload_n 2, 1) := by decide +kernel
theorem dX6_quotient_32 : decode cX6_quotient 32 = .ok (.iload 9, 2) := by decide +kernel
theorem dX6_quotient_34 : decode cX6_quotient 34 = .ok (.iload 4, 2) := by decide +kernel
theorem dX6_quotient_36 : decode cX6_quotient 36 = .ok (.isub, 1) := by decide +kernel
theorem dX6_quotient_37 : decode cX6_quotient 37 = .ok (.lshl, 1) := by decide +kernel
theorem dX6_quotient_38 : decode cX6_quotient 38 = .ok (.lxor, 1) := by decide +kernel
theorem dX6_quotient_39 : decode cX6_quotient 39 = .ok (.lstore 5, 2) := by decide +kernel
theorem dX6_quotient_41 : decode cX6_quotient 41 = .ok (.lload 7, 2) := by decide +kernel
theorem dX6_quotient_43 : decode cX6_quotient 43 = .ok (.lconst 1, 1) := by decide +kernel
theorem dX6_quotient_44 : decode cX6_quotient 44 = .ok (.iload 9, 2) := by decide +kernel
theorem dX6_quotient_46 : decode cX6_quotient 46 = .ok (.iload 4, 2) := by decide +kernel
theorem dX6_quotient_48 : decode cX6_quotient 48 = .ok (.isub, 1) := by decide +kernel
theorem dX6_quotient_49 : decode cX6_quotient 49 = .ok (.lshl, 1) := by decide +kernel
theorem dX6_quotient_50 : decode cX6_quotient 50 = .ok (.lor, 1) := by decide +kernel
theorem dX6_quotient_51 : decode cX6_quotient 51 = .ok (.lstore 7, 2) := by decide +kernel
theorem dX6_quotient_53 : decode cX6_quotient 53 = .ok (.iinc 9 (-1), 3) := by decide +kernel
theorem dX6_quotient_56 : decode cX6_quotient 56 = .ok (.goto (-46), 3) := by decide +kernel
theorem dX6_quotient_59 : decode cX6_quotient 59 = .ok (.lload 7, 2) := by decide +kernel
theorem dX6_quotient_61 : decode cX6_quotient 61 = .ok (.lreturn, 1) := by decide +kernel
theorem dX6_know_0 : decode cX6_know 0 = .ok (.aload_n 0, 1) := by decide +kernel
theorem dX6_know_1 : decode cX6_know 1 = .ok (.getfield 33, 3) := by decide +kernel
theorem dX6_know_4 : decode cX6_know 4 = .ok (.iload_n 1, 1) := by decide +kernel
theorem dX6_know_5 : decode cX6_know 5 = .ok (.baload, 1) := by decide +kernel
theorem dX6_know_6 : decode cX6_know 6 = .ok (.ifCond .eq 4, 3) := by decide +kernel
theorem dX6_know_9 : decode cX6_know 9 = .ok (.return_, 1) := by decide +kernel
theorem dX6_know_10 : decode cX6_know 10 = .ok (.aload_n 0, 1) := by decide +kernel
theorem dX6_know_11 : decode cX6_know 11 = .ok (.getfield 33, 3) := by decide +kernel
theorem dX6_know_14 : decode cX6_know 14 = .ok (.iload_n 1, 1) := by decide +kernel
theorem dX6_know_15 : decode cX6_know 15 = .ok (.iconst 1, 1) := by decide +kernel
theorem dX6_know_16 : decode cX6_know 16 = .ok (.bastore, 1) := by decide +kernel
theorem dX6_know_17 : decode cX6_know 17 = .ok (.aload_n 0, 1) := by decide +kernel
theorem dX6_know_18 : decode cX6_know 18 = .ok (.getfield 42, 3) := by decide +kernel
theorem dX6_know_21 : decode cX6_know 21 = .ok (.iload_n 1, 1) := by decide +kernel
theorem dX6_know_22 : decode cX6_know 22 = .ok (.iconst 0, 1) := by decide +kernel
theorem dX6_know_23 : decode cX6_know 23 = .ok (.iastore, 1) := by decide +kernel
theorem dX6_know_24 : decode cX6_know 24 = .ok (.lconst 1, 1) := by decide +kernel
theorem dX6_know_25 : decode cX6_know 25 = .ok (.aload_n 0, 1) := by decide +kernel
theorem dX6_know_26 : decode cX6_know 26 = .ok (.getfield 7, 3) := by decide +kernel
theorem dX6_know_29 : decode cX6_know 29 = .ok (.iload_n 1, 1) := by decide +kernel
theorem dX6_know_30 : decode cX6_know 30 = .ok (.iaload, 1) := by decide +kernel
theorem dX6_know_31 : decode cX6_know 31 = .ok (.lshl, 1) := by decide +kernel
theorem dX6_know_32 : decode cX6_know 32 = .ok (.aload_n 0, 1) := by decide +kernel
theorem dX6_know_33 : decode cX6_know 33 = .ok (.getfield 13, 3) := by decide +kernel
theorem dX6_know_36 : decode cX6_know 36 = .ok (.iload_n 1, 1) := by decide +kernel
theorem dX6_know_37 : decode cX6_know 37 = .ok (.laload, 1) := by decide +kernel
theorem dX6_know_38 : decode cX6_know 38 = .ok (.lor, 1) := by decide +kernel
theorem dX6_know_39 : decode cX6_know 39 = .ok (.lstore_n 2, 1) := by decide +kernel
theorem dX6_know_40 : decode cX6_know 40 = .ok (.ldc2_w 118, 3) := by decide +kernel
theorem dX6_know_43 : decode cX6_know 43 = .ok (.lstore 4, 2) := by decide +kernel
theorem dX6_know_45 : decode cX6_know 45 = .ok (.iconst 1, 1) := by decide +kernel
theorem dX6_know_46 : decode cX6_know 46 = .ok (.istore 6, 2) := by decide +kernel
theorem dX6_know_48 : decode cX6_know 48 = .ok (.lload_n 2, 1) := by decide +kernel
theorem dX6_know_49 : decode cX6_know 49 = .ok (.invokestatic 120, 3) := by decide +kernel
theorem dX6_know_52 : decode cX6_know 52 = .ok (.ifCond .le 148, 3) := by decide +kernel
theorem dX6_know_55 : decode cX6_know 55 = .ok (.iconst 2, 1) := by decide +kernel
theorem dX6_know_56 : decode cX6_know 56 = .ok (.iload 6, 2) := by decide +kernel
theorem dX6_know_58 : decode cX6_know 58 = .ok (.imul, 1) := by decide +kernel
theorem dX6_know_59 : decode cX6_know 59 = .ok (.lload_n 2, 1) := by decide +kernel
theorem dX6_know_60 : decode cX6_know 60 = .ok (.invokestatic 120, 3) := by decide +kernel
theorem dX6_know_63 : decode cX6_know 63 = .ok (.if_icmp .le 12, 3) := by decide +kernel
theorem dX6_know_66 : decode cX6_know 66 = .ok (.lload_n 2, 1) := by decide +kernel
theorem dX6_know_67 : decode cX6_know 67 = .ok (.lstore 4, 2) := by decide +kernel
theorem dX6_know_69 : decode cX6_know 69 = .ok (.lload_n 2, 1) := by decide +kernel
theorem dX6_know_70 : decode cX6_know 70 = .ok (.invokestatic 120, 3) := by decide +kernel
theorem dX6_know_73 : decode cX6_know 73 = .ok (.istore 6, 2) := by decide +kernel
theorem dX6_know_75 : decode cX6_know 75 = .ok (.iconst 0, 1) := by decide +kernel
theorem dX6_know_76 : decode cX6_know 76 = .ok (.istore 7, 2) := by decide +kernel
theorem dX6_know_78 : decode cX6_know 78 = .ok (.lload_n 2, 1) := by decide +kernel
theorem dX6_know_79 : decode cX6_know 79 = .ok (.invokestatic 120, 3) := by decide +kernel
theorem dX6_know_82 : decode cX6_know 82 = .ok (.iload 6, 2) := by decide +kernel
theorem dX6_know_84 : decode cX6_know 84 = .ok (.if_icmp .lt 31, 3) := by decide +kernel
theorem dX6_know_87 : decode cX6_know 87 = .ok (.lload_n 2, 1) := by decide +kernel
theorem dX6_know_88 : decode cX6_know 88 = .ok (.lload 4, 2) := by decide +kernel
theorem dX6_know_90 : decode cX6_know 90 = .ok (.iload 6, 2) := by decide +kernel
theorem dX6_know_92 : decode cX6_know 92 = .ok (.invokestatic 124, 3) := by decide +kernel
theorem dX6_know_95 : decode cX6_know 95 = .ok (.lconst 0, 1) := by decide +kernel
theorem dX6_know_96 : decode cX6_know 96 = .ok (.lcmp, 1) := by decide +kernel
theorem dX6_know_97 : decode cX6_know 97 = .ok (.ifCond .ne 18, 3) := by decide +kernel
theorem dX6_know_100 : decode cX6_know 100 = .ok (.lload_n 2, 1) := by decide +kernel
theorem dX6_know_101 : decode cX6_know 101 = .ok (.lload 4, 2) := by decide +kernel
theorem dX6_know_103 : decode cX6_know 103 = .ok (.iload 6, 2) := by decide +kernel
theorem dX6_know_105 : decode cX6_know 105 = .ok (.invokestatic 128, 3) := by decide +kernel
theorem dX6_know_108 : decode cX6_know 108 = .ok (.lstore_n 2, 1) := by decide +kernel
theorem dX6_know_109 : decode cX6_know 109 = .ok (.iinc 7 1, 3) := by decide +kernel
theorem dX6_know_112 : decode cX6_know 112 = .ok (.goto (-34), 3) := by decide +kernel
theorem dX6_know_115 : decode cX6_know 115 = .ok (.iload 7, 2) := by decide +kernel
theorem dX6_know_117 : decode cX6_know 117 = .ok (.ifCond .le 49, 3) := by decide +kernel
theorem dX6_know_120 : decode cX6_know 120 = .ok (.aload_n 0, 1) := by decide +kernel
theorem dX6_know_121 : decode cX6_know 121 = .ok (.getfield 36, 3) := by decide +kernel
theorem dX6_know_124 : decode cX6_know 124 = .ok (.bipush 33, 2) := by decide +kernel
theorem dX6_know_126 : decode cX6_know 126 = .ok (.iload_n 1, 1) := by decide +kernel
theorem dX6_know_127 : decode cX6_know 127 = .ok (.imul, 1) := by decide +kernel
theorem dX6_know_128 : decode cX6_know 128 = .ok (.aload_n 0, 1) := by decide +kernel
theorem dX6_know_129 : decode cX6_know 129 = .ok (.getfield 42, 3) := by decide +kernel
theorem dX6_know_132 : decode cX6_know 132 = .ok (.iload_n 1, 1) := by decide +kernel
theorem dX6_know_133 : decode cX6_know 133 = .ok (.iaload, 1) := by decide +kernel
theorem dX6_know_134 : decode cX6_know 134 = .ok (.iadd, 1) := by decide +kernel
theorem dX6_know_135 : decode cX6_know 135 = .ok (.lload 4, 2) := by decide +kernel
theorem dX6_know_137 : decode cX6_know 137 = .ok (.lastore, 1) := by decide +kernel
theorem dX6_know_138 : decode cX6_know 138 = .ok (.aload_n 0, 1) := by decide +kernel
theorem dX6_know_139 : decode cX6_know 139 = .ok (.getfield 39, 3) := by decide +kernel
theorem dX6_know_142 : decode cX6_know 142 = .ok (.bipush 33, 2) := by decide +kernel
theorem dX6_know_144 : decode cX6_know 144 = .ok (.iload_n 1, 1) := by decide +kernel
theorem dX6_know_145 : decode cX6_know 145 = .ok (.imul, 1) := by decide +kernel
theorem dX6_know_146 : decode cX6_know 146 = .ok (.aload_n 0, 1) := by decide +kernel
theorem dX6_know_147 : decode cX6_know 147 = .ok (.getfield 42, 3) := by decide +kernel
theorem dX6_know_150 : decode cX6_know 150 = .ok (.iload_n 1, 1) := by decide +kernel
theorem dX6_know_151 : decode cX6_know 151 = .ok (.iaload, 1) := by decide +kernel
theorem dX6_know_152 : decode cX6_know 152 = .ok (.iadd, 1) := by decide +kernel
theorem dX6_know_153 : decode cX6_know 153 = .ok (.iload 7, 2) := by decide +kernel
theorem dX6_know_155 : decode cX6_know 155 = .ok (.iastore, 1) := by decide +kernel
theorem dX6_know_156 : decode cX6_know 156 = .ok (.aload_n 0, 1) := by decide +kernel
theorem dX6_know_157 : decode cX6_know 157 = .ok (.getfield 42, 3) := by decide +kernel
theorem dX6_know_160 : decode cX6_know 160 = .ok (.iload_n 1, 1) := by decide +kernel
theorem dX6_know_161 : decode cX6_know 161 = .ok (.dup2, 1) := by decide +kernel
theorem dX6_know_162 : decode cX6_know 162 = .ok (.iaload, 1) := by decide +kernel
theorem dX6_know_163 : decode cX6_know 163 = .ok (.iconst 1, 1) := by decide +kernel
theorem dX6_know_164 : decode cX6_know 164 = .ok (.iadd, 1) := by decide +kernel
theorem dX6_know_165 : decode cX6_know 165 = .ok (.iastore, 1) := by decide +kernel
theorem dX6_know_166 : decode cX6_know 166 = .ok (.lload 4, 2) := by decide +kernel
theorem dX6_know_168 : decode cX6_know 168 = .ok (.ldc2_w 131, 3) := by decide +kernel
theorem dX6_know_171 : decode cX6_know 171 = .ok (.ladd, 1) := by decide +kernel
theorem dX6_know_172 : decode cX6_know 172 = .ok (.lstore 4, 2) := by decide +kernel
theorem dX6_know_174 : decode cX6_know 174 = .ok (.lload 4, 2) := by decide +kernel
theorem dX6_know_176 : decode cX6_know 176 = .ok (.iload 6, 2) := by decide +kernel
theorem dX6_know_178 : decode cX6_know 178 = .ok (.iconst 1, 1) := by decide +kernel
theorem dX6_know_179 : decode cX6_know 179 = .ok (.iadd, 1) := by decide +kernel
theorem dX6_know_180 : decode cX6_know 180 = .ok (.lshr, 1) := by decide +kernel
theorem dX6_know_181 : decode cX6_know 181 = .ok (.lconst 0, 1) := by decide +kernel
theorem dX6_know_182 : decode cX6_know 182 = .ok (.lcmp, 1) := by decide +kernel
theorem dX6_know_183 : decode cX6_know 183 = .ok (.ifCond .ne 8, 3) := by decide +kernel
theorem dX6_know_186 : decode cX6_know 186 = .ok (.iload 6, 2) := by decide +kernel
theorem dX6_know_188 : decode cX6_know 188 = .ok (.goto 7, 3) := by decide +kernel
theorem dX6_know_191 : decode cX6_know 191 = .ok (.iload 6, 2) := by decide +kernel
theorem dX6_know_193 : decode cX6_know 193 = .ok (.iconst 1, 1) := by decide +kernel
theorem dX6_know_194 : decode cX6_know 194 = .ok (.iadd, 1) := by decide +kernel
theorem dX6_know_195 : decode cX6_know 195 = .ok (.istore 6, 2) := by decide +kernel
theorem dX6_know_197 : decode cX6_know 197 = .ok (.goto (-149), 3) := by decide +kernel
theorem dX6_know_200 : decode cX6_know 200 = .ok (.aload_n 0, 1) := by decide +kernel
theorem dX6_know_201 : decode cX6_know 201 = .ok (.getfield 45, 3) := by decide +kernel
theorem dX6_know_204 : decode cX6_know 204 = .ok (.iload_n 1, 1) := by decide +kernel
theorem dX6_know_205 : decode cX6_know 205 = .ok (.aload_n 0, 1) := by decide +kernel
theorem dX6_know_206 : decode cX6_know 206 = .ok (.iload_n 1, 1) := by decide +kernel
theorem dX6_know_207 : decode cX6_know 207 = .ok (.invokevirtual 133, 3) := by decide +kernel
theorem dX6_know_210 : decode cX6_know 210 = .ok (.lastore, 1) := by decide +kernel
theorem dX6_know_211 : decode cX6_know 211 = .ok (.return_, 1) := by decide +kernel
theorem dX6_common_0 : decode cX6_common 0 = .ok (.lload_n 0, 1) := by decide +kernel
theorem dX6_common_1 : decode cX6_common 1 = .ok (.lstore 4, 2) := by decide +kernel
theorem dX6_common_3 : decode cX6_common 3 = .ok (.lload_n 2, 1) := by decide +kernel
theorem dX6_common_4 : decode cX6_common 4 = .ok (.lstore 6, 2) := by decide +kernel
theorem dX6_common_6 : decode cX6_common 6 = .ok (.lload 6, 2) := by decide +kernel
theorem dX6_common_8 : decode cX6_common 8 = .ok (.lconst 0, 1) := by decide +kernel
theorem dX6_common_9 : decode cX6_common 9 = .ok (.lcmp, 1) := by decide +kernel
theorem dX6_common_10 : decode cX6_common 10 = .ok (.ifCond .eq 21, 3) := by decide +kernel
theorem dX6_common_13 : decode cX6_common 13 = .ok (.lload 4, 2) := by decide +kernel
theorem dX6_common_15 : decode cX6_common 15 = .ok (.lload 6, 2) := by decide +kernel
theorem dX6_common_17 : decode cX6_common 17 = .ok (.lrem, 1) := by decide +kernel
theorem dX6_common_18 : decode cX6_common 18 = .ok (.lstore 8, 2) := by decide +kernel
theorem dX6_common_20 : decode cX6_common 20 = .ok (.lload 6, 2) := by decide +kernel
theorem dX6_common_22 : decode cX6_common 22 = .ok (.lstore 4, 2) := by decide +kernel
theorem dX6_common_24 : decode cX6_common 24 = .ok (.lload 8, 2) := by decide +kernel
theorem dX6_common_26 : decode cX6_common 26 = .ok (.lstore 6, 2) := by decide +kernel
theorem dX6_common_28 : decode cX6_common 28 = .ok (.goto (-22), 3) := by decide +kernel
theorem dX6_common_31 : decode cX6_common 31 = .ok (.lload 4, 2) := by decide +kernel
theorem dX6_common_33 : decode cX6_common 33 = .ok (.lreturn, 1) := by decide +kernel
theorem dX6_findOrder_0 : decode cX6_findOrder 0 = .ok (.lconst 1, 1) := by decide +kernel
theorem dX6_findOrder_1 : decode cX6_findOrder 1 = .ok (.lstore_n 2, 1) := by decide +kernel
theorem dX6_findOrder_2 : decode cX6_findOrder 2 = .ok (.iconst 1, 1) := by decide +kernel
theorem dX6_findOrder_3 : decode cX6_findOrder 3 = .ok (.istore 4, 2) := by decide +kernel
theorem dX6_findOrder_5 : decode cX6_findOrder 5 = .ok (.iconst 0, 1) := by decide +kernel
theorem dX6_findOrder_6 : decode cX6_findOrder 6 = .ok (.istore 5, 2) := by decide +kernel
theorem dX6_findOrder_8 : decode cX6_findOrder 8 = .ok (.iload 5, 2) := by decide +kernel
theorem dX6_findOrder_10 : decode cX6_findOrder 10 = .ok (.aload_n 0, 1) := by decide +kernel
theorem dX6_findOrder_11 : decode cX6_findOrder 11 = .ok (.getfield 42, 3) := by decide +kernel
theorem dX6_findOrder_14 : decode cX6_findOrder 14 = .ok (.iload_n 1, 1) := by decide +kernel
theorem dX6_findOrder_15 : decode cX6_findOrder 15 = .ok (.iaload, 1) := by decide +kernel
theorem dX6_findOrder_16 : decode cX6_findOrder 16 = .ok (.if_icmp .ge 78, 3) := by decide +kernel
theorem dX6_findOrder_19 : decode cX6_findOrder 19 = .ok (.lconst 1, 1) := by decide +kernel
theorem dX6_findOrder_20 : decode cX6_findOrder 20 = .ok (.aload_n 0, 1) := by decide +kernel
theorem dX6_findOrder_21 : decode cX6_findOrder 21 = .ok (.getfield 36, 3) := by decide +kernel
theorem dX6_findOrder_24 : decode cX6_findOrder 24 = .ok (.bipush 33, 2) := by decide +kernel
theorem dX6_findOrder_26 : decode cX6_findOrder 26 = .ok (.iload_n 1, 1) := by decide +kernel
theorem dX6_findOrder_27 : decode cX6_findOrder 27 = .ok (.imul, 1) := by decide +kernel
theorem dX6_findOrder_28 : decode cX6_findOrder 28 = .ok (.iload 5, 2) := by decide +kernel
theorem dX6_findOrder_30 : decode cX6_findOrder 30 = .ok (.iadd, 1) := by decide +kernel
theorem dX6_findOrder_31 : decode cX6_findOrder 31 = .ok (.laload, 1) := by decide +kernel
theorem dX6_findOrder_32 : decode cX6_findOrder 32 = .ok (.invokestatic 120, 3) := by decide +kernel
theorem dX6_findOrder_35 : decode cX6_findOrder 35 = .ok (.lshl, 1) := by decide +kernel
theorem dX6_findOrder_36 : decode cX6_findOrder 36 = .ok (.lconst 1, 1) := by decide +kernel
theorem dX6_findOrder_37 : decode cX6_findOrder 37 = .ok (.lsub, 1) := by decide +kernel
theorem dX6_findOrder_38 : decode cX6_findOrder 38 = .ok (.lstore 6, 2) := by decide +kernel
theorem dX6_findOrder_40 : decode cX6_findOrder 40 = .ok (.lload_n 2, 1) := by decide +kernel
theorem dX6_findOrder_41 : decode cX6_findOrder 41 = .ok (.lload_n 2, 1) := by decide +kernel
theorem dX6_findOrder_42 : decode cX6_findOrder 42 = .ok (.lload 6, 2) := by decide +kernel
theorem dX6_findOrder_44 : decode cX6_findOrder 44 = .ok (.invokestatic 137, 3) := by decide +kernel
theorem dX6_findOrder_47 : decode cX6_findOrder 47 = .ok (.ldiv, 1) := by decide +kernel
theorem dX6_findOrder_48 : decode cX6_findOrder 48 = .ok (.lload 6, 2) := by decide +kernel
theorem dX6_findOrder_50 : decode cX6_findOrder 50 = .ok (.lmul, 1) := by decide +kernel
theorem dX6_findOrder_51 : decode cX6_findOrder 51 = .ok (.lstore_n 2, 1) := by decide +kernel
theorem dX6_findOrder_52 : decode cX6_findOrder 52 = .ok (.aload_n 0, 1) := by decide +kernel
theorem dX6_findOrder_53 : decode cX6_findOrder 53 = .ok (.getfield 39, 3) := by decide +kernel
theorem dX6_findOrder_56 : decode cX6_findOrder 56 = .ok (.bipush 33, 2) := by decide +kernel
theorem dX6_findOrder_58 : decode cX6_findOrder 58 = .ok (.iload_n 1, 1) := by decide +kernel
theorem dX6_findOrder_59 : decode cX6_findOrder 59 = .ok (.imul, 1) := by decide +kernel
theorem dX6_findOrder_60 : decode cX6_findOrder 60 = .ok (.iload 5, 2) := by decide +kernel
theorem dX6_findOrder_62 : decode cX6_findOrder 62 = .ok (.iadd, 1) := by decide +kernel
theorem dX6_findOrder_63 : decode cX6_findOrder 63 = .ok (.iaload, 1) := by decide +kernel
theorem dX6_findOrder_64 : decode cX6_findOrder 64 = .ok (.iload 4, 2) := by decide +kernel
theorem dX6_findOrder_66 : decode cX6_findOrder 66 = .ok (.if_icmp .le 18, 3) := by decide +kernel
theorem dX6_findOrder_69 : decode cX6_findOrder 69 = .ok (.aload_n 0, 1) := by decide +kernel
theorem dX6_findOrder_70 : decode cX6_findOrder 70 = .ok (.getfield 39, 3) := by decide +kernel
theorem dX6_findOrder_73 : decode cX6_findOrder 73 = .ok (.bipush 33, 2) := by decide +kernel
theorem dX6_findOrder_75 : decode cX6_findOrder 75 = .ok (.iload_n 1, 1) := by decide +kernel
theorem dX6_findOrder_76 : decode cX6_findOrder 76 = .ok (.imul, 1) := by decide +kernel
theorem dX6_findOrder_77 : decode cX6_findOrder 77 = .ok (.iload 5, 2) := by decide +kernel
theorem dX6_findOrder_79 : decode cX6_findOrder 79 = .ok (.iadd, 1) := by decide +kernel
theorem dX6_findOrder_80 : decode cX6_findOrder 80 = .ok (.iaload, 1) := by decide +kernel
theorem dX6_findOrder_81 : decode cX6_findOrder 81 = .ok (.goto 5, 3) := by decide +kernel
theorem dX6_findOrder_84 : decode cX6_findOrder 84 = .ok (.iload 4, 2) := by decide +kernel
theorem dX6_findOrder_86 : decode cX6_findOrder 86 = .ok (.istore 4, 2) := by decide +kernel
theorem dX6_findOrder_88 : decode cX6_findOrder 88 = .ok (.iinc 5 1, 3) := by decide +kernel
theorem dX6_findOrder_91 : decode cX6_findOrder 91 = .ok (.goto (-83), 3) := by decide +kernel
theorem dX6_findOrder_94 : decode cX6_findOrder 94 = .ok (.iconst 1, 1) := by decide +kernel
theorem dX6_findOrder_95 : decode cX6_findOrder 95 = .ok (.istore 5, 2) := by decide +kernel
theorem dX6_findOrder_97 : decode cX6_findOrder 97 = .ok (.iload 5, 2) := by decide +kernel
theorem dX6_findOrder_99 : decode cX6_findOrder 99 = .ok (.iload 4, 2) := by decide +kernel
theorem dX6_findOrder_101 : decode cX6_findOrder 101 = .ok (.if_icmp .ge 12, 3) := by decide +kernel
theorem dX6_findOrder_104 : decode cX6_findOrder 104 = .ok (.iload 5, 2) := by decide +kernel
theorem dX6_findOrder_106 : decode cX6_findOrder 106 = .ok (.iconst 2, 1) := by decide +kernel
theorem dX6_findOrder_107 : decode cX6_findOrder 107 = .ok (.imul, 1) := by decide +kernel
theorem dX6_findOrder_108 : decode cX6_findOrder 108 = .ok (.istore 5, 2) := by decide +kernel
theorem dX6_findOrder_110 : decode cX6_findOrder 110 = .ok (.goto (-13), 3) := by decide +kernel
theorem dX6_findOrder_113 : decode cX6_findOrder 113 = .ok (.lload_n 2, 1) := by decide +kernel
theorem dX6_findOrder_114 : decode cX6_findOrder 114 = .ok (.iload 5, 2) := by decide +kernel
theorem dX6_findOrder_116 : decode cX6_findOrder 116 = .ok (.i2l, 1) := by decide +kernel
theorem dX6_findOrder_117 : decode cX6_findOrder 117 = .ok (.lmul, 1) := by decide +kernel
theorem dX6_findOrder_118 : decode cX6_findOrder 118 = .ok (.lstore_n 2, 1) := by decide +kernel
theorem dX6_findOrder_119 : decode cX6_findOrder 119 = .ok (.lload_n 2, 1) := by decide +kernel
theorem dX6_findOrder_120 : decode cX6_findOrder 120 = .ok (.lstore 6, 2) := by decide +kernel
theorem dX6_findOrder_122 : decode cX6_findOrder 122 = .ok (.ldc2_w 131, 3) := by decide +kernel
theorem dX6_findOrder_125 : decode cX6_findOrder 125 = .ok (.lstore 8, 2) := by decide +kernel
theorem dX6_findOrder_127 : decode cX6_findOrder 127 = .ok (.lload 6, 2) := by decide +kernel
theorem dX6_findOrder_129 : decode cX6_findOrder 129 = .ok (.lconst 1, 1) := by decide +kernel
theorem dX6_findOrder_130 : decode cX6_findOrder 130 = .ok (.lcmp, 1) := by decide +kernel
theorem dX6_findOrder_131 : decode cX6_findOrder 131 = .ok (.ifCond .le 81, 3) := by decide +kernel
theorem dX6_findOrder_134 : decode cX6_findOrder 134 = .ok (.lload 8, 2) := by decide +kernel
theorem dX6_findOrder_136 : decode cX6_findOrder 136 = .ok (.lload 8, 2) := by decide +kernel
theorem dX6_findOrder_138 : decode cX6_findOrder 138 = .ok (.lmul, 1) := by decide +kernel
theorem dX6_findOrder_139 : decode cX6_findOrder 139 = .ok (.lload 6, 2) := by decide +kernel
theorem dX6_findOrder_141 : decode cX6_findOrder 141 = .ok (.lcmp, 1) := by decide +kernel
theorem dX6_findOrder_142 : decode cX6_findOrder 142 = .ok (.ifCond .le 8, 3) := by decide +kernel
theorem dX6_findOrder_145 : decode cX6_findOrder 145 = .ok (.lload 6, 2) := by decide +kernel
theorem dX6_findOrder_147 : decode cX6_findOrder 147 = .ok (.goto 5, 3) := by decide +kernel
theorem dX6_findOrder_150 : decode cX6_findOrder 150 = .ok (.lload 8, 2) := by decide +kernel
theorem dX6_findOrder_152 : decode cX6_findOrder 152 = .ok (.lstore 8, 2) := by decide +kernel
theorem dX6_findOrder_154 : decode cX6_findOrder 154 = .ok (.lload 6, 2) := by decide +kernel
theorem dX6_findOrder_156 : decode cX6_findOrder 156 = .ok (.lload 8, 2) := by decide +kernel
theorem dX6_findOrder_158 : decode cX6_findOrder 158 = .ok (.lrem, 1) := by decide +kernel
theorem dX6_findOrder_159 : decode cX6_findOrder 159 = .ok (.lconst 0, 1) := by decide +kernel
theorem dX6_findOrder_160 : decode cX6_findOrder 160 = .ok (.lcmp, 1) := by decide +kernel
theorem dX6_findOrder_161 : decode cX6_findOrder 161 = .ok (.ifCond .ne 42, 3) := by decide +kernel
theorem dX6_findOrder_164 : decode cX6_findOrder 164 = .ok (.lload 6, 2) := by decide +kernel
theorem dX6_findOrder_166 : decode cX6_findOrder 166 = .ok (.lload 8, 2) := by decide +kernel
theorem dX6_findOrder_168 : decode cX6_findOrder 168 = .ok (.ldiv, 1) := by decide +kernel
theorem dX6_findOrder_169 : decode cX6_findOrder 169 = .ok (.lstore 6, 2) := by decide +kernel
theorem dX6_findOrder_171 : decode cX6_findOrder 171 = .ok (.aload_n 0, 1) := by decide +kernel
theorem dX6_findOrder_172 : decode cX6_findOrder 172 = .ok (.iload_n 1, 1) := by decide +kernel
theorem dX6_findOrder_173 : decode cX6_findOrder 173 = .ok (.aload_n 0, 1) := by decide +kernel
theorem dX6_findOrder_174 : decode cX6_findOrder 174 = .ok (.iload_n 1, 1) := by decide +kernel
theorem dX6_findOrder_175 : decode cX6_findOrder 175 = .ok (.lconst 1, 1) := by decide +kernel
theorem dX6_findOrder_176 : decode cX6_findOrder 176 = .ok (.invokevirtual 72, 3) := by decide +kernel
theorem dX6_findOrder_179 : decode cX6_findOrder 179 = .ok (.lload_n 2, 1) := by decide +kernel
theorem dX6_findOrder_180 : decode cX6_findOrder 180 = .ok (.lload 8, 2) := by decide +kernel
theorem dX6_findOrder_182 : decode cX6_findOrder 182 = .ok (.ldiv, 1) := by decide +kernel
theorem dX6_findOrder_183 : decode cX6_findOrder 183 = .ok (.invokevirtual 80, 3) := by decide +kernel
theorem dX6_findOrder_186 : decode cX6_findOrder 186 = .ok (.lconst 1, 1) := by decide +kernel
theorem dX6_findOrder_187 : decode cX6_findOrder 187 = .ok (.lcmp, 1) := by decide +kernel
theorem dX6_findOrder_188 : decode cX6_findOrder 188 = .ok (.ifCond .ne 10, 3) := by decide +kernel
theorem dX6_findOrder_191 : decode cX6_findOrder 191 = .ok (.lload_n 2, 1) := by decide +kernel
theorem dX6_findOrder_192 : decode cX6_findOrder 192 = .ok (.lload 8, 2) := by decide +kernel
theorem dX6_findOrder_194 : decode cX6_findOrder 194 = .ok (.ldiv, 1) := by decide +kernel
theorem dX6_findOrder_195 : decode cX6_findOrder 195 = .ok (.goto 4, 3) := by decide +kernel
theorem dX6_findOrder_198 : decode cX6_findOrder 198 = .ok (.lload_n 2, 1) := by decide +kernel
theorem dX6_findOrder_199 : decode cX6_findOrder 199 = .ok (.lstore_n 2, 1) := by decide +kernel
theorem dX6_findOrder_200 : decode cX6_findOrder 200 = .ok (.goto (-73), 3) := by decide +kernel
theorem dX6_findOrder_203 : decode cX6_findOrder 203 = .ok (.lload 8, 2) := by decide +kernel
theorem dX6_findOrder_205 : decode cX6_findOrder 205 = .ok (.lconst 1, 1) := by decide +kernel
theorem dX6_findOrder_206 : decode cX6_findOrder 206 = .ok (.ladd, 1) := by decide +kernel
theorem dX6_findOrder_207 : decode cX6_findOrder 207 = .ok (.lstore 8, 2) := by decide +kernel
theorem dX6_findOrder_209 : decode cX6_findOrder 209 = .ok (.goto (-82), 3) := by decide +kernel
theorem dX6_findOrder_212 : decode cX6_findOrder 212 = .ok (.lload_n 2, 1) := by decide +kernel
theorem dX6_findOrder_213 : decode cX6_findOrder 213 = .ok (.lreturn, 1) := by decide +kernel
theorem dX6_factors_0 : decode cX6_factors 0 = .ok (.aload_n 0, 1) := by decide +kernel
theorem dX6_factors_1 : decode cX6_factors 1 = .ok (.iload_n 1, 1) := by decide +kernel
theorem dX6_factors_2 : decode cX6_factors 2 = .ok (.invokevirtual 68, 3) := by decide +kernel
theorem dX6_factors_5 : decode cX6_factors 5 = .ok (.ifCond .ne 5, 3) := by decide +kernel
theorem dX6_factors_8 : decode cX6_factors 8 = .ok (.iconst (-1), 1) := by decide +kernel
theorem dX6_factors_9 : decode cX6_factors 9 = .ok (.ireturn, 1) := by decide +kernel
theorem dX6_factors_10 : decode cX6_factors 10 = .ok (.aload_n 0, 1) := by decide +kernel
theorem dX6_factors_11 : decode cX6_factors 11 = .ok (.iload_n 1, 1) := by decide +kernel
theorem dX6_factors_12 : decode cX6_factors 12 = .ok (.invokevirtual 141, 3) := by decide +kernel
theorem dX6_factors_15 : decode cX6_factors 15 = .ok (.aload_n 0, 1) := by decide +kernel
theorem dX6_factors_16 : decode cX6_factors 16 = .ok (.getfield 42, 3) := by decide +kernel
theorem dX6_factors_19 : decode cX6_factors 19 = .ok (.iload_n 1, 1) := by decide +kernel
theorem dX6_factors_20 : decode cX6_factors 20 = .ok (.iaload, 1) := by decide +kernel
theorem dX6_factors_21 : decode cX6_factors 21 = .ok (.ireturn, 1) := by decide +kernel
theorem dX6_factor_0 : decode cX6_factor 0 = .ok (.aload_n 0, 1) := by decide +kernel
theorem dX6_factor_1 : decode cX6_factor 1 = .ok (.iload_n 1, 1) := by decide +kernel
theorem dX6_factor_2 : decode cX6_factor 2 = .ok (.invokevirtual 68, 3) := by decide +kernel
theorem dX6_factor_5 : decode cX6_factor 5 = .ok (.ifCond .eq 12, 3) := by decide +kernel
theorem dX6_factor_8 : decode cX6_factor 8 = .ok (.iload_n 3, 1) := by decide +kernel
theorem dX6_factor_9 : decode cX6_factor 9 = .ok (.ifCond .lt 8, 3) := by decide +kernel
theorem dX6_factor_12 : decode cX6_factor 12 = .ok (.iload_n 3, 1) := by decide +kernel
theorem dX6_factor_13 : decode cX6_factor 13 = .ok (.iconst 1, 1) := by decide +kernel
theorem dX6_factor_14 : decode cX6_factor 14 = .ok (.if_icmp .le 7, 3) := by decide +kernel
theorem dX6_factor_17 : decode cX6_factor 17 = .ok (.ldc2_w 91, 3) := by decide +kernel
theorem dX6_factor_20 : decode cX6_factor 20 = .ok (.lreturn, 1) := by decide +kernel
theorem dX6_factor_21 : decode cX6_factor 21 = .ok (.aload_n 0, 1) := by decide +kernel
theorem dX6_factor_22 : decode cX6_factor 22 = .ok (.iload_n 1, 1) := by decide +kernel
theorem dX6_factor_23 : decode cX6_factor 23 = .ok (.invokevirtual 141, 3) := by decide +kernel
theorem dX6_factor_26 : decode cX6_factor 26 = .ok (.iload_n 2, 1) := by decide +kernel
theorem dX6_factor_27 : decode cX6_factor 27 = .ok (.ifCond .lt 13, 3) := by decide +kernel
theorem dX6_factor_30 : decode cX6_factor 30 = .ok (.iload_n 2, 1) := by decide +kernel
theorem dX6_factor_31 : decode cX6_factor 31 = .ok (.aload_n 0, 1) := by decide +kernel
theorem dX6_factor_32 : decode cX6_factor 32 = .ok (.getfield 42, 3) := by decide +kernel
theorem dX6_factor_35 : decode cX6_factor 35 = .ok (.iload_n 1, 1) := by decide +kernel
theorem dX6_factor_36 : decode cX6_factor 36 = .ok (.iaload, 1) := by decide +kernel
theorem dX6_factor_37 : decode cX6_factor 37 = .ok (.if_icmp .lt 7, 3) := by decide +kernel
theorem dX6_factor_40 : decode cX6_factor 40 = .ok (.ldc2_w 91, 3) := by decide +kernel
theorem dX6_factor_43 : decode cX6_factor 43 = .ok (.lreturn, 1) := by decide +kernel
theorem dX6_factor_44 : decode cX6_factor 44 = .ok (.iload_n 3, 1) := by decide +kernel
theorem dX6_factor_45 : decode cX6_factor 45 = .ok (.ifCond .ne 17, 3) := by decide +kernel
theorem dX6_factor_48 : decode cX6_factor 48 = .ok (.aload_n 0, 1) := by decide +kernel
theorem dX6_factor_49 : decode cX6_factor 49 = .ok (.getfield 36, 3) := by decide +kernel
theorem dX6_factor_52 : decode cX6_factor 52 = .ok (.bipush 33, 2) := by decide +kernel
theorem dX6_factor_54 : decode cX6_factor 54 = .ok (.iload_n 1, 1) := by decide +kernel
theorem dX6_factor_55 : decode cX6_factor 55 = .ok (.imul, 1) := by decide +kernel
theorem dX6_factor_56 : decode cX6_factor 56 = .ok (.iload_n 2, 1) := by decide +kernel
theorem dX6_factor_57 : decode cX6_factor 57 = .ok (.iadd, 1) := by decide +kernel
theorem dX6_factor_58 : decode cX6_factor 58 = .ok (.laload, 1) := by decide +kernel
theorem dX6_factor_59 : decode cX6_factor 59 = .ok (.goto 15, 3) := by decide +kernel
theorem dX6_factor_62 : decode cX6_factor 62 = .ok (.aload_n 0, 1) := by decide +kernel
theorem dX6_factor_63 : decode cX6_factor 63 = .ok (.getfield 39, 3) := by decide +kernel
theorem dX6_factor_66 : decode cX6_factor 66 = .ok (.bipush 33, 2) := by decide +kernel
theorem dX6_factor_68 : decode cX6_factor 68 = .ok (.iload_n 1, 1) := by decide +kernel
theorem dX6_factor_69 : decode cX6_factor 69 = .ok (.imul, 1) := by decide +kernel
theorem dX6_factor_70 : decode cX6_factor 70 = .ok (.iload_n 2, 1) := by decide +kernel
theorem dX6_factor_71 : decode cX6_factor 71 = .ok (.iadd, 1) := by decide +kernel
theorem dX6_factor_72 : decode cX6_factor 72 = .ok (.iaload, 1) := by decide +kernel
theorem dX6_factor_73 : decode cX6_factor 73 = .ok (.i2l, 1) := by decide +kernel
theorem dX6_factor_74 : decode cX6_factor 74 = .ok (.lreturn, 1) := by decide +kernel
theorem dX6_order_0 : decode cX6_order 0 = .ok (.aload_n 0, 1) := by decide +kernel
theorem dX6_order_1 : decode cX6_order 1 = .ok (.iload_n 1, 1) := by decide +kernel
theorem dX6_order_2 : decode cX6_order 2 = .ok (.invokevirtual 68, 3) := by decide +kernel
theorem dX6_order_5 : decode cX6_order 5 = .ok (.ifCond .ne 7, 3) := by decide +kernel
theorem dX6_order_8 : decode cX6_order 8 = .ok (.ldc2_w 91, 3) := by decide +kernel
theorem dX6_order_11 : decode cX6_order 11 = .ok (.lreturn, 1) := by decide +kernel
theorem dX6_order_12 : decode cX6_order 12 = .ok (.aload_n 0, 1) := by decide +kernel
theorem dX6_order_13 : decode cX6_order 13 = .ok (.iload_n 1, 1) := by decide +kernel
theorem dX6_order_14 : decode cX6_order 14 = .ok (.invokevirtual 141, 3) := by decide +kernel
theorem dX6_order_17 : decode cX6_order 17 = .ok (.aload_n 0, 1) := by decide +kernel
theorem dX6_order_18 : decode cX6_order 18 = .ok (.getfield 45, 3) := by decide +kernel
theorem dX6_order_21 : decode cX6_order 21 = .ok (.iload_n 1, 1) := by decide +kernel
theorem dX6_order_22 : decode cX6_order 22 = .ok (.laload, 1) := by decide +kernel
theorem dX6_order_23 : decode cX6_order 23 = .ok (.lreturn, 1) := by decide +kernel
theorem dX6_had_0 : decode cX6_had 0 = .ok (.lload_n 1, 1) := by decide +kernel
theorem dX6_had_1 : decode cX6_had 1 = .ok (.ldc2_w 145, 3) := by decide +kernel
theorem dX6_had_4 : decode cX6_had 4 = .ok (.lmul, 1) := by decide +kernel
theorem dX6_had_5 : decode cX6_had 5 = .ok (.bipush 13, 2) := by decide +kernel
theorem dX6_had_7 : decode cX6_had 7 = .ok (.lshr, 1) := by decide +kernel
theorem dX6_had_8 : decode cX6_had 8 = .ok (.ldc2_w 147, 3) := by decide +kernel
theorem dX6_had_11 : decode cX6_had 11 = .ok (.land, 1) := by decide +kernel
theorem dX6_had_12 : decode cX6_had 12 = .ok (.l2i, 1) := by decide +kernel
theorem dX6_had_13 : decode cX6_had 13 = .ok (.istore 4, 2) := by decide +kernel
theorem dX6_had_15 : decode cX6_had 15 = .ok (.aload_n 0, 1) := by decide +kernel
theorem dX6_had_16 : decode cX6_had 16 = .ok (.getfield 52, 3) := by decide +kernel
theorem dX6_had_19 : decode cX6_had 19 = .ok (.iload 4, 2) := by decide +kernel
theorem dX6_had_21 : decode cX6_had 21 = .ok (.laload, 1) := by decide +kernel
theorem dX6_had_22 : decode cX6_had 22 = .ok (.lconst 0, 1) := by decide +kernel
theorem dX6_had_23 : decode cX6_had 23 = .ok (.lcmp, 1) := by decide +kernel
theorem dX6_had_24 : decode cX6_had 24 = .ok (.ifCond .eq 29, 3) := by decide +kernel
theorem dX6_had_27 : decode cX6_had 27 = .ok (.aload_n 0, 1) := by decide +kernel
theorem dX6_had_28 : decode cX6_had 28 = .ok (.getfield 52, 3) := by decide +kernel
theorem dX6_had_31 : decode cX6_had 31 = .ok (.iload 4, 2) := by decide +kernel
theorem dX6_had_33 : decode cX6_had 33 = .ok (.laload, 1) := by decide +kernel
theorem dX6_had_34 : decode cX6_had 34 = .ok (.lload_n 1, 1) := by decide +kernel
theorem dX6_had_35 : decode cX6_had 35 = .ok (.lconst 1, 1) := by decide +kernel
theorem dX6_had_36 : decode cX6_had 36 = .ok (.ladd, 1) := by decide +kernel
theorem dX6_had_37 : decode cX6_had 37 = .ok (.lcmp, 1) := by decide +kernel
theorem dX6_had_38 : decode cX6_had 38 = .ok (.ifCond .eq 15, 3) := by decide +kernel
theorem dX6_had_41 : decode cX6_had 41 = .ok (.iload 4, 2) := by decide +kernel
theorem dX6_had_43 : decode cX6_had 43 = .ok (.iconst 1, 1) := by decide +kernel
theorem dX6_had_44 : decode cX6_had 44 = .ok (.iadd, 1) := by decide +kernel
theorem dX6_had_45 : decode cX6_had 45 = .ok (.ldc 149, 2) := by decide +kernel
theorem dX6_had_47 : decode cX6_had 47 = .ok (.iand, 1) := by decide +kernel
theorem dX6_had_48 : decode cX6_had 48 = .ok (.istore 4, 2) := by decide +kernel
theorem dX6_had_50 : decode cX6_had 50 = .ok (.goto (-35), 3) := by decide +kernel
theorem dX6_had_53 : decode cX6_had 53 = .ok (.aload_n 0, 1) := by decide +kernel
theorem dX6_had_54 : decode cX6_had 54 = .ok (.getfield 52, 3) := by decide +kernel
theorem dX6_had_57 : decode cX6_had 57 = .ok (.iload 4, 2) := by decide +kernel
theorem dX6_had_59 : decode cX6_had 59 = .ok (.laload, 1) := by decide +kernel
theorem dX6_had_60 : decode cX6_had 60 = .ok (.lconst 0, 1) := by decide +kernel
theorem dX6_had_61 : decode cX6_had 61 = .ok (.lcmp, 1) := by decide +kernel
theorem dX6_had_62 : decode cX6_had 62 = .ok (.ifCond .eq 7, 3) := by decide +kernel
theorem dX6_had_65 : decode cX6_had 65 = .ok (.iconst 1, 1) := by decide +kernel
theorem dX6_had_66 : decode cX6_had 66 = .ok (.goto 4, 3) := by decide +kernel
theorem dX6_had_69 : decode cX6_had 69 = .ok (.iconst 0, 1) := by decide +kernel
theorem dX6_had_70 : decode cX6_had 70 = .ok (.istore 5, 2) := by decide +kernel
theorem dX6_had_72 : decode cX6_had 72 = .ok (.iload_n 3, 1) := by decide +kernel
theorem dX6_had_73 : decode cX6_had 73 = .ok (.ifCond .eq 13, 3) := by decide +kernel
theorem dX6_had_76 : decode cX6_had 76 = .ok (.aload_n 0, 1) := by decide +kernel
theorem dX6_had_77 : decode cX6_had 77 = .ok (.getfield 52, 3) := by decide +kernel
theorem dX6_had_80 : decode cX6_had 80 = .ok (.iload 4, 2) := by decide +kernel
theorem dX6_had_82 : decode cX6_had 82 = .ok (.lload_n 1, 1) := by decide +kernel
theorem dX6_had_83 : decode cX6_had 83 = .ok (.lconst 1, 1) := by decide +kernel
theorem dX6_had_84 : decode cX6_had 84 = .ok (.ladd, 1) := by decide +kernel
theorem dX6_had_85 : decode cX6_had 85 = .ok (.lastore, 1) := by decide +kernel
theorem dX6_had_86 : decode cX6_had 86 = .ok (.iload 5, 2) := by decide +kernel
theorem dX6_had_88 : decode cX6_had 88 = .ok (.ireturn, 1) := by decide +kernel
theorem dX6_clear_0 : decode cX6_clear 0 = .ok (.iconst 0, 1) := by decide +kernel
theorem dX6_clear_1 : decode cX6_clear 1 = .ok (.istore_n 1, 1) := by decide +kernel
theorem dX6_clear_2 : decode cX6_clear 2 = .ok (.iload_n 1, 1) := by decide +kernel
theorem dX6_clear_3 : decode cX6_clear 3 = .ok (.ldc 51, 2) := by decide +kernel
theorem dX6_clear_5 : decode cX6_clear 5 = .ok (.if_icmp .ge 16, 3) := by decide +kernel
theorem dX6_clear_8 : decode cX6_clear 8 = .ok (.aload_n 0, 1) := by decide +kernel
theorem dX6_clear_9 : decode cX6_clear 9 = .ok (.getfield 52, 3) := by decide +kernel
theorem dX6_clear_12 : decode cX6_clear 12 = .ok (.iload_n 1, 1) := by decide +kernel
theorem dX6_clear_13 : decode cX6_clear 13 = .ok (.lconst 0, 1) := by decide +kernel
theorem dX6_clear_14 : decode cX6_clear 14 = .ok (.lastore, 1) := by decide +kernel
theorem dX6_clear_15 : decode cX6_clear 15 = .ok (.iinc 1 1, 3) := by decide +kernel
theorem dX6_clear_18 : decode cX6_clear 18 = .ok (.goto (-16), 3) := by decide +kernel
theorem dX6_clear_21 : decode cX6_clear 21 = .ok (.return_, 1) := by decide +kernel
theorem dX6_distance_0 : decode cX6_distance 0 = .ok (.aload_n 0, 1) := by decide +kernel
theorem dX6_distance_1 : decode cX6_distance 1 = .ok (.iload_n 1, 1) := by decide +kernel
theorem dX6_distance_2 : decode cX6_distance 2 = .ok (.invokevirtual 68, 3) := by decide +kernel
theorem dX6_distance_5 : decode cX6_distance 5 = .ok (.ifCond .eq 15, 3) := by decide +kernel
theorem dX6_distance_8 : decode cX6_distance 8 = .ok (.iload_n 2, 1) := by decide +kernel
theorem dX6_distance_9 : decode cX6_distance 9 = .ok (.iconst 1, 1) := by decide +kernel
theorem dX6_distance_10 : decode cX6_distance 10 = .ok (.if_icmp .lt 10, 3) := by decide +kernel
theorem dX6_distance_13 : decode cX6_distance 13 = .ok (.iload_n 2, 1) := by decide +kernel
theorem dX6_distance_14 : decode cX6_distance 14 = .ok (.sipush 200, 3) := by decide +kernel
theorem dX6_distance_17 : decode cX6_distance 17 = .ok (.if_icmp .le 5, 3) := by decide +kernel
theorem dX6_distance_20 : decode cX6_distance 20 = .ok (.iconst (-1), 1) := by decide +kernel
theorem dX6_distance_21 : decode cX6_distance 21 = .ok (.ireturn, 1) := by decide +kernel
theorem dX6_distance_22 : decode cX6_distance 22 = .ok (.lconst 1, 1) := by decide +kernel
theorem dX6_distance_23 : decode cX6_distance 23 = .ok (.lstore_n 3, 1) := by decide +kernel
theorem dX6_distance_24 : decode cX6_distance 24 = .ok (.aload_n 0, 1) := by decide +kernel
theorem dX6_distance_25 : decode cX6_distance 25 = .ok (.invokevirtual 150, 3) := by decide +kernel
theorem dX6_distance_28 : decode cX6_distance 28 = .ok (.iconst 0, 1) := by decide +kernel
theorem dX6_distance_29 : decode cX6_distance 29 = .ok (.istore 5, 2) := by decide +kernel
theorem dX6_distance_31 : decode cX6_distance 31 = .ok (.iload 5, 2) := by decide +kernel
theorem dX6_distance_33 : decode cX6_distance 33 = .ok (.iload_n 2, 1) := by decide +kernel
theorem dX6_distance_34 : decode cX6_distance 34 = .ok (.if_icmp .ge 41, 3) := by decide +kernel
theorem dX6_distance_37 : decode cX6_distance 37 = .ok (.aload_n 0, 1) := by decide +kernel
theorem dX6_distance_38 : decode cX6_distance 38 = .ok (.getfield 48, 3) := by decide +kernel
theorem dX6_distance_41 : decode cX6_distance 41 = .ok (.iload 5, 2) := by decide +kernel
theorem dX6_distance_43 : decode cX6_distance 43 = .ok (.lload_n 3, 1) := by decide +kernel
theorem dX6_distance_44 : decode cX6_distance 44 = .ok (.lastore, 1) := by decide +kernel
theorem dX6_distance_45 : decode cX6_distance 45 = .ok (.aload_n 0, 1) := by decide +kernel
theorem dX6_distance_46 : decode cX6_distance 46 = .ok (.iload_n 1, 1) := by decide +kernel
theorem dX6_distance_47 : decode cX6_distance 47 = .ok (.lload_n 3, 1) := by decide +kernel
theorem dX6_distance_48 : decode cX6_distance 48 = .ok (.invokevirtual 72, 3) := by decide +kernel
theorem dX6_distance_51 : decode cX6_distance 51 = .ok (.lstore_n 3, 1) := by decide +kernel
theorem dX6_distance_52 : decode cX6_distance 52 = .ok (.aload_n 0, 1) := by decide +kernel
theorem dX6_distance_53 : decode cX6_distance 53 = .ok (.aload_n 0, 1) := by decide +kernel
theorem dX6_distance_54 : decode cX6_distance 54 = .ok (.getfield 48, 3) := by decide +kernel
theorem dX6_distance_57 : decode cX6_distance 57 = .ok (.iload 5, 2) := by decide +kernel
theorem dX6_distance_59 : decode cX6_distance 59 = .ok (.laload, 1) := by decide +kernel
theorem dX6_distance_60 : decode cX6_distance 60 = .ok (.iconst 1, 1) := by decide +kernel
theorem dX6_distance_61 : decode cX6_distance 61 = .ok (.invokevirtual 153, 3) := by decide +kernel
theorem dX6_distance_64 : decode cX6_distance 64 = .ok (.ifCond .eq 5, 3) := by decide +kernel
theorem dX6_distance_67 : decode cX6_distance 67 = .ok (.iconst 2, 1) := by decide +kernel
theorem dX6_distance_68 : decode cX6_distance 68 = .ok (.ireturn, 1) := by decide +kernel
theorem dX6_distance_69 : decode cX6_distance 69 = .ok (.iinc 5 1, 3) := by decide +kernel
theorem dX6_distance_72 : decode cX6_distance 72 = .ok (.goto (-41), 3) := by decide +kernel
theorem dX6_distance_75 : decode cX6_distance 75 = .ok (.iconst 0, 1) := by decide +kernel
theorem dX6_distance_76 : decode cX6_distance 76 = .ok (.istore 5, 2) := by decide +kernel
theorem dX6_distance_78 : decode cX6_distance 78 = .ok (.iload 5, 2) := by decide +kernel
theorem dX6_distance_80 : decode cX6_distance 80 = .ok (.iload_n 2, 1) := by decide +kernel
theorem dX6_distance_81 : decode cX6_distance 81 = .ok (.if_icmp .ge 50, 3) := by decide +kernel
theorem dX6_distance_84 : decode cX6_distance 84 = .ok (.iconst 0, 1) := by decide +kernel
theorem dX6_distance_85 : decode cX6_distance 85 = .ok (.istore 6, 2) := by decide +kernel
theorem dX6_distance_87 : decode cX6_distance 87 = .ok (.iload 6, 2) := by decide +kernel
theorem dX6_distance_89 : decode cX6_distance 89 = .ok (.iload 5, 2) := by decide +kernel
theorem dX6_distance_91 : decode cX6_distance 91 = .ok (.if_icmp .ge 34, 3) := by decide +kernel
theorem dX6_distance_94 : decode cX6_distance 94 = .ok (.aload_n 0, 1) := by decide +kernel
theorem dX6_distance_95 : decode cX6_distance 95 = .ok (.aload_n 0, 1) := by decide +kernel
theorem dX6_distance_96 : decode cX6_distance 96 = .ok (.getfield 48, 3) := by decide +kernel
theorem dX6_distance_99 : decode cX6_distance 99 = .ok (.iload 5, 2) := by decide +kernel
theorem dX6_distance_101 : decode cX6_distance 101 = .ok (.laload, 1) := by decide +kernel
theorem dX6_distance_102 : decode cX6_distance 102 = .ok (.aload_n 0, 1) := by decide +kernel
theorem dX6_distance_103 : decode cX6_distance 103 = .ok (.getfield 48, 3) := by decide +kernel
theorem dX6_distance_106 : decode cX6_distance 106 = .ok (.iload 6, 2) := by decide +kernel
theorem dX6_distance_108 : decode cX6_distance 108 = .ok (.laload, 1) := by decide +kernel
theorem dX6_distance_109 : decode cX6_distance 109 = .ok (.lxor, 1) := by decide +kernel
theorem dX6_distance_110 : decode cX6_distance 110 = .ok (.iconst 0, 1) := by decide +kernel
theorem dX6_distance_111 : decode cX6_distance 111 = .ok (.invokevirtual 153, 3) := by decide +kernel
theorem dX6_distance_114 : decode cX6_distance 114 = .ok (.ifCond .eq 5, 3) := by decide +kernel
theorem dX6_distance_117 : decode cX6_distance 117 = .ok (.iconst 3, 1) := by decide +kernel
theorem dX6_distance_118 : decode cX6_distance 118 = .ok (.ireturn, 1) := by decide +kernel
theorem dX6_distance_119 : decode cX6_distance 119 = .ok (.iinc 6 1, 3) := by decide +kernel
theorem dX6_distance_122 : decode cX6_distance 122 = .ok (.goto (-35), 3) := by decide +kernel
theorem dX6_distance_125 : decode cX6_distance 125 = .ok (.iinc 5 1, 3) := by decide +kernel
theorem dX6_distance_128 : decode cX6_distance 128 = .ok (.goto (-50), 3) := by decide +kernel
theorem dX6_distance_131 : decode cX6_distance 131 = .ok (.aload_n 0, 1) := by decide +kernel
theorem dX6_distance_132 : decode cX6_distance 132 = .ok (.invokevirtual 150, 3) := by decide +kernel
theorem dX6_distance_135 : decode cX6_distance 135 = .ok (.iconst 0, 1) := by decide +kernel
theorem dX6_distance_136 : decode cX6_distance 136 = .ok (.istore 5, 2) := by decide +kernel
theorem dX6_distance_138 : decode cX6_distance 138 = .ok (.iload 5, 2) := by decide +kernel
theorem dX6_distance_140 : decode cX6_distance 140 = .ok (.iload_n 2, 1) := by decide +kernel
theorem dX6_distance_141 : decode cX6_distance 141 = .ok (.if_icmp .ge 50, 3) := by decide +kernel
theorem dX6_distance_144 : decode cX6_distance 144 = .ok (.iconst 0, 1) := by decide +kernel
theorem dX6_distance_145 : decode cX6_distance 145 = .ok (.istore 6, 2) := by decide +kernel
theorem dX6_distance_147 : decode cX6_distance 147 = .ok (.iload 6, 2) := by decide +kernel
theorem dX6_distance_149 : decode cX6_distance 149 = .ok (.iload 5, 2) := by decide +kernel
theorem dX6_distance_151 : decode cX6_distance 151 = .ok (.if_icmp .ge 34, 3) := by decide +kernel
theorem dX6_distance_154 : decode cX6_distance 154 = .ok (.aload_n 0, 1) := by decide +kernel
theorem dX6_distance_155 : decode cX6_distance 155 = .ok (.aload_n 0, 1) := by decide +kernel
theorem dX6_distance_156 : decode cX6_distance 156 = .ok (.getfield 48, 3) := by decide +kernel
theorem dX6_distance_159 : decode cX6_distance 159 = .ok (.iload 5, 2) := by decide +kernel
theorem dX6_distance_161 : decode cX6_distance 161 = .ok (.laload, 1) := by decide +kernel
theorem dX6_distance_162 : decode cX6_distance 162 = .ok (.aload_n 0, 1) := by decide +kernel
theorem dX6_distance_163 : decode cX6_distance 163 = .ok (.getfield 48, 3) := by decide +kernel
theorem dX6_distance_166 : decode cX6_distance 166 = .ok (.iload 6, 2) := by decide +kernel
theorem dX6_distance_168 : decode cX6_distance 168 = .ok (.laload, 1) := by decide +kernel
theorem dX6_distance_169 : decode cX6_distance 169 = .ok (.lxor, 1) := by decide +kernel
theorem dX6_distance_170 : decode cX6_distance 170 = .ok (.iconst 1, 1) := by decide +kernel
theorem dX6_distance_171 : decode cX6_distance 171 = .ok (.invokevirtual 153, 3) := by decide +kernel
theorem dX6_distance_174 : decode cX6_distance 174 = .ok (.ifCond .eq 5, 3) := by decide +kernel
theorem dX6_distance_177 : decode cX6_distance 177 = .ok (.iconst 4, 1) := by decide +kernel
theorem dX6_distance_178 : decode cX6_distance 178 = .ok (.ireturn, 1) := by decide +kernel
theorem dX6_distance_179 : decode cX6_distance 179 = .ok (.iinc 6 1, 3) := by decide +kernel
theorem dX6_distance_182 : decode cX6_distance 182 = .ok (.goto (-35), 3) := by decide +kernel
theorem dX6_distance_185 : decode cX6_distance 185 = .ok (.iinc 5 1, 3) := by decide +kernel
theorem dX6_distance_188 : decode cX6_distance 188 = .ok (.goto (-50), 3) := by decide +kernel
theorem dX6_distance_191 : decode cX6_distance 191 = .ok (.iconst 5, 1) := by decide +kernel
theorem dX6_distance_192 : decode cX6_distance 192 = .ok (.ireturn, 1) := by decide +kernel
theorem dX6_added_0 : decode cX6_added 0 = .ok (.iload_n 1, 1) := by decide +kernel
theorem dX6_added_1 : decode cX6_added 1 = .ok (.ifCond .lt 17, 3) := by decide +kernel
theorem dX6_added_4 : decode cX6_added 4 = .ok (.iload_n 1, 1) := by decide +kernel
theorem dX6_added_5 : decode cX6_added 5 = .ok (.iconst 1, 1) := by decide +kernel
theorem dX6_added_6 : decode cX6_added 6 = .ok (.if_icmp .gt 12, 3) := by decide +kernel
theorem dX6_added_9 : decode cX6_added 9 = .ok (.aload_n 0, 1) := by decide +kernel
theorem dX6_added_10 : decode cX6_added 10 = .ok (.iload_n 2, 1) := by decide +kernel
theorem dX6_added_11 : decode cX6_added 11 = .ok (.iload_n 3, 1) := by decide +kernel
theorem dX6_added_12 : decode cX6_added 12 = .ok (.invokevirtual 87, 3) := by decide +kernel
theorem dX6_added_15 : decode cX6_added 15 = .ok (.ifCond .ne 7, 3) := by decide +kernel
theorem dX6_added_18 : decode cX6_added 18 = .ok (.ldc2_w 91, 3) := by decide +kernel
theorem dX6_added_21 : decode cX6_added 21 = .ok (.lreturn, 1) := by decide +kernel
theorem dX6_added_22 : decode cX6_added 22 = .ok (.iload_n 1, 1) := by decide +kernel
theorem dX6_added_23 : decode cX6_added 23 = .ok (.ifCond .ne 9, 3) := by decide +kernel
theorem dX6_added_26 : decode cX6_added 26 = .ok (.ldc2_w 157, 3) := by decide +kernel
theorem dX6_added_29 : decode cX6_added 29 = .ok (.goto 6, 3) := by decide +kernel
theorem dX6_added_32 : decode cX6_added 32 = .ok (.ldc2_w 66, 3) := by decide +kernel
theorem dX6_added_35 : decode cX6_added 35 = .ok (.lstore 4, 2) := by decide +kernel
theorem dX6_added_37 : decode cX6_added 37 = .ok (.lconst 1, 1) := by decide +kernel
theorem dX6_added_38 : decode cX6_added 38 = .ok (.iload_n 1, 1) := by decide +kernel
theorem dX6_added_39 : decode cX6_added 39 = .ok (.i2l, 1) := by decide +kernel
theorem dX6_added_40 : decode cX6_added 40 = .ok (.lsub, 1) := by decide +kernel
theorem dX6_added_41 : decode cX6_added 41 = .ok (.lstore 6, 2) := by decide +kernel
theorem dX6_added_43 : decode cX6_added 43 = .ok (.lconst 0, 1) := by decide +kernel
theorem dX6_added_44 : decode cX6_added 44 = .ok (.lstore 8, 2) := by decide +kernel
theorem dX6_added_46 : decode cX6_added 46 = .ok (.iload_n 2, 1) := by decide +kernel
theorem dX6_added_47 : decode cX6_added 47 = .ok (.istore 10, 2) := by decide +kernel
theorem dX6_added_49 : decode cX6_added 49 = .ok (.iload 10, 2) := by decide +kernel
theorem dX6_added_51 : decode cX6_added 51 = .ok (.iload_n 3, 1) := by decide +kernel
theorem dX6_added_52 : decode cX6_added 52 = .ok (.if_icmp .ge 35, 3) := by decide +kernel
theorem dX6_added_55 : decode cX6_added 55 = .ok (.lload 6, 2) := by decide +kernel
theorem dX6_added_57 : decode cX6_added 57 = .ok (.aload_n 0, 1) := by decide +kernel
theorem dX6_added_58 : decode cX6_added 58 = .ok (.getfield 30, 3) := by decide +kernel
theorem dX6_added_61 : decode cX6_added 61 = .ok (.iload 10, 2) := by decide +kernel
theorem dX6_added_63 : decode cX6_added 63 = .ok (.iaload, 1) := by decide +kernel
theorem dX6_added_64 : decode cX6_added 64 = .ok (.i2l, 1) := by decide +kernel
theorem dX6_added_65 : decode cX6_added 65 = .ok (.ladd, 1) := by decide +kernel
theorem dX6_added_66 : decode cX6_added 66 = .ok (.lload 4, 2) := by decide +kernel
theorem dX6_added_68 : decode cX6_added 68 = .ok (.lrem, 1) := by decide +kernel
theorem dX6_added_69 : decode cX6_added 69 = .ok (.lstore 6, 2) := by decide +kernel
theorem dX6_added_71 : decode cX6_added 71 = .ok (.lload 8, 2) := by decide +kernel
theorem dX6_added_73 : decode cX6_added 73 = .ok (.lload 6, 2) := by decide +kernel
theorem dX6_added_75 : decode cX6_added 75 = .ok (.ladd, 1) := by decide +kernel
theorem dX6_added_76 : decode cX6_added 76 = .ok (.lload 4, 2) := by decide +kernel
theorem dX6_added_78 : decode cX6_added 78 = .ok (.lrem, 1) := by decide +kernel
theorem dX6_added_79 : decode cX6_added 79 = .ok (.lstore 8, 2) := by decide +kernel
theorem dX6_added_81 : decode cX6_added 81 = .ok (.iinc 10 1, 3) := by decide +kernel
theorem dX6_added_84 : decode cX6_added 84 = .ok (.goto (-35), 3) := by decide +kernel
theorem dX6_added_87 : decode cX6_added 87 = .ok (.lload 8, 2) := by decide +kernel
theorem dX6_added_89 : decode cX6_added 89 = .ok (.iload_n 1, 1) := by decide +kernel
theorem dX6_added_90 : decode cX6_added 90 = .ok (.ifCond .ne 9, 3) := by decide +kernel
theorem dX6_added_93 : decode cX6_added 93 = .ok (.ldc2_w 159, 3) := by decide +kernel
theorem dX6_added_96 : decode cX6_added 96 = .ok (.goto 6, 3) := by decide +kernel
theorem dX6_added_99 : decode cX6_added 99 = .ok (.ldc2_w 161, 3) := by decide +kernel
theorem dX6_added_102 : decode cX6_added 102 = .ok (.lmul, 1) := by decide +kernel
theorem dX6_added_103 : decode cX6_added 103 = .ok (.lload 6, 2) := by decide +kernel
theorem dX6_added_105 : decode cX6_added 105 = .ok (.ladd, 1) := by decide +kernel
theorem dX6_added_106 : decode cX6_added 106 = .ok (.lreturn, 1) := by decide +kernel
theorem dX6_isAdded_0 : decode cX6_isAdded 0 = .ok (.iload_n 0, 1) := by decide +kernel
theorem dX6_isAdded_1 : decode cX6_isAdded 1 = .ok (.ifCond .ne 9, 3) := by decide +kernel
theorem dX6_isAdded_4 : decode cX6_isAdded 4 = .ok (.ldc2_w 159, 3) := by decide +kernel
theorem dX6_isAdded_7 : decode cX6_isAdded 7 = .ok (.goto 6, 3) := by decide +kernel
theorem dX6_isAdded_10 : decode cX6_isAdded 10 = .ok (.ldc2_w 161, 3) := by decide +kernel
theorem dX6_isAdded_13 : decode cX6_isAdded 13 = .ok (.lstore_n 3, 1) := by decide +kernel
theorem dX6_isAdded_14 : decode cX6_isAdded 14 = .ok (.iload_n 0, 1) := by decide +kernel
theorem dX6_isAdded_15 : decode cX6_isAdded 15 = .ok (.ifCond .ne 9, 3) := by decide +kernel
theorem dX6_isAdded_18 : decode cX6_isAdded 18 = .ok (.ldc2_w 157, 3) := by decide +kernel
theorem dX6_isAdded_21 : decode cX6_isAdded 21 = .ok (.goto 6, 3) := by decide +kernel
theorem dX6_isAdded_24 : decode cX6_isAdded 24 = .ok (.ldc2_w 66, 3) := by decide +kernel
theorem dX6_isAdded_27 : decode cX6_isAdded 27 = .ok (.lstore 5, 2) := by decide +kernel
theorem dX6_isAdded_29 : decode cX6_isAdded 29 = .ok (.lload_n 1, 1) := by decide +kernel
theorem dX6_isAdded_30 : decode cX6_isAdded 30 = .ok (.lconst 0, 1) := by decide +kernel
theorem dX6_isAdded_31 : decode cX6_isAdded 31 = .ok (.lcmp, 1) := by decide +kernel
theorem dX6_isAdded_32 : decode cX6_isAdded 32 = .ok (.ifCond .lt 25, 3) := by decide +kernel
theorem dX6_isAdded_35 : decode cX6_isAdded 35 = .ok (.lload_n 1, 1) := by decide +kernel
theorem dX6_isAdded_36 : decode cX6_isAdded 36 = .ok (.lload_n 3, 1) := by decide +kernel
theorem dX6_isAdded_37 : decode cX6_isAdded 37 = .ok (.lrem, 1) := by decide +kernel
theorem dX6_isAdded_38 : decode cX6_isAdded 38 = .ok (.lload 5, 2) := by decide +kernel
theorem dX6_isAdded_40 : decode cX6_isAdded 40 = .ok (.lcmp, 1) := by decide +kernel
theorem dX6_isAdded_41 : decode cX6_isAdded 41 = .ok (.ifCond .ge 16, 3) := by decide +kernel
theorem dX6_isAdded_44 : decode cX6_isAdded 44 = .ok (.lload_n 1, 1) := by decide +kernel
theorem dX6_isAdded_45 : decode cX6_isAdded 45 = .ok (.lload_n 3, 1) := by decide +kernel
theorem dX6_isAdded_46 : decode cX6_isAdded 46 = .ok (.ldiv, 1) := by decide +kernel
theorem dX6_isAdded_47 : decode cX6_isAdded 47 = .ok (.lload 5, 2) := by decide +kernel
theorem dX6_isAdded_49 : decode cX6_isAdded 49 = .ok (.lcmp, 1) := by decide +kernel
theorem dX6_isAdded_50 : decode cX6_isAdded 50 = .ok (.ifCond .ge 7, 3) := by decide +kernel
theorem dX6_isAdded_53 : decode cX6_isAdded 53 = .ok (.iconst 1, 1) := by decide +kernel
theorem dX6_isAdded_54 : decode cX6_isAdded 54 = .ok (.goto 4, 3) := by decide +kernel
theorem dX6_isAdded_57 : decode cX6_isAdded 57 = .ok (.iconst 0, 1) := by decide +kernel
theorem dX6_isAdded_58 : decode cX6_isAdded 58 = .ok (.ireturn, 1) := by decide +kernel
theorem dX6_addedJoined_0 : decode cX6_addedJoined 0 = .ok (.iload_n 1, 1) := by decide +kernel
theorem dX6_addedJoined_1 : decode cX6_addedJoined 1 = .ok (.ifCond .lt 33, 3) := by decide +kernel
theorem dX6_addedJoined_4 : decode cX6_addedJoined 4 = .ok (.iload_n 1, 1) := by decide +kernel
theorem dX6_addedJoined_5 : decode cX6_addedJoined 5 = .ok (.iconst 1, 1) := by decide +kernel
theorem dX6_addedJoined_6 : decode cX6_addedJoined 6 = .ok (.if_icmp .gt 28, 3) := by decide +kernel
theorem dX6_addedJoined_9 : decode cX6_addedJoined 9 = .ok (.iload_n 1, 1) := by decide +kernel
theorem dX6_addedJoined_10 : decode cX6_addedJoined 10 = .ok (.lload_n 2, 1) := by decide +kernel
theorem dX6_addedJoined_11 : decode cX6_addedJoined 11 = .ok (.invokestatic 163, 3) := by decide +kernel
theorem dX6_addedJoined_14 : decode cX6_addedJoined 14 = .ok (.ifCond .eq 20, 3) := by decide +kernel
theorem dX6_addedJoined_17 : decode cX6_addedJoined 17 = .ok (.iload_n 1, 1) := by decide +kernel
theorem dX6_addedJoined_18 : decode cX6_addedJoined 18 = .ok (.lload 4, 2) := by decide +kernel
theorem dX6_addedJoined_20 : decode cX6_addedJoined 20 = .ok (.invokestatic 163, 3) := by decide +kernel
theorem dX6_addedJoined_23 : decode cX6_addedJoined 23 = .ok (.ifCond .eq 11, 3) := by decide +kernel
theorem dX6_addedJoined_26 : decode cX6_addedJoined 26 = .ok (.lload 6, 2) := by decide +kernel
theorem dX6_addedJoined_28 : decode cX6_addedJoined 28 = .ok (.invokestatic 105, 3) := by decide +kernel
theorem dX6_addedJoined_31 : decode cX6_addedJoined 31 = .ok (.ifCond .ne 7, 3) := by decide +kernel
theorem dX6_addedJoined_34 : decode cX6_addedJoined 34 = .ok (.ldc2_w 91, 3) := by decide +kernel
theorem dX6_addedJoined_37 : decode cX6_addedJoined 37 = .ok (.lreturn, 1) := by decide +kernel
theorem dX6_addedJoined_38 : decode cX6_addedJoined 38 = .ok (.iload_n 1, 1) := by decide +kernel
theorem dX6_addedJoined_39 : decode cX6_addedJoined 39 = .ok (.ifCond .ne 9, 3) := by decide +kernel
theorem dX6_addedJoined_42 : decode cX6_addedJoined 42 = .ok (.ldc2_w 159, 3) := by decide +kernel
theorem dX6_addedJoined_45 : decode cX6_addedJoined 45 = .ok (.goto 6, 3) := by decide +kernel
theorem dX6_addedJoined_48 : decode cX6_addedJoined 48 = .ok (.ldc2_w 161, 3) := by decide +kernel
theorem dX6_addedJoined_51 : decode cX6_addedJoined 51 = .ok (.lstore 8, 2) := by decide +kernel
theorem dX6_addedJoined_53 : decode cX6_addedJoined 53 = .ok (.iload_n 1, 1) := by decide +kernel
theorem dX6_addedJoined_54 : decode cX6_addedJoined 54 = .ok (.ifCond .ne 9, 3) := by decide +kernel
theorem dX6_addedJoined_57 : decode cX6_addedJoined 57 = .ok (.ldc2_w 157, 3) := by decide +kernel
theorem dX6_addedJoined_60 : decode cX6_addedJoined 60 = .ok (.goto 6, 3) := by decide +kernel
theorem dX6_addedJoined_63 : decode cX6_addedJoined 63 = .ok (.ldc2_w 66, 3) := by decide +kernel
theorem dX6_addedJoined_66 : decode cX6_addedJoined 66 = .ok (.lstore 10, 2) := by decide +kernel
theorem dX6_addedJoined_68 : decode cX6_addedJoined 68 = .ok (.lconst 1, 1) := by decide +kernel
theorem dX6_addedJoined_69 : decode cX6_addedJoined 69 = .ok (.iload_n 1, 1) := by decide +kernel
theorem dX6_addedJoined_70 : decode cX6_addedJoined 70 = .ok (.i2l, 1) := by decide +kernel
theorem dX6_addedJoined_71 : decode cX6_addedJoined 71 = .ok (.lsub, 1) := by decide +kernel
theorem dX6_addedJoined_72 : decode cX6_addedJoined 72 = .ok (.lstore 12, 2) := by decide +kernel
theorem dX6_addedJoined_74 : decode cX6_addedJoined 74 = .ok (.lload_n 2, 1) := by decide +kernel
theorem dX6_addedJoined_75 : decode cX6_addedJoined 75 = .ok (.lload 8, 2) := by decide +kernel
theorem dX6_addedJoined_77 : decode cX6_addedJoined 77 = .ok (.lrem, 1) := by decide +kernel
theorem dX6_addedJoined_78 : decode cX6_addedJoined 78 = .ok (.lload 4, 2) := by decide +kernel
theorem dX6_addedJoined_80 : decode cX6_addedJoined 80 = .ok (.lload 8, 2) := by decide +kernel
theorem dX6_addedJoined_82 : decode cX6_addedJoined 82 = .ok (.lrem, 1) := by decide +kernel
theorem dX6_addedJoined_83 : decode cX6_addedJoined 83 = .ok (.ladd, 1) := by decide +kernel
theorem dX6_addedJoined_84 : decode cX6_addedJoined 84 = .ok (.lload 12, 2) := by decide +kernel
theorem dX6_addedJoined_86 : decode cX6_addedJoined 86 = .ok (.lsub, 1) := by decide +kernel
theorem dX6_addedJoined_87 : decode cX6_addedJoined 87 = .ok (.lload 10, 2) := by decide +kernel
theorem dX6_addedJoined_89 : decode cX6_addedJoined 89 = .ok (.ladd, 1) := by decide +kernel
theorem dX6_addedJoined_90 : decode cX6_addedJoined 90 = .ok (.lload 10, 2) := by decide +kernel
theorem dX6_addedJoined_92 : decode cX6_addedJoined 92 = .ok (.lrem, 1) := by decide +kernel
theorem dX6_addedJoined_93 : decode cX6_addedJoined 93 = .ok (.lstore 14, 2) := by decide +kernel
theorem dX6_addedJoined_95 : decode cX6_addedJoined 95 = .ok (.lload 6, 2) := by decide +kernel
theorem dX6_addedJoined_97 : decode cX6_addedJoined 97 = .ok (.lload 10, 2) := by decide +kernel
theorem dX6_addedJoined_99 : decode cX6_addedJoined 99 = .ok (.lrem, 1) := by decide +kernel
theorem dX6_addedJoined_100 : decode cX6_addedJoined 100 = .ok (.lload_n 2, 1) := by decide +kernel
theorem dX6_addedJoined_101 : decode cX6_addedJoined 101 = .ok (.lload 8, 2) := by decide +kernel
theorem dX6_addedJoined_103 : decode cX6_addedJoined 103 = .ok (.lrem, 1) := by decide +kernel
theorem dX6_addedJoined_104 : decode cX6_addedJoined 104 = .ok (.lload 12, 2) := by decide +kernel
theorem dX6_addedJoined_106 : decode cX6_addedJoined 106 = .ok (.lsub, 1) := by decide +kernel
theorem dX6_addedJoined_107 : decode cX6_addedJoined 107 = .ok (.lload 10, 2) := by decide +kernel
theorem dX6_addedJoined_109 : decode cX6_addedJoined 109 = .ok (.ladd, 1) := by decide +kernel
theorem dX6_addedJoined_110 : decode cX6_addedJoined 110 = .ok (.lload 10, 2) := by decide +kernel
theorem dX6_addedJoined_112 : decode cX6_addedJoined 112 = .ok (.lrem, 1) := by decide +kernel
theorem dX6_addedJoined_113 : decode cX6_addedJoined 113 = .ok (.lmul, 1) := by decide +kernel
theorem dX6_addedJoined_114 : decode cX6_addedJoined 114 = .ok (.lload 10, 2) := by decide +kernel
theorem dX6_addedJoined_116 : decode cX6_addedJoined 116 = .ok (.lrem, 1) := by decide +kernel
theorem dX6_addedJoined_117 : decode cX6_addedJoined 117 = .ok (.lstore 16, 2) := by decide +kernel
theorem dX6_addedJoined_119 : decode cX6_addedJoined 119 = .ok (.lload_n 2, 1) := by decide +kernel
theorem dX6_addedJoined_120 : decode cX6_addedJoined 120 = .ok (.lload 8, 2) := by decide +kernel
theorem dX6_addedJoined_122 : decode cX6_addedJoined 122 = .ok (.ldiv, 1) := by decide +kernel
theorem dX6_addedJoined_123 : decode cX6_addedJoined 123 = .ok (.lload 4, 2) := by decide +kernel
theorem dX6_addedJoined_125 : decode cX6_addedJoined 125 = .ok (.lload 8, 2) := by decide +kernel
theorem dX6_addedJoined_127 : decode cX6_addedJoined 127 = .ok (.ldiv, 1) := by decide +kernel
theorem dX6_addedJoined_128 : decode cX6_addedJoined 128 = .ok (.ladd, 1) := by decide +kernel
theorem dX6_addedJoined_129 : decode cX6_addedJoined 129 = .ok (.lload 16, 2) := by decide +kernel
theorem dX6_addedJoined_131 : decode cX6_addedJoined 131 = .ok (.ladd, 1) := by decide +kernel
theorem dX6_addedJoined_132 : decode cX6_addedJoined 132 = .ok (.lload 10, 2) := by decide +kernel
theorem dX6_addedJoined_134 : decode cX6_addedJoined 134 = .ok (.lrem, 1) := by decide +kernel
theorem dX6_addedJoined_135 : decode cX6_addedJoined 135 = .ok (.lstore 18, 2) := by decide +kernel
theorem dX6_addedJoined_137 : decode cX6_addedJoined 137 = .ok (.lload 18, 2) := by decide +kernel
theorem dX6_addedJoined_139 : decode cX6_addedJoined 139 = .ok (.lload 8, 2) := by decide +kernel
theorem dX6_addedJoined_141 : decode cX6_addedJoined 141 = .ok (.lmul, 1) := by decide +kernel
theorem dX6_addedJoined_142 : decode cX6_addedJoined 142 = .ok (.lload 14, 2) := by decide +kernel
theorem dX6_addedJoined_144 : decode cX6_addedJoined 144 = .ok (.ladd, 1) := by decide +kernel
theorem dX6_addedJoined_145 : decode cX6_addedJoined 145 = .ok (.lreturn, 1) := by decide +kernel
end
section
/-! my own base: pure helpers of the walks, the nest's words, contracts' shapes -/
theorem bind_some {α β : Type} {x : Option α} {g : α → Option β} {r : β} (h : x.bind g = some r) : ∃ a, x = some a ∧ g a = some r := by
  cases x with
  | none => cases h
  | some a => exact ⟨a, rfl, h⟩
theorem ite_t {α : Type} {c : Prop} [Decidable c] {a b : Option α} {r : α} (h : (if c then a else b) = some r) (hc : c) : a = some r := by rw [if_pos hc] at h; exact h
theorem ite_f {α : Type} {c : Prop} [Decidable c] {a b : Option α} {r : α} (h : (if c then a else b) = some r) (hc : ¬ c) : b = some r := by rw [if_neg hc] at h; exact h
theorem ite_n {α : Type} {c : Prop} [Decidable c] {b : Option α} {r : α} (h : (if c then none else b) = some r) : ¬ c ∧ b = some r := by
  by_cases hc : c
  · rw [if_pos hc] at h; cases h
  · rw [if_neg hc] at h; exact ⟨hc, h⟩
abbrev OOB (i : Int32) (n : Nat) : Prop := i < 0 ∨ n ≤ i.toNatClampNeg
def iRem (x y : Int32) : Int32 := x - x / y * y
def lRem (x y : Int64) : Int64 := x - x / y * y
def iShl (x y : Int32) : Int32 := x <<< (y &&& 31)
def iShr (x y : Int32) : Int32 := x >>> (y &&& 31)
def lShl (x : Int64) (y : Int32) : Int64 := x <<< (y.toInt64 &&& 63)
def lShr (x : Int64) (y : Int32) : Int64 := x >>> (y.toInt64 &&& 63)
def lUsh (x : Int64) (y : Int32) : Int64 := (x.toUInt64 >>> (y.toInt64.toUInt64 &&& Int64.toUInt64 63)).toInt64
def kPR : Nat → Int32 := fun k => ([3, 5, 7, 11, 13, 17, 19, 23, 29, 31, 41, 43, 47, 73, 89, 113, 127, 151, 233, 241, 257, 331, 337, 601, 683, 1103, 1801, 2089, 2731, 8191, 65537, 131071, 178481, 262657, 524287, 2147483647] : List Int32).getD k 0
def kAM : Nat → Int32 := fun k => ([65521, 255] : List Int32).getD k 0
def kAH : Nat → Int32 := fun k => ([16, 8] : List Int32).getD k 0
def kAF : Nat → Int32 := fun k => ([1, 0] : List Int32).getD k 0

def nestM : List (String × Nat × MethodName) := [(RX5, 28, yX3_init), (RX5, 33, yX1_init), (RX1, 11, yX0_init), (RX1, 20, yX4_init), (RX5, 38, yX1_become), (RX5, 56, yX1_behindOctet), (RX1, 50, yX2_timesX), (RX5, 60, yX1_sumOf), (RX5, 72, yX1_registerOf), (RX5, 75, yX1_movedByOctets), (RX1, 56, yX2_product), (RX5, 82, yX1_octetsBetween), (RX5, 92, yX0_findFor), (RX0, 34, yX2_degree), (RX0, 38, yX2_product), (RX0, 42, yX2_greatestCommon), (RX0, 65, yX2_timesX), (RX0, 69, yX2_trace), (RX0, 62, yX2_remainder), (RX0, 77, yX2_quotient), (RX5, 108, yX0_foundPeriod), (RX0, 93, yX2_powerOfX), (RX5, 116, yX4_findFor), (RX4, 25, yX2_degree), (RX4, 31, yX3_clear), (RX4, 36, yX3_add), (RX4, 40, yX2_timesX), (RX4, 48, yX3_has), (RX4, 52, yX3_hasTwo), (RX5, 121, yX4_fewest)]
def nestF : List (String × Nat × String × String × String) := [(RX5, 101, "SumForms$Factors", "polynomials", "[J"), (RX5, 105, "SumForms$Factors", "times", "[I"), (RX5, 98, "SumForms$Factors", "size", "I"), (RX5, 79, "SumForms$Form", "width", "I"), (RX5, 89, "SumForms$Form", "generator", "J"), (RX5, 52, "SumForms$Form", "start", "J"), (RX5, 85, "SumForms$Form", "factoring", "LSumForms$Factors;"), (RX5, 112, "SumForms$Form", "unseen", "LSumForms$Unseen;")]
def NW (U : State) : Prop := (∀ q ∈ nestM, va_Nw (.methodLinkNest q.1 q.2.1 q.2.2 "SumForms") U) ∧ (∀ q ∈ nestF, va_Nw (.fieldLinkNest q.1 q.2.1 q.2.2.1 q.2.2.2.1 q.2.2.2.2 "SumForms") U)
theorem NW.warm {s U : State} (hW : s.WarmedH U.vm) (h : NW s) : NW U := ⟨fun q hq => va_Nw.warmM hW (h.1 q hq), fun q hq => va_Nw.warmF hW (h.2 q hq)⟩
theorem NW.same {s U : State} (hv : s.vm = U.vm) (h : NW s) : NW U := ⟨fun q hq => va_Nw.same rfl hv (h.1 q hq), fun q hq => va_Nw.same rfl hv (h.2 q hq)⟩
theorem nwX5_28 {U : State} (h : NW U) : va_Nw (.methodLinkNest RX5 28 yX3_init "SumForms") U := h.1 (RX5, 28, yX3_init) (List.mem_of_getElem? (i := 0) rfl)
theorem nwX5_33 {U : State} (h : NW U) : va_Nw (.methodLinkNest RX5 33 yX1_init "SumForms") U := h.1 (RX5, 33, yX1_init) (List.mem_of_getElem? (i := 1) rfl)
theorem nwX1_11 {U : State} (h : NW U) : va_Nw (.methodLinkNest RX1 11 yX0_init "SumForms") U := h.1 (RX1, 11, yX0_init) (List.mem_of_getElem? (i := 2) rfl)
theorem nwX1_20 {U : State} (h : NW U) : va_Nw (.methodLinkNest RX1 20 yX4_init "SumForms") U := h.1 (RX1, 20, yX4_init) (List.mem_of_getElem? (i := 3) rfl)
theorem nwX5_38 {U : State} (h : NW U) : va_Nw (.methodLinkNest RX5 38 yX1_become "SumForms") U := h.1 (RX5, 38, yX1_become) (List.mem_of_getElem? (i := 4) rfl)
theorem nwX5_56 {U : State} (h : NW U) : va_Nw (.methodLinkNest RX5 56 yX1_behindOctet "SumForms") U := h.1 (RX5, 56, yX1_behindOctet) (List.mem_of_getElem? (i := 5) rfl)
theorem nwX1_50 {U : State} (h : NW U) : va_Nw (.methodLinkNest RX1 50 yX2_timesX "SumForms") U := h.1 (RX1, 50, yX2_timesX) (List.mem_of_getElem? (i := 6) rfl)
theorem nwX5_60 {U : State} (h : NW U) : va_Nw (.methodLinkNest RX5 60 yX1_sumOf "SumForms") U := h.1 (RX5, 60, yX1_sumOf) (List.mem_of_getElem? (i := 7) rfl)
theorem nwX5_72 {U : State} (h : NW U) : va_Nw (.methodLinkNest RX5 72 yX1_registerOf "SumForms") U := h.1 (RX5, 72, yX1_registerOf) (List.mem_of_getElem? (i := 8) rfl)
theorem nwX5_75 {U : State} (h : NW U) : va_Nw (.methodLinkNest RX5 75 yX1_movedByOctets "SumForms") U := h.1 (RX5, 75, yX1_movedByOctets) (List.mem_of_getElem? (i := 9) rfl)
theorem nwX1_56 {U : State} (h : NW U) : va_Nw (.methodLinkNest RX1 56 yX2_product "SumForms") U := h.1 (RX1, 56, yX2_product) (List.mem_of_getElem? (i := 10) rfl)
theorem nwX5_82 {U : State} (h : NW U) : va_Nw (.methodLinkNest RX5 82 yX1_octetsBetween "SumForms") U := h.1 (RX5, 82, yX1_octetsBetween) (List.mem_of_getElem? (i := 11) rfl)
theorem nwX5_92 {U : State} (h : NW U) : va_Nw (.methodLinkNest RX5 92 yX0_findFor "SumForms") U := h.1 (RX5, 92, yX0_findFor) (List.mem_of_getElem? (i := 12) rfl)
theorem nwX0_34 {U : State} (h : NW U) : va_Nw (.methodLinkNest RX0 34 yX2_degree "SumForms") U := h.1 (RX0, 34, yX2_degree) (List.mem_of_getElem? (i := 13) rfl)
theorem nwX0_38 {U : State} (h : NW U) : va_Nw (.methodLinkNest RX0 38 yX2_product "SumForms") U := h.1 (RX0, 38, yX2_product) (List.mem_of_getElem? (i := 14) rfl)
theorem nwX0_42 {U : State} (h : NW U) : va_Nw (.methodLinkNest RX0 42 yX2_greatestCommon "SumForms") U := h.1 (RX0, 42, yX2_greatestCommon) (List.mem_of_getElem? (i := 15) rfl)
theorem nwX0_65 {U : State} (h : NW U) : va_Nw (.methodLinkNest RX0 65 yX2_timesX "SumForms") U := h.1 (RX0, 65, yX2_timesX) (List.mem_of_getElem? (i := 16) rfl)
theorem nwX0_69 {U : State} (h : NW U) : va_Nw (.methodLinkNest RX0 69 yX2_trace "SumForms") U := h.1 (RX0, 69, yX2_trace) (List.mem_of_getElem? (i := 17) rfl)
theorem nwX0_62 {U : State} (h : NW U) : va_Nw (.methodLinkNest RX0 62 yX2_remainder "SumForms") U := h.1 (RX0, 62, yX2_remainder) (List.mem_of_getElem? (i := 18) rfl)
theorem nwX0_77 {U : State} (h : NW U) : va_Nw (.methodLinkNest RX0 77 yX2_quotient "SumForms") U := h.1 (RX0, 77, yX2_quotient) (List.mem_of_getElem? (i := 19) rfl)
theorem nwX5_108 {U : State} (h : NW U) : va_Nw (.methodLinkNest RX5 108 yX0_foundPeriod "SumForms") U := h.1 (RX5, 108, yX0_foundPeriod) (List.mem_of_getElem? (i := 20) rfl)
theorem nwX0_93 {U : State} (h : NW U) : va_Nw (.methodLinkNest RX0 93 yX2_powerOfX "SumForms") U := h.1 (RX0, 93, yX2_powerOfX) (List.mem_of_getElem? (i := 21) rfl)
theorem nwX5_116 {U : State} (h : NW U) : va_Nw (.methodLinkNest RX5 116 yX4_findFor "SumForms") U := h.1 (RX5, 116, yX4_findFor) (List.mem_of_getElem? (i := 22) rfl)
theorem nwX4_25 {U : State} (h : NW U) : va_Nw (.methodLinkNest RX4 25 yX2_degree "SumForms") U := h.1 (RX4, 25, yX2_degree) (List.mem_of_getElem? (i := 23) rfl)
theorem nwX4_31 {U : State} (h : NW U) : va_Nw (.methodLinkNest RX4 31 yX3_clear "SumForms") U := h.1 (RX4, 31, yX3_clear) (List.mem_of_getElem? (i := 24) rfl)
theorem nwX4_36 {U : State} (h : NW U) : va_Nw (.methodLinkNest RX4 36 yX3_add "SumForms") U := h.1 (RX4, 36, yX3_add) (List.mem_of_getElem? (i := 25) rfl)
theorem nwX4_40 {U : State} (h : NW U) : va_Nw (.methodLinkNest RX4 40 yX2_timesX "SumForms") U := h.1 (RX4, 40, yX2_timesX) (List.mem_of_getElem? (i := 26) rfl)
theorem nwX4_48 {U : State} (h : NW U) : va_Nw (.methodLinkNest RX4 48 yX3_has "SumForms") U := h.1 (RX4, 48, yX3_has) (List.mem_of_getElem? (i := 27) rfl)
theorem nwX4_52 {U : State} (h : NW U) : va_Nw (.methodLinkNest RX4 52 yX3_hasTwo "SumForms") U := h.1 (RX4, 52, yX3_hasTwo) (List.mem_of_getElem? (i := 28) rfl)
theorem nwX5_121 {U : State} (h : NW U) : va_Nw (.methodLinkNest RX5 121 yX4_fewest "SumForms") U := h.1 (RX5, 121, yX4_fewest) (List.mem_of_getElem? (i := 29) rfl)
theorem nwX5_101 {U : State} (h : NW U) : va_Nw (.fieldLinkNest RX5 101 "SumForms$Factors" "polynomials" "[J" "SumForms") U := h.2 (RX5, 101, "SumForms$Factors", "polynomials", "[J") (List.mem_of_getElem? (i := 0) rfl)
theorem nwX5_105 {U : State} (h : NW U) : va_Nw (.fieldLinkNest RX5 105 "SumForms$Factors" "times" "[I" "SumForms") U := h.2 (RX5, 105, "SumForms$Factors", "times", "[I") (List.mem_of_getElem? (i := 1) rfl)
theorem nwX5_98 {U : State} (h : NW U) : va_Nw (.fieldLinkNest RX5 98 "SumForms$Factors" "size" "I" "SumForms") U := h.2 (RX5, 98, "SumForms$Factors", "size", "I") (List.mem_of_getElem? (i := 2) rfl)
theorem nwX5_79 {U : State} (h : NW U) : va_Nw (.fieldLinkNest RX5 79 "SumForms$Form" "width" "I" "SumForms") U := h.2 (RX5, 79, "SumForms$Form", "width", "I") (List.mem_of_getElem? (i := 3) rfl)
theorem nwX5_89 {U : State} (h : NW U) : va_Nw (.fieldLinkNest RX5 89 "SumForms$Form" "generator" "J" "SumForms") U := h.2 (RX5, 89, "SumForms$Form", "generator", "J") (List.mem_of_getElem? (i := 4) rfl)
theorem nwX5_52 {U : State} (h : NW U) : va_Nw (.fieldLinkNest RX5 52 "SumForms$Form" "start" "J" "SumForms") U := h.2 (RX5, 52, "SumForms$Form", "start", "J") (List.mem_of_getElem? (i := 5) rfl)
theorem nwX5_85 {U : State} (h : NW U) : va_Nw (.fieldLinkNest RX5 85 "SumForms$Form" "factoring" "LSumForms$Factors;" "SumForms") U := h.2 (RX5, 85, "SumForms$Form", "factoring", "LSumForms$Factors;") (List.mem_of_getElem? (i := 6) rfl)
theorem nwX5_112 {U : State} (h : NW U) : va_Nw (.fieldLinkNest RX5 112 "SumForms$Form" "unseen" "LSumForms$Unseen;" "SumForms") U := h.2 (RX5, 112, "SumForms$Form", "unseen", "LSumForms$Unseen;") (List.mem_of_getElem? (i := 7) rfl)
abbrev wTy (cy : Nat → ClassId) : List (ClassId × FieldType) := [(cy 0, .int), (cy 1, .long), (cy 2, .boolean), (cy 3, .object "SumForms$Form")]
def Bg (D : va_G) (cy : Nat → ClassId) (U : State) : Prop := va_K D vwCl (wTy cy) U ∧ NW U
theorem Bg.moved {D : va_G} {cy : Nat → ClassId} {s U : State} (hW : s.WarmedH U.vm) (h : Bg D cy s) : Bg D cy U := ⟨va_K.moved hW.alike h.1, NW.warm hW h.2⟩
theorem Bg.calling {D : va_G} {cy : Nat → ClassId} {U : State} {g : JFrame} {mk : MethodId} {a : Array Value} (h : Bg D cy U) : Bg D cy (U.calling g mk a) := ⟨va_K.moved (u := U) (U := U.calling g mk a) (Vm.Alike.refl U.vm) h.1, NW.same rfl h.2⟩
/-- a reader's start: the cells ws lie there -/
def Rd (D : va_G) (cy : Nat → ClassId) (ws : va_W) (U : State) : Prop := va_P D vwCl ws U.heap ∧ Bg D cy U
theorem Rd.blind {D : va_G} {cy : Nat → ClassId} {ws : va_W} {As : List Value} : FrameBlind (va_Pc As (Rd D cy ws)) := fun _ _ _ _ q => ⟨q.1, q.2.1, q.2.2.calling⟩
theorem preS_rd {D : va_G} {cy : Nat → ClassId} {ws : va_W} {s : State} {H : Heap} (As : List Value) (hP : va_P D vwCl ws H) (hB : Bg D cy s) : PreS s H (va_Pc As (Rd D cy ws)) As := ⟨Rd.blind, fun U hU hW => ⟨rfl, by rw [hU]; exact hP, hB.moved hW⟩⟩
theorem preV_rd {D : va_G} {cy : Nat → ClassId} {ws : va_W} {s : State} {H : Heap} {a q0 ci : Nat} {q : vw_C} {fs : List Value} (As : List Value) (hP : va_P D vwCl ws H) (hB : Bg D cy s) (hc : vwCl[ci]? = some q) (he : ws[q0]? = some (a, .inr (ci, fs))) : PreV s H q.1 a (va_Pc (.ref a :: As) (Rd D cy ws)) As := ⟨Rd.blind, va_recv hB.1 hP hc he, fun U hU hW => ⟨rfl, by rw [hU]; exact hP, hB.moved hW⟩⟩
/-- a writer's start, and the world behind it -/
def Wr (D : va_G) (cy : Nat → ClassId) (ws : va_W) (sz : Nat) (U : State) : Prop := U.heap.size = sz ∧ va_P D vwCl ws U.heap ∧ va_D (fun _ => True) ws ∧ Bg D cy U
theorem Wr.blind {D : va_G} {cy : Nat → ClassId} {ws : va_W} {sz : Nat} {As : List Value} : FrameBlind (va_Pc As (Wr D cy ws sz)) := fun _ _ _ _ q => ⟨q.1, q.2.1, q.2.2.1, q.2.2.2.1, q.2.2.2.2.calling⟩
theorem preV_wr {D : va_G} {cy : Nat → ClassId} {ws : va_W} {A : Nat → Prop} {s : State} {H : Heap} {a q0 ci : Nat} {q : vw_C} {fs : List Value} (As : List Value) (hP : va_P D vwCl ws H) (hD : va_D A ws) (hB : Bg D cy s) (hc : vwCl[ci]? = some q) (he : ws[q0]? = some (a, .inr (ci, fs))) : PreV s H q.1 a (va_Pc (.ref a :: As) (Wr D cy ws H.size)) As := ⟨Wr.blind, va_recv hB.1 hP hc he, fun U hU hW => ⟨rfl, by rw [hU], by rw [hU]; exact hP, hD.weaken (fun _ _ _ _ => trivial), hB.moved hW⟩⟩
def Qw (D : va_G) (A : Nat → Prop) (w1 : va_W) (t : State) : Prop := va_P D vwCl w1 t.heap ∧ va_D A w1
abbrev Qwv (D : va_G) (A : Nat → Prop) (w1 : va_W) : Array Value → State → Outcome → State → Prop := va_Qv (S := Unit) (fun _ => True) (fun _ => Qw D A w1) A
abbrev Qwi (D : va_G) (A : Nat → Prop) (w1 : va_W) (r0 : Int32) : Array Value → State → Outcome → State → Prop := va_Qi (S := Unit) (fun r _ => r = r0) (fun _ => Qw D A w1) A
abbrev Qwl (D : va_G) (A : Nat → Prop) (w1 : va_W) (r0 : Int64) : Array Value → State → Outcome → State → Prop := va_Ql (S := Unit) (fun r _ => r = r0) (fun _ => Qw D A w1) A
abbrev En (p : Program) (m : MethodId) (c : Code) (cc : ByteArray) (nL : Nat) (s : State) (args : Array Value) (Ts : List Cond) (own : String) (meth : Method) (ret : Option FieldType) (D : va_G) (cy : Nat → ClassId) : Prop := CallFix p m c cc nL s args Ts own ∧ meth.sig.returnType = ret ∧ meth.locks = false ∧ Bg D cy s
/-- the static tables -/
def ST0 (t : Nat) (A : Nat → Prop) (U : State) (H : Heap) : Prop := va_Z "SumForms$Factors" "PRIMES" "[I" (.ref t) A U H ∧ va_T .int t 36 (fun j => .int (kPR j)) A U H
def ST5 (t1 t2 t3 : Nat) (A : Nat → Prop) (U : State) (H : Heap) : Prop := (va_Z "SumForms" "ADDING_MODULUS" "[I" (.ref t1) A U H ∧ va_T .int t1 2 (fun j => .int (kAM j)) A U H) ∧ (va_Z "SumForms" "ADDING_HALF_BITS" "[I" (.ref t2) A U H ∧ va_T .int t2 2 (fun j => .int (kAH j)) A U H) ∧ (va_Z "SumForms" "ADDING_FIRST" "[I" (.ref t3) A U H ∧ va_T .int t3 2 (fun j => .int (kAF j)) A U H)
theorem ST0.moved {t : Nat} {A : Nat → Prop} {u U : State} {H : Heap} (hvm : u.vm.Alike U.vm) (h : ST0 t A u H) : ST0 t A U H := ⟨h.1.moved hvm, h.2.moved hvm⟩
theorem ST0.kept {t : Nat} {A : Nat → Prop} {U : State} {H H1 : Heap} (h : ST0 t A U H) (hq : ∀ a : Nat, a < H.size → ¬ A a → H1[a]? = H[a]?) : ST0 t A U H1 := ⟨h.1.kept hq, h.2.kept hq⟩
theorem ST0.narrow {t : Nat} {A B : Nat → Prop} {U : State} {H : Heap} (h : ST0 t A U H) (hAB : ∀ q, B q → A q) : ST0 t B U H := ⟨h.1.narrow hAB, h.2.narrow hAB⟩
theorem ST5.moved {t1 t2 t3 : Nat} {A : Nat → Prop} {u U : State} {H : Heap} (hvm : u.vm.Alike U.vm) (h : ST5 t1 t2 t3 A u H) : ST5 t1 t2 t3 A U H := ⟨⟨h.1.1.moved hvm, h.1.2.moved hvm⟩, ⟨h.2.1.1.moved hvm, h.2.1.2.moved hvm⟩, ⟨h.2.2.1.moved hvm, h.2.2.2.moved hvm⟩⟩
theorem ST5.kept {t1 t2 t3 : Nat} {A : Nat → Prop} {U : State} {H H1 : Heap} (h : ST5 t1 t2 t3 A U H) (hq : ∀ a : Nat, a < H.size → ¬ A a → H1[a]? = H[a]?) : ST5 t1 t2 t3 A U H1 := ⟨⟨h.1.1.kept hq, h.1.2.kept hq⟩, ⟨h.2.1.1.kept hq, h.2.1.2.kept hq⟩, ⟨h.2.2.1.kept hq, h.2.2.2.kept hq⟩⟩
theorem ST5.narrow {t1 t2 t3 : Nat} {A B : Nat → Prop} {U : State} {H : Heap} (h : ST5 t1 t2 t3 A U H) (hAB : ∀ q, B q → A q) : ST5 t1 t2 t3 B U H := ⟨⟨h.1.1.narrow hAB, h.1.2.narrow hAB⟩, ⟨h.2.1.1.narrow hAB, h.2.1.2.narrow hAB⟩, ⟨h.2.2.1.narrow hAB, h.2.2.2.narrow hAB⟩⟩
/-- starts with a static table besides -/
def RdT (D : va_G) (cy : Nat → ClassId) (ws : va_W) (Z : State → Heap → Prop) (U : State) : Prop := va_P D vwCl ws U.heap ∧ Bg D cy U ∧ Z U U.heap
def TabOk (Z : State → Heap → Prop) : Prop := ∀ (u U : State) (H : Heap), u.vm.Alike U.vm → Z u H → Z U H
theorem RdT.blind {D : va_G} {cy : Nat → ClassId} {ws : va_W} {Z : State → Heap → Prop} (hZ : TabOk Z) {As : List Value} : FrameBlind (va_Pc As (RdT D cy ws Z)) := fun a U g mk q => ⟨q.1, q.2.1, q.2.2.1.calling, hZ U (U.calling g mk a) _ (Vm.Alike.refl U.vm) q.2.2.2⟩
theorem preS_rdT {D : va_G} {cy : Nat → ClassId} {ws : va_W} {Z : State → Heap → Prop} (hZ : TabOk Z) {s : State} {H : Heap} (As : List Value) (hP : va_P D vwCl ws H) (hB : Bg D cy s) (hT : Z s H) : PreS s H (va_Pc As (RdT D cy ws Z)) As := ⟨RdT.blind hZ, fun U hU hW => ⟨rfl, by rw [hU]; exact hP, hB.moved hW, by rw [hU]; exact hZ s U H hW.alike hT⟩⟩
theorem preV_rdT {D : va_G} {cy : Nat → ClassId} {ws : va_W} {Z : State → Heap → Prop} (hZ : TabOk Z) {s : State} {H : Heap} {a q0 ci : Nat} {q : vw_C} {fs : List Value} (As : List Value) (hP : va_P D vwCl ws H) (hB : Bg D cy s) (hT : Z s H) (hc : vwCl[ci]? = some q) (he : ws[q0]? = some (a, .inr (ci, fs))) : PreV s H q.1 a (va_Pc (.ref a :: As) (RdT D cy ws Z)) As := ⟨RdT.blind hZ, va_recv hB.1 hP hc he, fun U hU hW => ⟨rfl, by rw [hU]; exact hP, hB.moved hW, by rw [hU]; exact hZ s U H hW.alike hT⟩⟩
def WrT (D : va_G) (cy : Nat → ClassId) (ws : va_W) (sz : Nat) (Z : State → Heap → Prop) (U : State) : Prop := U.heap.size = sz ∧ va_P D vwCl ws U.heap ∧ va_D (fun _ => True) ws ∧ Bg D cy U ∧ Z U U.heap
theorem WrT.blind {D : va_G} {cy : Nat → ClassId} {ws : va_W} {sz : Nat} {Z : State → Heap → Prop} (hZ : TabOk Z) {As : List Value} : FrameBlind (va_Pc As (WrT D cy ws sz Z)) := fun a U g mk q => ⟨q.1, q.2.1, q.2.2.1, q.2.2.2.1, q.2.2.2.2.1.calling, hZ U (U.calling g mk a) _ (Vm.Alike.refl U.vm) q.2.2.2.2.2⟩
theorem preV_wrT {D : va_G} {cy : Nat → ClassId} {ws : va_W} {Z : State → Heap → Prop} (hZ : TabOk Z) {A : Nat → Prop} {s : State} {H : Heap} {a q0 ci : Nat} {q : vw_C} {fs : List Value} (As : List Value) (hP : va_P D vwCl ws H) (hD : va_D A ws) (hB : Bg D cy s) (hT : Z s H) (hc : vwCl[ci]? = some q) (he : ws[q0]? = some (a, .inr (ci, fs))) : PreV s H q.1 a (va_Pc (.ref a :: As) (WrT D cy ws H.size Z)) As := ⟨WrT.blind hZ, va_recv hB.1 hP hc he, fun U hU hW => ⟨rfl, by rw [hU], by rw [hU]; exact hP, hD.weaken (fun _ _ _ _ => trivial), hB.moved hW, by rw [hU]; exact hZ s U H hW.alike hT⟩⟩
theorem tab0 (t : Nat) (A : Nat → Prop) : TabOk (ST0 t A) := fun _ _ _ h => ST0.moved h
theorem tab5 (t1 t2 t3 : Nat) (A : Nat → Prop) : TabOk (ST5 t1 t2 t3 A) := fun _ _ _ h => ST5.moved h
section ROWS
variable {p : Program} {l : Launch} {e : Env} {R : Room} {s : State} {m : MethodId} {args : Array Value} {below : List Frame} {meth : Method} {c : Code} {H : Heap} {locs : List Loc} {cells slots : Nat} {Q : State → Prop}
variable {cc : ByteArray} {pc : Nat} {ls : Array Slot} {rest : List Value}
theorem zz_ishl (hexec : p.tables.exec = Jvm.exec) (hb : c.code = cc) {x y : Int32} (hdg : decode cc pc = .ok (.ishl, 1)) (k : W p l e R s m args below meth c H locs cells slots Q (F0 m (pc + 1) ls (.int (iShl x y) :: rest))) : W p l e R s m args below meth c H locs cells slots Q (F0 m pc ls (.int y :: .int x :: rest)) := lv_ishl hexec hb hdg k
theorem zz_ishr (hexec : p.tables.exec = Jvm.exec) (hb : c.code = cc) {x y : Int32} (hdg : decode cc pc = .ok (.ishr, 1)) (k : W p l e R s m args below meth c H locs cells slots Q (F0 m (pc + 1) ls (.int (iShr x y) :: rest))) : W p l e R s m args below meth c H locs cells slots Q (F0 m pc ls (.int y :: .int x :: rest)) := lv_ishr hexec hb hdg k
theorem zz_irem (hexec : p.tables.exec = Jvm.exec) (hb : c.code = cc) {x y : Int32} (hdg : decode cc pc = .ok (.irem, 1)) (hne : ¬ y = 0) (k : W p l e R s m args below meth c H locs cells slots Q (F0 m (pc + 1) ls (.int (iRem x y) :: rest))) : W p l e R s m args below meth c H locs cells slots Q (F0 m pc ls (.int y :: .int x :: rest)) := lv_irem hexec hb hdg hne k
theorem zz_lrem (hexec : p.tables.exec = Jvm.exec) (hb : c.code = cc) {x y : Int64} (hdg : decode cc pc = .ok (.lrem, 1)) (hne : ¬ y = 0) (k : W p l e R s m args below meth c H locs cells slots Q (F0 m (pc + 1) ls (.long (lRem x y) :: rest))) : W p l e R s m args below meth c H locs cells slots Q (F0 m pc ls (.long y :: .long x :: rest)) := lv_lrem hexec hb hdg hne k
theorem zz_lshl (hexec : p.tables.exec = Jvm.exec) (hb : c.code = cc) {x : Int64} {y : Int32} (hdg : decode cc pc = .ok (.lshl, 1)) (k : W p l e R s m args below meth c H locs cells slots Q (F0 m (pc + 1) ls (.long (lShl x y) :: rest))) : W p l e R s m args below meth c H locs cells slots Q (F0 m pc ls (.int y :: .long x :: rest)) := lv_lshl hexec hb hdg rfl k
theorem zz_lshr (hexec : p.tables.exec = Jvm.exec) (hb : c.code = cc) {x : Int64} {y : Int32} (hdg : decode cc pc = .ok (.lshr, 1)) (k : W p l e R s m args below meth c H locs cells slots Q (F0 m (pc + 1) ls (.long (lShr x y) :: rest))) : W p l e R s m args below meth c H locs cells slots Q (F0 m pc ls (.int y :: .long x :: rest)) := lv_lshr hexec hb hdg rfl k
theorem zz_lushr (hexec : p.tables.exec = Jvm.exec) (hb : c.code = cc) {x : Int64} {y : Int32} (hdg : decode cc pc = .ok (.lushr, 1)) (k : W p l e R s m args below meth c H locs cells slots Q (F0 m (pc + 1) ls (.long (lUsh x y) :: rest))) : W p l e R s m args below meth c H locs cells slots Q (F0 m pc ls (.int y :: .long x :: rest)) := lv_lushr hexec hb hdg rfl k
theorem zz_lc_eq (hexec : p.tables.exec = Jvm.exec) (hb : c.code = cc) {x y : Int64} {off : Int} {tgt : Nat} (hd1 : decode cc pc = .ok (.lcmp, 1)) (hd2 : decode cc (pc + 1) = .ok (.ifCond .eq off, 3)) (ht : ((pc + 1 : Nat) : Int) + off = (tgt : Int)) (kt : x = y → W p l e R s m args below meth c H locs cells slots Q (F0 m tgt ls rest)) (kf : ¬ x = y → W p l e R s m args below meth c H locs cells slots Q (F0 m (pc + 1 + 3) ls rest)) : W p l e R s m args below meth c H locs cells slots Q (F0 m pc ls (.long y :: .long x :: rest)) := W.lcmp hexec hb hd1 (lv_if_eq hexec hb hd2 ht (fun h => kt ((lg_cmp_eq x y).mp h)) (fun h => kf (fun z => h ((lg_cmp_eq x y).mpr z))))
theorem zz_lc_ne (hexec : p.tables.exec = Jvm.exec) (hb : c.code = cc) {x y : Int64} {off : Int} {tgt : Nat} (hd1 : decode cc pc = .ok (.lcmp, 1)) (hd2 : decode cc (pc + 1) = .ok (.ifCond .ne off, 3)) (ht : ((pc + 1 : Nat) : Int) + off = (tgt : Int)) (kt : ¬ x = y → W p l e R s m args below meth c H locs cells slots Q (F0 m tgt ls rest)) (kf : x = y → W p l e R s m args below meth c H locs cells slots Q (F0 m (pc + 1 + 3) ls rest)) : W p l e R s m args below meth c H locs cells slots Q (F0 m pc ls (.long y :: .long x :: rest)) := W.lcmp hexec hb hd1 (lv_if_ne hexec hb hd2 ht (fun h => kt (fun z => h ((lg_cmp_eq x y).mpr z))) (fun h => kf ((lg_cmp_eq x y).mp h)))
theorem zz_lc_lt (hexec : p.tables.exec = Jvm.exec) (hb : c.code = cc) {x y : Int64} {off : Int} {tgt : Nat} (hd1 : decode cc pc = .ok (.lcmp, 1)) (hd2 : decode cc (pc + 1) = .ok (.ifCond .lt off, 3)) (ht : ((pc + 1 : Nat) : Int) + off = (tgt : Int)) (kt : x < y → W p l e R s m args below meth c H locs cells slots Q (F0 m tgt ls rest)) (kf : ¬ x < y → W p l e R s m args below meth c H locs cells slots Q (F0 m (pc + 1 + 3) ls rest)) : W p l e R s m args below meth c H locs cells slots Q (F0 m pc ls (.long y :: .long x :: rest)) := W.lcmp hexec hb hd1 (lv_if_lt hexec hb hd2 ht (fun h => kt ((lg_cmp_lt x y).mp h)) (fun h => kf (fun z => h ((lg_cmp_lt x y).mpr z))))
theorem zz_lc_ge (hexec : p.tables.exec = Jvm.exec) (hb : c.code = cc) {x y : Int64} {off : Int} {tgt : Nat} (hd1 : decode cc pc = .ok (.lcmp, 1)) (hd2 : decode cc (pc + 1) = .ok (.ifCond .ge off, 3)) (ht : ((pc + 1 : Nat) : Int) + off = (tgt : Int)) (kt : y ≤ x → W p l e R s m args below meth c H locs cells slots Q (F0 m tgt ls rest)) (kf : ¬ y ≤ x → W p l e R s m args below meth c H locs cells slots Q (F0 m (pc + 1 + 3) ls rest)) : W p l e R s m args below meth c H locs cells slots Q (F0 m pc ls (.long y :: .long x :: rest)) := W.lcmp hexec hb hd1 (lv_if_ge hexec hb hd2 ht (fun h => kt ((lg_cmp_ge x y).mp h)) (fun h => kf (fun z => h ((lg_cmp_ge x y).mpr z))))
theorem zz_lc_gt (hexec : p.tables.exec = Jvm.exec) (hb : c.code = cc) {x y : Int64} {off : Int} {tgt : Nat} (hd1 : decode cc pc = .ok (.lcmp, 1)) (hd2 : decode cc (pc + 1) = .ok (.ifCond .gt off, 3)) (ht : ((pc + 1 : Nat) : Int) + off = (tgt : Int)) (kt : y < x → W p l e R s m args below meth c H locs cells slots Q (F0 m tgt ls rest)) (kf : ¬ y < x → W p l e R s m args below meth c H locs cells slots Q (F0 m (pc + 1 + 3) ls rest)) : W p l e R s m args below meth c H locs cells slots Q (F0 m pc ls (.long y :: .long x :: rest)) := W.lcmp hexec hb hd1 (lv_if_gt hexec hb hd2 ht (fun h => kt ((lg_cmp_gt x y).mp h)) (fun h => kf (fun z => h ((lg_cmp_gt x y).mpr z))))
theorem zz_lc_le (hexec : p.tables.exec = Jvm.exec) (hb : c.code = cc) {x y : Int64} {off : Int} {tgt : Nat} (hd1 : decode cc pc = .ok (.lcmp, 1)) (hd2 : decode cc (pc + 1) = .ok (.ifCond .le off, 3)) (ht : ((pc + 1 : Nat) : Int) + off = (tgt : Int)) (kt : x ≤ y → W p l e R s m args below meth c H locs cells slots Q (F0 m tgt ls rest)) (kf : ¬ x ≤ y → W p l e R s m args below meth c H locs cells slots Q (F0 m (pc + 1 + 3) ls rest)) : W p l e R s m args below meth c H locs cells slots Q (F0 m pc ls (.long y :: .long x :: rest)) := W.lcmp hexec hb hd1 (lv_if_le hexec hb hd2 ht (fun h => kt ((lg_cmp_le x y).mp h)) (fun h => kf (fun z => h ((lg_cmp_le x y).mpr z))))
theorem zz_aald {D : va_G} {a : Nat} {tys : List (ClassId × FieldType)} {ws : va_W} (hexec : p.tables.exec = Jvm.exec) (hb : c.code = cc) (hK : va_K D vwCl tys s) (hP : va_P D vwCl ws H) (q0 t0 : Nat) {cA : ClassId} {C : String} {n : Nat} {f : Nat → Option Nat} (ha : ws[q0]? = some (a, .inl (cA, n, .inr (.inr (.inr (.inr f)))))) (ht : tys[t0]? = some (cA, .object C)) {i : Int32} (hin : vp_in i n) {b : Nat} (hfb : f i.toNatClampNeg = some b) (hdg : decode cc pc = .ok (.aaload, 1))
    (kk : W p l e R s m args below meth c H locs cells slots Q (F0 m (pc + 1) ls (.ref b :: rest))) : W p l e R s m args below meth c H locs cells slots Q (F0 m pc ls (.int i :: .ref a :: rest)) := va_aldq hexec hb hK hP q0 t0 ha ht hin hdg (by rw [hfb]; exact kk)
end ROWS
section CALLS
variable {p : Program} {l : Launch} {e : Env} {R : Room} {s : State} {m : MethodId} {args : Array Value} {below : List Frame} {meth : Method} {c : Code} {H : Heap} {locs : List Loc} {cells slots : Nat} {Q : State → Prop}
variable {pc : Nat} {ls : Array Slot} {rest st0 : List Value} {a : Array Value} {H0 : Heap}
theorem cz_i {r0 : Int32} (hr : va_Run p l e R s m args below meth c H locs cells slots 0 0 (F0 m pc ls st0) rest (vp_Si (fun r => r = r0) a) (fun _ => False)) (kk : W p l e R s m args below meth c H locs cells slots Q (F0 m (pc + 3) ls (.int r0 :: rest))) : W p l e R s m args below meth c H locs cells slots Q (F0 m pc ls st0) := vp_callSi hr.run (fun r h => by rw [h]; exact kk)
theorem cz_l {r0 : Int64} (hr : va_Run p l e R s m args below meth c H locs cells slots 0 0 (F0 m pc ls st0) rest (vp_Sl (fun r => r = r0) a) (fun _ => False)) (kk : W p l e R s m args below meth c H locs cells slots Q (F0 m (pc + 3) ls (.long r0 :: rest))) : W p l e R s m args below meth c H locs cells slots Q (F0 m pc ls st0) := vp_callSl hr.run (fun r h => by rw [h]; exact kk)
variable {D : va_G} {ws wc wr w1 : va_W} {A : Nat → Prop}
theorem cj_v (isC isR : List Nat) (hr : va_Run p l e R s m args below meth c H locs cells slots 0 0 (F0 m pc ls st0) rest (Qwv D (va_A wc H.size) w1 a) (va_A wc H.size)) (hP : va_P D vwCl ws H) (hD : va_D A ws) (hS : va_S A H0 H locs) (hA : ∀ q, H0.size ≤ q → A q) (hC : isC.map (fun i => ws[i]?) = wc.map some) (hR : isR.map (fun i => ws[i]?) = wr.map some) (hn : va_nd isR = true) (hdis : ∀ i ∈ isR, i ∉ isC)
    (kk : ∀ (H1 : Heap) (locs1 : List Loc), va_P D vwCl (wr ++ w1) H1 → va_D A (wr ++ w1) → va_S A H0 H1 locs1 → W p l e R s m args below meth c H1 locs1 cells slots Q (F0 m (pc + 3) ls rest)) : W p l e R s m args below meth c H locs cells slots Q (F0 m pc ls st0) := by
  have hFc := va_free hD hS hA isC hC
  refine va_callv hr hS (fun q _ h => hFc q h) hFc (fun u t H1 locs1 ht hvm hw hB hz1 hk1 hS1 => ?_)
  obtain ⟨hP1, hD1⟩ := hB
  rw [ht] at hP1
  obtain ⟨hP2, hD2⟩ := va_join hP hD isC isR hC hR hn hdis hk1 hFc hP1 hD1
  exact kk H1 locs1 hP2 hD2 hS1
theorem cj_i {r0 : Int32} (isC isR : List Nat) (hr : va_Run p l e R s m args below meth c H locs cells slots 0 0 (F0 m pc ls st0) rest (Qwi D (va_A wc H.size) w1 r0 a) (va_A wc H.size)) (hP : va_P D vwCl ws H) (hD : va_D A ws) (hS : va_S A H0 H locs) (hA : ∀ q, H0.size ≤ q → A q) (hC : isC.map (fun i => ws[i]?) = wc.map some) (hR : isR.map (fun i => ws[i]?) = wr.map some) (hn : va_nd isR = true) (hdis : ∀ i ∈ isR, i ∉ isC)
    (kk : ∀ (H1 : Heap) (locs1 : List Loc), va_P D vwCl (wr ++ w1) H1 → va_D A (wr ++ w1) → va_S A H0 H1 locs1 → W p l e R s m args below meth c H1 locs1 cells slots Q (F0 m (pc + 3) ls (.int r0 :: rest))) : W p l e R s m args below meth c H locs cells slots Q (F0 m pc ls st0) := by
  have hFc := va_free hD hS hA isC hC
  refine va_calli hr hS (fun q _ h => hFc q h) hFc (fun r u t H1 locs1 ht hvm hw hB hz1 hk1 hS1 => ?_)
  obtain ⟨hP1, hD1⟩ := hB
  rw [ht] at hP1
  obtain ⟨hP2, hD2⟩ := va_join hP hD isC isR hC hR hn hdis hk1 hFc hP1 hD1
  rw [show r = r0 from hw]
  exact kk H1 locs1 hP2 hD2 hS1
theorem cj_l {r0 : Int64} (isC isR : List Nat) (hr : va_Run p l e R s m args below meth c H locs cells slots 0 0 (F0 m pc ls st0) rest (Qwl D (va_A wc H.size) w1 r0 a) (va_A wc H.size)) (hP : va_P D vwCl ws H) (hD : va_D A ws) (hS : va_S A H0 H locs) (hA : ∀ q, H0.size ≤ q → A q) (hC : isC.map (fun i => ws[i]?) = wc.map some) (hR : isR.map (fun i => ws[i]?) = wr.map some) (hn : va_nd isR = true) (hdis : ∀ i ∈ isR, i ∉ isC)
    (kk : ∀ (H1 : Heap) (locs1 : List Loc), va_P D vwCl (wr ++ w1) H1 → va_D A (wr ++ w1) → va_S A H0 H1 locs1 → W p l e R s m args below meth c H1 locs1 cells slots Q (F0 m (pc + 3) ls (.long r0 :: rest))) : W p l e R s m args below meth c H locs cells slots Q (F0 m pc ls st0) := by
  have hFc := va_free hD hS hA isC hC
  refine va_calll hr hS (fun q _ h => hFc q h) hFc (fun r u t H1 locs1 ht hvm hw hB hz1 hk1 hS1 => ?_)
  obtain ⟨hP1, hD1⟩ := hB
  rw [ht] at hP1
  obtain ⟨hP2, hD2⟩ := va_join hP hD isC isR hC hR hn hdis hk1 hFc hP1 hD1
  rw [show r = r0 from hw]
  exact kk H1 locs1 hP2 hD2 hS1
end CALLS
end
section
/-! SumForms$Polynomials.degree(J)I -/
abbrev rX2_degree : Room := { frames := 0, cells := 0, slots := 0, locals := 0 }
abbrev GX2_degree (p : Program) (l : Launch) (e : Env) (s : State) (m : MethodId) (args : Array Value) (below : List Frame) (meth : Method) (c : Code) (r0 : Int32) (fr : JFrame) : Prop := W p l e (headSpec wsX2_degree rX2_degree).room s m args below meth c s.heap [] 0 0 (MQ below (vp_Si (fun r => r = r0)) args s 0 0 (fun _ => False)) fr
def fX2_degree_B13 (N : Nat) (x0 : Int64) (self : Int32 → Int32 → Option (Int32)) (k : Int32 → Option (Int32)) (x2 : Int32) (x3 : Int32) : Option (Int32) := (if x3 ≤ 0 then (k x2) else (if (lUsh x0 (x2 + x3)) = (0 : Int64) then (self x2 (iShr x3 (1 : Int32))) else (self (x2 + x3) (iShr x3 (1 : Int32)))))
def fX2_degree_L13 (N : Nat) (x0 : Int64) (k : Int32 → Option (Int32)) : Nat → Int32 → Int32 → Option (Int32)
  | 0 => fun _ _ => none
  | n + 1 => fun x2 x3 => fX2_degree_B13 N x0 (fX2_degree_L13 N x0 k n) k x2 x3
def fX2_degree (N : Nat)  (x0 : Int64) : Option (Int32) := (if x0 = (0 : Int64) then (some (-1 : Int32)) else (fX2_degree_L13 N x0 (fun x2_4 => (some x2_4)) N (0 : Int32) (32 : Int32)))
set_option maxHeartbeats 4000000 in
set_option maxRecDepth 100000 in
theorem wX2_degree_B13 {p : Program} {l : Launch} {e : Env} {s : State} {m : MethodId} {args : Array Value} {below : List Frame} {meth : Method} {c : Code} {D : va_G} {cy : Nat → ClassId} {r0 : Int32} (E0 : En p m c cX2_degree 4 s args wsX2_degree RX2 meth (some .int) D cy) (hP : va_P D vwCl [] s.heap) (N : Nat) (x0 : Int64) (self : Int32 → Int32 → Option (Int32)) (hself : ∀ (x2 : Int32) (x3 : Int32) (ls : Array Slot), lv_has ls 4 [(0, .long x0), (2, .int x2), (3, .int x3)] → self x2 x3 = some r0 → GX2_degree p l e s m args below meth c r0 (F0 m 13 ls [])) (k : Int32 → Option (Int32)) (hk : ∀ (x2 : Int32) (ls : Array Slot), lv_has ls 4 [(2, .int x2)] → k x2 = some r0 → GX2_degree p l e s m args below meth c r0 (F0 m 38 ls [])) : ∀ (x2 : Int32) (x3 : Int32) (ls : Array Slot), lv_has ls 4 [(0, .long x0), (2, .int x2), (3, .int x3)] → fX2_degree_B13 N x0 self k x2 x3 = some r0 → GX2_degree p l e s m args below meth c r0 (F0 m 13 ls []) := by
  obtain ⟨⟨hx, hb, hml, hown, hts⟩, hr, hlocks, hB⟩ := id E0
  have hK := hB.1
  have hN := hB.2
  intro x2 x3 ls hl hf
  unfold fX2_degree_B13 at hf
  refine lv_iload_n hx hb dX2_degree_13 rfl (lv_at hl 2 rfl) ?_
  refine lv_if_le (tgt := 38) hx hb dX2_degree_14 (by decide) (fun c_2 => ?_) (fun c_2 => ?_)
  · have hf := ite_t hf c_2
    exact hk _ _ (lv_sub hl [1] rfl) hf
  · have hf := ite_f hf c_2
    refine lv_lload_n hx hb dX2_degree_17 rfl (lv_at hl 0 rfl) ?_
    refine lv_iload_n hx hb dX2_degree_18 rfl (lv_at hl 1 rfl) ?_
    refine lv_iload_n hx hb dX2_degree_19 rfl (lv_at hl 2 rfl) ?_
    refine lv_iadd hx hb dX2_degree_20 ?_
    refine zz_lushr hx hb dX2_degree_21 ?_
    refine lv_lconst (v := (0 : Int64)) hx hb dX2_degree_22 (by decide) ?_
    refine zz_lc_eq (tgt := 31) hx hb dX2_degree_23 dX2_degree_24 (by decide) (fun c_3 => ?_) (fun c_3 => ?_)
    · have hf := ite_t hf c_3
      refine lv_iload_n hx hb dX2_degree_31 rfl (lv_at hl 2 rfl) ?_
      refine lv_iconst (v := (1 : Int32)) hx hb dX2_degree_32 (by decide) ?_
      refine zz_ishr hx hb dX2_degree_33 ?_
      refine lv_istore_n (lv' := [(3, .int (iShr x3 (1 : Int32))), (0, .long x0), (2, .int x2)]) hx hb dX2_degree_34 rfl hl (by decide) rfl (fun ls hl => ?_)
      refine lv_goto (tgt := 13) hx hb dX2_degree_35 (by decide) ?_
      exact hself _ _ _ (lv_sub hl [1, 2, 0] rfl) hf
    · have hf := ite_f hf c_3
      refine lv_iload_n hx hb dX2_degree_27 rfl (lv_at hl 1 rfl) ?_
      refine lv_iload_n hx hb dX2_degree_28 rfl (lv_at hl 2 rfl) ?_
      refine lv_iadd hx hb dX2_degree_29 ?_
      refine lv_istore_n (lv' := [(2, .int (x2 + x3)), (0, .long x0), (3, .int x3)]) hx hb dX2_degree_30 rfl hl (by decide) rfl (fun ls hl => ?_)
      refine lv_iload_n hx hb dX2_degree_31 rfl (lv_at hl 2 rfl) ?_
      refine lv_iconst (v := (1 : Int32)) hx hb dX2_degree_32 (by decide) ?_
      refine zz_ishr hx hb dX2_degree_33 ?_
      refine lv_istore_n (lv' := [(3, .int (iShr x3 (1 : Int32))), (2, .int (x2 + x3)), (0, .long x0)]) hx hb dX2_degree_34 rfl hl (by decide) rfl (fun ls hl => ?_)
      refine lv_goto (tgt := 13) hx hb dX2_degree_35 (by decide) ?_
      exact hself _ _ _ (lv_sub hl [2, 1, 0] rfl) hf
theorem wX2_degree_L13 {p : Program} {l : Launch} {e : Env} {s : State} {m : MethodId} {args : Array Value} {below : List Frame} {meth : Method} {c : Code} {D : va_G} {cy : Nat → ClassId} {r0 : Int32} (E0 : En p m c cX2_degree 4 s args wsX2_degree RX2 meth (some .int) D cy) (hP : va_P D vwCl [] s.heap) (N : Nat) (x0 : Int64) (k : Int32 → Option (Int32)) (hk : ∀ (x2 : Int32) (ls : Array Slot), lv_has ls 4 [(2, .int x2)] → k x2 = some r0 → GX2_degree p l e s m args below meth c r0 (F0 m 38 ls [])) : ∀ (n : Nat), ∀ (x2 : Int32) (x3 : Int32) (ls : Array Slot), lv_has ls 4 [(0, .long x0), (2, .int x2), (3, .int x3)] → fX2_degree_L13 N x0 k n x2 x3 = some r0 → GX2_degree p l e s m args below meth c r0 (F0 m 13 ls []) := by
  intro n
  induction n with
  | zero => intro x2 x3 ls hl hf; cases hf
  | succ n ih => exact wX2_degree_B13 E0 hP N x0 _ ih k hk
set_option maxHeartbeats 4000000 in
set_option maxRecDepth 100000 in
theorem ctX2_degree (l : Launch) (D : va_G) (cy : Nat → ClassId) (N : Nat)  (x0 : Int64) (r0 : Int32) (hf : fX2_degree N x0 = some r0) : Met l yX2_degree wsX2_degree rX2_degree (va_Pc [.long x0] (Rd D cy [])) (vp_Si (fun r => r = r0)) 0 0 (fun _ => False) := by
  refine Met.ofW (cc := cX2_degree) (maxL := 4) (ret := (some .int)) (by decide) rfl ?_
  intro p e s m args below meth c s₁ B hml hv
  obtain ⟨rfl, hP, hB⟩ := hv
  have hx := B.exec
  have hb := B.bytes
  have hr := B.returns
  have hts := atoms_spec (ws := wsX2_degree) B.pre
  have hown : s.vm.findClass RX2 = some m.cls := findClass_of_methodNamed B.named
  have hlocks := B.notSynchronized
  have hK := hB.1
  have hN := hB.2
  have hl := lv_entry ([.long x0]) (n := 4) (Nat.le_of_ble_eq_true rfl)
  rw [lg_entry_eq]
  generalize (lg_sl ([.long x0]) ++ List.replicate (4 - (lg_sl ([.long x0])).length) Slot.unset).toArray = ls at hl ⊢
  have hl : lv_has ls 4 [(0, .long x0)] := hl
  have E0 : En p m c cX2_degree 4 s ([.long x0] : List Value).toArray wsX2_degree RX2 meth (some .int) D cy := ⟨⟨hx, hb, hml, hown, hts⟩, hr, hlocks, hB⟩
  unfold fX2_degree at hf
  refine lv_lload_n hx hb dX2_degree_0 rfl (lv_at hl 0 rfl) ?_
  refine lv_lconst (v := (0 : Int64)) hx hb dX2_degree_1 (by decide) ?_
  refine zz_lc_ne (tgt := 8) hx hb dX2_degree_2 dX2_degree_3 (by decide) (fun c_1 => ?_) (fun c_1 => ?_)
  · have hf := ite_f hf c_1
    refine lv_iconst (v := (0 : Int32)) hx hb dX2_degree_8 (by decide) ?_
    refine lv_istore_n (lv' := [(2, .int (0 : Int32)), (0, .long x0)]) hx hb dX2_degree_9 rfl hl (by decide) rfl (fun ls hl => ?_)
    refine lv_bipush (v := (32 : Int32)) hx hb dX2_degree_10 (by decide) ?_
    refine lv_istore_n (lv' := [(3, .int (32 : Int32)), (2, .int (0 : Int32)), (0, .long x0)]) hx hb dX2_degree_12 rfl hl (by decide) rfl (fun ls hl => ?_)
    refine wX2_degree_L13 E0 hP N x0 _ (fun x2_4 ls hl hf => ?_) N _ _ _ (lv_sub hl [2, 1, 0] rfl) hf
    refine lv_iload_n hx hb dX2_degree_38 rfl (lv_at hl 0 rfl) ?_
    exact W.iret (v := x2_4) hx hb hr (fun t ht hW => ⟨_, rfl, Option.some.inj hf, ht⟩) (fun _ h => absurd h List.not_mem_nil) dX2_degree_39
  · have hf := ite_t hf c_1
    refine lv_iconst (v := (-1 : Int32)) hx hb dX2_degree_6 (by decide) ?_
    exact W.iret (v := (-1 : Int32)) hx hb hr (fun t ht hW => ⟨_, rfl, Option.some.inj hf, ht⟩) (fun _ h => absurd h List.not_mem_nil) dX2_degree_7
/-! SumForms$Polynomials.remainder(JJ)J -/
abbrev rX2_remainder : Room := { frames := 1, cells := 0, slots := 0, locals := 23 }
abbrev GX2_remainder (p : Program) (l : Launch) (e : Env) (s : State) (m : MethodId) (args : Array Value) (below : List Frame) (meth : Method) (c : Code) (r0 : Int64) (fr : JFrame) : Prop := W p l e (headSpec wsX2_remainder rX2_remainder).room s m args below meth c s.heap [] 0 0 (MQ below (vp_Sl (fun r => r = r0)) args s 0 0 (fun _ => False)) fr
def fX2_remainder_B22 (N : Nat) (x2 : Int64) (x4 : Int32) (self : Int64 → Int32 → Option (Int64)) (k : Int64 → Option (Int64)) (x5 : Int64) (x7 : Int32) : Option (Int64) := (if x7 < x4 then (k x5) else (if ((lUsh x5 x7) &&& (1 : Int64)) = (0 : Int64) then (self x5 (x7 + (-1 : Int32))) else (self (x5 ^^^ (lShl x2 (x7 - x4))) (x7 + (-1 : Int32)))))
def fX2_remainder_L22 (N : Nat) (x2 : Int64) (x4 : Int32) (k : Int64 → Option (Int64)) : Nat → Int64 → Int32 → Option (Int64)
  | 0 => fun _ _ => none
  | n + 1 => fun x5 x7 => fX2_remainder_B22 N x2 x4 (fX2_remainder_L22 N x2 x4 k n) k x5 x7
def fX2_remainder (N : Nat)  (x0 : Int64) (x2 : Int64) : Option (Int64) := ((fX2_degree N x2).bind (fun u1 => (if 0 ≤ u1 then ((fX2_degree N x0).bind (fun u4 => (fX2_remainder_L22 N x2 u1 (fun x5_8 => (some x5_8)) N x0 u4))) else (some x0))))
set_option maxHeartbeats 4000000 in
set_option maxRecDepth 100000 in
theorem wX2_remainder_B22 {p : Program} {l : Launch} {e : Env} {s : State} {m : MethodId} {args : Array Value} {below : List Frame} {meth : Method} {c : Code} {D : va_G} {cy : Nat → ClassId} {r0 : Int64} (E0 : En p m c cX2_remainder 8 s args wsX2_remainder RX2 meth (some .long) D cy) (hP : va_P D vwCl [] s.heap) (N : Nat) (x2 : Int64) (x4 : Int32) (self : Int64 → Int32 → Option (Int64)) (hself : ∀ (x5 : Int64) (x7 : Int32) (ls : Array Slot), lv_has ls 8 [(2, .long x2), (4, .int x4), (5, .long x5), (7, .int x7)] → self x5 x7 = some r0 → GX2_remainder p l e s m args below meth c r0 (F0 m 22 ls [])) (k : Int64 → Option (Int64)) (hk : ∀ (x5 : Int64) (ls : Array Slot), lv_has ls 8 [(5, .long x5)] → k x5 = some r0 → GX2_remainder p l e s m args below meth c r0 (F0 m 59 ls [])) : ∀ (x5 : Int64) (x7 : Int32) (ls : Array Slot), lv_has ls 8 [(2, .long x2), (4, .int x4), (5, .long x5), (7, .int x7)] → fX2_remainder_B22 N x2 x4 self k x5 x7 = some r0 → GX2_remainder p l e s m args below meth c r0 (F0 m 22 ls []) := by
  obtain ⟨⟨hx, hb, hml, hown, hts⟩, hr, hlocks, hB⟩ := id E0
  have hK := hB.1
  have hN := hB.2
  intro x5 x7 ls hl hf
  unfold fX2_remainder_B22 at hf
  refine lv_iload hx hb dX2_remainder_22 (lv_at hl 3 rfl) ?_
  refine lv_iload hx hb dX2_remainder_24 (lv_at hl 1 rfl) ?_
  refine lv_icmp_lt (tgt := 59) hx hb dX2_remainder_26 (by decide) (fun c_6 => ?_) (fun c_6 => ?_)
  · have hf := ite_t hf c_6
    exact hk _ _ (lv_sub hl [2] rfl) hf
  · have hf := ite_f hf c_6
    refine lv_lload hx hb dX2_remainder_29 (lv_at hl 2 rfl) ?_
    refine lv_iload hx hb dX2_remainder_31 (lv_at hl 3 rfl) ?_
    refine zz_lushr hx hb dX2_remainder_33 ?_
    refine lv_lconst (v := (1 : Int64)) hx hb dX2_remainder_34 (by decide) ?_
    refine lv_land hx hb dX2_remainder_35 ?_
    refine lv_lconst (v := (0 : Int64)) hx hb dX2_remainder_36 (by decide) ?_
    refine zz_lc_eq (tgt := 53) hx hb dX2_remainder_37 dX2_remainder_38 (by decide) (fun c_7 => ?_) (fun c_7 => ?_)
    · have hf := ite_t hf c_7
      refine lv_iinc (v := (x7 + (-1 : Int32))) (lv' := [(7, .int (x7 + (-1 : Int32))), (2, .long x2), (4, .int x4), (5, .long x5)]) hx hb dX2_remainder_53 hl (k := 3) rfl rfl (by decide) rfl (fun ls hl => ?_)
      refine lv_goto (tgt := 22) hx hb dX2_remainder_56 (by decide) ?_
      exact hself _ _ _ (lv_sub hl [1, 2, 3, 0] rfl) hf
    · have hf := ite_f hf c_7
      refine lv_lload hx hb dX2_remainder_41 (lv_at hl 2 rfl) ?_
      refine lv_lload_n hx hb dX2_remainder_43 rfl (lv_at hl 0 rfl) ?_
      refine lv_iload hx hb dX2_remainder_44 (lv_at hl 3 rfl) ?_
      refine lv_iload hx hb dX2_remainder_46 (lv_at hl 1 rfl) ?_
      refine lv_isub hx hb dX2_remainder_48 ?_
      refine zz_lshl hx hb dX2_remainder_49 ?_
      refine lv_lxor hx hb dX2_remainder_50 ?_
      refine lv_lstore (lv' := [(5, .long (x5 ^^^ (lShl x2 (x7 - x4)))), (2, .long x2), (4, .int x4), (7, .int x7)]) hx hb dX2_remainder_51 hl (by decide) rfl (fun ls hl => ?_)
      refine lv_iinc (v := (x7 + (-1 : Int32))) (lv' := [(7, .int (x7 + (-1 : Int32))), (5, .long (x5 ^^^ (lShl x2 (x7 - x4)))), (2, .long x2), (4, .int x4)]) hx hb dX2_remainder_53 hl (k := 3) rfl rfl (by decide) rfl (fun ls hl => ?_)
      refine lv_goto (tgt := 22) hx hb dX2_remainder_56 (by decide) ?_
      exact hself _ _ _ (lv_sub hl [2, 3, 1, 0] rfl) hf
theorem wX2_remainder_L22 {p : Program} {l : Launch} {e : Env} {s : State} {m : MethodId} {args : Array Value} {below : List Frame} {meth : Method} {c : Code} {D : va_G} {cy : Nat → ClassId} {r0 : Int64} (E0 : En p m c cX2_remainder 8 s args wsX2_remainder RX2 meth (some .long) D cy) (hP : va_P D vwCl [] s.heap) (N : Nat) (x2 : Int64) (x4 : Int32) (k : Int64 → Option (Int64)) (hk : ∀ (x5 : Int64) (ls : Array Slot), lv_has ls 8 [(5, .long x5)] → k x5 = some r0 → GX2_remainder p l e s m args below meth c r0 (F0 m 59 ls [])) : ∀ (n : Nat), ∀ (x5 : Int64) (x7 : Int32) (ls : Array Slot), lv_has ls 8 [(2, .long x2), (4, .int x4), (5, .long x5), (7, .int x7)] → fX2_remainder_L22 N x2 x4 k n x5 x7 = some r0 → GX2_remainder p l e s m args below meth c r0 (F0 m 22 ls []) := by
  intro n
  induction n with
  | zero => intro x5 x7 ls hl hf; cases hf
  | succ n ih => exact wX2_remainder_B22 E0 hP N x2 x4 _ ih k hk
set_option maxHeartbeats 4000000 in
set_option maxRecDepth 100000 in
theorem ctX2_remainder (l : Launch) (D : va_G) (cy : Nat → ClassId) (N : Nat)  (x0 : Int64) (x2 : Int64) (r0 : Int64) (hf : fX2_remainder N x0 x2 = some r0) : Met l yX2_remainder wsX2_remainder rX2_remainder (va_Pc [.long x0, .long x2] (Rd D cy [])) (vp_Sl (fun r => r = r0)) 0 0 (fun _ => False) := by
  refine Met.ofW (cc := cX2_remainder) (maxL := 8) (ret := (some .long)) (by decide) rfl ?_
  intro p e s m args below meth c s₁ B hml hv
  obtain ⟨rfl, hP, hB⟩ := hv
  have hx := B.exec
  have hb := B.bytes
  have hr := B.returns
  have hts := atoms_spec (ws := wsX2_remainder) B.pre
  have hown : s.vm.findClass RX2 = some m.cls := findClass_of_methodNamed B.named
  have hlocks := B.notSynchronized
  have hK := hB.1
  have hN := hB.2
  have hl := lv_entry ([.long x0, .long x2]) (n := 8) (Nat.le_of_ble_eq_true rfl)
  rw [lg_entry_eq]
  generalize (lg_sl ([.long x0, .long x2]) ++ List.replicate (8 - (lg_sl ([.long x0, .long x2])).length) Slot.unset).toArray = ls at hl ⊢
  have hl : lv_has ls 8 [(0, .long x0), (2, .long x2)] := hl
  have E0 : En p m c cX2_remainder 8 s ([.long x0, .long x2] : List Value).toArray wsX2_remainder RX2 meth (some .long) D cy := ⟨⟨hx, hb, hml, hown, hts⟩, hr, hlocks, hB⟩
  unfold fX2_remainder at hf
  refine lv_lload_n hx hb dX2_remainder_0 rfl (lv_at hl 1 rfl) ?_
  obtain ⟨u1, h_2, hf⟩ := bind_some hf
  have hP_u1 : va_P D vwCl [] s.heap := hP.sub [] rfl
  refine cz_i (va_runS (As := [.long x2]) (rest := []) ⟨hx, hb, hml, hown, hts⟩ (ctX2_degree l D cy N   x2 u1 h_2) (va_cwS 1 hts gX2_remainder_X2_degree rfl rfl rfl (by decide +kernel) ⟨Nat.le_of_ble_eq_true rfl, Nat.le_of_ble_eq_true rfl⟩) (preS_rd [.long x2] hP_u1 hB) rfl rfl hl.1 rfl (lv_room (Nat.le_of_ble_eq_true rfl)) dX2_remainder_1 ⟨Nat.zero_le _, Nat.zero_le _⟩) ?_
  refine lv_istore (lv' := [(4, .int u1), (0, .long x0), (2, .long x2)]) hx hb dX2_remainder_4 hl (by decide) rfl (fun ls hl => ?_)
  refine lv_iload hx hb dX2_remainder_6 (lv_at hl 0 rfl) ?_
  refine lv_if_ge (tgt := 13) hx hb dX2_remainder_8 (by decide) (fun c_3 => ?_) (fun c_3 => ?_)
  · have hf := ite_t hf c_3
    refine lv_lload_n hx hb dX2_remainder_13 rfl (lv_at hl 1 rfl) ?_
    refine lv_lstore (lv' := [(5, .long x0), (4, .int u1), (0, .long x0), (2, .long x2)]) hx hb dX2_remainder_14 hl (by decide) rfl (fun ls hl => ?_)
    refine lv_lload_n hx hb dX2_remainder_16 rfl (lv_at hl 2 rfl) ?_
    obtain ⟨u4, h_5, hf⟩ := bind_some hf
    have hP_u4 : va_P D vwCl [] s.heap := hP.sub [] rfl
    refine cz_i (va_runS (As := [.long x0]) (rest := []) ⟨hx, hb, hml, hown, hts⟩ (ctX2_degree l D cy N   x0 u4 h_5) (va_cwS 1 hts gX2_remainder_X2_degree rfl rfl rfl (by decide +kernel) ⟨Nat.le_of_ble_eq_true rfl, Nat.le_of_ble_eq_true rfl⟩) (preS_rd [.long x0] hP_u4 hB) rfl rfl hl.1 rfl (lv_room (Nat.le_of_ble_eq_true rfl)) dX2_remainder_17 ⟨Nat.zero_le _, Nat.zero_le _⟩) ?_
    refine lv_istore (lv' := [(7, .int u4), (5, .long x0), (4, .int u1), (0, .long x0), (2, .long x2)]) hx hb dX2_remainder_20 hl (by decide) rfl (fun ls hl => ?_)
    refine wX2_remainder_L22 E0 hP N x2 u1 _ (fun x5_8 ls hl hf => ?_) N _ _ _ (lv_sub hl [4, 2, 1, 0] rfl) hf
    refine lv_lload hx hb dX2_remainder_59 (lv_at hl 0 rfl) ?_
    exact W.lret (v := x5_8) hx hb hr (fun t ht hW => ⟨_, rfl, Option.some.inj hf, ht⟩) (fun _ h => absurd h List.not_mem_nil) dX2_remainder_61
  · have hf := ite_f hf c_3
    refine lv_lload_n hx hb dX2_remainder_11 rfl (lv_at hl 1 rfl) ?_
    exact W.lret (v := x0) hx hb hr (fun t ht hW => ⟨_, rfl, Option.some.inj hf, ht⟩) (fun _ h => absurd h List.not_mem_nil) dX2_remainder_12
/-! SumForms$Polynomials.greatestCommon(JJ)J -/
abbrev rX2_greatestCommon : Room := { frames := 2, cells := 0, slots := 0, locals := 50 }
abbrev GX2_greatestCommon (p : Program) (l : Launch) (e : Env) (s : State) (m : MethodId) (args : Array Value) (below : List Frame) (meth : Method) (c : Code) (r0 : Int64) (fr : JFrame) : Prop := W p l e (headSpec wsX2_greatestCommon rX2_greatestCommon).room s m args below meth c s.heap [] 0 0 (MQ below (vp_Sl (fun r => r = r0)) args s 0 0 (fun _ => False)) fr
def fX2_greatestCommon_B9 (N : Nat)  (self : Int64 → Int64 → Int32 → Option (Int64)) (k : Int64 → Option (Int64)) (x4 : Int64) (x6 : Int64) (x8 : Int32) : Option (Int64) := (if (64 : Int32) ≤ x8 then (k x4) else (if x6 = (0 : Int64) then (k x4) else ((fX2_remainder N x4 x6).bind (fun u3 => (self x6 u3 (x8 + (1 : Int32)))))))
def fX2_greatestCommon_L9 (N : Nat)  (k : Int64 → Option (Int64)) : Nat → Int64 → Int64 → Int32 → Option (Int64)
  | 0 => fun _ _ _ => none
  | n + 1 => fun x4 x6 x8 => fX2_greatestCommon_B9 N (fX2_greatestCommon_L9 N k n) k x4 x6 x8
def fX2_greatestCommon (N : Nat)  (x0 : Int64) (x2 : Int64) : Option (Int64) := (fX2_greatestCommon_L9 N (fun x4_5 => (some x4_5)) N x0 x2 (0 : Int32))
set_option maxHeartbeats 4000000 in
set_option maxRecDepth 100000 in
theorem wX2_greatestCommon_B9 {p : Program} {l : Launch} {e : Env} {s : State} {m : MethodId} {args : Array Value} {below : List Frame} {meth : Method} {c : Code} {D : va_G} {cy : Nat → ClassId} {r0 : Int64} (E0 : En p m c cX2_greatestCommon 11 s args wsX2_greatestCommon RX2 meth (some .long) D cy) (hP : va_P D vwCl [] s.heap) (N : Nat)  (self : Int64 → Int64 → Int32 → Option (Int64)) (hself : ∀ (x4 : Int64) (x6 : Int64) (x8 : Int32) (ls : Array Slot), lv_has ls 11 [(4, .long x4), (6, .long x6), (8, .int x8)] → self x4 x6 x8 = some r0 → GX2_greatestCommon p l e s m args below meth c r0 (F0 m 9 ls [])) (k : Int64 → Option (Int64)) (hk : ∀ (x4 : Int64) (ls : Array Slot), lv_has ls 11 [(4, .long x4)] → k x4 = some r0 → GX2_greatestCommon p l e s m args below meth c r0 (F0 m 46 ls [])) : ∀ (x4 : Int64) (x6 : Int64) (x8 : Int32) (ls : Array Slot), lv_has ls 11 [(4, .long x4), (6, .long x6), (8, .int x8)] → fX2_greatestCommon_B9 N self k x4 x6 x8 = some r0 → GX2_greatestCommon p l e s m args below meth c r0 (F0 m 9 ls []) := by
  obtain ⟨⟨hx, hb, hml, hown, hts⟩, hr, hlocks, hB⟩ := id E0
  have hK := hB.1
  have hN := hB.2
  intro x4 x6 x8 ls hl hf
  unfold fX2_greatestCommon_B9 at hf
  refine lv_iload hx hb dX2_greatestCommon_9 (lv_at hl 2 rfl) ?_
  refine lv_bipush (v := (64 : Int32)) hx hb dX2_greatestCommon_11 (by decide) ?_
  refine lv_icmp_ge (tgt := 46) hx hb dX2_greatestCommon_13 (by decide) (fun c_1 => ?_) (fun c_1 => ?_)
  · have hf := ite_t hf c_1
    exact hk _ _ (lv_sub hl [0] rfl) hf
  · have hf := ite_f hf c_1
    refine lv_lload hx hb dX2_greatestCommon_16 (lv_at hl 1 rfl) ?_
    refine lv_lconst (v := (0 : Int64)) hx hb dX2_greatestCommon_18 (by decide) ?_
    refine zz_lc_eq (tgt := 46) hx hb dX2_greatestCommon_19 dX2_greatestCommon_20 (by decide) (fun c_2 => ?_) (fun c_2 => ?_)
    · have hf := ite_t hf c_2
      exact hk _ _ (lv_sub hl [0] rfl) hf
    · have hf := ite_f hf c_2
      refine lv_lload hx hb dX2_greatestCommon_23 (lv_at hl 0 rfl) ?_
      refine lv_lload hx hb dX2_greatestCommon_25 (lv_at hl 1 rfl) ?_
      obtain ⟨u3, h_4, hf⟩ := bind_some hf
      have hP_u3 : va_P D vwCl [] s.heap := hP.sub [] rfl
      refine cz_l (va_runS (As := [.long x4, .long x6]) (rest := []) ⟨hx, hb, hml, hown, hts⟩ (ctX2_remainder l D cy N   x4 x6 u3 h_4) (va_cwS 2 hts gX2_greatestCommon_X2_remainder rfl rfl rfl (by decide +kernel) ⟨Nat.le_of_ble_eq_true rfl, Nat.le_of_ble_eq_true rfl⟩) (preS_rd [.long x4, .long x6] hP_u3 hB) rfl rfl hl.1 rfl (lv_room (Nat.le_of_ble_eq_true rfl)) dX2_greatestCommon_27 ⟨Nat.zero_le _, Nat.zero_le _⟩) ?_
      refine lv_lstore (lv' := [(9, .long u3), (4, .long x4), (6, .long x6), (8, .int x8)]) hx hb dX2_greatestCommon_30 hl (by decide) rfl (fun ls hl => ?_)
      refine lv_lload hx hb dX2_greatestCommon_32 (lv_at hl 2 rfl) ?_
      refine lv_lstore (lv' := [(4, .long x6), (9, .long u3), (6, .long x6), (8, .int x8)]) hx hb dX2_greatestCommon_34 hl (by decide) rfl (fun ls hl => ?_)
      refine lv_lload hx hb dX2_greatestCommon_36 (lv_at hl 1 rfl) ?_
      refine lv_lstore (lv' := [(6, .long u3), (4, .long x6), (9, .long u3), (8, .int x8)]) hx hb dX2_greatestCommon_38 hl (by decide) rfl (fun ls hl => ?_)
      refine lv_iinc (v := (x8 + (1 : Int32))) (lv' := [(8, .int (x8 + (1 : Int32))), (6, .long u3), (4, .long x6), (9, .long u3)]) hx hb dX2_greatestCommon_40 hl (k := 3) rfl rfl (by decide) rfl (fun ls hl => ?_)
      refine lv_goto (tgt := 9) hx hb dX2_greatestCommon_43 (by decide) ?_
      exact hself _ _ _ _ (lv_sub hl [2, 1, 0] rfl) hf
theorem wX2_greatestCommon_L9 {p : Program} {l : Launch} {e : Env} {s : State} {m : MethodId} {args : Array Value} {below : List Frame} {meth : Method} {c : Code} {D : va_G} {cy : Nat → ClassId} {r0 : Int64} (E0 : En p m c cX2_greatestCommon 11 s args wsX2_greatestCommon RX2 meth (some .long) D cy) (hP : va_P D vwCl [] s.heap) (N : Nat)  (k : Int64 → Option (Int64)) (hk : ∀ (x4 : Int64) (ls : Array Slot), lv_has ls 11 [(4, .long x4)] → k x4 = some r0 → GX2_greatestCommon p l e s m args below meth c r0 (F0 m 46 ls [])) : ∀ (n : Nat), ∀ (x4 : Int64) (x6 : Int64) (x8 : Int32) (ls : Array Slot), lv_has ls 11 [(4, .long x4), (6, .long x6), (8, .int x8)] → fX2_greatestCommon_L9 N k n x4 x6 x8 = some r0 → GX2_greatestCommon p l e s m args below meth c r0 (F0 m 9 ls []) := by
  intro n
  induction n with
  | zero => intro x4 x6 x8 ls hl hf; cases hf
  | succ n ih => exact wX2_greatestCommon_B9 E0 hP N _ ih k hk
set_option maxHeartbeats 4000000 in
set_option maxRecDepth 100000 in
theorem ctX2_greatestCommon (l : Launch) (D : va_G) (cy : Nat → ClassId) (N : Nat)  (x0 : Int64) (x2 : Int64) (r0 : Int64) (hf : fX2_greatestCommon N x0 x2 = some r0) : Met l yX2_greatestCommon wsX2_greatestCommon rX2_greatestCommon (va_Pc [.long x0, .long x2] (Rd D cy [])) (vp_Sl (fun r => r = r0)) 0 0 (fun _ => False) := by
  refine Met.ofW (cc := cX2_greatestCommon) (maxL := 11) (ret := (some .long)) (by decide) rfl ?_
  intro p e s m args below meth c s₁ B hml hv
  obtain ⟨rfl, hP, hB⟩ := hv
  have hx := B.exec
  have hb := B.bytes
  have hr := B.returns
  have hts := atoms_spec (ws := wsX2_greatestCommon) B.pre
  have hown : s.vm.findClass RX2 = some m.cls := findClass_of_methodNamed B.named
  have hlocks := B.notSynchronized
  have hK := hB.1
  have hN := hB.2
  have hl := lv_entry ([.long x0, .long x2]) (n := 11) (Nat.le_of_ble_eq_true rfl)
  rw [lg_entry_eq]
  generalize (lg_sl ([.long x0, .long x2]) ++ List.replicate (11 - (lg_sl ([.long x0, .long x2])).length) Slot.unset).toArray = ls at hl ⊢
  have hl : lv_has ls 11 [(0, .long x0), (2, .long x2)] := hl
  have E0 : En p m c cX2_greatestCommon 11 s ([.long x0, .long x2] : List Value).toArray wsX2_greatestCommon RX2 meth (some .long) D cy := ⟨⟨hx, hb, hml, hown, hts⟩, hr, hlocks, hB⟩
  unfold fX2_greatestCommon at hf
  refine lv_lload_n hx hb dX2_greatestCommon_0 rfl (lv_at hl 0 rfl) ?_
  refine lv_lstore (lv' := [(4, .long x0), (0, .long x0), (2, .long x2)]) hx hb dX2_greatestCommon_1 hl (by decide) rfl (fun ls hl => ?_)
  refine lv_lload_n hx hb dX2_greatestCommon_3 rfl (lv_at hl 2 rfl) ?_
  refine lv_lstore (lv' := [(6, .long x2), (4, .long x0), (0, .long x0), (2, .long x2)]) hx hb dX2_greatestCommon_4 hl (by decide) rfl (fun ls hl => ?_)
  refine lv_iconst (v := (0 : Int32)) hx hb dX2_greatestCommon_6 (by decide) ?_
  refine lv_istore (lv' := [(8, .int (0 : Int32)), (6, .long x2), (4, .long x0), (0, .long x0), (2, .long x2)]) hx hb dX2_greatestCommon_7 hl (by decide) rfl (fun ls hl => ?_)
  refine wX2_greatestCommon_L9 E0 hP N  _ (fun x4_5 ls hl hf => ?_) N _ _ _ _ (lv_sub hl [2, 1, 0] rfl) hf
  refine lv_lload hx hb dX2_greatestCommon_46 (lv_at hl 0 rfl) ?_
  exact W.lret (v := x4_5) hx hb hr (fun t ht hW => ⟨_, rfl, Option.some.inj hf, ht⟩) (fun _ h => absurd h List.not_mem_nil) dX2_greatestCommon_48
/-! SumForms$Polynomials.timesX(JJI)J -/
abbrev rX2_timesX : Room := { frames := 0, cells := 0, slots := 0, locals := 0 }
abbrev GX2_timesX (p : Program) (l : Launch) (e : Env) (s : State) (m : MethodId) (args : Array Value) (below : List Frame) (meth : Method) (c : Code) (r0 : Int64) (fr : JFrame) : Prop := W p l e (headSpec wsX2_timesX rX2_timesX).room s m args below meth c s.heap [] 0 0 (MQ below (vp_Sl (fun r => r = r0)) args s 0 0 (fun _ => False)) fr
def fX2_timesX (N : Nat)  (x0 : Int64) (x2 : Int64) (x4 : Int32) : Option (Int64) := (if ((lUsh (lShl x0 (1 : Int32)) x4) &&& (1 : Int64)) = (0 : Int64) then (some (lShl x0 (1 : Int32))) else (some ((lShl x0 (1 : Int32)) ^^^ x2)))
set_option maxHeartbeats 4000000 in
set_option maxRecDepth 100000 in
theorem ctX2_timesX (l : Launch) (D : va_G) (cy : Nat → ClassId) (N : Nat)  (x0 : Int64) (x2 : Int64) (x4 : Int32) (r0 : Int64) (hf : fX2_timesX N x0 x2 x4 = some r0) : Met l yX2_timesX wsX2_timesX rX2_timesX (va_Pc [.long x0, .long x2, .int x4] (Rd D cy [])) (vp_Sl (fun r => r = r0)) 0 0 (fun _ => False) := by
  refine Met.ofW (cc := cX2_timesX) (maxL := 7) (ret := (some .long)) (by decide) rfl ?_
  intro p e s m args below meth c s₁ B hml hv
  obtain ⟨rfl, hP, hB⟩ := hv
  have hx := B.exec
  have hb := B.bytes
  have hr := B.returns
  have hts := atoms_spec (ws := wsX2_timesX) B.pre
  have hown : s.vm.findClass RX2 = some m.cls := findClass_of_methodNamed B.named
  have hlocks := B.notSynchronized
  have hK := hB.1
  have hN := hB.2
  have hl := lv_entry ([.long x0, .long x2, .int x4]) (n := 7) (Nat.le_of_ble_eq_true rfl)
  rw [lg_entry_eq]
  generalize (lg_sl ([.long x0, .long x2, .int x4]) ++ List.replicate (7 - (lg_sl ([.long x0, .long x2, .int x4])).length) Slot.unset).toArray = ls at hl ⊢
  have hl : lv_has ls 7 [(0, .long x0), (2, .long x2), (4, .int x4)] := hl
  have E0 : En p m c cX2_timesX 7 s ([.long x0, .long x2, .int x4] : List Value).toArray wsX2_timesX RX2 meth (some .long) D cy := ⟨⟨hx, hb, hml, hown, hts⟩, hr, hlocks, hB⟩
  unfold fX2_timesX at hf
  refine lv_lload_n hx hb dX2_timesX_0 rfl (lv_at hl 0 rfl) ?_
  refine lv_iconst (v := (1 : Int32)) hx hb dX2_timesX_1 (by decide) ?_
  refine zz_lshl hx hb dX2_timesX_2 ?_
  refine lv_lstore (lv' := [(5, .long (lShl x0 (1 : Int32))), (0, .long x0), (2, .long x2), (4, .int x4)]) hx hb dX2_timesX_3 hl (by decide) rfl (fun ls hl => ?_)
  refine lv_lload hx hb dX2_timesX_5 (lv_at hl 0 rfl) ?_
  refine lv_iload hx hb dX2_timesX_7 (lv_at hl 3 rfl) ?_
  refine zz_lushr hx hb dX2_timesX_9 ?_
  refine lv_lconst (v := (1 : Int64)) hx hb dX2_timesX_10 (by decide) ?_
  refine lv_land hx hb dX2_timesX_11 ?_
  refine lv_lconst (v := (0 : Int64)) hx hb dX2_timesX_12 (by decide) ?_
  refine zz_lc_eq (tgt := 24) hx hb dX2_timesX_13 dX2_timesX_14 (by decide) (fun c_1 => ?_) (fun c_1 => ?_)
  · have hf := ite_t hf c_1
    refine lv_lload hx hb dX2_timesX_24 (lv_at hl 0 rfl) ?_
    exact W.lret (v := (lShl x0 (1 : Int32))) hx hb hr (fun t ht hW => ⟨_, rfl, Option.some.inj hf, ht⟩) (fun _ h => absurd h List.not_mem_nil) dX2_timesX_26
  · have hf := ite_f hf c_1
    refine lv_lload hx hb dX2_timesX_17 (lv_at hl 0 rfl) ?_
    refine lv_lload_n hx hb dX2_timesX_19 rfl (lv_at hl 2 rfl) ?_
    refine lv_lxor hx hb dX2_timesX_20 ?_
    refine lv_goto (tgt := 26) hx hb dX2_timesX_21 (by decide) ?_
    exact W.lret (v := ((lShl x0 (1 : Int32)) ^^^ x2)) hx hb hr (fun t ht hW => ⟨_, rfl, Option.some.inj hf, ht⟩) (fun _ h => absurd h List.not_mem_nil) dX2_timesX_26
/-! SumForms$Polynomials.product(JJJ)J -/
abbrev rX2_product : Room := { frames := 1, cells := 0, slots := 0, locals := 26 }
abbrev GX2_product (p : Program) (l : Launch) (e : Env) (s : State) (m : MethodId) (args : Array Value) (below : List Frame) (meth : Method) (c : Code) (r0 : Int64) (fr : JFrame) : Prop := W p l e (headSpec wsX2_product rX2_product).room s m args below meth c s.heap [] 0 0 (MQ below (vp_Sl (fun r => r = r0)) args s 0 0 (fun _ => False)) fr
def fX2_product_B16 (N : Nat) (x0 : Int64) (x2 : Int64) (x4 : Int64) (x6 : Int32) (self : Int64 → Int32 → Option (Int64)) (k : Int64 → Option (Int64)) (x7 : Int64) (x9 : Int32) : Option (Int64) := (if x9 < 0 then (k x7) else ((fX2_timesX N x7 x4 x6).bind (fun u4 => (if ((lUsh x2 x9) &&& (1 : Int64)) = (0 : Int64) then (self u4 (x9 + (-1 : Int32))) else (self (u4 ^^^ x0) (x9 + (-1 : Int32)))))))
def fX2_product_L16 (N : Nat) (x0 : Int64) (x2 : Int64) (x4 : Int64) (x6 : Int32) (k : Int64 → Option (Int64)) : Nat → Int64 → Int32 → Option (Int64)
  | 0 => fun _ _ => none
  | n + 1 => fun x7 x9 => fX2_product_B16 N x0 x2 x4 x6 (fX2_product_L16 N x0 x2 x4 x6 k n) k x7 x9
def fX2_product (N : Nat)  (x0 : Int64) (x2 : Int64) (x4 : Int64) : Option (Int64) := ((fX2_degree N x4).bind (fun u1 => (fX2_product_L16 N x0 x2 x4 u1 (fun x7_7 => (some x7_7)) N (0 : Int64) (u1 - (1 : Int32)))))
set_option maxHeartbeats 4000000 in
set_option maxRecDepth 100000 in
theorem wX2_product_B16 {p : Program} {l : Launch} {e : Env} {s : State} {m : MethodId} {args : Array Value} {below : List Frame} {meth : Method} {c : Code} {D : va_G} {cy : Nat → ClassId} {r0 : Int64} (E0 : En p m c cX2_product 10 s args wsX2_product RX2 meth (some .long) D cy) (hP : va_P D vwCl [] s.heap) (N : Nat) (x0 : Int64) (x2 : Int64) (x4 : Int64) (x6 : Int32) (self : Int64 → Int32 → Option (Int64)) (hself : ∀ (x7 : Int64) (x9 : Int32) (ls : Array Slot), lv_has ls 10 [(0, .long x0), (2, .long x2), (4, .long x4), (6, .int x6), (7, .long x7), (9, .int x9)] → self x7 x9 = some r0 → GX2_product p l e s m args below meth c r0 (F0 m 16 ls [])) (k : Int64 → Option (Int64)) (hk : ∀ (x7 : Int64) (ls : Array Slot), lv_has ls 10 [(7, .long x7)] → k x7 = some r0 → GX2_product p l e s m args below meth c r0 (F0 m 55 ls [])) : ∀ (x7 : Int64) (x9 : Int32) (ls : Array Slot), lv_has ls 10 [(0, .long x0), (2, .long x2), (4, .long x4), (6, .int x6), (7, .long x7), (9, .int x9)] → fX2_product_B16 N x0 x2 x4 x6 self k x7 x9 = some r0 → GX2_product p l e s m args below meth c r0 (F0 m 16 ls []) := by
  obtain ⟨⟨hx, hb, hml, hown, hts⟩, hr, hlocks, hB⟩ := id E0
  have hK := hB.1
  have hN := hB.2
  intro x7 x9 ls hl hf
  unfold fX2_product_B16 at hf
  refine lv_iload hx hb dX2_product_16 (lv_at hl 5 rfl) ?_
  refine lv_if_lt (tgt := 55) hx hb dX2_product_18 (by decide) (fun c_3 => ?_) (fun c_3 => ?_)
  · have hf := ite_t hf c_3
    exact hk _ _ (lv_sub hl [4] rfl) hf
  · have hf := ite_f hf c_3
    refine lv_lload hx hb dX2_product_21 (lv_at hl 4 rfl) ?_
    refine lv_lload hx hb dX2_product_23 (lv_at hl 2 rfl) ?_
    refine lv_iload hx hb dX2_product_25 (lv_at hl 3 rfl) ?_
    obtain ⟨u4, h_5, hf⟩ := bind_some hf
    have hP_u4 : va_P D vwCl [] s.heap := hP.sub [] rfl
    refine cz_l (va_runS (As := [.long x7, .long x4, .int x6]) (rest := []) ⟨hx, hb, hml, hown, hts⟩ (ctX2_timesX l D cy N   x7 x4 x6 u4 h_5) (va_cwS 3 hts gX2_product_X2_timesX rfl rfl rfl (by decide +kernel) ⟨Nat.le_of_ble_eq_true rfl, Nat.le_of_ble_eq_true rfl⟩) (preS_rd [.long x7, .long x4, .int x6] hP_u4 hB) rfl rfl hl.1 rfl (lv_room (Nat.le_of_ble_eq_true rfl)) dX2_product_27 ⟨Nat.zero_le _, Nat.zero_le _⟩) ?_
    refine lv_lstore (lv' := [(7, .long u4), (0, .long x0), (2, .long x2), (4, .long x4), (6, .int x6), (9, .int x9)]) hx hb dX2_product_30 hl (by decide) rfl (fun ls hl => ?_)
    refine lv_lload_n hx hb dX2_product_32 rfl (lv_at hl 2 rfl) ?_
    refine lv_iload hx hb dX2_product_33 (lv_at hl 5 rfl) ?_
    refine zz_lushr hx hb dX2_product_35 ?_
    refine lv_lconst (v := (1 : Int64)) hx hb dX2_product_36 (by decide) ?_
    refine lv_land hx hb dX2_product_37 ?_
    refine lv_lconst (v := (0 : Int64)) hx hb dX2_product_38 (by decide) ?_
    refine zz_lc_eq (tgt := 49) hx hb dX2_product_39 dX2_product_40 (by decide) (fun c_6 => ?_) (fun c_6 => ?_)
    · have hf := ite_t hf c_6
      refine lv_iinc (v := (x9 + (-1 : Int32))) (lv' := [(9, .int (x9 + (-1 : Int32))), (7, .long u4), (0, .long x0), (2, .long x2), (4, .long x4), (6, .int x6)]) hx hb dX2_product_49 hl (k := 5) rfl rfl (by decide) rfl (fun ls hl => ?_)
      refine lv_goto (tgt := 16) hx hb dX2_product_52 (by decide) ?_
      exact hself _ _ _ (lv_sub hl [2, 3, 4, 5, 1, 0] rfl) hf
    · have hf := ite_f hf c_6
      refine lv_lload hx hb dX2_product_43 (lv_at hl 0 rfl) ?_
      refine lv_lload_n hx hb dX2_product_45 rfl (lv_at hl 1 rfl) ?_
      refine lv_lxor hx hb dX2_product_46 ?_
      refine lv_lstore (lv' := [(7, .long (u4 ^^^ x0)), (0, .long x0), (2, .long x2), (4, .long x4), (6, .int x6), (9, .int x9)]) hx hb dX2_product_47 hl (by decide) rfl (fun ls hl => ?_)
      refine lv_iinc (v := (x9 + (-1 : Int32))) (lv' := [(9, .int (x9 + (-1 : Int32))), (7, .long (u4 ^^^ x0)), (0, .long x0), (2, .long x2), (4, .long x4), (6, .int x6)]) hx hb dX2_product_49 hl (k := 5) rfl rfl (by decide) rfl (fun ls hl => ?_)
      refine lv_goto (tgt := 16) hx hb dX2_product_52 (by decide) ?_
      exact hself _ _ _ (lv_sub hl [2, 3, 4, 5, 1, 0] rfl) hf
theorem wX2_product_L16 {p : Program} {l : Launch} {e : Env} {s : State} {m : MethodId} {args : Array Value} {below : List Frame} {meth : Method} {c : Code} {D : va_G} {cy : Nat → ClassId} {r0 : Int64} (E0 : En p m c cX2_product 10 s args wsX2_product RX2 meth (some .long) D cy) (hP : va_P D vwCl [] s.heap) (N : Nat) (x0 : Int64) (x2 : Int64) (x4 : Int64) (x6 : Int32) (k : Int64 → Option (Int64)) (hk : ∀ (x7 : Int64) (ls : Array Slot), lv_has ls 10 [(7, .long x7)] → k x7 = some r0 → GX2_product p l e s m args below meth c r0 (F0 m 55 ls [])) : ∀ (n : Nat), ∀ (x7 : Int64) (x9 : Int32) (ls : Array Slot), lv_has ls 10 [(0, .long x0), (2, .long x2), (4, .long x4), (6, .int x6), (7, .long x7), (9, .int x9)] → fX2_product_L16 N x0 x2 x4 x6 k n x7 x9 = some r0 → GX2_product p l e s m args below meth c r0 (F0 m 16 ls []) := by
  intro n
  induction n with
  | zero => intro x7 x9 ls hl hf; cases hf
  | succ n ih => exact wX2_product_B16 E0 hP N x0 x2 x4 x6 _ ih k hk
set_option maxHeartbeats 4000000 in
set_option maxRecDepth 100000 in
theorem ctX2_product (l : Launch) (D : va_G) (cy : Nat → ClassId) (N : Nat)  (x0 : Int64) (x2 : Int64) (x4 : Int64) (r0 : Int64) (hf : fX2_product N x0 x2 x4 = some r0) : Met l yX2_product wsX2_product rX2_product (va_Pc [.long x0, .long x2, .long x4] (Rd D cy [])) (vp_Sl (fun r => r = r0)) 0 0 (fun _ => False) := by
  refine Met.ofW (cc := cX2_product) (maxL := 10) (ret := (some .long)) (by decide) rfl ?_
  intro p e s m args below meth c s₁ B hml hv
  obtain ⟨rfl, hP, hB⟩ := hv
  have hx := B.exec
  have hb := B.bytes
  have hr := B.returns
  have hts := atoms_spec (ws := wsX2_product) B.pre
  have hown : s.vm.findClass RX2 = some m.cls := findClass_of_methodNamed B.named
  have hlocks := B.notSynchronized
  have hK := hB.1
  have hN := hB.2
  have hl := lv_entry ([.long x0, .long x2, .long x4]) (n := 10) (Nat.le_of_ble_eq_true rfl)
  rw [lg_entry_eq]
  generalize (lg_sl ([.long x0, .long x2, .long x4]) ++ List.replicate (10 - (lg_sl ([.long x0, .long x2, .long x4])).length) Slot.unset).toArray = ls at hl ⊢
  have hl : lv_has ls 10 [(0, .long x0), (2, .long x2), (4, .long x4)] := hl
  have E0 : En p m c cX2_product 10 s ([.long x0, .long x2, .long x4] : List Value).toArray wsX2_product RX2 meth (some .long) D cy := ⟨⟨hx, hb, hml, hown, hts⟩, hr, hlocks, hB⟩
  unfold fX2_product at hf
  refine lv_lload hx hb dX2_product_0 (lv_at hl 2 rfl) ?_
  obtain ⟨u1, h_2, hf⟩ := bind_some hf
  have hP_u1 : va_P D vwCl [] s.heap := hP.sub [] rfl
  refine cz_i (va_runS (As := [.long x4]) (rest := []) ⟨hx, hb, hml, hown, hts⟩ (ctX2_degree l D cy N   x4 u1 h_2) (va_cwS 1 hts gX2_product_X2_degree rfl rfl rfl (by decide +kernel) ⟨Nat.le_of_ble_eq_true rfl, Nat.le_of_ble_eq_true rfl⟩) (preS_rd [.long x4] hP_u1 hB) rfl rfl hl.1 rfl (lv_room (Nat.le_of_ble_eq_true rfl)) dX2_product_2 ⟨Nat.zero_le _, Nat.zero_le _⟩) ?_
  refine lv_istore (lv' := [(6, .int u1), (0, .long x0), (2, .long x2), (4, .long x4)]) hx hb dX2_product_5 hl (by decide) rfl (fun ls hl => ?_)
  refine lv_lconst (v := (0 : Int64)) hx hb dX2_product_7 (by decide) ?_
  refine lv_lstore (lv' := [(7, .long (0 : Int64)), (6, .int u1), (0, .long x0), (2, .long x2), (4, .long x4)]) hx hb dX2_product_8 hl (by decide) rfl (fun ls hl => ?_)
  refine lv_iload hx hb dX2_product_10 (lv_at hl 1 rfl) ?_
  refine lv_iconst (v := (1 : Int32)) hx hb dX2_product_12 (by decide) ?_
  refine lv_isub hx hb dX2_product_13 ?_
  refine lv_istore (lv' := [(9, .int (u1 - (1 : Int32))), (7, .long (0 : Int64)), (6, .int u1), (0, .long x0), (2, .long x2), (4, .long x4)]) hx hb dX2_product_14 hl (by decide) rfl (fun ls hl => ?_)
  refine wX2_product_L16 E0 hP N x0 x2 x4 u1 _ (fun x7_7 ls hl hf => ?_) N _ _ _ (lv_sub hl [3, 4, 5, 2, 1, 0] rfl) hf
  refine lv_lload hx hb dX2_product_55 (lv_at hl 0 rfl) ?_
  exact W.lret (v := x7_7) hx hb hr (fun t ht hW => ⟨_, rfl, Option.some.inj hf, ht⟩) (fun _ h => absurd h List.not_mem_nil) dX2_product_57
/-! SumForms$Polynomials.powerOfX(JJ)J -/
abbrev rX2_powerOfX : Room := { frames := 2, cells := 0, slots := 0, locals := 55 }
abbrev GX2_powerOfX (p : Program) (l : Launch) (e : Env) (s : State) (m : MethodId) (args : Array Value) (below : List Frame) (meth : Method) (c : Code) (r0 : Int64) (fr : JFrame) : Prop := W p l e (headSpec wsX2_powerOfX rX2_powerOfX).room s m args below meth c s.heap [] 0 0 (MQ below (vp_Sl (fun r => r = r0)) args s 0 0 (fun _ => False)) fr
def fX2_powerOfX_B15 (N : Nat) (x0 : Int64) (x2 : Int64) (x4 : Int32) (self : Int64 → Int32 → Option (Int64)) (k : Int64 → Option (Int64)) (x5 : Int64) (x7 : Int32) : Option (Int64) := (if x7 < 0 then (k x5) else ((fX2_product N x5 x5 x2).bind (fun u6 => (if ((lUsh x0 x7) &&& (1 : Int64)) = (0 : Int64) then (self u6 (x7 + (-1 : Int32))) else ((fX2_timesX N u6 x2 x4).bind (fun u9 => (self u9 (x7 + (-1 : Int32)))))))))
def fX2_powerOfX_L15 (N : Nat) (x0 : Int64) (x2 : Int64) (x4 : Int32) (k : Int64 → Option (Int64)) : Nat → Int64 → Int32 → Option (Int64)
  | 0 => fun _ _ => none
  | n + 1 => fun x5 x7 => fX2_powerOfX_B15 N x0 x2 x4 (fX2_powerOfX_L15 N x0 x2 x4 k n) k x5 x7
def fX2_powerOfX (N : Nat)  (x0 : Int64) (x2 : Int64) : Option (Int64) := ((fX2_degree N x2).bind (fun u1 => ((fX2_degree N x0).bind (fun u3 => (fX2_powerOfX_L15 N x0 x2 u1 (fun x5_11 => (some x5_11)) N (1 : Int64) u3)))))
set_option maxHeartbeats 4000000 in
set_option maxRecDepth 100000 in
theorem wX2_powerOfX_B15 {p : Program} {l : Launch} {e : Env} {s : State} {m : MethodId} {args : Array Value} {below : List Frame} {meth : Method} {c : Code} {D : va_G} {cy : Nat → ClassId} {r0 : Int64} (E0 : En p m c cX2_powerOfX 8 s args wsX2_powerOfX RX2 meth (some .long) D cy) (hP : va_P D vwCl [] s.heap) (N : Nat) (x0 : Int64) (x2 : Int64) (x4 : Int32) (self : Int64 → Int32 → Option (Int64)) (hself : ∀ (x5 : Int64) (x7 : Int32) (ls : Array Slot), lv_has ls 8 [(0, .long x0), (2, .long x2), (4, .int x4), (5, .long x5), (7, .int x7)] → self x5 x7 = some r0 → GX2_powerOfX p l e s m args below meth c r0 (F0 m 15 ls [])) (k : Int64 → Option (Int64)) (hk : ∀ (x5 : Int64) (ls : Array Slot), lv_has ls 8 [(5, .long x5)] → k x5 = some r0 → GX2_powerOfX p l e s m args below meth c r0 (F0 m 57 ls [])) : ∀ (x5 : Int64) (x7 : Int32) (ls : Array Slot), lv_has ls 8 [(0, .long x0), (2, .long x2), (4, .int x4), (5, .long x5), (7, .int x7)] → fX2_powerOfX_B15 N x0 x2 x4 self k x5 x7 = some r0 → GX2_powerOfX p l e s m args below meth c r0 (F0 m 15 ls []) := by
  obtain ⟨⟨hx, hb, hml, hown, hts⟩, hr, hlocks, hB⟩ := id E0
  have hK := hB.1
  have hN := hB.2
  intro x5 x7 ls hl hf
  unfold fX2_powerOfX_B15 at hf
  refine lv_iload hx hb dX2_powerOfX_15 (lv_at hl 4 rfl) ?_
  refine lv_if_lt (tgt := 57) hx hb dX2_powerOfX_17 (by decide) (fun c_5 => ?_) (fun c_5 => ?_)
  · have hf := ite_t hf c_5
    exact hk _ _ (lv_sub hl [3] rfl) hf
  · have hf := ite_f hf c_5
    refine lv_lload hx hb dX2_powerOfX_20 (lv_at hl 3 rfl) ?_
    refine lv_lload hx hb dX2_powerOfX_22 (lv_at hl 3 rfl) ?_
    refine lv_lload_n hx hb dX2_powerOfX_24 rfl (lv_at hl 1 rfl) ?_
    obtain ⟨u6, h_7, hf⟩ := bind_some hf
    have hP_u6 : va_P D vwCl [] s.heap := hP.sub [] rfl
    refine cz_l (va_runS (As := [.long x5, .long x5, .long x2]) (rest := []) ⟨hx, hb, hml, hown, hts⟩ (ctX2_product l D cy N   x5 x5 x2 u6 h_7) (va_cwS 3 hts gX2_powerOfX_X2_product rfl rfl rfl (by decide +kernel) ⟨Nat.le_of_ble_eq_true rfl, Nat.le_of_ble_eq_true rfl⟩) (preS_rd [.long x5, .long x5, .long x2] hP_u6 hB) rfl rfl hl.1 rfl (lv_room (Nat.le_of_ble_eq_true rfl)) dX2_powerOfX_25 ⟨Nat.zero_le _, Nat.zero_le _⟩) ?_
    refine lv_lstore (lv' := [(5, .long u6), (0, .long x0), (2, .long x2), (4, .int x4), (7, .int x7)]) hx hb dX2_powerOfX_28 hl (by decide) rfl (fun ls hl => ?_)
    refine lv_lload_n hx hb dX2_powerOfX_30 rfl (lv_at hl 1 rfl) ?_
    refine lv_iload hx hb dX2_powerOfX_31 (lv_at hl 4 rfl) ?_
    refine zz_lushr hx hb dX2_powerOfX_33 ?_
    refine lv_lconst (v := (1 : Int64)) hx hb dX2_powerOfX_34 (by decide) ?_
    refine lv_land hx hb dX2_powerOfX_35 ?_
    refine lv_lconst (v := (0 : Int64)) hx hb dX2_powerOfX_36 (by decide) ?_
    refine zz_lc_eq (tgt := 51) hx hb dX2_powerOfX_37 dX2_powerOfX_38 (by decide) (fun c_8 => ?_) (fun c_8 => ?_)
    · have hf := ite_t hf c_8
      refine lv_iinc (v := (x7 + (-1 : Int32))) (lv' := [(7, .int (x7 + (-1 : Int32))), (5, .long u6), (0, .long x0), (2, .long x2), (4, .int x4)]) hx hb dX2_powerOfX_51 hl (k := 4) rfl rfl (by decide) rfl (fun ls hl => ?_)
      refine lv_goto (tgt := 15) hx hb dX2_powerOfX_54 (by decide) ?_
      exact hself _ _ _ (lv_sub hl [2, 3, 4, 1, 0] rfl) hf
    · have hf := ite_f hf c_8
      refine lv_lload hx hb dX2_powerOfX_41 (lv_at hl 0 rfl) ?_
      refine lv_lload_n hx hb dX2_powerOfX_43 rfl (lv_at hl 2 rfl) ?_
      refine lv_iload hx hb dX2_powerOfX_44 (lv_at hl 3 rfl) ?_
      obtain ⟨u9, h_10, hf⟩ := bind_some hf
      have hP_u9 : va_P D vwCl [] s.heap := hP.sub [] rfl
      refine cz_l (va_runS (As := [.long u6, .long x2, .int x4]) (rest := []) ⟨hx, hb, hml, hown, hts⟩ (ctX2_timesX l D cy N   u6 x2 x4 u9 h_10) (va_cwS 3 hts gX2_powerOfX_X2_timesX rfl rfl rfl (by decide +kernel) ⟨Nat.le_of_ble_eq_true rfl, Nat.le_of_ble_eq_true rfl⟩) (preS_rd [.long u6, .long x2, .int x4] hP_u9 hB) rfl rfl hl.1 rfl (lv_room (Nat.le_of_ble_eq_true rfl)) dX2_powerOfX_46 ⟨Nat.zero_le _, Nat.zero_le _⟩) ?_
      refine lv_lstore (lv' := [(5, .long u9), (0, .long x0), (2, .long x2), (4, .int x4), (7, .int x7)]) hx hb dX2_powerOfX_49 hl (by decide) rfl (fun ls hl => ?_)
      refine lv_iinc (v := (x7 + (-1 : Int32))) (lv' := [(7, .int (x7 + (-1 : Int32))), (5, .long u9), (0, .long x0), (2, .long x2), (4, .int x4)]) hx hb dX2_powerOfX_51 hl (k := 4) rfl rfl (by decide) rfl (fun ls hl => ?_)
      refine lv_goto (tgt := 15) hx hb dX2_powerOfX_54 (by decide) ?_
      exact hself _ _ _ (lv_sub hl [2, 3, 4, 1, 0] rfl) hf
theorem wX2_powerOfX_L15 {p : Program} {l : Launch} {e : Env} {s : State} {m : MethodId} {args : Array Value} {below : List Frame} {meth : Method} {c : Code} {D : va_G} {cy : Nat → ClassId} {r0 : Int64} (E0 : En p m c cX2_powerOfX 8 s args wsX2_powerOfX RX2 meth (some .long) D cy) (hP : va_P D vwCl [] s.heap) (N : Nat) (x0 : Int64) (x2 : Int64) (x4 : Int32) (k : Int64 → Option (Int64)) (hk : ∀ (x5 : Int64) (ls : Array Slot), lv_has ls 8 [(5, .long x5)] → k x5 = some r0 → GX2_powerOfX p l e s m args below meth c r0 (F0 m 57 ls [])) : ∀ (n : Nat), ∀ (x5 : Int64) (x7 : Int32) (ls : Array Slot), lv_has ls 8 [(0, .long x0), (2, .long x2), (4, .int x4), (5, .long x5), (7, .int x7)] → fX2_powerOfX_L15 N x0 x2 x4 k n x5 x7 = some r0 → GX2_powerOfX p l e s m args below meth c r0 (F0 m 15 ls []) := by
  intro n
  induction n with
  | zero => intro x5 x7 ls hl hf; cases hf
  | succ n ih => exact wX2_powerOfX_B15 E0 hP N x0 x2 x4 _ ih k hk
set_option maxHeartbeats 4000000 in
set_option maxRecDepth 100000 in
theorem ctX2_powerOfX (l : Launch) (D : va_G) (cy : Nat → ClassId) (N : Nat)  (x0 : Int64) (x2 : Int64) (r0 : Int64) (hf : fX2_powerOfX N x0 x2 = some r0) : Met l yX2_powerOfX wsX2_powerOfX rX2_powerOfX (va_Pc [.long x0, .long x2] (Rd D cy [])) (vp_Sl (fun r => r = r0)) 0 0 (fun _ => False) := by
  refine Met.ofW (cc := cX2_powerOfX) (maxL := 8) (ret := (some .long)) (by decide) rfl ?_
  intro p e s m args below meth c s₁ B hml hv
  obtain ⟨rfl, hP, hB⟩ := hv
  have hx := B.exec
  have hb := B.bytes
  have hr := B.returns
  have hts := atoms_spec (ws := wsX2_powerOfX) B.pre
  have hown : s.vm.findClass RX2 = some m.cls := findClass_of_methodNamed B.named
  have hlocks := B.notSynchronized
  have hK := hB.1
  have hN := hB.2
  have hl := lv_entry ([.long x0, .long x2]) (n := 8) (Nat.le_of_ble_eq_true rfl)
  rw [lg_entry_eq]
  generalize (lg_sl ([.long x0, .long x2]) ++ List.replicate (8 - (lg_sl ([.long x0, .long x2])).length) Slot.unset).toArray = ls at hl ⊢
  have hl : lv_has ls 8 [(0, .long x0), (2, .long x2)] := hl
  have E0 : En p m c cX2_powerOfX 8 s ([.long x0, .long x2] : List Value).toArray wsX2_powerOfX RX2 meth (some .long) D cy := ⟨⟨hx, hb, hml, hown, hts⟩, hr, hlocks, hB⟩
  unfold fX2_powerOfX at hf
  refine lv_lload_n hx hb dX2_powerOfX_0 rfl (lv_at hl 1 rfl) ?_
  obtain ⟨u1, h_2, hf⟩ := bind_some hf
  have hP_u1 : va_P D vwCl [] s.heap := hP.sub [] rfl
  refine cz_i (va_runS (As := [.long x2]) (rest := []) ⟨hx, hb, hml, hown, hts⟩ (ctX2_degree l D cy N   x2 u1 h_2) (va_cwS 1 hts gX2_powerOfX_X2_degree rfl rfl rfl (by decide +kernel) ⟨Nat.le_of_ble_eq_true rfl, Nat.le_of_ble_eq_true rfl⟩) (preS_rd [.long x2] hP_u1 hB) rfl rfl hl.1 rfl (lv_room (Nat.le_of_ble_eq_true rfl)) dX2_powerOfX_1 ⟨Nat.zero_le _, Nat.zero_le _⟩) ?_
  refine lv_istore (lv' := [(4, .int u1), (0, .long x0), (2, .long x2)]) hx hb dX2_powerOfX_4 hl (by decide) rfl (fun ls hl => ?_)
  refine lv_lconst (v := (1 : Int64)) hx hb dX2_powerOfX_6 (by decide) ?_
  refine lv_lstore (lv' := [(5, .long (1 : Int64)), (4, .int u1), (0, .long x0), (2, .long x2)]) hx hb dX2_powerOfX_7 hl (by decide) rfl (fun ls hl => ?_)
  refine lv_lload_n hx hb dX2_powerOfX_9 rfl (lv_at hl 2 rfl) ?_
  obtain ⟨u3, h_4, hf⟩ := bind_some hf
  have hP_u3 : va_P D vwCl [] s.heap := hP.sub [] rfl
  refine cz_i (va_runS (As := [.long x0]) (rest := []) ⟨hx, hb, hml, hown, hts⟩ (ctX2_degree l D cy N   x0 u3 h_4) (va_cwS 1 hts gX2_powerOfX_X2_degree rfl rfl rfl (by decide +kernel) ⟨Nat.le_of_ble_eq_true rfl, Nat.le_of_ble_eq_true rfl⟩) (preS_rd [.long x0] hP_u3 hB) rfl rfl hl.1 rfl (lv_room (Nat.le_of_ble_eq_true rfl)) dX2_powerOfX_10 ⟨Nat.zero_le _, Nat.zero_le _⟩) ?_
  refine lv_istore (lv' := [(7, .int u3), (5, .long (1 : Int64)), (4, .int u1), (0, .long x0), (2, .long x2)]) hx hb dX2_powerOfX_13 hl (by decide) rfl (fun ls hl => ?_)
  refine wX2_powerOfX_L15 E0 hP N x0 x2 u1 _ (fun x5_11 ls hl hf => ?_) N _ _ _ (lv_sub hl [3, 4, 2, 1, 0] rfl) hf
  refine lv_lload hx hb dX2_powerOfX_57 (lv_at hl 0 rfl) ?_
  exact W.lret (v := x5_11) hx hb hr (fun t ht hW => ⟨_, rfl, Option.some.inj hf, ht⟩) (fun _ h => absurd h List.not_mem_nil) dX2_powerOfX_59
/-! SumForms$Polynomials.quotient(JJ)J -/
abbrev rX2_quotient : Room := { frames := 1, cells := 0, slots := 0, locals := 23 }
abbrev GX2_quotient (p : Program) (l : Launch) (e : Env) (s : State) (m : MethodId) (args : Array Value) (below : List Frame) (meth : Method) (c : Code) (r0 : Int64) (fr : JFrame) : Prop := W p l e (headSpec wsX2_quotient rX2_quotient).room s m args below meth c s.heap [] 0 0 (MQ below (vp_Sl (fun r => r = r0)) args s 0 0 (fun _ => False)) fr
def fX2_quotient_B25 (N : Nat) (x2 : Int64) (x4 : Int32) (self : Int64 → Int64 → Int32 → Option (Int64)) (k : Int64 → Option (Int64)) (x5 : Int64) (x7 : Int64) (x9 : Int32) : Option (Int64) := (if x9 < x4 then (k x7) else (if ((lUsh x5 x9) &&& (1 : Int64)) = (0 : Int64) then (self x5 x7 (x9 + (-1 : Int32))) else (self (x5 ^^^ (lShl x2 (x9 - x4))) (x7 ||| (lShl (1 : Int64) (x9 - x4))) (x9 + (-1 : Int32)))))
def fX2_quotient_L25 (N : Nat) (x2 : Int64) (x4 : Int32) (k : Int64 → Option (Int64)) : Nat → Int64 → Int64 → Int32 → Option (Int64)
  | 0 => fun _ _ _ => none
  | n + 1 => fun x5 x7 x9 => fX2_quotient_B25 N x2 x4 (fX2_quotient_L25 N x2 x4 k n) k x5 x7 x9
def fX2_quotient (N : Nat)  (x0 : Int64) (x2 : Int64) : Option (Int64) := ((fX2_degree N x2).bind (fun u1 => (if 0 ≤ u1 then ((fX2_degree N x0).bind (fun u4 => (fX2_quotient_L25 N x2 u1 (fun x7_8 => (some x7_8)) N x0 (0 : Int64) u4))) else (some (0 : Int64)))))
set_option maxHeartbeats 4000000 in
set_option maxRecDepth 100000 in
theorem wX2_quotient_B25 {p : Program} {l : Launch} {e : Env} {s : State} {m : MethodId} {args : Array Value} {below : List Frame} {meth : Method} {c : Code} {D : va_G} {cy : Nat → ClassId} {r0 : Int64} (E0 : En p m c cX2_quotient 10 s args wsX2_quotient RX2 meth (some .long) D cy) (hP : va_P D vwCl [] s.heap) (N : Nat) (x2 : Int64) (x4 : Int32) (self : Int64 → Int64 → Int32 → Option (Int64)) (hself : ∀ (x5 : Int64) (x7 : Int64) (x9 : Int32) (ls : Array Slot), lv_has ls 10 [(2, .long x2), (4, .int x4), (5, .long x5), (7, .long x7), (9, .int x9)] → self x5 x7 x9 = some r0 → GX2_quotient p l e s m args below meth c r0 (F0 m 25 ls [])) (k : Int64 → Option (Int64)) (hk : ∀ (x7 : Int64) (ls : Array Slot), lv_has ls 10 [(7, .long x7)] → k x7 = some r0 → GX2_quotient p l e s m args below meth c r0 (F0 m 74 ls [])) : ∀ (x5 : Int64) (x7 : Int64) (x9 : Int32) (ls : Array Slot), lv_has ls 10 [(2, .long x2), (4, .int x4), (5, .long x5), (7, .long x7), (9, .int x9)] → fX2_quotient_B25 N x2 x4 self k x5 x7 x9 = some r0 → GX2_quotient p l e s m args below meth c r0 (F0 m 25 ls []) := by
  obtain ⟨⟨hx, hb, hml, hown, hts⟩, hr, hlocks, hB⟩ := id E0
  have hK := hB.1
  have hN := hB.2
  intro x5 x7 x9 ls hl hf
  unfold fX2_quotient_B25 at hf
  refine lv_iload hx hb dX2_quotient_25 (lv_at hl 4 rfl) ?_
  refine lv_iload hx hb dX2_quotient_27 (lv_at hl 1 rfl) ?_
  refine lv_icmp_lt (tgt := 74) hx hb dX2_quotient_29 (by decide) (fun c_6 => ?_) (fun c_6 => ?_)
  · have hf := ite_t hf c_6
    exact hk _ _ (lv_sub hl [3] rfl) hf
  · have hf := ite_f hf c_6
    refine lv_lload hx hb dX2_quotient_32 (lv_at hl 2 rfl) ?_
    refine lv_iload hx hb dX2_quotient_34 (lv_at hl 4 rfl) ?_
    refine zz_lushr hx hb dX2_quotient_36 ?_
    refine lv_lconst (v := (1 : Int64)) hx hb dX2_quotient_37 (by decide) ?_
    refine lv_land hx hb dX2_quotient_38 ?_
    refine lv_lconst (v := (0 : Int64)) hx hb dX2_quotient_39 (by decide) ?_
    refine zz_lc_eq (tgt := 68) hx hb dX2_quotient_40 dX2_quotient_41 (by decide) (fun c_7 => ?_) (fun c_7 => ?_)
    · have hf := ite_t hf c_7
      refine lv_iinc (v := (x9 + (-1 : Int32))) (lv' := [(9, .int (x9 + (-1 : Int32))), (2, .long x2), (4, .int x4), (5, .long x5), (7, .long x7)]) hx hb dX2_quotient_68 hl (k := 4) rfl rfl (by decide) rfl (fun ls hl => ?_)
      refine lv_goto (tgt := 25) hx hb dX2_quotient_71 (by decide) ?_
      exact hself _ _ _ _ (lv_sub hl [1, 2, 3, 4, 0] rfl) hf
    · have hf := ite_f hf c_7
      refine lv_lload hx hb dX2_quotient_44 (lv_at hl 2 rfl) ?_
      refine lv_lload_n hx hb dX2_quotient_46 rfl (lv_at hl 0 rfl) ?_
      refine lv_iload hx hb dX2_quotient_47 (lv_at hl 4 rfl) ?_
      refine lv_iload hx hb dX2_quotient_49 (lv_at hl 1 rfl) ?_
      refine lv_isub hx hb dX2_quotient_51 ?_
      refine zz_lshl hx hb dX2_quotient_52 ?_
      refine lv_lxor hx hb dX2_quotient_53 ?_
      refine lv_lstore (lv' := [(5, .long (x5 ^^^ (lShl x2 (x9 - x4)))), (2, .long x2), (4, .int x4), (7, .long x7), (9, .int x9)]) hx hb dX2_quotient_54 hl (by decide) rfl (fun ls hl => ?_)
      refine lv_lload hx hb dX2_quotient_56 (lv_at hl 3 rfl) ?_
      refine lv_lconst (v := (1 : Int64)) hx hb dX2_quotient_58 (by decide) ?_
      refine lv_iload hx hb dX2_quotient_59 (lv_at hl 4 rfl) ?_
      refine lv_iload hx hb dX2_quotient_61 (lv_at hl 2 rfl) ?_
      refine lv_isub hx hb dX2_quotient_63 ?_
      refine zz_lshl hx hb dX2_quotient_64 ?_
      refine lv_lor hx hb dX2_quotient_65 ?_
      refine lv_lstore (lv' := [(7, .long (x7 ||| (lShl (1 : Int64) (x9 - x4)))), (5, .long (x5 ^^^ (lShl x2 (x9 - x4)))), (2, .long x2), (4, .int x4), (9, .int x9)]) hx hb dX2_quotient_66 hl (by decide) rfl (fun ls hl => ?_)
      refine lv_iinc (v := (x9 + (-1 : Int32))) (lv' := [(9, .int (x9 + (-1 : Int32))), (7, .long (x7 ||| (lShl (1 : Int64) (x9 - x4)))), (5, .long (x5 ^^^ (lShl x2 (x9 - x4)))), (2, .long x2), (4, .int x4)]) hx hb dX2_quotient_68 hl (k := 4) rfl rfl (by decide) rfl (fun ls hl => ?_)
      refine lv_goto (tgt := 25) hx hb dX2_quotient_71 (by decide) ?_
      exact hself _ _ _ _ (lv_sub hl [3, 4, 2, 1, 0] rfl) hf
theorem wX2_quotient_L25 {p : Program} {l : Launch} {e : Env} {s : State} {m : MethodId} {args : Array Value} {below : List Frame} {meth : Method} {c : Code} {D : va_G} {cy : Nat → ClassId} {r0 : Int64} (E0 : En p m c cX2_quotient 10 s args wsX2_quotient RX2 meth (some .long) D cy) (hP : va_P D vwCl [] s.heap) (N : Nat) (x2 : Int64) (x4 : Int32) (k : Int64 → Option (Int64)) (hk : ∀ (x7 : Int64) (ls : Array Slot), lv_has ls 10 [(7, .long x7)] → k x7 = some r0 → GX2_quotient p l e s m args below meth c r0 (F0 m 74 ls [])) : ∀ (n : Nat), ∀ (x5 : Int64) (x7 : Int64) (x9 : Int32) (ls : Array Slot), lv_has ls 10 [(2, .long x2), (4, .int x4), (5, .long x5), (7, .long x7), (9, .int x9)] → fX2_quotient_L25 N x2 x4 k n x5 x7 x9 = some r0 → GX2_quotient p l e s m args below meth c r0 (F0 m 25 ls []) := by
  intro n
  induction n with
  | zero => intro x5 x7 x9 ls hl hf; cases hf
  | succ n ih => exact wX2_quotient_B25 E0 hP N x2 x4 _ ih k hk
set_option maxHeartbeats 4000000 in
set_option maxRecDepth 100000 in
theorem ctX2_quotient (l : Launch) (D : va_G) (cy : Nat → ClassId) (N : Nat)  (x0 : Int64) (x2 : Int64) (r0 : Int64) (hf : fX2_quotient N x0 x2 = some r0) : Met l yX2_quotient wsX2_quotient rX2_quotient (va_Pc [.long x0, .long x2] (Rd D cy [])) (vp_Sl (fun r => r = r0)) 0 0 (fun _ => False) := by
  refine Met.ofW (cc := cX2_quotient) (maxL := 10) (ret := (some .long)) (by decide) rfl ?_
  intro p e s m args below meth c s₁ B hml hv
  obtain ⟨rfl, hP, hB⟩ := hv
  have hx := B.exec
  have hb := B.bytes
  have hr := B.returns
  have hts := atoms_spec (ws := wsX2_quotient) B.pre
  have hown : s.vm.findClass RX2 = some m.cls := findClass_of_methodNamed B.named
  have hlocks := B.notSynchronized
  have hK := hB.1
  have hN := hB.2
  have hl := lv_entry ([.long x0, .long x2]) (n := 10) (Nat.le_of_ble_eq_true rfl)
  rw [lg_entry_eq]
  generalize (lg_sl ([.long x0, .long x2]) ++ List.replicate (10 - (lg_sl ([.long x0, .long x2])).length) Slot.unset).toArray = ls at hl ⊢
  have hl : lv_has ls 10 [(0, .long x0), (2, .long x2)] := hl
  have E0 : En p m c cX2_quotient 10 s ([.long x0, .long x2] : List Value).toArray wsX2_quotient RX2 meth (some .long) D cy := ⟨⟨hx, hb, hml, hown, hts⟩, hr, hlocks, hB⟩
  unfold fX2_quotient at hf
  refine lv_lload_n hx hb dX2_quotient_0 rfl (lv_at hl 1 rfl) ?_
  obtain ⟨u1, h_2, hf⟩ := bind_some hf
  have hP_u1 : va_P D vwCl [] s.heap := hP.sub [] rfl
  refine cz_i (va_runS (As := [.long x2]) (rest := []) ⟨hx, hb, hml, hown, hts⟩ (ctX2_degree l D cy N   x2 u1 h_2) (va_cwS 1 hts gX2_quotient_X2_degree rfl rfl rfl (by decide +kernel) ⟨Nat.le_of_ble_eq_true rfl, Nat.le_of_ble_eq_true rfl⟩) (preS_rd [.long x2] hP_u1 hB) rfl rfl hl.1 rfl (lv_room (Nat.le_of_ble_eq_true rfl)) dX2_quotient_1 ⟨Nat.zero_le _, Nat.zero_le _⟩) ?_
  refine lv_istore (lv' := [(4, .int u1), (0, .long x0), (2, .long x2)]) hx hb dX2_quotient_4 hl (by decide) rfl (fun ls hl => ?_)
  refine lv_iload hx hb dX2_quotient_6 (lv_at hl 0 rfl) ?_
  refine lv_if_ge (tgt := 13) hx hb dX2_quotient_8 (by decide) (fun c_3 => ?_) (fun c_3 => ?_)
  · have hf := ite_t hf c_3
    refine lv_lload_n hx hb dX2_quotient_13 rfl (lv_at hl 1 rfl) ?_
    refine lv_lstore (lv' := [(5, .long x0), (4, .int u1), (0, .long x0), (2, .long x2)]) hx hb dX2_quotient_14 hl (by decide) rfl (fun ls hl => ?_)
    refine lv_lconst (v := (0 : Int64)) hx hb dX2_quotient_16 (by decide) ?_
    refine lv_lstore (lv' := [(7, .long (0 : Int64)), (5, .long x0), (4, .int u1), (0, .long x0), (2, .long x2)]) hx hb dX2_quotient_17 hl (by decide) rfl (fun ls hl => ?_)
    refine lv_lload_n hx hb dX2_quotient_19 rfl (lv_at hl 3 rfl) ?_
    obtain ⟨u4, h_5, hf⟩ := bind_some hf
    have hP_u4 : va_P D vwCl [] s.heap := hP.sub [] rfl
    refine cz_i (va_runS (As := [.long x0]) (rest := []) ⟨hx, hb, hml, hown, hts⟩ (ctX2_degree l D cy N   x0 u4 h_5) (va_cwS 1 hts gX2_quotient_X2_degree rfl rfl rfl (by decide +kernel) ⟨Nat.le_of_ble_eq_true rfl, Nat.le_of_ble_eq_true rfl⟩) (preS_rd [.long x0] hP_u4 hB) rfl rfl hl.1 rfl (lv_room (Nat.le_of_ble_eq_true rfl)) dX2_quotient_20 ⟨Nat.zero_le _, Nat.zero_le _⟩) ?_
    refine lv_istore (lv' := [(9, .int u4), (7, .long (0 : Int64)), (5, .long x0), (4, .int u1), (0, .long x0), (2, .long x2)]) hx hb dX2_quotient_23 hl (by decide) rfl (fun ls hl => ?_)
    refine wX2_quotient_L25 E0 hP N x2 u1 _ (fun x7_8 ls hl hf => ?_) N _ _ _ _ (lv_sub hl [5, 3, 2, 1, 0] rfl) hf
    refine lv_lload hx hb dX2_quotient_74 (lv_at hl 0 rfl) ?_
    exact W.lret (v := x7_8) hx hb hr (fun t ht hW => ⟨_, rfl, Option.some.inj hf, ht⟩) (fun _ h => absurd h List.not_mem_nil) dX2_quotient_76
  · have hf := ite_f hf c_3
    refine lv_lconst (v := (0 : Int64)) hx hb dX2_quotient_11 (by decide) ?_
    exact W.lret (v := (0 : Int64)) hx hb hr (fun t ht hW => ⟨_, rfl, Option.some.inj hf, ht⟩) (fun _ h => absurd h List.not_mem_nil) dX2_quotient_12
/-! SumForms$Polynomials.trace(JIJ)J -/
abbrev rX2_trace : Room := { frames := 2, cells := 0, slots := 0, locals := 55 }
abbrev GX2_trace (p : Program) (l : Launch) (e : Env) (s : State) (m : MethodId) (args : Array Value) (below : List Frame) (meth : Method) (c : Code) (r0 : Int64) (fr : JFrame) : Prop := W p l e (headSpec wsX2_trace rX2_trace).room s m args below meth c s.heap [] 0 0 (MQ below (vp_Sl (fun r => r = r0)) args s 0 0 (fun _ => False)) fr
def fX2_trace_B9 (N : Nat) (x2 : Int32) (x3 : Int64) (self : Int64 → Int64 → Int32 → Option (Int64)) (k : Int64 → Option (Int64)) (x5 : Int64) (x7 : Int64) (x9 : Int32) : Option (Int64) := (if x2 ≤ x9 then (k x7) else ((fX2_product N x5 x5 x3).bind (fun u2 => (self u2 (x7 ^^^ u2) (x9 + (1 : Int32))))))
def fX2_trace_L9 (N : Nat) (x2 : Int32) (x3 : Int64) (k : Int64 → Option (Int64)) : Nat → Int64 → Int64 → Int32 → Option (Int64)
  | 0 => fun _ _ _ => none
  | n + 1 => fun x5 x7 x9 => fX2_trace_B9 N x2 x3 (fX2_trace_L9 N x2 x3 k n) k x5 x7 x9
def fX2_trace (N : Nat)  (x0 : Int64) (x2 : Int32) (x3 : Int64) : Option (Int64) := (fX2_trace_L9 N x2 x3 (fun x7_4 => (some x7_4)) N x0 x0 (1 : Int32))
set_option maxHeartbeats 4000000 in
set_option maxRecDepth 100000 in
theorem wX2_trace_B9 {p : Program} {l : Launch} {e : Env} {s : State} {m : MethodId} {args : Array Value} {below : List Frame} {meth : Method} {c : Code} {D : va_G} {cy : Nat → ClassId} {r0 : Int64} (E0 : En p m c cX2_trace 10 s args wsX2_trace RX2 meth (some .long) D cy) (hP : va_P D vwCl [] s.heap) (N : Nat) (x2 : Int32) (x3 : Int64) (self : Int64 → Int64 → Int32 → Option (Int64)) (hself : ∀ (x5 : Int64) (x7 : Int64) (x9 : Int32) (ls : Array Slot), lv_has ls 10 [(2, .int x2), (3, .long x3), (5, .long x5), (7, .long x7), (9, .int x9)] → self x5 x7 x9 = some r0 → GX2_trace p l e s m args below meth c r0 (F0 m 9 ls [])) (k : Int64 → Option (Int64)) (hk : ∀ (x7 : Int64) (ls : Array Slot), lv_has ls 10 [(7, .long x7)] → k x7 = some r0 → GX2_trace p l e s m args below meth c r0 (F0 m 38 ls [])) : ∀ (x5 : Int64) (x7 : Int64) (x9 : Int32) (ls : Array Slot), lv_has ls 10 [(2, .int x2), (3, .long x3), (5, .long x5), (7, .long x7), (9, .int x9)] → fX2_trace_B9 N x2 x3 self k x5 x7 x9 = some r0 → GX2_trace p l e s m args below meth c r0 (F0 m 9 ls []) := by
  obtain ⟨⟨hx, hb, hml, hown, hts⟩, hr, hlocks, hB⟩ := id E0
  have hK := hB.1
  have hN := hB.2
  intro x5 x7 x9 ls hl hf
  unfold fX2_trace_B9 at hf
  refine lv_iload hx hb dX2_trace_9 (lv_at hl 4 rfl) ?_
  refine lv_iload_n hx hb dX2_trace_11 rfl (lv_at hl 0 rfl) ?_
  refine lv_icmp_ge (tgt := 38) hx hb dX2_trace_12 (by decide) (fun c_1 => ?_) (fun c_1 => ?_)
  · have hf := ite_t hf c_1
    exact hk _ _ (lv_sub hl [3] rfl) hf
  · have hf := ite_f hf c_1
    refine lv_lload hx hb dX2_trace_15 (lv_at hl 2 rfl) ?_
    refine lv_lload hx hb dX2_trace_17 (lv_at hl 2 rfl) ?_
    refine lv_lload_n hx hb dX2_trace_19 rfl (lv_at hl 1 rfl) ?_
    obtain ⟨u2, h_3, hf⟩ := bind_some hf
    have hP_u2 : va_P D vwCl [] s.heap := hP.sub [] rfl
    refine cz_l (va_runS (As := [.long x5, .long x5, .long x3]) (rest := []) ⟨hx, hb, hml, hown, hts⟩ (ctX2_product l D cy N   x5 x5 x3 u2 h_3) (va_cwS 3 hts gX2_trace_X2_product rfl rfl rfl (by decide +kernel) ⟨Nat.le_of_ble_eq_true rfl, Nat.le_of_ble_eq_true rfl⟩) (preS_rd [.long x5, .long x5, .long x3] hP_u2 hB) rfl rfl hl.1 rfl (lv_room (Nat.le_of_ble_eq_true rfl)) dX2_trace_20 ⟨Nat.zero_le _, Nat.zero_le _⟩) ?_
    refine lv_lstore (lv' := [(5, .long u2), (2, .int x2), (3, .long x3), (7, .long x7), (9, .int x9)]) hx hb dX2_trace_23 hl (by decide) rfl (fun ls hl => ?_)
    refine lv_lload hx hb dX2_trace_25 (lv_at hl 3 rfl) ?_
    refine lv_lload hx hb dX2_trace_27 (lv_at hl 0 rfl) ?_
    refine lv_lxor hx hb dX2_trace_29 ?_
    refine lv_lstore (lv' := [(7, .long (x7 ^^^ u2)), (5, .long u2), (2, .int x2), (3, .long x3), (9, .int x9)]) hx hb dX2_trace_30 hl (by decide) rfl (fun ls hl => ?_)
    refine lv_iinc (v := (x9 + (1 : Int32))) (lv' := [(9, .int (x9 + (1 : Int32))), (7, .long (x7 ^^^ u2)), (5, .long u2), (2, .int x2), (3, .long x3)]) hx hb dX2_trace_32 hl (k := 4) rfl rfl (by decide) rfl (fun ls hl => ?_)
    refine lv_goto (tgt := 9) hx hb dX2_trace_35 (by decide) ?_
    exact hself _ _ _ _ (lv_sub hl [3, 4, 2, 1, 0] rfl) hf
theorem wX2_trace_L9 {p : Program} {l : Launch} {e : Env} {s : State} {m : MethodId} {args : Array Value} {below : List Frame} {meth : Method} {c : Code} {D : va_G} {cy : Nat → ClassId} {r0 : Int64} (E0 : En p m c cX2_trace 10 s args wsX2_trace RX2 meth (some .long) D cy) (hP : va_P D vwCl [] s.heap) (N : Nat) (x2 : Int32) (x3 : Int64) (k : Int64 → Option (Int64)) (hk : ∀ (x7 : Int64) (ls : Array Slot), lv_has ls 10 [(7, .long x7)] → k x7 = some r0 → GX2_trace p l e s m args below meth c r0 (F0 m 38 ls [])) : ∀ (n : Nat), ∀ (x5 : Int64) (x7 : Int64) (x9 : Int32) (ls : Array Slot), lv_has ls 10 [(2, .int x2), (3, .long x3), (5, .long x5), (7, .long x7), (9, .int x9)] → fX2_trace_L9 N x2 x3 k n x5 x7 x9 = some r0 → GX2_trace p l e s m args below meth c r0 (F0 m 9 ls []) := by
  intro n
  induction n with
  | zero => intro x5 x7 x9 ls hl hf; cases hf
  | succ n ih => exact wX2_trace_B9 E0 hP N x2 x3 _ ih k hk
set_option maxHeartbeats 4000000 in
set_option maxRecDepth 100000 in
theorem ctX2_trace (l : Launch) (D : va_G) (cy : Nat → ClassId) (N : Nat)  (x0 : Int64) (x2 : Int32) (x3 : Int64) (r0 : Int64) (hf : fX2_trace N x0 x2 x3 = some r0) : Met l yX2_trace wsX2_trace rX2_trace (va_Pc [.long x0, .int x2, .long x3] (Rd D cy [])) (vp_Sl (fun r => r = r0)) 0 0 (fun _ => False) := by
  refine Met.ofW (cc := cX2_trace) (maxL := 10) (ret := (some .long)) (by decide) rfl ?_
  intro p e s m args below meth c s₁ B hml hv
  obtain ⟨rfl, hP, hB⟩ := hv
  have hx := B.exec
  have hb := B.bytes
  have hr := B.returns
  have hts := atoms_spec (ws := wsX2_trace) B.pre
  have hown : s.vm.findClass RX2 = some m.cls := findClass_of_methodNamed B.named
  have hlocks := B.notSynchronized
  have hK := hB.1
  have hN := hB.2
  have hl := lv_entry ([.long x0, .int x2, .long x3]) (n := 10) (Nat.le_of_ble_eq_true rfl)
  rw [lg_entry_eq]
  generalize (lg_sl ([.long x0, .int x2, .long x3]) ++ List.replicate (10 - (lg_sl ([.long x0, .int x2, .long x3])).length) Slot.unset).toArray = ls at hl ⊢
  have hl : lv_has ls 10 [(0, .long x0), (2, .int x2), (3, .long x3)] := hl
  have E0 : En p m c cX2_trace 10 s ([.long x0, .int x2, .long x3] : List Value).toArray wsX2_trace RX2 meth (some .long) D cy := ⟨⟨hx, hb, hml, hown, hts⟩, hr, hlocks, hB⟩
  unfold fX2_trace at hf
  refine lv_lload_n hx hb dX2_trace_0 rfl (lv_at hl 0 rfl) ?_
  refine lv_lstore (lv' := [(5, .long x0), (0, .long x0), (2, .int x2), (3, .long x3)]) hx hb dX2_trace_1 hl (by decide) rfl (fun ls hl => ?_)
  refine lv_lload_n hx hb dX2_trace_3 rfl (lv_at hl 1 rfl) ?_
  refine lv_lstore (lv' := [(7, .long x0), (5, .long x0), (0, .long x0), (2, .int x2), (3, .long x3)]) hx hb dX2_trace_4 hl (by decide) rfl (fun ls hl => ?_)
  refine lv_iconst (v := (1 : Int32)) hx hb dX2_trace_6 (by decide) ?_
  refine lv_istore (lv' := [(9, .int (1 : Int32)), (7, .long x0), (5, .long x0), (0, .long x0), (2, .int x2), (3, .long x3)]) hx hb dX2_trace_7 hl (by decide) rfl (fun ls hl => ?_)
  refine wX2_trace_L9 E0 hP N x2 x3 _ (fun x7_4 ls hl hf => ?_) N _ _ _ _ (lv_sub hl [4, 5, 2, 1, 0] rfl) hf
  refine lv_lload hx hb dX2_trace_38 (lv_at hl 0 rfl) ?_
  exact W.lret (v := x7_4) hx hb hr (fun t ht hW => ⟨_, rfl, Option.some.inj hf, ht⟩) (fun _ h => absurd h List.not_mem_nil) dX2_trace_40
end
