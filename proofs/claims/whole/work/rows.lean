section
-- ===== PART A: goes FIRST, ahead of the names: the tables' words, and 'selects' of the private methods out of them =====
/-- a private method of a class that the tables say can be made, by its rows of tables_1 -/
def lw_okq (q : MethodName × Nat) : Prop := (q.1.cls ≠ "java/lang/invoke/MethodHandle" ∧ q.1.cls ≠ "java/lang/invoke/VarHandle") ∧ Cond.instantiable q.1.cls q.2 ∈ tables_1 ∧ Cond.privateMethod q.1 ∈ tables_1 ∧ Cond.instanceMethod q.1 ∈ tables_1
theorem lw_p0 : lw_okq (⟨"SeedMakers$Sets", "moved", "(II)I"⟩, 2) := ⟨⟨by decide +kernel, by decide +kernel⟩, List.mem_of_getElem? (i := 81) (by decide +kernel), List.mem_of_getElem? (i := 336) (by decide +kernel), List.mem_of_getElem? (i := 337) (by decide +kernel)⟩
theorem lw_p1 : lw_okq (⟨"SeedMakers$Maker", "drawWhole", "()Z"⟩, 20) := ⟨⟨by decide +kernel, by decide +kernel⟩, List.mem_of_getElem? (i := 113) (by decide +kernel), List.mem_of_getElem? (i := 359) (by decide +kernel), List.mem_of_getElem? (i := 360) (by decide +kernel)⟩
theorem lw_p2 : lw_okq (⟨"SeedMakers$Drawer", "tightest", "()I"⟩, 3) := ⟨⟨by decide +kernel, by decide +kernel⟩, List.mem_of_getElem? (i := 129) (by decide +kernel), List.mem_of_getElem? (i := 368) (by decide +kernel), List.mem_of_getElem? (i := 369) (by decide +kernel)⟩
theorem lw_p3 : lw_okq (⟨"SeedMakers$Board", "flip", "(II)V"⟩, 5) := ⟨⟨by decide +kernel, by decide +kernel⟩, List.mem_of_getElem? (i := 135) (by decide +kernel), List.mem_of_getElem? (i := 408) (by decide +kernel), List.mem_of_getElem? (i := 409) (by decide +kernel)⟩
theorem lw_p4 : lw_okq (⟨"SeedMakers$Maker", "takeOutEmptySets", "()Z"⟩, 20) := ⟨⟨by decide +kernel, by decide +kernel⟩, List.mem_of_getElem? (i := 113) (by decide +kernel), List.mem_of_getElem? (i := 415) (by decide +kernel), List.mem_of_getElem? (i := 416) (by decide +kernel)⟩
theorem lw_p5 : lw_okq (⟨"SeedMakers$Maker", "markSetsWith", "(I)V"⟩, 20) := ⟨⟨by decide +kernel, by decide +kernel⟩, List.mem_of_getElem? (i := 113) (by decide +kernel), List.mem_of_getElem? (i := 419) (by decide +kernel), List.mem_of_getElem? (i := 420) (by decide +kernel)⟩
theorem lw_p6 : lw_okq (⟨"SeedMakers$Solver", "search", "(I)V"⟩, 4) := ⟨⟨by decide +kernel, by decide +kernel⟩, List.mem_of_getElem? (i := 190) (by decide +kernel), List.mem_of_getElem? (i := 433) (by decide +kernel), List.mem_of_getElem? (i := 434) (by decide +kernel)⟩
theorem lw_p7 : lw_okq (⟨"SeedMakers$Solver", "tightest", "(I)I"⟩, 4) := ⟨⟨by decide +kernel, by decide +kernel⟩, List.mem_of_getElem? (i := 190) (by decide +kernel), List.mem_of_getElem? (i := 437) (by decide +kernel), List.mem_of_getElem? (i := 438) (by decide +kernel)⟩
theorem lw_p8 : lw_okq (⟨"SeedMakers$Maker", "layRow", "()I"⟩, 20) := ⟨⟨by decide +kernel, by decide +kernel⟩, List.mem_of_getElem? (i := 113) (by decide +kernel), List.mem_of_getElem? (i := 449) (by decide +kernel), List.mem_of_getElem? (i := 450) (by decide +kernel)⟩
theorem lw_p9 : lw_okq (⟨"SeedMakers$Maker", "mixRow", "(I)V"⟩, 20) := ⟨⟨by decide +kernel, by decide +kernel⟩, List.mem_of_getElem? (i := 113) (by decide +kernel), List.mem_of_getElem? (i := 453) (by decide +kernel), List.mem_of_getElem? (i := 454) (by decide +kernel)⟩
theorem lw_p10 : lw_okq (⟨"SeedMakers$Maker", "countGivens", "()I"⟩, 20) := ⟨⟨by decide +kernel, by decide +kernel⟩, List.mem_of_getElem? (i := 113) (by decide +kernel), List.mem_of_getElem? (i := 462) (by decide +kernel), List.mem_of_getElem? (i := 463) (by decide +kernel)⟩
theorem lw_p11 : lw_okq (⟨"SeedMakers$Singles", "fillLoneSymbols", "()Z"⟩, 2) := ⟨⟨by decide +kernel, by decide +kernel⟩, List.mem_of_getElem? (i := 175) (by decide +kernel), List.mem_of_getElem? (i := 471) (by decide +kernel), List.mem_of_getElem? (i := 472) (by decide +kernel)⟩
theorem lw_p12 : lw_okq (⟨"SeedMakers$Singles", "fillLoneCells", "()Z"⟩, 2) := ⟨⟨by decide +kernel, by decide +kernel⟩, List.mem_of_getElem? (i := 175) (by decide +kernel), List.mem_of_getElem? (i := 480) (by decide +kernel), List.mem_of_getElem? (i := 481) (by decide +kernel)⟩
theorem lw_p13 : lw_okq (⟨"SeedMakers$Singles", "symbolsOfOneCell", "([I)I"⟩, 2) := ⟨⟨by decide +kernel, by decide +kernel⟩, List.mem_of_getElem? (i := 175) (by decide +kernel), List.mem_of_getElem? (i := 484) (by decide +kernel), List.mem_of_getElem? (i := 485) (by decide +kernel)⟩
theorem lw_p14 : lw_okq (⟨"SeedMakers$Singles", "fillFrom", "([II)Z"⟩, 2) := ⟨⟨by decide +kernel, by decide +kernel⟩, List.mem_of_getElem? (i := 175) (by decide +kernel), List.mem_of_getElem? (i := 488) (by decide +kernel), List.mem_of_getElem? (i := 489) (by decide +kernel)⟩
theorem lw_p15 : lw_okq (⟨"SeedMakers$Typed", "readByte", "(II)Z"⟩, 5) := ⟨⟨by decide +kernel, by decide +kernel⟩, List.mem_of_getElem? (i := 284) (by decide +kernel), List.mem_of_getElem? (i := 514) (by decide +kernel), List.mem_of_getElem? (i := 515) (by decide +kernel)⟩
def lw_privs_1 : List (MethodName × Nat) := [(⟨"SeedMakers$Sets", "moved", "(II)I"⟩, 2), (⟨"SeedMakers$Maker", "drawWhole", "()Z"⟩, 20), (⟨"SeedMakers$Drawer", "tightest", "()I"⟩, 3), (⟨"SeedMakers$Board", "flip", "(II)V"⟩, 5), (⟨"SeedMakers$Maker", "takeOutEmptySets", "()Z"⟩, 20), (⟨"SeedMakers$Maker", "markSetsWith", "(I)V"⟩, 20), (⟨"SeedMakers$Solver", "search", "(I)V"⟩, 4), (⟨"SeedMakers$Solver", "tightest", "(I)I"⟩, 4), (⟨"SeedMakers$Maker", "layRow", "()I"⟩, 20), (⟨"SeedMakers$Maker", "mixRow", "(I)V"⟩, 20), (⟨"SeedMakers$Maker", "countGivens", "()I"⟩, 20), (⟨"SeedMakers$Singles", "fillLoneSymbols", "()Z"⟩, 2), (⟨"SeedMakers$Singles", "fillLoneCells", "()Z"⟩, 2), (⟨"SeedMakers$Singles", "symbolsOfOneCell", "([I)I"⟩, 2), (⟨"SeedMakers$Singles", "fillFrom", "([II)Z"⟩, 2), (⟨"SeedMakers$Typed", "readByte", "(II)Z"⟩, 5)]
theorem lw_r1 : ∀ q ∈ lw_privs_1, lw_okq q := List.forall_mem_cons.mpr ⟨lw_p0, List.forall_mem_cons.mpr ⟨lw_p1, List.forall_mem_cons.mpr ⟨lw_p2, List.forall_mem_cons.mpr ⟨lw_p3, List.forall_mem_cons.mpr ⟨lw_p4, List.forall_mem_cons.mpr ⟨lw_p5, List.forall_mem_cons.mpr ⟨lw_p6, List.forall_mem_cons.mpr ⟨lw_p7, List.forall_mem_cons.mpr ⟨lw_p8, List.forall_mem_cons.mpr ⟨lw_p9, List.forall_mem_cons.mpr ⟨lw_p10, List.forall_mem_cons.mpr ⟨lw_p11, List.forall_mem_cons.mpr ⟨lw_p12, List.forall_mem_cons.mpr ⟨lw_p13, List.forall_mem_cons.mpr ⟨lw_p14, List.forall_mem_cons.mpr ⟨lw_p15, fun _ h => absurd h List.not_mem_nil⟩⟩⟩⟩⟩⟩⟩⟩⟩⟩⟩⟩⟩⟩⟩⟩
theorem lw_p16 : lw_okq (⟨"java/lang/Throwable", "fillInStackTrace", "(I)Ljava/lang/Throwable;"⟩, 6) := ⟨⟨by decide +kernel, by decide +kernel⟩, List.mem_of_getElem? (i := 591) (by decide +kernel), List.mem_of_getElem? (i := 589) (by decide +kernel), List.mem_of_getElem? (i := 590) (by decide +kernel)⟩
theorem lw_p17 : lw_okq (⟨"SeedMakersModel", "isCell", "(I)Z"⟩, 22) := ⟨⟨by decide +kernel, by decide +kernel⟩, List.mem_of_getElem? (i := 675) (by decide +kernel), List.mem_of_getElem? (i := 761) (by decide +kernel), List.mem_of_getElem? (i := 762) (by decide +kernel)⟩
theorem lw_p18 : lw_okq (⟨"SeedMakersModel", "cells", "()I"⟩, 22) := ⟨⟨by decide +kernel, by decide +kernel⟩, List.mem_of_getElem? (i := 675) (by decide +kernel), List.mem_of_getElem? (i := 765) (by decide +kernel), List.mem_of_getElem? (i := 766) (by decide +kernel)⟩
theorem lw_p19 : lw_okq (⟨"SeedMakersModel", "throwsIf", "(IZ)Z"⟩, 22) := ⟨⟨by decide +kernel, by decide +kernel⟩, List.mem_of_getElem? (i := 675) (by decide +kernel), List.mem_of_getElem? (i := 769) (by decide +kernel), List.mem_of_getElem? (i := 770) (by decide +kernel)⟩
theorem lw_p20 : lw_okq (⟨"SeedMakersModel", "isGood", "()Z"⟩, 22) := ⟨⟨by decide +kernel, by decide +kernel⟩, List.mem_of_getElem? (i := 675) (by decide +kernel), List.mem_of_getElem? (i := 781) (by decide +kernel), List.mem_of_getElem? (i := 782) (by decide +kernel)⟩
theorem lw_p21 : lw_okq (⟨"SeedMakersModel", "draw", "()Z"⟩, 22) := ⟨⟨by decide +kernel, by decide +kernel⟩, List.mem_of_getElem? (i := 675) (by decide +kernel), List.mem_of_getElem? (i := 785) (by decide +kernel), List.mem_of_getElem? (i := 786) (by decide +kernel)⟩
theorem lw_p22 : lw_okq (⟨"SeedMakersModel", "empty", "()V"⟩, 22) := ⟨⟨by decide +kernel, by decide +kernel⟩, List.mem_of_getElem? (i := 675) (by decide +kernel), List.mem_of_getElem? (i := 789) (by decide +kernel), List.mem_of_getElem? (i := 790) (by decide +kernel)⟩
theorem lw_p23 : lw_okq (⟨"SeedMakersModel", "countDraw", "(I)I"⟩, 22) := ⟨⟨by decide +kernel, by decide +kernel⟩, List.mem_of_getElem? (i := 675) (by decide +kernel), List.mem_of_getElem? (i := 793) (by decide +kernel), List.mem_of_getElem? (i := 794) (by decide +kernel)⟩
theorem lw_p24 : lw_okq (⟨"SeedMakersModel", "mayDraw", "(II)Z"⟩, 22) := ⟨⟨by decide +kernel, by decide +kernel⟩, List.mem_of_getElem? (i := 675) (by decide +kernel), List.mem_of_getElem? (i := 797) (by decide +kernel), List.mem_of_getElem? (i := 798) (by decide +kernel)⟩
theorem lw_p25 : lw_okq (⟨"SeedMakersModel", "sees", "(II)Z"⟩, 22) := ⟨⟨by decide +kernel, by decide +kernel⟩, List.mem_of_getElem? (i := 675) (by decide +kernel), List.mem_of_getElem? (i := 801) (by decide +kernel), List.mem_of_getElem? (i := 802) (by decide +kernel)⟩
theorem lw_p26 : lw_okq (⟨"SeedMakersModel", "below", "(I)I"⟩, 22) := ⟨⟨by decide +kernel, by decide +kernel⟩, List.mem_of_getElem? (i := 675) (by decide +kernel), List.mem_of_getElem? (i := 805) (by decide +kernel), List.mem_of_getElem? (i := 806) (by decide +kernel)⟩
theorem lw_p27 : lw_okq (⟨"SeedMakersModel", "leastOf", "(I)I"⟩, 22) := ⟨⟨by decide +kernel, by decide +kernel⟩, List.mem_of_getElem? (i := 675) (by decide +kernel), List.mem_of_getElem? (i := 811) (by decide +kernel), List.mem_of_getElem? (i := 812) (by decide +kernel)⟩
theorem lw_p28 : lw_okq (⟨"SeedMakersModel", "turned", "(I)I"⟩, 22) := ⟨⟨by decide +kernel, by decide +kernel⟩, List.mem_of_getElem? (i := 675) (by decide +kernel), List.mem_of_getElem? (i := 815) (by decide +kernel), List.mem_of_getElem? (i := 816) (by decide +kernel)⟩
theorem lw_p29 : lw_okq (⟨"SeedMakersModel", "hasTheme", "(II)Z"⟩, 22) := ⟨⟨by decide +kernel, by decide +kernel⟩, List.mem_of_getElem? (i := 675) (by decide +kernel), List.mem_of_getElem? (i := 819) (by decide +kernel), List.mem_of_getElem? (i := 820) (by decide +kernel)⟩
theorem lw_p30 : lw_okq (⟨"SeedMakersModel", "takeOut", "(I)V"⟩, 22) := ⟨⟨by decide +kernel, by decide +kernel⟩, List.mem_of_getElem? (i := 675) (by decide +kernel), List.mem_of_getElem? (i := 823) (by decide +kernel), List.mem_of_getElem? (i := 824) (by decide +kernel)⟩
theorem lw_p31 : lw_okq (⟨"SeedMakersModel", "countUpTo", "(I)I"⟩, 22) := ⟨⟨by decide +kernel, by decide +kernel⟩, List.mem_of_getElem? (i := 675) (by decide +kernel), List.mem_of_getElem? (i := 827) (by decide +kernel), List.mem_of_getElem? (i := 828) (by decide +kernel)⟩
def lw_privs_2 : List (MethodName × Nat) := [(⟨"java/lang/Throwable", "fillInStackTrace", "(I)Ljava/lang/Throwable;"⟩, 6), (⟨"SeedMakersModel", "isCell", "(I)Z"⟩, 22), (⟨"SeedMakersModel", "cells", "()I"⟩, 22), (⟨"SeedMakersModel", "throwsIf", "(IZ)Z"⟩, 22), (⟨"SeedMakersModel", "isGood", "()Z"⟩, 22), (⟨"SeedMakersModel", "draw", "()Z"⟩, 22), (⟨"SeedMakersModel", "empty", "()V"⟩, 22), (⟨"SeedMakersModel", "countDraw", "(I)I"⟩, 22), (⟨"SeedMakersModel", "mayDraw", "(II)Z"⟩, 22), (⟨"SeedMakersModel", "sees", "(II)Z"⟩, 22), (⟨"SeedMakersModel", "below", "(I)I"⟩, 22), (⟨"SeedMakersModel", "leastOf", "(I)I"⟩, 22), (⟨"SeedMakersModel", "turned", "(I)I"⟩, 22), (⟨"SeedMakersModel", "hasTheme", "(II)Z"⟩, 22), (⟨"SeedMakersModel", "takeOut", "(I)V"⟩, 22), (⟨"SeedMakersModel", "countUpTo", "(I)I"⟩, 22)]
theorem lw_r2 : ∀ q ∈ lw_privs_2, lw_okq q := List.forall_mem_cons.mpr ⟨lw_p16, List.forall_mem_cons.mpr ⟨lw_p17, List.forall_mem_cons.mpr ⟨lw_p18, List.forall_mem_cons.mpr ⟨lw_p19, List.forall_mem_cons.mpr ⟨lw_p20, List.forall_mem_cons.mpr ⟨lw_p21, List.forall_mem_cons.mpr ⟨lw_p22, List.forall_mem_cons.mpr ⟨lw_p23, List.forall_mem_cons.mpr ⟨lw_p24, List.forall_mem_cons.mpr ⟨lw_p25, List.forall_mem_cons.mpr ⟨lw_p26, List.forall_mem_cons.mpr ⟨lw_p27, List.forall_mem_cons.mpr ⟨lw_p28, List.forall_mem_cons.mpr ⟨lw_p29, List.forall_mem_cons.mpr ⟨lw_p30, List.forall_mem_cons.mpr ⟨lw_p31, fun _ h => absurd h List.not_mem_nil⟩⟩⟩⟩⟩⟩⟩⟩⟩⟩⟩⟩⟩⟩⟩⟩
theorem lw_p32 : lw_okq (⟨"SeedMakersModel", "fits", "(II)Z"⟩, 22) := ⟨⟨by decide +kernel, by decide +kernel⟩, List.mem_of_getElem? (i := 675) (by decide +kernel), List.mem_of_getElem? (i := 831) (by decide +kernel), List.mem_of_getElem? (i := 832) (by decide +kernel)⟩
theorem lw_p33 : lw_okq (⟨"SeedMakersModel", "putBack", "(I)V"⟩, 22) := ⟨⟨by decide +kernel, by decide +kernel⟩, List.mem_of_getElem? (i := 675) (by decide +kernel), List.mem_of_getElem? (i := 835) (by decide +kernel), List.mem_of_getElem? (i := 836) (by decide +kernel)⟩
theorem lw_p34 : lw_okq (⟨"SeedMakersModel", "countGivens", "()I"⟩, 22) := ⟨⟨by decide +kernel, by decide +kernel⟩, List.mem_of_getElem? (i := 675) (by decide +kernel), List.mem_of_getElem? (i := 839) (by decide +kernel), List.mem_of_getElem? (i := 840) (by decide +kernel)⟩
theorem lw_p35 : lw_okq (⟨"SeedMakersModel", "countLeft", "()I"⟩, 22) := ⟨⟨by decide +kernel, by decide +kernel⟩, List.mem_of_getElem? (i := 675) (by decide +kernel), List.mem_of_getElem? (i := 843) (by decide +kernel), List.mem_of_getElem? (i := 844) (by decide +kernel)⟩
theorem lw_p36 : lw_okq (⟨"SeedMakersModel", "may", "(II)Z"⟩, 22) := ⟨⟨by decide +kernel, by decide +kernel⟩, List.mem_of_getElem? (i := 675) (by decide +kernel), List.mem_of_getElem? (i := 847) (by decide +kernel), List.mem_of_getElem? (i := 848) (by decide +kernel)⟩
theorem lw_p37 : lw_okq (⟨"SeedMakersModel", "isSingle", "(II)Z"⟩, 22) := ⟨⟨by decide +kernel, by decide +kernel⟩, List.mem_of_getElem? (i := 675) (by decide +kernel), List.mem_of_getElem? (i := 851) (by decide +kernel), List.mem_of_getElem? (i := 852) (by decide +kernel)⟩
theorem lw_p38 : lw_okq (⟨"SeedMakersModel", "isTogether", "(III)Z"⟩, 22) := ⟨⟨by decide +kernel, by decide +kernel⟩, List.mem_of_getElem? (i := 675) (by decide +kernel), List.mem_of_getElem? (i := 855) (by decide +kernel), List.mem_of_getElem? (i := 856) (by decide +kernel)⟩
theorem lw_p39 : lw_okq (⟨"SeedMakersModel", "take", "()V"⟩, 22) := ⟨⟨by decide +kernel, by decide +kernel⟩, List.mem_of_getElem? (i := 675) (by decide +kernel), List.mem_of_getElem? (i := 875) (by decide +kernel), List.mem_of_getElem? (i := 876) (by decide +kernel)⟩
theorem lw_p40 : lw_okq (⟨"SeedMakersModel", "read", "()I"⟩, 22) := ⟨⟨by decide +kernel, by decide +kernel⟩, List.mem_of_getElem? (i := 675) (by decide +kernel), List.mem_of_getElem? (i := 891) (by decide +kernel), List.mem_of_getElem? (i := 892) (by decide +kernel)⟩
def lw_privs_3 : List (MethodName × Nat) := [(⟨"SeedMakersModel", "fits", "(II)Z"⟩, 22), (⟨"SeedMakersModel", "putBack", "(I)V"⟩, 22), (⟨"SeedMakersModel", "countGivens", "()I"⟩, 22), (⟨"SeedMakersModel", "countLeft", "()I"⟩, 22), (⟨"SeedMakersModel", "may", "(II)Z"⟩, 22), (⟨"SeedMakersModel", "isSingle", "(II)Z"⟩, 22), (⟨"SeedMakersModel", "isTogether", "(III)Z"⟩, 22), (⟨"SeedMakersModel", "take", "()V"⟩, 22), (⟨"SeedMakersModel", "read", "()I"⟩, 22)]
theorem lw_r3 : ∀ q ∈ lw_privs_3, lw_okq q := List.forall_mem_cons.mpr ⟨lw_p32, List.forall_mem_cons.mpr ⟨lw_p33, List.forall_mem_cons.mpr ⟨lw_p34, List.forall_mem_cons.mpr ⟨lw_p35, List.forall_mem_cons.mpr ⟨lw_p36, List.forall_mem_cons.mpr ⟨lw_p37, List.forall_mem_cons.mpr ⟨lw_p38, List.forall_mem_cons.mpr ⟨lw_p39, List.forall_mem_cons.mpr ⟨lw_p40, fun _ h => absurd h List.not_mem_nil⟩⟩⟩⟩⟩⟩⟩⟩⟩
def lw_privs : List (MethodName × Nat) := lw_privs_1 ++ (lw_privs_2 ++ (lw_privs_3))
def lw_tbl : List Cond := k2_sels lw_privs ++ tables_1
theorem lw_privs_ok : ∀ q ∈ lw_privs, lw_okq q := by
  show ∀ q ∈ lw_privs_1 ++ (lw_privs_2 ++ (lw_privs_3)), lw_okq q
  exact List.forall_mem_append.mpr ⟨lw_r1, List.forall_mem_append.mpr ⟨lw_r2, lw_r3⟩⟩
-- ===== end of PART A; then your names; then what follows =====
end
section
/-! ===== BEGIN words of one list among another's, by their places ===== -/
theorem goodIn_r {big : List Cond} (ws : List Cond) (ps : List Nat) (hp : ws = ps.filterMap (fun i => big[i]?)) (h : ws.all goodWord = true) : GoodIn big ws := by
  intro w hw
  have h1 := List.all_eq_true.mp h w hw
  rw [hp] at hw
  obtain ⟨i, -, hi⟩ := List.mem_filterMap.mp hw
  have hm : w ∈ big := by first | exact List.mem_of_getElem? hi | exact List.getElem?_mem hi
  exact ⟨hm, good_of_word h1⟩
theorem goodIn_app {big a b : List Cond} (ha : GoodIn big a) (hb : GoodIn big b) : GoodIn big (a ++ b) := fun w h => (List.mem_append.mp h).elim (ha w) (hb w)
theorem goodIn_ca {big a b : List Cond} {c : Cond} (ha : GoodIn big (c :: a)) (hb : GoodIn big b) : GoodIn big (c :: (a ++ b)) := fun w h => (List.mem_cons.mp h).elim (fun e => ha w (List.mem_cons.mpr (Or.inl e))) (fun h => (List.mem_append.mp h).elim (fun h => ha w (List.mem_cons.mpr (Or.inr h))) (hb w))
theorem goodIn_sub {big ws : List Cond} (hm : ∀ w ∈ ws, w ∈ big) (h : ws.all goodWord = true) : GoodIn big ws := fun w hw => ⟨hm w hw, good_of_word (List.all_eq_true.mp h w hw)⟩
/-! ===== END ===== -/



/-! ===== BEGIN exceptions that leave a method, and their catching by the caller (launches without stack traces) ===== -/
section VXA
/-! The laws vx_back, vx_callV, vx_callS, vx_callSW, vx_throw0, vx_throwS follow proofs of the library, with one case more: JvmDerived/Free/Laws.lean (Back.of_free), Shelf42/LK1.lean (callV, callS), Shelf/KitTraced.lean (throwNew0V, throwNewS). -/
/-- where a method has thrown q: the class by its name, the cell, what was written, the world -/
def vx_T (XC : String → State → State → Prop) (st : State) (q : Addr) (t : State) (mc ms : Nat) (free : Addr → Prop) : Prop :=
  ∃ (E : String) (ce : Cell) (L : List Loc), XC E st t ∧ t.heap[q]? = some ce ∧ ce.vm = .none ∧ st.vm.findClass E = some ce.cls ∧ st.WarmedH t.vm ∧ st.sameButNew ({ t with vm := st.vm } : State) L mc ms ∧ ∀ z ∈ L, free z.base
def vx_Q (Qc : Array Value → State → Outcome → State → Prop) (XC : String → State → State → Prop) (mc ms : Nat) (free : Addr → Prop) : Array Value → State → Outcome → State → Prop := fun a st o t =>
  (Qc a st o t ∧ ∃ L, FrameEnd st o t L mc ms ∧ ∀ q ∈ L, free q.base) ∨ ∃ q, o = .threw q ∧ vx_T XC st q t mc ms free
/-- a callee that returns or throws -/
def vx_Met (l : Launch) (y : MethodName) (ws : List Cond) (rm : Room) (Pc : Array Value → State → Prop) (Qc : Array Value → State → Outcome → State → Prop) (XC : String → State → State → Prop) (mc ms : Nat) (free : Addr → Prop) : Prop :=
  MetFree l y (headSpec ws rm) Pc (fun _ _ _ _ _ => True) (vx_Q Qc XC mc ms free)
def vx_Post (XC : String → State → State → Prop) (mc ms : Nat) (free : Addr → Prop) : Pt → Array Value → Addr → Pt → Prop := fun A a q B =>
  ∃ (g : JFrame) (mk : MethodId) (t : State) (L : List Loc) (E : String) (ce : Cell), B.U.heap = t.heap ∧ B.U.vm = t.vm ∧ XC E (A.U.calling g mk a) t ∧ t.heap[q]? = some ce ∧ ce.vm = .none ∧ A.U.vm.findClass E = some ce.cls ∧ B.locs = A.locs ++ L ∧ (∀ z ∈ L, free z.base) ∧ B.cells = A.cells + mc ∧ B.slots = A.slots + ms
def vx_Back (l : Launch) (R : Room) (p : Program) (e : Env) (below : List Frame) (s : State) (sargs : Array Value) (y : MethodName) (len W9 : Nat)
    (Pre : Pt → Array Value → Prop) (Post : Pt → Array Value → Option Value → Pt → Prop) (PostX : Pt → Array Value → Addr → Pt → Prop) : Prop :=
  ∀ (m : MethodId) (meth : Method) (c : Code) (A : Pt) (g : JFrame) (ig : Instr) (mk : MethodId) (a : Array Value),
    Stand p l e R s m sargs below meth c A.U A.locs A.cells A.slots → g.method = m → g.locals.size = c.maxLocals → decode c.code g.pc = .ok (ig, len) →
    2 * g.monitorRoom + (g.stack.map fun v => v.category).sum ≤ W9 → A.U.methodNamed? y = some mk → Pre A a →
    (∃ (v : Option Value) (B : Pt), Stand p l e R s m sargs below meth c B.U B.locs B.cells B.slots ∧ Post A a v B ∧
      Steps p.tables e below (doInvoke e (A.U.setTop g) [] mk a).1 (B.U.setTop { g with pc := g.pc + len, stack := v.toList ++ g.stack })) ∨
    (∃ (q : Addr) (B : Pt), Stand p l e R s m sargs below meth c B.U B.locs B.cells B.slots ∧ PostX A a q B ∧
      Steps p.tables e below (doInvoke e (A.U.setTop g) [] mk a).1 ((B.U.setTop g).pushFrame (.throwing q)))
section Payer
variable {l : Launch} {R : Room} {p : Program} {e : Env} {below : List Frame} {s : State} {sargs : Array Value} {y : MethodName} {len W9 : Nat}
theorem vx_back {ws : List Cond} {rm : Room} {Pc : Array Value → State → Prop} {Qc : Array Value → State → Outcome → State → Prop} {XC : String → State → State → Prop} {mc ms : Nat} {free : Addr → Prop} {bytes : ByteArray} {maxL : Nat} {ret : Option FieldType}
    (hM : vx_Met l y ws rm Pc Qc XC mc ms free) (hblind : FrameBlind Pc) (hrc : rm.cells = mc) (hrs : rm.slots = ms)
    (hframes : rm.frames + 1 ≤ R.frames) (hlocals : W9 + (maxL + 11) + rm.locals ≤ R.locals)
    (hws : ∀ w ∈ ws, ∀ a' U, s.WarmedH U.vm → w.before a' U = true) (hcode : Cond.code y bytes maxL ret ∈ ws) (hinit : ∀ a' U, s.WarmedH U.vm → (Cond.initialized y.cls).before a' U = true) :
    vx_Back l R p e below s sargs y len W9 (PreOf R mc ms Pc) (PostOf Qc mc ms free) (vx_Post XC mc ms free) := by
  intro m meth c A g ig mk a X hg hsize hdg hW hn hp
  have h1 : (headSpec ws rm).pre.before a A.U = true := atoms_intro fun w hw => hws w hw _ _ X.warmed
  have h2 : (Cond.code y bytes maxL ret).before a A.U = true := hws _ hcode _ _ X.warmed
  have h3 : (Cond.initialized y.cls).before a A.U = true := hinit _ _ X.warmed
  have h4 : A.cells + (headSpec ws rm).room.cells ≤ R.cells := by rw [show (headSpec ws rm).room.cells = mc from hrc]; exact hp.1
  have h5 : A.slots + (headSpec ws rm).room.slots ≤ R.slots := by rw [show (headSpec ws rm).room.slots = ms from hrs]; exact hp.2.1
  have hPc : Pc a (A.U.calling g mk a) := hblind _ _ _ _ hp.2.2
  obtain ⟨U, Ls, c0, s0⟩ := A
  dsimp only [Pt.U, Pt.locs, Pt.cells, Pt.slots] at h1 h2 h3 h4 h5 X hn hPc ⊢
  obtain ⟨methY, cY, hmY, hcY, -, hlY, -, -, -, -⟩ := Cond.code_spec hn h2
  obtain ⟨kY, hkY, -⟩ := className_of_methodNamed hn
  have hinitY : kY.init = .initialized := Cond.initialized_spec (findClass_of_methodNamed hn) hkY h3
  have h : At U g.method c below := by rw [hg]; exact X.here
  have hlocals9 : W9 + (maxL + 11) + (headSpec ws rm).room.locals ≤ R.locals := hlocals
  have happ : (headSpec ws rm).appliesLoose y e.platform (U.calling g mk a) = true :=
    Spec.appliesLoose_calling (g := g) h hdg hn hkY hinitY
      (X.room_calling (g := g) (R' := (headSpec ws rm).room) hsize hmY hcY hframes (by rw [hlY]; omega) h4 h5) h1
  obtain ⟨mid, hmid⟩ := h.above
  have hfr : (U.setTop g).frames = (.java g :: mid) ++ below := by rw [State.frames_setTop' g h.top, hmid]; rfl
  obtain ⟨o, s₂, hsteps, -, hend, hq⟩ := Steps.callFree hM p X.admits X.cas X.clock (acts := []) hfr happ hPc trivial
  have hq' : vx_Q Qc XC mc ms free a (U.calling g mk a) o s₂ := hq
  rw [State.frames_setTop' g h.top] at hend
  obtain ⟨g₀, hg0⟩ := Option.isSome_iff_exists.mp h.top
  obtain ⟨r, hr⟩ := State.topJava?_eq_some.mp hg0
  have hr' : (({ U with heap := s₂.heap, slotsUsed := s₂.slotsUsed } : State).setVm s₂.vm).frames = .java g₀ :: r := hr
  rcases hq' with ⟨hqc, L, hfe, hL⟩ | ⟨q, rfl, E, ce, L, hx, hce, hcv, hcl, hW₂, hsm, hL⟩
  · obtain ⟨⟨v, rfl⟩, hW₂, e2, q2, q3, q4, q5, q6⟩ := id hfe
    have e3 : s₂ = ({ (U.calling g mk a).setFrames s₂.frames with heap := s₂.heap, slotsUsed := s₂.slotsUsed } : State).setVm s₂.vm := by
      have : s₂ = ({ s₂ with vm := (U.calling g mk a).vm } : State).setVm s₂.vm := rfl
      rw [e2] at this
      exact this
    obtain ⟨c₂, i₂, len₂, hc₂, hd₂, hf₂⟩ := hend
    have hW' : U.WarmedH s₂.vm := hW₂
    have hcc : c₂ = c := by
      have h1 : s₂.code? g.method = U.code? g.method := by
        rw [State.code?_eq, State.code?_eq, hW'.alike.method?]
      exact Option.some.inj (hc₂.symm.trans (h1.trans h.code))
    subst hcc
    have hlen : len₂ = len := by rw [hdg] at hd₂; cases hd₂; rfl
    subst hlen
    have hs₂ : s₂ = (({ U with heap := s₂.heap, slotsUsed := s₂.slotsUsed } : State).setVm s₂.vm).setTop { g with pc := g.pc + len₂, stack := v.toList ++ g.stack } := by
      refine e3.trans ?_
      rw [hf₂, State.calling_eq h.top, State.setFrames_setFrames, State.setTop_of_frames _ hr', hr]
      rfl
    have hsame : U.sameButNew ({ U with heap := s₂.heap, slotsUsed := s₂.slotsUsed } : State) L mc ms := by
      refine ⟨?_, q2, q3, q4, q5, q6⟩
      obtain ⟨t, ht, -⟩ := State.frames_cons hr
      show ({ U with heap := s₂.heap, slotsUsed := s₂.slotsUsed } : State) = { U.setFrames U.frames with heap := s₂.heap, slotsUsed := s₂.slotsUsed }
      rw [State.setFrames_self ht]
    subst hg
    refine Or.inl ⟨v, ⟨(({ U with heap := s₂.heap, slotsUsed := s₂.slotsUsed } : State).setVm s₂.vm), Ls ++ L, c0 + mc, s0 + ms⟩,
      ⟨X.admits, X.cas, X.clock, X.frames, X.room, X.hears, X.method, X.code, (X.here.setHeapUsed s₂.heap s₂.slotsUsed).setVm hW'.alike, X.tail, State.WarmedH.trans X.warmed hW', X.limits, X.bytes, X.same.trans (hsame.setVm s.vm)⟩,
      ⟨g, mk, s₂, L, rfl, rfl, hqc, rfl, hL, rfl, rfl⟩, ?_⟩
    show Steps p.tables e below _ ((({ U with heap := s₂.heap, slotsUsed := s₂.slotsUsed } : State).setVm s₂.vm).setTop { g with pc := g.pc + len₂, stack := v.toList ++ g.stack })
    rw [← hs₂]
    exact hsteps
  · obtain ⟨e2, q2, q3, q4, q5, q6⟩ := id hsm
    have e3 : s₂ = ({ (U.calling g mk a).setFrames s₂.frames with heap := s₂.heap, slotsUsed := s₂.slotsUsed } : State).setVm s₂.vm := by
      have : s₂ = ({ s₂ with vm := (U.calling g mk a).vm } : State).setVm s₂.vm := rfl
      rw [e2] at this
      exact this
    have hf₂ : s₂.frames = .throwing q :: .java g :: U.frames.tail := hend
    have hW' : U.WarmedH s₂.vm := hW₂
    have hs₂ : s₂ = ((({ U with heap := s₂.heap, slotsUsed := s₂.slotsUsed } : State).setVm s₂.vm).setTop g).pushFrame (.throwing q) := by
      refine e3.trans ?_
      rw [hf₂, State.calling_eq h.top, State.setFrames_setFrames, State.pushFrame, State.frames_setTop _ hr', State.setTop_of_frames _ hr', State.setFrames_setFrames, hr]
      rfl
    have hsame : U.sameButNew ({ U with heap := s₂.heap, slotsUsed := s₂.slotsUsed } : State) L mc ms := by
      refine ⟨?_, q2, q3, q4, q5, q6⟩
      obtain ⟨t, ht, -⟩ := State.frames_cons hr
      show ({ U with heap := s₂.heap, slotsUsed := s₂.slotsUsed } : State) = { U.setFrames U.frames with heap := s₂.heap, slotsUsed := s₂.slotsUsed }
      rw [State.setFrames_self ht]
    subst hg
    refine Or.inr ⟨q, ⟨(({ U with heap := s₂.heap, slotsUsed := s₂.slotsUsed } : State).setVm s₂.vm), Ls ++ L, c0 + mc, s0 + ms⟩,
      ⟨X.admits, X.cas, X.clock, X.frames, X.room, X.hears, X.method, X.code, (X.here.setHeapUsed s₂.heap s₂.slotsUsed).setVm hW'.alike, X.tail, State.WarmedH.trans X.warmed hW', X.limits, X.bytes, X.same.trans (hsame.setVm s.vm)⟩,
      ⟨g, mk, s₂, L, E, ce, rfl, rfl, hx, hce, hcv, hcl, rfl, hL, rfl, rfl⟩, ?_⟩
    show Steps p.tables e below _ (((({ U with heap := s₂.heap, slotsUsed := s₂.slotsUsed } : State).setVm s₂.vm).setTop g).pushFrame (.throwing q))
    rw [← hs₂]
    exact hsteps
end Payer
section Calls
variable {p : Program} {l : Launch} {e : Env} {R : Room} {s : State} {m : MethodId} {args : Array Value} {below : List Frame} {meth : Method} {c : Code} {T : State} {locs : List Loc} {cells slots : Nat}
theorem vx_callV (X : Stand p l e R s m args below meth c T locs cells slots) (hexec : p.tables.exec = Jvm.exec) {own C : String} {index : Nat} {y : MethodName} {bytes : ByteArray} {maxL : Nat} {ret : Option FieldType}
    (hown : s.vm.findClass own = some m.cls) (hlink : (Cond.methodLink own index y).before args s = true) (hinst : (Cond.instanceMethod y).before args s = true) (hsel : (Cond.selects C y y).before args s = true)
    (hcode : (Cond.code y bytes maxL ret).before args s = true) (hy : y.cls ≠ "java/lang/invoke/MethodHandle" ∧ y.cls ≠ "java/lang/invoke/VarHandle")
    {W9 : Nat} {Pre : Pt → Array Value → Prop} {Post : Pt → Array Value → Option Value → Pt → Prop} {PostX : Pt → Array Value → Addr → Pt → Prop} (hK : vx_Back l R p e below s args y 3 W9 Pre Post PostX)
    {b : Addr} {cellB : Cell} (hcell : T.heap[b]? = some cellB) (hobj : cellB.vm.isStatics = false) (hcls : s.vm.findClass C = some cellB.cls)
    {g : JFrame} (hg : g.method = m) (hsize : g.locals.size = c.maxLocals) {argsL rest : List Value} (hlen : ∀ sig, parseMethodDescriptor y.desc = some sig → argsL.length = sig.parameters.length)
    (hstack : g.stack = argsL.reverse ++ .ref b :: rest) (hW : 2 * g.monitorRoom + (rest.map fun v => v.category).sum ≤ W9) (hdg : decode c.code g.pc = .ok (.invokevirtual index, 3))
    (hpre : ∀ vm₁, s.WarmedH vm₁ → Pre ⟨T.setVm vm₁, locs, cells, slots⟩ (Value.ref b :: argsL).toArray) :
    (∃ (v : Option Value) (vm₁ : Vm) (B : Pt), s.WarmedH vm₁ ∧ Stand p l e R s m args below meth c B.U B.locs B.cells B.slots ∧ Post ⟨T.setVm vm₁, locs, cells, slots⟩ (Value.ref b :: argsL).toArray v B ∧
      ∀ target, Steps p.tables e below (B.U.setTop { g with pc := g.pc + 3, stack := v.toList ++ rest }) target → Steps p.tables e below (T.setTop g) target) ∨
    (∃ (q : Addr) (vm₁ : Vm) (B : Pt), s.WarmedH vm₁ ∧ Stand p l e R s m args below meth c B.U B.locs B.cells B.slots ∧ PostX ⟨T.setVm vm₁, locs, cells, slots⟩ (Value.ref b :: argsL).toArray q B ∧
      Steps p.tables e below (T.setTop g) ((B.U.setTop { g with stack := rest }).pushFrame (.throwing q))) := by
  obtain ⟨mk, methM, hnamed, hmethM, hstM, habM⟩ := Cond.instanceMethod_spec hinst
  obtain ⟨methM', cM, hmethM', -, -, -, -, -, -, hsigM⟩ := Cond.code_spec hnamed hcode
  cases hmethM.symm.trans hmethM'
  obtain ⟨c2, r2, m2, q1, q2, q3, q4, kP, hkP, hkPi⟩ := Cond.selects_spec hsel
  cases hcls.symm.trans q1
  cases (State.methodFound?_of_named hnamed hy).symm.trans q2
  cases hnamed.symm.trans q3
  have hselP : selectMethod e.platform s.vm cellB.cls mk = .method mk := by rw [Launch.admits_selectMethod X.admits]; exact q4
  obtain ⟨vm₁, X₁, hstep₁⟩ := X.invokevirtual hexec hown hlink hnamed hmethM hstM hkP hkPi hy (a := b) (cell := cellB) hcell
    (fun z h => by rw [h] at hobj; cases hobj) hselP hmethM habM hkP hkPi (g := g) hg (argsL := argsL) (rest := rest) (hlen _ hsigM) hstack hdg
  rcases hK m meth c ⟨T.setVm vm₁, locs, cells, slots⟩ { g with stack := rest } (.invokevirtual index) mk (Value.ref b :: argsL).toArray X₁ hg hsize hdg hW (X₁.named hnamed) (hpre vm₁ X₁.warmed) with ⟨v, B, X', hpost, hsteps⟩ | ⟨q, B, X', hpost, hsteps⟩
  · exact Or.inl ⟨v, vm₁, B, X₁.warmed, X', hpost, fun target h => hstep₁ _ fun acts => by rw [doInvoke_state]; exact hsteps.trans h⟩
  · exact Or.inr ⟨q, vm₁, B, X₁.warmed, X', hpost, hstep₁ _ fun acts => by rw [doInvoke_state]; exact hsteps⟩
theorem vx_callS (X : Stand p l e R s m args below meth c T locs cells slots) (hexec : p.tables.exec = Jvm.exec) {own : String} {index : Nat} {y : MethodName} {bytes : ByteArray} {maxL : Nat} {ret : Option FieldType}
    (hown : s.vm.findClass own = some m.cls) (hlink : (Cond.methodLink own index y).before args s = true) (hstat : (Cond.static y).before args s = true) (hinit : (Cond.initialized y.cls).before args s = true)
    (hcode : (Cond.code y bytes maxL ret).before args s = true) (hy : y.cls ≠ "java/lang/invoke/MethodHandle" ∧ y.cls ≠ "java/lang/invoke/VarHandle")
    {W9 : Nat} {Pre : Pt → Array Value → Prop} {Post : Pt → Array Value → Option Value → Pt → Prop} {PostX : Pt → Array Value → Addr → Pt → Prop} (hK : vx_Back l R p e below s args y 3 W9 Pre Post PostX)
    {g : JFrame} (hg : g.method = m) (hsize : g.locals.size = c.maxLocals) {argsL rest : List Value} (hlen : ∀ sig, parseMethodDescriptor y.desc = some sig → argsL.length = sig.parameters.length)
    (hstack : g.stack = argsL.reverse ++ rest) (hW : 2 * g.monitorRoom + (rest.map fun v => v.category).sum ≤ W9) (hdg : decode c.code g.pc = .ok (.invokestatic index, 3))
    (hpre : ∀ vm₁, s.WarmedH vm₁ → Pre ⟨T.setVm vm₁, locs, cells, slots⟩ argsL.toArray) :
    (∃ (v : Option Value) (vm₁ : Vm) (B : Pt), s.WarmedH vm₁ ∧ Stand p l e R s m args below meth c B.U B.locs B.cells B.slots ∧ Post ⟨T.setVm vm₁, locs, cells, slots⟩ argsL.toArray v B ∧
      ∀ target, Steps p.tables e below (B.U.setTop { g with pc := g.pc + 3, stack := v.toList ++ rest }) target → Steps p.tables e below (T.setTop g) target) ∨
    (∃ (q : Addr) (vm₁ : Vm) (B : Pt), s.WarmedH vm₁ ∧ Stand p l e R s m args below meth c B.U B.locs B.cells B.slots ∧ PostX ⟨T.setVm vm₁, locs, cells, slots⟩ argsL.toArray q B ∧
      Steps p.tables e below (T.setTop g) ((B.U.setTop { g with stack := rest }).pushFrame (.throwing q))) := by
  obtain ⟨mk, hnamed⟩ := Cond.code_named hcode
  obtain ⟨methM, cM, hmethM, -, -, -, -, -, -, hsigM⟩ := Cond.code_spec hnamed hcode
  have hstatic : methM.isStatic = true := Cond.static_spec hnamed hmethM hstat
  obtain ⟨kP, hkP, -⟩ := className_of_methodNamed hnamed
  have hinitP : kP.init = .initialized := Cond.initialized_spec (findClass_of_methodNamed hnamed) hkP hinit
  obtain ⟨vm₁, X₁, hstep₁⟩ := X.invokestatic hexec hown hlink hnamed hmethM hstatic hkP hinitP hy (g := g) hg (argsL := argsL) (rest := rest) (hlen _ hsigM) hstack hdg
  rcases hK m meth c ⟨T.setVm vm₁, locs, cells, slots⟩ { g with stack := rest } (.invokestatic index) mk argsL.toArray X₁ hg hsize hdg hW (X₁.named hnamed) (hpre vm₁ X₁.warmed) with ⟨v, B, X', hpost, hsteps⟩ | ⟨q, B, X', hpost, hsteps⟩
  · exact Or.inl ⟨v, vm₁, B, X₁.warmed, X', hpost, fun target h => hstep₁ _ fun acts => by rw [doInvoke_state]; exact hsteps.trans h⟩
  · exact Or.inr ⟨q, vm₁, B, X₁.warmed, X', hpost, hstep₁ _ fun acts => by rw [doInvoke_state]; exact hsteps⟩
end Calls
theorem vx_cls {s : State} {T : State} {vm₁ : Vm} {E : String} {k : ClassId} (hW : s.WarmedH vm₁) (h : (T.setVm vm₁).vm.findClass E = some k) : s.vm.findClass E = some k := by
  have h1 : vm₁.findClass E = some k := h
  rw [hW.alike.findClass] at h1
  exact h1
/-- the method's frame g, with q thrown over it -/
def vx_W (p : Program) (l : Launch) (e : Env) (R : Room) (s : State) (m : MethodId) (args : Array Value) (below : List Frame) (meth : Method) (c : Code) (H : Heap) (locs : List Loc) (cells slots : Nat) (Q : State → Prop) (g : JFrame) (q : Addr) : Prop :=
  ∀ T : State, T.heap = H → Stand p l e R s m args below meth c T locs cells slots → ∃ t, Steps p.tables e below ((T.setTop g).pushFrame (.throwing q)) t ∧ Q t
def vx_Run (p : Program) (l : Launch) (e : Env) (R : Room) (s : State) (m : MethodId) (args : Array Value) (below : List Frame) (meth : Method) (c : Code) (H : Heap) (locs : List Loc) (cells slots mc ms : Nat) (g : JFrame) (rest : List Value) (Qa : State → Outcome → State → Prop) (XC : String → State → State → Prop) (free : Addr → Prop) : Prop :=
  ∀ T : State, T.heap = H → Stand p l e R s m args below meth c T locs cells slots →
    (∃ (v : Option Value) (st₀ t T' : State) (L : List Loc), st₀.heap = H ∧ Stand p l e R s m args below meth c T' (locs ++ L) (cells + mc) (slots + ms) ∧ (∀ q ∈ L, free q.base) ∧ T'.heap = t.heap ∧ T'.vm = t.vm ∧ Qa st₀ (.returned v) t ∧
      Goes p e below T g T' { g with pc := g.pc + 3, stack := v.toList ++ rest }) ∨
    (∃ (q : Addr) (st₀ t T' : State) (L : List Loc) (E : String) (ce : Cell), st₀.heap = H ∧ Stand p l e R s m args below meth c T' (locs ++ L) (cells + mc) (slots + ms) ∧ (∀ z ∈ L, free z.base) ∧ T'.heap = t.heap ∧ T'.vm = t.vm ∧ XC E st₀ t ∧ t.heap[q]? = some ce ∧ ce.vm = .none ∧ s.vm.findClass E = some ce.cls ∧
      Steps p.tables e below (T.setTop g) ((T'.setTop { g with stack := rest }).pushFrame (.throwing q)))
def vx_X {S : Type} (px : S → Prop) (B : String → S → State → Prop) (A : Nat → Prop) : String → State → State → Prop := fun E st t => ∃ u : S, px u ∧ B E u t ∧ va_F A st t
section Runs
variable {p : Program} {l : Launch} {e : Env} {R : Room} {s : State} {m : MethodId} {args : Array Value} {below : List Frame} {meth : Method} {c : Code} {H : Heap} {locs : List Loc} {cells slots : Nat}
variable {y : MethodName} {bytes cc : ByteArray} {maxL nL mc ms n index : Nat} {ret : Option FieldType} {ws : List Cond} {rm : Room} {Pc : Array Value → State → Prop} {Qc : Array Value → State → Outcome → State → Prop} {XC : String → State → State → Prop} {free : Addr → Prop} {Ts : List Cond} {own C : String} {b : Addr} {As rest : List Value} {g : JFrame}
theorem vx_callBack (cb : CallB R s args own index y bytes maxL ret ws rm mc ms n) (hM : vx_Met l y ws rm Pc Qc XC mc ms free) (hbl : FrameBlind Pc) : vx_Back l R p e below s args y 3 8 (PreOf R mc ms Pc) (PostOf Qc mc ms free) (vx_Post XC mc ms free) := by
  obtain ⟨hrc, hrs, hfr, hlo, hws, hcw, -, hini, -⟩ := cb
  exact vx_back (bytes := bytes) (maxL := maxL) (ret := ret) hM hbl hrc hrs hfr hlo hws hcw (fun a' U hW => word_at hW (Or.inl (by first | rfl | simp [Cond.onTables, Cond.keeps, Cond.steady])) hini)
theorem vx_runV (S : CallFix p m c cc nL s args Ts own) (hM : vx_Met l y ws rm Pc Qc XC mc ms free) (cw : CallW R s args own C index y bytes maxL ret ws rm mc ms n) (hp : PreV s H C b Pc As)
    (hg : g.method = m) (hn : As.length = n) (hsize : g.locals.size = nL) (hstack : g.stack = As.reverse ++ .ref b :: rest) (hW : 2 * g.monitorRoom + (rest.map fun v => v.category).sum ≤ 8) (hdg : decode cc g.pc = .ok (.invokevirtual index, 3)) (hf : cells + mc ≤ R.cells ∧ slots + ms ≤ R.slots) :
    vx_Run p l e R s m args below meth c H locs cells slots mc ms g rest (Qc (Value.ref b :: As).toArray) XC free := by
  have hK : vx_Back l R p e below s args y 3 8 (PreOf R mc ms Pc) (PostOf Qc mc ms free) (vx_Post XC mc ms free) := vx_callBack cw.1 hM hp.1
  obtain ⟨⟨-, -, -, -, -, -, hcode, -, hy, hlen, hl⟩, hin, hse⟩ := cw
  obtain ⟨hx, hb, hml, ho, -⟩ := S
  obtain ⟨-, ⟨cellB, hcB, hoB, hclB⟩, hPc⟩ := hp
  intro T hT X
  rcases vx_callV X hx (C := C) (bytes := bytes) (maxL := maxL) (ret := ret) ho hl hin hse hcode hy hK (by rw [hT]; exact hcB) hoB hclB hg (hsize.trans hml.symm) (argsL := As) (rest := rest) (fun sig h => hn.trans (hlen sig h)) hstack hW (by rw [hb]; exact hdg)
    (fun vm₁ hW₁ => ⟨hf.1, hf.2, hPc (T.setVm vm₁) hT hW₁⟩) with ⟨v, vm₁, ⟨U', l2, c2, s2⟩, hW₁, X', ⟨g', mk, t, L, e1, e2, hq, h1, hL, h2, h3⟩, st⟩ | ⟨q, vm₁, ⟨U', l2, c2, s2⟩, hW₁, X', ⟨g', mk, t, L, E, ce, e1, e2, hq, hce, hcv, hcl, h1, hL, h2, h3⟩, st⟩
  · dsimp only [Pt.U, Pt.locs, Pt.cells, Pt.slots] at X' e1 e2 h1 h2 h3 st
    subst h1; subst h2; subst h3
    exact Or.inl ⟨v, (T.setVm vm₁).calling g' mk (Value.ref b :: As).toArray, t, U', L, hT, X', hL, e1, e2, hq, st⟩
  · dsimp only [Pt.U, Pt.locs, Pt.cells, Pt.slots] at X' e1 e2 h1 h2 h3 st hcl
    subst h1; subst h2; subst h3
    exact Or.inr ⟨q, (T.setVm vm₁).calling g' mk (Value.ref b :: As).toArray, t, U', L, E, ce, hT, X', hL, e1, e2, hq, hce, hcv, vx_cls hW₁ hcl, st⟩
theorem vx_runS (S : CallFix p m c cc nL s args Ts own) (hM : vx_Met l y ws rm Pc Qc XC mc ms free) (cw : CallB R s args own index y bytes maxL ret ws rm mc ms n ∧ (Cond.static y).before args s = true) (hp : PreS s H Pc As)
    (hg : g.method = m) (hn : As.length = n) (hsize : g.locals.size = nL) (hstack : g.stack = As.reverse ++ rest) (hW : 2 * g.monitorRoom + (rest.map fun v => v.category).sum ≤ 8) (hdg : decode cc g.pc = .ok (.invokestatic index, 3)) (hf : cells + mc ≤ R.cells ∧ slots + ms ≤ R.slots) :
    vx_Run p l e R s m args below meth c H locs cells slots mc ms g rest (Qc As.toArray) XC free := by
  have hK : vx_Back l R p e below s args y 3 8 (PreOf R mc ms Pc) (PostOf Qc mc ms free) (vx_Post XC mc ms free) := vx_callBack cw.1 hM hp.1
  obtain ⟨⟨-, -, -, -, -, -, hcode, hini, hy, hlen, hl⟩, hstt⟩ := cw
  obtain ⟨hx, hb, hml, ho, -⟩ := S
  intro T hT X
  rcases vx_callS X hx (bytes := bytes) (maxL := maxL) (ret := ret) ho hl hstt hini hcode hy hK hg (hsize.trans hml.symm) (argsL := As) (rest := rest) (fun sig h => hn.trans (hlen sig h)) hstack hW (by rw [hb]; exact hdg)
    (fun vm₁ hW₁ => ⟨hf.1, hf.2, hp.2 (T.setVm vm₁) hT hW₁⟩) with ⟨v, vm₁, ⟨U', l2, c2, s2⟩, hW₁, X', ⟨g', mk, t, L, e1, e2, hq, h1, hL, h2, h3⟩, st⟩ | ⟨q, vm₁, ⟨U', l2, c2, s2⟩, hW₁, X', ⟨g', mk, t, L, E, ce, e1, e2, hq, hce, hcv, hcl, h1, hL, h2, h3⟩, st⟩
  · dsimp only [Pt.U, Pt.locs, Pt.cells, Pt.slots] at X' e1 e2 h1 h2 h3 st
    subst h1; subst h2; subst h3
    exact Or.inl ⟨v, (T.setVm vm₁).calling g' mk As.toArray, t, U', L, hT, X', hL, e1, e2, hq, st⟩
  · dsimp only [Pt.U, Pt.locs, Pt.cells, Pt.slots] at X' e1 e2 h1 h2 h3 st hcl
    subst h1; subst h2; subst h3
    exact Or.inr ⟨q, (T.setVm vm₁).calling g' mk As.toArray, t, U', L, E, ce, hT, X', hL, e1, e2, hq, hce, hcv, vx_cls hW₁ hcl, st⟩
end Runs
section Rows
variable {p : Program} {l : Launch} {e : Env} {R : Room} {s : State} {m : MethodId} {args : Array Value} {below : List Frame} {meth : Method} {c : Code} {H : Heap} {locs : List Loc} {cells slots : Nat} {Q : State → Prop}
variable {mc ms : Nat} {free : Addr → Prop} {A0 A1 : Nat → Prop} {H0 : Heap} {a : Array Value} {pc : Nat} {ls : Array Slot} {st0 rest : List Value}
theorem vx_keep {st₀ t T' : State} {L : List Loc} (h0 : st₀.heap = H) (e1 : T'.heap = t.heap) (hS : va_S A0 H0 H locs) (hA : ∀ q, q < H.size → A1 q → A0 q) (hf : ∀ q, free q → A0 q) (hL : ∀ q ∈ L, free q.base) (hF : va_F A1 st₀ t) :
    H.size ≤ T'.heap.size ∧ (∀ q : Nat, q < H.size → ¬ A1 q → T'.heap[q]? = H[q]?) ∧ va_S A0 H0 T'.heap (locs ++ L) := by
  obtain ⟨hz, hk⟩ := hF
  rw [h0] at hz hk
  exact ⟨by rw [e1]; exact hz, fun q h1 h2 => by rw [e1]; exact hk q h1 h2,
    ⟨Nat.le_trans hS.1 (by rw [e1]; exact hz), fun q h1 h2 => by rw [e1, hk q (Nat.lt_of_lt_of_le h1 hS.1) (fun z => h2 (hA q (Nat.lt_of_lt_of_le h1 hS.1) z))]; exact hS.2.1 q h1 h2, fun q hq => by
      rcases List.mem_append.mp hq with h | h
      · exact hS.2.2 q h
      · exact hf _ (hL q h)⟩⟩
theorem vx_calli {S SX : Type} {post : Int32 → S → Prop} {px : SX → Prop} {B : S → State → Prop} {BX : String → SX → State → Prop} {AX : Nat → Prop} (hr : vx_Run p l e R s m args below meth c H locs cells slots mc ms (F0 m pc ls st0) rest (va_Qi post B A1 a) (vx_X px BX AX) free) (hS : va_S A0 H0 H locs) (hA : ∀ q, q < H.size → A1 q → A0 q) (hf : ∀ q, free q → A0 q) (hAX : ∀ q, q < H.size → AX q → A0 q)
    (kx : ∀ (E : String) (ce : Cell) (q9 : Addr) (u : SX) (t : State) (H1 : Heap) (locs1 : List Loc), t.heap = H1 → s.vm.Alike t.vm → px u → BX E u t → H.size ≤ H1.size → (∀ q : Nat, q < H.size → ¬ AX q → H1[q]? = H[q]?) → va_S A0 H0 H1 locs1 → H1[q9]? = some ce → ce.vm = .none → s.vm.findClass E = some ce.cls → vx_W p l e R s m args below meth c H1 locs1 (cells + mc) (slots + ms) Q (F0 m pc ls rest) q9)
    (kk : ∀ (r : Int32) (u : S) (t : State) (H1 : Heap) (locs1 : List Loc), t.heap = H1 → s.vm.Alike t.vm → post r u → B u t → H.size ≤ H1.size → (∀ q : Nat, q < H.size → ¬ A1 q → H1[q]? = H[q]?) → va_S A0 H0 H1 locs1 → W p l e R s m args below meth c H1 locs1 (cells + mc) (slots + ms) Q (F0 m (pc + 3) ls (.int r :: rest))) : W p l e R s m args below meth c H locs cells slots Q (F0 m pc ls st0) := by
  intro T hT X
  rcases hr T hT X with ⟨v, st₀, t, T', L, h0, X', hL, e1, e2, ⟨⟨r, u, hv, hp, hb⟩, hF⟩, st⟩ | ⟨q, st₀, t, T', L, E, ce, h0, X', hL, e1, e2, ⟨u, hp, hb, hF⟩, hce, hcv, hcl, st⟩
  · cases hv
    obtain ⟨k1, k2, k3⟩ := vx_keep h0 e1 hS hA hf hL hF
    obtain ⟨t2, a1, b1⟩ := kk r u t T'.heap (locs ++ L) e1.symm (by rw [← e2]; exact X'.warmed.alike) hp hb k1 k2 k3 T' rfl X'
    exact ⟨t2, st t2 a1, b1⟩
  · obtain ⟨k1, k2, k3⟩ := vx_keep h0 e1 hS hAX hf hL hF
    obtain ⟨t2, a1, b1⟩ := kx E ce q u t T'.heap (locs ++ L) e1.symm (by rw [← e2]; exact X'.warmed.alike) hp hb k1 k2 k3 (by rw [e1]; exact hce) hcv hcl T' rfl X'
    exact ⟨t2, st.trans a1, b1⟩
theorem vx_calll {S SX : Type} {post : Int64 → S → Prop} {px : SX → Prop} {B : S → State → Prop} {BX : String → SX → State → Prop} {AX : Nat → Prop} (hr : vx_Run p l e R s m args below meth c H locs cells slots mc ms (F0 m pc ls st0) rest (va_Ql post B A1 a) (vx_X px BX AX) free) (hS : va_S A0 H0 H locs) (hA : ∀ q, q < H.size → A1 q → A0 q) (hf : ∀ q, free q → A0 q) (hAX : ∀ q, q < H.size → AX q → A0 q)
    (kx : ∀ (E : String) (ce : Cell) (q9 : Addr) (u : SX) (t : State) (H1 : Heap) (locs1 : List Loc), t.heap = H1 → s.vm.Alike t.vm → px u → BX E u t → H.size ≤ H1.size → (∀ q : Nat, q < H.size → ¬ AX q → H1[q]? = H[q]?) → va_S A0 H0 H1 locs1 → H1[q9]? = some ce → ce.vm = .none → s.vm.findClass E = some ce.cls → vx_W p l e R s m args below meth c H1 locs1 (cells + mc) (slots + ms) Q (F0 m pc ls rest) q9)
    (kk : ∀ (r : Int64) (u : S) (t : State) (H1 : Heap) (locs1 : List Loc), t.heap = H1 → s.vm.Alike t.vm → post r u → B u t → H.size ≤ H1.size → (∀ q : Nat, q < H.size → ¬ A1 q → H1[q]? = H[q]?) → va_S A0 H0 H1 locs1 → W p l e R s m args below meth c H1 locs1 (cells + mc) (slots + ms) Q (F0 m (pc + 3) ls (.long r :: rest))) : W p l e R s m args below meth c H locs cells slots Q (F0 m pc ls st0) := by
  intro T hT X
  rcases hr T hT X with ⟨v, st₀, t, T', L, h0, X', hL, e1, e2, ⟨⟨r, u, hv, hp, hb⟩, hF⟩, st⟩ | ⟨q, st₀, t, T', L, E, ce, h0, X', hL, e1, e2, ⟨u, hp, hb, hF⟩, hce, hcv, hcl, st⟩
  · cases hv
    obtain ⟨k1, k2, k3⟩ := vx_keep h0 e1 hS hA hf hL hF
    obtain ⟨t2, a1, b1⟩ := kk r u t T'.heap (locs ++ L) e1.symm (by rw [← e2]; exact X'.warmed.alike) hp hb k1 k2 k3 T' rfl X'
    exact ⟨t2, st t2 a1, b1⟩
  · obtain ⟨k1, k2, k3⟩ := vx_keep h0 e1 hS hAX hf hL hF
    obtain ⟨t2, a1, b1⟩ := kx E ce q u t T'.heap (locs ++ L) e1.symm (by rw [← e2]; exact X'.warmed.alike) hp hb k1 k2 k3 (by rw [e1]; exact hce) hcv hcl T' rfl X'
    exact ⟨t2, st.trans a1, b1⟩
theorem vx_callf {S SX : Type} {post : UInt32 → S → Prop} {px : SX → Prop} {B : S → State → Prop} {BX : String → SX → State → Prop} {AX : Nat → Prop} (hr : vx_Run p l e R s m args below meth c H locs cells slots mc ms (F0 m pc ls st0) rest (va_Qf post B A1 a) (vx_X px BX AX) free) (hS : va_S A0 H0 H locs) (hA : ∀ q, q < H.size → A1 q → A0 q) (hf : ∀ q, free q → A0 q) (hAX : ∀ q, q < H.size → AX q → A0 q)
    (kx : ∀ (E : String) (ce : Cell) (q9 : Addr) (u : SX) (t : State) (H1 : Heap) (locs1 : List Loc), t.heap = H1 → s.vm.Alike t.vm → px u → BX E u t → H.size ≤ H1.size → (∀ q : Nat, q < H.size → ¬ AX q → H1[q]? = H[q]?) → va_S A0 H0 H1 locs1 → H1[q9]? = some ce → ce.vm = .none → s.vm.findClass E = some ce.cls → vx_W p l e R s m args below meth c H1 locs1 (cells + mc) (slots + ms) Q (F0 m pc ls rest) q9)
    (kk : ∀ (r : UInt32) (u : S) (t : State) (H1 : Heap) (locs1 : List Loc), t.heap = H1 → s.vm.Alike t.vm → post r u → B u t → H.size ≤ H1.size → (∀ q : Nat, q < H.size → ¬ A1 q → H1[q]? = H[q]?) → va_S A0 H0 H1 locs1 → W p l e R s m args below meth c H1 locs1 (cells + mc) (slots + ms) Q (F0 m (pc + 3) ls (.float r :: rest))) : W p l e R s m args below meth c H locs cells slots Q (F0 m pc ls st0) := by
  intro T hT X
  rcases hr T hT X with ⟨v, st₀, t, T', L, h0, X', hL, e1, e2, ⟨⟨r, u, hv, hp, hb⟩, hF⟩, st⟩ | ⟨q, st₀, t, T', L, E, ce, h0, X', hL, e1, e2, ⟨u, hp, hb, hF⟩, hce, hcv, hcl, st⟩
  · cases hv
    obtain ⟨k1, k2, k3⟩ := vx_keep h0 e1 hS hA hf hL hF
    obtain ⟨t2, a1, b1⟩ := kk r u t T'.heap (locs ++ L) e1.symm (by rw [← e2]; exact X'.warmed.alike) hp hb k1 k2 k3 T' rfl X'
    exact ⟨t2, st t2 a1, b1⟩
  · obtain ⟨k1, k2, k3⟩ := vx_keep h0 e1 hS hAX hf hL hF
    obtain ⟨t2, a1, b1⟩ := kx E ce q u t T'.heap (locs ++ L) e1.symm (by rw [← e2]; exact X'.warmed.alike) hp hb k1 k2 k3 (by rw [e1]; exact hce) hcv hcl T' rfl X'
    exact ⟨t2, st.trans a1, b1⟩
theorem vx_calld {S SX : Type} {post : UInt64 → S → Prop} {px : SX → Prop} {B : S → State → Prop} {BX : String → SX → State → Prop} {AX : Nat → Prop} (hr : vx_Run p l e R s m args below meth c H locs cells slots mc ms (F0 m pc ls st0) rest (va_Qd post B A1 a) (vx_X px BX AX) free) (hS : va_S A0 H0 H locs) (hA : ∀ q, q < H.size → A1 q → A0 q) (hf : ∀ q, free q → A0 q) (hAX : ∀ q, q < H.size → AX q → A0 q)
    (kx : ∀ (E : String) (ce : Cell) (q9 : Addr) (u : SX) (t : State) (H1 : Heap) (locs1 : List Loc), t.heap = H1 → s.vm.Alike t.vm → px u → BX E u t → H.size ≤ H1.size → (∀ q : Nat, q < H.size → ¬ AX q → H1[q]? = H[q]?) → va_S A0 H0 H1 locs1 → H1[q9]? = some ce → ce.vm = .none → s.vm.findClass E = some ce.cls → vx_W p l e R s m args below meth c H1 locs1 (cells + mc) (slots + ms) Q (F0 m pc ls rest) q9)
    (kk : ∀ (r : UInt64) (u : S) (t : State) (H1 : Heap) (locs1 : List Loc), t.heap = H1 → s.vm.Alike t.vm → post r u → B u t → H.size ≤ H1.size → (∀ q : Nat, q < H.size → ¬ A1 q → H1[q]? = H[q]?) → va_S A0 H0 H1 locs1 → W p l e R s m args below meth c H1 locs1 (cells + mc) (slots + ms) Q (F0 m (pc + 3) ls (.double r :: rest))) : W p l e R s m args below meth c H locs cells slots Q (F0 m pc ls st0) := by
  intro T hT X
  rcases hr T hT X with ⟨v, st₀, t, T', L, h0, X', hL, e1, e2, ⟨⟨r, u, hv, hp, hb⟩, hF⟩, st⟩ | ⟨q, st₀, t, T', L, E, ce, h0, X', hL, e1, e2, ⟨u, hp, hb, hF⟩, hce, hcv, hcl, st⟩
  · cases hv
    obtain ⟨k1, k2, k3⟩ := vx_keep h0 e1 hS hA hf hL hF
    obtain ⟨t2, a1, b1⟩ := kk r u t T'.heap (locs ++ L) e1.symm (by rw [← e2]; exact X'.warmed.alike) hp hb k1 k2 k3 T' rfl X'
    exact ⟨t2, st t2 a1, b1⟩
  · obtain ⟨k1, k2, k3⟩ := vx_keep h0 e1 hS hAX hf hL hF
    obtain ⟨t2, a1, b1⟩ := kx E ce q u t T'.heap (locs ++ L) e1.symm (by rw [← e2]; exact X'.warmed.alike) hp hb k1 k2 k3 (by rw [e1]; exact hce) hcv hcl T' rfl X'
    exact ⟨t2, st.trans a1, b1⟩
theorem vx_callv {S SX : Type} {post : S → Prop} {px : SX → Prop} {B : S → State → Prop} {BX : String → SX → State → Prop} {AX : Nat → Prop} (hr : vx_Run p l e R s m args below meth c H locs cells slots mc ms (F0 m pc ls st0) rest (va_Qv post B A1 a) (vx_X px BX AX) free) (hS : va_S A0 H0 H locs) (hA : ∀ q, q < H.size → A1 q → A0 q) (hf : ∀ q, free q → A0 q) (hAX : ∀ q, q < H.size → AX q → A0 q)
    (kx : ∀ (E : String) (ce : Cell) (q9 : Addr) (u : SX) (t : State) (H1 : Heap) (locs1 : List Loc), t.heap = H1 → s.vm.Alike t.vm → px u → BX E u t → H.size ≤ H1.size → (∀ q : Nat, q < H.size → ¬ AX q → H1[q]? = H[q]?) → va_S A0 H0 H1 locs1 → H1[q9]? = some ce → ce.vm = .none → s.vm.findClass E = some ce.cls → vx_W p l e R s m args below meth c H1 locs1 (cells + mc) (slots + ms) Q (F0 m pc ls rest) q9)
    (kk : ∀ (u : S) (t : State) (H1 : Heap) (locs1 : List Loc), t.heap = H1 → s.vm.Alike t.vm → post u → B u t → H.size ≤ H1.size → (∀ q : Nat, q < H.size → ¬ A1 q → H1[q]? = H[q]?) → va_S A0 H0 H1 locs1 → W p l e R s m args below meth c H1 locs1 (cells + mc) (slots + ms) Q (F0 m (pc + 3) ls (rest))) : W p l e R s m args below meth c H locs cells slots Q (F0 m pc ls st0) := by
  intro T hT X
  rcases hr T hT X with ⟨v, st₀, t, T', L, h0, X', hL, e1, e2, ⟨⟨u, hv, hp, hb⟩, hF⟩, st⟩ | ⟨q, st₀, t, T', L, E, ce, h0, X', hL, e1, e2, ⟨u, hp, hb, hF⟩, hce, hcv, hcl, st⟩
  · cases hv
    obtain ⟨k1, k2, k3⟩ := vx_keep h0 e1 hS hA hf hL hF
    obtain ⟨t2, a1, b1⟩ := kk u t T'.heap (locs ++ L) e1.symm (by rw [← e2]; exact X'.warmed.alike) hp hb k1 k2 k3 T' rfl X'
    exact ⟨t2, st t2 a1, b1⟩
  · obtain ⟨k1, k2, k3⟩ := vx_keep h0 e1 hS hAX hf hL hF
    obtain ⟨t2, a1, b1⟩ := kx E ce q u t T'.heap (locs ++ L) e1.symm (by rw [← e2]; exact X'.warmed.alike) hp hb k1 k2 k3 (by rw [e1]; exact hce) hcv hcl T' rfl X'
    exact ⟨t2, st.trans a1, b1⟩
end Rows
section Ends
variable {p : Program} {l : Launch} {e : Env} {R : Room} {s : State} {m : MethodId} {args : Array Value} {below : List Frame} {meth : Method} {c : Code} {H : Heap} {locs : List Loc} {cells slots : Nat} {Q : State → Prop}
variable {mc ms : Nat} {free : Addr → Prop} {A0 A1 : Nat → Prop} {H0 : Heap} {a : Array Value} {ls : Array Slot} {st0 rest : List Value}
variable {Qc : Array Value → State → Outcome → State → Prop} {XC : String → State → State → Prop}
/-- what a body that may throw owes at its end -/
def vx_MQ (below : List Frame) (Qc : Array Value → State → Outcome → State → Prop) (XC : String → State → State → Prop) (a : Array Value) (s : State) (mc ms : Nat) (free : Addr → Prop) : State → Prop := fun t =>
  ∃ o, t.status = .running ∧ Ended t below o ∧ vx_Q Qc XC mc ms free a s o t
theorem vx_ret {g : JFrame} {mc ms : Nat} (k : W p l e R s m args below meth c H locs cells slots (MQ below Qc args s mc ms free) g) : W p l e R s m args below meth c H locs cells slots (vx_MQ below Qc XC args s mc ms free) g := by
  intro T hT X
  obtain ⟨t, a1, o, b1, b2, b3, b4⟩ := k T hT X
  exact ⟨t, a1, o, b1, b2, Or.inl ⟨b3, b4⟩⟩
/-- not caught here: it goes on to the caller -/
theorem vx_widen {g : JFrame} {q : Addr} {k n : Nat} (h1 : cells ≤ k) (h2 : slots ≤ n) (kk : vx_W p l e R s m args below meth c H locs k n Q g q) : vx_W p l e R s m args below meth c H locs cells slots Q g q := fun T hT X => kk T hT (stand_widen X h1 h2)
theorem vx_out {pc : Nat} {E : String} {ce : Cell} {q : Addr} {mc ms : Nat} (hout : ∀ x ∈ c.exceptionTable.toList, covers x pc = false) (hlocks : meth.locks = false) (hcell : H[q]? = some ce) (hv : ce.vm = .none) (hcl : s.vm.findClass E = some ce.cls)
    (hx : ∀ t : State, t.heap = H → s.vm.Alike t.vm → XC E s t) (hf : ∀ z ∈ locs, free z.base) (hc : cells ≤ mc) (hs : slots ≤ ms) :
    vx_W p l e R s m args below meth c H locs cells slots (vx_MQ below Qc XC args s mc ms free) (F0 m pc ls rest) q := by
  intro T hT X
  obtain ⟨st1, hrun, hend, hW, hsm⟩ := X.leaveThrown q (g := F0 m pc ls rest) rfl rfl rfl hout hlocks
  have hcell9 : (T.setFrames (.throwing q :: below)).heap[q]? = some ce := by
    show T.heap[q]? = some ce
    rw [hT]; exact hcell
  exact ⟨_, st1, .threw q, hrun, hend, Or.inr ⟨q, rfl, E, ce, locs, hx _ hT hW.alike, hcell9, hv, hcl, hW, hsm.mono hc hs, hf⟩⟩
theorem vx_frame {U : State} {k n : Nat} (h : s.sameButNew ({ U with vm := s.vm } : State) locs k n) : s.heap.size ≤ U.heap.size ∧ ∀ q : Nat, q < s.heap.size → (∀ z ∈ locs, z.base ≠ q) → U.heap[q]? = s.heap[q]? := by
  obtain ⟨-, h2, -, -, -, h6⟩ := h
  refine ⟨h2, fun q hq hz => ?_⟩
  obtain ⟨c9, e1, e2, e3, e4⟩ := h6 q _ (Array.getElem?_eq_getElem hq)
  have hs : c9.slots = (s.heap[q]).slots := Array.ext_getElem? fun i => e4 i fun hm => hz _ hm rfl
  have h9 : c9 = s.heap[q] := by
    rw [hs] at e2
    exact e2
  have e5 : U.heap[q]? = some c9 := e1
  rw [e5, h9, Array.getElem?_eq_getElem hq]
/-- the words of a throw but the four that speak of the heap -/
def vx_no (w : Cond) : Bool := decide (w ≠ .isRef (.static Bundle.tN "UNASSIGNED_STACK" Bundle.steD)) && decide (w ≠ .isRef (.static Bundle.tN "SUPPRESSED_SENTINEL" Bundle.listD)) && decide (w ≠ .laysStatic Bundle.tN "UNASSIGNED_STACK" Bundle.steD) && decide (w ≠ .laysStatic Bundle.tN "SUPPRESSED_SENTINEL" Bundle.listD)
def vx_at0 (own : String) (ic : Nat) (X : String) (names : List String) : List Cond := (Bundle.ownAtoms0 own ic X names).filter vx_no
def vx_atS (own : String) (ic : Nat) (X : String) (names : List String) : List Cond := (Bundle.ownAtoms own ic X names).filter vx_no
/-- a word that the tables alone decide, or a good one -/
def vx_ot (w : Cond) : Bool := w.onTables || goodWord w
theorem vx_ot_at {args a' : Array Value} {s U : State} {w : Cond} (hW : s.WarmedH U.vm) (hvm : s.vm = U.vm) (hg : vx_ot w = true) (h : w.before args s = true) : w.before a' U = true := by
  simp only [vx_ot, Bool.or_eq_true] at hg
  rcases hg with hg | hg
  · exact va_tabs hg hvm h
  · exact word_at hW (good_of_word hg) h
/-- a list's words: the good ones out of the method's own list, the others by premises of their own -/
theorem vx_hat {args : Array Value} {s : State} {L B : List Cond} (h1 : ∀ w ∈ L.filter goodWord, w.before args s = true) (h2 : ∀ w ∈ L.filter (fun w => !goodWord w), w ∈ B) (h3 : ∀ w ∈ B, w.before args s = true) : ∀ w ∈ L, w.before args s = true := by
  intro w hw
  by_cases g : goodWord w = true
  · exact h1 w (List.mem_filter.mpr ⟨hw, g⟩)
  · refine h3 w (h2 w (List.mem_filter.mpr ⟨hw, ?_⟩))
    show (!goodWord w) = true
    cases hgw : goodWord w
    · rfl
    · exact absurd hgw g
theorem vx_c {args : Array Value} {s : State} {w : Cond} {B : List Cond} (h : w.before args s = true) (t : ∀ w ∈ B, w.before args s = true) : ∀ w' ∈ w :: B, w'.before args s = true := fun w' h' => (List.mem_cons.mp h').elim (fun e => by rw [e]; exact h) (t w')
theorem vx_n {args : Array Value} {s : State} : ∀ w ∈ ([] : List Cond), w.before args s = true := fun _ h => nomatch h
theorem vx_own {args : Array Value} {s : State} {L : List Cond} (h1 : ∀ w ∈ L.filter vx_no, w.before args s = true)
    (hU : (Cond.isRef (.static Bundle.tN "UNASSIGNED_STACK" Bundle.steD)).before args s = true) (hN : (Cond.isRef (.static Bundle.tN "SUPPRESSED_SENTINEL" Bundle.listD)).before args s = true)
    (lU : (Cond.laysStatic Bundle.tN "UNASSIGNED_STACK" Bundle.steD).before args s = true) (lN : (Cond.laysStatic Bundle.tN "SUPPRESSED_SENTINEL" Bundle.listD).before args s = true) : ∀ w ∈ L, w.before args s = true := by
  intro w hw
  by_cases e1 : w = .isRef (.static Bundle.tN "UNASSIGNED_STACK" Bundle.steD)
  · rw [e1]; exact hU
  · by_cases e2 : w = .isRef (.static Bundle.tN "SUPPRESSED_SENTINEL" Bundle.listD)
    · rw [e2]; exact hN
    · by_cases e3 : w = .laysStatic Bundle.tN "UNASSIGNED_STACK" Bundle.steD
      · rw [e3]; exact lU
      · by_cases e4 : w = .laysStatic Bundle.tN "SUPPRESSED_SENTINEL" Bundle.listD
        · rw [e4]; exact lN
        · exact h1 w (List.mem_filter.mpr ⟨hw, by unfold vx_no; rw [decide_eq_true e1, decide_eq_true e2, decide_eq_true e3, decide_eq_true e4]; rfl⟩)
/-- where a static field lies, its class's statics cell in H -/
def vx_L (C n d : String) (A : Nat → Prop) (U : State) (H : Heap) : Prop := ∃ (c : ClassId) (k : Class) (i : Nat) (f : Field) (a : Nat) (cell : Cell), U.vm.findClass C = some c ∧ U.fieldFound? C n d = some (c, k, i, f) ∧ f.isStatic = true ∧ k.statics = some a ∧ H[a]? = some cell ∧ cell.vm.isStatics = true ∧ cell.cls = c ∧ f.slot < cell.slots.size ∧ k.staticTypes[f.slot]? = some f.type ∧ ¬ A a
theorem vx_L.moved {C n d : String} {A : Nat → Prop} {u U : State} {H : Heap} (hvm : u.vm.Alike U.vm) (h : vx_L C n d A u H) : vx_L C n d A U H := by
  obtain ⟨c, k, i, f, a, cell, h1, h2, h3, h4, h5, h6, h7, h8, h9, h10⟩ := h
  obtain ⟨k', hi', he⟩ := State.fieldFound?_setVm hvm h2
  exact ⟨c, k', i, f, a, cell, by rw [hvm.findClass]; exact h1, hi', h3, by rw [he]; exact h4, h5, h6, h7, h8, by rw [he]; exact h9, h10⟩
theorem vx_L.kept {C n d : String} {A : Nat → Prop} {U : State} {H H1 : Heap} (h : vx_L C n d A U H) (hq : ∀ a : Nat, a < H.size → ¬ A a → H1[a]? = H[a]?) : vx_L C n d A U H1 := by
  obtain ⟨c, k, i, f, a, cell, h1, h2, h3, h4, h5, h6, h7, h8, h9, h10⟩ := h
  exact ⟨c, k, i, f, a, cell, h1, h2, h3, h4, by rw [hq a (Array.getElem?_eq_some_iff.mp h5).1 h10]; exact h5, h6, h7, h8, h9, h10⟩
theorem vx_L.narrow {C n d : String} {A B : Nat → Prop} {U : State} {H : Heap} (h : vx_L C n d A U H) (hAB : ∀ q, B q → A q) : vx_L C n d B U H := by
  obtain ⟨c, k, i, f, a, cell, h1, h2, h3, h4, h5, h6, h7, h8, h9, h10⟩ := h
  exact ⟨c, k, i, f, a, cell, h1, h2, h3, h4, h5, h6, h7, h8, h9, fun z => h10 (hAB _ z)⟩
theorem vx_L.word {C n d : String} {A : Nat → Prop} {s : State} {args : Array Value} (h : vx_L C n d A s s.heap) : (Cond.laysStatic C n d).before args s = true := by
  obtain ⟨c, k, i, f, a, cell, h1, h2, h3, h4, h5, h6, h7, h8, h9, -⟩ := h
  show (Cond.laysStatic C n d).holds args s none s [] = true
  exact Cond.laysStatic_of h1 h2 h3 h4 h5 h6 h7 h8 h9
/-- .. and what it holds: null or some reference -/
def vx_Zq (C n d : String) (A : Nat → Prop) (U : State) (H : Heap) : Prop := va_Zq C n d A U H ∧ vx_L C n d A U H
theorem vx_Zq.moved {C n d : String} {A : Nat → Prop} {u U : State} {H : Heap} (hvm : u.vm.Alike U.vm) (h : vx_Zq C n d A u H) : vx_Zq C n d A U H := ⟨va_Zq.moved hvm h.1, vx_L.moved hvm h.2⟩
theorem vx_Zq.kept {C n d : String} {A : Nat → Prop} {U : State} {H H1 : Heap} (h : vx_Zq C n d A U H) (hq : ∀ a : Nat, a < H.size → ¬ A a → H1[a]? = H[a]?) : vx_Zq C n d A U H1 := ⟨va_Zq.kept h.1 hq, vx_L.kept h.2 hq⟩
theorem vx_Zq.narrow {C n d : String} {A B : Nat → Prop} {U : State} {H : Heap} (h : vx_Zq C n d A U H) (hAB : ∀ q, B q → A q) : vx_Zq C n d B U H := ⟨va_Zq.narrow h.1 hAB, vx_L.narrow h.2 hAB⟩
theorem vx_Zqof {args : Array Value} {s : State} {C n d : String} {A : Nat → Prop} (hl : (Cond.laysStatic C n d).before args s = true) (hini : (Cond.initialized C).before args s = true) (h : (Cond.isRef (.static C n d)).before args s = true) (hA : ∀ a : Nat, a < s.heap.size → ¬ A a) : vx_Zq C n d A s s.heap := by
  refine ⟨va_Zqof hl hini h hA, ?_⟩
  obtain ⟨c, k, i, f, a, cell, h1, h2, h3, h4, h5, h6, h7, h8, h9⟩ := Cond.laysStatic_spec hl
  exact ⟨c, k, i, f, a, cell, h1, h2, h3, h4, h5, h6, h7, h8, h9, hA a (Array.getElem?_eq_some_iff.mp h5).1⟩
theorem vx_isRef {C n d : String} {v : Value} {A : Nat → Prop} {s : State} {args : Array Value} (h : va_Z C n d v A s s.heap) (hv : v.isRef = true) : (Cond.isRef (.static C n d)).before args s = true := by
  obtain ⟨cf, kf, fi, f, a, cell, h1, h2, h3, h4, h5, h6, h7, -⟩ := h
  have he : (Term.static C n d).eval args s none [] s = some v := by
    simp [Term.eval, State.fieldNamed?, h1, h2, h4, h5, h6, h7]
  simp only [Cond.before, Cond.holds, Cond.value, he]
  cases v <;> simp_all [Value.isRef]
theorem vx_isRefq {C n d : String} {A : Nat → Prop} {s : State} {args : Array Value} (h : va_Zq C n d A s s.heap) : (Cond.isRef (.static C n d)).before args s = true := by
  rcases h with h | ⟨t, h⟩
  · exact vx_isRef h rfl
  · exact vx_isRef h rfl
/-- the same frame, seen from here: as if the method were called anew in this heap -/
theorem vx_rebase {T : State} (X : Stand p l e R s m args below meth c T locs cells slots) {R' : Room} (hf : R'.frames ≤ R.frames) (hl : R'.locals ≤ R.locals) (hc : cells + R'.cells ≤ R.cells) (hs : slots + R'.slots ≤ R.slots) :
    Stand p l e R' ((T.setVm s.vm).setFrames (.invoking m args :: below)) m args below meth c T [] 0 0 := by
  have htop : (T.setVm s.vm).topJava?.isSome := X.here.top
  have hF : ((T.setVm s.vm).setFrames (.invoking m args :: below)).frames = .invoking m args :: below := State.frames_setFrames _ (State.cur_lt_of_top htop)
  obtain ⟨g₀, hg0⟩ := Option.isSome_iff_exists.mp htop
  obtain ⟨r, hr⟩ := State.topJava?_eq_some.mp hg0
  have hl9 : e.platform.stackLimits (T.setVm s.vm).me = e.platform.stackLimits s.me := X.limits
  have hb9 : (T.setVm s.vm).me.stackBytes = s.me.stackBytes := X.bytes
  refine ⟨X.admits, X.cas, X.clock, hF, ?_, X.hears, X.method, X.code, X.here, X.tail, X.warmed, ?_, ?_, ?_⟩
  · have h := X.room
    have hU : ((T.setVm s.vm).setFrames (.invoking m args :: below)).localsInUse = s.localsInUse := by
      rw [State.localsInUse_invoking hF (meth := meth) (c := c) X.method X.code, State.localsInUse_invoking X.frames X.method X.code]
    simp only [State.hasRoom, Bool.and_eq_true, decide_eq_true_eq] at h ⊢
    obtain ⟨⟨⟨⟨h1, h2, h3, h4, h5, h6⟩, h7⟩, h8⟩, h9⟩ := h
    rw [X.frames, List.length_cons] at h2 h3
    have q1 := X.heapSize
    have q2 := X.used
    simp only [hF, hU, List.length_cons, State.stackLimits_setFrames, State.stackBytes_setFrames, hl9, hb9]
    refine ⟨⟨⟨⟨by omega, by omega, by omega, by omega, by omega, h6⟩, ?_⟩, ?_⟩, X.book⟩
    · show T.heap.size + R'.cells ≤ e.platform.maxCells
      omega
    · show T.slotsUsed + R'.slots ≤ e.platform.maxSlots
      omega
  · rw [State.stackLimits_setFrames]; rfl
  · rw [State.stackBytes_setFrames]; rfl
  · refine ⟨?_, Nat.le_refl _, Nat.le_refl _, ?_, ?_, fun a c9 h9 => ⟨c9, h9, rfl, rfl, fun _ _ => rfl⟩⟩
    · obtain ⟨t, ht, -⟩ := State.frames_cons hr
      show T.setVm s.vm = { ((T.setVm s.vm).setFrames (.invoking m args :: below)).setFrames (T.setVm s.vm).frames with heap := T.heap, slotsUsed := T.slotsUsed }
      rw [State.setFrames_setFrames, State.setFrames_self ht]
      rfl
    · show T.slotsUsed = T.slotsUsed + ((T.heap.toList.drop T.heap.size).map (·.slots.size)).sum
      rw [List.drop_eq_nil_of_le (Nat.le_of_eq Array.length_toList)]
      rfl
    · show ((T.heap.toList.drop T.heap.size).map (·.slots.size)).sum ≤ 0
      rw [List.drop_eq_nil_of_le (Nat.le_of_eq Array.length_toList)]
      exact Nat.le_refl _
/-- 'throw new E()': new; dup; invokespecial; athrow -/
theorem vx_throw0 {cc : ByteArray} {pc : Nat} (hexec : p.tables.exec = Jvm.exec) (hb : c.code = cc) (hl : l.stackTraces = false) {own cls : String} {names : List String} {ik ic mc ms : Nat} {A : Nat → Prop}
    (hown : s.vm.findClass own = some m.cls) (hcls : Bundle.fit cls = true) (hnames : ∀ n ∈ names, Bundle.fit n = true)
    (hk : (Cond.classLink own ik cls).before args s = true) (hini : (Cond.initialized cls).before args s = true) (hat : ∀ w ∈ vx_at0 own ic cls names, w.before args s = true)
    (hgood : ∀ w ∈ Cond.classLink own ik cls :: Cond.initialized cls :: vx_at0 own ic cls names, vx_ot w = true)
    (hU : vx_Zq Bundle.tN "UNASSIGNED_STACK" Bundle.steD A s s.heap) (hN : vx_Zq Bundle.tN "SUPPRESSED_SENTINEL" Bundle.listD A s s.heap) (hS : va_S A s.heap H locs) (hsize : ls.size = c.maxLocals)
    (d0 : decode cc pc = .ok (.new ik, 3)) (d3 : decode cc (pc + 3) = .ok (.dup, 1)) (d4 : decode cc (pc + 4) = .ok (.invokespecial ic, 3)) (d7 : decode cc (pc + 7) = .ok (.athrow, 1))
    (hout : ∀ x ∈ c.exceptionTable.toList, covers x (pc + 7) = false)
    (hRframes : names.length + 3 < R.frames) (hRlocals : (rest.map fun v => v.category).sum + (13 * (names.length + 1) + 42) ≤ R.locals) (hRcells : cells + 1 ≤ R.cells) (hRslots : slots + 6 ≤ R.slots) (hlocks : meth.locks = false)
    (hx : ∀ t : State, s.vm.Alike t.vm → H.size ≤ t.heap.size → (∀ q : Nat, q < H.size → t.heap[q]? = H[q]?) → XC cls s t)
    (hf : ∀ z ∈ locs, free z.base) (hc : cells + 1 ≤ mc) (hs : slots + 6 ≤ ms) :
    W p l e R s m args below meth c H locs cells slots (vx_MQ below Qc XC args s mc ms free) (F0 m pc ls rest) := by
  intro T hT X
  have htr : e.platform.stackTraces = false := (show e.platform.stackTraces = l.stackTraces by rw [X.admits.platform]).trans hl
  have Y := vx_rebase X (R' := { frames := R.frames, locals := R.locals, cells := 1, slots := 6 }) (Nat.le_refl _) (Nat.le_refl _) hRcells hRslots
  obtain ⟨s', hA⟩ : ∃ z, z = (T.setVm s.vm).setFrames (.invoking m args :: below) := ⟨_, rfl⟩
  rw [← hA] at Y
  have hvm : s'.vm = s.vm := by rw [hA]; rfl
  have hhp : s'.heap = H := by rw [hA]; exact hT
  have hW0 : s.WarmedH s'.vm := by rw [hvm]; exact State.WarmedH.refl s
  have hat' : ∀ w ∈ vx_at0 own ic cls names, w.before args s' = true := fun w hw => vx_ot_at hW0 hvm.symm (hgood w (List.mem_cons_of_mem _ (List.mem_cons_of_mem _ hw))) (hat w hw)
  have hk' : (Cond.classLink own ik cls).before args s' = true := vx_ot_at hW0 hvm.symm (hgood _ List.mem_cons_self) hk
  have hini' : (Cond.initialized cls).before args s' = true := vx_ot_at hW0 hvm.symm (hgood _ (List.mem_cons_of_mem _ List.mem_cons_self)) hini
  have hU' : vx_Zq Bundle.tN "UNASSIGNED_STACK" Bundle.steD A s' s'.heap := by rw [hhp]; exact vx_Zq.moved hW0.alike (hU.kept hS.2.1)
  have hN' : vx_Zq Bundle.tN "SUPPRESSED_SENTINEL" Bundle.listD A s' s'.heap := by rw [hhp]; exact vx_Zq.moved hW0.alike (hN.kept hS.2.1)
  have h : ∀ w ∈ Bundle.ownAtoms0 own ic cls names, w.before args s' = true := vx_own hat' (vx_isRefq hU'.1) (vx_isRefq hN'.1) hU'.2.word hN'.2.word
  have hown' : s'.vm.findClass own = some m.cls := by rw [hvm]; exact hown
  have hins : (Cond.instantiable cls 6).before args s' = true := h _ (by simp [Bundle.ownAtoms0])
  obtain ⟨vm₁, cX, kX, hfX, hkX, -, -, X₁, st1⟩ := Y.newCold hexec (own := own) (C := cls) (index := ik) (n := 6) hown' hk' hins hini'
    (g := F0 m pc ls rest) rfl (by rw [hb]; exact d0) (Nat.le_refl _) (Nat.le_refl _)
  generalize hT1 : (T.setVm vm₁).pushCell { cls := cX, slots := kX.instanceTypes.map defaultValue, vm := .none } = T1 at X₁ st1
  have hcat : (Value.ref T.heap.size).category = 1 := rfl
  have hcellA : T1.heap[T.heap.size]? = some (freshCell cX kX) := by rw [← hT1]; exact State.heap_pushCell_size _ _
  have d3' : decode c.code (pc + 3) = .ok (.dup, 1) := by rw [hb]; exact d3
  obtain ⟨U, hsteps, hrun, hend, hW, hsame, ce, hce, hO⟩ := X₁.ctorThrow0 hexec htr (own := own) (cls := cls) (names := names) (ic := ic) hown' hcls hnames h (fun x hx => nomatch hx) hfX hkX hcellA (by rw [hhp, hT]; exact Nat.le_refl _)
    (g := { method := m, pc := pc + 4, locals := ls, stack := .ref T.heap.size :: .ref T.heap.size :: rest, locked := none }) rfl hsize rfl rfl (rest := rest) rfl
    (by rw [hb]; exact d4) (by rw [hb]; exact d7) hout hRframes (by simp only [List.map_cons, List.sum_cons, hcat]; omega) hlocks
  obtain ⟨f1, f2⟩ := vx_frame hsame
  rw [hhp] at f1 f2
  have hWs : s.WarmedH U.vm := State.WarmedH.trans hW0 hW
  have hcl : s.vm.findClass cls = some ce.cls := by
    have h9 := hO.cls
    rw [hvm] at h9
    exact h9
  have hall : s.sameButNew ({ U with vm := s.vm } : State) locs mc ms := by
    subst hA
    obtain ⟨e1, e2⟩ := hsame
    rw [State.setFrames_setFrames] at e1
    have h2 : (T.setVm s.vm).sameButNew ({ U with vm := s.vm } : State) [] (0 + 1) (0 + 6) := ⟨e1, e2⟩
    have h3 := X.same.trans h2
    rw [List.append_nil] at h3
    exact h3.mono hc hs
  refine ⟨U, ?_, .threw T.heap.size, hrun, hend, Or.inr ⟨T.heap.size, rfl, cls, ce, locs, hx U hWs.alike f1 (fun q hq => f2 q hq (fun z hz => nomatch hz)), hce, hO.vm, hcl, hWs, hall, hf⟩⟩
  refine st1 _ ?_
  show Steps p.tables e below (T1.setTop { method := m, pc := pc + 3, locals := ls, stack := .ref T.heap.size :: rest, locked := none }) _
  jvm_step X₁.here [X₁.here.top, hexec, d3', Value.category]
  exact hsteps
/-- 'throw new E("text")': new; dup; ldc; invokespecial; athrow -/
theorem vx_throwS {cc : ByteArray} {pc : Nat} (hexec : p.tables.exec = Jvm.exec) (hb : c.code = cc) (hl : l.stackTraces = false) {own cls text : String} {names : List String} {ik is ic mc ms sa : Nat} {A : Nat → Prop}
    (hown : s.vm.findClass own = some m.cls) (hcls : Bundle.fit cls = true) (hnames : ∀ n ∈ names, Bundle.fit n = true)
    (hk : (Cond.classLink own ik cls).before args s = true) (hini : (Cond.initialized cls).before args s = true) (hstr : vk_R own is text sa s) (hat : ∀ w ∈ vx_atS own ic cls names, w.before args s = true)
    (hgood : ∀ w ∈ Cond.classLink own ik cls :: Cond.initialized cls :: vx_atS own ic cls names, vx_ot w = true)
    (hU : vx_Zq Bundle.tN "UNASSIGNED_STACK" Bundle.steD A s s.heap) (hN : vx_Zq Bundle.tN "SUPPRESSED_SENTINEL" Bundle.listD A s s.heap) (hS : va_S A s.heap H locs) (hsize : ls.size = c.maxLocals)
    (d0 : decode cc pc = .ok (.new ik, 3)) (d3 : decode cc (pc + 3) = .ok (.dup, 1)) (d4 : decode cc (pc + 4) = .ok (.ldc is, 2)) (d6 : decode cc (pc + 6) = .ok (.invokespecial ic, 3)) (d9 : decode cc (pc + 9) = .ok (.athrow, 1))
    (hout : ∀ x ∈ c.exceptionTable.toList, covers x (pc + 9) = false)
    (hRframes : names.length + 3 < R.frames) (hRlocals : (rest.map fun v => v.category).sum + (13 * (names.length + 1) + 43) ≤ R.locals) (hRcells : cells + 1 ≤ R.cells) (hRslots : slots + 6 ≤ R.slots) (hlocks : meth.locks = false)
    (hx : ∀ t : State, s.vm.Alike t.vm → H.size ≤ t.heap.size → (∀ q : Nat, q < H.size → t.heap[q]? = H[q]?) → XC cls s t)
    (hf : ∀ z ∈ locs, free z.base) (hc : cells + 1 ≤ mc) (hs : slots + 6 ≤ ms) :
    W p l e R s m args below meth c H locs cells slots (vx_MQ below Qc XC args s mc ms free) (F0 m pc ls rest) := by
  intro T hT X
  have htr : e.platform.stackTraces = false := (show e.platform.stackTraces = l.stackTraces by rw [X.admits.platform]).trans hl
  have Y := vx_rebase X (R' := { frames := R.frames, locals := R.locals, cells := 1, slots := 6 }) (Nat.le_refl _) (Nat.le_refl _) hRcells hRslots
  obtain ⟨s', hA⟩ : ∃ z, z = (T.setVm s.vm).setFrames (.invoking m args :: below) := ⟨_, rfl⟩
  rw [← hA] at Y
  have hvm : s'.vm = s.vm := by rw [hA]; rfl
  have hhp : s'.heap = H := by rw [hA]; exact hT
  have hW0 : s.WarmedH s'.vm := by rw [hvm]; exact State.WarmedH.refl s
  have hat' : ∀ w ∈ vx_atS own ic cls names, w.before args s' = true := fun w hw => vx_ot_at hW0 hvm.symm (hgood w (List.mem_cons_of_mem _ (List.mem_cons_of_mem _ hw))) (hat w hw)
  have hk' : (Cond.classLink own ik cls).before args s' = true := vx_ot_at hW0 hvm.symm (hgood _ List.mem_cons_self) hk
  have hini' : (Cond.initialized cls).before args s' = true := vx_ot_at hW0 hvm.symm (hgood _ (List.mem_cons_of_mem _ List.mem_cons_self)) hini
  have hU' : vx_Zq Bundle.tN "UNASSIGNED_STACK" Bundle.steD A s' s'.heap := by rw [hhp]; exact vx_Zq.moved hW0.alike (hU.kept hS.2.1)
  have hN' : vx_Zq Bundle.tN "SUPPRESSED_SENTINEL" Bundle.listD A s' s'.heap := by rw [hhp]; exact vx_Zq.moved hW0.alike (hN.kept hS.2.1)
  have h : ∀ w ∈ Bundle.ownAtoms own ic cls names, w.before args s' = true := vx_own hat' (vx_isRefq hU'.1) (vx_isRefq hN'.1) hU'.2.word hN'.2.word
  have hown' : s'.vm.findClass own = some m.cls := by rw [hvm]; exact hown
  have hins : (Cond.instantiable cls 6).before args s' = true := h _ (by simp [Bundle.ownAtoms])
  obtain ⟨vm₁, cX, kX, hfX, hkX, -, -, X₁, st1⟩ := Y.newCold hexec (own := own) (C := cls) (index := ik) (n := 6) hown' hk' hins hini'
    (g := F0 m pc ls rest) rfl (by rw [hb]; exact d0) (Nat.le_refl _) (Nat.le_refl _)
  generalize hT1 : (T.setVm vm₁).pushCell { cls := cX, slots := kX.instanceTypes.map defaultValue, vm := .none } = T1 at X₁ st1
  have hcat : (Value.ref T.heap.size).category = 1 := rfl
  have hcellA : T1.heap[T.heap.size]? = some (freshCell cX kX) := by rw [← hT1]; exact State.heap_pushCell_size _ _
  have d3' : decode c.code (pc + 3) = .ok (.dup, 1) := by rw [hb]; exact d3
  have d4' : decode c.code (pc + 4) = .ok (.ldc is, 2) := by rw [hb]; exact d4
  have hstr' : vk_R own is text sa s' := vk_R.warm hW0 hstr
  obtain ⟨U, hsteps, hrun, hend, hW, hsame, ce, hce, hO⟩ := X₁.ctorThrowS hexec htr (own := own) (cls := cls) (names := names) (ic := ic) hown' hcls hnames h (fun x hx => nomatch hx) hfX hkX hcellA (by rw [hhp, hT]; exact Nat.le_refl _) (msg := .ref sa) rfl
    (g := { method := m, pc := pc + 6, locals := ls, stack := .ref sa :: .ref T.heap.size :: .ref T.heap.size :: rest, locked := none }) rfl hsize rfl rfl (rest := rest) rfl
    (by rw [hb]; exact d6) (by rw [hb]; exact d9) hout hRframes (by simp only [List.map_cons, List.sum_cons, hcat]; omega) hlocks
  obtain ⟨f1, f2⟩ := vx_frame hsame
  rw [hhp] at f1 f2
  have hWs : s.WarmedH U.vm := State.WarmedH.trans hW0 hW
  have hcl : s.vm.findClass cls = some ce.cls := by
    have h9 := hO.cls
    rw [hvm] at h9
    exact h9
  have hall : s.sameButNew ({ U with vm := s.vm } : State) locs mc ms := by
    subst hA
    obtain ⟨e1, e2⟩ := hsame
    rw [State.setFrames_setFrames] at e1
    have h2 : (T.setVm s.vm).sameButNew ({ U with vm := s.vm } : State) [] (0 + 1) (0 + 6) := ⟨e1, e2⟩
    have h3 := X.same.trans h2
    rw [List.append_nil] at h3
    exact h3.mono hc hs
  refine ⟨U, ?_, .threw T.heap.size, hrun, hend, Or.inr ⟨T.heap.size, rfl, cls, ce, locs, hx U hWs.alike f1 (fun q hq => f2 q hq (fun z hz => nomatch hz)), hce, hO.vm, hcl, hWs, hall, hf⟩⟩
  refine st1 _ ?_
  show Steps p.tables e below (T1.setTop { method := m, pc := pc + 3, locals := ls, stack := .ref T.heap.size :: rest, locked := none }) _
  jvm_step X₁.here [X₁.here.top, hexec, d3', Value.category]
  exact X₁.ldcString hexec (own := own) (text := text) (index := is) (a := sa) hown' hstr'.1 hstr'.2
    (g := { method := m, pc := pc + 4, locals := ls, stack := .ref T.heap.size :: .ref T.heap.size :: rest, locked := none }) rfl d4' _ hsteps
/-- 'throw new E("text")', the text by a wide index -/
theorem vx_throwSW {cc : ByteArray} {pc : Nat} (hexec : p.tables.exec = Jvm.exec) (hb : c.code = cc) (hl : l.stackTraces = false) {own cls text : String} {names : List String} {ik is ic mc ms sa : Nat} {A : Nat → Prop}
    (hown : s.vm.findClass own = some m.cls) (hcls : Bundle.fit cls = true) (hnames : ∀ n ∈ names, Bundle.fit n = true)
    (hk : (Cond.classLink own ik cls).before args s = true) (hini : (Cond.initialized cls).before args s = true) (hstr : vk_R own is text sa s) (hat : ∀ w ∈ vx_atS own ic cls names, w.before args s = true)
    (hgood : ∀ w ∈ Cond.classLink own ik cls :: Cond.initialized cls :: vx_atS own ic cls names, vx_ot w = true)
    (hU : vx_Zq Bundle.tN "UNASSIGNED_STACK" Bundle.steD A s s.heap) (hN : vx_Zq Bundle.tN "SUPPRESSED_SENTINEL" Bundle.listD A s s.heap) (hS : va_S A s.heap H locs) (hsize : ls.size = c.maxLocals)
    (d0 : decode cc pc = .ok (.new ik, 3)) (d3 : decode cc (pc + 3) = .ok (.dup, 1)) (d4 : decode cc (pc + 4) = .ok (.ldc_w is, 3)) (d7 : decode cc (pc + 7) = .ok (.invokespecial ic, 3)) (d10 : decode cc (pc + 10) = .ok (.athrow, 1))
    (hout : ∀ x ∈ c.exceptionTable.toList, covers x (pc + 10) = false)
    (hRframes : names.length + 3 < R.frames) (hRlocals : (rest.map fun v => v.category).sum + (13 * (names.length + 1) + 43) ≤ R.locals) (hRcells : cells + 1 ≤ R.cells) (hRslots : slots + 6 ≤ R.slots) (hlocks : meth.locks = false)
    (hx : ∀ t : State, s.vm.Alike t.vm → H.size ≤ t.heap.size → (∀ q : Nat, q < H.size → t.heap[q]? = H[q]?) → XC cls s t)
    (hf : ∀ z ∈ locs, free z.base) (hc : cells + 1 ≤ mc) (hs : slots + 6 ≤ ms) :
    W p l e R s m args below meth c H locs cells slots (vx_MQ below Qc XC args s mc ms free) (F0 m pc ls rest) := by
  intro T hT X
  have htr : e.platform.stackTraces = false := (show e.platform.stackTraces = l.stackTraces by rw [X.admits.platform]).trans hl
  have Y := vx_rebase X (R' := { frames := R.frames, locals := R.locals, cells := 1, slots := 6 }) (Nat.le_refl _) (Nat.le_refl _) hRcells hRslots
  obtain ⟨s', hA⟩ : ∃ z, z = (T.setVm s.vm).setFrames (.invoking m args :: below) := ⟨_, rfl⟩
  rw [← hA] at Y
  have hvm : s'.vm = s.vm := by rw [hA]; rfl
  have hhp : s'.heap = H := by rw [hA]; exact hT
  have hW0 : s.WarmedH s'.vm := by rw [hvm]; exact State.WarmedH.refl s
  have hat' : ∀ w ∈ vx_atS own ic cls names, w.before args s' = true := fun w hw => vx_ot_at hW0 hvm.symm (hgood w (List.mem_cons_of_mem _ (List.mem_cons_of_mem _ hw))) (hat w hw)
  have hk' : (Cond.classLink own ik cls).before args s' = true := vx_ot_at hW0 hvm.symm (hgood _ List.mem_cons_self) hk
  have hini' : (Cond.initialized cls).before args s' = true := vx_ot_at hW0 hvm.symm (hgood _ (List.mem_cons_of_mem _ List.mem_cons_self)) hini
  have hU' : vx_Zq Bundle.tN "UNASSIGNED_STACK" Bundle.steD A s' s'.heap := by rw [hhp]; exact vx_Zq.moved hW0.alike (hU.kept hS.2.1)
  have hN' : vx_Zq Bundle.tN "SUPPRESSED_SENTINEL" Bundle.listD A s' s'.heap := by rw [hhp]; exact vx_Zq.moved hW0.alike (hN.kept hS.2.1)
  have h : ∀ w ∈ Bundle.ownAtoms own ic cls names, w.before args s' = true := vx_own hat' (vx_isRefq hU'.1) (vx_isRefq hN'.1) hU'.2.word hN'.2.word
  have hown' : s'.vm.findClass own = some m.cls := by rw [hvm]; exact hown
  have hins : (Cond.instantiable cls 6).before args s' = true := h _ (by simp [Bundle.ownAtoms])
  obtain ⟨vm₁, cX, kX, hfX, hkX, -, -, X₁, st1⟩ := Y.newCold hexec (own := own) (C := cls) (index := ik) (n := 6) hown' hk' hins hini'
    (g := F0 m pc ls rest) rfl (by rw [hb]; exact d0) (Nat.le_refl _) (Nat.le_refl _)
  generalize hT1 : (T.setVm vm₁).pushCell { cls := cX, slots := kX.instanceTypes.map defaultValue, vm := .none } = T1 at X₁ st1
  have hcat : (Value.ref T.heap.size).category = 1 := rfl
  have hcellA : T1.heap[T.heap.size]? = some (freshCell cX kX) := by rw [← hT1]; exact State.heap_pushCell_size _ _
  have d3' : decode c.code (pc + 3) = .ok (.dup, 1) := by rw [hb]; exact d3
  have d4' : decode c.code (pc + 4) = .ok (.ldc_w is, 3) := by rw [hb]; exact d4
  have hstr' : vk_R own is text sa s' := vk_R.warm hW0 hstr
  obtain ⟨U, hsteps, hrun, hend, hW, hsame, ce, hce, hO⟩ := X₁.ctorThrowS hexec htr (own := own) (cls := cls) (names := names) (ic := ic) hown' hcls hnames h (fun x hx => nomatch hx) hfX hkX hcellA (by rw [hhp, hT]; exact Nat.le_refl _) (msg := .ref sa) rfl
    (g := { method := m, pc := pc + 7, locals := ls, stack := .ref sa :: .ref T.heap.size :: .ref T.heap.size :: rest, locked := none }) rfl hsize rfl rfl (rest := rest) rfl
    (by rw [hb]; exact d7) (by rw [hb]; exact d10) hout hRframes (by simp only [List.map_cons, List.sum_cons, hcat]; omega) hlocks
  obtain ⟨f1, f2⟩ := vx_frame hsame
  rw [hhp] at f1 f2
  have hWs : s.WarmedH U.vm := State.WarmedH.trans hW0 hW
  have hcl : s.vm.findClass cls = some ce.cls := by
    have h9 := hO.cls
    rw [hvm] at h9
    exact h9
  have hall : s.sameButNew ({ U with vm := s.vm } : State) locs mc ms := by
    subst hA
    obtain ⟨e1, e2⟩ := hsame
    rw [State.setFrames_setFrames] at e1
    have h2 : (T.setVm s.vm).sameButNew ({ U with vm := s.vm } : State) [] (0 + 1) (0 + 6) := ⟨e1, e2⟩
    have h3 := X.same.trans h2
    rw [List.append_nil] at h3
    exact h3.mono hc hs
  refine ⟨U, ?_, .threw T.heap.size, hrun, hend, Or.inr ⟨T.heap.size, rfl, cls, ce, locs, hx U hWs.alike f1 (fun q hq => f2 q hq (fun z hz => nomatch hz)), hce, hO.vm, hcl, hWs, hall, hf⟩⟩
  refine st1 _ ?_
  show Steps p.tables e below (T1.setTop { method := m, pc := pc + 3, locals := ls, stack := .ref T.heap.size :: rest, locked := none }) _
  jvm_step X₁.here [X₁.here.top, hexec, d3', Value.category]
  exact X₁.ldcStringW hexec (own := own) (text := text) (index := is) (a := sa) hown' hstr'.1 hstr'.2
    (g := { method := m, pc := pc + 4, locals := ls, stack := .ref T.heap.size :: .ref T.heap.size :: rest, locked := none }) rfl d4' _ hsteps
end Ends
section Bodies
variable {l : Launch}
theorem vx_ofW {y : MethodName} {ws ws' : List Cond} {rm : Room} {Pc : Array Value → State → Prop} {Qc : Array Value → State → Outcome → State → Prop} {XC : String → State → State → Prop} {mc ms : Nat} {free : Addr → Prop} {cc : ByteArray} {maxL : Nat} {ret : Option FieldType}
    (hy : plainName y.cls = true) (hw : ws = Cond.code y cc maxL ret :: ws')
    (body : ∀ p e s m args below meth c s₁, BodyLoose p l y (headSpec ws rm) cc maxL ret e s m args below meth c s₁ → c.maxLocals = maxL → (∀ x ∈ c.exceptionTable.toList, False) → Pc args s →
      W p l e (headSpec ws rm).room s m args below meth c s.heap [] 0 0 (vx_MQ below Qc XC args s mc ms free) (entryFrame m args maxL)) : vx_Met l y ws rm Pc Qc XC mc ms free := by
  refine MetFree.of_bodyS (code := cc) (maxLocals := maxL) (ret := ret) hy ?_ ?_
  · intro args s m h hn
    obtain ⟨meth, c, h1, h2, h3, h4, h5, h6, -, -⟩ := Cond.code_spec hn (atoms_spec (ws := ws) h _ (by rw [hw]; exact List.mem_cons_self))
    exact ⟨meth, c, h1, h2, h3, h4, h5, h6⟩
  · intro p e s m args below meth c s₁ B hml hP _
    have hh0 : s₁.heap = s.heap := by rw [B.state]; rfl
    have ht : ∀ x ∈ c.exceptionTable.toList, False := by
      obtain ⟨meth9, c9, h1, h2, -, -, -, -, h7, -⟩ := Cond.code_spec B.named (atoms_spec (ws := ws) B.pre _ (by rw [hw]; exact List.mem_cons_self))
      cases Option.some.inj (h1.symm.trans B.method)
      cases Option.some.inj (h2.symm.trans (Stand.of_body B).code)
      intro x hx
      rw [Array.isEmpty_iff.mp h7] at hx
      cases hx
    obtain ⟨t, a1, o, b1, b2, b3⟩ := body p e s m args below meth c s₁ B hml ht hP s₁ hh0 (Stand.of_body B)
    exact ⟨t, o, a1, b1, b2, b3⟩
/-- the table of a body with handlers -/
theorem vx_table {p : Program} {x y : MethodName} {S : Spec} {cc bytes : ByteArray} {maxL maxL' : Nat} {ret ret' : Option FieldType} {e : Env} {s s₁ : State} {m : MethodId} {args : Array Value} {below : List Frame} {meth : Method} {c : Code} {hh : List (Nat × Nat × Nat × Nat)}
    (B : BodyLoose p l y S cc maxL ret e s m args below meth c s₁) (h : (Cond.codeWith y bytes maxL' ret' hh).before args s = true) : c.exceptionTable.toList = tableOf hh := by
  obtain ⟨m9, meth9, c9, hn9, h1, h2, -, -, h6, -⟩ := Cond.codeWith_spec h
  cases Option.some.inj (hn9.symm.trans B.named)
  cases Option.some.inj (h1.symm.trans B.method)
  cases Option.some.inj (h2.symm.trans (Stand.of_body B).code)
  rw [← h6, table_eq]
end Bodies
end VXA
/-! ===== END ===== -/
/-! ===== BEGIN a static call of a method with an exception table ===== -/
section VXS
variable {p : Program} {l : Launch} {e : Env} {R : Room} {s : State} {m : MethodId} {args : Array Value} {below : List Frame} {meth : Method} {c : Code} {T : State} {H : Heap} {locs : List Loc} {cells slots : Nat}
abbrev vx_CSW (R : Room) (s : State) (args : Array Value) (own : String) (index : Nat) (y : MethodName) (bytes : ByteArray) (maxL : Nat) (ret : Option FieldType) (hh : List (Nat × Nat × Nat × Nat)) (ws : List Cond) (rm : Room) (mc ms n : Nat) : Prop :=
  (rm.cells = mc ∧ rm.slots = ms ∧ rm.frames + 1 ≤ R.frames ∧ 8 + (maxL + 11) + rm.locals ≤ R.locals ∧ (∀ w ∈ ws, ∀ (a' : Array Value) (U : State), s.WarmedH U.vm → w.before a' U = true) ∧ Cond.codeWith y bytes maxL ret hh ∈ ws) ∧
  (Cond.codeWith y bytes maxL ret hh).before args s = true ∧ (Cond.initialized y.cls).before args s = true ∧ (y.cls ≠ "java/lang/invoke/MethodHandle" ∧ y.cls ≠ "java/lang/invoke/VarHandle") ∧
  (∀ sig, parseMethodDescriptor y.desc = some sig → n = sig.parameters.length) ∧ (Cond.methodLink own index y).before args s = true ∧ (Cond.static y).before args s = true
theorem vx_cwSW {own : String} {index maxL mc ms : Nat} {y : MethodName} {bytes : ByteArray} {ret : Option FieldType} {hh : List (Nat × Nat × Nat × Nat)} {Ts ws ws' : List Cond} {rm : Room} (n : Nat) (ht : ∀ w ∈ Ts, w.before args s = true) (hT : GoodIn Ts (va_wsS own index y ws)) (hw : ws = Cond.codeWith y bytes maxL ret hh :: ws') (hrc : rm.cells = mc) (hrs : rm.slots = ms)
    (hd : y.cls ≠ "java/lang/invoke/MethodHandle" ∧ y.cls ≠ "java/lang/invoke/VarHandle" ∧ (parseMethodDescriptor y.desc).map (fun d => d.parameters.length) = some n) (hR : rm.frames + 1 ≤ R.frames ∧ 8 + (maxL + 11) + rm.locals ≤ R.locals) :
    vx_CSW R s args own index y bytes maxL ret hh ws rm mc ms n := by
  have ok : ∀ w ∈ va_wsS own index y ws, w.before args s = true := fun w h => ht w (hT w h).1
  have hG : GoodIn Ts ws := fun w h => hT w (by unfold va_wsS; exact List.mem_append_right _ h)
  have hc : Cond.codeWith y bytes maxL ret hh ∈ ws := by rw [hw]; exact List.mem_cons_self
  refine ⟨⟨hrc, hrs, hR.1, hR.2, pay_in ht hG, hc⟩, ht _ (hG _ hc).1, ok _ (by simp [va_wsS]), ⟨hd.1, hd.2.1⟩, fun sig h => ?_, ok _ (by simp [va_wsS]), ok _ (by simp [va_wsS])⟩
  have h2 := hd.2.2
  rw [h] at h2
  exact (Option.some.inj h2).symm
theorem vx_callSW (X : Stand p l e R s m args below meth c T locs cells slots) (hexec : p.tables.exec = Jvm.exec) {own : String} {index : Nat} {y : MethodName} {bytes : ByteArray} {maxL : Nat} {ret : Option FieldType} {hh : List (Nat × Nat × Nat × Nat)}
    (hown : s.vm.findClass own = some m.cls) (hlink : (Cond.methodLink own index y).before args s = true) (hstat : (Cond.static y).before args s = true) (hinit : (Cond.initialized y.cls).before args s = true)
    (hcode : (Cond.codeWith y bytes maxL ret hh).before args s = true) (hy : y.cls ≠ "java/lang/invoke/MethodHandle" ∧ y.cls ≠ "java/lang/invoke/VarHandle")
    {W9 : Nat} {Pre : Pt → Array Value → Prop} {Post : Pt → Array Value → Option Value → Pt → Prop} (hK : Back l R p e below s args y 3 W9 Pre Post)
    {g : JFrame} (hg : g.method = m) (hsize : g.locals.size = c.maxLocals) {argsL rest : List Value} (hlen : ∀ sig, parseMethodDescriptor y.desc = some sig → argsL.length = sig.parameters.length)
    (hstack : g.stack = argsL.reverse ++ rest) (hW : 2 * g.monitorRoom + (rest.map fun v => v.category).sum ≤ W9) (hdg : decode c.code g.pc = .ok (.invokestatic index, 3))
    (hpre : ∀ vm₁, s.WarmedH vm₁ → Pre ⟨T.setVm vm₁, locs, cells, slots⟩ argsL.toArray) :
    ∃ (v : Option Value) (vm₁ : Vm) (B : Pt), s.WarmedH vm₁ ∧ Stand p l e R s m args below meth c B.U B.locs B.cells B.slots ∧ Post ⟨T.setVm vm₁, locs, cells, slots⟩ argsL.toArray v B ∧
      ∀ target, Steps p.tables e below (B.U.setTop { g with pc := g.pc + 3, stack := v.toList ++ rest }) target → Steps p.tables e below (T.setTop g) target := by
  obtain ⟨mk, methM, cM, hnamed, hmethM, -, -, -, -, -, -, hsigM⟩ := Cond.codeWith_spec hcode
  have hstatic : methM.isStatic = true := Cond.static_spec hnamed hmethM hstat
  obtain ⟨kP, hkP, -⟩ := className_of_methodNamed hnamed
  have hinitP : kP.init = .initialized := Cond.initialized_spec (findClass_of_methodNamed hnamed) hkP hinit
  obtain ⟨vm₁, X₁, hstep₁⟩ := X.invokestatic hexec hown hlink hnamed hmethM hstatic hkP hinitP hy (g := g) hg (argsL := argsL) (rest := rest) (hlen _ hsigM) hstack hdg
  obtain ⟨v, B, X', hpost, hsteps⟩ := hK m meth c ⟨T.setVm vm₁, locs, cells, slots⟩ { g with stack := rest } (.invokestatic index) mk argsL.toArray X₁ hg hsize hdg hW (X₁.named hnamed) (hpre vm₁ X₁.warmed)
  exact ⟨v, vm₁, B, X₁.warmed, X', hpost, fun target h => hstep₁ _ fun acts => by rw [doInvoke_state]; exact hsteps.trans h⟩
theorem vx_runSW {y : MethodName} {bytes cc : ByteArray} {maxL nL mc ms n index : Nat} {ret : Option FieldType} {hh : List (Nat × Nat × Nat × Nat)} {ws : List Cond} {rm : Room} {Pc : Array Value → State → Prop} {Qc : Array Value → State → Outcome → State → Prop} {free : Addr → Prop} {Ts : List Cond} {own : String} {As rest : List Value} {g : JFrame}
    (S : CallFix p m c cc nL s args Ts own) (hM : Met l y ws rm Pc Qc mc ms free) (cw : vx_CSW R s args own index y bytes maxL ret hh ws rm mc ms n) (hp : PreS s H Pc As)
    (hg : g.method = m) (hn : As.length = n) (hsize : g.locals.size = nL) (hstack : g.stack = As.reverse ++ rest) (hW : 2 * g.monitorRoom + (rest.map fun v => v.category).sum ≤ 8) (hdg : decode cc g.pc = .ok (.invokestatic index, 3)) (hf : cells + mc ≤ R.cells ∧ slots + ms ≤ R.slots) :
    va_Run p l e R s m args below meth c H locs cells slots mc ms g rest (Qc As.toArray) (free) := by
  obtain ⟨⟨hrc, hrs, hfr, hlo, hws, hcw⟩, hcode, hini, hy, hlen, hl, hstt⟩ := cw
  have hK : Back l R p e below s args y 3 8 (PreOf R mc ms Pc) (PostOf Qc mc ms free) := va_backW (hh := hh) (bytes := bytes) (maxL := maxL) (ret := ret) hM hp.1 hrc hrs hfr hlo hws hcw (fun a' U hW => word_at hW (Or.inl (by first | rfl | simp [Cond.onTables, Cond.keeps, Cond.steady])) hini)
  obtain ⟨hx, hb, hml, ho, -⟩ := S
  intro T hT X
  obtain ⟨v, vm₁, ⟨U', l2, c2, s2⟩, hW₁, X', ⟨g', mk, t, L, e1, e2, hq, h1, hL, h2, h3⟩, st⟩ := vx_callSW X hx (hh := hh) (bytes := bytes) (maxL := maxL) (ret := ret) ho hl hstt hini hcode hy hK hg (hsize.trans hml.symm) (argsL := As) (rest := rest) (fun sig h => hn.trans (hlen sig h)) hstack hW (by rw [hb]; exact hdg)
    (fun vm₁ hW₁ => ⟨hf.1, hf.2, hp.2 (T.setVm vm₁) hT hW₁⟩)
  dsimp only [Pt.U, Pt.locs, Pt.cells, Pt.slots] at X' e1 e2 h1 h2 h3 st
  subst h1; subst h2; subst h3
  exact ⟨v, (T.setVm vm₁).calling g' mk As.toArray, t, U', L, hT, X', hL, e1, e2, hq, st⟩
/-- a thing of a world lies in the heap -/
theorem vx_lt {D : va_G} {cl : List vw_C} {ws : va_W} {H1 : Heap} (h : va_P D cl ws H1) {k : Nat} {q : Nat × va_E} (hk : ws[k]? = some q) : q.1 < H1.size := (h k q hk).lt
end VXS
/-! ===== END ===== -/
/-! ===== BEGIN methods with a table of their own: called by a name, returning or throwing ===== -/
section VXH
/-! vx_backW, vx_callVX, vx_callSX, vx_callVW, vx_runVW, vx_runVX, vx_runSX, vx_ofWH follow the same proofs as their sisters above (Free/Laws.lean, Shelf42/LK1.lean); vx_outP calls Shelf42/NT130.lean (outThrough). -/
section
variable {l : Launch} {R : Room} {p : Program} {e : Env} {below : List Frame} {s : State} {sargs : Array Value} {y : MethodName} {len W9 : Nat}
theorem vx_backW {ws : List Cond} {rm : Room} {Pc : Array Value → State → Prop} {Qc : Array Value → State → Outcome → State → Prop} {XC : String → State → State → Prop} {mc ms : Nat} {free : Addr → Prop} {bytes : ByteArray} {maxL : Nat} {ret : Option FieldType} {hh : List (Nat × Nat × Nat × Nat)}
    (hM : vx_Met l y ws rm Pc Qc XC mc ms free) (hblind : FrameBlind Pc) (hrc : rm.cells = mc) (hrs : rm.slots = ms)
    (hframes : rm.frames + 1 ≤ R.frames) (hlocals : W9 + (maxL + 11) + rm.locals ≤ R.locals)
    (hws : ∀ w ∈ ws, ∀ a' U, s.WarmedH U.vm → w.before a' U = true) (hcode : Cond.codeWith y bytes maxL ret hh ∈ ws) (hinit : ∀ a' U, s.WarmedH U.vm → (Cond.initialized y.cls).before a' U = true) :
    vx_Back l R p e below s sargs y len W9 (PreOf R mc ms Pc) (PostOf Qc mc ms free) (vx_Post XC mc ms free) := by
  intro m meth c A g ig mk a X hg hsize hdg hW hn hp
  have h1 : (headSpec ws rm).pre.before a A.U = true := atoms_intro fun w hw => hws w hw _ _ X.warmed
  have h2 : (Cond.codeWith y bytes maxL ret hh).before a A.U = true := hws _ hcode _ _ X.warmed
  have h3 : (Cond.initialized y.cls).before a A.U = true := hinit _ _ X.warmed
  have h4 : A.cells + (headSpec ws rm).room.cells ≤ R.cells := by rw [show (headSpec ws rm).room.cells = mc from hrc]; exact hp.1
  have h5 : A.slots + (headSpec ws rm).room.slots ≤ R.slots := by rw [show (headSpec ws rm).room.slots = ms from hrs]; exact hp.2.1
  have hPc : Pc a (A.U.calling g mk a) := hblind _ _ _ _ hp.2.2
  obtain ⟨U, Ls, c0, s0⟩ := A
  dsimp only [Pt.U, Pt.locs, Pt.cells, Pt.slots] at h1 h2 h3 h4 h5 X hn hPc ⊢
  obtain ⟨m9, methY, cY, hn9, hmY, hcY, -, hlY, -⟩ := Cond.codeWith_spec h2
  cases Option.some.inj (hn9.symm.trans hn)
  obtain ⟨kY, hkY, -⟩ := className_of_methodNamed hn
  have hinitY : kY.init = .initialized := Cond.initialized_spec (findClass_of_methodNamed hn) hkY h3
  have h : At U g.method c below := by rw [hg]; exact X.here
  have hlocals9 : W9 + (maxL + 11) + (headSpec ws rm).room.locals ≤ R.locals := hlocals
  have happ : (headSpec ws rm).appliesLoose y e.platform (U.calling g mk a) = true :=
    Spec.appliesLoose_calling (g := g) h hdg hn hkY hinitY
      (X.room_calling (g := g) (R' := (headSpec ws rm).room) hsize hmY hcY hframes (by rw [hlY]; omega) h4 h5) h1
  obtain ⟨mid, hmid⟩ := h.above
  have hfr : (U.setTop g).frames = (.java g :: mid) ++ below := by rw [State.frames_setTop' g h.top, hmid]; rfl
  obtain ⟨o, s₂, hsteps, -, hend, hq⟩ := Steps.callFree hM p X.admits X.cas X.clock (acts := []) hfr happ hPc trivial
  have hq' : vx_Q Qc XC mc ms free a (U.calling g mk a) o s₂ := hq
  rw [State.frames_setTop' g h.top] at hend
  obtain ⟨g₀, hg0⟩ := Option.isSome_iff_exists.mp h.top
  obtain ⟨r, hr⟩ := State.topJava?_eq_some.mp hg0
  have hr' : (({ U with heap := s₂.heap, slotsUsed := s₂.slotsUsed } : State).setVm s₂.vm).frames = .java g₀ :: r := hr
  rcases hq' with ⟨hqc, L, hfe, hL⟩ | ⟨q, rfl, E, ce, L, hx, hce, hcv, hcl, hW₂, hsm, hL⟩
  · obtain ⟨⟨v, rfl⟩, hW₂, e2, q2, q3, q4, q5, q6⟩ := id hfe
    have e3 : s₂ = ({ (U.calling g mk a).setFrames s₂.frames with heap := s₂.heap, slotsUsed := s₂.slotsUsed } : State).setVm s₂.vm := by
      have : s₂ = ({ s₂ with vm := (U.calling g mk a).vm } : State).setVm s₂.vm := rfl
      rw [e2] at this
      exact this
    obtain ⟨c₂, i₂, len₂, hc₂, hd₂, hf₂⟩ := hend
    have hW' : U.WarmedH s₂.vm := hW₂
    have hcc : c₂ = c := by
      have h1 : s₂.code? g.method = U.code? g.method := by
        rw [State.code?_eq, State.code?_eq, hW'.alike.method?]
      exact Option.some.inj (hc₂.symm.trans (h1.trans h.code))
    subst hcc
    have hlen : len₂ = len := by rw [hdg] at hd₂; cases hd₂; rfl
    subst hlen
    have hs₂ : s₂ = (({ U with heap := s₂.heap, slotsUsed := s₂.slotsUsed } : State).setVm s₂.vm).setTop { g with pc := g.pc + len₂, stack := v.toList ++ g.stack } := by
      refine e3.trans ?_
      rw [hf₂, State.calling_eq h.top, State.setFrames_setFrames, State.setTop_of_frames _ hr', hr]
      rfl
    have hsame : U.sameButNew ({ U with heap := s₂.heap, slotsUsed := s₂.slotsUsed } : State) L mc ms := by
      refine ⟨?_, q2, q3, q4, q5, q6⟩
      obtain ⟨t, ht, -⟩ := State.frames_cons hr
      show ({ U with heap := s₂.heap, slotsUsed := s₂.slotsUsed } : State) = { U.setFrames U.frames with heap := s₂.heap, slotsUsed := s₂.slotsUsed }
      rw [State.setFrames_self ht]
    subst hg
    refine Or.inl ⟨v, ⟨(({ U with heap := s₂.heap, slotsUsed := s₂.slotsUsed } : State).setVm s₂.vm), Ls ++ L, c0 + mc, s0 + ms⟩,
      ⟨X.admits, X.cas, X.clock, X.frames, X.room, X.hears, X.method, X.code, (X.here.setHeapUsed s₂.heap s₂.slotsUsed).setVm hW'.alike, X.tail, State.WarmedH.trans X.warmed hW', X.limits, X.bytes, X.same.trans (hsame.setVm s.vm)⟩,
      ⟨g, mk, s₂, L, rfl, rfl, hqc, rfl, hL, rfl, rfl⟩, ?_⟩
    show Steps p.tables e below _ ((({ U with heap := s₂.heap, slotsUsed := s₂.slotsUsed } : State).setVm s₂.vm).setTop { g with pc := g.pc + len₂, stack := v.toList ++ g.stack })
    rw [← hs₂]
    exact hsteps
  · obtain ⟨e2, q2, q3, q4, q5, q6⟩ := id hsm
    have e3 : s₂ = ({ (U.calling g mk a).setFrames s₂.frames with heap := s₂.heap, slotsUsed := s₂.slotsUsed } : State).setVm s₂.vm := by
      have : s₂ = ({ s₂ with vm := (U.calling g mk a).vm } : State).setVm s₂.vm := rfl
      rw [e2] at this
      exact this
    have hf₂ : s₂.frames = .throwing q :: .java g :: U.frames.tail := hend
    have hW' : U.WarmedH s₂.vm := hW₂
    have hs₂ : s₂ = ((({ U with heap := s₂.heap, slotsUsed := s₂.slotsUsed } : State).setVm s₂.vm).setTop g).pushFrame (.throwing q) := by
      refine e3.trans ?_
      rw [hf₂, State.calling_eq h.top, State.setFrames_setFrames, State.pushFrame, State.frames_setTop _ hr', State.setTop_of_frames _ hr', State.setFrames_setFrames, hr]
      rfl
    have hsame : U.sameButNew ({ U with heap := s₂.heap, slotsUsed := s₂.slotsUsed } : State) L mc ms := by
      refine ⟨?_, q2, q3, q4, q5, q6⟩
      obtain ⟨t, ht, -⟩ := State.frames_cons hr
      show ({ U with heap := s₂.heap, slotsUsed := s₂.slotsUsed } : State) = { U.setFrames U.frames with heap := s₂.heap, slotsUsed := s₂.slotsUsed }
      rw [State.setFrames_self ht]
    subst hg
    refine Or.inr ⟨q, ⟨(({ U with heap := s₂.heap, slotsUsed := s₂.slotsUsed } : State).setVm s₂.vm), Ls ++ L, c0 + mc, s0 + ms⟩,
      ⟨X.admits, X.cas, X.clock, X.frames, X.room, X.hears, X.method, X.code, (X.here.setHeapUsed s₂.heap s₂.slotsUsed).setVm hW'.alike, X.tail, State.WarmedH.trans X.warmed hW', X.limits, X.bytes, X.same.trans (hsame.setVm s.vm)⟩,
      ⟨g, mk, s₂, L, E, ce, rfl, rfl, hx, hce, hcv, hcl, rfl, hL, rfl, rfl⟩, ?_⟩
    show Steps p.tables e below _ (((({ U with heap := s₂.heap, slotsUsed := s₂.slotsUsed } : State).setVm s₂.vm).setTop g).pushFrame (.throwing q))
    rw [← hs₂]
    exact hsteps
end
variable {p : Program} {l : Launch} {e : Env} {R : Room} {s : State} {m : MethodId} {args : Array Value} {below : List Frame} {meth : Method} {c : Code} {T : State} {H : Heap} {locs : List Loc} {cells slots : Nat}
theorem vx_callVX (X : Stand p l e R s m args below meth c T locs cells slots) (hexec : p.tables.exec = Jvm.exec) {own C : String} {index : Nat} {y : MethodName} {bytes : ByteArray} {maxL : Nat} {ret : Option FieldType} {hh : List (Nat × Nat × Nat × Nat)}
    (hown : s.vm.findClass own = some m.cls) (hlink : (Cond.methodLink own index y).before args s = true) (hinst : (Cond.instanceMethod y).before args s = true) (hsel : (Cond.selects C y y).before args s = true)
    (hcode : (Cond.codeWith y bytes maxL ret hh).before args s = true) (hy : y.cls ≠ "java/lang/invoke/MethodHandle" ∧ y.cls ≠ "java/lang/invoke/VarHandle")
    {W9 : Nat} {Pre : Pt → Array Value → Prop} {Post : Pt → Array Value → Option Value → Pt → Prop} {PostX : Pt → Array Value → Addr → Pt → Prop} (hK : vx_Back l R p e below s args y 3 W9 Pre Post PostX)
    {b : Addr} {cellB : Cell} (hcell : T.heap[b]? = some cellB) (hobj : cellB.vm.isStatics = false) (hcls : s.vm.findClass C = some cellB.cls)
    {g : JFrame} (hg : g.method = m) (hsize : g.locals.size = c.maxLocals) {argsL rest : List Value} (hlen : ∀ sig, parseMethodDescriptor y.desc = some sig → argsL.length = sig.parameters.length)
    (hstack : g.stack = argsL.reverse ++ .ref b :: rest) (hW : 2 * g.monitorRoom + (rest.map fun v => v.category).sum ≤ W9) (hdg : decode c.code g.pc = .ok (.invokevirtual index, 3))
    (hpre : ∀ vm₁, s.WarmedH vm₁ → Pre ⟨T.setVm vm₁, locs, cells, slots⟩ (Value.ref b :: argsL).toArray) :
    (∃ (v : Option Value) (vm₁ : Vm) (B : Pt), s.WarmedH vm₁ ∧ Stand p l e R s m args below meth c B.U B.locs B.cells B.slots ∧ Post ⟨T.setVm vm₁, locs, cells, slots⟩ (Value.ref b :: argsL).toArray v B ∧
      ∀ target, Steps p.tables e below (B.U.setTop { g with pc := g.pc + 3, stack := v.toList ++ rest }) target → Steps p.tables e below (T.setTop g) target) ∨
    (∃ (q : Addr) (vm₁ : Vm) (B : Pt), s.WarmedH vm₁ ∧ Stand p l e R s m args below meth c B.U B.locs B.cells B.slots ∧ PostX ⟨T.setVm vm₁, locs, cells, slots⟩ (Value.ref b :: argsL).toArray q B ∧
      Steps p.tables e below (T.setTop g) ((B.U.setTop { g with stack := rest }).pushFrame (.throwing q))) := by
  obtain ⟨mk, methM, hnamed, hmethM, hstM, habM⟩ := Cond.instanceMethod_spec hinst
  obtain ⟨m8, methM', cM, hn8, hmethM', -, -, -, -, -, -, hsigM⟩ := Cond.codeWith_spec hcode
  cases Option.some.inj (hn8.symm.trans hnamed)
  cases hmethM.symm.trans hmethM'
  obtain ⟨c2, r2, m2, q1, q2, q3, q4, kP, hkP, hkPi⟩ := Cond.selects_spec hsel
  cases hcls.symm.trans q1
  cases (State.methodFound?_of_named hnamed hy).symm.trans q2
  cases hnamed.symm.trans q3
  have hselP : selectMethod e.platform s.vm cellB.cls mk = .method mk := by rw [Launch.admits_selectMethod X.admits]; exact q4
  obtain ⟨vm₁, X₁, hstep₁⟩ := X.invokevirtual hexec hown hlink hnamed hmethM hstM hkP hkPi hy (a := b) (cell := cellB) hcell
    (fun z h => by rw [h] at hobj; cases hobj) hselP hmethM habM hkP hkPi (g := g) hg (argsL := argsL) (rest := rest) (hlen _ hsigM) hstack hdg
  rcases hK m meth c ⟨T.setVm vm₁, locs, cells, slots⟩ { g with stack := rest } (.invokevirtual index) mk (Value.ref b :: argsL).toArray X₁ hg hsize hdg hW (X₁.named hnamed) (hpre vm₁ X₁.warmed) with ⟨v, B, X', hpost, hsteps⟩ | ⟨q, B, X', hpost, hsteps⟩
  · exact Or.inl ⟨v, vm₁, B, X₁.warmed, X', hpost, fun target h => hstep₁ _ fun acts => by rw [doInvoke_state]; exact hsteps.trans h⟩
  · exact Or.inr ⟨q, vm₁, B, X₁.warmed, X', hpost, hstep₁ _ fun acts => by rw [doInvoke_state]; exact hsteps⟩
theorem vx_callSX (X : Stand p l e R s m args below meth c T locs cells slots) (hexec : p.tables.exec = Jvm.exec) {own : String} {index : Nat} {y : MethodName} {bytes : ByteArray} {maxL : Nat} {ret : Option FieldType} {hh : List (Nat × Nat × Nat × Nat)}
    (hown : s.vm.findClass own = some m.cls) (hlink : (Cond.methodLink own index y).before args s = true) (hstat : (Cond.static y).before args s = true) (hinit : (Cond.initialized y.cls).before args s = true)
    (hcode : (Cond.codeWith y bytes maxL ret hh).before args s = true) (hy : y.cls ≠ "java/lang/invoke/MethodHandle" ∧ y.cls ≠ "java/lang/invoke/VarHandle")
    {W9 : Nat} {Pre : Pt → Array Value → Prop} {Post : Pt → Array Value → Option Value → Pt → Prop} {PostX : Pt → Array Value → Addr → Pt → Prop} (hK : vx_Back l R p e below s args y 3 W9 Pre Post PostX)
    {g : JFrame} (hg : g.method = m) (hsize : g.locals.size = c.maxLocals) {argsL rest : List Value} (hlen : ∀ sig, parseMethodDescriptor y.desc = some sig → argsL.length = sig.parameters.length)
    (hstack : g.stack = argsL.reverse ++ rest) (hW : 2 * g.monitorRoom + (rest.map fun v => v.category).sum ≤ W9) (hdg : decode c.code g.pc = .ok (.invokestatic index, 3))
    (hpre : ∀ vm₁, s.WarmedH vm₁ → Pre ⟨T.setVm vm₁, locs, cells, slots⟩ argsL.toArray) :
    (∃ (v : Option Value) (vm₁ : Vm) (B : Pt), s.WarmedH vm₁ ∧ Stand p l e R s m args below meth c B.U B.locs B.cells B.slots ∧ Post ⟨T.setVm vm₁, locs, cells, slots⟩ argsL.toArray v B ∧
      ∀ target, Steps p.tables e below (B.U.setTop { g with pc := g.pc + 3, stack := v.toList ++ rest }) target → Steps p.tables e below (T.setTop g) target) ∨
    (∃ (q : Addr) (vm₁ : Vm) (B : Pt), s.WarmedH vm₁ ∧ Stand p l e R s m args below meth c B.U B.locs B.cells B.slots ∧ PostX ⟨T.setVm vm₁, locs, cells, slots⟩ argsL.toArray q B ∧
      Steps p.tables e below (T.setTop g) ((B.U.setTop { g with stack := rest }).pushFrame (.throwing q))) := by
  obtain ⟨mk, methM, cM, hnamed, hmethM, -, -, -, -, -, -, hsigM⟩ := Cond.codeWith_spec hcode
  have hstatic : methM.isStatic = true := Cond.static_spec hnamed hmethM hstat
  obtain ⟨kP, hkP, -⟩ := className_of_methodNamed hnamed
  have hinitP : kP.init = .initialized := Cond.initialized_spec (findClass_of_methodNamed hnamed) hkP hinit
  obtain ⟨vm₁, X₁, hstep₁⟩ := X.invokestatic hexec hown hlink hnamed hmethM hstatic hkP hinitP hy (g := g) hg (argsL := argsL) (rest := rest) (hlen _ hsigM) hstack hdg
  rcases hK m meth c ⟨T.setVm vm₁, locs, cells, slots⟩ { g with stack := rest } (.invokestatic index) mk argsL.toArray X₁ hg hsize hdg hW (X₁.named hnamed) (hpre vm₁ X₁.warmed) with ⟨v, B, X', hpost, hsteps⟩ | ⟨q, B, X', hpost, hsteps⟩
  · exact Or.inl ⟨v, vm₁, B, X₁.warmed, X', hpost, fun target h => hstep₁ _ fun acts => by rw [doInvoke_state]; exact hsteps.trans h⟩
  · exact Or.inr ⟨q, vm₁, B, X₁.warmed, X', hpost, hstep₁ _ fun acts => by rw [doInvoke_state]; exact hsteps⟩
theorem vx_callVW (X : Stand p l e R s m args below meth c T locs cells slots) (hexec : p.tables.exec = Jvm.exec) {own C : String} {index : Nat} {y : MethodName} {bytes : ByteArray} {maxL : Nat} {ret : Option FieldType} {hh : List (Nat × Nat × Nat × Nat)}
    (hown : s.vm.findClass own = some m.cls) (hlink : (Cond.methodLink own index y).before args s = true) (hinst : (Cond.instanceMethod y).before args s = true) (hsel : (Cond.selects C y y).before args s = true)
    (hcode : (Cond.codeWith y bytes maxL ret hh).before args s = true) (hy : y.cls ≠ "java/lang/invoke/MethodHandle" ∧ y.cls ≠ "java/lang/invoke/VarHandle")
    {W9 : Nat} {Pre : Pt → Array Value → Prop} {Post : Pt → Array Value → Option Value → Pt → Prop} (hK : Back l R p e below s args y 3 W9 Pre Post)
    {b : Addr} {cellB : Cell} (hcell : T.heap[b]? = some cellB) (hobj : cellB.vm.isStatics = false) (hcls : s.vm.findClass C = some cellB.cls)
    {g : JFrame} (hg : g.method = m) (hsize : g.locals.size = c.maxLocals) {argsL rest : List Value} (hlen : ∀ sig, parseMethodDescriptor y.desc = some sig → argsL.length = sig.parameters.length)
    (hstack : g.stack = argsL.reverse ++ .ref b :: rest) (hW : 2 * g.monitorRoom + (rest.map fun v => v.category).sum ≤ W9) (hdg : decode c.code g.pc = .ok (.invokevirtual index, 3))
    (hpre : ∀ vm₁, s.WarmedH vm₁ → Pre ⟨T.setVm vm₁, locs, cells, slots⟩ (Value.ref b :: argsL).toArray) :
    ∃ (v : Option Value) (vm₁ : Vm) (B : Pt), s.WarmedH vm₁ ∧ Stand p l e R s m args below meth c B.U B.locs B.cells B.slots ∧ Post ⟨T.setVm vm₁, locs, cells, slots⟩ (Value.ref b :: argsL).toArray v B ∧
      ∀ target, Steps p.tables e below (B.U.setTop { g with pc := g.pc + 3, stack := v.toList ++ rest }) target → Steps p.tables e below (T.setTop g) target := by
  obtain ⟨mk, methM, hnamed, hmethM, hstM, habM⟩ := Cond.instanceMethod_spec hinst
  obtain ⟨m8, methM', cM, hn8, hmethM', -, -, -, -, -, -, hsigM⟩ := Cond.codeWith_spec hcode
  cases Option.some.inj (hn8.symm.trans hnamed)
  cases hmethM.symm.trans hmethM'
  obtain ⟨c2, r2, m2, q1, q2, q3, q4, kP, hkP, hkPi⟩ := Cond.selects_spec hsel
  cases hcls.symm.trans q1
  cases (State.methodFound?_of_named hnamed hy).symm.trans q2
  cases hnamed.symm.trans q3
  have hselP : selectMethod e.platform s.vm cellB.cls mk = .method mk := by rw [Launch.admits_selectMethod X.admits]; exact q4
  obtain ⟨vm₁, X₁, hstep₁⟩ := X.invokevirtual hexec hown hlink hnamed hmethM hstM hkP hkPi hy (a := b) (cell := cellB) hcell
    (fun z h => by rw [h] at hobj; cases hobj) hselP hmethM habM hkP hkPi (g := g) hg (argsL := argsL) (rest := rest) (hlen _ hsigM) hstack hdg
  obtain ⟨v, B, X', hpost, hsteps⟩ := hK m meth c ⟨T.setVm vm₁, locs, cells, slots⟩ { g with stack := rest } (.invokevirtual index) mk (Value.ref b :: argsL).toArray X₁ hg hsize hdg hW (X₁.named hnamed) (hpre vm₁ X₁.warmed)
  exact ⟨v, vm₁, B, X₁.warmed, X', hpost, fun target h => hstep₁ _ fun acts => by rw [doInvoke_state]; exact hsteps.trans h⟩
abbrev vx_CVW (R : Room) (s : State) (args : Array Value) (own C : String) (index : Nat) (y : MethodName) (bytes : ByteArray) (maxL : Nat) (ret : Option FieldType) (hh : List (Nat × Nat × Nat × Nat)) (ws : List Cond) (rm : Room) (mc ms n : Nat) : Prop :=
  (rm.cells = mc ∧ rm.slots = ms ∧ rm.frames + 1 ≤ R.frames ∧ 8 + (maxL + 11) + rm.locals ≤ R.locals ∧ (∀ w ∈ ws, ∀ (a' : Array Value) (U : State), s.WarmedH U.vm → w.before a' U = true) ∧ Cond.codeWith y bytes maxL ret hh ∈ ws) ∧
  (Cond.codeWith y bytes maxL ret hh).before args s = true ∧ (Cond.initialized y.cls).before args s = true ∧ (y.cls ≠ "java/lang/invoke/MethodHandle" ∧ y.cls ≠ "java/lang/invoke/VarHandle") ∧
  (∀ sig, parseMethodDescriptor y.desc = some sig → n = sig.parameters.length) ∧ (Cond.methodLink own index y).before args s = true ∧ (Cond.instanceMethod y).before args s = true ∧ (Cond.selects C y y).before args s = true
theorem vx_cwVW {own C : String} {index maxL mc ms : Nat} {y : MethodName} {bytes : ByteArray} {ret : Option FieldType} {hh : List (Nat × Nat × Nat × Nat)} {Ts ws ws' : List Cond} {rm : Room} (n : Nat) (ht : ∀ w ∈ Ts, w.before args s = true) (hT : GoodIn Ts (wsV own index C y ws)) (hw : ws = Cond.codeWith y bytes maxL ret hh :: ws') (hrc : rm.cells = mc) (hrs : rm.slots = ms)
    (hd : y.cls = C ∧ y.cls ≠ "java/lang/invoke/MethodHandle" ∧ y.cls ≠ "java/lang/invoke/VarHandle" ∧ (parseMethodDescriptor y.desc).map (fun d => d.parameters.length) = some n) (hR : rm.frames + 1 ≤ R.frames ∧ 8 + (maxL + 11) + rm.locals ≤ R.locals) :
    vx_CVW R s args own C index y bytes maxL ret hh ws rm mc ms n := by
  obtain ⟨hC, hd⟩ := hd
  subst hC
  have ok : ∀ w ∈ wsV own index y.cls y ws, w.before args s = true := fun w h => ht w (hT w h).1
  have hG : GoodIn Ts ws := fun w h => hT w (by unfold wsV; exact List.mem_append_right _ h)
  have hc : Cond.codeWith y bytes maxL ret hh ∈ ws := by rw [hw]; exact List.mem_cons_self
  refine ⟨⟨hrc, hrs, hR.1, hR.2, pay_in ht hG, hc⟩, ht _ (hG _ hc).1, ok _ (by simp [wsV]), ⟨hd.1, hd.2.1⟩, fun sig h => ?_, ok _ (by simp [wsV]), ok _ (by simp [wsV]), ok _ (by simp [wsV])⟩
  have h2 := hd.2.2
  rw [h] at h2
  exact (Option.some.inj h2).symm
theorem vx_runVW {y : MethodName} {bytes cc : ByteArray} {maxL nL mc ms n index : Nat} {ret : Option FieldType} {hh : List (Nat × Nat × Nat × Nat)} {ws : List Cond} {rm : Room} {Pc : Array Value → State → Prop} {Qc : Array Value → State → Outcome → State → Prop} {free : Addr → Prop} {Ts : List Cond} {own C : String} {b : Addr} {As rest : List Value} {g : JFrame}
    (S : CallFix p m c cc nL s args Ts own) (hM : Met l y ws rm Pc Qc mc ms free) (cw : vx_CVW R s args own C index y bytes maxL ret hh ws rm mc ms n) (hp : PreV s H C b Pc As)
    (hg : g.method = m) (hn : As.length = n) (hsize : g.locals.size = nL) (hstack : g.stack = As.reverse ++ .ref b :: rest) (hW : 2 * g.monitorRoom + (rest.map fun v => v.category).sum ≤ 8) (hdg : decode cc g.pc = .ok (.invokevirtual index, 3)) (hf : cells + mc ≤ R.cells ∧ slots + ms ≤ R.slots) :
    va_Run p l e R s m args below meth c H locs cells slots mc ms g rest (Qc (Value.ref b :: As).toArray) free := by
  obtain ⟨⟨hrc, hrs, hfr, hlo, hws, hcw⟩, hcode, hini, hy, hlen, hl, hin, hse⟩ := cw
  have hK : Back l R p e below s args y 3 8 (PreOf R mc ms Pc) (PostOf Qc mc ms free) := va_backW (hh := hh) (bytes := bytes) (maxL := maxL) (ret := ret) hM hp.1 hrc hrs hfr hlo hws hcw (fun a' U hW => word_at hW (Or.inl (by first | rfl | simp [Cond.onTables, Cond.keeps, Cond.steady])) hini)
  obtain ⟨hx, hb, hml, ho, -⟩ := S
  obtain ⟨-, ⟨cellB, hcB, hoB, hclB⟩, hPc⟩ := hp
  intro T hT X
  obtain ⟨v, vm₁, ⟨U', l2, c2, s2⟩, hW₁, X', ⟨g', mk, t, L, e1, e2, hq, h1, hL, h2, h3⟩, st⟩ := vx_callVW X hx (C := C) (hh := hh) (bytes := bytes) (maxL := maxL) (ret := ret) ho hl hin hse hcode hy hK (by rw [hT]; exact hcB) hoB hclB hg (hsize.trans hml.symm) (argsL := As) (rest := rest) (fun sig h => hn.trans (hlen sig h)) hstack hW (by rw [hb]; exact hdg)
    (fun vm₁ hW₁ => ⟨hf.1, hf.2, hPc (T.setVm vm₁) hT hW₁⟩)
  dsimp only [Pt.U, Pt.locs, Pt.cells, Pt.slots] at X' e1 e2 h1 h2 h3 st
  subst h1; subst h2; subst h3
  exact ⟨v, (T.setVm vm₁).calling g' mk (Value.ref b :: As).toArray, t, U', L, hT, X', hL, e1, e2, hq, st⟩
section
variable {y : MethodName} {bytes cc : ByteArray} {maxL nL mc ms n index : Nat} {ret : Option FieldType} {ws : List Cond} {rm : Room} {Pc : Array Value → State → Prop} {Qc : Array Value → State → Outcome → State → Prop} {XC : String → State → State → Prop} {free : Addr → Prop} {Ts : List Cond} {own C : String} {b : Addr} {As rest : List Value} {g : JFrame}
theorem vx_runVX {hh : List (Nat × Nat × Nat × Nat)} (S : CallFix p m c cc nL s args Ts own) (hM : vx_Met l y ws rm Pc Qc XC mc ms free) (cw : vx_CVW R s args own C index y bytes maxL ret hh ws rm mc ms n) (hp : PreV s H C b Pc As)
    (hg : g.method = m) (hn : As.length = n) (hsize : g.locals.size = nL) (hstack : g.stack = As.reverse ++ .ref b :: rest) (hW : 2 * g.monitorRoom + (rest.map fun v => v.category).sum ≤ 8) (hdg : decode cc g.pc = .ok (.invokevirtual index, 3)) (hf : cells + mc ≤ R.cells ∧ slots + ms ≤ R.slots) :
    vx_Run p l e R s m args below meth c H locs cells slots mc ms g rest (Qc (Value.ref b :: As).toArray) XC free := by
  obtain ⟨⟨hrc, hrs, hfr, hlo, hws, hcw⟩, hcode, hini, hy, hlen, hl, hin, hse⟩ := cw
  have hK : vx_Back l R p e below s args y 3 8 (PreOf R mc ms Pc) (PostOf Qc mc ms free) (vx_Post XC mc ms free) := vx_backW (hh := hh) (bytes := bytes) (maxL := maxL) (ret := ret) hM hp.1 hrc hrs hfr hlo hws hcw (fun a' U hW => word_at hW (Or.inl (by first | rfl | simp [Cond.onTables, Cond.keeps, Cond.steady])) hini)
  obtain ⟨hx, hb, hml, ho, -⟩ := S
  obtain ⟨-, ⟨cellB, hcB, hoB, hclB⟩, hPc⟩ := hp
  intro T hT X
  rcases vx_callVX X hx (C := C) (hh := hh) (bytes := bytes) (maxL := maxL) (ret := ret) ho hl hin hse hcode hy hK (by rw [hT]; exact hcB) hoB hclB hg (hsize.trans hml.symm) (argsL := As) (rest := rest) (fun sig h => hn.trans (hlen sig h)) hstack hW (by rw [hb]; exact hdg)
    (fun vm₁ hW₁ => ⟨hf.1, hf.2, hPc (T.setVm vm₁) hT hW₁⟩) with ⟨v, vm₁, ⟨U', l2, c2, s2⟩, hW₁, X', ⟨g', mk, t, L, e1, e2, hq, h1, hL, h2, h3⟩, st⟩ | ⟨q, vm₁, ⟨U', l2, c2, s2⟩, hW₁, X', ⟨g', mk, t, L, E, ce, e1, e2, hq, hce, hcv, hcl, h1, hL, h2, h3⟩, st⟩
  · dsimp only [Pt.U, Pt.locs, Pt.cells, Pt.slots] at X' e1 e2 h1 h2 h3 st
    subst h1; subst h2; subst h3
    exact Or.inl ⟨v, (T.setVm vm₁).calling g' mk (Value.ref b :: As).toArray, t, U', L, hT, X', hL, e1, e2, hq, st⟩
  · dsimp only [Pt.U, Pt.locs, Pt.cells, Pt.slots] at X' e1 e2 h1 h2 h3 st hcl
    subst h1; subst h2; subst h3
    exact Or.inr ⟨q, (T.setVm vm₁).calling g' mk (Value.ref b :: As).toArray, t, U', L, E, ce, hT, X', hL, e1, e2, hq, hce, hcv, vx_cls hW₁ hcl, st⟩
theorem vx_runSX {hh : List (Nat × Nat × Nat × Nat)} (S : CallFix p m c cc nL s args Ts own) (hM : vx_Met l y ws rm Pc Qc XC mc ms free) (cw : vx_CSW R s args own index y bytes maxL ret hh ws rm mc ms n) (hp : PreS s H Pc As)
    (hg : g.method = m) (hn : As.length = n) (hsize : g.locals.size = nL) (hstack : g.stack = As.reverse ++ rest) (hW : 2 * g.monitorRoom + (rest.map fun v => v.category).sum ≤ 8) (hdg : decode cc g.pc = .ok (.invokestatic index, 3)) (hf : cells + mc ≤ R.cells ∧ slots + ms ≤ R.slots) :
    vx_Run p l e R s m args below meth c H locs cells slots mc ms g rest (Qc As.toArray) XC free := by
  obtain ⟨⟨hrc, hrs, hfr, hlo, hws, hcw⟩, hcode, hini, hy, hlen, hl, hstt⟩ := cw
  have hK : vx_Back l R p e below s args y 3 8 (PreOf R mc ms Pc) (PostOf Qc mc ms free) (vx_Post XC mc ms free) := vx_backW (hh := hh) (bytes := bytes) (maxL := maxL) (ret := ret) hM hp.1 hrc hrs hfr hlo hws hcw (fun a' U hW => word_at hW (Or.inl (by first | rfl | simp [Cond.onTables, Cond.keeps, Cond.steady])) hini)
  obtain ⟨hx, hb, hml, ho, -⟩ := S
  intro T hT X
  rcases vx_callSX X hx (hh := hh) (bytes := bytes) (maxL := maxL) (ret := ret) ho hl hstt hini hcode hy hK hg (hsize.trans hml.symm) (argsL := As) (rest := rest) (fun sig h => hn.trans (hlen sig h)) hstack hW (by rw [hb]; exact hdg)
    (fun vm₁ hW₁ => ⟨hf.1, hf.2, hp.2 (T.setVm vm₁) hT hW₁⟩) with ⟨v, vm₁, ⟨U', l2, c2, s2⟩, hW₁, X', ⟨g', mk, t, L, e1, e2, hq, h1, hL, h2, h3⟩, st⟩ | ⟨q, vm₁, ⟨U', l2, c2, s2⟩, hW₁, X', ⟨g', mk, t, L, E, ce, e1, e2, hq, hce, hcv, hcl, h1, hL, h2, h3⟩, st⟩
  · dsimp only [Pt.U, Pt.locs, Pt.cells, Pt.slots] at X' e1 e2 h1 h2 h3 st
    subst h1; subst h2; subst h3
    exact Or.inl ⟨v, (T.setVm vm₁).calling g' mk As.toArray, t, U', L, hT, X', hL, e1, e2, hq, st⟩
  · dsimp only [Pt.U, Pt.locs, Pt.cells, Pt.slots] at X' e1 e2 h1 h2 h3 st hcl
    subst h1; subst h2; subst h3
    exact Or.inr ⟨q, (T.setVm vm₁).calling g' mk As.toArray, t, U', L, E, ce, hT, X', hL, e1, e2, hq, hce, hcv, vx_cls hW₁ hcl, st⟩
end
end VXH
theorem vx_ofWH {l : Launch} {y : MethodName} {ws ws' : List Cond} {rm : Room} {Pc : Array Value → State → Prop} {Qc : Array Value → State → Outcome → State → Prop} {XC : String → State → State → Prop} {mc ms : Nat} {free : Addr → Prop} {cc : ByteArray} {maxL : Nat} {ret : Option FieldType} {hh : List (Nat × Nat × Nat × Nat)}
    (hy : plainName y.cls = true) (hw : ws = Cond.codeWith y cc maxL ret hh :: ws')
    (body : ∀ p e s m args below meth c s₁, BodyLoose p l y (headSpec ws rm) cc maxL ret e s m args below meth c s₁ → c.maxLocals = maxL → Pc args s →
      W p l e (headSpec ws rm).room s m args below meth c s.heap [] 0 0 (vx_MQ below Qc XC args s mc ms free) (entryFrame m args maxL)) : vx_Met l y ws rm Pc Qc XC mc ms free := by
  refine MetFree.of_bodyS (code := cc) (maxLocals := maxL) (ret := ret) hy ?_ ?_
  · intro args s m h hn
    obtain ⟨m9, meth, c, hn9, h1, h2, h3, h4, -, h5, h6, -⟩ := Cond.codeWith_spec (atoms_spec (ws := ws) h _ (by rw [hw]; exact List.mem_cons_self))
    cases hn.symm.trans hn9
    exact ⟨meth, c, h1, h2, h3, h4, h5, h6⟩
  · intro p e s m args below meth c s₁ B hml hP _
    have hh0 : s₁.heap = s.heap := by rw [B.state]; rfl
    obtain ⟨t, a1, o, b1, b2, b3⟩ := body p e s m args below meth c s₁ B hml hP s₁ hh0 (Stand.of_body B)
    exact ⟨t, o, a1, b1, b2, b3⟩
/-! ===== END ===== -/
end
section
/-! ===== BEGIN printed: names, fields, word lists, decode rows ===== -/
def RX0 : String := "SeedMakers$Aim"
def TX0 : u_T := fun k => match k with
  | 0 => ("SeedMakers$Aim", "easy", "I", false)
  | 1 => ("SeedMakers$Aim", "least", "I", false)
  | _ => ("SeedMakers$Aim", "most", "I", false)
def tyX0 : Nat → FieldType := fun k => match k with
  | 0 => .int
  | 1 => .int
  | _ => .int
abbrev wsX00 : List Cond := u_ws RX0 TX0 3
theorem nmX0 : ∀ a, a < 3 → ∀ b, b < 3 → a ≠ b → (TX0 a).2.1 ≠ (TX0 b).2.1 := by decide +kernel
theorem tyX0_ok : ∀ k, k < 3 → parseFieldDescriptor (TX0 k).2.2.1 = some (tyX0 k) := by decide +kernel
abbrev cX0_init : ByteArray := prog_2_method_1_code
def yX0_init : MethodName := ⟨RX0, "<init>", "()V"⟩
abbrev cX0_set : ByteArray := prog_2_method_2_code
def yX0_set : MethodName := ⟨RX0, "set", "(III)V"⟩
abbrev cX0_isMet : ByteArray := prog_2_method_3_code
def yX0_isMet : MethodName := ⟨RX0, "isMet", "(IZ)Z"⟩
def RX1 : String := "SeedMakers$Board"
def TX1 : u_T := fun k => match k with
  | 0 => ("SeedMakers$Board", "grid", "LSeedMakers$Grid;", true)
  | 1 => ("SeedMakers$Board", "symbols", "[I", true)
  | 2 => ("SeedMakers$Board", "inRow", "[I", true)
  | 3 => ("SeedMakers$Board", "inColumn", "[I", true)
  | _ => ("SeedMakers$Board", "inBox", "[I", true)
def tyX1 : Nat → FieldType := fun k => match k with
  | 0 => .object "SeedMakers$Grid"
  | 1 => .array .int
  | 2 => .array .int
  | 3 => .array .int
  | _ => .array .int
abbrev wsX10 : List Cond := u_ws RX1 TX1 5
theorem nmX1 : ∀ a, a < 5 → ∀ b, b < 5 → a ≠ b → (TX1 a).2.1 ≠ (TX1 b).2.1 := by decide +kernel
theorem tyX1_ok : ∀ k, k < 5 → parseFieldDescriptor (TX1 k).2.2.1 = some (tyX1 k) := by decide +kernel
abbrev cX1_init : ByteArray := prog_3_method_1_code
def yX1_init : MethodName := ⟨RX1, "<init>", "(LSeedMakers$Grid;)V"⟩
abbrev cX1_clear : ByteArray := prog_3_method_2_code
def yX1_clear : MethodName := ⟨RX1, "clear", "()V"⟩
abbrev cX1_putAll : ByteArray := prog_3_method_3_code
def yX1_putAll : MethodName := ⟨RX1, "putAll", "([I)V"⟩
abbrev cX1_isEmpty : ByteArray := prog_3_method_4_code
def yX1_isEmpty : MethodName := ⟨RX1, "isEmpty", "(I)Z"⟩
abbrev cX1_may : ByteArray := prog_3_method_5_code
def yX1_may : MethodName := ⟨RX1, "may", "(I)I"⟩
abbrev cX1_put : ByteArray := prog_3_method_6_code
def yX1_put : MethodName := ⟨RX1, "put", "(II)V"⟩
abbrev cX1_takeOut : ByteArray := prog_3_method_7_code
def yX1_takeOut : MethodName := ⟨RX1, "takeOut", "(I)V"⟩
abbrev cX1_flip : ByteArray := prog_3_method_8_code
def yX1_flip : MethodName := ⟨RX1, "flip", "(II)V"⟩
def RX2 : String := "SeedMakers$Chance"
def TX2 : u_T := fun k => match k with
  | _ => ("SeedMakers$Chance", "state", "J", false)
def tyX2 : Nat → FieldType := fun k => match k with
  | _ => .long
abbrev wsX20 : List Cond := u_ws RX2 TX2 1
theorem nmX2 : ∀ a, a < 1 → ∀ b, b < 1 → a ≠ b → (TX2 a).2.1 ≠ (TX2 b).2.1 := by decide +kernel
theorem tyX2_ok : ∀ k, k < 1 → parseFieldDescriptor (TX2 k).2.2.1 = some (tyX2 k) := by decide +kernel
abbrev cX2_init : ByteArray := prog_4_method_1_code
def yX2_init : MethodName := ⟨RX2, "<init>", "()V"⟩
abbrev cX2_startAt : ByteArray := prog_4_method_2_code
def yX2_startAt : MethodName := ⟨RX2, "startAt", "(J)V"⟩
abbrev cX2_below : ByteArray := prog_4_method_3_code
def yX2_below : MethodName := ⟨RX2, "below", "(I)I"⟩
abbrev cX2_upperBits : ByteArray := prog_4_method_4_code
def yX2_upperBits : MethodName := ⟨RX2, "upperBits", "()I"⟩
def RX3 : String := "SeedMakers$Drawer"
def TX3 : u_T := fun k => match k with
  | 0 => ("SeedMakers$Drawer", "grid", "LSeedMakers$Grid;", true)
  | 1 => ("SeedMakers$Drawer", "chance", "LSeedMakers$Chance;", true)
  | _ => ("SeedMakers$Drawer", "board", "LSeedMakers$Board;", true)
def tyX3 : Nat → FieldType := fun k => match k with
  | 0 => .object "SeedMakers$Grid"
  | 1 => .object "SeedMakers$Chance"
  | _ => .object "SeedMakers$Board"
abbrev wsX30 : List Cond := u_ws RX3 TX3 3
theorem nmX3 : ∀ a, a < 3 → ∀ b, b < 3 → a ≠ b → (TX3 a).2.1 ≠ (TX3 b).2.1 := by decide +kernel
theorem tyX3_ok : ∀ k, k < 3 → parseFieldDescriptor (TX3 k).2.2.1 = some (tyX3 k) := by decide +kernel
abbrev cX3_init : ByteArray := prog_5_method_1_code
def yX3_init : MethodName := ⟨RX3, "<init>", "(LSeedMakers$Grid;LSeedMakers$Chance;)V"⟩
abbrev cX3_fill : ByteArray := prog_5_method_2_code
def yX3_fill : MethodName := ⟨RX3, "fill", "()Z"⟩
abbrev cX3_tightest : ByteArray := prog_5_method_3_code
def yX3_tightest : MethodName := ⟨RX3, "tightest", "()I"⟩
abbrev cX3_symbolAt : ByteArray := prog_5_method_4_code
def yX3_symbolAt : MethodName := ⟨RX3, "symbolAt", "(II)I"⟩
def RX4 : String := "SeedMakers$Grid"
def TX4 : u_T := fun k => match k with
  | 0 => ("SeedMakers$Grid", "side", "I", true)
  | 1 => ("SeedMakers$Grid", "cells", "I", true)
  | 2 => ("SeedMakers$Grid", "allSymbols", "I", true)
  | 3 => ("SeedMakers$Grid", "row", "[I", true)
  | 4 => ("SeedMakers$Grid", "column", "[I", true)
  | 5 => ("SeedMakers$Grid", "box", "[I", true)
  | _ => ("SeedMakers$Grid", "units", "[[I", true)
def tyX4 : Nat → FieldType := fun k => match k with
  | 0 => .int
  | 1 => .int
  | 2 => .int
  | 3 => .array .int
  | 4 => .array .int
  | 5 => .array .int
  | _ => .array (.array .int)
abbrev wsX40 : List Cond := u_ws RX4 TX4 7
theorem nmX4 : ∀ a, a < 7 → ∀ b, b < 7 → a ≠ b → (TX4 a).2.1 ≠ (TX4 b).2.1 := by decide +kernel
theorem tyX4_ok : ∀ k, k < 7 → parseFieldDescriptor (TX4 k).2.2.1 = some (tyX4 k) := by decide +kernel
abbrev cX4_init : ByteArray := prog_6_method_1_code
def yX4_init : MethodName := ⟨RX4, "<init>", "(I)V"⟩
abbrev cX4_has : ByteArray := prog_6_method_2_code
def yX4_has : MethodName := ⟨RX4, "has", "(I)Z"⟩
def RX5 : String := "SeedMakers$Maker"
def TX5 : u_T := fun k => match k with
  | 0 => ("SeedMakers$Maker", "grid", "LSeedMakers$Grid;", true)
  | 1 => ("SeedMakers$Maker", "sets", "LSeedMakers$Sets;", true)
  | 2 => ("SeedMakers$Maker", "themes", "[I", true)
  | 3 => ("SeedMakers$Maker", "aimed", "LSeedMakers$Aim;", true)
  | 4 => ("SeedMakers$Maker", "drawer", "LSeedMakers$Drawer;", true)
  | 5 => ("SeedMakers$Maker", "singles", "LSeedMakers$Singles;", true)
  | 6 => ("SeedMakers$Maker", "solver", "LSeedMakers$Solver;", true)
  | 7 => ("SeedMakers$Maker", "chance", "LSeedMakers$Chance;", true)
  | 8 => ("SeedMakers$Maker", "whole", "[I", true)
  | 9 => ("SeedMakers$Maker", "givens", "[I", true)
  | 10 => ("SeedMakers$Maker", "marked", "[Z", true)
  | 11 => ("SeedMakers$Maker", "row", "[I", true)
  | 12 => ("SeedMakers$Maker", "without", "[I", true)
  | 13 => ("SeedMakers$Maker", "made", "Z", false)
  | 14 => ("SeedMakers$Maker", "triesMade", "I", false)
  | 15 => ("SeedMakers$Maker", "restarts", "I", false)
  | 16 => ("SeedMakers$Maker", "takenOut", "I", false)
  | 17 => ("SeedMakers$Maker", "putBack", "I", false)
  | 18 => ("SeedMakers$Maker", "givenCells", "I", false)
  | _ => ("SeedMakers$Maker", "unknownCells", "I", false)
def tyX5 : Nat → FieldType := fun k => match k with
  | 0 => .object "SeedMakers$Grid"
  | 1 => .object "SeedMakers$Sets"
  | 2 => .array .int
  | 3 => .object "SeedMakers$Aim"
  | 4 => .object "SeedMakers$Drawer"
  | 5 => .object "SeedMakers$Singles"
  | 6 => .object "SeedMakers$Solver"
  | 7 => .object "SeedMakers$Chance"
  | 8 => .array .int
  | 9 => .array .int
  | 10 => .array .boolean
  | 11 => .array .int
  | 12 => .array .int
  | 13 => .boolean
  | 14 => .int
  | 15 => .int
  | 16 => .int
  | 17 => .int
  | 18 => .int
  | _ => .int
abbrev wsX50 : List Cond := u_ws RX5 TX5 20
theorem nmX5 : ∀ a, a < 20 → ∀ b, b < 20 → a ≠ b → (TX5 a).2.1 ≠ (TX5 b).2.1 := by decide +kernel
theorem tyX5_ok : ∀ k, k < 20 → parseFieldDescriptor (TX5 k).2.2.1 = some (tyX5 k) := by decide +kernel
abbrev cX5_init : ByteArray := prog_7_method_1_code
def yX5_init : MethodName := ⟨RX5, "<init>", "(LSeedMakers$Grid;LSeedMakers$Sets;[ILSeedMakers$Aim;)V"⟩
abbrev cX5_startAt : ByteArray := prog_7_method_2_code
def yX5_startAt : MethodName := ⟨RX5, "startAt", "(J)V"⟩
abbrev cX5_tryOnce : ByteArray := prog_7_method_3_code
def yX5_tryOnce : MethodName := ⟨RX5, "tryOnce", "()Z"⟩
abbrev cX5_drawWhole : ByteArray := prog_7_method_4_code
def yX5_drawWhole : MethodName := ⟨RX5, "drawWhole", "()Z"⟩
abbrev cX5_takeOutEmptySets : ByteArray := prog_7_method_5_code
def yX5_takeOutEmptySets : MethodName := ⟨RX5, "takeOutEmptySets", "()Z"⟩
abbrev cX5_markSetsWith : ByteArray := prog_7_method_6_code
def yX5_markSetsWith : MethodName := ⟨RX5, "markSetsWith", "(I)V"⟩
abbrev cX5_layRow : ByteArray := prog_7_method_7_code
def yX5_layRow : MethodName := ⟨RX5, "layRow", "()I"⟩
abbrev cX5_mixRow : ByteArray := prog_7_method_8_code
def yX5_mixRow : MethodName := ⟨RX5, "mixRow", "(I)V"⟩
abbrev cX5_needsSet : ByteArray := prog_7_method_9_code
def yX5_needsSet : MethodName := ⟨RX5, "needsSet", "(I)Z"⟩
abbrev cX5_countGivens : ByteArray := prog_7_method_10_code
def yX5_countGivens : MethodName := ⟨RX5, "countGivens", "()I"⟩
def RX6 : String := "SeedMakers$Sets"
def TX6 : u_T := fun k => match k with
  | 0 => ("SeedMakers$Sets", "grid", "LSeedMakers$Grid;", true)
  | _ => ("SeedMakers$Sets", "leastOf", "[I", true)
def tyX6 : Nat → FieldType := fun k => match k with
  | 0 => .object "SeedMakers$Grid"
  | _ => .array .int
abbrev wsX60 : List Cond := u_ws RX6 TX6 2
theorem nmX6 : ∀ a, a < 2 → ∀ b, b < 2 → a ≠ b → (TX6 a).2.1 ≠ (TX6 b).2.1 := by decide +kernel
theorem tyX6_ok : ∀ k, k < 2 → parseFieldDescriptor (TX6 k).2.2.1 = some (tyX6 k) := by decide +kernel
abbrev cX6_init : ByteArray := prog_8_method_1_code
def yX6_init : MethodName := ⟨RX6, "<init>", "(LSeedMakers$Grid;)V"⟩
abbrev cX6_joinBy : ByteArray := prog_8_method_2_code
def yX6_joinBy : MethodName := ⟨RX6, "joinBy", "(I)V"⟩
abbrev cX6_moved : ByteArray := prog_8_method_3_code
def yX6_moved : MethodName := ⟨RX6, "moved", "(II)I"⟩
def RX7 : String := "SeedMakers$Singles"
def TX7 : u_T := fun k => match k with
  | 0 => ("SeedMakers$Singles", "grid", "LSeedMakers$Grid;", true)
  | _ => ("SeedMakers$Singles", "board", "LSeedMakers$Board;", true)
def tyX7 : Nat → FieldType := fun k => match k with
  | 0 => .object "SeedMakers$Grid"
  | _ => .object "SeedMakers$Board"
abbrev wsX70 : List Cond := u_ws RX7 TX7 2
theorem nmX7 : ∀ a, a < 2 → ∀ b, b < 2 → a ≠ b → (TX7 a).2.1 ≠ (TX7 b).2.1 := by decide +kernel
theorem tyX7_ok : ∀ k, k < 2 → parseFieldDescriptor (TX7 k).2.2.1 = some (tyX7 k) := by decide +kernel
abbrev cX7_init : ByteArray := prog_9_method_1_code
def yX7_init : MethodName := ⟨RX7, "<init>", "(LSeedMakers$Grid;)V"⟩
abbrev cX7_countUnknown : ByteArray := prog_9_method_2_code
def yX7_countUnknown : MethodName := ⟨RX7, "countUnknown", "([I)I"⟩
abbrev cX7_fillLoneSymbols : ByteArray := prog_9_method_3_code
def yX7_fillLoneSymbols : MethodName := ⟨RX7, "fillLoneSymbols", "()Z"⟩
abbrev cX7_fillLoneCells : ByteArray := prog_9_method_4_code
def yX7_fillLoneCells : MethodName := ⟨RX7, "fillLoneCells", "()Z"⟩
abbrev cX7_symbolsOfOneCell : ByteArray := prog_9_method_5_code
def yX7_symbolsOfOneCell : MethodName := ⟨RX7, "symbolsOfOneCell", "([I)I"⟩
abbrev cX7_fillFrom : ByteArray := prog_9_method_6_code
def yX7_fillFrom : MethodName := ⟨RX7, "fillFrom", "([II)Z"⟩
def RX8 : String := "SeedMakers$Solver"
def TX8 : u_T := fun k => match k with
  | 0 => ("SeedMakers$Solver", "board", "LSeedMakers$Board;", true)
  | 1 => ("SeedMakers$Solver", "open", "[I", true)
  | 2 => ("SeedMakers$Solver", "limit", "I", false)
  | _ => ("SeedMakers$Solver", "found", "I", false)
def tyX8 : Nat → FieldType := fun k => match k with
  | 0 => .object "SeedMakers$Board"
  | 1 => .array .int
  | 2 => .int
  | _ => .int
abbrev wsX80 : List Cond := u_ws RX8 TX8 4
theorem nmX8 : ∀ a, a < 4 → ∀ b, b < 4 → a ≠ b → (TX8 a).2.1 ≠ (TX8 b).2.1 := by decide +kernel
theorem tyX8_ok : ∀ k, k < 4 → parseFieldDescriptor (TX8 k).2.2.1 = some (tyX8 k) := by decide +kernel
abbrev cX8_init : ByteArray := prog_10_method_1_code
def yX8_init : MethodName := ⟨RX8, "<init>", "(LSeedMakers$Grid;)V"⟩
abbrev cX8_count : ByteArray := prog_10_method_2_code
def yX8_count : MethodName := ⟨RX8, "count", "([II)I"⟩
abbrev cX8_search : ByteArray := prog_10_method_3_code
def yX8_search : MethodName := ⟨RX8, "search", "(I)V"⟩
abbrev cX8_tightest : ByteArray := prog_10_method_4_code
def yX8_tightest : MethodName := ⟨RX8, "tightest", "(I)I"⟩
def RX9 : String := "SeedMakers$Typed"
def TX9 : u_T := fun k => match k with
  | 0 => ("SeedMakers$Typed", "grid", "LSeedMakers$Grid;", true)
  | 1 => ("SeedMakers$Typed", "board", "LSeedMakers$Board;", true)
  | 2 => ("SeedMakers$Typed", "bytes", "[I", true)
  | 3 => ("SeedMakers$Typed", "length", "I", false)
  | _ => ("SeedMakers$Typed", "symbols", "[I", true)
def tyX9 : Nat → FieldType := fun k => match k with
  | 0 => .object "SeedMakers$Grid"
  | 1 => .object "SeedMakers$Board"
  | 2 => .array .int
  | 3 => .int
  | _ => .array .int
abbrev wsX90 : List Cond := u_ws RX9 TX9 5
theorem nmX9 : ∀ a, a < 5 → ∀ b, b < 5 → a ≠ b → (TX9 a).2.1 ≠ (TX9 b).2.1 := by decide +kernel
theorem tyX9_ok : ∀ k, k < 5 → parseFieldDescriptor (TX9 k).2.2.1 = some (tyX9 k) := by decide +kernel
abbrev cX9_init : ByteArray := prog_11_method_1_code
def yX9_init : MethodName := ⟨RX9, "<init>", "(LSeedMakers$Grid;)V"⟩
abbrev cX9_byteOf : ByteArray := prog_11_method_2_code
def yX9_byteOf : MethodName := ⟨RX9, "byteOf", "(I)I"⟩
abbrev cX9_add : ByteArray := prog_11_method_3_code
def yX9_add : MethodName := ⟨RX9, "add", "(I)Z"⟩
abbrev cX9_read : ByteArray := prog_11_method_4_code
def yX9_read : MethodName := ⟨RX9, "read", "()I"⟩
abbrev cX9_readByte : ByteArray := prog_11_method_5_code
def yX9_readByte : MethodName := ⟨RX9, "readByte", "(II)Z"⟩
def RX10 : String := "SeedMakers"
def TX10 : u_T := fun k => match k with
  | 0 => ("SeedMakers", "grid", "LSeedMakers$Grid;", true)
  | 1 => ("SeedMakers", "sets", "LSeedMakers$Sets;", true)
  | 2 => ("SeedMakers", "themes", "[I", true)
  | 3 => ("SeedMakers", "aimed", "LSeedMakers$Aim;", true)
  | 4 => ("SeedMakers", "maker", "LSeedMakers$Maker;", true)
  | _ => ("SeedMakers", "typed", "LSeedMakers$Typed;", true)
def tyX10 : Nat → FieldType := fun k => match k with
  | 0 => .object "SeedMakers$Grid"
  | 1 => .object "SeedMakers$Sets"
  | 2 => .array .int
  | 3 => .object "SeedMakers$Aim"
  | 4 => .object "SeedMakers$Maker"
  | _ => .object "SeedMakers$Typed"
abbrev wsX100 : List Cond := u_ws RX10 TX10 6
theorem nmX10 : ∀ a, a < 6 → ∀ b, b < 6 → a ≠ b → (TX10 a).2.1 ≠ (TX10 b).2.1 := by decide +kernel
theorem tyX10_ok : ∀ k, k < 6 → parseFieldDescriptor (TX10 k).2.2.1 = some (tyX10 k) := by decide +kernel
abbrev cX10_init : ByteArray := prog_1_method_1_code
def yX10_init : MethodName := ⟨RX10, "<init>", "(I)V"⟩
abbrev cX10_symmetry : ByteArray := prog_1_method_2_code
def yX10_symmetry : MethodName := ⟨RX10, "symmetry", "(I)Z"⟩
abbrev cX10_theme : ByteArray := prog_1_method_3_code
def yX10_theme : MethodName := ⟨RX10, "theme", "(II)V"⟩
abbrev cX10_aim : ByteArray := prog_1_method_4_code
def yX10_aim : MethodName := ⟨RX10, "aim", "(III)V"⟩
abbrev cX10_make : ByteArray := prog_1_method_5_code
def yX10_make : MethodName := ⟨RX10, "make", "(JI)I"⟩
abbrev cX10_given : ByteArray := prog_1_method_6_code
def yX10_given : MethodName := ⟨RX10, "given", "(I)I"⟩
abbrev cX10_answer : ByteArray := prog_1_method_7_code
def yX10_answer : MethodName := ⟨RX10, "answer", "(I)I"⟩
abbrev cX10_told : ByteArray := prog_1_method_8_code
def yX10_told : MethodName := ⟨RX10, "told", "(I)I"⟩
abbrev cX10_left : ByteArray := prog_1_method_9_code
def yX10_left : MethodName := ⟨RX10, "left", "()I"⟩
abbrev cX10_needed : ByteArray := prog_1_method_10_code
def yX10_needed : MethodName := ⟨RX10, "needed", "(I)Z"⟩
abbrev cX10_answers : ByteArray := prog_1_method_11_code
def yX10_answers : MethodName := ⟨RX10, "answers", "()I"⟩
abbrev cX10_unit : ByteArray := prog_1_method_12_code
def yX10_unit : MethodName := ⟨RX10, "unit", "(I)Z"⟩
abbrev cX10_text : ByteArray := prog_1_method_13_code
def yX10_text : MethodName := ⟨RX10, "text", "(I)I"⟩
def RX11 : String := "SeedMakersModel"
def TX11 : u_T := fun k => match k with
  | 0 => ("SeedMakersModel", "thrown", "I", false)
  | 1 => ("SeedMakersModel", "n", "I", true)
  | 2 => ("SeedMakersModel", "wide", "I", true)
  | 3 => ("SeedMakersModel", "high", "I", true)
  | 4 => ("SeedMakersModel", "symmetry", "I", false)
  | 5 => ("SeedMakersModel", "themes", "[I", true)
  | 6 => ("SeedMakersModel", "easyAim", "I", false)
  | 7 => ("SeedMakersModel", "leastAim", "I", false)
  | 8 => ("SeedMakersModel", "mostAim", "I", false)
  | 9 => ("SeedMakersModel", "chance", "J", false)
  | 10 => ("SeedMakersModel", "tells", "[I", true)
  | 11 => ("SeedMakersModel", "isMade", "Z", false)
  | 12 => ("SeedMakersModel", "puzzle", "[I", true)
  | 13 => ("SeedMakersModel", "whole", "[I", true)
  | 14 => ("SeedMakersModel", "givens", "[I", true)
  | 15 => ("SeedMakersModel", "drawn", "[I", true)
  | 16 => ("SeedMakersModel", "tried", "[I", true)
  | 17 => ("SeedMakersModel", "known", "[I", true)
  | 18 => ("SeedMakersModel", "row", "[I", true)
  | 19 => ("SeedMakersModel", "rows", "I", false)
  | 20 => ("SeedMakersModel", "size", "I", false)
  | _ => ("SeedMakersModel", "text", "[I", true)
def tyX11 : Nat → FieldType := fun k => match k with
  | 0 => .int
  | 1 => .int
  | 2 => .int
  | 3 => .int
  | 4 => .int
  | 5 => .array .int
  | 6 => .int
  | 7 => .int
  | 8 => .int
  | 9 => .long
  | 10 => .array .int
  | 11 => .boolean
  | 12 => .array .int
  | 13 => .array .int
  | 14 => .array .int
  | 15 => .array .int
  | 16 => .array .int
  | 17 => .array .int
  | 18 => .array .int
  | 19 => .int
  | 20 => .int
  | _ => .array .int
abbrev wsX110 : List Cond := u_ws RX11 TX11 22
theorem nmX11 : ∀ a, a < 22 → ∀ b, b < 22 → a ≠ b → (TX11 a).2.1 ≠ (TX11 b).2.1 := by decide +kernel
theorem tyX11_ok : ∀ k, k < 22 → parseFieldDescriptor (TX11 k).2.2.1 = some (tyX11 k) := by decide +kernel
abbrev cX11_init : ByteArray := prog_13_method_1_code
def yX11_init : MethodName := ⟨RX11, "<init>", "(I)V"⟩
abbrev cX11_thrown : ByteArray := prog_13_method_2_code
def yX11_thrown : MethodName := ⟨RX11, "thrown", "()I"⟩
abbrev cX11_throwsIf : ByteArray := prog_13_method_3_code
def yX11_throwsIf : MethodName := ⟨RX11, "throwsIf", "(IZ)Z"⟩
abbrev cX11_cells : ByteArray := prog_13_method_4_code
def yX11_cells : MethodName := ⟨RX11, "cells", "()I"⟩
abbrev cX11_isCell : ByteArray := prog_13_method_5_code
def yX11_isCell : MethodName := ⟨RX11, "isCell", "(I)Z"⟩
abbrev cX11_sees : ByteArray := prog_13_method_6_code
def yX11_sees : MethodName := ⟨RX11, "sees", "(II)Z"⟩
abbrev cX11_symmetry : ByteArray := prog_13_method_7_code
def yX11_symmetry : MethodName := ⟨RX11, "symmetry", "(I)Z"⟩
abbrev cX11_theme : ByteArray := prog_13_method_8_code
def yX11_theme : MethodName := ⟨RX11, "theme", "(II)V"⟩
abbrev cX11_aim : ByteArray := prog_13_method_9_code
def yX11_aim : MethodName := ⟨RX11, "aim", "(III)V"⟩
abbrev cX11_turned : ByteArray := prog_13_method_10_code
def yX11_turned : MethodName := ⟨RX11, "turned", "(I)I"⟩
abbrev cX11_leastOf : ByteArray := prog_13_method_11_code
def yX11_leastOf : MethodName := ⟨RX11, "leastOf", "(I)I"⟩
abbrev cX11_hasTheme : ByteArray := prog_13_method_12_code
def yX11_hasTheme : MethodName := ⟨RX11, "hasTheme", "(II)Z"⟩
abbrev cX11_takeOut : ByteArray := prog_13_method_13_code
def yX11_takeOut : MethodName := ⟨RX11, "takeOut", "(I)V"⟩
abbrev cX11_putBack : ByteArray := prog_13_method_14_code
def yX11_putBack : MethodName := ⟨RX11, "putBack", "(I)V"⟩
abbrev cX11_fits : ByteArray := prog_13_method_15_code
def yX11_fits : MethodName := ⟨RX11, "fits", "(II)Z"⟩
abbrev cX11_countUpTo : ByteArray := prog_13_method_16_code
def yX11_countUpTo : MethodName := ⟨RX11, "countUpTo", "(I)I"⟩
abbrev cX11_may : ByteArray := prog_13_method_17_code
def yX11_may : MethodName := ⟨RX11, "may", "(II)Z"⟩
abbrev cX11_isTogether : ByteArray := prog_13_method_18_code
def yX11_isTogether : MethodName := ⟨RX11, "isTogether", "(III)Z"⟩
abbrev cX11_isSingle : ByteArray := prog_13_method_19_code
def yX11_isSingle : MethodName := ⟨RX11, "isSingle", "(II)Z"⟩
abbrev cX11_countLeft : ByteArray := prog_13_method_20_code
def yX11_countLeft : MethodName := ⟨RX11, "countLeft", "()I"⟩
abbrev cX11_below : ByteArray := prog_13_method_21_code
def yX11_below : MethodName := ⟨RX11, "below", "(I)I"⟩
abbrev cX11_mayDraw : ByteArray := prog_13_method_22_code
def yX11_mayDraw : MethodName := ⟨RX11, "mayDraw", "(II)Z"⟩
abbrev cX11_countDraw : ByteArray := prog_13_method_23_code
def yX11_countDraw : MethodName := ⟨RX11, "countDraw", "(I)I"⟩
abbrev cX11_empty : ByteArray := prog_13_method_24_code
def yX11_empty : MethodName := ⟨RX11, "empty", "()V"⟩
abbrev cX11_draw : ByteArray := prog_13_method_25_code
def yX11_draw : MethodName := ⟨RX11, "draw", "()Z"⟩
abbrev cX11_countGivens : ByteArray := prog_13_method_26_code
def yX11_countGivens : MethodName := ⟨RX11, "countGivens", "()I"⟩
abbrev cX11_isGood : ByteArray := prog_13_method_27_code
def yX11_isGood : MethodName := ⟨RX11, "isGood", "()Z"⟩
abbrev cX11_make : ByteArray := prog_13_method_28_code
def yX11_make : MethodName := ⟨RX11, "make", "(JI)I"⟩
abbrev cX11_take : ByteArray := prog_13_method_29_code
def yX11_take : MethodName := ⟨RX11, "take", "()V"⟩
abbrev cX11_given : ByteArray := prog_13_method_30_code
def yX11_given : MethodName := ⟨RX11, "given", "(I)I"⟩
abbrev cX11_answer : ByteArray := prog_13_method_31_code
def yX11_answer : MethodName := ⟨RX11, "answer", "(I)I"⟩
abbrev cX11_told : ByteArray := prog_13_method_32_code
def yX11_told : MethodName := ⟨RX11, "told", "(I)I"⟩
abbrev cX11_left : ByteArray := prog_13_method_33_code
def yX11_left : MethodName := ⟨RX11, "left", "()I"⟩
abbrev cX11_needed : ByteArray := prog_13_method_34_code
def yX11_needed : MethodName := ⟨RX11, "needed", "(I)Z"⟩
abbrev cX11_unit : ByteArray := prog_13_method_35_code
def yX11_unit : MethodName := ⟨RX11, "unit", "(I)Z"⟩
abbrev cX11_read : ByteArray := prog_13_method_36_code
def yX11_read : MethodName := ⟨RX11, "read", "()I"⟩
abbrev cX11_answers : ByteArray := prog_13_method_37_code
def yX11_answers : MethodName := ⟨RX11, "answers", "()I"⟩
abbrev cX11_text : ByteArray := prog_13_method_38_code
def yX11_text : MethodName := ⟨RX11, "text", "(I)I"⟩
def RJx00060 : String := "java/lang/ArrayIndexOutOfBoundsException"
def TJx00060 : u_T := fun k => match k with
  | 0 => ("java/lang/Throwable", "cause", "Ljava/lang/Throwable;", false)
  | 1 => ("java/lang/Throwable", "stackTrace", "[Ljava/lang/StackTraceElement;", false)
  | 2 => ("java/lang/Throwable", "suppressedExceptions", "Ljava/util/List;", false)
  | 3 => ("java/lang/Throwable", "detailMessage", "Ljava/lang/String;", false)
  | 4 => ("java/lang/Throwable", "backtrace", "Ljava/lang/Object;", false)
  | _ => ("java/lang/Throwable", "depth", "I", false)
def tyJx00060 : Nat → FieldType := fun k => match k with
  | 0 => .object "java/lang/Throwable"
  | 1 => .array (.object "java/lang/StackTraceElement")
  | 2 => .object "java/util/List"
  | 3 => .object "java/lang/String"
  | 4 => .object "java/lang/Object"
  | _ => .int
abbrev wsJx000600 : List Cond := u_ws RJx00060 TJx00060 6
theorem nmJx00060 : ∀ a, a < 6 → ∀ b, b < 6 → a ≠ b → (TJx00060 a).2.1 ≠ (TJx00060 b).2.1 := by decide +kernel
theorem tyJx00060_ok : ∀ k, k < 6 → parseFieldDescriptor (TJx00060 k).2.2.1 = some (tyJx00060 k) := by decide +kernel
abbrev cJx00060_init_a7421 : ByteArray := prog_14_method_2_code
def yJx00060_init_a7421 : MethodName := ⟨RJx00060, "<init>", "(Ljava/lang/String;)V"⟩
def RJ6 : String := "java/lang/Integer"
def TJ6 : u_T := fun k => match k with
  | _ => ("", "", "", false)
def tyJ6 : Nat → FieldType := fun k => match k with
  | _ => .int
abbrev wsJ60 : List Cond := u_ws RJ6 TJ6 0
theorem nmJ6 : ∀ a, a < 0 → ∀ b, b < 0 → a ≠ b → (TJ6 a).2.1 ≠ (TJ6 b).2.1 := by decide +kernel
theorem tyJ6_ok : ∀ k, k < 0 → parseFieldDescriptor (TJ6 k).2.2.1 = some (tyJ6 k) := by decide +kernel
abbrev cJ6_numberOfTrailingZeros_0f7a4 : ByteArray := prog_18_method_48_code
def yJ6_numberOfTrailingZeros_0f7a4 : MethodName := ⟨RJ6, "numberOfTrailingZeros", "(I)I"⟩
abbrev cJ6_bitCount_0f7a4 : ByteArray := prog_18_method_49_code
def yJ6_bitCount_0f7a4 : MethodName := ⟨RJ6, "bitCount", "(I)I"⟩
def RJ9 : String := "java/lang/Math"
def TJ9 : u_T := fun k => match k with
  | _ => ("", "", "", false)
def tyJ9 : Nat → FieldType := fun k => match k with
  | _ => .int
abbrev wsJ90 : List Cond := u_ws RJ9 TJ9 0
theorem nmJ9 : ∀ a, a < 0 → ∀ b, b < 0 → a ≠ b → (TJ9 a).2.1 ≠ (TJ9 b).2.1 := by decide +kernel
theorem tyJ9_ok : ∀ k, k < 0 → parseFieldDescriptor (TJ9 k).2.2.1 = some (tyJ9 k) := by decide +kernel
abbrev cJ9_min_7cf53 : ByteArray := prog_19_method_69_code
def yJ9_min_7cf53 : MethodName := ⟨RJ9, "min", "(II)I"⟩
def RJ0 : String := "java/lang/String"
def TJ0 : u_T := fun k => match k with
  | _ => ("", "", "", false)
def tyJ0 : Nat → FieldType := fun k => match k with
  | _ => .int
abbrev wsJ00 : List Cond := u_ws RJ0 TJ0 0
theorem nmJ0 : ∀ a, a < 0 → ∀ b, b < 0 → a ≠ b → (TJ0 a).2.1 ≠ (TJ0 b).2.1 := by decide +kernel
theorem tyJ0_ok : ∀ k, k < 0 → parseFieldDescriptor (TJ0 k).2.2.1 = some (tyJ0 k) := by decide +kernel
def RJ10 : String := "java/lang/System"
def TJ10 : u_T := fun k => match k with
  | _ => ("", "", "", false)
def tyJ10 : Nat → FieldType := fun k => match k with
  | _ => .int
abbrev wsJ100 : List Cond := u_ws RJ10 TJ10 0
theorem nmJ10 : ∀ a, a < 0 → ∀ b, b < 0 → a ≠ b → (TJ10 a).2.1 ≠ (TJ10 b).2.1 := by decide +kernel
theorem tyJ10_ok : ∀ k, k < 0 → parseFieldDescriptor (TJ10 k).2.2.1 = some (tyJ10 k) := by decide +kernel
def RL : String := "SeedMakersLaw"
abbrev cL_cell : ByteArray := method_2_code
def yL_cell : MethodName := ⟨RL, "cell", "([II)I"⟩
abbrev cL_theme : ByteArray := method_3_code
def yL_theme : MethodName := ⟨RL, "theme", "(LSeedMakers;II)I"⟩
abbrev cL_aim : ByteArray := method_4_code
def yL_aim : MethodName := ⟨RL, "aim", "(LSeedMakers;III)I"⟩
abbrev cL_given : ByteArray := method_5_code
def yL_given : MethodName := ⟨RL, "given", "(LSeedMakers;I[J)I"⟩
abbrev cL_answer : ByteArray := method_6_code
def yL_answer : MethodName := ⟨RL, "answer", "(LSeedMakers;I[J)I"⟩
abbrev cL_needed : ByteArray := method_7_code
def yL_needed : MethodName := ⟨RL, "needed", "(LSeedMakers;I[J)I"⟩
abbrev cL_law : ByteArray := code
def yL_law : MethodName := ⟨RL, "law", "([I)Z"⟩
def wsX0_init : List Cond := .code yX0_init cX0_init 1 none :: ([.methodLink RX0 1 objectInit, .instanceMethod objectInit, .code objectInit ⟨#[0xb1]⟩ 1 none, .fieldLink RX0 7 "SeedMakers$Aim" "easy" "I", .fieldLink RX0 13 "SeedMakers$Aim" "least" "I", .constant RX0 18 (2147483647), .fieldLink RX0 19 "SeedMakers$Aim" "most" "I"] ++ wsX00)
def wsX0_set : List Cond := .code yX0_set cX0_set 4 none :: ([.fieldLink RX0 7 "SeedMakers$Aim" "easy" "I", .fieldLink RX0 13 "SeedMakers$Aim" "least" "I", .fieldLink RX0 19 "SeedMakers$Aim" "most" "I"] ++ wsX00)
def wsX0_isMet : List Cond := .code yX0_isMet cX0_isMet 3 (some .boolean) :: ([.fieldLink RX0 13 "SeedMakers$Aim" "least" "I", .fieldLink RX0 19 "SeedMakers$Aim" "most" "I", .fieldLink RX0 7 "SeedMakers$Aim" "easy" "I"] ++ wsX00)
def wsX1_clear : List Cond := .code yX1_clear cX1_clear 2 none :: ([.fieldLink RX1 7 "SeedMakers$Board" "grid" "LSeedMakers$Grid;", .fieldLink RX1 13 "SeedMakers$Grid" "cells" "I", .fieldLink RX1 19 "SeedMakers$Board" "symbols" "[I", .fieldLink RX1 23 "SeedMakers$Grid" "side" "I", .fieldLink RX1 26 "SeedMakers$Board" "inRow" "[I", .fieldLink RX1 29 "SeedMakers$Board" "inColumn" "[I", .fieldLink RX1 32 "SeedMakers$Board" "inBox" "[I"] ++ wsX10 ++ wsX40)
def wsX1_init : List Cond := .code yX1_init cX1_init 2 none :: ([.methodLink RX1 1 objectInit, .instanceMethod objectInit, .code objectInit ⟨#[0xb1]⟩ 1 none, .fieldLink RX1 7 "SeedMakers$Board" "grid" "LSeedMakers$Grid;", .fieldLink RX1 13 "SeedMakers$Grid" "cells" "I", .arrayClass .int, .fieldLink RX1 19 "SeedMakers$Board" "symbols" "[I", .fieldLink RX1 23 "SeedMakers$Grid" "side" "I", .fieldLink RX1 26 "SeedMakers$Board" "inRow" "[I", .fieldLink RX1 29 "SeedMakers$Board" "inColumn" "[I", .fieldLink RX1 32 "SeedMakers$Board" "inBox" "[I", .methodLink RX1 35 yX1_clear, .instanceMethod yX1_clear, .selects RX1 yX1_clear yX1_clear, .initialized RX1, .code yX1_clear cX1_clear 2 none] ++ wsX10 ++ wsX40)
def wsX1_flip : List Cond := .code yX1_flip cX1_flip 3 none :: ([.fieldLink RX1 26 "SeedMakers$Board" "inRow" "[I", .fieldLink RX1 7 "SeedMakers$Board" "grid" "LSeedMakers$Grid;", .fieldLink RX1 45 "SeedMakers$Grid" "row" "[I", .fieldLink RX1 29 "SeedMakers$Board" "inColumn" "[I", .fieldLink RX1 48 "SeedMakers$Grid" "column" "[I", .fieldLink RX1 32 "SeedMakers$Board" "inBox" "[I", .fieldLink RX1 51 "SeedMakers$Grid" "box" "[I"] ++ wsX10 ++ wsX40)
def wsX1_put : List Cond := .code yX1_put cX1_put 3 none :: ([.fieldLink RX1 19 "SeedMakers$Board" "symbols" "[I", .methodLink RX1 54 yX1_flip, .instanceMethod yX1_flip, .selects RX1 yX1_flip yX1_flip, .initialized RX1, .code yX1_flip cX1_flip 3 none, .fieldLink RX1 26 "SeedMakers$Board" "inRow" "[I", .fieldLink RX1 7 "SeedMakers$Board" "grid" "LSeedMakers$Grid;", .fieldLink RX1 45 "SeedMakers$Grid" "row" "[I", .fieldLink RX1 29 "SeedMakers$Board" "inColumn" "[I", .fieldLink RX1 48 "SeedMakers$Grid" "column" "[I", .fieldLink RX1 32 "SeedMakers$Board" "inBox" "[I", .fieldLink RX1 51 "SeedMakers$Grid" "box" "[I"] ++ wsX10 ++ wsX40)
def wsX1_putAll : List Cond := .code yX1_putAll cX1_putAll 3 none :: ([.fieldLink RX1 7 "SeedMakers$Board" "grid" "LSeedMakers$Grid;", .fieldLink RX1 13 "SeedMakers$Grid" "cells" "I", .methodLink RX1 35 yX1_clear, .instanceMethod yX1_clear, .selects RX1 yX1_clear yX1_clear, .initialized RX1, .code yX1_clear cX1_clear 2 none, .fieldLink RX1 19 "SeedMakers$Board" "symbols" "[I", .fieldLink RX1 23 "SeedMakers$Grid" "side" "I", .fieldLink RX1 26 "SeedMakers$Board" "inRow" "[I", .fieldLink RX1 29 "SeedMakers$Board" "inColumn" "[I", .fieldLink RX1 32 "SeedMakers$Board" "inBox" "[I", .methodLink RX1 38 yX1_put, .instanceMethod yX1_put, .selects RX1 yX1_put yX1_put, .code yX1_put cX1_put 3 none, .methodLink RX1 54 yX1_flip, .instanceMethod yX1_flip, .selects RX1 yX1_flip yX1_flip, .code yX1_flip cX1_flip 3 none, .fieldLink RX1 45 "SeedMakers$Grid" "row" "[I", .fieldLink RX1 48 "SeedMakers$Grid" "column" "[I", .fieldLink RX1 51 "SeedMakers$Grid" "box" "[I"] ++ wsX10 ++ wsX40)
def wsX1_isEmpty : List Cond := .code yX1_isEmpty cX1_isEmpty 2 (some .boolean) :: ([.fieldLink RX1 19 "SeedMakers$Board" "symbols" "[I"] ++ wsX10)
def wsX1_may : List Cond := .code yX1_may cX1_may 2 (some .int) :: ([.fieldLink RX1 7 "SeedMakers$Board" "grid" "LSeedMakers$Grid;", .fieldLink RX1 42 "SeedMakers$Grid" "allSymbols" "I", .fieldLink RX1 26 "SeedMakers$Board" "inRow" "[I", .fieldLink RX1 45 "SeedMakers$Grid" "row" "[I", .fieldLink RX1 29 "SeedMakers$Board" "inColumn" "[I", .fieldLink RX1 48 "SeedMakers$Grid" "column" "[I", .fieldLink RX1 32 "SeedMakers$Board" "inBox" "[I", .fieldLink RX1 51 "SeedMakers$Grid" "box" "[I"] ++ wsX10 ++ wsX40)
def wsX1_takeOut : List Cond := .code yX1_takeOut cX1_takeOut 3 none :: ([.fieldLink RX1 19 "SeedMakers$Board" "symbols" "[I", .methodLink RX1 54 yX1_flip, .instanceMethod yX1_flip, .selects RX1 yX1_flip yX1_flip, .initialized RX1, .code yX1_flip cX1_flip 3 none, .fieldLink RX1 26 "SeedMakers$Board" "inRow" "[I", .fieldLink RX1 7 "SeedMakers$Board" "grid" "LSeedMakers$Grid;", .fieldLink RX1 45 "SeedMakers$Grid" "row" "[I", .fieldLink RX1 29 "SeedMakers$Board" "inColumn" "[I", .fieldLink RX1 48 "SeedMakers$Grid" "column" "[I", .fieldLink RX1 32 "SeedMakers$Board" "inBox" "[I", .fieldLink RX1 51 "SeedMakers$Grid" "box" "[I"] ++ wsX10 ++ wsX40)
def wsX2_init : List Cond := .code yX2_init cX2_init 1 none :: ([.methodLink RX2 1 objectInit, .instanceMethod objectInit, .code objectInit ⟨#[0xb1]⟩ 1 none, .fieldLink RX2 7 "SeedMakers$Chance" "state" "J"] ++ wsX20)
def wsX2_startAt : List Cond := .code yX2_startAt cX2_startAt 3 none :: ([.fieldLink RX2 7 "SeedMakers$Chance" "state" "J"] ++ wsX20)
def wsX2_upperBits : List Cond := .code yX2_upperBits cX2_upperBits 1 (some .int) :: ([.fieldLink RX2 7 "SeedMakers$Chance" "state" "J"] ++ wsX20)
def wsX2_below : List Cond := .code yX2_below cX2_below 2 (some .int) :: ([.constantLong RX2 13 (6364136223846793005), .fieldLink RX2 7 "SeedMakers$Chance" "state" "J", .constantLong RX2 15 (1442695040888963407), .methodLink RX2 17 yX2_upperBits, .instanceMethod yX2_upperBits, .selects RX2 yX2_upperBits yX2_upperBits, .initialized RX2, .code yX2_upperBits cX2_upperBits 1 (some .int)] ++ wsX20)
def wsX3_init_r1 : List Cond := [Cond.methodLink RX3 1 objectInit, Cond.instanceMethod objectInit, Cond.code objectInit ⟨#[0xb1]⟩ 1 none, Cond.fieldLink RX3 7 "SeedMakers$Drawer" "grid" "LSeedMakers$Grid;", Cond.fieldLink RX3 13 "SeedMakers$Drawer" "chance" "LSeedMakers$Chance;", Cond.classLink RX3 17 RX1, Cond.instantiable RX1 5, Cond.initialized RX1, Cond.fieldLink RX3 22 "SeedMakers$Drawer" "board" "LSeedMakers$Board;", Cond.methodLink RX3 19 yX1_init, Cond.instanceMethod yX1_init, Cond.code yX1_init cX1_init 2 none, Cond.methodLink RX1 1 objectInit, Cond.fieldLink RX1 7 "SeedMakers$Board" "grid" "LSeedMakers$Grid;", Cond.fieldLink RX1 13 "SeedMakers$Grid" "cells" "I", Cond.arrayClass .int, Cond.fieldLink RX1 19 "SeedMakers$Board" "symbols" "[I", Cond.fieldLink RX1 23 "SeedMakers$Grid" "side" "I", Cond.fieldLink RX1 26 "SeedMakers$Board" "inRow" "[I", Cond.fieldLink RX1 29 "SeedMakers$Board" "inColumn" "[I", Cond.fieldLink RX1 32 "SeedMakers$Board" "inBox" "[I", Cond.methodLink RX1 35 yX1_clear, Cond.instanceMethod yX1_clear, Cond.selects RX1 yX1_clear yX1_clear]
def wsX3_init_r2 : List Cond := [Cond.code yX1_clear cX1_clear 2 none]
def wsX3_init : List Cond := .code yX3_init cX3_init 3 none :: ((wsX3_init_r1 ++ wsX3_init_r2) ++ wsX30 ++ wsX10 ++ wsX40)
def wsJ6_bitCount_0f7a4 : List Cond := .code yJ6_bitCount_0f7a4 cJ6_bitCount_0f7a4 1 (some .int) :: ([.constant RJ6 265 (1431655765), .constant RJ6 266 (858993459), .constant RJ6 267 (252645135)])
def wsX3_tightest_r1 : List Cond := [Cond.constant RX3 61 (2147483647), Cond.fieldLink RX3 7 "SeedMakers$Drawer" "grid" "LSeedMakers$Grid;", Cond.fieldLink RX3 29 "SeedMakers$Grid" "cells" "I", Cond.fieldLink RX3 22 "SeedMakers$Drawer" "board" "LSeedMakers$Board;", Cond.methodLink RX3 62 yX1_isEmpty, Cond.instanceMethod yX1_isEmpty, Cond.selects RX1 yX1_isEmpty yX1_isEmpty, Cond.initialized RX1, Cond.code yX1_isEmpty cX1_isEmpty 2 (some .boolean), Cond.fieldLink RX1 19 "SeedMakers$Board" "symbols" "[I", Cond.methodLink RX3 39 yX1_may, Cond.instanceMethod yX1_may, Cond.selects RX1 yX1_may yX1_may, Cond.code yX1_may cX1_may 2 (some .int), Cond.fieldLink RX1 7 "SeedMakers$Board" "grid" "LSeedMakers$Grid;", Cond.fieldLink RX1 42 "SeedMakers$Grid" "allSymbols" "I", Cond.fieldLink RX1 26 "SeedMakers$Board" "inRow" "[I", Cond.fieldLink RX1 45 "SeedMakers$Grid" "row" "[I", Cond.fieldLink RX1 29 "SeedMakers$Board" "inColumn" "[I", Cond.fieldLink RX1 48 "SeedMakers$Grid" "column" "[I", Cond.fieldLink RX1 32 "SeedMakers$Board" "inBox" "[I", Cond.fieldLink RX1 51 "SeedMakers$Grid" "box" "[I", Cond.methodLink RX3 43 yJ6_bitCount_0f7a4, Cond.static yJ6_bitCount_0f7a4]
def wsX3_tightest_r2 : List Cond := [Cond.initialized RJ6, Cond.code yJ6_bitCount_0f7a4 cJ6_bitCount_0f7a4 1 (some .int), Cond.constant RJ6 265 (1431655765), Cond.constant RJ6 266 (858993459), Cond.constant RJ6 267 (252645135)]
def wsX3_tightest : List Cond := .code yX3_tightest cX3_tightest 5 (some .int) :: ((wsX3_tightest_r1 ++ wsX3_tightest_r2) ++ wsX30 ++ wsX40 ++ wsX10)
def wsJ6_numberOfTrailingZeros_0f7a4 : List Cond := .code yJ6_numberOfTrailingZeros_0f7a4 cJ6_numberOfTrailingZeros_0f7a4 2 (some .int) :: ([.constant RJ6 264 (65536)])
def wsX3_symbolAt : List Cond := .code yX3_symbolAt cX3_symbolAt 4 (some .int) :: ([.methodLink RX3 66 yJ6_numberOfTrailingZeros_0f7a4, .static yJ6_numberOfTrailingZeros_0f7a4, .initialized RJ6, .code yJ6_numberOfTrailingZeros_0f7a4 cJ6_numberOfTrailingZeros_0f7a4 2 (some .int), .constant RJ6 264 (65536)])
def wsX3_fill_r1 : List Cond := [Cond.fieldLink RX3 22 "SeedMakers$Drawer" "board" "LSeedMakers$Board;", Cond.fieldLink RX3 7 "SeedMakers$Drawer" "grid" "LSeedMakers$Grid;", Cond.fieldLink RX3 29 "SeedMakers$Grid" "cells" "I", Cond.fieldLink RX3 13 "SeedMakers$Drawer" "chance" "LSeedMakers$Chance;", Cond.methodLink RX3 26 yX1_clear, Cond.instanceMethod yX1_clear, Cond.selects RX1 yX1_clear yX1_clear, Cond.initialized RX1, Cond.code yX1_clear cX1_clear 2 none, Cond.fieldLink RX1 7 "SeedMakers$Board" "grid" "LSeedMakers$Grid;", Cond.fieldLink RX1 13 "SeedMakers$Grid" "cells" "I", Cond.fieldLink RX1 19 "SeedMakers$Board" "symbols" "[I", Cond.fieldLink RX1 23 "SeedMakers$Grid" "side" "I", Cond.fieldLink RX1 26 "SeedMakers$Board" "inRow" "[I", Cond.fieldLink RX1 29 "SeedMakers$Board" "inColumn" "[I", Cond.fieldLink RX1 32 "SeedMakers$Board" "inBox" "[I", Cond.methodLink RX3 35 yX3_tightest, Cond.instanceMethod yX3_tightest, Cond.selects RX3 yX3_tightest yX3_tightest, Cond.initialized RX3, Cond.code yX3_tightest cX3_tightest 5 (some .int), Cond.constant RX3 61 (2147483647), Cond.methodLink RX3 62 yX1_isEmpty, Cond.instanceMethod yX1_isEmpty]
def wsX3_fill_r2 : List Cond := [Cond.selects RX1 yX1_isEmpty yX1_isEmpty, Cond.code yX1_isEmpty cX1_isEmpty 2 (some .boolean), Cond.methodLink RX3 39 yX1_may, Cond.instanceMethod yX1_may, Cond.selects RX1 yX1_may yX1_may, Cond.code yX1_may cX1_may 2 (some .int), Cond.fieldLink RX1 42 "SeedMakers$Grid" "allSymbols" "I", Cond.fieldLink RX1 45 "SeedMakers$Grid" "row" "[I", Cond.fieldLink RX1 48 "SeedMakers$Grid" "column" "[I", Cond.fieldLink RX1 51 "SeedMakers$Grid" "box" "[I", Cond.methodLink RX3 43 yJ6_bitCount_0f7a4, Cond.static yJ6_bitCount_0f7a4, Cond.initialized RJ6, Cond.code yJ6_bitCount_0f7a4 cJ6_bitCount_0f7a4 1 (some .int), Cond.constant RJ6 265 (1431655765), Cond.constant RJ6 266 (858993459), Cond.constant RJ6 267 (252645135), Cond.methodLink RX3 48 yX2_below, Cond.instanceMethod yX2_below, Cond.selects RX2 yX2_below yX2_below, Cond.initialized RX2, Cond.code yX2_below cX2_below 2 (some .int), Cond.constantLong RX2 13 (6364136223846793005), Cond.fieldLink RX2 7 "SeedMakers$Chance" "state" "J"]
def wsX3_fill_r3 : List Cond := [Cond.constantLong RX2 15 (1442695040888963407), Cond.methodLink RX2 17 yX2_upperBits, Cond.instanceMethod yX2_upperBits, Cond.selects RX2 yX2_upperBits yX2_upperBits, Cond.code yX2_upperBits cX2_upperBits 1 (some .int), Cond.methodLink RX3 53 yX3_symbolAt, Cond.static yX3_symbolAt, Cond.code yX3_symbolAt cX3_symbolAt 4 (some .int), Cond.methodLink RX3 66 yJ6_numberOfTrailingZeros_0f7a4, Cond.static yJ6_numberOfTrailingZeros_0f7a4, Cond.code yJ6_numberOfTrailingZeros_0f7a4 cJ6_numberOfTrailingZeros_0f7a4 2 (some .int), Cond.constant RJ6 264 (65536), Cond.methodLink RX3 57 yX1_put, Cond.instanceMethod yX1_put, Cond.selects RX1 yX1_put yX1_put, Cond.code yX1_put cX1_put 3 none, Cond.methodLink RX1 54 yX1_flip, Cond.instanceMethod yX1_flip, Cond.selects RX1 yX1_flip yX1_flip, Cond.code yX1_flip cX1_flip 3 none]
def wsX3_fill : List Cond := .code yX3_fill cX3_fill 5 (some .boolean) :: ((wsX3_fill_r1 ++ (wsX3_fill_r2 ++ wsX3_fill_r3)) ++ wsX30 ++ wsX40 ++ wsX10 ++ wsX20)
def wsX4_init : List Cond := .code yX4_init cX4_init 8 none :: ([.methodLink RX4 1 objectInit, .instanceMethod objectInit, .code objectInit ⟨#[0xb1]⟩ 1 none, .fieldLink RX4 7 "SeedMakers$Grid" "side" "I", .fieldLink RX4 13 "SeedMakers$Grid" "cells" "I", .fieldLink RX4 16 "SeedMakers$Grid" "allSymbols" "I", .arrayClass .int, .fieldLink RX4 19 "SeedMakers$Grid" "row" "[I", .fieldLink RX4 23 "SeedMakers$Grid" "column" "[I", .fieldLink RX4 26 "SeedMakers$Grid" "box" "[I", .classLink RX4 29 "[[I", .fieldLink RX4 31 "SeedMakers$Grid" "units" "[[I"] ++ wsX40)
def wsX4_has : List Cond := .code yX4_has cX4_has 2 (some .boolean) :: ([.fieldLink RX4 13 "SeedMakers$Grid" "cells" "I"] ++ wsX40)
def wsX7_init : List Cond := .code yX7_init cX7_init 2 none :: ([.methodLink RX7 1 objectInit, .instanceMethod objectInit, .code objectInit ⟨#[0xb1]⟩ 1 none, .fieldLink RX7 7 "SeedMakers$Singles" "grid" "LSeedMakers$Grid;", .classLink RX7 13 RX1, .instantiable RX1 5, .initialized RX1, .fieldLink RX7 18 "SeedMakers$Singles" "board" "LSeedMakers$Board;", .methodLink RX7 15 yX1_init, .instanceMethod yX1_init, .code yX1_init cX1_init 2 none, .methodLink RX1 1 objectInit, .fieldLink RX1 7 "SeedMakers$Board" "grid" "LSeedMakers$Grid;", .fieldLink RX1 13 "SeedMakers$Grid" "cells" "I", .arrayClass .int, .fieldLink RX1 19 "SeedMakers$Board" "symbols" "[I", .fieldLink RX1 23 "SeedMakers$Grid" "side" "I", .fieldLink RX1 26 "SeedMakers$Board" "inRow" "[I", .fieldLink RX1 29 "SeedMakers$Board" "inColumn" "[I", .fieldLink RX1 32 "SeedMakers$Board" "inBox" "[I", .methodLink RX1 35 yX1_clear, .instanceMethod yX1_clear, .selects RX1 yX1_clear yX1_clear, .code yX1_clear cX1_clear 2 none] ++ wsX70 ++ wsX10 ++ wsX40)
def wsX8_init_r1 : List Cond := [Cond.methodLink RX8 1 objectInit, Cond.instanceMethod objectInit, Cond.code objectInit ⟨#[0xb1]⟩ 1 none, Cond.fieldLink RX8 7 "SeedMakers$Solver" "limit" "I", Cond.fieldLink RX8 13 "SeedMakers$Solver" "found" "I", Cond.classLink RX8 16 RX1, Cond.instantiable RX1 5, Cond.initialized RX1, Cond.fieldLink RX8 21 "SeedMakers$Solver" "board" "LSeedMakers$Board;", Cond.fieldLink RX8 25 "SeedMakers$Grid" "cells" "I", Cond.arrayClass .int, Cond.fieldLink RX8 30 "SeedMakers$Solver" "open" "[I", Cond.methodLink RX8 18 yX1_init, Cond.instanceMethod yX1_init, Cond.code yX1_init cX1_init 2 none, Cond.methodLink RX1 1 objectInit, Cond.fieldLink RX1 7 "SeedMakers$Board" "grid" "LSeedMakers$Grid;", Cond.fieldLink RX1 13 "SeedMakers$Grid" "cells" "I", Cond.fieldLink RX1 19 "SeedMakers$Board" "symbols" "[I", Cond.fieldLink RX1 23 "SeedMakers$Grid" "side" "I", Cond.fieldLink RX1 26 "SeedMakers$Board" "inRow" "[I", Cond.fieldLink RX1 29 "SeedMakers$Board" "inColumn" "[I", Cond.fieldLink RX1 32 "SeedMakers$Board" "inBox" "[I", Cond.methodLink RX1 35 yX1_clear]
def wsX8_init_r2 : List Cond := [Cond.instanceMethod yX1_clear, Cond.selects RX1 yX1_clear yX1_clear, Cond.code yX1_clear cX1_clear 2 none]
def wsX8_init : List Cond := .code yX8_init cX8_init 2 none :: ((wsX8_init_r1 ++ wsX8_init_r2) ++ wsX80 ++ wsX10 ++ wsX40)
def wsX5_init_r1 : List Cond := [Cond.methodLink RX5 1 objectInit, Cond.instanceMethod objectInit, Cond.code objectInit ⟨#[0xb1]⟩ 1 none, Cond.fieldLink RX5 7 "SeedMakers$Maker" "made" "Z", Cond.fieldLink RX5 13 "SeedMakers$Maker" "triesMade" "I", Cond.fieldLink RX5 17 "SeedMakers$Maker" "restarts" "I", Cond.fieldLink RX5 20 "SeedMakers$Maker" "takenOut" "I", Cond.fieldLink RX5 23 "SeedMakers$Maker" "putBack" "I", Cond.fieldLink RX5 26 "SeedMakers$Maker" "givenCells" "I", Cond.fieldLink RX5 29 "SeedMakers$Maker" "unknownCells" "I", Cond.fieldLink RX5 32 "SeedMakers$Maker" "grid" "LSeedMakers$Grid;", Cond.fieldLink RX5 36 "SeedMakers$Maker" "sets" "LSeedMakers$Sets;", Cond.fieldLink RX5 40 "SeedMakers$Maker" "themes" "[I", Cond.fieldLink RX5 44 "SeedMakers$Maker" "aimed" "LSeedMakers$Aim;", Cond.classLink RX5 48 RX2, Cond.instantiable RX2 1, Cond.initialized RX2, Cond.fieldLink RX5 51 "SeedMakers$Maker" "chance" "LSeedMakers$Chance;", Cond.classLink RX5 55 RX3, Cond.instantiable RX3 3, Cond.initialized RX3, Cond.fieldLink RX5 60 "SeedMakers$Maker" "drawer" "LSeedMakers$Drawer;", Cond.classLink RX5 64 RX7, Cond.instantiable RX7 2]
def wsX5_init_r2 : List Cond := [Cond.initialized RX7, Cond.fieldLink RX5 69 "SeedMakers$Maker" "singles" "LSeedMakers$Singles;", Cond.classLink RX5 73 RX8, Cond.instantiable RX8 4, Cond.initialized RX8, Cond.fieldLink RX5 76 "SeedMakers$Maker" "solver" "LSeedMakers$Solver;", Cond.fieldLink RX5 80 "SeedMakers$Grid" "cells" "I", Cond.arrayClass .int, Cond.fieldLink RX5 85 "SeedMakers$Maker" "whole" "[I", Cond.fieldLink RX5 88 "SeedMakers$Maker" "givens" "[I", Cond.arrayClass .boolean, Cond.fieldLink RX5 91 "SeedMakers$Maker" "marked" "[Z", Cond.fieldLink RX5 95 "SeedMakers$Maker" "row" "[I", Cond.fieldLink RX5 98 "SeedMakers$Maker" "without" "[I", Cond.instanceMethod yX2_init, Cond.code yX2_init cX2_init 1 none, Cond.methodLink RX2 1 objectInit, Cond.fieldLink RX2 7 "SeedMakers$Chance" "state" "J", Cond.methodLink RX5 57 yX3_init, Cond.instanceMethod yX3_init, Cond.code yX3_init cX3_init 3 none, Cond.methodLink RX3 1 objectInit, Cond.fieldLink RX3 7 "SeedMakers$Drawer" "grid" "LSeedMakers$Grid;", Cond.fieldLink RX3 13 "SeedMakers$Drawer" "chance" "LSeedMakers$Chance;"]
def wsX5_init_r3 : List Cond := [Cond.classLink RX3 17 RX1, Cond.instantiable RX1 5, Cond.initialized RX1, Cond.fieldLink RX3 22 "SeedMakers$Drawer" "board" "LSeedMakers$Board;", Cond.methodLink RX3 19 yX1_init, Cond.instanceMethod yX1_init, Cond.code yX1_init cX1_init 2 none, Cond.methodLink RX1 1 objectInit, Cond.fieldLink RX1 7 "SeedMakers$Board" "grid" "LSeedMakers$Grid;", Cond.fieldLink RX1 13 "SeedMakers$Grid" "cells" "I", Cond.fieldLink RX1 19 "SeedMakers$Board" "symbols" "[I", Cond.fieldLink RX1 23 "SeedMakers$Grid" "side" "I", Cond.fieldLink RX1 26 "SeedMakers$Board" "inRow" "[I", Cond.fieldLink RX1 29 "SeedMakers$Board" "inColumn" "[I", Cond.fieldLink RX1 32 "SeedMakers$Board" "inBox" "[I", Cond.methodLink RX1 35 yX1_clear, Cond.instanceMethod yX1_clear, Cond.selects RX1 yX1_clear yX1_clear, Cond.code yX1_clear cX1_clear 2 none, Cond.methodLink RX5 66 yX7_init, Cond.instanceMethod yX7_init, Cond.code yX7_init cX7_init 2 none, Cond.methodLink RX7 1 objectInit, Cond.fieldLink RX7 7 "SeedMakers$Singles" "grid" "LSeedMakers$Grid;"]
def wsX5_init_r4 : List Cond := [Cond.classLink RX7 13 RX1, Cond.fieldLink RX7 18 "SeedMakers$Singles" "board" "LSeedMakers$Board;", Cond.methodLink RX7 15 yX1_init, Cond.methodLink RX5 75 yX8_init, Cond.instanceMethod yX8_init, Cond.code yX8_init cX8_init 2 none, Cond.methodLink RX8 1 objectInit, Cond.fieldLink RX8 7 "SeedMakers$Solver" "limit" "I", Cond.fieldLink RX8 13 "SeedMakers$Solver" "found" "I", Cond.classLink RX8 16 RX1, Cond.fieldLink RX8 21 "SeedMakers$Solver" "board" "LSeedMakers$Board;", Cond.fieldLink RX8 25 "SeedMakers$Grid" "cells" "I", Cond.fieldLink RX8 30 "SeedMakers$Solver" "open" "[I", Cond.methodLink RX8 18 yX1_init]
def wsX5_init : List Cond := .code yX5_init cX5_init 5 none :: ((wsX5_init_r1 ++ (wsX5_init_r2 ++ (wsX5_init_r3 ++ wsX5_init_r4))) ++ wsX50 ++ wsX20 ++ wsX30 ++ wsX70 ++ wsX80 ++ wsX40 ++ wsX10)
def wsX5_startAt : List Cond := .code yX5_startAt cX5_startAt 3 none :: ([.fieldLink RX5 7 "SeedMakers$Maker" "made" "Z", .fieldLink RX5 13 "SeedMakers$Maker" "triesMade" "I", .fieldLink RX5 17 "SeedMakers$Maker" "restarts" "I", .fieldLink RX5 20 "SeedMakers$Maker" "takenOut" "I", .fieldLink RX5 23 "SeedMakers$Maker" "putBack" "I", .fieldLink RX5 51 "SeedMakers$Maker" "chance" "LSeedMakers$Chance;", .methodLink RX5 101 yX2_startAt, .instanceMethod yX2_startAt, .selects RX2 yX2_startAt yX2_startAt, .initialized RX2, .code yX2_startAt cX2_startAt 3 none, .fieldLink RX2 7 "SeedMakers$Chance" "state" "J"] ++ wsX50 ++ wsX20)
def wsX5_drawWhole_r1 : List Cond := [Cond.fieldLink RX5 60 "SeedMakers$Maker" "drawer" "LSeedMakers$Drawer;", Cond.fieldLink RX5 17 "SeedMakers$Maker" "restarts" "I", Cond.fieldLink RX5 146 "SeedMakers$Drawer" "board" "LSeedMakers$Board;", Cond.fieldLink RX5 150 "SeedMakers$Board" "symbols" "[I", Cond.fieldLink RX5 85 "SeedMakers$Maker" "whole" "[I", Cond.methodLink RX5 124 arraycopyName, Cond.native arraycopyName, Cond.static arraycopyName, Cond.initialized "java/lang/System", Cond.fieldLink RX5 88 "SeedMakers$Maker" "givens" "[I", Cond.methodLink RX5 143 yX3_fill, Cond.instanceMethod yX3_fill, Cond.selects RX3 yX3_fill yX3_fill, Cond.initialized RX3, Cond.code yX3_fill cX3_fill 5 (some .boolean), Cond.fieldLink RX3 22 "SeedMakers$Drawer" "board" "LSeedMakers$Board;", Cond.fieldLink RX3 7 "SeedMakers$Drawer" "grid" "LSeedMakers$Grid;", Cond.fieldLink RX3 29 "SeedMakers$Grid" "cells" "I", Cond.fieldLink RX3 13 "SeedMakers$Drawer" "chance" "LSeedMakers$Chance;", Cond.methodLink RX3 26 yX1_clear, Cond.instanceMethod yX1_clear, Cond.selects RX1 yX1_clear yX1_clear, Cond.initialized RX1, Cond.code yX1_clear cX1_clear 2 none]
def wsX5_drawWhole_r2 : List Cond := [Cond.fieldLink RX1 7 "SeedMakers$Board" "grid" "LSeedMakers$Grid;", Cond.fieldLink RX1 13 "SeedMakers$Grid" "cells" "I", Cond.fieldLink RX1 19 "SeedMakers$Board" "symbols" "[I", Cond.fieldLink RX1 23 "SeedMakers$Grid" "side" "I", Cond.fieldLink RX1 26 "SeedMakers$Board" "inRow" "[I", Cond.fieldLink RX1 29 "SeedMakers$Board" "inColumn" "[I", Cond.fieldLink RX1 32 "SeedMakers$Board" "inBox" "[I", Cond.methodLink RX3 35 yX3_tightest, Cond.instanceMethod yX3_tightest, Cond.selects RX3 yX3_tightest yX3_tightest, Cond.code yX3_tightest cX3_tightest 5 (some .int), Cond.constant RX3 61 (2147483647), Cond.methodLink RX3 62 yX1_isEmpty, Cond.instanceMethod yX1_isEmpty, Cond.selects RX1 yX1_isEmpty yX1_isEmpty, Cond.code yX1_isEmpty cX1_isEmpty 2 (some .boolean), Cond.methodLink RX3 39 yX1_may, Cond.instanceMethod yX1_may, Cond.selects RX1 yX1_may yX1_may, Cond.code yX1_may cX1_may 2 (some .int), Cond.fieldLink RX1 42 "SeedMakers$Grid" "allSymbols" "I", Cond.fieldLink RX1 45 "SeedMakers$Grid" "row" "[I", Cond.fieldLink RX1 48 "SeedMakers$Grid" "column" "[I", Cond.fieldLink RX1 51 "SeedMakers$Grid" "box" "[I"]
def wsX5_drawWhole_r3 : List Cond := [Cond.methodLink RX3 43 yJ6_bitCount_0f7a4, Cond.static yJ6_bitCount_0f7a4, Cond.initialized RJ6, Cond.code yJ6_bitCount_0f7a4 cJ6_bitCount_0f7a4 1 (some .int), Cond.constant RJ6 265 (1431655765), Cond.constant RJ6 266 (858993459), Cond.constant RJ6 267 (252645135), Cond.methodLink RX3 48 yX2_below, Cond.instanceMethod yX2_below, Cond.selects RX2 yX2_below yX2_below, Cond.initialized RX2, Cond.code yX2_below cX2_below 2 (some .int), Cond.constantLong RX2 13 (6364136223846793005), Cond.fieldLink RX2 7 "SeedMakers$Chance" "state" "J", Cond.constantLong RX2 15 (1442695040888963407), Cond.methodLink RX2 17 yX2_upperBits, Cond.instanceMethod yX2_upperBits, Cond.selects RX2 yX2_upperBits yX2_upperBits, Cond.code yX2_upperBits cX2_upperBits 1 (some .int), Cond.methodLink RX3 53 yX3_symbolAt, Cond.static yX3_symbolAt, Cond.code yX3_symbolAt cX3_symbolAt 4 (some .int), Cond.methodLink RX3 66 yJ6_numberOfTrailingZeros_0f7a4, Cond.static yJ6_numberOfTrailingZeros_0f7a4]
def wsX5_drawWhole_r4 : List Cond := [Cond.code yJ6_numberOfTrailingZeros_0f7a4 cJ6_numberOfTrailingZeros_0f7a4 2 (some .int), Cond.constant RJ6 264 (65536), Cond.methodLink RX3 57 yX1_put, Cond.instanceMethod yX1_put, Cond.selects RX1 yX1_put yX1_put, Cond.code yX1_put cX1_put 3 none, Cond.methodLink RX1 54 yX1_flip, Cond.instanceMethod yX1_flip, Cond.selects RX1 yX1_flip yX1_flip, Cond.code yX1_flip cX1_flip 3 none]
def wsX5_drawWhole : List Cond := .code yX5_drawWhole cX5_drawWhole 3 (some .boolean) :: ((wsX5_drawWhole_r1 ++ (wsX5_drawWhole_r2 ++ (wsX5_drawWhole_r3 ++ wsX5_drawWhole_r4))) ++ wsX50 ++ wsX30 ++ wsX10 ++ wsX40 ++ wsX20)
def wsX5_markSetsWith : List Cond := .code yX5_markSetsWith cX5_markSetsWith 3 none :: ([.fieldLink RX5 32 "SeedMakers$Maker" "grid" "LSeedMakers$Grid;", .fieldLink RX5 80 "SeedMakers$Grid" "cells" "I", .fieldLink RX5 91 "SeedMakers$Maker" "marked" "[Z", .fieldLink RX5 40 "SeedMakers$Maker" "themes" "[I", .fieldLink RX5 36 "SeedMakers$Maker" "sets" "LSeedMakers$Sets;", .fieldLink RX5 158 "SeedMakers$Sets" "leastOf" "[I"] ++ wsX50 ++ wsX40 ++ wsX60)
def wsX8_tightest : List Cond := .code yX8_tightest cX8_tightest 6 (some .int) :: ([.constant RX8 69 (2147483647), .fieldLink RX8 21 "SeedMakers$Solver" "board" "LSeedMakers$Board;", .fieldLink RX8 30 "SeedMakers$Solver" "open" "[I", .methodLink RX8 50 yX1_may, .instanceMethod yX1_may, .selects RX1 yX1_may yX1_may, .initialized RX1, .code yX1_may cX1_may 2 (some .int), .fieldLink RX1 7 "SeedMakers$Board" "grid" "LSeedMakers$Grid;", .fieldLink RX1 42 "SeedMakers$Grid" "allSymbols" "I", .fieldLink RX1 26 "SeedMakers$Board" "inRow" "[I", .fieldLink RX1 45 "SeedMakers$Grid" "row" "[I", .fieldLink RX1 29 "SeedMakers$Board" "inColumn" "[I", .fieldLink RX1 48 "SeedMakers$Grid" "column" "[I", .fieldLink RX1 32 "SeedMakers$Board" "inBox" "[I", .fieldLink RX1 51 "SeedMakers$Grid" "box" "[I", .methodLink RX8 70 yJ6_bitCount_0f7a4, .static yJ6_bitCount_0f7a4, .initialized RJ6, .code yJ6_bitCount_0f7a4 cJ6_bitCount_0f7a4 1 (some .int), .constant RJ6 265 (1431655765), .constant RJ6 266 (858993459), .constant RJ6 267 (252645135)] ++ wsX80 ++ wsX10 ++ wsX40)
def wsX8_search_r1 : List Cond := [Cond.fieldLink RX8 13 "SeedMakers$Solver" "found" "I", Cond.fieldLink RX8 30 "SeedMakers$Solver" "open" "[I", Cond.fieldLink RX8 21 "SeedMakers$Solver" "board" "LSeedMakers$Board;", Cond.fieldLink RX8 53 "SeedMakers$Board" "grid" "LSeedMakers$Grid;", Cond.fieldLink RX8 57 "SeedMakers$Grid" "side" "I", Cond.fieldLink RX8 7 "SeedMakers$Solver" "limit" "I", Cond.methodLink RX8 46 yX8_tightest, Cond.instanceMethod yX8_tightest, Cond.selects RX8 yX8_tightest yX8_tightest, Cond.initialized RX8, Cond.code yX8_tightest cX8_tightest 6 (some .int), Cond.constant RX8 69 (2147483647), Cond.methodLink RX8 50 yX1_may, Cond.instanceMethod yX1_may, Cond.selects RX1 yX1_may yX1_may, Cond.initialized RX1, Cond.code yX1_may cX1_may 2 (some .int), Cond.fieldLink RX1 7 "SeedMakers$Board" "grid" "LSeedMakers$Grid;", Cond.fieldLink RX1 42 "SeedMakers$Grid" "allSymbols" "I", Cond.fieldLink RX1 26 "SeedMakers$Board" "inRow" "[I", Cond.fieldLink RX1 45 "SeedMakers$Grid" "row" "[I", Cond.fieldLink RX1 29 "SeedMakers$Board" "inColumn" "[I", Cond.fieldLink RX1 48 "SeedMakers$Grid" "column" "[I", Cond.fieldLink RX1 32 "SeedMakers$Board" "inBox" "[I"]
def wsX8_search_r2 : List Cond := [Cond.fieldLink RX1 51 "SeedMakers$Grid" "box" "[I", Cond.methodLink RX8 70 yJ6_bitCount_0f7a4, Cond.static yJ6_bitCount_0f7a4, Cond.initialized RJ6, Cond.code yJ6_bitCount_0f7a4 cJ6_bitCount_0f7a4 1 (some .int), Cond.constant RJ6 265 (1431655765), Cond.constant RJ6 266 (858993459), Cond.constant RJ6 267 (252645135), Cond.methodLink RX8 60 yX1_put, Cond.instanceMethod yX1_put, Cond.selects RX1 yX1_put yX1_put, Cond.code yX1_put cX1_put 3 none, Cond.fieldLink RX1 19 "SeedMakers$Board" "symbols" "[I", Cond.methodLink RX1 54 yX1_flip, Cond.instanceMethod yX1_flip, Cond.selects RX1 yX1_flip yX1_flip, Cond.code yX1_flip cX1_flip 3 none, Cond.methodLink RX8 42 yX8_search, Cond.instanceMethod yX8_search, Cond.selects RX8 yX8_search yX8_search, Cond.methodLink RX8 64 yX1_takeOut, Cond.instanceMethod yX1_takeOut, Cond.selects RX1 yX1_takeOut yX1_takeOut, Cond.code yX1_takeOut cX1_takeOut 3 none]
def wsX8_search : List Cond := .code yX8_search cX8_search 6 none :: ((wsX8_search_r1 ++ wsX8_search_r2) ++ wsX80 ++ wsX10 ++ wsX40)
def wsX8_count_r1 : List Cond := [Cond.fieldLink RX8 21 "SeedMakers$Solver" "board" "LSeedMakers$Board;", Cond.fieldLink RX8 30 "SeedMakers$Solver" "open" "[I", Cond.fieldLink RX8 7 "SeedMakers$Solver" "limit" "I", Cond.fieldLink RX8 13 "SeedMakers$Solver" "found" "I", Cond.methodLink RX8 34 yX1_putAll, Cond.instanceMethod yX1_putAll, Cond.selects RX1 yX1_putAll yX1_putAll, Cond.initialized RX1, Cond.code yX1_putAll cX1_putAll 3 none, Cond.fieldLink RX1 7 "SeedMakers$Board" "grid" "LSeedMakers$Grid;", Cond.fieldLink RX1 13 "SeedMakers$Grid" "cells" "I", Cond.methodLink RX1 35 yX1_clear, Cond.instanceMethod yX1_clear, Cond.selects RX1 yX1_clear yX1_clear, Cond.code yX1_clear cX1_clear 2 none, Cond.fieldLink RX1 19 "SeedMakers$Board" "symbols" "[I", Cond.fieldLink RX1 23 "SeedMakers$Grid" "side" "I", Cond.fieldLink RX1 26 "SeedMakers$Board" "inRow" "[I", Cond.fieldLink RX1 29 "SeedMakers$Board" "inColumn" "[I", Cond.fieldLink RX1 32 "SeedMakers$Board" "inBox" "[I", Cond.methodLink RX1 38 yX1_put, Cond.instanceMethod yX1_put, Cond.selects RX1 yX1_put yX1_put, Cond.code yX1_put cX1_put 3 none]
def wsX8_count_r2 : List Cond := [Cond.methodLink RX1 54 yX1_flip, Cond.instanceMethod yX1_flip, Cond.selects RX1 yX1_flip yX1_flip, Cond.code yX1_flip cX1_flip 3 none, Cond.fieldLink RX1 45 "SeedMakers$Grid" "row" "[I", Cond.fieldLink RX1 48 "SeedMakers$Grid" "column" "[I", Cond.fieldLink RX1 51 "SeedMakers$Grid" "box" "[I", Cond.methodLink RX8 38 yX1_isEmpty, Cond.instanceMethod yX1_isEmpty, Cond.selects RX1 yX1_isEmpty yX1_isEmpty, Cond.code yX1_isEmpty cX1_isEmpty 2 (some .boolean), Cond.methodLink RX8 42 yX8_search, Cond.instanceMethod yX8_search, Cond.selects RX8 yX8_search yX8_search, Cond.initialized RX8, Cond.code yX8_search cX8_search 6 none, Cond.fieldLink RX8 53 "SeedMakers$Board" "grid" "LSeedMakers$Grid;", Cond.fieldLink RX8 57 "SeedMakers$Grid" "side" "I", Cond.methodLink RX8 46 yX8_tightest, Cond.instanceMethod yX8_tightest, Cond.selects RX8 yX8_tightest yX8_tightest, Cond.code yX8_tightest cX8_tightest 6 (some .int), Cond.constant RX8 69 (2147483647), Cond.methodLink RX8 50 yX1_may]
def wsX8_count_r3 : List Cond := [Cond.instanceMethod yX1_may, Cond.selects RX1 yX1_may yX1_may, Cond.code yX1_may cX1_may 2 (some .int), Cond.fieldLink RX1 42 "SeedMakers$Grid" "allSymbols" "I", Cond.methodLink RX8 70 yJ6_bitCount_0f7a4, Cond.static yJ6_bitCount_0f7a4, Cond.initialized RJ6, Cond.code yJ6_bitCount_0f7a4 cJ6_bitCount_0f7a4 1 (some .int), Cond.constant RJ6 265 (1431655765), Cond.constant RJ6 266 (858993459), Cond.constant RJ6 267 (252645135), Cond.methodLink RX8 60 yX1_put, Cond.methodLink RX8 64 yX1_takeOut, Cond.instanceMethod yX1_takeOut, Cond.selects RX1 yX1_takeOut yX1_takeOut, Cond.code yX1_takeOut cX1_takeOut 3 none]
def wsX8_count : List Cond := .code yX8_count cX8_count 5 (some .int) :: ((wsX8_count_r1 ++ (wsX8_count_r2 ++ wsX8_count_r3)) ++ wsX80 ++ wsX10 ++ wsX40)
def wsX5_takeOutEmptySets_r1 : List Cond := [Cond.fieldLink RX5 32 "SeedMakers$Maker" "grid" "LSeedMakers$Grid;", Cond.fieldLink RX5 80 "SeedMakers$Grid" "cells" "I", Cond.fieldLink RX5 91 "SeedMakers$Maker" "marked" "[Z", Cond.fieldLink RX5 36 "SeedMakers$Maker" "sets" "LSeedMakers$Sets;", Cond.fieldLink RX5 158 "SeedMakers$Sets" "leastOf" "[I", Cond.fieldLink RX5 40 "SeedMakers$Maker" "themes" "[I", Cond.fieldLink RX5 88 "SeedMakers$Maker" "givens" "[I", Cond.fieldLink RX5 76 "SeedMakers$Maker" "solver" "LSeedMakers$Solver;", Cond.methodLink RX5 155 yX5_markSetsWith, Cond.instanceMethod yX5_markSetsWith, Cond.selects RX5 yX5_markSetsWith yX5_markSetsWith, Cond.initialized RX5, Cond.code yX5_markSetsWith cX5_markSetsWith 3 none, Cond.methodLink RX5 163 yX8_count, Cond.instanceMethod yX8_count, Cond.selects RX8 yX8_count yX8_count, Cond.initialized RX8, Cond.code yX8_count cX8_count 5 (some .int), Cond.fieldLink RX8 21 "SeedMakers$Solver" "board" "LSeedMakers$Board;", Cond.fieldLink RX8 30 "SeedMakers$Solver" "open" "[I", Cond.fieldLink RX8 7 "SeedMakers$Solver" "limit" "I", Cond.fieldLink RX8 13 "SeedMakers$Solver" "found" "I", Cond.methodLink RX8 34 yX1_putAll, Cond.instanceMethod yX1_putAll]
def wsX5_takeOutEmptySets_r2 : List Cond := [Cond.selects RX1 yX1_putAll yX1_putAll, Cond.initialized RX1, Cond.code yX1_putAll cX1_putAll 3 none, Cond.fieldLink RX1 7 "SeedMakers$Board" "grid" "LSeedMakers$Grid;", Cond.fieldLink RX1 13 "SeedMakers$Grid" "cells" "I", Cond.methodLink RX1 35 yX1_clear, Cond.instanceMethod yX1_clear, Cond.selects RX1 yX1_clear yX1_clear, Cond.code yX1_clear cX1_clear 2 none, Cond.fieldLink RX1 19 "SeedMakers$Board" "symbols" "[I", Cond.fieldLink RX1 23 "SeedMakers$Grid" "side" "I", Cond.fieldLink RX1 26 "SeedMakers$Board" "inRow" "[I", Cond.fieldLink RX1 29 "SeedMakers$Board" "inColumn" "[I", Cond.fieldLink RX1 32 "SeedMakers$Board" "inBox" "[I", Cond.methodLink RX1 38 yX1_put, Cond.instanceMethod yX1_put, Cond.selects RX1 yX1_put yX1_put, Cond.code yX1_put cX1_put 3 none, Cond.methodLink RX1 54 yX1_flip, Cond.instanceMethod yX1_flip, Cond.selects RX1 yX1_flip yX1_flip, Cond.code yX1_flip cX1_flip 3 none, Cond.fieldLink RX1 45 "SeedMakers$Grid" "row" "[I", Cond.fieldLink RX1 48 "SeedMakers$Grid" "column" "[I"]
def wsX5_takeOutEmptySets_r3 : List Cond := [Cond.fieldLink RX1 51 "SeedMakers$Grid" "box" "[I", Cond.methodLink RX8 38 yX1_isEmpty, Cond.instanceMethod yX1_isEmpty, Cond.selects RX1 yX1_isEmpty yX1_isEmpty, Cond.code yX1_isEmpty cX1_isEmpty 2 (some .boolean), Cond.methodLink RX8 42 yX8_search, Cond.instanceMethod yX8_search, Cond.selects RX8 yX8_search yX8_search, Cond.code yX8_search cX8_search 6 none, Cond.fieldLink RX8 53 "SeedMakers$Board" "grid" "LSeedMakers$Grid;", Cond.fieldLink RX8 57 "SeedMakers$Grid" "side" "I", Cond.methodLink RX8 46 yX8_tightest, Cond.instanceMethod yX8_tightest, Cond.selects RX8 yX8_tightest yX8_tightest, Cond.code yX8_tightest cX8_tightest 6 (some .int), Cond.constant RX8 69 (2147483647), Cond.methodLink RX8 50 yX1_may, Cond.instanceMethod yX1_may, Cond.selects RX1 yX1_may yX1_may, Cond.code yX1_may cX1_may 2 (some .int), Cond.fieldLink RX1 42 "SeedMakers$Grid" "allSymbols" "I", Cond.methodLink RX8 70 yJ6_bitCount_0f7a4, Cond.static yJ6_bitCount_0f7a4, Cond.initialized RJ6]
def wsX5_takeOutEmptySets_r4 : List Cond := [Cond.code yJ6_bitCount_0f7a4 cJ6_bitCount_0f7a4 1 (some .int), Cond.constant RJ6 265 (1431655765), Cond.constant RJ6 266 (858993459), Cond.constant RJ6 267 (252645135), Cond.methodLink RX8 60 yX1_put, Cond.methodLink RX8 64 yX1_takeOut, Cond.instanceMethod yX1_takeOut, Cond.selects RX1 yX1_takeOut yX1_takeOut, Cond.code yX1_takeOut cX1_takeOut 3 none]
def wsX5_takeOutEmptySets : List Cond := .code yX5_takeOutEmptySets cX5_takeOutEmptySets 2 (some .boolean) :: ((wsX5_takeOutEmptySets_r1 ++ (wsX5_takeOutEmptySets_r2 ++ (wsX5_takeOutEmptySets_r3 ++ wsX5_takeOutEmptySets_r4))) ++ wsX50 ++ wsX40 ++ wsX60 ++ wsX80 ++ wsX10)
def wsX5_layRow : List Cond := .code yX5_layRow cX5_layRow 3 (some .int) :: ([.fieldLink RX5 32 "SeedMakers$Maker" "grid" "LSeedMakers$Grid;", .fieldLink RX5 80 "SeedMakers$Grid" "cells" "I", .fieldLink RX5 36 "SeedMakers$Maker" "sets" "LSeedMakers$Sets;", .fieldLink RX5 158 "SeedMakers$Sets" "leastOf" "[I", .fieldLink RX5 88 "SeedMakers$Maker" "givens" "[I", .fieldLink RX5 91 "SeedMakers$Maker" "marked" "[Z", .fieldLink RX5 95 "SeedMakers$Maker" "row" "[I", .methodLink RX5 155 yX5_markSetsWith, .instanceMethod yX5_markSetsWith, .selects RX5 yX5_markSetsWith yX5_markSetsWith, .initialized RX5, .code yX5_markSetsWith cX5_markSetsWith 3 none, .fieldLink RX5 40 "SeedMakers$Maker" "themes" "[I"] ++ wsX50 ++ wsX40 ++ wsX60)
def wsX5_mixRow : List Cond := .code yX5_mixRow cX5_mixRow 5 none :: ([.fieldLink RX5 51 "SeedMakers$Maker" "chance" "LSeedMakers$Chance;", .fieldLink RX5 95 "SeedMakers$Maker" "row" "[I", .methodLink RX5 167 yX2_below, .instanceMethod yX2_below, .selects RX2 yX2_below yX2_below, .initialized RX2, .code yX2_below cX2_below 2 (some .int), .constantLong RX2 13 (6364136223846793005), .fieldLink RX2 7 "SeedMakers$Chance" "state" "J", .constantLong RX2 15 (1442695040888963407), .methodLink RX2 17 yX2_upperBits, .instanceMethod yX2_upperBits, .selects RX2 yX2_upperBits yX2_upperBits, .code yX2_upperBits cX2_upperBits 1 (some .int)] ++ wsX50 ++ wsX20)
def wsX5_needsSet_r1 : List Cond := [Cond.fieldLink RX5 32 "SeedMakers$Maker" "grid" "LSeedMakers$Grid;", Cond.fieldLink RX5 80 "SeedMakers$Grid" "cells" "I", Cond.fieldLink RX5 36 "SeedMakers$Maker" "sets" "LSeedMakers$Sets;", Cond.fieldLink RX5 158 "SeedMakers$Sets" "leastOf" "[I", Cond.fieldLink RX5 88 "SeedMakers$Maker" "givens" "[I", Cond.fieldLink RX5 98 "SeedMakers$Maker" "without" "[I", Cond.fieldLink RX5 76 "SeedMakers$Maker" "solver" "LSeedMakers$Solver;", Cond.methodLink RX5 163 yX8_count, Cond.instanceMethod yX8_count, Cond.selects RX8 yX8_count yX8_count, Cond.initialized RX8, Cond.code yX8_count cX8_count 5 (some .int), Cond.fieldLink RX8 21 "SeedMakers$Solver" "board" "LSeedMakers$Board;", Cond.fieldLink RX8 30 "SeedMakers$Solver" "open" "[I", Cond.fieldLink RX8 7 "SeedMakers$Solver" "limit" "I", Cond.fieldLink RX8 13 "SeedMakers$Solver" "found" "I", Cond.methodLink RX8 34 yX1_putAll, Cond.instanceMethod yX1_putAll, Cond.selects RX1 yX1_putAll yX1_putAll, Cond.initialized RX1, Cond.code yX1_putAll cX1_putAll 3 none, Cond.fieldLink RX1 7 "SeedMakers$Board" "grid" "LSeedMakers$Grid;", Cond.fieldLink RX1 13 "SeedMakers$Grid" "cells" "I", Cond.methodLink RX1 35 yX1_clear]
def wsX5_needsSet_r2 : List Cond := [Cond.instanceMethod yX1_clear, Cond.selects RX1 yX1_clear yX1_clear, Cond.code yX1_clear cX1_clear 2 none, Cond.fieldLink RX1 19 "SeedMakers$Board" "symbols" "[I", Cond.fieldLink RX1 23 "SeedMakers$Grid" "side" "I", Cond.fieldLink RX1 26 "SeedMakers$Board" "inRow" "[I", Cond.fieldLink RX1 29 "SeedMakers$Board" "inColumn" "[I", Cond.fieldLink RX1 32 "SeedMakers$Board" "inBox" "[I", Cond.methodLink RX1 38 yX1_put, Cond.instanceMethod yX1_put, Cond.selects RX1 yX1_put yX1_put, Cond.code yX1_put cX1_put 3 none, Cond.methodLink RX1 54 yX1_flip, Cond.instanceMethod yX1_flip, Cond.selects RX1 yX1_flip yX1_flip, Cond.code yX1_flip cX1_flip 3 none, Cond.fieldLink RX1 45 "SeedMakers$Grid" "row" "[I", Cond.fieldLink RX1 48 "SeedMakers$Grid" "column" "[I", Cond.fieldLink RX1 51 "SeedMakers$Grid" "box" "[I", Cond.methodLink RX8 38 yX1_isEmpty, Cond.instanceMethod yX1_isEmpty, Cond.selects RX1 yX1_isEmpty yX1_isEmpty, Cond.code yX1_isEmpty cX1_isEmpty 2 (some .boolean), Cond.methodLink RX8 42 yX8_search]
def wsX5_needsSet_r3 : List Cond := [Cond.instanceMethod yX8_search, Cond.selects RX8 yX8_search yX8_search, Cond.code yX8_search cX8_search 6 none, Cond.fieldLink RX8 53 "SeedMakers$Board" "grid" "LSeedMakers$Grid;", Cond.fieldLink RX8 57 "SeedMakers$Grid" "side" "I", Cond.methodLink RX8 46 yX8_tightest, Cond.instanceMethod yX8_tightest, Cond.selects RX8 yX8_tightest yX8_tightest, Cond.code yX8_tightest cX8_tightest 6 (some .int), Cond.constant RX8 69 (2147483647), Cond.methodLink RX8 50 yX1_may, Cond.instanceMethod yX1_may, Cond.selects RX1 yX1_may yX1_may, Cond.code yX1_may cX1_may 2 (some .int), Cond.fieldLink RX1 42 "SeedMakers$Grid" "allSymbols" "I", Cond.methodLink RX8 70 yJ6_bitCount_0f7a4, Cond.static yJ6_bitCount_0f7a4, Cond.initialized RJ6, Cond.code yJ6_bitCount_0f7a4 cJ6_bitCount_0f7a4 1 (some .int), Cond.constant RJ6 265 (1431655765), Cond.constant RJ6 266 (858993459), Cond.constant RJ6 267 (252645135), Cond.methodLink RX8 60 yX1_put, Cond.methodLink RX8 64 yX1_takeOut]
def wsX5_needsSet_r4 : List Cond := [Cond.instanceMethod yX1_takeOut, Cond.selects RX1 yX1_takeOut yX1_takeOut, Cond.code yX1_takeOut cX1_takeOut 3 none]
def wsX5_needsSet : List Cond := .code yX5_needsSet cX5_needsSet 5 (some .boolean) :: ((wsX5_needsSet_r1 ++ (wsX5_needsSet_r2 ++ (wsX5_needsSet_r3 ++ wsX5_needsSet_r4))) ++ wsX50 ++ wsX40 ++ wsX60 ++ wsX80 ++ wsX10)
def wsX5_countGivens : List Cond := .code yX5_countGivens cX5_countGivens 3 (some .int) :: ([.fieldLink RX5 32 "SeedMakers$Maker" "grid" "LSeedMakers$Grid;", .fieldLink RX5 80 "SeedMakers$Grid" "cells" "I", .fieldLink RX5 88 "SeedMakers$Maker" "givens" "[I"] ++ wsX50 ++ wsX40)
def wsX7_fillLoneSymbols_r1 : List Cond := [Cond.fieldLink RX7 7 "SeedMakers$Singles" "grid" "LSeedMakers$Grid;", Cond.fieldLink RX7 26 "SeedMakers$Grid" "cells" "I", Cond.fieldLink RX7 18 "SeedMakers$Singles" "board" "LSeedMakers$Board;", Cond.methodLink RX7 39 yX1_isEmpty, Cond.instanceMethod yX1_isEmpty, Cond.selects RX1 yX1_isEmpty yX1_isEmpty, Cond.initialized RX1, Cond.code yX1_isEmpty cX1_isEmpty 2 (some .boolean), Cond.fieldLink RX1 19 "SeedMakers$Board" "symbols" "[I", Cond.methodLink RX7 43 yX1_may, Cond.instanceMethod yX1_may, Cond.selects RX1 yX1_may yX1_may, Cond.code yX1_may cX1_may 2 (some .int), Cond.fieldLink RX1 7 "SeedMakers$Board" "grid" "LSeedMakers$Grid;", Cond.fieldLink RX1 42 "SeedMakers$Grid" "allSymbols" "I", Cond.fieldLink RX1 26 "SeedMakers$Board" "inRow" "[I", Cond.fieldLink RX1 45 "SeedMakers$Grid" "row" "[I", Cond.fieldLink RX1 29 "SeedMakers$Board" "inColumn" "[I", Cond.fieldLink RX1 48 "SeedMakers$Grid" "column" "[I", Cond.fieldLink RX1 32 "SeedMakers$Board" "inBox" "[I", Cond.fieldLink RX1 51 "SeedMakers$Grid" "box" "[I", Cond.methodLink RX7 47 yJ6_bitCount_0f7a4, Cond.static yJ6_bitCount_0f7a4, Cond.initialized RJ6]
def wsX7_fillLoneSymbols_r2 : List Cond := [Cond.code yJ6_bitCount_0f7a4 cJ6_bitCount_0f7a4 1 (some .int), Cond.constant RJ6 265 (1431655765), Cond.constant RJ6 266 (858993459), Cond.constant RJ6 267 (252645135), Cond.methodLink RX7 52 yJ6_numberOfTrailingZeros_0f7a4, Cond.static yJ6_numberOfTrailingZeros_0f7a4, Cond.code yJ6_numberOfTrailingZeros_0f7a4 cJ6_numberOfTrailingZeros_0f7a4 2 (some .int), Cond.constant RJ6 264 (65536), Cond.methodLink RX7 55 yX1_put, Cond.instanceMethod yX1_put, Cond.selects RX1 yX1_put yX1_put, Cond.code yX1_put cX1_put 3 none, Cond.methodLink RX1 54 yX1_flip, Cond.instanceMethod yX1_flip, Cond.selects RX1 yX1_flip yX1_flip, Cond.code yX1_flip cX1_flip 3 none]
def wsX7_fillLoneSymbols : List Cond := .code yX7_fillLoneSymbols cX7_fillLoneSymbols 4 (some .boolean) :: ((wsX7_fillLoneSymbols_r1 ++ wsX7_fillLoneSymbols_r2) ++ wsX70 ++ wsX40 ++ wsX10)
def wsX7_symbolsOfOneCell : List Cond := .code yX7_symbolsOfOneCell cX7_symbolsOfOneCell 6 (some .int) :: ([.fieldLink RX7 18 "SeedMakers$Singles" "board" "LSeedMakers$Board;", .methodLink RX7 39 yX1_isEmpty, .instanceMethod yX1_isEmpty, .selects RX1 yX1_isEmpty yX1_isEmpty, .initialized RX1, .code yX1_isEmpty cX1_isEmpty 2 (some .boolean), .fieldLink RX1 19 "SeedMakers$Board" "symbols" "[I", .methodLink RX7 43 yX1_may, .instanceMethod yX1_may, .selects RX1 yX1_may yX1_may, .code yX1_may cX1_may 2 (some .int), .fieldLink RX1 7 "SeedMakers$Board" "grid" "LSeedMakers$Grid;", .fieldLink RX1 42 "SeedMakers$Grid" "allSymbols" "I", .fieldLink RX1 26 "SeedMakers$Board" "inRow" "[I", .fieldLink RX1 45 "SeedMakers$Grid" "row" "[I", .fieldLink RX1 29 "SeedMakers$Board" "inColumn" "[I", .fieldLink RX1 48 "SeedMakers$Grid" "column" "[I", .fieldLink RX1 32 "SeedMakers$Board" "inBox" "[I", .fieldLink RX1 51 "SeedMakers$Grid" "box" "[I"] ++ wsX70 ++ wsX10 ++ wsX40)
def wsX7_fillFrom_r1 : List Cond := [Cond.fieldLink RX7 18 "SeedMakers$Singles" "board" "LSeedMakers$Board;", Cond.methodLink RX7 39 yX1_isEmpty, Cond.instanceMethod yX1_isEmpty, Cond.selects RX1 yX1_isEmpty yX1_isEmpty, Cond.initialized RX1, Cond.code yX1_isEmpty cX1_isEmpty 2 (some .boolean), Cond.fieldLink RX1 19 "SeedMakers$Board" "symbols" "[I", Cond.methodLink RX7 43 yX1_may, Cond.instanceMethod yX1_may, Cond.selects RX1 yX1_may yX1_may, Cond.code yX1_may cX1_may 2 (some .int), Cond.fieldLink RX1 7 "SeedMakers$Board" "grid" "LSeedMakers$Grid;", Cond.fieldLink RX1 42 "SeedMakers$Grid" "allSymbols" "I", Cond.fieldLink RX1 26 "SeedMakers$Board" "inRow" "[I", Cond.fieldLink RX1 45 "SeedMakers$Grid" "row" "[I", Cond.fieldLink RX1 29 "SeedMakers$Board" "inColumn" "[I", Cond.fieldLink RX1 48 "SeedMakers$Grid" "column" "[I", Cond.fieldLink RX1 32 "SeedMakers$Board" "inBox" "[I", Cond.fieldLink RX1 51 "SeedMakers$Grid" "box" "[I", Cond.methodLink RX7 52 yJ6_numberOfTrailingZeros_0f7a4, Cond.static yJ6_numberOfTrailingZeros_0f7a4, Cond.initialized RJ6, Cond.code yJ6_numberOfTrailingZeros_0f7a4 cJ6_numberOfTrailingZeros_0f7a4 2 (some .int), Cond.constant RJ6 264 (65536)]
def wsX7_fillFrom_r2 : List Cond := [Cond.methodLink RX7 55 yX1_put, Cond.instanceMethod yX1_put, Cond.selects RX1 yX1_put yX1_put, Cond.code yX1_put cX1_put 3 none, Cond.methodLink RX1 54 yX1_flip, Cond.instanceMethod yX1_flip, Cond.selects RX1 yX1_flip yX1_flip, Cond.code yX1_flip cX1_flip 3 none]
def wsX7_fillFrom : List Cond := .code yX7_fillFrom cX7_fillFrom 6 (some .boolean) :: ((wsX7_fillFrom_r1 ++ wsX7_fillFrom_r2) ++ wsX70 ++ wsX10 ++ wsX40)
def wsX7_fillLoneCells_r1 : List Cond := [Cond.fieldLink RX7 7 "SeedMakers$Singles" "grid" "LSeedMakers$Grid;", Cond.fieldLink RX7 59 "SeedMakers$Grid" "units" "[[I", Cond.methodLink RX7 63 yX7_symbolsOfOneCell, Cond.instanceMethod yX7_symbolsOfOneCell, Cond.selects RX7 yX7_symbolsOfOneCell yX7_symbolsOfOneCell, Cond.initialized RX7, Cond.code yX7_symbolsOfOneCell cX7_symbolsOfOneCell 6 (some .int), Cond.fieldLink RX7 18 "SeedMakers$Singles" "board" "LSeedMakers$Board;", Cond.methodLink RX7 39 yX1_isEmpty, Cond.instanceMethod yX1_isEmpty, Cond.selects RX1 yX1_isEmpty yX1_isEmpty, Cond.initialized RX1, Cond.code yX1_isEmpty cX1_isEmpty 2 (some .boolean), Cond.fieldLink RX1 19 "SeedMakers$Board" "symbols" "[I", Cond.methodLink RX7 43 yX1_may, Cond.instanceMethod yX1_may, Cond.selects RX1 yX1_may yX1_may, Cond.code yX1_may cX1_may 2 (some .int), Cond.fieldLink RX1 7 "SeedMakers$Board" "grid" "LSeedMakers$Grid;", Cond.fieldLink RX1 42 "SeedMakers$Grid" "allSymbols" "I", Cond.fieldLink RX1 26 "SeedMakers$Board" "inRow" "[I", Cond.fieldLink RX1 45 "SeedMakers$Grid" "row" "[I", Cond.fieldLink RX1 29 "SeedMakers$Board" "inColumn" "[I", Cond.fieldLink RX1 48 "SeedMakers$Grid" "column" "[I"]
def wsX7_fillLoneCells_r2 : List Cond := [Cond.fieldLink RX1 32 "SeedMakers$Board" "inBox" "[I", Cond.fieldLink RX1 51 "SeedMakers$Grid" "box" "[I", Cond.methodLink RX7 67 yX7_fillFrom, Cond.instanceMethod yX7_fillFrom, Cond.selects RX7 yX7_fillFrom yX7_fillFrom, Cond.code yX7_fillFrom cX7_fillFrom 6 (some .boolean), Cond.methodLink RX7 52 yJ6_numberOfTrailingZeros_0f7a4, Cond.static yJ6_numberOfTrailingZeros_0f7a4, Cond.initialized RJ6, Cond.code yJ6_numberOfTrailingZeros_0f7a4 cJ6_numberOfTrailingZeros_0f7a4 2 (some .int), Cond.constant RJ6 264 (65536), Cond.methodLink RX7 55 yX1_put, Cond.instanceMethod yX1_put, Cond.selects RX1 yX1_put yX1_put, Cond.code yX1_put cX1_put 3 none, Cond.methodLink RX1 54 yX1_flip, Cond.instanceMethod yX1_flip, Cond.selects RX1 yX1_flip yX1_flip, Cond.code yX1_flip cX1_flip 3 none]
def wsX7_fillLoneCells : List Cond := .code yX7_fillLoneCells cX7_fillLoneCells 4 (some .boolean) :: ((wsX7_fillLoneCells_r1 ++ wsX7_fillLoneCells_r2) ++ wsX70 ++ wsX40 ++ wsX10)
def wsX7_countUnknown_r1 : List Cond := [Cond.fieldLink RX7 18 "SeedMakers$Singles" "board" "LSeedMakers$Board;", Cond.fieldLink RX7 7 "SeedMakers$Singles" "grid" "LSeedMakers$Grid;", Cond.fieldLink RX7 26 "SeedMakers$Grid" "cells" "I", Cond.methodLink RX7 22 yX1_putAll, Cond.instanceMethod yX1_putAll, Cond.selects RX1 yX1_putAll yX1_putAll, Cond.initialized RX1, Cond.code yX1_putAll cX1_putAll 3 none, Cond.fieldLink RX1 7 "SeedMakers$Board" "grid" "LSeedMakers$Grid;", Cond.fieldLink RX1 13 "SeedMakers$Grid" "cells" "I", Cond.methodLink RX1 35 yX1_clear, Cond.instanceMethod yX1_clear, Cond.selects RX1 yX1_clear yX1_clear, Cond.code yX1_clear cX1_clear 2 none, Cond.fieldLink RX1 19 "SeedMakers$Board" "symbols" "[I", Cond.fieldLink RX1 23 "SeedMakers$Grid" "side" "I", Cond.fieldLink RX1 26 "SeedMakers$Board" "inRow" "[I", Cond.fieldLink RX1 29 "SeedMakers$Board" "inColumn" "[I", Cond.fieldLink RX1 32 "SeedMakers$Board" "inBox" "[I", Cond.methodLink RX1 38 yX1_put, Cond.instanceMethod yX1_put, Cond.selects RX1 yX1_put yX1_put, Cond.code yX1_put cX1_put 3 none, Cond.methodLink RX1 54 yX1_flip]
def wsX7_countUnknown_r2 : List Cond := [Cond.instanceMethod yX1_flip, Cond.selects RX1 yX1_flip yX1_flip, Cond.code yX1_flip cX1_flip 3 none, Cond.fieldLink RX1 45 "SeedMakers$Grid" "row" "[I", Cond.fieldLink RX1 48 "SeedMakers$Grid" "column" "[I", Cond.fieldLink RX1 51 "SeedMakers$Grid" "box" "[I", Cond.methodLink RX7 32 yX7_fillLoneSymbols, Cond.instanceMethod yX7_fillLoneSymbols, Cond.selects RX7 yX7_fillLoneSymbols yX7_fillLoneSymbols, Cond.initialized RX7, Cond.code yX7_fillLoneSymbols cX7_fillLoneSymbols 4 (some .boolean), Cond.methodLink RX7 39 yX1_isEmpty, Cond.instanceMethod yX1_isEmpty, Cond.selects RX1 yX1_isEmpty yX1_isEmpty, Cond.code yX1_isEmpty cX1_isEmpty 2 (some .boolean), Cond.methodLink RX7 43 yX1_may, Cond.instanceMethod yX1_may, Cond.selects RX1 yX1_may yX1_may, Cond.code yX1_may cX1_may 2 (some .int), Cond.fieldLink RX1 42 "SeedMakers$Grid" "allSymbols" "I", Cond.methodLink RX7 47 yJ6_bitCount_0f7a4, Cond.static yJ6_bitCount_0f7a4, Cond.initialized RJ6, Cond.code yJ6_bitCount_0f7a4 cJ6_bitCount_0f7a4 1 (some .int)]
def wsX7_countUnknown_r3 : List Cond := [Cond.constant RJ6 265 (1431655765), Cond.constant RJ6 266 (858993459), Cond.constant RJ6 267 (252645135), Cond.methodLink RX7 52 yJ6_numberOfTrailingZeros_0f7a4, Cond.static yJ6_numberOfTrailingZeros_0f7a4, Cond.code yJ6_numberOfTrailingZeros_0f7a4 cJ6_numberOfTrailingZeros_0f7a4 2 (some .int), Cond.constant RJ6 264 (65536), Cond.methodLink RX7 55 yX1_put, Cond.methodLink RX7 36 yX7_fillLoneCells, Cond.instanceMethod yX7_fillLoneCells, Cond.selects RX7 yX7_fillLoneCells yX7_fillLoneCells, Cond.code yX7_fillLoneCells cX7_fillLoneCells 4 (some .boolean), Cond.fieldLink RX7 59 "SeedMakers$Grid" "units" "[[I", Cond.methodLink RX7 63 yX7_symbolsOfOneCell, Cond.instanceMethod yX7_symbolsOfOneCell, Cond.selects RX7 yX7_symbolsOfOneCell yX7_symbolsOfOneCell, Cond.code yX7_symbolsOfOneCell cX7_symbolsOfOneCell 6 (some .int), Cond.methodLink RX7 67 yX7_fillFrom, Cond.instanceMethod yX7_fillFrom, Cond.selects RX7 yX7_fillFrom yX7_fillFrom, Cond.code yX7_fillFrom cX7_fillFrom 6 (some .boolean)]
def wsX7_countUnknown : List Cond := .code yX7_countUnknown cX7_countUnknown 6 (some .int) :: ((wsX7_countUnknown_r1 ++ (wsX7_countUnknown_r2 ++ wsX7_countUnknown_r3)) ++ wsX70 ++ wsX40 ++ wsX10)
def wsX5_tryOnce_r1 : List Cond := [Cond.fieldLink RX5 13 "SeedMakers$Maker" "triesMade" "I", Cond.fieldLink RX5 20 "SeedMakers$Maker" "takenOut" "I", Cond.fieldLink RX5 95 "SeedMakers$Maker" "row" "[I", Cond.fieldLink RX5 23 "SeedMakers$Maker" "putBack" "I", Cond.fieldLink RX5 98 "SeedMakers$Maker" "without" "[I", Cond.fieldLink RX5 88 "SeedMakers$Maker" "givens" "[I", Cond.methodLink RX5 124 arraycopyName, Cond.native arraycopyName, Cond.static arraycopyName, Cond.initialized "java/lang/System", Cond.fieldLink RX5 26 "SeedMakers$Maker" "givenCells" "I", Cond.fieldLink RX5 69 "SeedMakers$Maker" "singles" "LSeedMakers$Singles;", Cond.fieldLink RX5 29 "SeedMakers$Maker" "unknownCells" "I", Cond.fieldLink RX5 44 "SeedMakers$Maker" "aimed" "LSeedMakers$Aim;", Cond.fieldLink RX5 7 "SeedMakers$Maker" "made" "Z", Cond.methodLink RX5 105 yX5_drawWhole, Cond.instanceMethod yX5_drawWhole, Cond.selects RX5 yX5_drawWhole yX5_drawWhole, Cond.initialized RX5, Cond.code yX5_drawWhole cX5_drawWhole 3 (some .boolean), Cond.fieldLink RX5 60 "SeedMakers$Maker" "drawer" "LSeedMakers$Drawer;", Cond.fieldLink RX5 17 "SeedMakers$Maker" "restarts" "I", Cond.fieldLink RX5 146 "SeedMakers$Drawer" "board" "LSeedMakers$Board;", Cond.fieldLink RX5 150 "SeedMakers$Board" "symbols" "[I"]
def wsX5_tryOnce_r2 : List Cond := [Cond.fieldLink RX5 85 "SeedMakers$Maker" "whole" "[I", Cond.methodLink RX5 143 yX3_fill, Cond.instanceMethod yX3_fill, Cond.selects RX3 yX3_fill yX3_fill, Cond.initialized RX3, Cond.code yX3_fill cX3_fill 5 (some .boolean), Cond.fieldLink RX3 22 "SeedMakers$Drawer" "board" "LSeedMakers$Board;", Cond.fieldLink RX3 7 "SeedMakers$Drawer" "grid" "LSeedMakers$Grid;", Cond.fieldLink RX3 29 "SeedMakers$Grid" "cells" "I", Cond.fieldLink RX3 13 "SeedMakers$Drawer" "chance" "LSeedMakers$Chance;", Cond.methodLink RX3 26 yX1_clear, Cond.instanceMethod yX1_clear, Cond.selects RX1 yX1_clear yX1_clear, Cond.initialized RX1, Cond.code yX1_clear cX1_clear 2 none, Cond.fieldLink RX1 7 "SeedMakers$Board" "grid" "LSeedMakers$Grid;", Cond.fieldLink RX1 13 "SeedMakers$Grid" "cells" "I", Cond.fieldLink RX1 19 "SeedMakers$Board" "symbols" "[I", Cond.fieldLink RX1 23 "SeedMakers$Grid" "side" "I", Cond.fieldLink RX1 26 "SeedMakers$Board" "inRow" "[I", Cond.fieldLink RX1 29 "SeedMakers$Board" "inColumn" "[I", Cond.fieldLink RX1 32 "SeedMakers$Board" "inBox" "[I", Cond.methodLink RX3 35 yX3_tightest, Cond.instanceMethod yX3_tightest]
def wsX5_tryOnce_r3 : List Cond := [Cond.selects RX3 yX3_tightest yX3_tightest, Cond.code yX3_tightest cX3_tightest 5 (some .int), Cond.constant RX3 61 (2147483647), Cond.methodLink RX3 62 yX1_isEmpty, Cond.instanceMethod yX1_isEmpty, Cond.selects RX1 yX1_isEmpty yX1_isEmpty, Cond.code yX1_isEmpty cX1_isEmpty 2 (some .boolean), Cond.methodLink RX3 39 yX1_may, Cond.instanceMethod yX1_may, Cond.selects RX1 yX1_may yX1_may, Cond.code yX1_may cX1_may 2 (some .int), Cond.fieldLink RX1 42 "SeedMakers$Grid" "allSymbols" "I", Cond.fieldLink RX1 45 "SeedMakers$Grid" "row" "[I", Cond.fieldLink RX1 48 "SeedMakers$Grid" "column" "[I", Cond.fieldLink RX1 51 "SeedMakers$Grid" "box" "[I", Cond.methodLink RX3 43 yJ6_bitCount_0f7a4, Cond.static yJ6_bitCount_0f7a4, Cond.initialized RJ6, Cond.code yJ6_bitCount_0f7a4 cJ6_bitCount_0f7a4 1 (some .int), Cond.constant RJ6 265 (1431655765), Cond.constant RJ6 266 (858993459), Cond.constant RJ6 267 (252645135), Cond.methodLink RX3 48 yX2_below, Cond.instanceMethod yX2_below]
def wsX5_tryOnce_r4 : List Cond := [Cond.selects RX2 yX2_below yX2_below, Cond.initialized RX2, Cond.code yX2_below cX2_below 2 (some .int), Cond.constantLong RX2 13 (6364136223846793005), Cond.fieldLink RX2 7 "SeedMakers$Chance" "state" "J", Cond.constantLong RX2 15 (1442695040888963407), Cond.methodLink RX2 17 yX2_upperBits, Cond.instanceMethod yX2_upperBits, Cond.selects RX2 yX2_upperBits yX2_upperBits, Cond.code yX2_upperBits cX2_upperBits 1 (some .int), Cond.methodLink RX3 53 yX3_symbolAt, Cond.static yX3_symbolAt, Cond.code yX3_symbolAt cX3_symbolAt 4 (some .int), Cond.methodLink RX3 66 yJ6_numberOfTrailingZeros_0f7a4, Cond.static yJ6_numberOfTrailingZeros_0f7a4, Cond.code yJ6_numberOfTrailingZeros_0f7a4 cJ6_numberOfTrailingZeros_0f7a4 2 (some .int), Cond.constant RJ6 264 (65536), Cond.methodLink RX3 57 yX1_put, Cond.instanceMethod yX1_put, Cond.selects RX1 yX1_put yX1_put, Cond.code yX1_put cX1_put 3 none, Cond.methodLink RX1 54 yX1_flip, Cond.instanceMethod yX1_flip, Cond.selects RX1 yX1_flip yX1_flip]
def wsX5_tryOnce_r5 : List Cond := [Cond.code yX1_flip cX1_flip 3 none, Cond.methodLink RX5 109 yX5_takeOutEmptySets, Cond.instanceMethod yX5_takeOutEmptySets, Cond.selects RX5 yX5_takeOutEmptySets yX5_takeOutEmptySets, Cond.code yX5_takeOutEmptySets cX5_takeOutEmptySets 2 (some .boolean), Cond.fieldLink RX5 32 "SeedMakers$Maker" "grid" "LSeedMakers$Grid;", Cond.fieldLink RX5 80 "SeedMakers$Grid" "cells" "I", Cond.fieldLink RX5 91 "SeedMakers$Maker" "marked" "[Z", Cond.fieldLink RX5 36 "SeedMakers$Maker" "sets" "LSeedMakers$Sets;", Cond.fieldLink RX5 158 "SeedMakers$Sets" "leastOf" "[I", Cond.fieldLink RX5 40 "SeedMakers$Maker" "themes" "[I", Cond.fieldLink RX5 76 "SeedMakers$Maker" "solver" "LSeedMakers$Solver;", Cond.methodLink RX5 155 yX5_markSetsWith, Cond.instanceMethod yX5_markSetsWith, Cond.selects RX5 yX5_markSetsWith yX5_markSetsWith, Cond.code yX5_markSetsWith cX5_markSetsWith 3 none, Cond.methodLink RX5 163 yX8_count, Cond.instanceMethod yX8_count, Cond.selects RX8 yX8_count yX8_count, Cond.initialized RX8, Cond.code yX8_count cX8_count 5 (some .int), Cond.fieldLink RX8 21 "SeedMakers$Solver" "board" "LSeedMakers$Board;", Cond.fieldLink RX8 30 "SeedMakers$Solver" "open" "[I", Cond.fieldLink RX8 7 "SeedMakers$Solver" "limit" "I"]
def wsX5_tryOnce_r6 : List Cond := [Cond.fieldLink RX8 13 "SeedMakers$Solver" "found" "I", Cond.methodLink RX8 34 yX1_putAll, Cond.instanceMethod yX1_putAll, Cond.selects RX1 yX1_putAll yX1_putAll, Cond.code yX1_putAll cX1_putAll 3 none, Cond.methodLink RX1 35 yX1_clear, Cond.methodLink RX1 38 yX1_put, Cond.methodLink RX8 38 yX1_isEmpty, Cond.methodLink RX8 42 yX8_search, Cond.instanceMethod yX8_search, Cond.selects RX8 yX8_search yX8_search, Cond.code yX8_search cX8_search 6 none, Cond.fieldLink RX8 53 "SeedMakers$Board" "grid" "LSeedMakers$Grid;", Cond.fieldLink RX8 57 "SeedMakers$Grid" "side" "I", Cond.methodLink RX8 46 yX8_tightest, Cond.instanceMethod yX8_tightest, Cond.selects RX8 yX8_tightest yX8_tightest, Cond.code yX8_tightest cX8_tightest 6 (some .int), Cond.constant RX8 69 (2147483647), Cond.methodLink RX8 50 yX1_may, Cond.methodLink RX8 70 yJ6_bitCount_0f7a4, Cond.methodLink RX8 60 yX1_put, Cond.methodLink RX8 64 yX1_takeOut, Cond.instanceMethod yX1_takeOut]
def wsX5_tryOnce_r7 : List Cond := [Cond.selects RX1 yX1_takeOut yX1_takeOut, Cond.code yX1_takeOut cX1_takeOut 3 none, Cond.methodLink RX5 112 yX5_layRow, Cond.instanceMethod yX5_layRow, Cond.selects RX5 yX5_layRow yX5_layRow, Cond.code yX5_layRow cX5_layRow 3 (some .int), Cond.methodLink RX5 116 yX5_mixRow, Cond.instanceMethod yX5_mixRow, Cond.selects RX5 yX5_mixRow yX5_mixRow, Cond.code yX5_mixRow cX5_mixRow 5 none, Cond.fieldLink RX5 51 "SeedMakers$Maker" "chance" "LSeedMakers$Chance;", Cond.methodLink RX5 167 yX2_below, Cond.methodLink RX5 120 yX5_needsSet, Cond.instanceMethod yX5_needsSet, Cond.selects RX5 yX5_needsSet yX5_needsSet, Cond.code yX5_needsSet cX5_needsSet 5 (some .boolean), Cond.methodLink RX5 130 yX5_countGivens, Cond.instanceMethod yX5_countGivens, Cond.selects RX5 yX5_countGivens yX5_countGivens, Cond.code yX5_countGivens cX5_countGivens 3 (some .int), Cond.methodLink RX5 133 yX7_countUnknown, Cond.instanceMethod yX7_countUnknown, Cond.selects RX7 yX7_countUnknown yX7_countUnknown, Cond.initialized RX7]
def wsX5_tryOnce_r8 : List Cond := [Cond.code yX7_countUnknown cX7_countUnknown 6 (some .int), Cond.fieldLink RX7 18 "SeedMakers$Singles" "board" "LSeedMakers$Board;", Cond.fieldLink RX7 7 "SeedMakers$Singles" "grid" "LSeedMakers$Grid;", Cond.fieldLink RX7 26 "SeedMakers$Grid" "cells" "I", Cond.methodLink RX7 22 yX1_putAll, Cond.methodLink RX7 32 yX7_fillLoneSymbols, Cond.instanceMethod yX7_fillLoneSymbols, Cond.selects RX7 yX7_fillLoneSymbols yX7_fillLoneSymbols, Cond.code yX7_fillLoneSymbols cX7_fillLoneSymbols 4 (some .boolean), Cond.methodLink RX7 39 yX1_isEmpty, Cond.methodLink RX7 43 yX1_may, Cond.methodLink RX7 47 yJ6_bitCount_0f7a4, Cond.methodLink RX7 52 yJ6_numberOfTrailingZeros_0f7a4, Cond.methodLink RX7 55 yX1_put, Cond.methodLink RX7 36 yX7_fillLoneCells, Cond.instanceMethod yX7_fillLoneCells, Cond.selects RX7 yX7_fillLoneCells yX7_fillLoneCells, Cond.code yX7_fillLoneCells cX7_fillLoneCells 4 (some .boolean), Cond.fieldLink RX7 59 "SeedMakers$Grid" "units" "[[I", Cond.methodLink RX7 63 yX7_symbolsOfOneCell, Cond.instanceMethod yX7_symbolsOfOneCell, Cond.selects RX7 yX7_symbolsOfOneCell yX7_symbolsOfOneCell, Cond.code yX7_symbolsOfOneCell cX7_symbolsOfOneCell 6 (some .int), Cond.methodLink RX7 67 yX7_fillFrom]
def wsX5_tryOnce_r9 : List Cond := [Cond.instanceMethod yX7_fillFrom, Cond.selects RX7 yX7_fillFrom yX7_fillFrom, Cond.code yX7_fillFrom cX7_fillFrom 6 (some .boolean), Cond.methodLink RX5 137 yX0_isMet, Cond.instanceMethod yX0_isMet, Cond.selects RX0 yX0_isMet yX0_isMet, Cond.initialized RX0, Cond.code yX0_isMet cX0_isMet 3 (some .boolean), Cond.fieldLink RX0 13 "SeedMakers$Aim" "least" "I", Cond.fieldLink RX0 19 "SeedMakers$Aim" "most" "I", Cond.fieldLink RX0 7 "SeedMakers$Aim" "easy" "I"]
def wsX5_tryOnce : List Cond := .code yX5_tryOnce cX5_tryOnce 3 (some .boolean) :: ((wsX5_tryOnce_r1 ++ (wsX5_tryOnce_r2 ++ (wsX5_tryOnce_r3 ++ (wsX5_tryOnce_r4 ++ (wsX5_tryOnce_r5 ++ (wsX5_tryOnce_r6 ++ (wsX5_tryOnce_r7 ++ (wsX5_tryOnce_r8 ++ wsX5_tryOnce_r9)))))))) ++ wsX50 ++ wsX30 ++ wsX10 ++ wsX40 ++ wsX20 ++ wsX60 ++ wsX80 ++ wsX70 ++ wsX00)
def wsX6_init : List Cond := .code yX6_init cX6_init 3 none :: ([.methodLink RX6 1 objectInit, .instanceMethod objectInit, .code objectInit ⟨#[0xb1]⟩ 1 none, .fieldLink RX6 7 "SeedMakers$Sets" "grid" "LSeedMakers$Grid;", .fieldLink RX6 13 "SeedMakers$Grid" "cells" "I", .arrayClass .int, .fieldLink RX6 19 "SeedMakers$Sets" "leastOf" "[I"] ++ wsX60 ++ wsX40)
def wsX6_moved : List Cond := .code yX6_moved cX6_moved 6 (some .int) :: ([.fieldLink RX6 7 "SeedMakers$Sets" "grid" "LSeedMakers$Grid;", .fieldLink RX6 32 "SeedMakers$Grid" "side" "I", .fieldLink RX6 35 "SeedMakers$Grid" "column" "[I", .fieldLink RX6 38 "SeedMakers$Grid" "row" "[I"] ++ wsX60 ++ wsX40)
def wsX6_joinBy : List Cond := .code yX6_joinBy cX6_joinBy 6 none :: ([.fieldLink RX6 7 "SeedMakers$Sets" "grid" "LSeedMakers$Grid;", .fieldLink RX6 13 "SeedMakers$Grid" "cells" "I", .methodLink RX6 27 Lib.Math.min.name, .static Lib.Math.min.name, .initialized "java/lang/Math", .code Lib.Math.min.name Lib.Math.min.code 2 (some .int), .fieldLink RX6 19 "SeedMakers$Sets" "leastOf" "[I", .methodLink RX6 23 yX6_moved, .instanceMethod yX6_moved, .selects RX6 yX6_moved yX6_moved, .initialized RX6, .code yX6_moved cX6_moved 6 (some .int), .fieldLink RX6 32 "SeedMakers$Grid" "side" "I", .fieldLink RX6 35 "SeedMakers$Grid" "column" "[I", .fieldLink RX6 38 "SeedMakers$Grid" "row" "[I"] ++ wsX60 ++ wsX40)
def wsX9_init_r1 : List Cond := [Cond.methodLink RX9 1 objectInit, Cond.instanceMethod objectInit, Cond.code objectInit ⟨#[0xb1]⟩ 1 none, Cond.fieldLink RX9 7 "SeedMakers$Typed" "length" "I", Cond.fieldLink RX9 13 "SeedMakers$Typed" "grid" "LSeedMakers$Grid;", Cond.classLink RX9 17 RX1, Cond.instantiable RX1 5, Cond.initialized RX1, Cond.fieldLink RX9 22 "SeedMakers$Typed" "board" "LSeedMakers$Board;", Cond.arrayClass .int, Cond.fieldLink RX9 26 "SeedMakers$Typed" "bytes" "[I", Cond.fieldLink RX9 30 "SeedMakers$Board" "symbols" "[I", Cond.fieldLink RX9 33 "SeedMakers$Typed" "symbols" "[I", Cond.methodLink RX9 19 yX1_init, Cond.instanceMethod yX1_init, Cond.code yX1_init cX1_init 2 none, Cond.methodLink RX1 1 objectInit, Cond.fieldLink RX1 7 "SeedMakers$Board" "grid" "LSeedMakers$Grid;", Cond.fieldLink RX1 13 "SeedMakers$Grid" "cells" "I", Cond.fieldLink RX1 19 "SeedMakers$Board" "symbols" "[I", Cond.fieldLink RX1 23 "SeedMakers$Grid" "side" "I", Cond.fieldLink RX1 26 "SeedMakers$Board" "inRow" "[I", Cond.fieldLink RX1 29 "SeedMakers$Board" "inColumn" "[I", Cond.fieldLink RX1 32 "SeedMakers$Board" "inBox" "[I"]
def wsX9_init_r2 : List Cond := [Cond.methodLink RX1 35 yX1_clear, Cond.instanceMethod yX1_clear, Cond.selects RX1 yX1_clear yX1_clear, Cond.code yX1_clear cX1_clear 2 none]
def wsX9_init : List Cond := .code yX9_init cX9_init 2 none :: ((wsX9_init_r1 ++ wsX9_init_r2) ++ wsX90 ++ wsX10 ++ wsX40)
def wsX9_byteOf : List Cond := .code yX9_byteOf cX9_byteOf 1 (some .int) :: ([])
def wsX9_add : List Cond := .code yX9_add cX9_add 2 (some .boolean) :: ([.fieldLink RX9 7 "SeedMakers$Typed" "length" "I", .fieldLink RX9 26 "SeedMakers$Typed" "bytes" "[I"] ++ wsX90)
def wsX9_readByte_r1 : List Cond := [Cond.fieldLink RX9 13 "SeedMakers$Typed" "grid" "LSeedMakers$Grid;", Cond.fieldLink RX9 46 "SeedMakers$Grid" "side" "I", Cond.fieldLink RX9 22 "SeedMakers$Typed" "board" "LSeedMakers$Board;", Cond.methodLink RX9 49 yX1_may, Cond.instanceMethod yX1_may, Cond.selects RX1 yX1_may yX1_may, Cond.initialized RX1, Cond.code yX1_may cX1_may 2 (some .int), Cond.fieldLink RX1 7 "SeedMakers$Board" "grid" "LSeedMakers$Grid;", Cond.fieldLink RX1 42 "SeedMakers$Grid" "allSymbols" "I", Cond.fieldLink RX1 26 "SeedMakers$Board" "inRow" "[I", Cond.fieldLink RX1 45 "SeedMakers$Grid" "row" "[I", Cond.fieldLink RX1 29 "SeedMakers$Board" "inColumn" "[I", Cond.fieldLink RX1 48 "SeedMakers$Grid" "column" "[I", Cond.fieldLink RX1 32 "SeedMakers$Board" "inBox" "[I", Cond.fieldLink RX1 51 "SeedMakers$Grid" "box" "[I", Cond.methodLink RX9 53 yX1_put, Cond.instanceMethod yX1_put, Cond.selects RX1 yX1_put yX1_put, Cond.code yX1_put cX1_put 3 none, Cond.fieldLink RX1 19 "SeedMakers$Board" "symbols" "[I", Cond.methodLink RX1 54 yX1_flip, Cond.instanceMethod yX1_flip, Cond.selects RX1 yX1_flip yX1_flip]
def wsX9_readByte_r2 : List Cond := [Cond.code yX1_flip cX1_flip 3 none]
def wsX9_readByte : List Cond := .code yX9_readByte cX9_readByte 4 (some .boolean) :: ((wsX9_readByte_r1 ++ wsX9_readByte_r2) ++ wsX90 ++ wsX40 ++ wsX10)
def wsX9_read_r1 : List Cond := [Cond.fieldLink RX9 7 "SeedMakers$Typed" "length" "I", Cond.fieldLink RX9 22 "SeedMakers$Typed" "board" "LSeedMakers$Board;", Cond.fieldLink RX9 13 "SeedMakers$Typed" "grid" "LSeedMakers$Grid;", Cond.fieldLink RX9 37 "SeedMakers$Grid" "cells" "I", Cond.fieldLink RX9 26 "SeedMakers$Typed" "bytes" "[I", Cond.methodLink RX9 34 yX1_clear, Cond.instanceMethod yX1_clear, Cond.selects RX1 yX1_clear yX1_clear, Cond.initialized RX1, Cond.code yX1_clear cX1_clear 2 none, Cond.fieldLink RX1 7 "SeedMakers$Board" "grid" "LSeedMakers$Grid;", Cond.fieldLink RX1 13 "SeedMakers$Grid" "cells" "I", Cond.fieldLink RX1 19 "SeedMakers$Board" "symbols" "[I", Cond.fieldLink RX1 23 "SeedMakers$Grid" "side" "I", Cond.fieldLink RX1 26 "SeedMakers$Board" "inRow" "[I", Cond.fieldLink RX1 29 "SeedMakers$Board" "inColumn" "[I", Cond.fieldLink RX1 32 "SeedMakers$Board" "inBox" "[I", Cond.methodLink RX9 42 yX9_readByte, Cond.instanceMethod yX9_readByte, Cond.selects RX9 yX9_readByte yX9_readByte, Cond.initialized RX9, Cond.code yX9_readByte cX9_readByte 4 (some .boolean), Cond.fieldLink RX9 46 "SeedMakers$Grid" "side" "I", Cond.methodLink RX9 49 yX1_may]
def wsX9_read_r2 : List Cond := [Cond.instanceMethod yX1_may, Cond.selects RX1 yX1_may yX1_may, Cond.code yX1_may cX1_may 2 (some .int), Cond.fieldLink RX1 42 "SeedMakers$Grid" "allSymbols" "I", Cond.fieldLink RX1 45 "SeedMakers$Grid" "row" "[I", Cond.fieldLink RX1 48 "SeedMakers$Grid" "column" "[I", Cond.fieldLink RX1 51 "SeedMakers$Grid" "box" "[I", Cond.methodLink RX9 53 yX1_put, Cond.instanceMethod yX1_put, Cond.selects RX1 yX1_put yX1_put, Cond.code yX1_put cX1_put 3 none, Cond.methodLink RX1 54 yX1_flip, Cond.instanceMethod yX1_flip, Cond.selects RX1 yX1_flip yX1_flip, Cond.code yX1_flip cX1_flip 3 none]
def wsX9_read : List Cond := .code yX9_read cX9_read 3 (some .int) :: ((wsX9_read_r1 ++ wsX9_read_r2) ++ wsX90 ++ wsX40 ++ wsX10)
def wsX10_init_r1 : List Cond := [Cond.methodLink RX10 1 objectInit, Cond.instanceMethod objectInit, Cond.code objectInit ⟨#[0xb1]⟩ 1 none, Cond.classLink RX10 7 RX4, Cond.instantiable RX4 7, Cond.initialized RX4, Cond.fieldLink RX10 12 "SeedMakers" "grid" "LSeedMakers$Grid;", Cond.classLink RX10 18 RX6, Cond.instantiable RX6 2, Cond.initialized RX6, Cond.fieldLink RX10 23 "SeedMakers" "sets" "LSeedMakers$Sets;", Cond.fieldLink RX10 27 "SeedMakers$Grid" "cells" "I", Cond.arrayClass .int, Cond.fieldLink RX10 31 "SeedMakers" "themes" "[I", Cond.classLink RX10 35 RX0, Cond.instantiable RX0 3, Cond.initialized RX0, Cond.fieldLink RX10 38 "SeedMakers" "aimed" "LSeedMakers$Aim;", Cond.classLink RX10 42 RX5, Cond.instantiable RX5 20, Cond.initialized RX5, Cond.fieldLink RX10 47 "SeedMakers" "maker" "LSeedMakers$Maker;", Cond.classLink RX10 51 RX9, Cond.instantiable RX9 5]
def wsX10_init_r2 : List Cond := [Cond.initialized RX9, Cond.fieldLink RX10 54 "SeedMakers" "typed" "LSeedMakers$Typed;", Cond.methodLink RX10 9 yX4_init, Cond.instanceMethod yX4_init, Cond.code yX4_init cX4_init 8 none, Cond.methodLink RX4 1 objectInit, Cond.fieldLink RX4 7 "SeedMakers$Grid" "side" "I", Cond.fieldLink RX4 13 "SeedMakers$Grid" "cells" "I", Cond.fieldLink RX4 16 "SeedMakers$Grid" "allSymbols" "I", Cond.fieldLink RX4 19 "SeedMakers$Grid" "row" "[I", Cond.fieldLink RX4 23 "SeedMakers$Grid" "column" "[I", Cond.fieldLink RX4 26 "SeedMakers$Grid" "box" "[I", Cond.classLink RX4 29 "[[I", Cond.fieldLink RX4 31 "SeedMakers$Grid" "units" "[[I", Cond.methodLink RX10 20 yX6_init, Cond.instanceMethod yX6_init, Cond.code yX6_init cX6_init 3 none, Cond.methodLink RX6 1 objectInit, Cond.fieldLink RX6 7 "SeedMakers$Sets" "grid" "LSeedMakers$Grid;", Cond.fieldLink RX6 13 "SeedMakers$Grid" "cells" "I", Cond.fieldLink RX6 19 "SeedMakers$Sets" "leastOf" "[I", Cond.instanceMethod yX0_init, Cond.code yX0_init cX0_init 1 none, Cond.methodLink RX0 1 objectInit]
def wsX10_init_r3 : List Cond := [Cond.fieldLink RX0 7 "SeedMakers$Aim" "easy" "I", Cond.fieldLink RX0 13 "SeedMakers$Aim" "least" "I", Cond.constant RX0 18 (2147483647), Cond.fieldLink RX0 19 "SeedMakers$Aim" "most" "I", Cond.methodLink RX10 44 yX5_init, Cond.instanceMethod yX5_init, Cond.code yX5_init cX5_init 5 none, Cond.methodLink RX5 1 objectInit, Cond.fieldLink RX5 7 "SeedMakers$Maker" "made" "Z", Cond.fieldLink RX5 13 "SeedMakers$Maker" "triesMade" "I", Cond.fieldLink RX5 17 "SeedMakers$Maker" "restarts" "I", Cond.fieldLink RX5 20 "SeedMakers$Maker" "takenOut" "I", Cond.fieldLink RX5 23 "SeedMakers$Maker" "putBack" "I", Cond.fieldLink RX5 26 "SeedMakers$Maker" "givenCells" "I", Cond.fieldLink RX5 29 "SeedMakers$Maker" "unknownCells" "I", Cond.fieldLink RX5 32 "SeedMakers$Maker" "grid" "LSeedMakers$Grid;", Cond.fieldLink RX5 36 "SeedMakers$Maker" "sets" "LSeedMakers$Sets;", Cond.fieldLink RX5 40 "SeedMakers$Maker" "themes" "[I", Cond.fieldLink RX5 44 "SeedMakers$Maker" "aimed" "LSeedMakers$Aim;", Cond.classLink RX5 48 RX2, Cond.instantiable RX2 1, Cond.initialized RX2, Cond.fieldLink RX5 51 "SeedMakers$Maker" "chance" "LSeedMakers$Chance;", Cond.classLink RX5 55 RX3]
def wsX10_init_r4 : List Cond := [Cond.instantiable RX3 3, Cond.initialized RX3, Cond.fieldLink RX5 60 "SeedMakers$Maker" "drawer" "LSeedMakers$Drawer;", Cond.classLink RX5 64 RX7, Cond.instantiable RX7 2, Cond.initialized RX7, Cond.fieldLink RX5 69 "SeedMakers$Maker" "singles" "LSeedMakers$Singles;", Cond.classLink RX5 73 RX8, Cond.instantiable RX8 4, Cond.initialized RX8, Cond.fieldLink RX5 76 "SeedMakers$Maker" "solver" "LSeedMakers$Solver;", Cond.fieldLink RX5 80 "SeedMakers$Grid" "cells" "I", Cond.fieldLink RX5 85 "SeedMakers$Maker" "whole" "[I", Cond.fieldLink RX5 88 "SeedMakers$Maker" "givens" "[I", Cond.arrayClass .boolean, Cond.fieldLink RX5 91 "SeedMakers$Maker" "marked" "[Z", Cond.fieldLink RX5 95 "SeedMakers$Maker" "row" "[I", Cond.fieldLink RX5 98 "SeedMakers$Maker" "without" "[I", Cond.instanceMethod yX2_init, Cond.code yX2_init cX2_init 1 none, Cond.methodLink RX2 1 objectInit, Cond.fieldLink RX2 7 "SeedMakers$Chance" "state" "J", Cond.methodLink RX5 57 yX3_init, Cond.instanceMethod yX3_init]
def wsX10_init_r5 : List Cond := [Cond.code yX3_init cX3_init 3 none, Cond.methodLink RX3 1 objectInit, Cond.fieldLink RX3 7 "SeedMakers$Drawer" "grid" "LSeedMakers$Grid;", Cond.fieldLink RX3 13 "SeedMakers$Drawer" "chance" "LSeedMakers$Chance;", Cond.classLink RX3 17 RX1, Cond.instantiable RX1 5, Cond.initialized RX1, Cond.fieldLink RX3 22 "SeedMakers$Drawer" "board" "LSeedMakers$Board;", Cond.methodLink RX3 19 yX1_init, Cond.instanceMethod yX1_init, Cond.code yX1_init cX1_init 2 none, Cond.methodLink RX1 1 objectInit, Cond.fieldLink RX1 7 "SeedMakers$Board" "grid" "LSeedMakers$Grid;", Cond.fieldLink RX1 13 "SeedMakers$Grid" "cells" "I", Cond.fieldLink RX1 19 "SeedMakers$Board" "symbols" "[I", Cond.fieldLink RX1 23 "SeedMakers$Grid" "side" "I", Cond.fieldLink RX1 26 "SeedMakers$Board" "inRow" "[I", Cond.fieldLink RX1 29 "SeedMakers$Board" "inColumn" "[I", Cond.fieldLink RX1 32 "SeedMakers$Board" "inBox" "[I", Cond.methodLink RX1 35 yX1_clear, Cond.instanceMethod yX1_clear, Cond.selects RX1 yX1_clear yX1_clear, Cond.code yX1_clear cX1_clear 2 none, Cond.methodLink RX5 66 yX7_init]
def wsX10_init_r6 : List Cond := [Cond.instanceMethod yX7_init, Cond.code yX7_init cX7_init 2 none, Cond.methodLink RX7 1 objectInit, Cond.fieldLink RX7 7 "SeedMakers$Singles" "grid" "LSeedMakers$Grid;", Cond.classLink RX7 13 RX1, Cond.fieldLink RX7 18 "SeedMakers$Singles" "board" "LSeedMakers$Board;", Cond.methodLink RX7 15 yX1_init, Cond.methodLink RX5 75 yX8_init, Cond.instanceMethod yX8_init, Cond.code yX8_init cX8_init 2 none, Cond.methodLink RX8 1 objectInit, Cond.fieldLink RX8 7 "SeedMakers$Solver" "limit" "I", Cond.fieldLink RX8 13 "SeedMakers$Solver" "found" "I", Cond.classLink RX8 16 RX1, Cond.fieldLink RX8 21 "SeedMakers$Solver" "board" "LSeedMakers$Board;", Cond.fieldLink RX8 25 "SeedMakers$Grid" "cells" "I", Cond.fieldLink RX8 30 "SeedMakers$Solver" "open" "[I", Cond.methodLink RX8 18 yX1_init, Cond.methodLink RX10 53 yX9_init, Cond.instanceMethod yX9_init, Cond.code yX9_init cX9_init 2 none, Cond.methodLink RX9 1 objectInit, Cond.fieldLink RX9 7 "SeedMakers$Typed" "length" "I", Cond.fieldLink RX9 13 "SeedMakers$Typed" "grid" "LSeedMakers$Grid;"]
def wsX10_init_r7 : List Cond := [Cond.classLink RX9 17 RX1, Cond.fieldLink RX9 22 "SeedMakers$Typed" "board" "LSeedMakers$Board;", Cond.fieldLink RX9 26 "SeedMakers$Typed" "bytes" "[I", Cond.fieldLink RX9 30 "SeedMakers$Board" "symbols" "[I", Cond.fieldLink RX9 33 "SeedMakers$Typed" "symbols" "[I", Cond.methodLink RX9 19 yX1_init]
def wsX10_init : List Cond := .code yX10_init cX10_init 2 none :: ((wsX10_init_r1 ++ (wsX10_init_r2 ++ (wsX10_init_r3 ++ (wsX10_init_r4 ++ (wsX10_init_r5 ++ (wsX10_init_r6 ++ wsX10_init_r7)))))) ++ wsX40 ++ wsX100 ++ wsX60 ++ wsX00 ++ wsX50 ++ wsX90 ++ wsX20 ++ wsX30 ++ wsX70 ++ wsX80 ++ wsX10)
def wsX10_symmetry : List Cond := .code yX10_symmetry cX10_symmetry 2 (some .boolean) :: ([.fieldLink RX10 23 "SeedMakers" "sets" "LSeedMakers$Sets;", .methodLink RX10 58 yX6_joinBy, .instanceMethod yX6_joinBy, .selects RX6 yX6_joinBy yX6_joinBy, .initialized RX6, .code yX6_joinBy cX6_joinBy 6 none, .fieldLink RX6 7 "SeedMakers$Sets" "grid" "LSeedMakers$Grid;", .fieldLink RX6 13 "SeedMakers$Grid" "cells" "I", .methodLink RX6 27 Lib.Math.min.name, .static Lib.Math.min.name, .initialized "java/lang/Math", .code Lib.Math.min.name Lib.Math.min.code 2 (some .int), .fieldLink RX6 19 "SeedMakers$Sets" "leastOf" "[I", .methodLink RX6 23 yX6_moved, .instanceMethod yX6_moved, .selects RX6 yX6_moved yX6_moved, .code yX6_moved cX6_moved 6 (some .int), .fieldLink RX6 32 "SeedMakers$Grid" "side" "I", .fieldLink RX6 35 "SeedMakers$Grid" "column" "[I", .fieldLink RX6 38 "SeedMakers$Grid" "row" "[I"] ++ wsX100 ++ wsX60 ++ wsX40)
def wsX10_theme : List Cond := .code yX10_theme cX10_theme 3 none :: ([.classLink RX10 72 "java/lang/IllegalArgumentException", .initialized "java/lang/IllegalArgumentException", .fieldLink RX10 12 "SeedMakers" "grid" "LSeedMakers$Grid;", .classLink RX10 65 RJx00060, .instantiable RJx00060 6, .initialized RJx00060, .fieldLink RX10 31 "SeedMakers" "themes" "[I", .methodLink RX10 61 yX4_has, .instanceMethod yX4_has, .selects RX4 yX4_has yX4_has, .initialized RX4, .code yX4_has cX4_has 2 (some .boolean), .fieldLink RX4 13 "SeedMakers$Grid" "cells" "I"] ++ wsX100 ++ wsJx000600 ++ wsX40 ++ (vx_atS RX10 76 "java/lang/IllegalArgumentException" ["java/lang/RuntimeException", "java/lang/Exception"]).filter goodWord)
def wsX10_aim : List Cond := .code yX10_aim cX10_aim 4 none :: ([.classLink RX10 72 "java/lang/IllegalArgumentException", .initialized "java/lang/IllegalArgumentException", .fieldLink RX10 38 "SeedMakers" "aimed" "LSeedMakers$Aim;", .methodLink RX10 81 yX0_set, .instanceMethod yX0_set, .selects RX0 yX0_set yX0_set, .initialized RX0, .code yX0_set cX0_set 4 none, .fieldLink RX0 7 "SeedMakers$Aim" "easy" "I", .fieldLink RX0 13 "SeedMakers$Aim" "least" "I", .fieldLink RX0 19 "SeedMakers$Aim" "most" "I"] ++ wsX100 ++ wsX00 ++ (vx_atS RX10 76 "java/lang/IllegalArgumentException" ["java/lang/RuntimeException", "java/lang/Exception"]).filter goodWord)
def wsX10_make_r1 : List Cond := [Cond.fieldLink RX10 47 "SeedMakers" "maker" "LSeedMakers$Maker;", Cond.methodLink RX10 85 yX5_startAt, Cond.instanceMethod yX5_startAt, Cond.selects RX5 yX5_startAt yX5_startAt, Cond.initialized RX5, Cond.code yX5_startAt cX5_startAt 3 none, Cond.fieldLink RX5 7 "SeedMakers$Maker" "made" "Z", Cond.fieldLink RX5 13 "SeedMakers$Maker" "triesMade" "I", Cond.fieldLink RX5 17 "SeedMakers$Maker" "restarts" "I", Cond.fieldLink RX5 20 "SeedMakers$Maker" "takenOut" "I", Cond.fieldLink RX5 23 "SeedMakers$Maker" "putBack" "I", Cond.fieldLink RX5 51 "SeedMakers$Maker" "chance" "LSeedMakers$Chance;", Cond.methodLink RX5 101 yX2_startAt, Cond.instanceMethod yX2_startAt, Cond.selects RX2 yX2_startAt yX2_startAt, Cond.initialized RX2, Cond.code yX2_startAt cX2_startAt 3 none, Cond.fieldLink RX2 7 "SeedMakers$Chance" "state" "J", Cond.methodLink RX10 89 yX5_tryOnce, Cond.instanceMethod yX5_tryOnce, Cond.selects RX5 yX5_tryOnce yX5_tryOnce, Cond.code yX5_tryOnce cX5_tryOnce 3 (some .boolean), Cond.fieldLink RX5 95 "SeedMakers$Maker" "row" "[I", Cond.fieldLink RX5 98 "SeedMakers$Maker" "without" "[I"]
def wsX10_make_r2 : List Cond := [Cond.fieldLink RX5 88 "SeedMakers$Maker" "givens" "[I", Cond.methodLink RX5 124 arraycopyName, Cond.native arraycopyName, Cond.static arraycopyName, Cond.initialized "java/lang/System", Cond.fieldLink RX5 26 "SeedMakers$Maker" "givenCells" "I", Cond.fieldLink RX5 69 "SeedMakers$Maker" "singles" "LSeedMakers$Singles;", Cond.fieldLink RX5 29 "SeedMakers$Maker" "unknownCells" "I", Cond.fieldLink RX5 44 "SeedMakers$Maker" "aimed" "LSeedMakers$Aim;", Cond.methodLink RX5 105 yX5_drawWhole, Cond.instanceMethod yX5_drawWhole, Cond.selects RX5 yX5_drawWhole yX5_drawWhole, Cond.code yX5_drawWhole cX5_drawWhole 3 (some .boolean), Cond.fieldLink RX5 60 "SeedMakers$Maker" "drawer" "LSeedMakers$Drawer;", Cond.fieldLink RX5 146 "SeedMakers$Drawer" "board" "LSeedMakers$Board;", Cond.fieldLink RX5 150 "SeedMakers$Board" "symbols" "[I", Cond.fieldLink RX5 85 "SeedMakers$Maker" "whole" "[I", Cond.methodLink RX5 143 yX3_fill, Cond.instanceMethod yX3_fill, Cond.selects RX3 yX3_fill yX3_fill, Cond.initialized RX3, Cond.code yX3_fill cX3_fill 5 (some .boolean), Cond.fieldLink RX3 22 "SeedMakers$Drawer" "board" "LSeedMakers$Board;", Cond.fieldLink RX3 7 "SeedMakers$Drawer" "grid" "LSeedMakers$Grid;"]
def wsX10_make_r3 : List Cond := [Cond.fieldLink RX3 29 "SeedMakers$Grid" "cells" "I", Cond.fieldLink RX3 13 "SeedMakers$Drawer" "chance" "LSeedMakers$Chance;", Cond.methodLink RX3 26 yX1_clear, Cond.instanceMethod yX1_clear, Cond.selects RX1 yX1_clear yX1_clear, Cond.initialized RX1, Cond.code yX1_clear cX1_clear 2 none, Cond.fieldLink RX1 7 "SeedMakers$Board" "grid" "LSeedMakers$Grid;", Cond.fieldLink RX1 13 "SeedMakers$Grid" "cells" "I", Cond.fieldLink RX1 19 "SeedMakers$Board" "symbols" "[I", Cond.fieldLink RX1 23 "SeedMakers$Grid" "side" "I", Cond.fieldLink RX1 26 "SeedMakers$Board" "inRow" "[I", Cond.fieldLink RX1 29 "SeedMakers$Board" "inColumn" "[I", Cond.fieldLink RX1 32 "SeedMakers$Board" "inBox" "[I", Cond.methodLink RX3 35 yX3_tightest, Cond.instanceMethod yX3_tightest, Cond.selects RX3 yX3_tightest yX3_tightest, Cond.code yX3_tightest cX3_tightest 5 (some .int), Cond.constant RX3 61 (2147483647), Cond.methodLink RX3 62 yX1_isEmpty, Cond.instanceMethod yX1_isEmpty, Cond.selects RX1 yX1_isEmpty yX1_isEmpty, Cond.code yX1_isEmpty cX1_isEmpty 2 (some .boolean), Cond.methodLink RX3 39 yX1_may]
def wsX10_make_r4 : List Cond := [Cond.instanceMethod yX1_may, Cond.selects RX1 yX1_may yX1_may, Cond.code yX1_may cX1_may 2 (some .int), Cond.fieldLink RX1 42 "SeedMakers$Grid" "allSymbols" "I", Cond.fieldLink RX1 45 "SeedMakers$Grid" "row" "[I", Cond.fieldLink RX1 48 "SeedMakers$Grid" "column" "[I", Cond.fieldLink RX1 51 "SeedMakers$Grid" "box" "[I", Cond.methodLink RX3 43 yJ6_bitCount_0f7a4, Cond.static yJ6_bitCount_0f7a4, Cond.initialized RJ6, Cond.code yJ6_bitCount_0f7a4 cJ6_bitCount_0f7a4 1 (some .int), Cond.constant RJ6 265 (1431655765), Cond.constant RJ6 266 (858993459), Cond.constant RJ6 267 (252645135), Cond.methodLink RX3 48 yX2_below, Cond.instanceMethod yX2_below, Cond.selects RX2 yX2_below yX2_below, Cond.code yX2_below cX2_below 2 (some .int), Cond.constantLong RX2 13 (6364136223846793005), Cond.constantLong RX2 15 (1442695040888963407), Cond.methodLink RX2 17 yX2_upperBits, Cond.instanceMethod yX2_upperBits, Cond.selects RX2 yX2_upperBits yX2_upperBits, Cond.code yX2_upperBits cX2_upperBits 1 (some .int)]
def wsX10_make_r5 : List Cond := [Cond.methodLink RX3 53 yX3_symbolAt, Cond.static yX3_symbolAt, Cond.code yX3_symbolAt cX3_symbolAt 4 (some .int), Cond.methodLink RX3 66 yJ6_numberOfTrailingZeros_0f7a4, Cond.static yJ6_numberOfTrailingZeros_0f7a4, Cond.code yJ6_numberOfTrailingZeros_0f7a4 cJ6_numberOfTrailingZeros_0f7a4 2 (some .int), Cond.constant RJ6 264 (65536), Cond.methodLink RX3 57 yX1_put, Cond.instanceMethod yX1_put, Cond.selects RX1 yX1_put yX1_put, Cond.code yX1_put cX1_put 3 none, Cond.methodLink RX1 54 yX1_flip, Cond.instanceMethod yX1_flip, Cond.selects RX1 yX1_flip yX1_flip, Cond.code yX1_flip cX1_flip 3 none, Cond.methodLink RX5 109 yX5_takeOutEmptySets, Cond.instanceMethod yX5_takeOutEmptySets, Cond.selects RX5 yX5_takeOutEmptySets yX5_takeOutEmptySets, Cond.code yX5_takeOutEmptySets cX5_takeOutEmptySets 2 (some .boolean), Cond.fieldLink RX5 32 "SeedMakers$Maker" "grid" "LSeedMakers$Grid;", Cond.fieldLink RX5 80 "SeedMakers$Grid" "cells" "I", Cond.fieldLink RX5 91 "SeedMakers$Maker" "marked" "[Z", Cond.fieldLink RX5 36 "SeedMakers$Maker" "sets" "LSeedMakers$Sets;", Cond.fieldLink RX5 158 "SeedMakers$Sets" "leastOf" "[I"]
def wsX10_make_r6 : List Cond := [Cond.fieldLink RX5 40 "SeedMakers$Maker" "themes" "[I", Cond.fieldLink RX5 76 "SeedMakers$Maker" "solver" "LSeedMakers$Solver;", Cond.methodLink RX5 155 yX5_markSetsWith, Cond.instanceMethod yX5_markSetsWith, Cond.selects RX5 yX5_markSetsWith yX5_markSetsWith, Cond.code yX5_markSetsWith cX5_markSetsWith 3 none, Cond.methodLink RX5 163 yX8_count, Cond.instanceMethod yX8_count, Cond.selects RX8 yX8_count yX8_count, Cond.initialized RX8, Cond.code yX8_count cX8_count 5 (some .int), Cond.fieldLink RX8 21 "SeedMakers$Solver" "board" "LSeedMakers$Board;", Cond.fieldLink RX8 30 "SeedMakers$Solver" "open" "[I", Cond.fieldLink RX8 7 "SeedMakers$Solver" "limit" "I", Cond.fieldLink RX8 13 "SeedMakers$Solver" "found" "I", Cond.methodLink RX8 34 yX1_putAll, Cond.instanceMethod yX1_putAll, Cond.selects RX1 yX1_putAll yX1_putAll, Cond.code yX1_putAll cX1_putAll 3 none, Cond.methodLink RX1 35 yX1_clear, Cond.methodLink RX1 38 yX1_put, Cond.methodLink RX8 38 yX1_isEmpty, Cond.methodLink RX8 42 yX8_search, Cond.instanceMethod yX8_search]
def wsX10_make_r7 : List Cond := [Cond.selects RX8 yX8_search yX8_search, Cond.code yX8_search cX8_search 6 none, Cond.fieldLink RX8 53 "SeedMakers$Board" "grid" "LSeedMakers$Grid;", Cond.fieldLink RX8 57 "SeedMakers$Grid" "side" "I", Cond.methodLink RX8 46 yX8_tightest, Cond.instanceMethod yX8_tightest, Cond.selects RX8 yX8_tightest yX8_tightest, Cond.code yX8_tightest cX8_tightest 6 (some .int), Cond.constant RX8 69 (2147483647), Cond.methodLink RX8 50 yX1_may, Cond.methodLink RX8 70 yJ6_bitCount_0f7a4, Cond.methodLink RX8 60 yX1_put, Cond.methodLink RX8 64 yX1_takeOut, Cond.instanceMethod yX1_takeOut, Cond.selects RX1 yX1_takeOut yX1_takeOut, Cond.code yX1_takeOut cX1_takeOut 3 none, Cond.methodLink RX5 112 yX5_layRow, Cond.instanceMethod yX5_layRow, Cond.selects RX5 yX5_layRow yX5_layRow, Cond.code yX5_layRow cX5_layRow 3 (some .int), Cond.methodLink RX5 116 yX5_mixRow, Cond.instanceMethod yX5_mixRow, Cond.selects RX5 yX5_mixRow yX5_mixRow, Cond.code yX5_mixRow cX5_mixRow 5 none]
def wsX10_make_r8 : List Cond := [Cond.methodLink RX5 167 yX2_below, Cond.methodLink RX5 120 yX5_needsSet, Cond.instanceMethod yX5_needsSet, Cond.selects RX5 yX5_needsSet yX5_needsSet, Cond.code yX5_needsSet cX5_needsSet 5 (some .boolean), Cond.methodLink RX5 130 yX5_countGivens, Cond.instanceMethod yX5_countGivens, Cond.selects RX5 yX5_countGivens yX5_countGivens, Cond.code yX5_countGivens cX5_countGivens 3 (some .int), Cond.methodLink RX5 133 yX7_countUnknown, Cond.instanceMethod yX7_countUnknown, Cond.selects RX7 yX7_countUnknown yX7_countUnknown, Cond.initialized RX7, Cond.code yX7_countUnknown cX7_countUnknown 6 (some .int), Cond.fieldLink RX7 18 "SeedMakers$Singles" "board" "LSeedMakers$Board;", Cond.fieldLink RX7 7 "SeedMakers$Singles" "grid" "LSeedMakers$Grid;", Cond.fieldLink RX7 26 "SeedMakers$Grid" "cells" "I", Cond.methodLink RX7 22 yX1_putAll, Cond.methodLink RX7 32 yX7_fillLoneSymbols, Cond.instanceMethod yX7_fillLoneSymbols, Cond.selects RX7 yX7_fillLoneSymbols yX7_fillLoneSymbols, Cond.code yX7_fillLoneSymbols cX7_fillLoneSymbols 4 (some .boolean), Cond.methodLink RX7 39 yX1_isEmpty, Cond.methodLink RX7 43 yX1_may]
def wsX10_make_r9 : List Cond := [Cond.methodLink RX7 47 yJ6_bitCount_0f7a4, Cond.methodLink RX7 52 yJ6_numberOfTrailingZeros_0f7a4, Cond.methodLink RX7 55 yX1_put, Cond.methodLink RX7 36 yX7_fillLoneCells, Cond.instanceMethod yX7_fillLoneCells, Cond.selects RX7 yX7_fillLoneCells yX7_fillLoneCells, Cond.code yX7_fillLoneCells cX7_fillLoneCells 4 (some .boolean), Cond.fieldLink RX7 59 "SeedMakers$Grid" "units" "[[I", Cond.methodLink RX7 63 yX7_symbolsOfOneCell, Cond.instanceMethod yX7_symbolsOfOneCell, Cond.selects RX7 yX7_symbolsOfOneCell yX7_symbolsOfOneCell, Cond.code yX7_symbolsOfOneCell cX7_symbolsOfOneCell 6 (some .int), Cond.methodLink RX7 67 yX7_fillFrom, Cond.instanceMethod yX7_fillFrom, Cond.selects RX7 yX7_fillFrom yX7_fillFrom, Cond.code yX7_fillFrom cX7_fillFrom 6 (some .boolean), Cond.methodLink RX5 137 yX0_isMet, Cond.instanceMethod yX0_isMet, Cond.selects RX0 yX0_isMet yX0_isMet, Cond.initialized RX0, Cond.code yX0_isMet cX0_isMet 3 (some .boolean), Cond.fieldLink RX0 13 "SeedMakers$Aim" "least" "I", Cond.fieldLink RX0 19 "SeedMakers$Aim" "most" "I", Cond.fieldLink RX0 7 "SeedMakers$Aim" "easy" "I"]
def wsX10_make : List Cond := .code yX10_make cX10_make 5 (some .int) :: ((wsX10_make_r1 ++ (wsX10_make_r2 ++ (wsX10_make_r3 ++ (wsX10_make_r4 ++ (wsX10_make_r5 ++ (wsX10_make_r6 ++ (wsX10_make_r7 ++ (wsX10_make_r8 ++ wsX10_make_r9)))))))) ++ wsX100 ++ wsX50 ++ wsX20 ++ wsX30 ++ wsX10 ++ wsX40 ++ wsX60 ++ wsX80 ++ wsX70 ++ wsX00)
def wsX10_given : List Cond := .code yX10_given cX10_given 2 (some .int) :: ([.fieldLink RX10 12 "SeedMakers" "grid" "LSeedMakers$Grid;", .classLink RX10 65 RJx00060, .instantiable RJx00060 6, .initialized RJx00060, .fieldLink RX10 47 "SeedMakers" "maker" "LSeedMakers$Maker;", .fieldLink RX10 93 "SeedMakers$Maker" "made" "Z", .fieldLink RX10 97 "SeedMakers$Maker" "givens" "[I", .methodLink RX10 61 yX4_has, .instanceMethod yX4_has, .selects RX4 yX4_has yX4_has, .initialized RX4, .code yX4_has cX4_has 2 (some .boolean), .fieldLink RX4 13 "SeedMakers$Grid" "cells" "I"] ++ wsX100 ++ wsJx000600 ++ wsX50 ++ wsX40)
def wsX10_answer : List Cond := .code yX10_answer cX10_answer 2 (some .int) :: ([.fieldLink RX10 12 "SeedMakers" "grid" "LSeedMakers$Grid;", .classLink RX10 65 RJx00060, .instantiable RJx00060 6, .initialized RJx00060, .fieldLink RX10 47 "SeedMakers" "maker" "LSeedMakers$Maker;", .fieldLink RX10 93 "SeedMakers$Maker" "made" "Z", .fieldLink RX10 100 "SeedMakers$Maker" "whole" "[I", .methodLink RX10 61 yX4_has, .instanceMethod yX4_has, .selects RX4 yX4_has yX4_has, .initialized RX4, .code yX4_has cX4_has 2 (some .boolean), .fieldLink RX4 13 "SeedMakers$Grid" "cells" "I"] ++ wsX100 ++ wsJx000600 ++ wsX50 ++ wsX40)
def wsX10_told : List Cond := .code yX10_told cX10_told 2 (some .int) :: ([.fieldLink RX10 47 "SeedMakers" "maker" "LSeedMakers$Maker;", .fieldLink RX10 103 "SeedMakers$Maker" "triesMade" "I", .fieldLink RX10 106 "SeedMakers$Maker" "restarts" "I", .fieldLink RX10 109 "SeedMakers$Maker" "takenOut" "I", .fieldLink RX10 112 "SeedMakers$Maker" "putBack" "I", .fieldLink RX10 93 "SeedMakers$Maker" "made" "Z", .fieldLink RX10 115 "SeedMakers$Maker" "givenCells" "I", .fieldLink RX10 118 "SeedMakers$Maker" "unknownCells" "I", .fieldLink RX10 121 "SeedMakers$Maker" "chance" "LSeedMakers$Chance;", .methodLink RX10 125 yX2_upperBits, .instanceMethod yX2_upperBits, .selects RX2 yX2_upperBits yX2_upperBits, .initialized RX2, .code yX2_upperBits cX2_upperBits 1 (some .int), .fieldLink RX2 7 "SeedMakers$Chance" "state" "J"] ++ wsX100 ++ wsX50 ++ wsX20)
def wsX10_left : List Cond := .code yX10_left cX10_left 1 (some .int) :: ([.fieldLink RX10 47 "SeedMakers" "maker" "LSeedMakers$Maker;", .fieldLink RX10 93 "SeedMakers$Maker" "made" "Z", .fieldLink RX10 118 "SeedMakers$Maker" "unknownCells" "I"] ++ wsX100 ++ wsX50)
def wsX10_needed_r1 : List Cond := [Cond.fieldLink RX10 12 "SeedMakers" "grid" "LSeedMakers$Grid;", Cond.classLink RX10 65 RJx00060, Cond.instantiable RJx00060 6, Cond.initialized RJx00060, Cond.fieldLink RX10 47 "SeedMakers" "maker" "LSeedMakers$Maker;", Cond.fieldLink RX10 93 "SeedMakers$Maker" "made" "Z", Cond.fieldLink RX10 23 "SeedMakers" "sets" "LSeedMakers$Sets;", Cond.fieldLink RX10 131 "SeedMakers$Sets" "leastOf" "[I", Cond.methodLink RX10 61 yX4_has, Cond.instanceMethod yX4_has, Cond.selects RX4 yX4_has yX4_has, Cond.initialized RX4, Cond.code yX4_has cX4_has 2 (some .boolean), Cond.fieldLink RX4 13 "SeedMakers$Grid" "cells" "I", Cond.methodLink RX10 134 yX5_needsSet, Cond.instanceMethod yX5_needsSet, Cond.selects RX5 yX5_needsSet yX5_needsSet, Cond.initialized RX5, Cond.code yX5_needsSet cX5_needsSet 5 (some .boolean), Cond.fieldLink RX5 32 "SeedMakers$Maker" "grid" "LSeedMakers$Grid;", Cond.fieldLink RX5 80 "SeedMakers$Grid" "cells" "I", Cond.fieldLink RX5 36 "SeedMakers$Maker" "sets" "LSeedMakers$Sets;", Cond.fieldLink RX5 158 "SeedMakers$Sets" "leastOf" "[I", Cond.fieldLink RX5 88 "SeedMakers$Maker" "givens" "[I"]
def wsX10_needed_r2 : List Cond := [Cond.fieldLink RX5 98 "SeedMakers$Maker" "without" "[I", Cond.fieldLink RX5 76 "SeedMakers$Maker" "solver" "LSeedMakers$Solver;", Cond.methodLink RX5 163 yX8_count, Cond.instanceMethod yX8_count, Cond.selects RX8 yX8_count yX8_count, Cond.initialized RX8, Cond.code yX8_count cX8_count 5 (some .int), Cond.fieldLink RX8 21 "SeedMakers$Solver" "board" "LSeedMakers$Board;", Cond.fieldLink RX8 30 "SeedMakers$Solver" "open" "[I", Cond.fieldLink RX8 7 "SeedMakers$Solver" "limit" "I", Cond.fieldLink RX8 13 "SeedMakers$Solver" "found" "I", Cond.methodLink RX8 34 yX1_putAll, Cond.instanceMethod yX1_putAll, Cond.selects RX1 yX1_putAll yX1_putAll, Cond.initialized RX1, Cond.code yX1_putAll cX1_putAll 3 none, Cond.fieldLink RX1 7 "SeedMakers$Board" "grid" "LSeedMakers$Grid;", Cond.fieldLink RX1 13 "SeedMakers$Grid" "cells" "I", Cond.methodLink RX1 35 yX1_clear, Cond.instanceMethod yX1_clear, Cond.selects RX1 yX1_clear yX1_clear, Cond.code yX1_clear cX1_clear 2 none, Cond.fieldLink RX1 19 "SeedMakers$Board" "symbols" "[I", Cond.fieldLink RX1 23 "SeedMakers$Grid" "side" "I"]
def wsX10_needed_r3 : List Cond := [Cond.fieldLink RX1 26 "SeedMakers$Board" "inRow" "[I", Cond.fieldLink RX1 29 "SeedMakers$Board" "inColumn" "[I", Cond.fieldLink RX1 32 "SeedMakers$Board" "inBox" "[I", Cond.methodLink RX1 38 yX1_put, Cond.instanceMethod yX1_put, Cond.selects RX1 yX1_put yX1_put, Cond.code yX1_put cX1_put 3 none, Cond.methodLink RX1 54 yX1_flip, Cond.instanceMethod yX1_flip, Cond.selects RX1 yX1_flip yX1_flip, Cond.code yX1_flip cX1_flip 3 none, Cond.fieldLink RX1 45 "SeedMakers$Grid" "row" "[I", Cond.fieldLink RX1 48 "SeedMakers$Grid" "column" "[I", Cond.fieldLink RX1 51 "SeedMakers$Grid" "box" "[I", Cond.methodLink RX8 38 yX1_isEmpty, Cond.instanceMethod yX1_isEmpty, Cond.selects RX1 yX1_isEmpty yX1_isEmpty, Cond.code yX1_isEmpty cX1_isEmpty 2 (some .boolean), Cond.methodLink RX8 42 yX8_search, Cond.instanceMethod yX8_search, Cond.selects RX8 yX8_search yX8_search, Cond.code yX8_search cX8_search 6 none, Cond.fieldLink RX8 53 "SeedMakers$Board" "grid" "LSeedMakers$Grid;", Cond.fieldLink RX8 57 "SeedMakers$Grid" "side" "I"]
def wsX10_needed_r4 : List Cond := [Cond.methodLink RX8 46 yX8_tightest, Cond.instanceMethod yX8_tightest, Cond.selects RX8 yX8_tightest yX8_tightest, Cond.code yX8_tightest cX8_tightest 6 (some .int), Cond.constant RX8 69 (2147483647), Cond.methodLink RX8 50 yX1_may, Cond.instanceMethod yX1_may, Cond.selects RX1 yX1_may yX1_may, Cond.code yX1_may cX1_may 2 (some .int), Cond.fieldLink RX1 42 "SeedMakers$Grid" "allSymbols" "I", Cond.methodLink RX8 70 yJ6_bitCount_0f7a4, Cond.static yJ6_bitCount_0f7a4, Cond.initialized RJ6, Cond.code yJ6_bitCount_0f7a4 cJ6_bitCount_0f7a4 1 (some .int), Cond.constant RJ6 265 (1431655765), Cond.constant RJ6 266 (858993459), Cond.constant RJ6 267 (252645135), Cond.methodLink RX8 60 yX1_put, Cond.methodLink RX8 64 yX1_takeOut, Cond.instanceMethod yX1_takeOut, Cond.selects RX1 yX1_takeOut yX1_takeOut, Cond.code yX1_takeOut cX1_takeOut 3 none]
def wsX10_needed : List Cond := .code yX10_needed cX10_needed 2 (some .boolean) :: ((wsX10_needed_r1 ++ (wsX10_needed_r2 ++ (wsX10_needed_r3 ++ wsX10_needed_r4))) ++ wsX100 ++ wsJx000600 ++ wsX50 ++ wsX60 ++ wsX40 ++ wsX80 ++ wsX10)
def wsX10_answers_r1 : List Cond := [Cond.fieldLink RX10 54 "SeedMakers" "typed" "LSeedMakers$Typed;", Cond.fieldLink RX10 47 "SeedMakers" "maker" "LSeedMakers$Maker;", Cond.fieldLink RX10 140 "SeedMakers$Maker" "solver" "LSeedMakers$Solver;", Cond.fieldLink RX10 144 "SeedMakers$Typed" "symbols" "[I", Cond.methodLink RX10 137 yX9_read, Cond.instanceMethod yX9_read, Cond.selects RX9 yX9_read yX9_read, Cond.initialized RX9, Cond.code yX9_read cX9_read 3 (some .int), Cond.fieldLink RX9 7 "SeedMakers$Typed" "length" "I", Cond.fieldLink RX9 22 "SeedMakers$Typed" "board" "LSeedMakers$Board;", Cond.fieldLink RX9 13 "SeedMakers$Typed" "grid" "LSeedMakers$Grid;", Cond.fieldLink RX9 37 "SeedMakers$Grid" "cells" "I", Cond.fieldLink RX9 26 "SeedMakers$Typed" "bytes" "[I", Cond.methodLink RX9 34 yX1_clear, Cond.instanceMethod yX1_clear, Cond.selects RX1 yX1_clear yX1_clear, Cond.initialized RX1, Cond.code yX1_clear cX1_clear 2 none, Cond.fieldLink RX1 7 "SeedMakers$Board" "grid" "LSeedMakers$Grid;", Cond.fieldLink RX1 13 "SeedMakers$Grid" "cells" "I", Cond.fieldLink RX1 19 "SeedMakers$Board" "symbols" "[I", Cond.fieldLink RX1 23 "SeedMakers$Grid" "side" "I", Cond.fieldLink RX1 26 "SeedMakers$Board" "inRow" "[I"]
def wsX10_answers_r2 : List Cond := [Cond.fieldLink RX1 29 "SeedMakers$Board" "inColumn" "[I", Cond.fieldLink RX1 32 "SeedMakers$Board" "inBox" "[I", Cond.methodLink RX9 42 yX9_readByte, Cond.instanceMethod yX9_readByte, Cond.selects RX9 yX9_readByte yX9_readByte, Cond.code yX9_readByte cX9_readByte 4 (some .boolean), Cond.fieldLink RX9 46 "SeedMakers$Grid" "side" "I", Cond.methodLink RX9 49 yX1_may, Cond.instanceMethod yX1_may, Cond.selects RX1 yX1_may yX1_may, Cond.code yX1_may cX1_may 2 (some .int), Cond.fieldLink RX1 42 "SeedMakers$Grid" "allSymbols" "I", Cond.fieldLink RX1 45 "SeedMakers$Grid" "row" "[I", Cond.fieldLink RX1 48 "SeedMakers$Grid" "column" "[I", Cond.fieldLink RX1 51 "SeedMakers$Grid" "box" "[I", Cond.methodLink RX9 53 yX1_put, Cond.instanceMethod yX1_put, Cond.selects RX1 yX1_put yX1_put, Cond.code yX1_put cX1_put 3 none, Cond.methodLink RX1 54 yX1_flip, Cond.instanceMethod yX1_flip, Cond.selects RX1 yX1_flip yX1_flip, Cond.code yX1_flip cX1_flip 3 none, Cond.methodLink RX10 147 yX8_count]
def wsX10_answers_r3 : List Cond := [Cond.instanceMethod yX8_count, Cond.selects RX8 yX8_count yX8_count, Cond.initialized RX8, Cond.code yX8_count cX8_count 5 (some .int), Cond.fieldLink RX8 21 "SeedMakers$Solver" "board" "LSeedMakers$Board;", Cond.fieldLink RX8 30 "SeedMakers$Solver" "open" "[I", Cond.fieldLink RX8 7 "SeedMakers$Solver" "limit" "I", Cond.fieldLink RX8 13 "SeedMakers$Solver" "found" "I", Cond.methodLink RX8 34 yX1_putAll, Cond.instanceMethod yX1_putAll, Cond.selects RX1 yX1_putAll yX1_putAll, Cond.code yX1_putAll cX1_putAll 3 none, Cond.methodLink RX1 35 yX1_clear, Cond.methodLink RX1 38 yX1_put, Cond.methodLink RX8 38 yX1_isEmpty, Cond.instanceMethod yX1_isEmpty, Cond.selects RX1 yX1_isEmpty yX1_isEmpty, Cond.code yX1_isEmpty cX1_isEmpty 2 (some .boolean), Cond.methodLink RX8 42 yX8_search, Cond.instanceMethod yX8_search, Cond.selects RX8 yX8_search yX8_search, Cond.code yX8_search cX8_search 6 none, Cond.fieldLink RX8 53 "SeedMakers$Board" "grid" "LSeedMakers$Grid;", Cond.fieldLink RX8 57 "SeedMakers$Grid" "side" "I"]
def wsX10_answers_r4 : List Cond := [Cond.methodLink RX8 46 yX8_tightest, Cond.instanceMethod yX8_tightest, Cond.selects RX8 yX8_tightest yX8_tightest, Cond.code yX8_tightest cX8_tightest 6 (some .int), Cond.constant RX8 69 (2147483647), Cond.methodLink RX8 50 yX1_may, Cond.methodLink RX8 70 yJ6_bitCount_0f7a4, Cond.static yJ6_bitCount_0f7a4, Cond.initialized RJ6, Cond.code yJ6_bitCount_0f7a4 cJ6_bitCount_0f7a4 1 (some .int), Cond.constant RJ6 265 (1431655765), Cond.constant RJ6 266 (858993459), Cond.constant RJ6 267 (252645135), Cond.methodLink RX8 60 yX1_put, Cond.methodLink RX8 64 yX1_takeOut, Cond.instanceMethod yX1_takeOut, Cond.selects RX1 yX1_takeOut yX1_takeOut, Cond.code yX1_takeOut cX1_takeOut 3 none]
def wsX10_answers : List Cond := .code yX10_answers cX10_answers 2 (some .int) :: ((wsX10_answers_r1 ++ (wsX10_answers_r2 ++ (wsX10_answers_r3 ++ wsX10_answers_r4))) ++ wsX100 ++ wsX50 ++ wsX90 ++ wsX40 ++ wsX10 ++ wsX80)
def wsX10_unit : List Cond := .code yX10_unit cX10_unit 2 (some .boolean) :: ([.fieldLink RX10 54 "SeedMakers" "typed" "LSeedMakers$Typed;", .methodLink RX10 153 yX9_add, .instanceMethod yX9_add, .selects RX9 yX9_add yX9_add, .initialized RX9, .code yX9_add cX9_add 2 (some .boolean), .fieldLink RX9 7 "SeedMakers$Typed" "length" "I", .fieldLink RX9 26 "SeedMakers$Typed" "bytes" "[I"] ++ wsX100 ++ wsX90)
def wsX10_text : List Cond := .code yX10_text cX10_text 2 (some .int) :: ([.fieldLink RX10 47 "SeedMakers" "maker" "LSeedMakers$Maker;", .fieldLink RX10 93 "SeedMakers$Maker" "made" "Z", .fieldLink RX10 12 "SeedMakers" "grid" "LSeedMakers$Grid;", .fieldLink RX10 97 "SeedMakers$Maker" "givens" "[I", .methodLink RX10 61 yX4_has, .instanceMethod yX4_has, .selects RX4 yX4_has yX4_has, .initialized RX4, .code yX4_has cX4_has 2 (some .boolean), .fieldLink RX4 13 "SeedMakers$Grid" "cells" "I", .methodLink RX10 156 yX9_byteOf, .static yX9_byteOf, .initialized RX9, .code yX9_byteOf cX9_byteOf 1 (some .int)] ++ wsX100 ++ wsX50 ++ wsX40)
def wsX11_init : List Cond := .code yX11_init cX11_init 2 none :: ([.methodLink RX11 1 objectInit, .instanceMethod objectInit, .code objectInit ⟨#[0xb1]⟩ 1 none, .arrayClass .int, .fieldLink RX11 7 "SeedMakersModel" "themes" "[I", .constant RX11 13 (1000000), .fieldLink RX11 14 "SeedMakersModel" "mostAim" "I", .fieldLink RX11 18 "SeedMakersModel" "tells" "[I", .fieldLink RX11 21 "SeedMakersModel" "puzzle" "[I", .fieldLink RX11 24 "SeedMakersModel" "whole" "[I", .fieldLink RX11 27 "SeedMakersModel" "givens" "[I", .fieldLink RX11 30 "SeedMakersModel" "drawn" "[I", .fieldLink RX11 33 "SeedMakersModel" "tried" "[I", .fieldLink RX11 36 "SeedMakersModel" "known" "[I", .fieldLink RX11 39 "SeedMakersModel" "row" "[I", .fieldLink RX11 42 "SeedMakersModel" "text" "[I", .fieldLink RX11 45 "SeedMakersModel" "n" "I", .fieldLink RX11 48 "SeedMakersModel" "wide" "I", .fieldLink RX11 51 "SeedMakersModel" "high" "I"] ++ wsX110)
def wsX11_thrown : List Cond := .code yX11_thrown cX11_thrown 1 (some .int) :: ([.fieldLink RX11 54 "SeedMakersModel" "thrown" "I"] ++ wsX110)
def wsX11_throwsIf : List Cond := .code yX11_throwsIf cX11_throwsIf 3 (some .boolean) :: ([.fieldLink RX11 54 "SeedMakersModel" "thrown" "I"] ++ wsX110)
def wsX11_cells : List Cond := .code yX11_cells cX11_cells 1 (some .int) :: ([.fieldLink RX11 45 "SeedMakersModel" "n" "I"] ++ wsX110)
def wsX11_isCell : List Cond := .code yX11_isCell cX11_isCell 2 (some .boolean) :: ([.methodLink RX11 57 yX11_cells, .instanceMethod yX11_cells, .selects RX11 yX11_cells yX11_cells, .initialized RX11, .code yX11_cells cX11_cells 1 (some .int), .fieldLink RX11 45 "SeedMakersModel" "n" "I"] ++ wsX110)
def wsX11_sees : List Cond := .code yX11_sees cX11_sees 3 (some .boolean) :: ([.fieldLink RX11 45 "SeedMakersModel" "n" "I", .fieldLink RX11 51 "SeedMakersModel" "high" "I", .fieldLink RX11 48 "SeedMakersModel" "wide" "I"] ++ wsX110)
def wsX11_symmetry : List Cond := .code yX11_symmetry cX11_symmetry 2 (some .boolean) :: ([.fieldLink RX11 54 "SeedMakersModel" "thrown" "I", .fieldLink RX11 61 "SeedMakersModel" "symmetry" "I"] ++ wsX110)
def wsX11_theme : List Cond := .code yX11_theme cX11_theme 3 none :: ([.fieldLink RX11 7 "SeedMakersModel" "themes" "[I", .methodLink RX11 64 yX11_isCell, .instanceMethod yX11_isCell, .selects RX11 yX11_isCell yX11_isCell, .initialized RX11, .code yX11_isCell cX11_isCell 2 (some .boolean), .methodLink RX11 57 yX11_cells, .instanceMethod yX11_cells, .selects RX11 yX11_cells yX11_cells, .code yX11_cells cX11_cells 1 (some .int), .fieldLink RX11 45 "SeedMakersModel" "n" "I", .methodLink RX11 68 yX11_throwsIf, .instanceMethod yX11_throwsIf, .selects RX11 yX11_throwsIf yX11_throwsIf, .code yX11_throwsIf cX11_throwsIf 3 (some .boolean), .fieldLink RX11 54 "SeedMakersModel" "thrown" "I"] ++ wsX110)
def wsX11_aim : List Cond := .code yX11_aim cX11_aim 4 none :: ([.fieldLink RX11 72 "SeedMakersModel" "easyAim" "I", .fieldLink RX11 75 "SeedMakersModel" "leastAim" "I", .fieldLink RX11 14 "SeedMakersModel" "mostAim" "I", .methodLink RX11 68 yX11_throwsIf, .instanceMethod yX11_throwsIf, .selects RX11 yX11_throwsIf yX11_throwsIf, .initialized RX11, .code yX11_throwsIf cX11_throwsIf 3 (some .boolean), .fieldLink RX11 54 "SeedMakersModel" "thrown" "I"] ++ wsX110)
def wsX11_turned : List Cond := .code yX11_turned cX11_turned 4 (some .int) :: ([.fieldLink RX11 45 "SeedMakersModel" "n" "I", .fieldLink RX11 61 "SeedMakersModel" "symmetry" "I"] ++ wsX110)
def wsX11_leastOf : List Cond := .code yX11_leastOf cX11_leastOf 5 (some .int) :: ([.methodLink RX11 78 yX11_turned, .instanceMethod yX11_turned, .selects RX11 yX11_turned yX11_turned, .initialized RX11, .code yX11_turned cX11_turned 4 (some .int), .fieldLink RX11 45 "SeedMakersModel" "n" "I", .fieldLink RX11 61 "SeedMakersModel" "symmetry" "I"] ++ wsX110)
def wsX11_hasTheme : List Cond := .code yX11_hasTheme cX11_hasTheme 4 (some .boolean) :: ([.fieldLink RX11 7 "SeedMakersModel" "themes" "[I", .methodLink RX11 57 yX11_cells, .instanceMethod yX11_cells, .selects RX11 yX11_cells yX11_cells, .initialized RX11, .code yX11_cells cX11_cells 1 (some .int), .fieldLink RX11 45 "SeedMakersModel" "n" "I", .methodLink RX11 82 yX11_leastOf, .instanceMethod yX11_leastOf, .selects RX11 yX11_leastOf yX11_leastOf, .code yX11_leastOf cX11_leastOf 5 (some .int), .methodLink RX11 78 yX11_turned, .instanceMethod yX11_turned, .selects RX11 yX11_turned yX11_turned, .code yX11_turned cX11_turned 4 (some .int), .fieldLink RX11 61 "SeedMakersModel" "symmetry" "I"] ++ wsX110)
def wsX11_takeOut : List Cond := .code yX11_takeOut cX11_takeOut 3 none :: ([.fieldLink RX11 27 "SeedMakersModel" "givens" "[I", .methodLink RX11 57 yX11_cells, .instanceMethod yX11_cells, .selects RX11 yX11_cells yX11_cells, .initialized RX11, .code yX11_cells cX11_cells 1 (some .int), .fieldLink RX11 45 "SeedMakersModel" "n" "I", .methodLink RX11 82 yX11_leastOf, .instanceMethod yX11_leastOf, .selects RX11 yX11_leastOf yX11_leastOf, .code yX11_leastOf cX11_leastOf 5 (some .int), .methodLink RX11 78 yX11_turned, .instanceMethod yX11_turned, .selects RX11 yX11_turned yX11_turned, .code yX11_turned cX11_turned 4 (some .int), .fieldLink RX11 61 "SeedMakersModel" "symmetry" "I"] ++ wsX110)
def wsX11_putBack : List Cond := .code yX11_putBack cX11_putBack 3 none :: ([.fieldLink RX11 27 "SeedMakersModel" "givens" "[I", .fieldLink RX11 30 "SeedMakersModel" "drawn" "[I", .methodLink RX11 57 yX11_cells, .instanceMethod yX11_cells, .selects RX11 yX11_cells yX11_cells, .initialized RX11, .code yX11_cells cX11_cells 1 (some .int), .fieldLink RX11 45 "SeedMakersModel" "n" "I", .methodLink RX11 82 yX11_leastOf, .instanceMethod yX11_leastOf, .selects RX11 yX11_leastOf yX11_leastOf, .code yX11_leastOf cX11_leastOf 5 (some .int), .methodLink RX11 78 yX11_turned, .instanceMethod yX11_turned, .selects RX11 yX11_turned yX11_turned, .code yX11_turned cX11_turned 4 (some .int), .fieldLink RX11 61 "SeedMakersModel" "symmetry" "I"] ++ wsX110)
def wsX11_fits : List Cond := .code yX11_fits cX11_fits 4 (some .boolean) :: ([.fieldLink RX11 33 "SeedMakersModel" "tried" "[I", .fieldLink RX11 27 "SeedMakersModel" "givens" "[I", .methodLink RX11 57 yX11_cells, .instanceMethod yX11_cells, .selects RX11 yX11_cells yX11_cells, .initialized RX11, .code yX11_cells cX11_cells 1 (some .int), .fieldLink RX11 45 "SeedMakersModel" "n" "I", .methodLink RX11 85 yX11_sees, .instanceMethod yX11_sees, .selects RX11 yX11_sees yX11_sees, .code yX11_sees cX11_sees 3 (some .boolean), .fieldLink RX11 51 "SeedMakersModel" "high" "I", .fieldLink RX11 48 "SeedMakersModel" "wide" "I"] ++ wsX110)
def wsX11_countUpTo : List Cond := .code yX11_countUpTo cX11_countUpTo 7 (some .int) :: ([.fieldLink RX11 27 "SeedMakersModel" "givens" "[I", .fieldLink RX11 45 "SeedMakersModel" "n" "I", .fieldLink RX11 33 "SeedMakersModel" "tried" "[I", .methodLink RX11 57 yX11_cells, .instanceMethod yX11_cells, .selects RX11 yX11_cells yX11_cells, .initialized RX11, .code yX11_cells cX11_cells 1 (some .int), .methodLink RX11 89 yX11_fits, .instanceMethod yX11_fits, .selects RX11 yX11_fits yX11_fits, .code yX11_fits cX11_fits 4 (some .boolean), .methodLink RX11 85 yX11_sees, .instanceMethod yX11_sees, .selects RX11 yX11_sees yX11_sees, .code yX11_sees cX11_sees 3 (some .boolean), .fieldLink RX11 51 "SeedMakersModel" "high" "I", .fieldLink RX11 48 "SeedMakersModel" "wide" "I"] ++ wsX110)
def wsX11_may : List Cond := .code yX11_may cX11_may 4 (some .boolean) :: ([.fieldLink RX11 36 "SeedMakersModel" "known" "[I", .methodLink RX11 57 yX11_cells, .instanceMethod yX11_cells, .selects RX11 yX11_cells yX11_cells, .initialized RX11, .code yX11_cells cX11_cells 1 (some .int), .fieldLink RX11 45 "SeedMakersModel" "n" "I", .methodLink RX11 85 yX11_sees, .instanceMethod yX11_sees, .selects RX11 yX11_sees yX11_sees, .code yX11_sees cX11_sees 3 (some .boolean), .fieldLink RX11 51 "SeedMakersModel" "high" "I", .fieldLink RX11 48 "SeedMakersModel" "wide" "I"] ++ wsX110)
def wsX11_isTogether : List Cond := .code yX11_isTogether cX11_isTogether 4 (some .boolean) :: ([.fieldLink RX11 45 "SeedMakersModel" "n" "I", .fieldLink RX11 51 "SeedMakersModel" "high" "I", .fieldLink RX11 48 "SeedMakersModel" "wide" "I"] ++ wsX110)
def wsX11_isSingle : List Cond := .code yX11_isSingle cX11_isSingle 7 (some .boolean) :: ([.fieldLink RX11 45 "SeedMakersModel" "n" "I", .methodLink RX11 92 yX11_may, .instanceMethod yX11_may, .selects RX11 yX11_may yX11_may, .initialized RX11, .code yX11_may cX11_may 4 (some .boolean), .fieldLink RX11 36 "SeedMakersModel" "known" "[I", .methodLink RX11 57 yX11_cells, .instanceMethod yX11_cells, .selects RX11 yX11_cells yX11_cells, .code yX11_cells cX11_cells 1 (some .int), .methodLink RX11 85 yX11_sees, .instanceMethod yX11_sees, .selects RX11 yX11_sees yX11_sees, .code yX11_sees cX11_sees 3 (some .boolean), .fieldLink RX11 51 "SeedMakersModel" "high" "I", .fieldLink RX11 48 "SeedMakersModel" "wide" "I", .methodLink RX11 95 yX11_isTogether, .instanceMethod yX11_isTogether, .selects RX11 yX11_isTogether yX11_isTogether, .code yX11_isTogether cX11_isTogether 4 (some .boolean)] ++ wsX110)
def wsX11_countLeft_r1 : List Cond := [Cond.fieldLink RX11 36 "SeedMakersModel" "known" "[I", Cond.fieldLink RX11 27 "SeedMakersModel" "givens" "[I", Cond.fieldLink RX11 45 "SeedMakersModel" "n" "I", Cond.methodLink RX11 57 yX11_cells, Cond.instanceMethod yX11_cells, Cond.selects RX11 yX11_cells yX11_cells, Cond.initialized RX11, Cond.code yX11_cells cX11_cells 1 (some .int), Cond.methodLink RX11 92 yX11_may, Cond.instanceMethod yX11_may, Cond.selects RX11 yX11_may yX11_may, Cond.code yX11_may cX11_may 4 (some .boolean), Cond.methodLink RX11 85 yX11_sees, Cond.instanceMethod yX11_sees, Cond.selects RX11 yX11_sees yX11_sees, Cond.code yX11_sees cX11_sees 3 (some .boolean), Cond.fieldLink RX11 51 "SeedMakersModel" "high" "I", Cond.fieldLink RX11 48 "SeedMakersModel" "wide" "I", Cond.methodLink RX11 99 yX11_isSingle, Cond.instanceMethod yX11_isSingle, Cond.selects RX11 yX11_isSingle yX11_isSingle, Cond.code yX11_isSingle cX11_isSingle 7 (some .boolean), Cond.methodLink RX11 95 yX11_isTogether, Cond.instanceMethod yX11_isTogether]
def wsX11_countLeft_r2 : List Cond := [Cond.selects RX11 yX11_isTogether yX11_isTogether, Cond.code yX11_isTogether cX11_isTogether 4 (some .boolean)]
def wsX11_countLeft : List Cond := .code yX11_countLeft cX11_countLeft 4 (some .int) :: ((wsX11_countLeft_r1 ++ wsX11_countLeft_r2) ++ wsX110)
def wsX11_below : List Cond := .code yX11_below cX11_below 2 (some .int) :: ([.fieldLink RX11 102 "SeedMakersModel" "chance" "J", .constantLong RX11 106 (6364136223846793005), .constantLong RX11 108 (1442695040888963407)] ++ wsX110)
def wsX11_mayDraw : List Cond := .code yX11_mayDraw cX11_mayDraw 4 (some .boolean) :: ([.fieldLink RX11 30 "SeedMakersModel" "drawn" "[I", .methodLink RX11 57 yX11_cells, .instanceMethod yX11_cells, .selects RX11 yX11_cells yX11_cells, .initialized RX11, .code yX11_cells cX11_cells 1 (some .int), .fieldLink RX11 45 "SeedMakersModel" "n" "I", .methodLink RX11 85 yX11_sees, .instanceMethod yX11_sees, .selects RX11 yX11_sees yX11_sees, .code yX11_sees cX11_sees 3 (some .boolean), .fieldLink RX11 51 "SeedMakersModel" "high" "I", .fieldLink RX11 48 "SeedMakersModel" "wide" "I"] ++ wsX110)
def wsX11_countDraw : List Cond := .code yX11_countDraw cX11_countDraw 4 (some .int) :: ([.fieldLink RX11 45 "SeedMakersModel" "n" "I", .methodLink RX11 110 yX11_mayDraw, .instanceMethod yX11_mayDraw, .selects RX11 yX11_mayDraw yX11_mayDraw, .initialized RX11, .code yX11_mayDraw cX11_mayDraw 4 (some .boolean), .fieldLink RX11 30 "SeedMakersModel" "drawn" "[I", .methodLink RX11 57 yX11_cells, .instanceMethod yX11_cells, .selects RX11 yX11_cells yX11_cells, .code yX11_cells cX11_cells 1 (some .int), .methodLink RX11 85 yX11_sees, .instanceMethod yX11_sees, .selects RX11 yX11_sees yX11_sees, .code yX11_sees cX11_sees 3 (some .boolean), .fieldLink RX11 51 "SeedMakersModel" "high" "I", .fieldLink RX11 48 "SeedMakersModel" "wide" "I"] ++ wsX110)
def wsX11_empty : List Cond := .code yX11_empty cX11_empty 2 none :: ([.fieldLink RX11 30 "SeedMakersModel" "drawn" "[I"] ++ wsX110)
def wsX11_draw_r1 : List Cond := [Cond.fieldLink RX11 45 "SeedMakersModel" "n" "I", Cond.fieldLink RX11 30 "SeedMakersModel" "drawn" "[I", Cond.fieldLink RX11 18 "SeedMakersModel" "tells" "[I", Cond.methodLink RX11 113 yX11_empty, Cond.instanceMethod yX11_empty, Cond.selects RX11 yX11_empty yX11_empty, Cond.initialized RX11, Cond.code yX11_empty cX11_empty 2 none, Cond.methodLink RX11 57 yX11_cells, Cond.instanceMethod yX11_cells, Cond.selects RX11 yX11_cells yX11_cells, Cond.code yX11_cells cX11_cells 1 (some .int), Cond.methodLink RX11 116 yX11_countDraw, Cond.instanceMethod yX11_countDraw, Cond.selects RX11 yX11_countDraw yX11_countDraw, Cond.code yX11_countDraw cX11_countDraw 4 (some .int), Cond.methodLink RX11 110 yX11_mayDraw, Cond.instanceMethod yX11_mayDraw, Cond.selects RX11 yX11_mayDraw yX11_mayDraw, Cond.code yX11_mayDraw cX11_mayDraw 4 (some .boolean), Cond.methodLink RX11 85 yX11_sees, Cond.instanceMethod yX11_sees, Cond.selects RX11 yX11_sees yX11_sees, Cond.code yX11_sees cX11_sees 3 (some .boolean)]
def wsX11_draw_r2 : List Cond := [Cond.fieldLink RX11 51 "SeedMakersModel" "high" "I", Cond.fieldLink RX11 48 "SeedMakersModel" "wide" "I", Cond.methodLink RX11 119 yX11_below, Cond.instanceMethod yX11_below, Cond.selects RX11 yX11_below yX11_below, Cond.code yX11_below cX11_below 2 (some .int), Cond.fieldLink RX11 102 "SeedMakersModel" "chance" "J", Cond.constantLong RX11 106 (6364136223846793005), Cond.constantLong RX11 108 (1442695040888963407)]
def wsX11_draw : List Cond := .code yX11_draw cX11_draw 7 (some .boolean) :: ((wsX11_draw_r1 ++ wsX11_draw_r2) ++ wsX110)
def wsX11_countGivens : List Cond := .code yX11_countGivens cX11_countGivens 3 (some .int) :: ([.fieldLink RX11 27 "SeedMakersModel" "givens" "[I", .methodLink RX11 57 yX11_cells, .instanceMethod yX11_cells, .selects RX11 yX11_cells yX11_cells, .initialized RX11, .code yX11_cells cX11_cells 1 (some .int), .fieldLink RX11 45 "SeedMakersModel" "n" "I"] ++ wsX110)
def wsX11_isGood_r1 : List Cond := [Cond.fieldLink RX11 27 "SeedMakersModel" "givens" "[I", Cond.fieldLink RX11 30 "SeedMakersModel" "drawn" "[I", Cond.fieldLink RX11 126 "SeedMakersModel" "rows" "I", Cond.fieldLink RX11 39 "SeedMakersModel" "row" "[I", Cond.fieldLink RX11 18 "SeedMakersModel" "tells" "[I", Cond.fieldLink RX11 75 "SeedMakersModel" "leastAim" "I", Cond.fieldLink RX11 14 "SeedMakersModel" "mostAim" "I", Cond.fieldLink RX11 72 "SeedMakersModel" "easyAim" "I", Cond.methodLink RX11 122 yX11_draw, Cond.instanceMethod yX11_draw, Cond.selects RX11 yX11_draw yX11_draw, Cond.initialized RX11, Cond.code yX11_draw cX11_draw 7 (some .boolean), Cond.fieldLink RX11 45 "SeedMakersModel" "n" "I", Cond.methodLink RX11 113 yX11_empty, Cond.instanceMethod yX11_empty, Cond.selects RX11 yX11_empty yX11_empty, Cond.code yX11_empty cX11_empty 2 none, Cond.methodLink RX11 57 yX11_cells, Cond.instanceMethod yX11_cells, Cond.selects RX11 yX11_cells yX11_cells, Cond.code yX11_cells cX11_cells 1 (some .int), Cond.methodLink RX11 116 yX11_countDraw, Cond.instanceMethod yX11_countDraw]
def wsX11_isGood_r2 : List Cond := [Cond.selects RX11 yX11_countDraw yX11_countDraw, Cond.code yX11_countDraw cX11_countDraw 4 (some .int), Cond.methodLink RX11 110 yX11_mayDraw, Cond.instanceMethod yX11_mayDraw, Cond.selects RX11 yX11_mayDraw yX11_mayDraw, Cond.code yX11_mayDraw cX11_mayDraw 4 (some .boolean), Cond.methodLink RX11 85 yX11_sees, Cond.instanceMethod yX11_sees, Cond.selects RX11 yX11_sees yX11_sees, Cond.code yX11_sees cX11_sees 3 (some .boolean), Cond.fieldLink RX11 51 "SeedMakersModel" "high" "I", Cond.fieldLink RX11 48 "SeedMakersModel" "wide" "I", Cond.methodLink RX11 119 yX11_below, Cond.instanceMethod yX11_below, Cond.selects RX11 yX11_below yX11_below, Cond.code yX11_below cX11_below 2 (some .int), Cond.fieldLink RX11 102 "SeedMakersModel" "chance" "J", Cond.constantLong RX11 106 (6364136223846793005), Cond.constantLong RX11 108 (1442695040888963407), Cond.methodLink RX11 82 yX11_leastOf, Cond.instanceMethod yX11_leastOf, Cond.selects RX11 yX11_leastOf yX11_leastOf, Cond.code yX11_leastOf cX11_leastOf 5 (some .int), Cond.methodLink RX11 78 yX11_turned]
def wsX11_isGood_r3 : List Cond := [Cond.instanceMethod yX11_turned, Cond.selects RX11 yX11_turned yX11_turned, Cond.code yX11_turned cX11_turned 4 (some .int), Cond.fieldLink RX11 61 "SeedMakersModel" "symmetry" "I", Cond.methodLink RX11 129 yX11_hasTheme, Cond.instanceMethod yX11_hasTheme, Cond.selects RX11 yX11_hasTheme yX11_hasTheme, Cond.code yX11_hasTheme cX11_hasTheme 4 (some .boolean), Cond.fieldLink RX11 7 "SeedMakersModel" "themes" "[I", Cond.methodLink RX11 132 yX11_takeOut, Cond.instanceMethod yX11_takeOut, Cond.selects RX11 yX11_takeOut yX11_takeOut, Cond.code yX11_takeOut cX11_takeOut 3 none, Cond.methodLink RX11 136 yX11_countUpTo, Cond.instanceMethod yX11_countUpTo, Cond.selects RX11 yX11_countUpTo yX11_countUpTo, Cond.code yX11_countUpTo cX11_countUpTo 7 (some .int), Cond.fieldLink RX11 33 "SeedMakersModel" "tried" "[I", Cond.methodLink RX11 89 yX11_fits, Cond.instanceMethod yX11_fits, Cond.selects RX11 yX11_fits yX11_fits, Cond.code yX11_fits cX11_fits 4 (some .boolean), Cond.methodLink RX11 139 yX11_putBack, Cond.instanceMethod yX11_putBack]
def wsX11_isGood_r4 : List Cond := [Cond.selects RX11 yX11_putBack yX11_putBack, Cond.code yX11_putBack cX11_putBack 3 none, Cond.methodLink RX11 142 yX11_countGivens, Cond.instanceMethod yX11_countGivens, Cond.selects RX11 yX11_countGivens yX11_countGivens, Cond.code yX11_countGivens cX11_countGivens 3 (some .int), Cond.methodLink RX11 145 yX11_countLeft, Cond.instanceMethod yX11_countLeft, Cond.selects RX11 yX11_countLeft yX11_countLeft, Cond.code yX11_countLeft cX11_countLeft 4 (some .int), Cond.fieldLink RX11 36 "SeedMakersModel" "known" "[I", Cond.methodLink RX11 92 yX11_may, Cond.instanceMethod yX11_may, Cond.selects RX11 yX11_may yX11_may, Cond.code yX11_may cX11_may 4 (some .boolean), Cond.methodLink RX11 99 yX11_isSingle, Cond.instanceMethod yX11_isSingle, Cond.selects RX11 yX11_isSingle yX11_isSingle, Cond.code yX11_isSingle cX11_isSingle 7 (some .boolean), Cond.methodLink RX11 95 yX11_isTogether, Cond.instanceMethod yX11_isTogether, Cond.selects RX11 yX11_isTogether yX11_isTogether, Cond.code yX11_isTogether cX11_isTogether 4 (some .boolean)]
def wsX11_isGood : List Cond := .code yX11_isGood cX11_isGood 5 (some .boolean) :: ((wsX11_isGood_r1 ++ (wsX11_isGood_r2 ++ (wsX11_isGood_r3 ++ wsX11_isGood_r4))) ++ wsX110)
def wsX11_make_r1 : List Cond := [Cond.fieldLink RX11 54 "SeedMakersModel" "thrown" "I", Cond.fieldLink RX11 102 "SeedMakersModel" "chance" "J", Cond.fieldLink RX11 18 "SeedMakersModel" "tells" "[I", Cond.fieldLink RX11 148 "SeedMakersModel" "isMade" "Z", Cond.fieldLink RX11 21 "SeedMakersModel" "puzzle" "[I", Cond.fieldLink RX11 27 "SeedMakersModel" "givens" "[I", Cond.fieldLink RX11 24 "SeedMakersModel" "whole" "[I", Cond.fieldLink RX11 30 "SeedMakersModel" "drawn" "[I", Cond.methodLink RX11 152 yX11_isGood, Cond.instanceMethod yX11_isGood, Cond.selects RX11 yX11_isGood yX11_isGood, Cond.initialized RX11, Cond.code yX11_isGood cX11_isGood 5 (some .boolean), Cond.fieldLink RX11 126 "SeedMakersModel" "rows" "I", Cond.fieldLink RX11 39 "SeedMakersModel" "row" "[I", Cond.fieldLink RX11 75 "SeedMakersModel" "leastAim" "I", Cond.fieldLink RX11 14 "SeedMakersModel" "mostAim" "I", Cond.fieldLink RX11 72 "SeedMakersModel" "easyAim" "I", Cond.methodLink RX11 122 yX11_draw, Cond.instanceMethod yX11_draw, Cond.selects RX11 yX11_draw yX11_draw, Cond.code yX11_draw cX11_draw 7 (some .boolean), Cond.fieldLink RX11 45 "SeedMakersModel" "n" "I", Cond.methodLink RX11 113 yX11_empty]
def wsX11_make_r2 : List Cond := [Cond.instanceMethod yX11_empty, Cond.selects RX11 yX11_empty yX11_empty, Cond.code yX11_empty cX11_empty 2 none, Cond.methodLink RX11 57 yX11_cells, Cond.instanceMethod yX11_cells, Cond.selects RX11 yX11_cells yX11_cells, Cond.code yX11_cells cX11_cells 1 (some .int), Cond.methodLink RX11 116 yX11_countDraw, Cond.instanceMethod yX11_countDraw, Cond.selects RX11 yX11_countDraw yX11_countDraw, Cond.code yX11_countDraw cX11_countDraw 4 (some .int), Cond.methodLink RX11 110 yX11_mayDraw, Cond.instanceMethod yX11_mayDraw, Cond.selects RX11 yX11_mayDraw yX11_mayDraw, Cond.code yX11_mayDraw cX11_mayDraw 4 (some .boolean), Cond.methodLink RX11 85 yX11_sees, Cond.instanceMethod yX11_sees, Cond.selects RX11 yX11_sees yX11_sees, Cond.code yX11_sees cX11_sees 3 (some .boolean), Cond.fieldLink RX11 51 "SeedMakersModel" "high" "I", Cond.fieldLink RX11 48 "SeedMakersModel" "wide" "I", Cond.methodLink RX11 119 yX11_below, Cond.instanceMethod yX11_below, Cond.selects RX11 yX11_below yX11_below]
def wsX11_make_r3 : List Cond := [Cond.code yX11_below cX11_below 2 (some .int), Cond.constantLong RX11 106 (6364136223846793005), Cond.constantLong RX11 108 (1442695040888963407), Cond.methodLink RX11 82 yX11_leastOf, Cond.instanceMethod yX11_leastOf, Cond.selects RX11 yX11_leastOf yX11_leastOf, Cond.code yX11_leastOf cX11_leastOf 5 (some .int), Cond.methodLink RX11 78 yX11_turned, Cond.instanceMethod yX11_turned, Cond.selects RX11 yX11_turned yX11_turned, Cond.code yX11_turned cX11_turned 4 (some .int), Cond.fieldLink RX11 61 "SeedMakersModel" "symmetry" "I", Cond.methodLink RX11 129 yX11_hasTheme, Cond.instanceMethod yX11_hasTheme, Cond.selects RX11 yX11_hasTheme yX11_hasTheme, Cond.code yX11_hasTheme cX11_hasTheme 4 (some .boolean), Cond.fieldLink RX11 7 "SeedMakersModel" "themes" "[I", Cond.methodLink RX11 132 yX11_takeOut, Cond.instanceMethod yX11_takeOut, Cond.selects RX11 yX11_takeOut yX11_takeOut, Cond.code yX11_takeOut cX11_takeOut 3 none, Cond.methodLink RX11 136 yX11_countUpTo, Cond.instanceMethod yX11_countUpTo, Cond.selects RX11 yX11_countUpTo yX11_countUpTo]
def wsX11_make_r4 : List Cond := [Cond.code yX11_countUpTo cX11_countUpTo 7 (some .int), Cond.fieldLink RX11 33 "SeedMakersModel" "tried" "[I", Cond.methodLink RX11 89 yX11_fits, Cond.instanceMethod yX11_fits, Cond.selects RX11 yX11_fits yX11_fits, Cond.code yX11_fits cX11_fits 4 (some .boolean), Cond.methodLink RX11 139 yX11_putBack, Cond.instanceMethod yX11_putBack, Cond.selects RX11 yX11_putBack yX11_putBack, Cond.code yX11_putBack cX11_putBack 3 none, Cond.methodLink RX11 142 yX11_countGivens, Cond.instanceMethod yX11_countGivens, Cond.selects RX11 yX11_countGivens yX11_countGivens, Cond.code yX11_countGivens cX11_countGivens 3 (some .int), Cond.methodLink RX11 145 yX11_countLeft, Cond.instanceMethod yX11_countLeft, Cond.selects RX11 yX11_countLeft yX11_countLeft, Cond.code yX11_countLeft cX11_countLeft 4 (some .int), Cond.fieldLink RX11 36 "SeedMakersModel" "known" "[I", Cond.methodLink RX11 92 yX11_may, Cond.instanceMethod yX11_may, Cond.selects RX11 yX11_may yX11_may, Cond.code yX11_may cX11_may 4 (some .boolean), Cond.methodLink RX11 99 yX11_isSingle]
def wsX11_make_r5 : List Cond := [Cond.instanceMethod yX11_isSingle, Cond.selects RX11 yX11_isSingle yX11_isSingle, Cond.code yX11_isSingle cX11_isSingle 7 (some .boolean), Cond.methodLink RX11 95 yX11_isTogether, Cond.instanceMethod yX11_isTogether, Cond.selects RX11 yX11_isTogether yX11_isTogether, Cond.code yX11_isTogether cX11_isTogether 4 (some .boolean)]
def wsX11_make : List Cond := .code yX11_make cX11_make 5 (some .int) :: ((wsX11_make_r1 ++ (wsX11_make_r2 ++ (wsX11_make_r3 ++ (wsX11_make_r4 ++ wsX11_make_r5)))) ++ wsX110)
def wsX11_take : List Cond := .code yX11_take cX11_take 2 none :: ([.fieldLink RX11 27 "SeedMakersModel" "givens" "[I", .fieldLink RX11 21 "SeedMakersModel" "puzzle" "[I"] ++ wsX110)
def wsX11_given : List Cond := .code yX11_given cX11_given 2 (some .int) :: ([.fieldLink RX11 148 "SeedMakersModel" "isMade" "Z", .fieldLink RX11 21 "SeedMakersModel" "puzzle" "[I", .methodLink RX11 64 yX11_isCell, .instanceMethod yX11_isCell, .selects RX11 yX11_isCell yX11_isCell, .initialized RX11, .code yX11_isCell cX11_isCell 2 (some .boolean), .methodLink RX11 57 yX11_cells, .instanceMethod yX11_cells, .selects RX11 yX11_cells yX11_cells, .code yX11_cells cX11_cells 1 (some .int), .fieldLink RX11 45 "SeedMakersModel" "n" "I", .methodLink RX11 68 yX11_throwsIf, .instanceMethod yX11_throwsIf, .selects RX11 yX11_throwsIf yX11_throwsIf, .code yX11_throwsIf cX11_throwsIf 3 (some .boolean), .fieldLink RX11 54 "SeedMakersModel" "thrown" "I"] ++ wsX110)
def wsX11_answer : List Cond := .code yX11_answer cX11_answer 2 (some .int) :: ([.fieldLink RX11 148 "SeedMakersModel" "isMade" "Z", .fieldLink RX11 24 "SeedMakersModel" "whole" "[I", .methodLink RX11 64 yX11_isCell, .instanceMethod yX11_isCell, .selects RX11 yX11_isCell yX11_isCell, .initialized RX11, .code yX11_isCell cX11_isCell 2 (some .boolean), .methodLink RX11 57 yX11_cells, .instanceMethod yX11_cells, .selects RX11 yX11_cells yX11_cells, .code yX11_cells cX11_cells 1 (some .int), .fieldLink RX11 45 "SeedMakersModel" "n" "I", .methodLink RX11 68 yX11_throwsIf, .instanceMethod yX11_throwsIf, .selects RX11 yX11_throwsIf yX11_throwsIf, .code yX11_throwsIf cX11_throwsIf 3 (some .boolean), .fieldLink RX11 54 "SeedMakersModel" "thrown" "I"] ++ wsX110)
def wsX11_told : List Cond := .code yX11_told cX11_told 2 (some .int) :: ([.fieldLink RX11 54 "SeedMakersModel" "thrown" "I", .fieldLink RX11 18 "SeedMakersModel" "tells" "[I"] ++ wsX110)
def wsX11_left_r1 : List Cond := [Cond.fieldLink RX11 54 "SeedMakersModel" "thrown" "I", Cond.fieldLink RX11 148 "SeedMakersModel" "isMade" "Z", Cond.methodLink RX11 155 yX11_take, Cond.instanceMethod yX11_take, Cond.selects RX11 yX11_take yX11_take, Cond.initialized RX11, Cond.code yX11_take cX11_take 2 none, Cond.fieldLink RX11 27 "SeedMakersModel" "givens" "[I", Cond.fieldLink RX11 21 "SeedMakersModel" "puzzle" "[I", Cond.methodLink RX11 145 yX11_countLeft, Cond.instanceMethod yX11_countLeft, Cond.selects RX11 yX11_countLeft yX11_countLeft, Cond.code yX11_countLeft cX11_countLeft 4 (some .int), Cond.fieldLink RX11 36 "SeedMakersModel" "known" "[I", Cond.fieldLink RX11 45 "SeedMakersModel" "n" "I", Cond.methodLink RX11 57 yX11_cells, Cond.instanceMethod yX11_cells, Cond.selects RX11 yX11_cells yX11_cells, Cond.code yX11_cells cX11_cells 1 (some .int), Cond.methodLink RX11 92 yX11_may, Cond.instanceMethod yX11_may, Cond.selects RX11 yX11_may yX11_may, Cond.code yX11_may cX11_may 4 (some .boolean), Cond.methodLink RX11 85 yX11_sees]
def wsX11_left_r2 : List Cond := [Cond.instanceMethod yX11_sees, Cond.selects RX11 yX11_sees yX11_sees, Cond.code yX11_sees cX11_sees 3 (some .boolean), Cond.fieldLink RX11 51 "SeedMakersModel" "high" "I", Cond.fieldLink RX11 48 "SeedMakersModel" "wide" "I", Cond.methodLink RX11 99 yX11_isSingle, Cond.instanceMethod yX11_isSingle, Cond.selects RX11 yX11_isSingle yX11_isSingle, Cond.code yX11_isSingle cX11_isSingle 7 (some .boolean), Cond.methodLink RX11 95 yX11_isTogether, Cond.instanceMethod yX11_isTogether, Cond.selects RX11 yX11_isTogether yX11_isTogether, Cond.code yX11_isTogether cX11_isTogether 4 (some .boolean)]
def wsX11_left : List Cond := .code yX11_left cX11_left 1 (some .int) :: ((wsX11_left_r1 ++ wsX11_left_r2) ++ wsX110)
def wsX11_needed_r1 : List Cond := [Cond.fieldLink RX11 148 "SeedMakersModel" "isMade" "Z", Cond.methodLink RX11 64 yX11_isCell, Cond.instanceMethod yX11_isCell, Cond.selects RX11 yX11_isCell yX11_isCell, Cond.initialized RX11, Cond.code yX11_isCell cX11_isCell 2 (some .boolean), Cond.methodLink RX11 57 yX11_cells, Cond.instanceMethod yX11_cells, Cond.selects RX11 yX11_cells yX11_cells, Cond.code yX11_cells cX11_cells 1 (some .int), Cond.fieldLink RX11 45 "SeedMakersModel" "n" "I", Cond.methodLink RX11 68 yX11_throwsIf, Cond.instanceMethod yX11_throwsIf, Cond.selects RX11 yX11_throwsIf yX11_throwsIf, Cond.code yX11_throwsIf cX11_throwsIf 3 (some .boolean), Cond.fieldLink RX11 54 "SeedMakersModel" "thrown" "I", Cond.methodLink RX11 155 yX11_take, Cond.instanceMethod yX11_take, Cond.selects RX11 yX11_take yX11_take, Cond.code yX11_take cX11_take 2 none, Cond.fieldLink RX11 27 "SeedMakersModel" "givens" "[I", Cond.fieldLink RX11 21 "SeedMakersModel" "puzzle" "[I", Cond.methodLink RX11 142 yX11_countGivens, Cond.instanceMethod yX11_countGivens]
def wsX11_needed_r2 : List Cond := [Cond.selects RX11 yX11_countGivens yX11_countGivens, Cond.code yX11_countGivens cX11_countGivens 3 (some .int), Cond.methodLink RX11 82 yX11_leastOf, Cond.instanceMethod yX11_leastOf, Cond.selects RX11 yX11_leastOf yX11_leastOf, Cond.code yX11_leastOf cX11_leastOf 5 (some .int), Cond.methodLink RX11 78 yX11_turned, Cond.instanceMethod yX11_turned, Cond.selects RX11 yX11_turned yX11_turned, Cond.code yX11_turned cX11_turned 4 (some .int), Cond.fieldLink RX11 61 "SeedMakersModel" "symmetry" "I", Cond.methodLink RX11 132 yX11_takeOut, Cond.instanceMethod yX11_takeOut, Cond.selects RX11 yX11_takeOut yX11_takeOut, Cond.code yX11_takeOut cX11_takeOut 3 none, Cond.methodLink RX11 136 yX11_countUpTo, Cond.instanceMethod yX11_countUpTo, Cond.selects RX11 yX11_countUpTo yX11_countUpTo, Cond.code yX11_countUpTo cX11_countUpTo 7 (some .int), Cond.fieldLink RX11 33 "SeedMakersModel" "tried" "[I", Cond.methodLink RX11 89 yX11_fits, Cond.instanceMethod yX11_fits, Cond.selects RX11 yX11_fits yX11_fits, Cond.code yX11_fits cX11_fits 4 (some .boolean)]
def wsX11_needed_r3 : List Cond := [Cond.methodLink RX11 85 yX11_sees, Cond.instanceMethod yX11_sees, Cond.selects RX11 yX11_sees yX11_sees, Cond.code yX11_sees cX11_sees 3 (some .boolean), Cond.fieldLink RX11 51 "SeedMakersModel" "high" "I", Cond.fieldLink RX11 48 "SeedMakersModel" "wide" "I"]
def wsX11_needed : List Cond := .code yX11_needed cX11_needed 3 (some .boolean) :: ((wsX11_needed_r1 ++ (wsX11_needed_r2 ++ wsX11_needed_r3)) ++ wsX110)
def wsX11_unit : List Cond := .code yX11_unit cX11_unit 2 (some .boolean) :: ([.fieldLink RX11 54 "SeedMakersModel" "thrown" "I", .fieldLink RX11 158 "SeedMakersModel" "size" "I", .fieldLink RX11 42 "SeedMakersModel" "text" "[I"] ++ wsX110)
def wsX11_read : List Cond := .code yX11_read cX11_read 4 (some .int) :: ([.fieldLink RX11 158 "SeedMakersModel" "size" "I", .fieldLink RX11 42 "SeedMakersModel" "text" "[I", .fieldLink RX11 45 "SeedMakersModel" "n" "I", .fieldLink RX11 27 "SeedMakersModel" "givens" "[I", .methodLink RX11 57 yX11_cells, .instanceMethod yX11_cells, .selects RX11 yX11_cells yX11_cells, .initialized RX11, .code yX11_cells cX11_cells 1 (some .int), .methodLink RX11 85 yX11_sees, .instanceMethod yX11_sees, .selects RX11 yX11_sees yX11_sees, .code yX11_sees cX11_sees 3 (some .boolean), .fieldLink RX11 51 "SeedMakersModel" "high" "I", .fieldLink RX11 48 "SeedMakersModel" "wide" "I"] ++ wsX110)
def wsX11_answers_r1 : List Cond := [Cond.fieldLink RX11 54 "SeedMakersModel" "thrown" "I", Cond.fieldLink RX11 158 "SeedMakersModel" "size" "I", Cond.methodLink RX11 161 yX11_read, Cond.instanceMethod yX11_read, Cond.selects RX11 yX11_read yX11_read, Cond.initialized RX11, Cond.code yX11_read cX11_read 4 (some .int), Cond.fieldLink RX11 42 "SeedMakersModel" "text" "[I", Cond.fieldLink RX11 45 "SeedMakersModel" "n" "I", Cond.fieldLink RX11 27 "SeedMakersModel" "givens" "[I", Cond.methodLink RX11 57 yX11_cells, Cond.instanceMethod yX11_cells, Cond.selects RX11 yX11_cells yX11_cells, Cond.code yX11_cells cX11_cells 1 (some .int), Cond.methodLink RX11 85 yX11_sees, Cond.instanceMethod yX11_sees, Cond.selects RX11 yX11_sees yX11_sees, Cond.code yX11_sees cX11_sees 3 (some .boolean), Cond.fieldLink RX11 51 "SeedMakersModel" "high" "I", Cond.fieldLink RX11 48 "SeedMakersModel" "wide" "I", Cond.methodLink RX11 136 yX11_countUpTo, Cond.instanceMethod yX11_countUpTo, Cond.selects RX11 yX11_countUpTo yX11_countUpTo, Cond.code yX11_countUpTo cX11_countUpTo 7 (some .int)]
def wsX11_answers_r2 : List Cond := [Cond.fieldLink RX11 33 "SeedMakersModel" "tried" "[I", Cond.methodLink RX11 89 yX11_fits, Cond.instanceMethod yX11_fits, Cond.selects RX11 yX11_fits yX11_fits, Cond.code yX11_fits cX11_fits 4 (some .boolean)]
def wsX11_answers : List Cond := .code yX11_answers cX11_answers 2 (some .int) :: ((wsX11_answers_r1 ++ wsX11_answers_r2) ++ wsX110)
def wsX11_text : List Cond := .code yX11_text cX11_text 2 (some .int) :: ([.fieldLink RX11 54 "SeedMakersModel" "thrown" "I", .fieldLink RX11 148 "SeedMakersModel" "isMade" "Z", .fieldLink RX11 21 "SeedMakersModel" "puzzle" "[I", .methodLink RX11 57 yX11_cells, .instanceMethod yX11_cells, .selects RX11 yX11_cells yX11_cells, .initialized RX11, .code yX11_cells cX11_cells 1 (some .int), .fieldLink RX11 45 "SeedMakersModel" "n" "I"] ++ wsX110)
def wsJx00060_init_a7421 : List Cond := .code yJx00060_init_a7421 cJx00060_init_a7421 2 none :: ([])
def wsJ9_min_7cf53 : List Cond := .code yJ9_min_7cf53 cJ9_min_7cf53 2 (some .int) :: ([])
def wsL_cell : List Cond := .code yL_cell cL_cell 2 (some .int) :: ([])
def wsL_theme : List Cond := .codeWith yL_theme cL_theme 4 (some .int) [(0, 6, 9, 13), (0, 6, 12, 15)] :: ([.classLink RL 13 "java/lang/ArrayIndexOutOfBoundsException", .classLink RL 15 "java/lang/IllegalArgumentException", .methodLink RL 7 yX10_theme, .instanceMethod yX10_theme, .selects RX10 yX10_theme yX10_theme, .initialized RX10, .code yX10_theme cX10_theme 3 none, .classLink RX10 72 "java/lang/IllegalArgumentException", .initialized "java/lang/IllegalArgumentException", .fieldLink RX10 12 "SeedMakers" "grid" "LSeedMakers$Grid;", .classLink RX10 65 RJx00060, .instantiable RJx00060 6, .initialized RJx00060, .fieldLink RX10 31 "SeedMakers" "themes" "[I", .methodLink RX10 61 yX4_has, .instanceMethod yX4_has, .selects RX4 yX4_has yX4_has, .initialized RX4, .code yX4_has cX4_has 2 (some .boolean), .fieldLink RX4 13 "SeedMakers$Grid" "cells" "I"] ++ wsX100 ++ wsJx000600 ++ wsX40 ++ (vx_atS RX10 76 "java/lang/IllegalArgumentException" ["java/lang/RuntimeException", "java/lang/Exception"]).filter goodWord)
def wsL_aim : List Cond := .codeWith yL_aim cL_aim 5 (some .int) [(0, 7, 10, 15)] :: ([.classLink RL 15 "java/lang/IllegalArgumentException", .methodLink RL 17 yX10_aim, .instanceMethod yX10_aim, .selects RX10 yX10_aim yX10_aim, .initialized RX10, .code yX10_aim cX10_aim 4 none, .classLink RX10 72 "java/lang/IllegalArgumentException", .initialized "java/lang/IllegalArgumentException", .fieldLink RX10 38 "SeedMakers" "aimed" "LSeedMakers$Aim;", .methodLink RX10 81 yX0_set, .instanceMethod yX0_set, .selects RX0 yX0_set yX0_set, .initialized RX0, .code yX0_set cX0_set 4 none, .fieldLink RX0 7 "SeedMakers$Aim" "easy" "I", .fieldLink RX0 13 "SeedMakers$Aim" "least" "I", .fieldLink RX0 19 "SeedMakers$Aim" "most" "I"] ++ wsX100 ++ wsX00 ++ (vx_atS RX10 76 "java/lang/IllegalArgumentException" ["java/lang/RuntimeException", "java/lang/Exception"]).filter goodWord)
def wsL_given : List Cond := .codeWith yL_given cL_given 4 (some .int) [(0, 9, 12, 13)] :: ([.methodLink RL 21 yX10_given, .instanceMethod yX10_given, .selects RX10 yX10_given yX10_given, .initialized RX10, .code yX10_given cX10_given 2 (some .int), .fieldLink RX10 12 "SeedMakers" "grid" "LSeedMakers$Grid;", .classLink RX10 65 RJx00060, .instantiable RJx00060 6, .initialized RJx00060, .fieldLink RX10 47 "SeedMakers" "maker" "LSeedMakers$Maker;", .fieldLink RX10 93 "SeedMakers$Maker" "made" "Z", .fieldLink RX10 97 "SeedMakers$Maker" "givens" "[I", .methodLink RX10 61 yX4_has, .instanceMethod yX4_has, .selects RX4 yX4_has yX4_has, .initialized RX4, .code yX4_has cX4_has 2 (some .boolean), .fieldLink RX4 13 "SeedMakers$Grid" "cells" "I"] ++ wsX100 ++ wsJx000600 ++ wsX50 ++ wsX40)
def wsL_answer : List Cond := .codeWith yL_answer cL_answer 4 (some .int) [(0, 9, 12, 13)] :: ([.methodLink RL 25 yX10_answer, .instanceMethod yX10_answer, .selects RX10 yX10_answer yX10_answer, .initialized RX10, .code yX10_answer cX10_answer 2 (some .int), .fieldLink RX10 12 "SeedMakers" "grid" "LSeedMakers$Grid;", .classLink RX10 65 RJx00060, .instantiable RJx00060 6, .initialized RJx00060, .fieldLink RX10 47 "SeedMakers" "maker" "LSeedMakers$Maker;", .fieldLink RX10 93 "SeedMakers$Maker" "made" "Z", .fieldLink RX10 100 "SeedMakers$Maker" "whole" "[I", .methodLink RX10 61 yX4_has, .instanceMethod yX4_has, .selects RX4 yX4_has yX4_has, .initialized RX4, .code yX4_has cX4_has 2 (some .boolean), .fieldLink RX4 13 "SeedMakers$Grid" "cells" "I"] ++ wsX100 ++ wsJx000600 ++ wsX50 ++ wsX40)
def wsL_needed_r1 : List Cond := [Cond.methodLink RL 28 yX10_needed, Cond.instanceMethod yX10_needed, Cond.selects RX10 yX10_needed yX10_needed, Cond.initialized RX10, Cond.code yX10_needed cX10_needed 2 (some .boolean), Cond.fieldLink RX10 12 "SeedMakers" "grid" "LSeedMakers$Grid;", Cond.classLink RX10 65 RJx00060, Cond.instantiable RJx00060 6, Cond.initialized RJx00060, Cond.fieldLink RX10 47 "SeedMakers" "maker" "LSeedMakers$Maker;", Cond.fieldLink RX10 93 "SeedMakers$Maker" "made" "Z", Cond.fieldLink RX10 23 "SeedMakers" "sets" "LSeedMakers$Sets;", Cond.fieldLink RX10 131 "SeedMakers$Sets" "leastOf" "[I", Cond.methodLink RX10 61 yX4_has, Cond.instanceMethod yX4_has, Cond.selects RX4 yX4_has yX4_has, Cond.initialized RX4, Cond.code yX4_has cX4_has 2 (some .boolean), Cond.fieldLink RX4 13 "SeedMakers$Grid" "cells" "I", Cond.methodLink RX10 134 yX5_needsSet, Cond.instanceMethod yX5_needsSet, Cond.selects RX5 yX5_needsSet yX5_needsSet, Cond.initialized RX5, Cond.code yX5_needsSet cX5_needsSet 5 (some .boolean)]
def wsL_needed_r2 : List Cond := [Cond.fieldLink RX5 32 "SeedMakers$Maker" "grid" "LSeedMakers$Grid;", Cond.fieldLink RX5 80 "SeedMakers$Grid" "cells" "I", Cond.fieldLink RX5 36 "SeedMakers$Maker" "sets" "LSeedMakers$Sets;", Cond.fieldLink RX5 158 "SeedMakers$Sets" "leastOf" "[I", Cond.fieldLink RX5 88 "SeedMakers$Maker" "givens" "[I", Cond.fieldLink RX5 98 "SeedMakers$Maker" "without" "[I", Cond.fieldLink RX5 76 "SeedMakers$Maker" "solver" "LSeedMakers$Solver;", Cond.methodLink RX5 163 yX8_count, Cond.instanceMethod yX8_count, Cond.selects RX8 yX8_count yX8_count, Cond.initialized RX8, Cond.code yX8_count cX8_count 5 (some .int), Cond.fieldLink RX8 21 "SeedMakers$Solver" "board" "LSeedMakers$Board;", Cond.fieldLink RX8 30 "SeedMakers$Solver" "open" "[I", Cond.fieldLink RX8 7 "SeedMakers$Solver" "limit" "I", Cond.fieldLink RX8 13 "SeedMakers$Solver" "found" "I", Cond.methodLink RX8 34 yX1_putAll, Cond.instanceMethod yX1_putAll, Cond.selects RX1 yX1_putAll yX1_putAll, Cond.initialized RX1, Cond.code yX1_putAll cX1_putAll 3 none, Cond.fieldLink RX1 7 "SeedMakers$Board" "grid" "LSeedMakers$Grid;", Cond.fieldLink RX1 13 "SeedMakers$Grid" "cells" "I", Cond.methodLink RX1 35 yX1_clear]
def wsL_needed_r3 : List Cond := [Cond.instanceMethod yX1_clear, Cond.selects RX1 yX1_clear yX1_clear, Cond.code yX1_clear cX1_clear 2 none, Cond.fieldLink RX1 19 "SeedMakers$Board" "symbols" "[I", Cond.fieldLink RX1 23 "SeedMakers$Grid" "side" "I", Cond.fieldLink RX1 26 "SeedMakers$Board" "inRow" "[I", Cond.fieldLink RX1 29 "SeedMakers$Board" "inColumn" "[I", Cond.fieldLink RX1 32 "SeedMakers$Board" "inBox" "[I", Cond.methodLink RX1 38 yX1_put, Cond.instanceMethod yX1_put, Cond.selects RX1 yX1_put yX1_put, Cond.code yX1_put cX1_put 3 none, Cond.methodLink RX1 54 yX1_flip, Cond.instanceMethod yX1_flip, Cond.selects RX1 yX1_flip yX1_flip, Cond.code yX1_flip cX1_flip 3 none, Cond.fieldLink RX1 45 "SeedMakers$Grid" "row" "[I", Cond.fieldLink RX1 48 "SeedMakers$Grid" "column" "[I", Cond.fieldLink RX1 51 "SeedMakers$Grid" "box" "[I", Cond.methodLink RX8 38 yX1_isEmpty, Cond.instanceMethod yX1_isEmpty, Cond.selects RX1 yX1_isEmpty yX1_isEmpty, Cond.code yX1_isEmpty cX1_isEmpty 2 (some .boolean), Cond.methodLink RX8 42 yX8_search]
def wsL_needed_r4 : List Cond := [Cond.instanceMethod yX8_search, Cond.selects RX8 yX8_search yX8_search, Cond.code yX8_search cX8_search 6 none, Cond.fieldLink RX8 53 "SeedMakers$Board" "grid" "LSeedMakers$Grid;", Cond.fieldLink RX8 57 "SeedMakers$Grid" "side" "I", Cond.methodLink RX8 46 yX8_tightest, Cond.instanceMethod yX8_tightest, Cond.selects RX8 yX8_tightest yX8_tightest, Cond.code yX8_tightest cX8_tightest 6 (some .int), Cond.constant RX8 69 (2147483647), Cond.methodLink RX8 50 yX1_may, Cond.instanceMethod yX1_may, Cond.selects RX1 yX1_may yX1_may, Cond.code yX1_may cX1_may 2 (some .int), Cond.fieldLink RX1 42 "SeedMakers$Grid" "allSymbols" "I", Cond.methodLink RX8 70 yJ6_bitCount_0f7a4, Cond.static yJ6_bitCount_0f7a4, Cond.initialized RJ6, Cond.code yJ6_bitCount_0f7a4 cJ6_bitCount_0f7a4 1 (some .int), Cond.constant RJ6 265 (1431655765), Cond.constant RJ6 266 (858993459), Cond.constant RJ6 267 (252645135), Cond.methodLink RX8 60 yX1_put, Cond.methodLink RX8 64 yX1_takeOut]
def wsL_needed_r5 : List Cond := [Cond.instanceMethod yX1_takeOut, Cond.selects RX1 yX1_takeOut yX1_takeOut, Cond.code yX1_takeOut cX1_takeOut 3 none]
def wsL_needed : List Cond := .codeWith yL_needed cL_needed 4 (some .int) [(0, 16, 19, 13)] :: ((wsL_needed_r1 ++ (wsL_needed_r2 ++ (wsL_needed_r3 ++ (wsL_needed_r4 ++ wsL_needed_r5)))) ++ wsX100 ++ wsJx000600 ++ wsX50 ++ wsX60 ++ wsX40 ++ wsX80 ++ wsX10)
def wsL_law0_r1 : List Cond := [Cond.classLink RL 8 RX10, Cond.instantiable RX10 6, Cond.initialized RX10, Cond.classLink RL 41 RX11, Cond.instantiable RX11 22, Cond.initialized RX11, Cond.arrayClass .long, Cond.constantLong RL 60 (4294967295), Cond.methodLink RL 32 yL_cell, Cond.static yL_cell, Cond.initialized RL, Cond.code yL_cell cL_cell 2 (some .int), Cond.methodLink RL 38 yX10_init, Cond.instanceMethod yX10_init, Cond.code yX10_init cX10_init 2 none, Cond.methodLink RX10 1 objectInit, Cond.instanceMethod objectInit, Cond.code objectInit ⟨#[0xb1]⟩ 1 none, Cond.classLink RX10 7 RX4, Cond.instantiable RX4 7, Cond.initialized RX4, Cond.fieldLink RX10 12 "SeedMakers" "grid" "LSeedMakers$Grid;", Cond.classLink RX10 18 RX6, Cond.instantiable RX6 2]
def wsL_law0_r2 : List Cond := [Cond.initialized RX6, Cond.fieldLink RX10 23 "SeedMakers" "sets" "LSeedMakers$Sets;", Cond.fieldLink RX10 27 "SeedMakers$Grid" "cells" "I", Cond.arrayClass .int, Cond.fieldLink RX10 31 "SeedMakers" "themes" "[I", Cond.classLink RX10 35 RX0, Cond.instantiable RX0 3, Cond.initialized RX0, Cond.fieldLink RX10 38 "SeedMakers" "aimed" "LSeedMakers$Aim;", Cond.classLink RX10 42 RX5, Cond.instantiable RX5 20, Cond.initialized RX5, Cond.fieldLink RX10 47 "SeedMakers" "maker" "LSeedMakers$Maker;", Cond.classLink RX10 51 RX9, Cond.instantiable RX9 5, Cond.initialized RX9, Cond.fieldLink RX10 54 "SeedMakers" "typed" "LSeedMakers$Typed;", Cond.methodLink RX10 9 yX4_init, Cond.instanceMethod yX4_init, Cond.code yX4_init cX4_init 8 none, Cond.methodLink RX4 1 objectInit, Cond.fieldLink RX4 7 "SeedMakers$Grid" "side" "I", Cond.fieldLink RX4 13 "SeedMakers$Grid" "cells" "I", Cond.fieldLink RX4 16 "SeedMakers$Grid" "allSymbols" "I"]
def wsL_law0_r3 : List Cond := [Cond.fieldLink RX4 19 "SeedMakers$Grid" "row" "[I", Cond.fieldLink RX4 23 "SeedMakers$Grid" "column" "[I", Cond.fieldLink RX4 26 "SeedMakers$Grid" "box" "[I", Cond.classLink RX4 29 "[[I", Cond.fieldLink RX4 31 "SeedMakers$Grid" "units" "[[I", Cond.methodLink RX10 20 yX6_init, Cond.instanceMethod yX6_init, Cond.code yX6_init cX6_init 3 none, Cond.methodLink RX6 1 objectInit, Cond.fieldLink RX6 7 "SeedMakers$Sets" "grid" "LSeedMakers$Grid;", Cond.fieldLink RX6 13 "SeedMakers$Grid" "cells" "I", Cond.fieldLink RX6 19 "SeedMakers$Sets" "leastOf" "[I", Cond.instanceMethod yX0_init, Cond.code yX0_init cX0_init 1 none, Cond.methodLink RX0 1 objectInit, Cond.fieldLink RX0 7 "SeedMakers$Aim" "easy" "I", Cond.fieldLink RX0 13 "SeedMakers$Aim" "least" "I", Cond.constant RX0 18 (2147483647), Cond.fieldLink RX0 19 "SeedMakers$Aim" "most" "I", Cond.methodLink RX10 44 yX5_init, Cond.instanceMethod yX5_init, Cond.code yX5_init cX5_init 5 none, Cond.methodLink RX5 1 objectInit, Cond.fieldLink RX5 7 "SeedMakers$Maker" "made" "Z"]
def wsL_law0_r4 : List Cond := [Cond.fieldLink RX5 13 "SeedMakers$Maker" "triesMade" "I", Cond.fieldLink RX5 17 "SeedMakers$Maker" "restarts" "I", Cond.fieldLink RX5 20 "SeedMakers$Maker" "takenOut" "I", Cond.fieldLink RX5 23 "SeedMakers$Maker" "putBack" "I", Cond.fieldLink RX5 26 "SeedMakers$Maker" "givenCells" "I", Cond.fieldLink RX5 29 "SeedMakers$Maker" "unknownCells" "I", Cond.fieldLink RX5 32 "SeedMakers$Maker" "grid" "LSeedMakers$Grid;", Cond.fieldLink RX5 36 "SeedMakers$Maker" "sets" "LSeedMakers$Sets;", Cond.fieldLink RX5 40 "SeedMakers$Maker" "themes" "[I", Cond.fieldLink RX5 44 "SeedMakers$Maker" "aimed" "LSeedMakers$Aim;", Cond.classLink RX5 48 RX2, Cond.instantiable RX2 1, Cond.initialized RX2, Cond.fieldLink RX5 51 "SeedMakers$Maker" "chance" "LSeedMakers$Chance;", Cond.classLink RX5 55 RX3, Cond.instantiable RX3 3, Cond.initialized RX3, Cond.fieldLink RX5 60 "SeedMakers$Maker" "drawer" "LSeedMakers$Drawer;", Cond.classLink RX5 64 RX7, Cond.instantiable RX7 2, Cond.initialized RX7, Cond.fieldLink RX5 69 "SeedMakers$Maker" "singles" "LSeedMakers$Singles;", Cond.classLink RX5 73 RX8, Cond.instantiable RX8 4]
def wsL_law0_r5 : List Cond := [Cond.initialized RX8, Cond.fieldLink RX5 76 "SeedMakers$Maker" "solver" "LSeedMakers$Solver;", Cond.fieldLink RX5 80 "SeedMakers$Grid" "cells" "I", Cond.fieldLink RX5 85 "SeedMakers$Maker" "whole" "[I", Cond.fieldLink RX5 88 "SeedMakers$Maker" "givens" "[I", Cond.arrayClass .boolean, Cond.fieldLink RX5 91 "SeedMakers$Maker" "marked" "[Z", Cond.fieldLink RX5 95 "SeedMakers$Maker" "row" "[I", Cond.fieldLink RX5 98 "SeedMakers$Maker" "without" "[I", Cond.instanceMethod yX2_init, Cond.code yX2_init cX2_init 1 none, Cond.methodLink RX2 1 objectInit, Cond.fieldLink RX2 7 "SeedMakers$Chance" "state" "J", Cond.methodLink RX5 57 yX3_init, Cond.instanceMethod yX3_init, Cond.code yX3_init cX3_init 3 none, Cond.methodLink RX3 1 objectInit, Cond.fieldLink RX3 7 "SeedMakers$Drawer" "grid" "LSeedMakers$Grid;", Cond.fieldLink RX3 13 "SeedMakers$Drawer" "chance" "LSeedMakers$Chance;", Cond.classLink RX3 17 RX1, Cond.instantiable RX1 5, Cond.initialized RX1, Cond.fieldLink RX3 22 "SeedMakers$Drawer" "board" "LSeedMakers$Board;", Cond.methodLink RX3 19 yX1_init]
def wsL_law0_r6 : List Cond := [Cond.instanceMethod yX1_init, Cond.code yX1_init cX1_init 2 none, Cond.methodLink RX1 1 objectInit, Cond.fieldLink RX1 7 "SeedMakers$Board" "grid" "LSeedMakers$Grid;", Cond.fieldLink RX1 13 "SeedMakers$Grid" "cells" "I", Cond.fieldLink RX1 19 "SeedMakers$Board" "symbols" "[I", Cond.fieldLink RX1 23 "SeedMakers$Grid" "side" "I", Cond.fieldLink RX1 26 "SeedMakers$Board" "inRow" "[I", Cond.fieldLink RX1 29 "SeedMakers$Board" "inColumn" "[I", Cond.fieldLink RX1 32 "SeedMakers$Board" "inBox" "[I", Cond.methodLink RX1 35 yX1_clear, Cond.instanceMethod yX1_clear, Cond.selects RX1 yX1_clear yX1_clear, Cond.code yX1_clear cX1_clear 2 none, Cond.methodLink RX5 66 yX7_init, Cond.instanceMethod yX7_init, Cond.code yX7_init cX7_init 2 none, Cond.methodLink RX7 1 objectInit, Cond.fieldLink RX7 7 "SeedMakers$Singles" "grid" "LSeedMakers$Grid;", Cond.classLink RX7 13 RX1, Cond.fieldLink RX7 18 "SeedMakers$Singles" "board" "LSeedMakers$Board;", Cond.methodLink RX7 15 yX1_init, Cond.methodLink RX5 75 yX8_init, Cond.instanceMethod yX8_init]
def wsL_law0_r7 : List Cond := [Cond.code yX8_init cX8_init 2 none, Cond.methodLink RX8 1 objectInit, Cond.fieldLink RX8 7 "SeedMakers$Solver" "limit" "I", Cond.fieldLink RX8 13 "SeedMakers$Solver" "found" "I", Cond.classLink RX8 16 RX1, Cond.fieldLink RX8 21 "SeedMakers$Solver" "board" "LSeedMakers$Board;", Cond.fieldLink RX8 25 "SeedMakers$Grid" "cells" "I", Cond.fieldLink RX8 30 "SeedMakers$Solver" "open" "[I", Cond.methodLink RX8 18 yX1_init, Cond.methodLink RX10 53 yX9_init, Cond.instanceMethod yX9_init, Cond.code yX9_init cX9_init 2 none, Cond.methodLink RX9 1 objectInit, Cond.fieldLink RX9 7 "SeedMakers$Typed" "length" "I", Cond.fieldLink RX9 13 "SeedMakers$Typed" "grid" "LSeedMakers$Grid;", Cond.classLink RX9 17 RX1, Cond.fieldLink RX9 22 "SeedMakers$Typed" "board" "LSeedMakers$Board;", Cond.fieldLink RX9 26 "SeedMakers$Typed" "bytes" "[I", Cond.fieldLink RX9 30 "SeedMakers$Board" "symbols" "[I", Cond.fieldLink RX9 33 "SeedMakers$Typed" "symbols" "[I", Cond.methodLink RX9 19 yX1_init, Cond.methodLink RL 43 yX11_init, Cond.instanceMethod yX11_init, Cond.code yX11_init cX11_init 2 none]
def wsL_law0_r8 : List Cond := [Cond.methodLink RX11 1 objectInit, Cond.fieldLink RX11 7 "SeedMakersModel" "themes" "[I", Cond.constant RX11 13 (1000000), Cond.fieldLink RX11 14 "SeedMakersModel" "mostAim" "I", Cond.fieldLink RX11 18 "SeedMakersModel" "tells" "[I", Cond.fieldLink RX11 21 "SeedMakersModel" "puzzle" "[I", Cond.fieldLink RX11 24 "SeedMakersModel" "whole" "[I", Cond.fieldLink RX11 27 "SeedMakersModel" "givens" "[I", Cond.fieldLink RX11 30 "SeedMakersModel" "drawn" "[I", Cond.fieldLink RX11 33 "SeedMakersModel" "tried" "[I", Cond.fieldLink RX11 36 "SeedMakersModel" "known" "[I", Cond.fieldLink RX11 39 "SeedMakersModel" "row" "[I", Cond.fieldLink RX11 42 "SeedMakersModel" "text" "[I", Cond.fieldLink RX11 45 "SeedMakersModel" "n" "I", Cond.fieldLink RX11 48 "SeedMakersModel" "wide" "I", Cond.fieldLink RX11 51 "SeedMakersModel" "high" "I", Cond.methodLink RL 44 yX10_symmetry, Cond.instanceMethod yX10_symmetry, Cond.selects RX10 yX10_symmetry yX10_symmetry, Cond.code yX10_symmetry cX10_symmetry 2 (some .boolean), Cond.methodLink RX10 58 yX6_joinBy, Cond.instanceMethod yX6_joinBy, Cond.selects RX6 yX6_joinBy yX6_joinBy, Cond.code yX6_joinBy cX6_joinBy 6 none]
def wsL_law0_r9 : List Cond := [Cond.methodLink RX6 27 Lib.Math.min.name, Cond.static Lib.Math.min.name, Cond.initialized "java/lang/Math", Cond.code Lib.Math.min.name Lib.Math.min.code 2 (some .int), Cond.methodLink RX6 23 yX6_moved, Cond.instanceMethod yX6_moved, Cond.selects RX6 yX6_moved yX6_moved, Cond.code yX6_moved cX6_moved 6 (some .int), Cond.fieldLink RX6 32 "SeedMakers$Grid" "side" "I", Cond.fieldLink RX6 35 "SeedMakers$Grid" "column" "[I", Cond.fieldLink RX6 38 "SeedMakers$Grid" "row" "[I", Cond.methodLink RL 47 yX11_symmetry, Cond.instanceMethod yX11_symmetry, Cond.selects RX11 yX11_symmetry yX11_symmetry, Cond.code yX11_symmetry cX11_symmetry 2 (some .boolean), Cond.fieldLink RX11 54 "SeedMakersModel" "thrown" "I", Cond.fieldLink RX11 61 "SeedMakersModel" "symmetry" "I", Cond.methodLink RL 48 yL_theme, Cond.static yL_theme, Cond.codeWith yL_theme cL_theme 4 (some .int) [(0, 6, 9, 13), (0, 6, 12, 15)], Cond.classLink RL 13 "java/lang/ArrayIndexOutOfBoundsException", Cond.classLink RL 15 "java/lang/IllegalArgumentException", Cond.methodLink RL 7 yX10_theme, Cond.instanceMethod yX10_theme]
def wsL_law0_r10 : List Cond := [Cond.selects RX10 yX10_theme yX10_theme, Cond.code yX10_theme cX10_theme 3 none, Cond.classLink RX10 72 "java/lang/IllegalArgumentException", Cond.initialized "java/lang/IllegalArgumentException", Cond.classLink RX10 65 RJx00060, Cond.instantiable RJx00060 6, Cond.initialized RJx00060, Cond.methodLink RX10 61 yX4_has, Cond.instanceMethod yX4_has, Cond.selects RX4 yX4_has yX4_has, Cond.code yX4_has cX4_has 2 (some .boolean), Cond.methodLink RL 51 yX11_theme, Cond.instanceMethod yX11_theme, Cond.selects RX11 yX11_theme yX11_theme, Cond.code yX11_theme cX11_theme 3 none, Cond.methodLink RX11 64 yX11_isCell, Cond.instanceMethod yX11_isCell, Cond.selects RX11 yX11_isCell yX11_isCell, Cond.code yX11_isCell cX11_isCell 2 (some .boolean), Cond.methodLink RX11 57 yX11_cells, Cond.instanceMethod yX11_cells, Cond.selects RX11 yX11_cells yX11_cells, Cond.code yX11_cells cX11_cells 1 (some .int), Cond.methodLink RX11 68 yX11_throwsIf]
def wsL_law0_r11 : List Cond := [Cond.instanceMethod yX11_throwsIf, Cond.selects RX11 yX11_throwsIf yX11_throwsIf, Cond.code yX11_throwsIf cX11_throwsIf 3 (some .boolean), Cond.methodLink RL 52 yX11_thrown, Cond.instanceMethod yX11_thrown, Cond.selects RX11 yX11_thrown yX11_thrown, Cond.code yX11_thrown cX11_thrown 1 (some .int), Cond.methodLink RL 56 yL_aim, Cond.static yL_aim, Cond.codeWith yL_aim cL_aim 5 (some .int) [(0, 7, 10, 15)], Cond.methodLink RL 17 yX10_aim, Cond.instanceMethod yX10_aim, Cond.selects RX10 yX10_aim yX10_aim, Cond.code yX10_aim cX10_aim 4 none, Cond.methodLink RX10 81 yX0_set, Cond.instanceMethod yX0_set, Cond.selects RX0 yX0_set yX0_set, Cond.code yX0_set cX0_set 4 none, Cond.methodLink RL 59 yX11_aim, Cond.instanceMethod yX11_aim, Cond.selects RX11 yX11_aim yX11_aim, Cond.code yX11_aim cX11_aim 4 none, Cond.fieldLink RX11 72 "SeedMakersModel" "easyAim" "I", Cond.fieldLink RX11 75 "SeedMakersModel" "leastAim" "I"]
def wsL_law0_r12 : List Cond := [Cond.methodLink RL 62 yX10_make, Cond.instanceMethod yX10_make, Cond.selects RX10 yX10_make yX10_make, Cond.code yX10_make cX10_make 5 (some .int), Cond.methodLink RX10 85 yX5_startAt, Cond.instanceMethod yX5_startAt, Cond.selects RX5 yX5_startAt yX5_startAt, Cond.code yX5_startAt cX5_startAt 3 none, Cond.methodLink RX5 101 yX2_startAt, Cond.instanceMethod yX2_startAt, Cond.selects RX2 yX2_startAt yX2_startAt, Cond.code yX2_startAt cX2_startAt 3 none, Cond.methodLink RX10 89 yX5_tryOnce, Cond.instanceMethod yX5_tryOnce, Cond.selects RX5 yX5_tryOnce yX5_tryOnce, Cond.code yX5_tryOnce cX5_tryOnce 3 (some .boolean), Cond.methodLink RX5 124 arraycopyName, Cond.native arraycopyName, Cond.static arraycopyName, Cond.initialized "java/lang/System", Cond.methodLink RX5 105 yX5_drawWhole, Cond.instanceMethod yX5_drawWhole, Cond.selects RX5 yX5_drawWhole yX5_drawWhole, Cond.code yX5_drawWhole cX5_drawWhole 3 (some .boolean)]
def wsL_law0_r13 : List Cond := [Cond.fieldLink RX5 146 "SeedMakers$Drawer" "board" "LSeedMakers$Board;", Cond.fieldLink RX5 150 "SeedMakers$Board" "symbols" "[I", Cond.methodLink RX5 143 yX3_fill, Cond.instanceMethod yX3_fill, Cond.selects RX3 yX3_fill yX3_fill, Cond.code yX3_fill cX3_fill 5 (some .boolean), Cond.fieldLink RX3 29 "SeedMakers$Grid" "cells" "I", Cond.methodLink RX3 26 yX1_clear, Cond.methodLink RX3 35 yX3_tightest, Cond.instanceMethod yX3_tightest, Cond.selects RX3 yX3_tightest yX3_tightest, Cond.code yX3_tightest cX3_tightest 5 (some .int), Cond.constant RX3 61 (2147483647), Cond.methodLink RX3 62 yX1_isEmpty, Cond.instanceMethod yX1_isEmpty, Cond.selects RX1 yX1_isEmpty yX1_isEmpty, Cond.code yX1_isEmpty cX1_isEmpty 2 (some .boolean), Cond.methodLink RX3 39 yX1_may, Cond.instanceMethod yX1_may, Cond.selects RX1 yX1_may yX1_may, Cond.code yX1_may cX1_may 2 (some .int), Cond.fieldLink RX1 42 "SeedMakers$Grid" "allSymbols" "I", Cond.fieldLink RX1 45 "SeedMakers$Grid" "row" "[I", Cond.fieldLink RX1 48 "SeedMakers$Grid" "column" "[I"]
def wsL_law0_r14 : List Cond := [Cond.fieldLink RX1 51 "SeedMakers$Grid" "box" "[I", Cond.methodLink RX3 43 yJ6_bitCount_0f7a4, Cond.static yJ6_bitCount_0f7a4, Cond.initialized RJ6, Cond.code yJ6_bitCount_0f7a4 cJ6_bitCount_0f7a4 1 (some .int), Cond.constant RJ6 265 (1431655765), Cond.constant RJ6 266 (858993459), Cond.constant RJ6 267 (252645135), Cond.methodLink RX3 48 yX2_below, Cond.instanceMethod yX2_below, Cond.selects RX2 yX2_below yX2_below, Cond.code yX2_below cX2_below 2 (some .int), Cond.constantLong RX2 13 (6364136223846793005), Cond.constantLong RX2 15 (1442695040888963407), Cond.methodLink RX2 17 yX2_upperBits, Cond.instanceMethod yX2_upperBits, Cond.selects RX2 yX2_upperBits yX2_upperBits, Cond.code yX2_upperBits cX2_upperBits 1 (some .int), Cond.methodLink RX3 53 yX3_symbolAt, Cond.static yX3_symbolAt, Cond.code yX3_symbolAt cX3_symbolAt 4 (some .int), Cond.methodLink RX3 66 yJ6_numberOfTrailingZeros_0f7a4, Cond.static yJ6_numberOfTrailingZeros_0f7a4, Cond.code yJ6_numberOfTrailingZeros_0f7a4 cJ6_numberOfTrailingZeros_0f7a4 2 (some .int)]
def wsL_law0_r15 : List Cond := [Cond.constant RJ6 264 (65536), Cond.methodLink RX3 57 yX1_put, Cond.instanceMethod yX1_put, Cond.selects RX1 yX1_put yX1_put, Cond.code yX1_put cX1_put 3 none, Cond.methodLink RX1 54 yX1_flip, Cond.instanceMethod yX1_flip, Cond.selects RX1 yX1_flip yX1_flip, Cond.code yX1_flip cX1_flip 3 none, Cond.methodLink RX5 109 yX5_takeOutEmptySets, Cond.instanceMethod yX5_takeOutEmptySets, Cond.selects RX5 yX5_takeOutEmptySets yX5_takeOutEmptySets, Cond.code yX5_takeOutEmptySets cX5_takeOutEmptySets 2 (some .boolean), Cond.fieldLink RX5 158 "SeedMakers$Sets" "leastOf" "[I", Cond.methodLink RX5 155 yX5_markSetsWith, Cond.instanceMethod yX5_markSetsWith, Cond.selects RX5 yX5_markSetsWith yX5_markSetsWith, Cond.code yX5_markSetsWith cX5_markSetsWith 3 none, Cond.methodLink RX5 163 yX8_count, Cond.instanceMethod yX8_count, Cond.selects RX8 yX8_count yX8_count, Cond.code yX8_count cX8_count 5 (some .int), Cond.methodLink RX8 34 yX1_putAll, Cond.instanceMethod yX1_putAll]
def wsL_law0_r16 : List Cond := [Cond.selects RX1 yX1_putAll yX1_putAll, Cond.code yX1_putAll cX1_putAll 3 none, Cond.methodLink RX1 38 yX1_put, Cond.methodLink RX8 38 yX1_isEmpty, Cond.methodLink RX8 42 yX8_search, Cond.instanceMethod yX8_search, Cond.selects RX8 yX8_search yX8_search, Cond.code yX8_search cX8_search 6 none, Cond.fieldLink RX8 53 "SeedMakers$Board" "grid" "LSeedMakers$Grid;", Cond.fieldLink RX8 57 "SeedMakers$Grid" "side" "I", Cond.methodLink RX8 46 yX8_tightest, Cond.instanceMethod yX8_tightest, Cond.selects RX8 yX8_tightest yX8_tightest, Cond.code yX8_tightest cX8_tightest 6 (some .int), Cond.constant RX8 69 (2147483647), Cond.methodLink RX8 50 yX1_may, Cond.methodLink RX8 70 yJ6_bitCount_0f7a4, Cond.methodLink RX8 60 yX1_put, Cond.methodLink RX8 64 yX1_takeOut, Cond.instanceMethod yX1_takeOut, Cond.selects RX1 yX1_takeOut yX1_takeOut, Cond.code yX1_takeOut cX1_takeOut 3 none, Cond.methodLink RX5 112 yX5_layRow, Cond.instanceMethod yX5_layRow]
def wsL_law0_r17 : List Cond := [Cond.selects RX5 yX5_layRow yX5_layRow, Cond.code yX5_layRow cX5_layRow 3 (some .int), Cond.methodLink RX5 116 yX5_mixRow, Cond.instanceMethod yX5_mixRow, Cond.selects RX5 yX5_mixRow yX5_mixRow, Cond.code yX5_mixRow cX5_mixRow 5 none, Cond.methodLink RX5 167 yX2_below, Cond.methodLink RX5 120 yX5_needsSet, Cond.instanceMethod yX5_needsSet, Cond.selects RX5 yX5_needsSet yX5_needsSet, Cond.code yX5_needsSet cX5_needsSet 5 (some .boolean), Cond.methodLink RX5 130 yX5_countGivens, Cond.instanceMethod yX5_countGivens, Cond.selects RX5 yX5_countGivens yX5_countGivens, Cond.code yX5_countGivens cX5_countGivens 3 (some .int), Cond.methodLink RX5 133 yX7_countUnknown, Cond.instanceMethod yX7_countUnknown, Cond.selects RX7 yX7_countUnknown yX7_countUnknown, Cond.code yX7_countUnknown cX7_countUnknown 6 (some .int), Cond.fieldLink RX7 26 "SeedMakers$Grid" "cells" "I", Cond.methodLink RX7 22 yX1_putAll, Cond.methodLink RX7 32 yX7_fillLoneSymbols, Cond.instanceMethod yX7_fillLoneSymbols, Cond.selects RX7 yX7_fillLoneSymbols yX7_fillLoneSymbols]
def wsL_law0_r18 : List Cond := [Cond.code yX7_fillLoneSymbols cX7_fillLoneSymbols 4 (some .boolean), Cond.methodLink RX7 39 yX1_isEmpty, Cond.methodLink RX7 43 yX1_may, Cond.methodLink RX7 47 yJ6_bitCount_0f7a4, Cond.methodLink RX7 52 yJ6_numberOfTrailingZeros_0f7a4, Cond.methodLink RX7 55 yX1_put, Cond.methodLink RX7 36 yX7_fillLoneCells, Cond.instanceMethod yX7_fillLoneCells, Cond.selects RX7 yX7_fillLoneCells yX7_fillLoneCells, Cond.code yX7_fillLoneCells cX7_fillLoneCells 4 (some .boolean), Cond.fieldLink RX7 59 "SeedMakers$Grid" "units" "[[I", Cond.methodLink RX7 63 yX7_symbolsOfOneCell, Cond.instanceMethod yX7_symbolsOfOneCell, Cond.selects RX7 yX7_symbolsOfOneCell yX7_symbolsOfOneCell, Cond.code yX7_symbolsOfOneCell cX7_symbolsOfOneCell 6 (some .int), Cond.methodLink RX7 67 yX7_fillFrom, Cond.instanceMethod yX7_fillFrom, Cond.selects RX7 yX7_fillFrom yX7_fillFrom, Cond.code yX7_fillFrom cX7_fillFrom 6 (some .boolean), Cond.methodLink RX5 137 yX0_isMet, Cond.instanceMethod yX0_isMet, Cond.selects RX0 yX0_isMet yX0_isMet, Cond.code yX0_isMet cX0_isMet 3 (some .boolean), Cond.methodLink RL 66 yX11_make]
def wsL_law0_r19 : List Cond := [Cond.instanceMethod yX11_make, Cond.selects RX11 yX11_make yX11_make, Cond.code yX11_make cX11_make 5 (some .int), Cond.fieldLink RX11 102 "SeedMakersModel" "chance" "J", Cond.fieldLink RX11 148 "SeedMakersModel" "isMade" "Z", Cond.methodLink RX11 152 yX11_isGood, Cond.instanceMethod yX11_isGood, Cond.selects RX11 yX11_isGood yX11_isGood, Cond.code yX11_isGood cX11_isGood 5 (some .boolean), Cond.fieldLink RX11 126 "SeedMakersModel" "rows" "I", Cond.methodLink RX11 122 yX11_draw, Cond.instanceMethod yX11_draw, Cond.selects RX11 yX11_draw yX11_draw, Cond.code yX11_draw cX11_draw 7 (some .boolean), Cond.methodLink RX11 113 yX11_empty, Cond.instanceMethod yX11_empty, Cond.selects RX11 yX11_empty yX11_empty, Cond.code yX11_empty cX11_empty 2 none, Cond.methodLink RX11 116 yX11_countDraw, Cond.instanceMethod yX11_countDraw, Cond.selects RX11 yX11_countDraw yX11_countDraw, Cond.code yX11_countDraw cX11_countDraw 4 (some .int), Cond.methodLink RX11 110 yX11_mayDraw, Cond.instanceMethod yX11_mayDraw]
def wsL_law0_r20 : List Cond := [Cond.selects RX11 yX11_mayDraw yX11_mayDraw, Cond.code yX11_mayDraw cX11_mayDraw 4 (some .boolean), Cond.methodLink RX11 85 yX11_sees, Cond.instanceMethod yX11_sees, Cond.selects RX11 yX11_sees yX11_sees, Cond.code yX11_sees cX11_sees 3 (some .boolean), Cond.methodLink RX11 119 yX11_below, Cond.instanceMethod yX11_below, Cond.selects RX11 yX11_below yX11_below, Cond.code yX11_below cX11_below 2 (some .int), Cond.constantLong RX11 106 (6364136223846793005), Cond.constantLong RX11 108 (1442695040888963407), Cond.methodLink RX11 82 yX11_leastOf, Cond.instanceMethod yX11_leastOf, Cond.selects RX11 yX11_leastOf yX11_leastOf, Cond.code yX11_leastOf cX11_leastOf 5 (some .int), Cond.methodLink RX11 78 yX11_turned, Cond.instanceMethod yX11_turned, Cond.selects RX11 yX11_turned yX11_turned, Cond.code yX11_turned cX11_turned 4 (some .int), Cond.methodLink RX11 129 yX11_hasTheme, Cond.instanceMethod yX11_hasTheme, Cond.selects RX11 yX11_hasTheme yX11_hasTheme, Cond.code yX11_hasTheme cX11_hasTheme 4 (some .boolean)]
def wsL_law0_r21 : List Cond := [Cond.methodLink RX11 132 yX11_takeOut, Cond.instanceMethod yX11_takeOut, Cond.selects RX11 yX11_takeOut yX11_takeOut, Cond.code yX11_takeOut cX11_takeOut 3 none, Cond.methodLink RX11 136 yX11_countUpTo, Cond.instanceMethod yX11_countUpTo, Cond.selects RX11 yX11_countUpTo yX11_countUpTo, Cond.code yX11_countUpTo cX11_countUpTo 7 (some .int), Cond.methodLink RX11 89 yX11_fits, Cond.instanceMethod yX11_fits, Cond.selects RX11 yX11_fits yX11_fits, Cond.code yX11_fits cX11_fits 4 (some .boolean), Cond.methodLink RX11 139 yX11_putBack, Cond.instanceMethod yX11_putBack, Cond.selects RX11 yX11_putBack yX11_putBack, Cond.code yX11_putBack cX11_putBack 3 none, Cond.methodLink RX11 142 yX11_countGivens, Cond.instanceMethod yX11_countGivens, Cond.selects RX11 yX11_countGivens yX11_countGivens, Cond.code yX11_countGivens cX11_countGivens 3 (some .int), Cond.methodLink RX11 145 yX11_countLeft, Cond.instanceMethod yX11_countLeft, Cond.selects RX11 yX11_countLeft yX11_countLeft, Cond.code yX11_countLeft cX11_countLeft 4 (some .int)]
def wsL_law0_r22 : List Cond := [Cond.methodLink RX11 92 yX11_may, Cond.instanceMethod yX11_may, Cond.selects RX11 yX11_may yX11_may, Cond.code yX11_may cX11_may 4 (some .boolean), Cond.methodLink RX11 99 yX11_isSingle, Cond.instanceMethod yX11_isSingle, Cond.selects RX11 yX11_isSingle yX11_isSingle, Cond.code yX11_isSingle cX11_isSingle 7 (some .boolean), Cond.methodLink RX11 95 yX11_isTogether, Cond.instanceMethod yX11_isTogether, Cond.selects RX11 yX11_isTogether yX11_isTogether, Cond.code yX11_isTogether cX11_isTogether 4 (some .boolean), Cond.methodLink RL 67 yL_given, Cond.static yL_given, Cond.codeWith yL_given cL_given 4 (some .int) [(0, 9, 12, 13)], Cond.methodLink RL 21 yX10_given, Cond.instanceMethod yX10_given, Cond.selects RX10 yX10_given yX10_given, Cond.code yX10_given cX10_given 2 (some .int), Cond.fieldLink RX10 93 "SeedMakers$Maker" "made" "Z", Cond.fieldLink RX10 97 "SeedMakers$Maker" "givens" "[I", Cond.methodLink RL 70 yX11_given, Cond.instanceMethod yX11_given, Cond.selects RX11 yX11_given yX11_given]
def wsL_law0_r23 : List Cond := [Cond.code yX11_given cX11_given 2 (some .int), Cond.methodLink RL 71 yL_answer, Cond.static yL_answer, Cond.codeWith yL_answer cL_answer 4 (some .int) [(0, 9, 12, 13)], Cond.methodLink RL 25 yX10_answer, Cond.instanceMethod yX10_answer, Cond.selects RX10 yX10_answer yX10_answer, Cond.code yX10_answer cX10_answer 2 (some .int), Cond.fieldLink RX10 100 "SeedMakers$Maker" "whole" "[I", Cond.methodLink RL 73 yX11_answer, Cond.instanceMethod yX11_answer, Cond.selects RX11 yX11_answer yX11_answer, Cond.code yX11_answer cX11_answer 2 (some .int), Cond.methodLink RL 74 yX10_told, Cond.instanceMethod yX10_told, Cond.selects RX10 yX10_told yX10_told, Cond.code yX10_told cX10_told 2 (some .int), Cond.fieldLink RX10 103 "SeedMakers$Maker" "triesMade" "I", Cond.fieldLink RX10 106 "SeedMakers$Maker" "restarts" "I", Cond.fieldLink RX10 109 "SeedMakers$Maker" "takenOut" "I", Cond.fieldLink RX10 112 "SeedMakers$Maker" "putBack" "I", Cond.fieldLink RX10 115 "SeedMakers$Maker" "givenCells" "I", Cond.fieldLink RX10 118 "SeedMakers$Maker" "unknownCells" "I", Cond.fieldLink RX10 121 "SeedMakers$Maker" "chance" "LSeedMakers$Chance;"]
def wsL_law0_r24 : List Cond := [Cond.methodLink RX10 125 yX2_upperBits, Cond.methodLink RL 77 yX11_told, Cond.instanceMethod yX11_told, Cond.selects RX11 yX11_told yX11_told, Cond.code yX11_told cX11_told 2 (some .int), Cond.methodLink RL 78 yX10_left, Cond.instanceMethod yX10_left, Cond.selects RX10 yX10_left yX10_left, Cond.code yX10_left cX10_left 1 (some .int), Cond.methodLink RL 81 yX11_left, Cond.instanceMethod yX11_left, Cond.selects RX11 yX11_left yX11_left, Cond.code yX11_left cX11_left 1 (some .int), Cond.methodLink RX11 155 yX11_take, Cond.instanceMethod yX11_take, Cond.selects RX11 yX11_take yX11_take, Cond.code yX11_take cX11_take 2 none, Cond.methodLink RL 82 yL_needed, Cond.static yL_needed, Cond.codeWith yL_needed cL_needed 4 (some .int) [(0, 16, 19, 13)], Cond.methodLink RL 28 yX10_needed, Cond.instanceMethod yX10_needed, Cond.selects RX10 yX10_needed yX10_needed, Cond.code yX10_needed cX10_needed 2 (some .boolean)]
def wsL_law0_r25 : List Cond := [Cond.fieldLink RX10 131 "SeedMakers$Sets" "leastOf" "[I", Cond.methodLink RX10 134 yX5_needsSet, Cond.methodLink RL 84 yX11_needed, Cond.instanceMethod yX11_needed, Cond.selects RX11 yX11_needed yX11_needed, Cond.code yX11_needed cX11_needed 3 (some .boolean), Cond.methodLink RL 85 yX10_answers, Cond.instanceMethod yX10_answers, Cond.selects RX10 yX10_answers yX10_answers, Cond.code yX10_answers cX10_answers 2 (some .int), Cond.fieldLink RX10 140 "SeedMakers$Maker" "solver" "LSeedMakers$Solver;", Cond.fieldLink RX10 144 "SeedMakers$Typed" "symbols" "[I", Cond.methodLink RX10 137 yX9_read, Cond.instanceMethod yX9_read, Cond.selects RX9 yX9_read yX9_read, Cond.code yX9_read cX9_read 3 (some .int), Cond.fieldLink RX9 37 "SeedMakers$Grid" "cells" "I", Cond.methodLink RX9 34 yX1_clear, Cond.methodLink RX9 42 yX9_readByte, Cond.instanceMethod yX9_readByte, Cond.selects RX9 yX9_readByte yX9_readByte, Cond.code yX9_readByte cX9_readByte 4 (some .boolean), Cond.fieldLink RX9 46 "SeedMakers$Grid" "side" "I", Cond.methodLink RX9 49 yX1_may]
def wsL_law0_r26 : List Cond := [Cond.methodLink RX9 53 yX1_put, Cond.methodLink RX10 147 yX8_count, Cond.methodLink RL 88 yX11_answers, Cond.instanceMethod yX11_answers, Cond.selects RX11 yX11_answers yX11_answers, Cond.code yX11_answers cX11_answers 2 (some .int), Cond.fieldLink RX11 158 "SeedMakersModel" "size" "I", Cond.methodLink RX11 161 yX11_read, Cond.instanceMethod yX11_read, Cond.selects RX11 yX11_read yX11_read, Cond.code yX11_read cX11_read 4 (some .int), Cond.methodLink RL 89 yX10_unit, Cond.instanceMethod yX10_unit, Cond.selects RX10 yX10_unit yX10_unit, Cond.code yX10_unit cX10_unit 2 (some .boolean), Cond.methodLink RX10 153 yX9_add, Cond.instanceMethod yX9_add, Cond.selects RX9 yX9_add yX9_add, Cond.code yX9_add cX9_add 2 (some .boolean), Cond.methodLink RL 92 yX11_unit, Cond.instanceMethod yX11_unit, Cond.selects RX11 yX11_unit yX11_unit, Cond.code yX11_unit cX11_unit 2 (some .boolean), Cond.methodLink RL 93 yX10_text]
def wsL_law0_r27 : List Cond := [Cond.instanceMethod yX10_text, Cond.selects RX10 yX10_text yX10_text, Cond.code yX10_text cX10_text 2 (some .int), Cond.methodLink RX10 156 yX9_byteOf, Cond.static yX9_byteOf, Cond.code yX9_byteOf cX9_byteOf 1 (some .int), Cond.methodLink RL 96 yX11_text, Cond.instanceMethod yX11_text, Cond.selects RX11 yX11_text yX11_text, Cond.code yX11_text cX11_text 2 (some .int)]
def wsL_law0 : List Cond := (wsL_law0_r1 ++ (wsL_law0_r2 ++ (wsL_law0_r3 ++ (wsL_law0_r4 ++ (wsL_law0_r5 ++ (wsL_law0_r6 ++ (wsL_law0_r7 ++ (wsL_law0_r8 ++ (wsL_law0_r9 ++ (wsL_law0_r10 ++ (wsL_law0_r11 ++ (wsL_law0_r12 ++ (wsL_law0_r13 ++ (wsL_law0_r14 ++ (wsL_law0_r15 ++ (wsL_law0_r16 ++ (wsL_law0_r17 ++ (wsL_law0_r18 ++ (wsL_law0_r19 ++ (wsL_law0_r20 ++ (wsL_law0_r21 ++ (wsL_law0_r22 ++ (wsL_law0_r23 ++ (wsL_law0_r24 ++ (wsL_law0_r25 ++ (wsL_law0_r26 ++ wsL_law0_r27)))))))))))))))))))))))))) ++ wsX100 ++ wsX110 ++ wsX40 ++ wsX60 ++ wsX00 ++ wsX50 ++ wsX90 ++ wsX20 ++ wsX30 ++ wsX70 ++ wsX80 ++ wsX10 ++ wsJx000600 ++ ([] : List Cond)
def wsL_law : List Cond := wsL_law0 ++ (vx_atS RX10 76 "java/lang/IllegalArgumentException" ["java/lang/RuntimeException", "java/lang/Exception"]).filter goodWord
set_option maxRecDepth 20000 in
abbrev vwCl : List vw_C := [(RJx00060, TJx00060, 6), (RX0, TX0, 3), (RX1, TX1, 5), (RX2, TX2, 1), (RX3, TX3, 3), (RX4, TX4, 7), (RX5, TX5, 20), (RX6, TX6, 2), (RX7, TX7, 2), (RX8, TX8, 4), (RX9, TX9, 5), (RX10, TX10, 6), (RX11, TX11, 22)]
end
section
/-! The run predicate over pictures: X holds all that stays fixed in a method's run -/
abbrev ww_G : Type := va_G × (ClassId × ClassId × ClassId × ClassId)
abbrev ww_t (g : ww_G) : List (ClassId × FieldType) := [(g.2.1, .int), (g.2.2.1, .boolean), (g.2.2.2.1, .array .int), (g.2.2.2.2, .long)]
abbrev ww_X : Type := ww_G × Program × Launch × Env × Room × State × MethodId × Array Value × List Frame × Method × Code × (Nat → Prop) × Heap × Nat × (State → Prop)
def RW (X : ww_X) (kc ks pc : Nat) (lv : List (Nat × Value)) (st : List Value) (ws : va_W) : Prop := match X with
  | (g, p, l, e, R, s, m, args, below, meth, c, A, H0, nL, Q) => ∀ (H : Heap) (locs : List Loc) (ls : Array Slot), va_P g.1 vwCl ws H → va_D A ws → va_S A H0 H locs → lv_has ls nL lv → W p l e R s m args below meth c H locs kc ks Q (F0 m pc ls st)
def ww_C (X : ww_X) (cc : ByteArray) (n0 : Nat) (own : String) (Ts : List Cond) (rm : Room) : Prop := match X with
  | (g, p, _, _, R, s, m, args, _, meth, c, A, H0, nL, _) => p.tables.exec = Jvm.exec ∧ c.code = cc ∧ c.maxLocals = n0 ∧ nL = n0 ∧ s.vm.findClass own = some m.cls ∧ (∀ w ∈ Ts, w.before args s = true) ∧ va_K g.1 vwCl (ww_t g) s ∧ (∀ q, H0.size ≤ q → A q) ∧ meth.locks = false ∧ R = rm
section
variable {X : ww_X} {cc : ByteArray} {n0 : Nat} {own : String} {Ts : List Cond} {rm : Room} {kc ks pc : Nat} {lv lv' : List (Nat × Value)} {st : List Value} {ws ws' : va_W}
theorem r_iadd {x y v : Int32} (C : ww_C X cc n0 own Ts rm) (hd : decode cc pc = .ok (.iadd, 1)) (hv : x + y = v) (k : RW X kc ks (pc + 1) lv (.int v :: st) ws) : RW X kc ks pc lv (.int y :: .int x :: st) ws := by
  obtain ⟨g, p, l, e, R, s, m, args, below, meth, c, A, H0, nL, Q⟩ := X
  obtain ⟨hx, hb, hml, rfl, hown, hts, hK, hA, hlocks, rfl⟩ := C
  intro H locs ls hP hD hS hl
  subst hv
  exact lv_iadd hx hb hd (k H locs ls hP hD hS hl)
theorem r_isub {x y v : Int32} (C : ww_C X cc n0 own Ts rm) (hd : decode cc pc = .ok (.isub, 1)) (hv : x - y = v) (k : RW X kc ks (pc + 1) lv (.int v :: st) ws) : RW X kc ks pc lv (.int y :: .int x :: st) ws := by
  obtain ⟨g, p, l, e, R, s, m, args, below, meth, c, A, H0, nL, Q⟩ := X
  obtain ⟨hx, hb, hml, rfl, hown, hts, hK, hA, hlocks, rfl⟩ := C
  intro H locs ls hP hD hS hl
  subst hv
  exact lv_isub hx hb hd (k H locs ls hP hD hS hl)
theorem r_imul {x y v : Int32} (C : ww_C X cc n0 own Ts rm) (hd : decode cc pc = .ok (.imul, 1)) (hv : x * y = v) (k : RW X kc ks (pc + 1) lv (.int v :: st) ws) : RW X kc ks pc lv (.int y :: .int x :: st) ws := by
  obtain ⟨g, p, l, e, R, s, m, args, below, meth, c, A, H0, nL, Q⟩ := X
  obtain ⟨hx, hb, hml, rfl, hown, hts, hK, hA, hlocks, rfl⟩ := C
  intro H locs ls hP hD hS hl
  subst hv
  exact lv_imul hx hb hd (k H locs ls hP hD hS hl)
theorem r_iand {x y v : Int32} (C : ww_C X cc n0 own Ts rm) (hd : decode cc pc = .ok (.iand, 1)) (hv : x &&& y = v) (k : RW X kc ks (pc + 1) lv (.int v :: st) ws) : RW X kc ks pc lv (.int y :: .int x :: st) ws := by
  obtain ⟨g, p, l, e, R, s, m, args, below, meth, c, A, H0, nL, Q⟩ := X
  obtain ⟨hx, hb, hml, rfl, hown, hts, hK, hA, hlocks, rfl⟩ := C
  intro H locs ls hP hD hS hl
  subst hv
  exact lv_iand hx hb hd (k H locs ls hP hD hS hl)
theorem r_ior {x y v : Int32} (C : ww_C X cc n0 own Ts rm) (hd : decode cc pc = .ok (.ior, 1)) (hv : x ||| y = v) (k : RW X kc ks (pc + 1) lv (.int v :: st) ws) : RW X kc ks pc lv (.int y :: .int x :: st) ws := by
  obtain ⟨g, p, l, e, R, s, m, args, below, meth, c, A, H0, nL, Q⟩ := X
  obtain ⟨hx, hb, hml, rfl, hown, hts, hK, hA, hlocks, rfl⟩ := C
  intro H locs ls hP hD hS hl
  subst hv
  exact lv_ior hx hb hd (k H locs ls hP hD hS hl)
theorem r_ixor {x y v : Int32} (C : ww_C X cc n0 own Ts rm) (hd : decode cc pc = .ok (.ixor, 1)) (hv : x ^^^ y = v) (k : RW X kc ks (pc + 1) lv (.int v :: st) ws) : RW X kc ks pc lv (.int y :: .int x :: st) ws := by
  obtain ⟨g, p, l, e, R, s, m, args, below, meth, c, A, H0, nL, Q⟩ := X
  obtain ⟨hx, hb, hml, rfl, hown, hts, hK, hA, hlocks, rfl⟩ := C
  intro H locs ls hP hD hS hl
  subst hv
  exact lv_ixor hx hb hd (k H locs ls hP hD hS hl)
theorem r_ishl {x y v : Int32} (C : ww_C X cc n0 own Ts rm) (hd : decode cc pc = .ok (.ishl, 1)) (hv : x <<< (y &&& 31) = v) (k : RW X kc ks (pc + 1) lv (.int v :: st) ws) : RW X kc ks pc lv (.int y :: .int x :: st) ws := by
  obtain ⟨g, p, l, e, R, s, m, args, below, meth, c, A, H0, nL, Q⟩ := X
  obtain ⟨hx, hb, hml, rfl, hown, hts, hK, hA, hlocks, rfl⟩ := C
  intro H locs ls hP hD hS hl
  subst hv
  exact lv_ishl hx hb hd (k H locs ls hP hD hS hl)
theorem r_ishr {x y v : Int32} (C : ww_C X cc n0 own Ts rm) (hd : decode cc pc = .ok (.ishr, 1)) (hv : x >>> (y &&& 31) = v) (k : RW X kc ks (pc + 1) lv (.int v :: st) ws) : RW X kc ks pc lv (.int y :: .int x :: st) ws := by
  obtain ⟨g, p, l, e, R, s, m, args, below, meth, c, A, H0, nL, Q⟩ := X
  obtain ⟨hx, hb, hml, rfl, hown, hts, hK, hA, hlocks, rfl⟩ := C
  intro H locs ls hP hD hS hl
  subst hv
  exact lv_ishr hx hb hd (k H locs ls hP hD hS hl)
theorem r_idiv {x y v : Int32} (C : ww_C X cc n0 own Ts rm) (hd : decode cc pc = .ok (.idiv, 1)) (hne : ¬ y = 0) (hv : x / y = v) (k : RW X kc ks (pc + 1) lv (.int v :: st) ws) : RW X kc ks pc lv (.int y :: .int x :: st) ws := by
  obtain ⟨g, p, l, e, R, s, m, args, below, meth, c, A, H0, nL, Q⟩ := X
  obtain ⟨hx, hb, hml, rfl, hown, hts, hK, hA, hlocks, rfl⟩ := C
  intro H locs ls hP hD hS hl
  subst hv
  exact lv_idiv hx hb hd hne (k H locs ls hP hD hS hl)
theorem r_irem {x y v : Int32} (C : ww_C X cc n0 own Ts rm) (hd : decode cc pc = .ok (.irem, 1)) (hne : ¬ y = 0) (hv : x - x / y * y = v) (k : RW X kc ks (pc + 1) lv (.int v :: st) ws) : RW X kc ks pc lv (.int y :: .int x :: st) ws := by
  obtain ⟨g, p, l, e, R, s, m, args, below, meth, c, A, H0, nL, Q⟩ := X
  obtain ⟨hx, hb, hml, rfl, hown, hts, hK, hA, hlocks, rfl⟩ := C
  intro H locs ls hP hD hS hl
  subst hv
  exact lv_irem hx hb hd hne (k H locs ls hP hD hS hl)
theorem r_iushr {x y v : Int32} (C : ww_C X cc n0 own Ts rm) (hd : decode cc pc = .ok (.iushr, 1)) (hv : (x.toUInt32 >>> (y.toUInt32 &&& Int32.toUInt32 31)).toInt32 = v) (k : RW X kc ks (pc + 1) lv (.int v :: st) ws) : RW X kc ks pc lv (.int y :: .int x :: st) ws := by
  obtain ⟨g, p, l, e, R, s, m, args, below, meth, c, A, H0, nL, Q⟩ := X
  obtain ⟨hx, hb, hml, rfl, hown, hts, hK, hA, hlocks, rfl⟩ := C
  intro H locs ls hP hD hS hl
  exact lv_iushr hx hb hd hv (k H locs ls hP hD hS hl)
theorem r_ladd {x y v : Int64} (C : ww_C X cc n0 own Ts rm) (hd : decode cc pc = .ok (.ladd, 1)) (hv : x + y = v) (k : RW X kc ks (pc + 1) lv (.long v :: st) ws) : RW X kc ks pc lv (.long y :: .long x :: st) ws := by
  obtain ⟨g, p, l, e, R, s, m, args, below, meth, c, A, H0, nL, Q⟩ := X
  obtain ⟨hx, hb, hml, rfl, hown, hts, hK, hA, hlocks, rfl⟩ := C
  intro H locs ls hP hD hS hl
  subst hv
  exact lv_ladd hx hb hd (k H locs ls hP hD hS hl)
theorem r_lmul {x y v : Int64} (C : ww_C X cc n0 own Ts rm) (hd : decode cc pc = .ok (.lmul, 1)) (hv : x * y = v) (k : RW X kc ks (pc + 1) lv (.long v :: st) ws) : RW X kc ks pc lv (.long y :: .long x :: st) ws := by
  obtain ⟨g, p, l, e, R, s, m, args, below, meth, c, A, H0, nL, Q⟩ := X
  obtain ⟨hx, hb, hml, rfl, hown, hts, hK, hA, hlocks, rfl⟩ := C
  intro H locs ls hP hD hS hl
  subst hv
  exact lv_lmul hx hb hd (k H locs ls hP hD hS hl)
theorem r_land {x y v : Int64} (C : ww_C X cc n0 own Ts rm) (hd : decode cc pc = .ok (.land, 1)) (hv : x &&& y = v) (k : RW X kc ks (pc + 1) lv (.long v :: st) ws) : RW X kc ks pc lv (.long y :: .long x :: st) ws := by
  obtain ⟨g, p, l, e, R, s, m, args, below, meth, c, A, H0, nL, Q⟩ := X
  obtain ⟨hx, hb, hml, rfl, hown, hts, hK, hA, hlocks, rfl⟩ := C
  intro H locs ls hP hD hS hl
  subst hv
  exact lv_land hx hb hd (k H locs ls hP hD hS hl)
theorem r_lor {x y v : Int64} (C : ww_C X cc n0 own Ts rm) (hd : decode cc pc = .ok (.lor, 1)) (hv : x ||| y = v) (k : RW X kc ks (pc + 1) lv (.long v :: st) ws) : RW X kc ks pc lv (.long y :: .long x :: st) ws := by
  obtain ⟨g, p, l, e, R, s, m, args, below, meth, c, A, H0, nL, Q⟩ := X
  obtain ⟨hx, hb, hml, rfl, hown, hts, hK, hA, hlocks, rfl⟩ := C
  intro H locs ls hP hD hS hl
  subst hv
  exact lv_lor hx hb hd (k H locs ls hP hD hS hl)
theorem r_lrem {x y v : Int64} (C : ww_C X cc n0 own Ts rm) (hd : decode cc pc = .ok (.lrem, 1)) (hne : ¬ y = 0) (hv : x - x / y * y = v) (k : RW X kc ks (pc + 1) lv (.long v :: st) ws) : RW X kc ks pc lv (.long y :: .long x :: st) ws := by
  obtain ⟨g, p, l, e, R, s, m, args, below, meth, c, A, H0, nL, Q⟩ := X
  obtain ⟨hx, hb, hml, rfl, hown, hts, hK, hA, hlocks, rfl⟩ := C
  intro H locs ls hP hD hS hl
  subst hv
  exact lv_lrem hx hb hd hne (k H locs ls hP hD hS hl)
theorem r_lshl {x v : Int64} {y : Int32} (C : ww_C X cc n0 own Ts rm) (hd : decode cc pc = .ok (.lshl, 1)) (hv : x <<< (y.toInt64 &&& 63) = v) (k : RW X kc ks (pc + 1) lv (.long v :: st) ws) : RW X kc ks pc lv (.int y :: .long x :: st) ws := by
  obtain ⟨g, p, l, e, R, s, m, args, below, meth, c, A, H0, nL, Q⟩ := X
  obtain ⟨hx, hb, hml, rfl, hown, hts, hK, hA, hlocks, rfl⟩ := C
  intro H locs ls hP hD hS hl
  exact lv_lshl hx hb hd hv (k H locs ls hP hD hS hl)
theorem r_lushr {x v : Int64} {y : Int32} (C : ww_C X cc n0 own Ts rm) (hd : decode cc pc = .ok (.lushr, 1)) (hv : (x.toUInt64 >>> (y.toInt64.toUInt64 &&& Int64.toUInt64 63)).toInt64 = v) (k : RW X kc ks (pc + 1) lv (.long v :: st) ws) : RW X kc ks pc lv (.int y :: .long x :: st) ws := by
  obtain ⟨g, p, l, e, R, s, m, args, below, meth, c, A, H0, nL, Q⟩ := X
  obtain ⟨hx, hb, hml, rfl, hown, hts, hK, hA, hlocks, rfl⟩ := C
  intro H locs ls hP hD hS hl
  exact lv_lushr hx hb hd hv (k H locs ls hP hD hS hl)
theorem r_lcmp {x y : Int64} {v : Int32} (C : ww_C X cc n0 own Ts rm) (hd : decode cc pc = .ok (.lcmp, 1)) (hv : lg_cmp x y = v) (k : RW X kc ks (pc + 1) lv (.int v :: st) ws) : RW X kc ks pc lv (.long y :: .long x :: st) ws := by
  obtain ⟨g, p, l, e, R, s, m, args, below, meth, c, A, H0, nL, Q⟩ := X
  obtain ⟨hx, hb, hml, rfl, hown, hts, hK, hA, hlocks, rfl⟩ := C
  intro H locs ls hP hD hS hl
  subst hv
  exact W.lcmp hx hb hd (k H locs ls hP hD hS hl)
theorem r_ineg {x v : Int32} (C : ww_C X cc n0 own Ts rm) (hd : decode cc pc = .ok (.ineg, 1)) (hv : -x = v) (k : RW X kc ks (pc + 1) lv (.int v :: st) ws) : RW X kc ks pc lv (.int x :: st) ws := by
  obtain ⟨g, p, l, e, R, s, m, args, below, meth, c, A, H0, nL, Q⟩ := X
  obtain ⟨hx, hb, hml, rfl, hown, hts, hK, hA, hlocks, rfl⟩ := C
  intro H locs ls hP hD hS hl
  subst hv
  exact lv_ineg hx hb hd (k H locs ls hP hD hS hl)
theorem r_l2i {x : Int64} {v : Int32} (C : ww_C X cc n0 own Ts rm) (hd : decode cc pc = .ok (.l2i, 1)) (hv : x.toInt32 = v) (k : RW X kc ks (pc + 1) lv (.int v :: st) ws) : RW X kc ks pc lv (.long x :: st) ws := by
  obtain ⟨g, p, l, e, R, s, m, args, below, meth, c, A, H0, nL, Q⟩ := X
  obtain ⟨hx, hb, hml, rfl, hown, hts, hK, hA, hlocks, rfl⟩ := C
  intro H locs ls hP hD hS hl
  exact lv_l2i hx hb hd hv (k H locs ls hP hD hS hl)
theorem r_i2l {x : Int32} {v : Int64} (C : ww_C X cc n0 own Ts rm) (hd : decode cc pc = .ok (.i2l, 1)) (hv : x.toInt64 = v) (k : RW X kc ks (pc + 1) lv (.long v :: st) ws) : RW X kc ks pc lv (.int x :: st) ws := by
  obtain ⟨g, p, l, e, R, s, m, args, below, meth, c, A, H0, nL, Q⟩ := X
  obtain ⟨hx, hb, hml, rfl, hown, hts, hK, hA, hlocks, rfl⟩ := C
  intro H locs ls hP hD hS hl
  exact lv_i2l hx hb hd hv (k H locs ls hP hD hS hl)
theorem r_dup {a : Value} (C : ww_C X cc n0 own Ts rm) (hd : decode cc pc = .ok (.dup, 1)) (ha : a.category = 1) (k : RW X kc ks (pc + 1) lv (a :: a :: st) ws) : RW X kc ks pc lv (a :: st) ws := by
  obtain ⟨g, p, l, e, R, s, m, args, below, meth, c, A, H0, nL, Q⟩ := X
  obtain ⟨hx, hb, hml, rfl, hown, hts, hK, hA, hlocks, rfl⟩ := C
  intro H locs ls hP hD hS hl
  exact lv_dup hx hb hd ha (k H locs ls hP hD hS hl)
theorem r_dup2 {a b : Value} (C : ww_C X cc n0 own Ts rm) (hd : decode cc pc = .ok (.dup2, 1)) (ha : a.category = 1) (hb2 : b.category = 1) (k : RW X kc ks (pc + 1) lv (a :: b :: a :: b :: st) ws) : RW X kc ks pc lv (a :: b :: st) ws := by
  obtain ⟨g, p, l, e, R, s, m, args, below, meth, c, A, H0, nL, Q⟩ := X
  obtain ⟨hx, hb, hml, rfl, hown, hts, hK, hA, hlocks, rfl⟩ := C
  intro H locs ls hP hD hS hl
  exact lv_dup2_11 hx hb hd ha hb2 (k H locs ls hP hD hS hl)
theorem r_dup2L {a : Value} (C : ww_C X cc n0 own Ts rm) (hd : decode cc pc = .ok (.dup2, 1)) (ha : a.category = 2) (k : RW X kc ks (pc + 1) lv (a :: a :: st) ws) : RW X kc ks pc lv (a :: st) ws := by
  obtain ⟨g, p, l, e, R, s, m, args, below, meth, c, A, H0, nL, Q⟩ := X
  obtain ⟨hx, hb, hml, rfl, hown, hts, hK, hA, hlocks, rfl⟩ := C
  intro H locs ls hP hD hS hl
  exact lv_dup2_2 hx hb hd ha (k H locs ls hP hD hS hl)
theorem r_dup_x1 {a b : Value} (C : ww_C X cc n0 own Ts rm) (hd : decode cc pc = .ok (.dup_x1, 1)) (ha : a.category = 1) (hb2 : b.category = 1) (k : RW X kc ks (pc + 1) lv (a :: b :: a :: st) ws) : RW X kc ks pc lv (a :: b :: st) ws := by
  obtain ⟨g, p, l, e, R, s, m, args, below, meth, c, A, H0, nL, Q⟩ := X
  obtain ⟨hx, hb, hml, rfl, hown, hts, hK, hA, hlocks, rfl⟩ := C
  intro H locs ls hP hD hS hl
  exact lv_dup_x1 hx hb hd ha hb2 (k H locs ls hP hD hS hl)
theorem r_dup_x2 {a b d : Value} (C : ww_C X cc n0 own Ts rm) (hd : decode cc pc = .ok (.dup_x2, 1)) (ha : a.category = 1) (hb2 : b.category = 1) (hd2 : d.category = 1) (k : RW X kc ks (pc + 1) lv (a :: b :: d :: a :: st) ws) : RW X kc ks pc lv (a :: b :: d :: st) ws := by
  obtain ⟨g, p, l, e, R, s, m, args, below, meth, c, A, H0, nL, Q⟩ := X
  obtain ⟨hx, hb, hml, rfl, hown, hts, hK, hA, hlocks, rfl⟩ := C
  intro H locs ls hP hD hS hl
  exact lv_dup_x2 hx hb hd ha hb2 hd2 (k H locs ls hP hD hS hl)
theorem r_pop {a : Value} (C : ww_C X cc n0 own Ts rm) (hd : decode cc pc = .ok (.pop, 1)) (ha : a.category = 1) (k : RW X kc ks (pc + 1) lv st ws) : RW X kc ks pc lv (a :: st) ws := by
  obtain ⟨g, p, l, e, R, s, m, args, below, meth, c, A, H0, nL, Q⟩ := X
  obtain ⟨hx, hb, hml, rfl, hown, hts, hK, hA, hlocks, rfl⟩ := C
  intro H locs ls hP hD hS hl
  exact lv_pop hx hb hd ha (k H locs ls hP hD hS hl)
theorem r_if_eq {x : Int32} {off : Int} {tgt : Nat} (C : ww_C X cc n0 own Ts rm) (hd : decode cc pc = .ok (.ifCond .eq off, 3)) (ht : (pc : Int) + off = (tgt : Int)) (kt : x = 0 → RW X kc ks tgt lv st ws) (kf : ¬ x = 0 → RW X kc ks (pc + 3) lv st ws) : RW X kc ks pc lv (.int x :: st) ws := by
  obtain ⟨g, p, l, e, R, s, m, args, below, meth, c, A, H0, nL, Q⟩ := X
  obtain ⟨hx, hb, hml, rfl, hown, hts, hK, hA, hlocks, rfl⟩ := C
  intro H locs ls hP hD hS hl
  exact lv_if_eq hx hb hd ht (fun h => kt h H locs ls hP hD hS hl) (fun h => kf h H locs ls hP hD hS hl)
theorem r_if_ne {x : Int32} {off : Int} {tgt : Nat} (C : ww_C X cc n0 own Ts rm) (hd : decode cc pc = .ok (.ifCond .ne off, 3)) (ht : (pc : Int) + off = (tgt : Int)) (kt : ¬ x = 0 → RW X kc ks tgt lv st ws) (kf : x = 0 → RW X kc ks (pc + 3) lv st ws) : RW X kc ks pc lv (.int x :: st) ws := by
  obtain ⟨g, p, l, e, R, s, m, args, below, meth, c, A, H0, nL, Q⟩ := X
  obtain ⟨hx, hb, hml, rfl, hown, hts, hK, hA, hlocks, rfl⟩ := C
  intro H locs ls hP hD hS hl
  exact lv_if_ne hx hb hd ht (fun h => kt h H locs ls hP hD hS hl) (fun h => kf h H locs ls hP hD hS hl)
theorem r_if_lt {x : Int32} {off : Int} {tgt : Nat} (C : ww_C X cc n0 own Ts rm) (hd : decode cc pc = .ok (.ifCond .lt off, 3)) (ht : (pc : Int) + off = (tgt : Int)) (kt : x < 0 → RW X kc ks tgt lv st ws) (kf : ¬ x < 0 → RW X kc ks (pc + 3) lv st ws) : RW X kc ks pc lv (.int x :: st) ws := by
  obtain ⟨g, p, l, e, R, s, m, args, below, meth, c, A, H0, nL, Q⟩ := X
  obtain ⟨hx, hb, hml, rfl, hown, hts, hK, hA, hlocks, rfl⟩ := C
  intro H locs ls hP hD hS hl
  exact lv_if_lt hx hb hd ht (fun h => kt h H locs ls hP hD hS hl) (fun h => kf h H locs ls hP hD hS hl)
theorem r_if_ge {x : Int32} {off : Int} {tgt : Nat} (C : ww_C X cc n0 own Ts rm) (hd : decode cc pc = .ok (.ifCond .ge off, 3)) (ht : (pc : Int) + off = (tgt : Int)) (kt : 0 ≤ x → RW X kc ks tgt lv st ws) (kf : ¬ 0 ≤ x → RW X kc ks (pc + 3) lv st ws) : RW X kc ks pc lv (.int x :: st) ws := by
  obtain ⟨g, p, l, e, R, s, m, args, below, meth, c, A, H0, nL, Q⟩ := X
  obtain ⟨hx, hb, hml, rfl, hown, hts, hK, hA, hlocks, rfl⟩ := C
  intro H locs ls hP hD hS hl
  exact lv_if_ge hx hb hd ht (fun h => kt h H locs ls hP hD hS hl) (fun h => kf h H locs ls hP hD hS hl)
theorem r_if_gt {x : Int32} {off : Int} {tgt : Nat} (C : ww_C X cc n0 own Ts rm) (hd : decode cc pc = .ok (.ifCond .gt off, 3)) (ht : (pc : Int) + off = (tgt : Int)) (kt : 0 < x → RW X kc ks tgt lv st ws) (kf : ¬ 0 < x → RW X kc ks (pc + 3) lv st ws) : RW X kc ks pc lv (.int x :: st) ws := by
  obtain ⟨g, p, l, e, R, s, m, args, below, meth, c, A, H0, nL, Q⟩ := X
  obtain ⟨hx, hb, hml, rfl, hown, hts, hK, hA, hlocks, rfl⟩ := C
  intro H locs ls hP hD hS hl
  exact lv_if_gt hx hb hd ht (fun h => kt h H locs ls hP hD hS hl) (fun h => kf h H locs ls hP hD hS hl)
theorem r_if_le {x : Int32} {off : Int} {tgt : Nat} (C : ww_C X cc n0 own Ts rm) (hd : decode cc pc = .ok (.ifCond .le off, 3)) (ht : (pc : Int) + off = (tgt : Int)) (kt : x ≤ 0 → RW X kc ks tgt lv st ws) (kf : ¬ x ≤ 0 → RW X kc ks (pc + 3) lv st ws) : RW X kc ks pc lv (.int x :: st) ws := by
  obtain ⟨g, p, l, e, R, s, m, args, below, meth, c, A, H0, nL, Q⟩ := X
  obtain ⟨hx, hb, hml, rfl, hown, hts, hK, hA, hlocks, rfl⟩ := C
  intro H locs ls hP hD hS hl
  exact lv_if_le hx hb hd ht (fun h => kt h H locs ls hP hD hS hl) (fun h => kf h H locs ls hP hD hS hl)
theorem r_icmp_eq {x y : Int32} {off : Int} {tgt : Nat} (C : ww_C X cc n0 own Ts rm) (hd : decode cc pc = .ok (.if_icmp .eq off, 3)) (ht : (pc : Int) + off = (tgt : Int)) (kt : x = y → RW X kc ks tgt lv st ws) (kf : ¬ x = y → RW X kc ks (pc + 3) lv st ws) : RW X kc ks pc lv (.int y :: .int x :: st) ws := by
  obtain ⟨g, p, l, e, R, s, m, args, below, meth, c, A, H0, nL, Q⟩ := X
  obtain ⟨hx, hb, hml, rfl, hown, hts, hK, hA, hlocks, rfl⟩ := C
  intro H locs ls hP hD hS hl
  exact lv_icmp_eq hx hb hd ht (fun h => kt h H locs ls hP hD hS hl) (fun h => kf h H locs ls hP hD hS hl)
theorem r_icmp_ne {x y : Int32} {off : Int} {tgt : Nat} (C : ww_C X cc n0 own Ts rm) (hd : decode cc pc = .ok (.if_icmp .ne off, 3)) (ht : (pc : Int) + off = (tgt : Int)) (kt : ¬ x = y → RW X kc ks tgt lv st ws) (kf : x = y → RW X kc ks (pc + 3) lv st ws) : RW X kc ks pc lv (.int y :: .int x :: st) ws := by
  obtain ⟨g, p, l, e, R, s, m, args, below, meth, c, A, H0, nL, Q⟩ := X
  obtain ⟨hx, hb, hml, rfl, hown, hts, hK, hA, hlocks, rfl⟩ := C
  intro H locs ls hP hD hS hl
  exact lv_icmp_ne hx hb hd ht (fun h => kt h H locs ls hP hD hS hl) (fun h => kf h H locs ls hP hD hS hl)
theorem r_icmp_lt {x y : Int32} {off : Int} {tgt : Nat} (C : ww_C X cc n0 own Ts rm) (hd : decode cc pc = .ok (.if_icmp .lt off, 3)) (ht : (pc : Int) + off = (tgt : Int)) (kt : x < y → RW X kc ks tgt lv st ws) (kf : ¬ x < y → RW X kc ks (pc + 3) lv st ws) : RW X kc ks pc lv (.int y :: .int x :: st) ws := by
  obtain ⟨g, p, l, e, R, s, m, args, below, meth, c, A, H0, nL, Q⟩ := X
  obtain ⟨hx, hb, hml, rfl, hown, hts, hK, hA, hlocks, rfl⟩ := C
  intro H locs ls hP hD hS hl
  exact lv_icmp_lt hx hb hd ht (fun h => kt h H locs ls hP hD hS hl) (fun h => kf h H locs ls hP hD hS hl)
theorem r_icmp_ge {x y : Int32} {off : Int} {tgt : Nat} (C : ww_C X cc n0 own Ts rm) (hd : decode cc pc = .ok (.if_icmp .ge off, 3)) (ht : (pc : Int) + off = (tgt : Int)) (kt : y ≤ x → RW X kc ks tgt lv st ws) (kf : ¬ y ≤ x → RW X kc ks (pc + 3) lv st ws) : RW X kc ks pc lv (.int y :: .int x :: st) ws := by
  obtain ⟨g, p, l, e, R, s, m, args, below, meth, c, A, H0, nL, Q⟩ := X
  obtain ⟨hx, hb, hml, rfl, hown, hts, hK, hA, hlocks, rfl⟩ := C
  intro H locs ls hP hD hS hl
  exact lv_icmp_ge hx hb hd ht (fun h => kt h H locs ls hP hD hS hl) (fun h => kf h H locs ls hP hD hS hl)
theorem r_icmp_gt {x y : Int32} {off : Int} {tgt : Nat} (C : ww_C X cc n0 own Ts rm) (hd : decode cc pc = .ok (.if_icmp .gt off, 3)) (ht : (pc : Int) + off = (tgt : Int)) (kt : y < x → RW X kc ks tgt lv st ws) (kf : ¬ y < x → RW X kc ks (pc + 3) lv st ws) : RW X kc ks pc lv (.int y :: .int x :: st) ws := by
  obtain ⟨g, p, l, e, R, s, m, args, below, meth, c, A, H0, nL, Q⟩ := X
  obtain ⟨hx, hb, hml, rfl, hown, hts, hK, hA, hlocks, rfl⟩ := C
  intro H locs ls hP hD hS hl
  exact lv_icmp_gt hx hb hd ht (fun h => kt h H locs ls hP hD hS hl) (fun h => kf h H locs ls hP hD hS hl)
theorem r_icmp_le {x y : Int32} {off : Int} {tgt : Nat} (C : ww_C X cc n0 own Ts rm) (hd : decode cc pc = .ok (.if_icmp .le off, 3)) (ht : (pc : Int) + off = (tgt : Int)) (kt : x ≤ y → RW X kc ks tgt lv st ws) (kf : ¬ x ≤ y → RW X kc ks (pc + 3) lv st ws) : RW X kc ks pc lv (.int y :: .int x :: st) ws := by
  obtain ⟨g, p, l, e, R, s, m, args, below, meth, c, A, H0, nL, Q⟩ := X
  obtain ⟨hx, hb, hml, rfl, hown, hts, hK, hA, hlocks, rfl⟩ := C
  intro H locs ls hP hD hS hl
  exact lv_icmp_le hx hb hd ht (fun h => kt h H locs ls hP hD hS hl) (fun h => kf h H locs ls hP hD hS hl)
theorem r_goto {off : Int} {tgt : Nat} (C : ww_C X cc n0 own Ts rm) (hd : decode cc pc = .ok (.goto off, 3)) (ht : (pc : Int) + off = (tgt : Int)) (k : RW X kc ks tgt lv st ws) : RW X kc ks pc lv st ws := by
  obtain ⟨g, p, l, e, R, s, m, args, below, meth, c, A, H0, nL, Q⟩ := X
  obtain ⟨hx, hb, hml, rfl, hown, hts, hK, hA, hlocks, rfl⟩ := C
  intro H locs ls hP hD hS hl
  exact lv_goto hx hb hd ht (k H locs ls hP hD hS hl)
theorem r_iconst {n : Int} {v : Int32} (C : ww_C X cc n0 own Ts rm) (hd : decode cc pc = .ok (.iconst n, 1)) (hv : Int32.ofInt n = v) (k : RW X kc ks (pc + 1) lv (.int v :: st) ws) : RW X kc ks pc lv st ws := by
  obtain ⟨g, p, l, e, R, s, m, args, below, meth, c, A, H0, nL, Q⟩ := X
  obtain ⟨hx, hb, hml, rfl, hown, hts, hK, hA, hlocks, rfl⟩ := C
  intro H locs ls hP hD hS hl
  exact lv_iconst hx hb hd hv (k H locs ls hP hD hS hl)
theorem r_bipush {n : Int} {v : Int32} (C : ww_C X cc n0 own Ts rm) (hd : decode cc pc = .ok (.bipush n, 2)) (hv : (Int8.ofInt n).toInt32 = v) (k : RW X kc ks (pc + 2) lv (.int v :: st) ws) : RW X kc ks pc lv st ws := by
  obtain ⟨g, p, l, e, R, s, m, args, below, meth, c, A, H0, nL, Q⟩ := X
  obtain ⟨hx, hb, hml, rfl, hown, hts, hK, hA, hlocks, rfl⟩ := C
  intro H locs ls hP hD hS hl
  exact lv_bipush hx hb hd hv (k H locs ls hP hD hS hl)
theorem r_sipush {n : Int} {v : Int32} (C : ww_C X cc n0 own Ts rm) (hd : decode cc pc = .ok (.sipush n, 3)) (hv : (Int16.ofInt n).toInt32 = v) (k : RW X kc ks (pc + 3) lv (.int v :: st) ws) : RW X kc ks pc lv st ws := by
  obtain ⟨g, p, l, e, R, s, m, args, below, meth, c, A, H0, nL, Q⟩ := X
  obtain ⟨hx, hb, hml, rfl, hown, hts, hK, hA, hlocks, rfl⟩ := C
  intro H locs ls hP hD hS hl
  exact lv_sipush hx hb hd hv (k H locs ls hP hD hS hl)
theorem r_lconst {n : Fin 2} {v : Int64} (C : ww_C X cc n0 own Ts rm) (hd : decode cc pc = .ok (.lconst n, 1)) (hv : Int64.ofNat (n : Nat) = v) (k : RW X kc ks (pc + 1) lv (.long v :: st) ws) : RW X kc ks pc lv st ws := by
  obtain ⟨g, p, l, e, R, s, m, args, below, meth, c, A, H0, nL, Q⟩ := X
  obtain ⟨hx, hb, hml, rfl, hown, hts, hK, hA, hlocks, rfl⟩ := C
  intro H locs ls hP hD hS hl
  exact lv_lconst hx hb hd hv (k H locs ls hP hD hS hl)
theorem r_ldc {index : Nat} {v : Int32} (C : ww_C X cc n0 own Ts rm) (hd : decode cc pc = .ok (.ldc index, 2)) (hm : Cond.constant own index v ∈ Ts) (k : RW X kc ks (pc + 2) lv (.int v :: st) ws) : RW X kc ks pc lv st ws := by
  obtain ⟨g, p, l, e, R, s, m, args, below, meth, c, A, H0, nL, Q⟩ := X
  obtain ⟨hx, hb, hml, rfl, hown, hts, hK, hA, hlocks, rfl⟩ := C
  intro H locs ls hP hD hS hl
  exact lv_ldc hx hb hown (hts _ hm) hd (k H locs ls hP hD hS hl)
theorem r_ldcw {index : Nat} {v : Int32} (C : ww_C X cc n0 own Ts rm) (hd : decode cc pc = .ok (.ldc_w index, 3)) (hm : Cond.constant own index v ∈ Ts) (k : RW X kc ks (pc + 3) lv (.int v :: st) ws) : RW X kc ks pc lv st ws := by
  obtain ⟨g, p, l, e, R, s, m, args, below, meth, c, A, H0, nL, Q⟩ := X
  obtain ⟨hx, hb, hml, rfl, hown, hts, hK, hA, hlocks, rfl⟩ := C
  intro H locs ls hP hD hS hl
  exact lv_ldcw hx hb hown (hts _ hm) hd (k H locs ls hP hD hS hl)
theorem r_ldc2 {index : Nat} {v : Int64} (C : ww_C X cc n0 own Ts rm) (hd : decode cc pc = .ok (.ldc2_w index, 3)) (hm : Cond.constantLong own index v ∈ Ts) (k : RW X kc ks (pc + 3) lv (.long v :: st) ws) : RW X kc ks pc lv st ws := by
  obtain ⟨g, p, l, e, R, s, m, args, below, meth, c, A, H0, nL, Q⟩ := X
  obtain ⟨hx, hb, hml, rfl, hown, hts, hK, hA, hlocks, rfl⟩ := C
  intro H locs ls hP hD hS hl
  exact lv_ldc2 hx hb hown (hts _ hm) hd (k H locs ls hP hD hS hl)
theorem r_iload_n {k0 : Fin 4} {i : Nat} {x : Int32} (C : ww_C X cc n0 own Ts rm) (hd : decode cc pc = .ok (.iload_n k0, 1)) (j : Nat) (hi : (k0 : Nat) = i) (hj : lv[j]? = some (i, .int x)) (k : RW X kc ks (pc + 1) lv (.int x :: st) ws) : RW X kc ks pc lv st ws := by
  obtain ⟨g, p, l, e, R, s, m, args, below, meth, c, A, H0, nL, Q⟩ := X
  obtain ⟨hx, hb, hml, rfl, hown, hts, hK, hA, hlocks, rfl⟩ := C
  intro H locs ls hP hD hS hl
  exact lv_iload_n hx hb hd hi (lv_at hl j hj) (k H locs ls hP hD hS hl)
theorem r_iload {i : Nat} {x : Int32} (C : ww_C X cc n0 own Ts rm) (hd : decode cc pc = .ok (.iload i, 2)) (j : Nat) (hj : lv[j]? = some (i, .int x)) (k : RW X kc ks (pc + 2) lv (.int x :: st) ws) : RW X kc ks pc lv st ws := by
  obtain ⟨g, p, l, e, R, s, m, args, below, meth, c, A, H0, nL, Q⟩ := X
  obtain ⟨hx, hb, hml, rfl, hown, hts, hK, hA, hlocks, rfl⟩ := C
  intro H locs ls hP hD hS hl
  exact lv_iload hx hb hd (lv_at hl j hj) (k H locs ls hP hD hS hl)
theorem r_lload_n {k0 : Fin 4} {i : Nat} {x : Int64} (C : ww_C X cc n0 own Ts rm) (hd : decode cc pc = .ok (.lload_n k0, 1)) (j : Nat) (hi : (k0 : Nat) = i) (hj : lv[j]? = some (i, .long x)) (k : RW X kc ks (pc + 1) lv (.long x :: st) ws) : RW X kc ks pc lv st ws := by
  obtain ⟨g, p, l, e, R, s, m, args, below, meth, c, A, H0, nL, Q⟩ := X
  obtain ⟨hx, hb, hml, rfl, hown, hts, hK, hA, hlocks, rfl⟩ := C
  intro H locs ls hP hD hS hl
  exact lv_lload_n hx hb hd hi (lv_at hl j hj) (k H locs ls hP hD hS hl)
theorem r_lload {i : Nat} {x : Int64} (C : ww_C X cc n0 own Ts rm) (hd : decode cc pc = .ok (.lload i, 2)) (j : Nat) (hj : lv[j]? = some (i, .long x)) (k : RW X kc ks (pc + 2) lv (.long x :: st) ws) : RW X kc ks pc lv st ws := by
  obtain ⟨g, p, l, e, R, s, m, args, below, meth, c, A, H0, nL, Q⟩ := X
  obtain ⟨hx, hb, hml, rfl, hown, hts, hK, hA, hlocks, rfl⟩ := C
  intro H locs ls hP hD hS hl
  exact lv_lload hx hb hd (lv_at hl j hj) (k H locs ls hP hD hS hl)
theorem r_aload_n {k0 : Fin 4} {i : Nat} {x : Nat} (C : ww_C X cc n0 own Ts rm) (hd : decode cc pc = .ok (.aload_n k0, 1)) (j : Nat) (hi : (k0 : Nat) = i) (hj : lv[j]? = some (i, .ref x)) (k : RW X kc ks (pc + 1) lv (.ref x :: st) ws) : RW X kc ks pc lv st ws := by
  obtain ⟨g, p, l, e, R, s, m, args, below, meth, c, A, H0, nL, Q⟩ := X
  obtain ⟨hx, hb, hml, rfl, hown, hts, hK, hA, hlocks, rfl⟩ := C
  intro H locs ls hP hD hS hl
  exact lv_aload_n hx hb hd hi (lv_at hl j hj) (k H locs ls hP hD hS hl)
theorem r_aload {i : Nat} {x : Nat} (C : ww_C X cc n0 own Ts rm) (hd : decode cc pc = .ok (.aload i, 2)) (j : Nat) (hj : lv[j]? = some (i, .ref x)) (k : RW X kc ks (pc + 2) lv (.ref x :: st) ws) : RW X kc ks pc lv st ws := by
  obtain ⟨g, p, l, e, R, s, m, args, below, meth, c, A, H0, nL, Q⟩ := X
  obtain ⟨hx, hb, hml, rfl, hown, hts, hK, hA, hlocks, rfl⟩ := C
  intro H locs ls hP hD hS hl
  exact lv_aload hx hb hd (lv_at hl j hj) (k H locs ls hP hD hS hl)
theorem r_istore_n {k0 : Fin 4} {i : Nat} {x : Int32} (C : ww_C X cc n0 own Ts rm) (hd : decode cc pc = .ok (.istore_n k0, 1)) (hi : (k0 : Nat) = i) (hn : i < n0) (ps : List Nat) (hl9 : lv_pick ((i, Value.int x) :: lv.filter (fun q => !(q.1 == i) && !(q.1 + 1 == i && q.2.category == 2))) ps = lv') (k : RW X kc ks (pc + 1) lv' st ws) : RW X kc ks pc lv (Value.int x :: st) ws := by
  obtain ⟨g, p, l, e, R, s, m, args, below, meth, c, A, H0, nL, Q⟩ := X
  obtain ⟨hx, hb, hml, rfl, hown, hts, hK, hA, hlocks, rfl⟩ := C
  intro H locs ls hP hD hS hl
  exact lv_istore_n hx hb hd hi hl hn rfl (fun ls2 hl2 => k H locs ls2 hP hD hS (lv_sub hl2 ps hl9))
theorem r_istore {i : Nat} {x : Int32} (C : ww_C X cc n0 own Ts rm) (hd : decode cc pc = .ok (.istore i, 2)) (hn : i < n0) (ps : List Nat) (hl9 : lv_pick ((i, Value.int x) :: lv.filter (fun q => !(q.1 == i) && !(q.1 + 1 == i && q.2.category == 2))) ps = lv') (k : RW X kc ks (pc + 2) lv' st ws) : RW X kc ks pc lv (Value.int x :: st) ws := by
  obtain ⟨g, p, l, e, R, s, m, args, below, meth, c, A, H0, nL, Q⟩ := X
  obtain ⟨hx, hb, hml, rfl, hown, hts, hK, hA, hlocks, rfl⟩ := C
  intro H locs ls hP hD hS hl
  exact lv_istore hx hb hd hl hn rfl (fun ls2 hl2 => k H locs ls2 hP hD hS (lv_sub hl2 ps hl9))
theorem r_lstore_n {k0 : Fin 4} {i : Nat} {x : Int64} (C : ww_C X cc n0 own Ts rm) (hd : decode cc pc = .ok (.lstore_n k0, 1)) (hi : (k0 : Nat) = i) (hn : i + 1 < n0) (ps : List Nat) (hl9 : lv_pick ((i, Value.long x) :: lv.filter (fun q => !(q.1 == i) && (!(q.1 == i + 1) && !(q.1 + 1 == i && q.2.category == 2)))) ps = lv') (k : RW X kc ks (pc + 1) lv' st ws) : RW X kc ks pc lv (Value.long x :: st) ws := by
  obtain ⟨g, p, l, e, R, s, m, args, below, meth, c, A, H0, nL, Q⟩ := X
  obtain ⟨hx, hb, hml, rfl, hown, hts, hK, hA, hlocks, rfl⟩ := C
  intro H locs ls hP hD hS hl
  exact lv_lstore_n hx hb hd hi hl hn rfl (fun ls2 hl2 => k H locs ls2 hP hD hS (lv_sub hl2 ps hl9))
theorem r_lstore {i : Nat} {x : Int64} (C : ww_C X cc n0 own Ts rm) (hd : decode cc pc = .ok (.lstore i, 2)) (hn : i + 1 < n0) (ps : List Nat) (hl9 : lv_pick ((i, Value.long x) :: lv.filter (fun q => !(q.1 == i) && (!(q.1 == i + 1) && !(q.1 + 1 == i && q.2.category == 2)))) ps = lv') (k : RW X kc ks (pc + 2) lv' st ws) : RW X kc ks pc lv (Value.long x :: st) ws := by
  obtain ⟨g, p, l, e, R, s, m, args, below, meth, c, A, H0, nL, Q⟩ := X
  obtain ⟨hx, hb, hml, rfl, hown, hts, hK, hA, hlocks, rfl⟩ := C
  intro H locs ls hP hD hS hl
  exact lv_lstore hx hb hd hl hn rfl (fun ls2 hl2 => k H locs ls2 hP hD hS (lv_sub hl2 ps hl9))
theorem r_astore_n {k0 : Fin 4} {i : Nat} {x : Nat} (C : ww_C X cc n0 own Ts rm) (hd : decode cc pc = .ok (.astore_n k0, 1)) (hi : (k0 : Nat) = i) (hn : i < n0) (ps : List Nat) (hl9 : lv_pick ((i, Value.ref x) :: lv.filter (fun q => !(q.1 == i) && !(q.1 + 1 == i && q.2.category == 2))) ps = lv') (k : RW X kc ks (pc + 1) lv' st ws) : RW X kc ks pc lv (Value.ref x :: st) ws := by
  obtain ⟨g, p, l, e, R, s, m, args, below, meth, c, A, H0, nL, Q⟩ := X
  obtain ⟨hx, hb, hml, rfl, hown, hts, hK, hA, hlocks, rfl⟩ := C
  intro H locs ls hP hD hS hl
  exact lv_astore_n hx hb hd hi hl hn rfl (fun ls2 hl2 => k H locs ls2 hP hD hS (lv_sub hl2 ps hl9))
theorem r_astore {i : Nat} {x : Nat} (C : ww_C X cc n0 own Ts rm) (hd : decode cc pc = .ok (.astore i, 2)) (hn : i < n0) (ps : List Nat) (hl9 : lv_pick ((i, Value.ref x) :: lv.filter (fun q => !(q.1 == i) && !(q.1 + 1 == i && q.2.category == 2))) ps = lv') (k : RW X kc ks (pc + 2) lv' st ws) : RW X kc ks pc lv (Value.ref x :: st) ws := by
  obtain ⟨g, p, l, e, R, s, m, args, below, meth, c, A, H0, nL, Q⟩ := X
  obtain ⟨hx, hb, hml, rfl, hown, hts, hK, hA, hlocks, rfl⟩ := C
  intro H locs ls hP hD hS hl
  exact lv_astore hx hb hd hl hn rfl (fun ls2 hl2 => k H locs ls2 hP hD hS (lv_sub hl2 ps hl9))
theorem r_iinc {i : Nat} {n : Int} {x v : Int32} (C : ww_C X cc n0 own Ts rm) (hd : decode cc pc = .ok (.iinc i n, 3)) (j : Nat) (hj : lv[j]? = some (i, .int x)) (hv : x + Int32.ofInt n = v) (hn : i < n0) (ps : List Nat) (hl9 : lv_pick ((i, Value.int v) :: lv.filter (fun q => !(q.1 == i) && !(q.1 + 1 == i && q.2.category == 2))) ps = lv') (k : RW X kc ks (pc + 3) lv' st ws) : RW X kc ks pc lv st ws := by
  obtain ⟨g, p, l, e, R, s, m, args, below, meth, c, A, H0, nL, Q⟩ := X
  obtain ⟨hx, hb, hml, rfl, hown, hts, hK, hA, hlocks, rfl⟩ := C
  intro H locs ls hP hD hS hl
  exact lv_iinc hx hb hd hl hj hv hn rfl (fun ls2 hl2 => k H locs ls2 hP hD hS (lv_sub hl2 ps hl9))
theorem r_top {x y : Int32} (h : x = y) (k : RW X kc ks pc lv (.int y :: st) ws) : RW X kc ks pc lv (.int x :: st) ws := h ▸ k
theorem r_lv (ps : List Nat) (h : lv_pick lv ps = lv') (k : RW X kc ks pc lv' st ws) : RW X kc ks pc lv st ws := by
  obtain ⟨g, p, l, e, R, s, m, args, below, meth, c, A, H0, nL, Q⟩ := X
  intro H locs ls hP hD hS hl
  exact k H locs ls hP hD hS (lv_sub hl ps h)
theorem r_widen {kc2 ks2 : Nat} (h1 : kc ≤ kc2) (h2 : ks ≤ ks2) (k : RW X kc2 ks2 pc lv st ws) : RW X kc ks pc lv st ws := by
  obtain ⟨g, p, l, e, R, s, m, args, below, meth, c, A, H0, nL, Q⟩ := X
  intro H locs ls hP hD hS hl
  exact W.widen h1 h2 (k H locs ls hP hD hS hl)
/-- two pictures of one heap: the same addresses, and what the second says holds where the first does -/
theorem r_ws (ha : ws'.map Prod.fst = ws.map Prod.fst) (h : ∀ (g : ww_G) (H : Heap), va_P g.1 vwCl ws H → va_P g.1 vwCl ws' H) (k : RW X kc ks pc lv st ws') : RW X kc ks pc lv st ws := by
  obtain ⟨g, p, l, e, R, s, m, args, below, meth, c, A, H0, nL, Q⟩ := X
  intro H locs ls hP hD hS hl
  refine k H locs ls (h g H hP) ?_ hS hl
  have hadr : ∀ (i : Nat) (q : Nat × va_E), ws'[i]? = some q → ∃ q2, ws[i]? = some q2 ∧ q2.1 = q.1 := by
    intro i q hq
    have h1 : (ws'.map Prod.fst)[i]? = some q.1 := by rw [List.getElem?_map, hq]; rfl
    rw [ha, List.getElem?_map] at h1
    cases h2 : ws[i]? with
    | none => rw [h2] at h1; cases h1
    | some q2 => rw [h2] at h1; exact ⟨q2, rfl, Option.some.inj h1⟩
  refine ⟨fun i j p q hi hj e => ?_, fun i q hi => ?_⟩
  · obtain ⟨p2, hp2, ep⟩ := hadr i p hi
    obtain ⟨q2, hq2, eq⟩ := hadr j q hj
    exact hD.1 i j p2 q2 hp2 hq2 (by rw [ep, eq, e])
  · obtain ⟨q2, hq2, eq⟩ := hadr i q hi
    rw [← eq]
    exact hD.2 i q2 hq2
theorem r_get {C0 : String} {T : u_T} {N ci index a : Nat} {fs : List Value} {v : Value} (C : ww_C X cc n0 own Ts rm) (hd : decode cc pc = .ok (.getfield index, 3)) (hin : ∀ w ∈ u_ws C0 T N, w ∈ Ts) (k : Nat) (hm : Cond.fieldLink own index (T k).1 (T k).2.1 (T k).2.2.1 ∈ Ts) (q0 : Nat) (he : ws[q0]? = some (a, .inr (ci, fs))) (hc : vwCl[ci]? = some (C0, T, N)) (hk : k < N) (hv : fs[k]? = some v) (kk : RW X kc ks (pc + 3) lv (v :: st) ws) : RW X kc ks pc lv (.ref a :: st) ws := by
  obtain ⟨g, p, l, e, R, s, m, args, below, meth, c, A, H0, nL, Q⟩ := X
  obtain ⟨hx, hb, hml, rfl, hown, hts, hK, hA, hlocks, rfl⟩ := C
  intro H locs ls hP hD hS hl
  exact va_get hx hb hts hin hown hK hP q0 he hc k hk (hts _ hm) (fun _ h9 => h9) hv hd (kk H locs ls hP hD hS hl)
theorem r_put {C0 : String} {T : u_T} {N ci index a : Nat} {fs : List Value} {v : Value} {ty : FieldType} (C : ww_C X cc n0 own Ts rm) (hd : decode cc pc = .ok (.putfield index, 3)) (hin : ∀ w ∈ u_ws C0 T N, w ∈ Ts) (ty0 : Nat → FieldType) (hty : ∀ k, k < N → parseFieldDescriptor (T k).2.2.1 = some (ty0 k)) (hnm : ∀ a, a < N → ∀ b, b < N → a ≠ b → (T a).2.1 ≠ (T b).2.1) (k : Nat) (hm : Cond.fieldLink own index (T k).1 (T k).2.1 (T k).2.2.1 ∈ Ts) (q0 : Nat) (he : ws[q0]? = some (a, .inr (ci, fs))) (hc : vwCl[ci]? = some (C0, T, N)) (hk : k < N) (hfin : (T k).2.2.2 = false) (hd2 : ty0 k = ty) (hn : narrow ty v = v) (hfit : fits ty v = true) (hl0 : k < fs.length) (hws : ws.set q0 (a, .inr (ci, fs.set k v)) = ws') (kk : RW X kc ks (pc + 3) lv st ws') : RW X kc ks pc lv (v :: .ref a :: st) ws := by
  obtain ⟨g, p, l, e, R, s, m, args, below, meth, c, A, H0, nL, Q⟩ := X
  obtain ⟨hx, hb, hml, rfl, hown, hts, hK, hA, hlocks, rfl⟩ := C
  intro H locs ls hP hD hS hl
  subst hws
  subst hd2
  exact va_put hx hb hts hin ty0 hty hnm hown hK hP hD hS q0 he hc k hk (hts _ hm) (fun _ h9 => h9) hfin (hty k hk) hn hfit hl0 hd (fun H1 locs1 hP1 hD1 hS1 => kk H1 locs1 ls hP1 hD1 hS1 hl)
theorem r_iald {a n i : Nat} {f : Nat → Int32} (C : ww_C X cc n0 own Ts rm) (hd : decode cc pc = .ok (.iaload, 1)) (q0 : Nat) (ha : ws[q0]? = some (a, .inl (X.1.2.1, n, .inl f))) (hi : i < n) (hn : n < 2147483648) (k : RW X kc ks (pc + 1) lv (.int (f i) :: st) ws) : RW X kc ks pc lv (.int (nI i) :: .ref a :: st) ws := by
  obtain ⟨g, p, l, e, R, s, m, args, below, meth, c, A, H0, nL, Q⟩ := X
  obtain ⟨hx, hb, hml, rfl, hown, hts, hK, hA, hlocks, rfl⟩ := C
  intro H locs ls hP hD hS hl
  have hk9 := k H locs ls hP hD hS hl
  have e9 : (nI i).toNatClampNeg = i := nI_clamp (by omega)
  refine va_iald hx hb hK hP q0 0 ha rfl (vp_in_nI hi hn) hd ?_
  rw [e9]
  exact hk9
theorem r_zald {a n i : Nat} {f : Nat → Int32} (C : ww_C X cc n0 own Ts rm) (hd : decode cc pc = .ok (.baload, 1)) (q0 : Nat) (ha : ws[q0]? = some (a, .inl (X.1.2.2.1, n, .inl f))) (hi : i < n) (hn : n < 2147483648) (k : RW X kc ks (pc + 1) lv (.int (f i) :: st) ws) : RW X kc ks pc lv (.int (nI i) :: .ref a :: st) ws := by
  obtain ⟨g, p, l, e, R, s, m, args, below, meth, c, A, H0, nL, Q⟩ := X
  obtain ⟨hx, hb, hml, rfl, hown, hts, hK, hA, hlocks, rfl⟩ := C
  intro H locs ls hP hD hS hl
  have hk9 := k H locs ls hP hD hS hl
  have e9 : (nI i).toNatClampNeg = i := nI_clamp (by omega)
  refine va_zald hx hb hK hP q0 1 ha rfl (vp_in_nI hi hn) hd ?_
  rw [e9]
  exact hk9
theorem r_iast {a n i : Nat} {f : Nat → Int32} {x : Int32} (C : ww_C X cc n0 own Ts rm) (hd : decode cc pc = .ok (.iastore, 1)) (q0 : Nat) (ha : ws[q0]? = some (a, .inl (X.1.2.1, n, .inl f))) (hi : i < n) (hn : n < 2147483648) (hws : ws.set q0 (a, .inl (X.1.2.1, n, .inl (upd f i (x)))) = ws') (k : RW X kc ks (pc + 1) lv st ws') : RW X kc ks pc lv (.int x :: .int (nI i) :: .ref a :: st) ws := by
  obtain ⟨g, p, l, e, R, s, m, args, below, meth, c, A, H0, nL, Q⟩ := X
  obtain ⟨hx, hb, hml, rfl, hown, hts, hK, hA, hlocks, rfl⟩ := C
  intro H locs ls hP hD hS hl
  subst hws
  have e9 : (nI i).toNatClampNeg = i := nI_clamp (by omega)
  refine va_iast hx hb hK hP hD hS q0 0 ha rfl (vp_in_nI hi hn) hd (fun H1 locs1 hP1 hD1 hS1 => ?_)
  rw [e9] at hP1 hD1
  exact k H1 locs1 ls hP1 hD1 hS1 hl
theorem r_zast {a n i : Nat} {f : Nat → Int32} {x : Int32} (C : ww_C X cc n0 own Ts rm) (hd : decode cc pc = .ok (.bastore, 1)) (q0 : Nat) (ha : ws[q0]? = some (a, .inl (X.1.2.2.1, n, .inl f))) (hi : i < n) (hn : n < 2147483648) (hws : ws.set q0 (a, .inl (X.1.2.2.1, n, .inl (upd f i (vp_nar .boolean x)))) = ws') (k : RW X kc ks (pc + 1) lv st ws') : RW X kc ks pc lv (.int x :: .int (nI i) :: .ref a :: st) ws := by
  obtain ⟨g, p, l, e, R, s, m, args, below, meth, c, A, H0, nL, Q⟩ := X
  obtain ⟨hx, hb, hml, rfl, hown, hts, hK, hA, hlocks, rfl⟩ := C
  intro H locs ls hP hD hS hl
  subst hws
  have e9 : (nI i).toNatClampNeg = i := nI_clamp (by omega)
  refine va_zast hx hb hK hP hD hS q0 1 ha rfl (vp_in_nI hi hn) hd (fun H1 locs1 hP1 hD1 hS1 => ?_)
  rw [e9] at hP1 hD1
  exact k H1 locs1 ls hP1 hD1 hS1 hl
theorem r_alen {a : Nat} {x : vp_A} {v : Int32} (C : ww_C X cc n0 own Ts rm) (hd : decode cc pc = .ok (.arraylength, 1)) (q0 t0 : Nat) {cA : ClassId} (ha : ws[q0]? = some (a, .inl (cA, x))) {ty : FieldType} (ht : (ww_t X.1)[t0]? = some (cA, ty)) (hv : Int32.ofNat x.1 = v) (k : RW X kc ks (pc + 1) lv (.int v :: st) ws) : RW X kc ks pc lv (.ref a :: st) ws := by
  obtain ⟨g, p, l, e, R, s, m, args, below, meth, c, A, H0, nL, Q⟩ := X
  obtain ⟨hx, hb, hml, rfl, hown, hts, hK, hA, hlocks, rfl⟩ := C
  intro H locs ls hP hD hS hl
  exact va_alen hx hb hK hP q0 t0 ha ht hv hd (k H locs ls hP hD hS hl)
theorem r_lald {a n i : Nat} {f : Nat → Int64} (C : ww_C X cc n0 own Ts rm) (hd : decode cc pc = .ok (.laload, 1)) (q0 : Nat) (ha : ws[q0]? = some (a, .inl (X.1.2.2.2.2, n, .inr (.inl f)))) (hi : i < n) (hn : n < 2147483648) (k : RW X kc ks (pc + 1) lv (.long (f i) :: st) ws) : RW X kc ks pc lv (.int (nI i) :: .ref a :: st) ws := by
  obtain ⟨g, p, l, e, R, s, m, args, below, meth, c, A, H0, nL, Q⟩ := X
  obtain ⟨hx, hb, hml, rfl, hown, hts, hK, hA, hlocks, rfl⟩ := C
  intro H locs ls hP hD hS hl
  have hk9 := k H locs ls hP hD hS hl
  have e9 : (nI i).toNatClampNeg = i := nI_clamp (by omega)
  refine va_lald hx hb hK hP q0 3 ha rfl (vp_in_nI hi hn) hd ?_
  rw [e9]
  exact hk9
theorem r_last {a n i : Nat} {f : Nat → Int64} {x : Int64} (C : ww_C X cc n0 own Ts rm) (hd : decode cc pc = .ok (.lastore, 1)) (q0 : Nat) (ha : ws[q0]? = some (a, .inl (X.1.2.2.2.2, n, .inr (.inl f)))) (hi : i < n) (hn : n < 2147483648) (hws : ws.set q0 (a, .inl (X.1.2.2.2.2, n, .inr (.inl (vp_updL f i x)))) = ws') (k : RW X kc ks (pc + 1) lv st ws') : RW X kc ks pc lv (.long x :: .int (nI i) :: .ref a :: st) ws := by
  obtain ⟨g, p, l, e, R, s, m, args, below, meth, c, A, H0, nL, Q⟩ := X
  obtain ⟨hx, hb, hml, rfl, hown, hts, hK, hA, hlocks, rfl⟩ := C
  intro H locs ls hP hD hS hl
  subst hws
  have e9 : (nI i).toNatClampNeg = i := nI_clamp (by omega)
  refine va_last hx hb hK hP hD hS q0 3 ha rfl (vp_in_nI hi hn) hd (fun H1 locs1 hP1 hD1 hS1 => ?_)
  rw [e9] at hP1 hD1
  exact k H1 locs1 ls hP1 hD1 hS1 hl
end
end
section
theorem zz_last : True := trivial
end
