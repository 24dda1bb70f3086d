section
-- ===== PART A: goes FIRST, ahead of the names: the tables' words, and 'selects' of the private methods out of them =====
/-- a private method of a class that the tables say can be made, by its rows of tables_1 -/
def lw_okq (q : MethodName × Nat) : Prop := (q.1.cls ≠ "java/lang/invoke/MethodHandle" ∧ q.1.cls ≠ "java/lang/invoke/VarHandle") ∧ Cond.instantiable q.1.cls q.2 ∈ tables_1 ∧ Cond.privateMethod q.1 ∈ tables_1 ∧ Cond.instanceMethod q.1 ∈ tables_1
theorem lw_p0 : lw_okq (⟨"SeedMakers$Sets", "moved", "(II)I"⟩, 2) := ⟨⟨by decide +kernel, by decide +kernel⟩, List.mem_of_getElem? (i := 81) (by decide +kernel), List.mem_of_getElem? (i := 336) (by decide +kernel), List.mem_of_getElem? (i := 337) (by decide +kernel)⟩
theorem lw_p1 : lw_okq (⟨"SeedMakers$Maker", "drawWhole", "()Z"⟩, 20) := ⟨⟨by decide +kernel, by decide +kernel⟩, List.mem_of_getElem? (i := 113) (by decide +kernel), List.mem_of_getElem? (i := 359) (by decide +kernel), List.mem_of_getElem? (i := 360) (by decide +kernel)⟩
theorem lw_p2 : lw_okq (⟨"SeedMakers$Drawer", "tightest", "()I"⟩, 3) := ⟨⟨by decide +kernel, by decide +kernel⟩, List.mem_of_getElem? (i := 129) (by decide +kernel), List.mem_of_getElem? (i := 368) (by decide +kernel), List.mem_of_getElem? (i := 369) (by decide +kernel)⟩
theorem lw_p3 : lw_okq (⟨"SeedMakers$Board", "flip", "(II)V"⟩, 5) := ⟨⟨by decide +kernel, by decide +kernel⟩, List.mem_of_getElem? (i := 135) (by decide +kernel), List.mem_of_getElem? (i := 408) (by decide +kernel), List.mem_of_getElem? (i := 409) (by decide +kernel)⟩
theorem lw_p4 : lw_okq (⟨"SeedMakers$Maker", "takeOutEmptySets", "()Z"⟩, 20) := ⟨⟨by decide +kernel, by decide +kernel⟩, List.mem_of_getElem? (i := 113) (by decide +kernel), List.mem_of_getElem? (i := 415) (by decide +kernel), List.mem_of_getElem? (i := 416) (by decide +kernel)⟩
theorem lw_p5 : lw_okq (⟨"SeedMakers$Maker", "markSetsWith", "(I)V"⟩, 20) := ⟨⟨by decide +kernel, by decide +kernel⟩, List.mem_of_getElem? (i := 113) (by decide +kernel), List.mem_of_getElem? (i := 419) (by decide +kernel), List.mem_of_getElem? (i := 420) (by decide +kernel)⟩
theorem lw_p6 : lw_okq (⟨"SeedMakers$Solver", "search", "(I)V"⟩, 4) := ⟨⟨by decide +kernel, by decide +kernel⟩, List.mem_of_getElem? (i := 190) (by decide +kernel), List.mem_of_getElem? (i := 433) (by decide +kernel), List.mem_of_getElem? (i := 434) (by decide +kernel)⟩
theorem lw_p7 : lw_okq (⟨"SeedMakers$Solver", "tightest", "(I)I"⟩, 4) := ⟨⟨by decide +kernel, by decide +kernel⟩, List.mem_of_getElem? (i := 190) (by decide +kernel), List.mem_of_getElem? (i := 437) (by decide +kernel), List.mem_of_getElem? (i := 438) (by decide +kernel)⟩
theorem lw_p8 : lw_okq (⟨"SeedMakers$Maker", "layRow", "()I"⟩, 20) := ⟨⟨by decide +kernel, by decide +kernel⟩, List.mem_of_getElem? (i := 113) (by decide +kernel), List.mem_of_getElem? (i := 449) (by decide +kernel), List.mem_of_getElem? (i := 450) (by decide +kernel)⟩
theorem lw_p9 : lw_okq (⟨"SeedMakers$Maker", "mixRow", "(I)V"⟩, 20) := ⟨⟨by decide +kernel, by decide +kernel⟩, List.mem_of_getElem? (i := 113) (by decide +kernel), List.mem_of_getElem? (i := 453) (by decide +kernel), List.mem_of_getElem? (i := 454) (by decide +kernel)⟩
theorem lw_p10 : lw_okq (⟨"SeedMakers$Maker", "countGivens", "()I"⟩, 20) := ⟨⟨by decide +kernel, by decide +kernel⟩, List.mem_of_getElem? (i := 113) (by decide +kernel), List.mem_of_getElem? (i := 462) (by decide +kernel), List.mem_of_getElem? (i := 463) (by decide +kernel)⟩
theorem lw_p11 : lw_okq (⟨"SeedMakers$Singles", "fillLoneSymbols", "()Z"⟩, 2) := ⟨⟨by decide +kernel, by decide +kernel⟩, List.mem_of_getElem? (i := 175) (by decide +kernel), List.mem_of_getElem? (i := 471) (by decide +kernel), List.mem_of_getElem? (i := 472) (by decide +kernel)⟩
theorem lw_p12 : lw_okq (⟨"SeedMakers$Singles", "fillLoneCells", "()Z"⟩, 2) := ⟨⟨by decide +kernel, by decide +kernel⟩, List.mem_of_getElem? (i := 175) (by decide +kernel), List.mem_of_getElem? (i := 480) (by decide +kernel), List.mem_of_getElem? (i := 481) (by decide +kernel)⟩
theorem lw_p13 : lw_okq (⟨"SeedMakers$Singles", "symbolsOfOneCell", "([I)I"⟩, 2) := ⟨⟨by decide +kernel, by decide +kernel⟩, List.mem_of_getElem? (i := 175) (by decide +kernel), List.mem_of_getElem? (i := 484) (by decide +kernel), List.mem_of_getElem? (i := 485) (by decide +kernel)⟩
theorem lw_p14 : lw_okq (⟨"SeedMakers$Singles", "fillFrom", "([II)Z"⟩, 2) := ⟨⟨by decide +kernel, by decide +kernel⟩, List.mem_of_getElem? (i := 175) (by decide +kernel), List.mem_of_getElem? (i := 488) (by decide +kernel), List.mem_of_getElem? (i := 489) (by decide +kernel)⟩
theorem lw_p15 : lw_okq (⟨"SeedMakers$Typed", "readByte", "(II)Z"⟩, 5) := ⟨⟨by decide +kernel, by decide +kernel⟩, List.mem_of_getElem? (i := 284) (by decide +kernel), List.mem_of_getElem? (i := 514) (by decide +kernel), List.mem_of_getElem? (i := 515) (by decide +kernel)⟩
def lw_privs_1 : List (MethodName × Nat) := [(⟨"SeedMakers$Sets", "moved", "(II)I"⟩, 2), (⟨"SeedMakers$Maker", "drawWhole", "()Z"⟩, 20), (⟨"SeedMakers$Drawer", "tightest", "()I"⟩, 3), (⟨"SeedMakers$Board", "flip", "(II)V"⟩, 5), (⟨"SeedMakers$Maker", "takeOutEmptySets", "()Z"⟩, 20), (⟨"SeedMakers$Maker", "markSetsWith", "(I)V"⟩, 20), (⟨"SeedMakers$Solver", "search", "(I)V"⟩, 4), (⟨"SeedMakers$Solver", "tightest", "(I)I"⟩, 4), (⟨"SeedMakers$Maker", "layRow", "()I"⟩, 20), (⟨"SeedMakers$Maker", "mixRow", "(I)V"⟩, 20), (⟨"SeedMakers$Maker", "countGivens", "()I"⟩, 20), (⟨"SeedMakers$Singles", "fillLoneSymbols", "()Z"⟩, 2), (⟨"SeedMakers$Singles", "fillLoneCells", "()Z"⟩, 2), (⟨"SeedMakers$Singles", "symbolsOfOneCell", "([I)I"⟩, 2), (⟨"SeedMakers$Singles", "fillFrom", "([II)Z"⟩, 2), (⟨"SeedMakers$Typed", "readByte", "(II)Z"⟩, 5)]
theorem lw_r1 : ∀ q ∈ lw_privs_1, lw_okq q := List.forall_mem_cons.mpr ⟨lw_p0, List.forall_mem_cons.mpr ⟨lw_p1, List.forall_mem_cons.mpr ⟨lw_p2, List.forall_mem_cons.mpr ⟨lw_p3, List.forall_mem_cons.mpr ⟨lw_p4, List.forall_mem_cons.mpr ⟨lw_p5, List.forall_mem_cons.mpr ⟨lw_p6, List.forall_mem_cons.mpr ⟨lw_p7, List.forall_mem_cons.mpr ⟨lw_p8, List.forall_mem_cons.mpr ⟨lw_p9, List.forall_mem_cons.mpr ⟨lw_p10, List.forall_mem_cons.mpr ⟨lw_p11, List.forall_mem_cons.mpr ⟨lw_p12, List.forall_mem_cons.mpr ⟨lw_p13, List.forall_mem_cons.mpr ⟨lw_p14, List.forall_mem_cons.mpr ⟨lw_p15, fun _ h => absurd h List.not_mem_nil⟩⟩⟩⟩⟩⟩⟩⟩⟩⟩⟩⟩⟩⟩⟩⟩
theorem lw_p16 : lw_okq (⟨"java/lang/Throwable", "fillInStackTrace", "(I)Ljava/lang/Throwable;"⟩, 6) := ⟨⟨by decide +kernel, by decide +kernel⟩, List.mem_of_getElem? (i := 591) (by decide +kernel), List.mem_of_getElem? (i := 589) (by decide +kernel), List.mem_of_getElem? (i := 590) (by decide +kernel)⟩
theorem lw_p17 : lw_okq (⟨"SeedMakersModel", "isCell", "(I)Z"⟩, 22) := ⟨⟨by decide +kernel, by decide +kernel⟩, List.mem_of_getElem? (i := 675) (by decide +kernel), List.mem_of_getElem? (i := 761) (by decide +kernel), List.mem_of_getElem? (i := 762) (by decide +kernel)⟩
theorem lw_p18 : lw_okq (⟨"SeedMakersModel", "cells", "()I"⟩, 22) := ⟨⟨by decide +kernel, by decide +kernel⟩, List.mem_of_getElem? (i := 675) (by decide +kernel), List.mem_of_getElem? (i := 765) (by decide +kernel), List.mem_of_getElem? (i := 766) (by decide +kernel)⟩
theorem lw_p19 : lw_okq (⟨"SeedMakersModel", "throwsIf", "(IZ)Z"⟩, 22) := ⟨⟨by decide +kernel, by decide +kernel⟩, List.mem_of_getElem? (i := 675) (by decide +kernel), List.mem_of_getElem? (i := 769) (by decide +kernel), List.mem_of_getElem? (i := 770) (by decide +kernel)⟩
theorem lw_p20 : lw_okq (⟨"SeedMakersModel", "isGood", "()Z"⟩, 22) := ⟨⟨by decide +kernel, by decide +kernel⟩, List.mem_of_getElem? (i := 675) (by decide +kernel), List.mem_of_getElem? (i := 781) (by decide +kernel), List.mem_of_getElem? (i := 782) (by decide +kernel)⟩
theorem lw_p21 : lw_okq (⟨"SeedMakersModel", "draw", "()Z"⟩, 22) := ⟨⟨by decide +kernel, by decide +kernel⟩, List.mem_of_getElem? (i := 675) (by decide +kernel), List.mem_of_getElem? (i := 785) (by decide +kernel), List.mem_of_getElem? (i := 786) (by decide +kernel)⟩
theorem lw_p22 : lw_okq (⟨"SeedMakersModel", "empty", "()V"⟩, 22) := ⟨⟨by decide +kernel, by decide +kernel⟩, List.mem_of_getElem? (i := 675) (by decide +kernel), List.mem_of_getElem? (i := 789) (by decide +kernel), List.mem_of_getElem? (i := 790) (by decide +kernel)⟩
theorem lw_p23 : lw_okq (⟨"SeedMakersModel", "countDraw", "(I)I"⟩, 22) := ⟨⟨by decide +kernel, by decide +kernel⟩, List.mem_of_getElem? (i := 675) (by decide +kernel), List.mem_of_getElem? (i := 793) (by decide +kernel), List.mem_of_getElem? (i := 794) (by decide +kernel)⟩
theorem lw_p24 : lw_okq (⟨"SeedMakersModel", "mayDraw", "(II)Z"⟩, 22) := ⟨⟨by decide +kernel, by decide +kernel⟩, List.mem_of_getElem? (i := 675) (by decide +kernel), List.mem_of_getElem? (i := 797) (by decide +kernel), List.mem_of_getElem? (i := 798) (by decide +kernel)⟩
theorem lw_p25 : lw_okq (⟨"SeedMakersModel", "sees", "(II)Z"⟩, 22) := ⟨⟨by decide +kernel, by decide +kernel⟩, List.mem_of_getElem? (i := 675) (by decide +kernel), List.mem_of_getElem? (i := 801) (by decide +kernel), List.mem_of_getElem? (i := 802) (by decide +kernel)⟩
theorem lw_p26 : lw_okq (⟨"SeedMakersModel", "below", "(I)I"⟩, 22) := ⟨⟨by decide +kernel, by decide +kernel⟩, List.mem_of_getElem? (i := 675) (by decide +kernel), List.mem_of_getElem? (i := 805) (by decide +kernel), List.mem_of_getElem? (i := 806) (by decide +kernel)⟩
theorem lw_p27 : lw_okq (⟨"SeedMakersModel", "leastOf", "(I)I"⟩, 22) := ⟨⟨by decide +kernel, by decide +kernel⟩, List.mem_of_getElem? (i := 675) (by decide +kernel), List.mem_of_getElem? (i := 811) (by decide +kernel), List.mem_of_getElem? (i := 812) (by decide +kernel)⟩
theorem lw_p28 : lw_okq (⟨"SeedMakersModel", "turned", "(I)I"⟩, 22) := ⟨⟨by decide +kernel, by decide +kernel⟩, List.mem_of_getElem? (i := 675) (by decide +kernel), List.mem_of_getElem? (i := 815) (by decide +kernel), List.mem_of_getElem? (i := 816) (by decide +kernel)⟩
theorem lw_p29 : lw_okq (⟨"SeedMakersModel", "hasTheme", "(II)Z"⟩, 22) := ⟨⟨by decide +kernel, by decide +kernel⟩, List.mem_of_getElem? (i := 675) (by decide +kernel), List.mem_of_getElem? (i := 819) (by decide +kernel), List.mem_of_getElem? (i := 820) (by decide +kernel)⟩
theorem lw_p30 : lw_okq (⟨"SeedMakersModel", "takeOut", "(I)V"⟩, 22) := ⟨⟨by decide +kernel, by decide +kernel⟩, List.mem_of_getElem? (i := 675) (by decide +kernel), List.mem_of_getElem? (i := 823) (by decide +kernel), List.mem_of_getElem? (i := 824) (by decide +kernel)⟩
theorem lw_p31 : lw_okq (⟨"SeedMakersModel", "countUpTo", "(I)I"⟩, 22) := ⟨⟨by decide +kernel, by decide +kernel⟩, List.mem_of_getElem? (i := 675) (by decide +kernel), List.mem_of_getElem? (i := 827) (by decide +kernel), List.mem_of_getElem? (i := 828) (by decide +kernel)⟩
def lw_privs_2 : List (MethodName × Nat) := [(⟨"java/lang/Throwable", "fillInStackTrace", "(I)Ljava/lang/Throwable;"⟩, 6), (⟨"SeedMakersModel", "isCell", "(I)Z"⟩, 22), (⟨"SeedMakersModel", "cells", "()I"⟩, 22), (⟨"SeedMakersModel", "throwsIf", "(IZ)Z"⟩, 22), (⟨"SeedMakersModel", "isGood", "()Z"⟩, 22), (⟨"SeedMakersModel", "draw", "()Z"⟩, 22), (⟨"SeedMakersModel", "empty", "()V"⟩, 22), (⟨"SeedMakersModel", "countDraw", "(I)I"⟩, 22), (⟨"SeedMakersModel", "mayDraw", "(II)Z"⟩, 22), (⟨"SeedMakersModel", "sees", "(II)Z"⟩, 22), (⟨"SeedMakersModel", "below", "(I)I"⟩, 22), (⟨"SeedMakersModel", "leastOf", "(I)I"⟩, 22), (⟨"SeedMakersModel", "turned", "(I)I"⟩, 22), (⟨"SeedMakersModel", "hasTheme", "(II)Z"⟩, 22), (⟨"SeedMakersModel", "takeOut", "(I)V"⟩, 22), (⟨"SeedMakersModel", "countUpTo", "(I)I"⟩, 22)]
theorem lw_r2 : ∀ q ∈ lw_privs_2, lw_okq q := List.forall_mem_cons.mpr ⟨lw_p16, List.forall_mem_cons.mpr ⟨lw_p17, List.forall_mem_cons.mpr ⟨lw_p18, List.forall_mem_cons.mpr ⟨lw_p19, List.forall_mem_cons.mpr ⟨lw_p20, List.forall_mem_cons.mpr ⟨lw_p21, List.forall_mem_cons.mpr ⟨lw_p22, List.forall_mem_cons.mpr ⟨lw_p23, List.forall_mem_cons.mpr ⟨lw_p24, List.forall_mem_cons.mpr ⟨lw_p25, List.forall_mem_cons.mpr ⟨lw_p26, List.forall_mem_cons.mpr ⟨lw_p27, List.forall_mem_cons.mpr ⟨lw_p28, List.forall_mem_cons.mpr ⟨lw_p29, List.forall_mem_cons.mpr ⟨lw_p30, List.forall_mem_cons.mpr ⟨lw_p31, fun _ h => absurd h List.not_mem_nil⟩⟩⟩⟩⟩⟩⟩⟩⟩⟩⟩⟩⟩⟩⟩⟩
theorem lw_p32 : lw_okq (⟨"SeedMakersModel", "fits", "(II)Z"⟩, 22) := ⟨⟨by decide +kernel, by decide +kernel⟩, List.mem_of_getElem? (i := 675) (by decide +kernel), List.mem_of_getElem? (i := 831) (by decide +kernel), List.mem_of_getElem? (i := 832) (by decide +kernel)⟩
theorem lw_p33 : lw_okq (⟨"SeedMakersModel", "putBack", "(I)V"⟩, 22) := ⟨⟨by decide +kernel, by decide +kernel⟩, List.mem_of_getElem? (i := 675) (by decide +kernel), List.mem_of_getElem? (i := 835) (by decide +kernel), List.mem_of_getElem? (i := 836) (by decide +kernel)⟩
theorem lw_p34 : lw_okq (⟨"SeedMakersModel", "countGivens", "()I"⟩, 22) := ⟨⟨by decide +kernel, by decide +kernel⟩, List.mem_of_getElem? (i := 675) (by decide +kernel), List.mem_of_getElem? (i := 839) (by decide +kernel), List.mem_of_getElem? (i := 840) (by decide +kernel)⟩
theorem lw_p35 : lw_okq (⟨"SeedMakersModel", "countLeft", "()I"⟩, 22) := ⟨⟨by decide +kernel, by decide +kernel⟩, List.mem_of_getElem? (i := 675) (by decide +kernel), List.mem_of_getElem? (i := 843) (by decide +kernel), List.mem_of_getElem? (i := 844) (by decide +kernel)⟩
theorem lw_p36 : lw_okq (⟨"SeedMakersModel", "may", "(II)Z"⟩, 22) := ⟨⟨by decide +kernel, by decide +kernel⟩, List.mem_of_getElem? (i := 675) (by decide +kernel), List.mem_of_getElem? (i := 847) (by decide +kernel), List.mem_of_getElem? (i := 848) (by decide +kernel)⟩
theorem lw_p37 : lw_okq (⟨"SeedMakersModel", "isSingle", "(II)Z"⟩, 22) := ⟨⟨by decide +kernel, by decide +kernel⟩, List.mem_of_getElem? (i := 675) (by decide +kernel), List.mem_of_getElem? (i := 851) (by decide +kernel), List.mem_of_getElem? (i := 852) (by decide +kernel)⟩
theorem lw_p38 : lw_okq (⟨"SeedMakersModel", "isTogether", "(III)Z"⟩, 22) := ⟨⟨by decide +kernel, by decide +kernel⟩, List.mem_of_getElem? (i := 675) (by decide +kernel), List.mem_of_getElem? (i := 855) (by decide +kernel), List.mem_of_getElem? (i := 856) (by decide +kernel)⟩
theorem lw_p39 : lw_okq (⟨"SeedMakersModel", "take", "()V"⟩, 22) := ⟨⟨by decide +kernel, by decide +kernel⟩, List.mem_of_getElem? (i := 675) (by decide +kernel), List.mem_of_getElem? (i := 875) (by decide +kernel), List.mem_of_getElem? (i := 876) (by decide +kernel)⟩
theorem lw_p40 : lw_okq (⟨"SeedMakersModel", "read", "()I"⟩, 22) := ⟨⟨by decide +kernel, by decide +kernel⟩, List.mem_of_getElem? (i := 675) (by decide +kernel), List.mem_of_getElem? (i := 891) (by decide +kernel), List.mem_of_getElem? (i := 892) (by decide +kernel)⟩
def lw_privs_3 : List (MethodName × Nat) := [(⟨"SeedMakersModel", "fits", "(II)Z"⟩, 22), (⟨"SeedMakersModel", "putBack", "(I)V"⟩, 22), (⟨"SeedMakersModel", "countGivens", "()I"⟩, 22), (⟨"SeedMakersModel", "countLeft", "()I"⟩, 22), (⟨"SeedMakersModel", "may", "(II)Z"⟩, 22), (⟨"SeedMakersModel", "isSingle", "(II)Z"⟩, 22), (⟨"SeedMakersModel", "isTogether", "(III)Z"⟩, 22), (⟨"SeedMakersModel", "take", "()V"⟩, 22), (⟨"SeedMakersModel", "read", "()I"⟩, 22)]
theorem lw_r3 : ∀ q ∈ lw_privs_3, lw_okq q := List.forall_mem_cons.mpr ⟨lw_p32, List.forall_mem_cons.mpr ⟨lw_p33, List.forall_mem_cons.mpr ⟨lw_p34, List.forall_mem_cons.mpr ⟨lw_p35, List.forall_mem_cons.mpr ⟨lw_p36, List.forall_mem_cons.mpr ⟨lw_p37, List.forall_mem_cons.mpr ⟨lw_p38, List.forall_mem_cons.mpr ⟨lw_p39, List.forall_mem_cons.mpr ⟨lw_p40, fun _ h => absurd h List.not_mem_nil⟩⟩⟩⟩⟩⟩⟩⟩⟩
def lw_privs : List (MethodName × Nat) := lw_privs_1 ++ (lw_privs_2 ++ (lw_privs_3))
def lw_tbl : List Cond := k2_sels lw_privs ++ tables_1
theorem lw_privs_ok : ∀ q ∈ lw_privs, lw_okq q := by
  show ∀ q ∈ lw_privs_1 ++ (lw_privs_2 ++ (lw_privs_3)), lw_okq q
  exact List.forall_mem_append.mpr ⟨lw_r1, List.forall_mem_append.mpr ⟨lw_r2, lw_r3⟩⟩
-- ===== end of PART A; then your names; then what follows =====
end
section
/-! ===== BEGIN words of one list among another's, by their places ===== -/
theorem goodIn_r {big : List Cond} (ws : List Cond) (ps : List Nat) (hp : ws = ps.filterMap (fun i => big[i]?)) (h : ws.all goodWord = true) : GoodIn big ws := by
  intro w hw
  have h1 := List.all_eq_true.mp h w hw
  rw [hp] at hw
  obtain ⟨i, -, hi⟩ := List.mem_filterMap.mp hw
  have hm : w ∈ big := by first | exact List.mem_of_getElem? hi | exact List.getElem?_mem hi
  exact ⟨hm, good_of_word h1⟩
theorem goodIn_app {big a b : List Cond} (ha : GoodIn big a) (hb : GoodIn big b) : GoodIn big (a ++ b) := fun w h => (List.mem_append.mp h).elim (ha w) (hb w)
theorem goodIn_ca {big a b : List Cond} {c : Cond} (ha : GoodIn big (c :: a)) (hb : GoodIn big b) : GoodIn big (c :: (a ++ b)) := fun w h => (List.mem_cons.mp h).elim (fun e => ha w (List.mem_cons.mpr (Or.inl e))) (fun h => (List.mem_append.mp h).elim (fun h => ha w (List.mem_cons.mpr (Or.inr h))) (hb w))
theorem goodIn_sub {big ws : List Cond} (hm : ∀ w ∈ ws, w ∈ big) (h : ws.all goodWord = true) : GoodIn big ws := fun w hw => ⟨hm w hw, good_of_word (List.all_eq_true.mp h w hw)⟩
/-! ===== END ===== -/



/-! ===== BEGIN exceptions that leave a method, and their catching by the caller (launches without stack traces) ===== -/
section VXA
/-! The laws vx_back, vx_callV, vx_callS, vx_callSW, vx_throw0, vx_throwS follow proofs of the library, with one case more: JvmDerived/Free/Laws.lean (Back.of_free), Shelf42/LK1.lean (callV, callS), Shelf/KitTraced.lean (throwNew0V, throwNewS). -/
/-- where a method has thrown q: the class by its name, the cell, what was written, the world -/
def vx_T (XC : String → State → State → Prop) (st : State) (q : Addr) (t : State) (mc ms : Nat) (free : Addr → Prop) : Prop :=
  ∃ (E : String) (ce : Cell) (L : List Loc), XC E st t ∧ t.heap[q]? = some ce ∧ ce.vm = .none ∧ st.vm.findClass E = some ce.cls ∧ st.WarmedH t.vm ∧ st.sameButNew ({ t with vm := st.vm } : State) L mc ms ∧ ∀ z ∈ L, free z.base
def vx_Q (Qc : Array Value → State → Outcome → State → Prop) (XC : String → State → State → Prop) (mc ms : Nat) (free : Addr → Prop) : Array Value → State → Outcome → State → Prop := fun a st o t =>
  (Qc a st o t ∧ ∃ L, FrameEnd st o t L mc ms ∧ ∀ q ∈ L, free q.base) ∨ ∃ q, o = .threw q ∧ vx_T XC st q t mc ms free
/-- a callee that returns or throws -/
def vx_Met (l : Launch) (y : MethodName) (ws : List Cond) (rm : Room) (Pc : Array Value → State → Prop) (Qc : Array Value → State → Outcome → State → Prop) (XC : String → State → State → Prop) (mc ms : Nat) (free : Addr → Prop) : Prop :=
  MetFree l y (headSpec ws rm) Pc (fun _ _ _ _ _ => True) (vx_Q Qc XC mc ms free)
def vx_Post (XC : String → State → State → Prop) (mc ms : Nat) (free : Addr → Prop) : Pt → Array Value → Addr → Pt → Prop := fun A a q B =>
  ∃ (g : JFrame) (mk : MethodId) (t : State) (L : List Loc) (E : String) (ce : Cell), B.U.heap = t.heap ∧ B.U.vm = t.vm ∧ XC E (A.U.calling g mk a) t ∧ t.heap[q]? = some ce ∧ ce.vm = .none ∧ A.U.vm.findClass E = some ce.cls ∧ B.locs = A.locs ++ L ∧ (∀ z ∈ L, free z.base) ∧ B.cells = A.cells + mc ∧ B.slots = A.slots + ms
def vx_Back (l : Launch) (R : Room) (p : Program) (e : Env) (below : List Frame) (s : State) (sargs : Array Value) (y : MethodName) (len W9 : Nat)
    (Pre : Pt → Array Value → Prop) (Post : Pt → Array Value → Option Value → Pt → Prop) (PostX : Pt → Array Value → Addr → Pt → Prop) : Prop :=
  ∀ (m : MethodId) (meth : Method) (c : Code) (A : Pt) (g : JFrame) (ig : Instr) (mk : MethodId) (a : Array Value),
    Stand p l e R s m sargs below meth c A.U A.locs A.cells A.slots → g.method = m → g.locals.size = c.maxLocals → decode c.code g.pc = .ok (ig, len) →
    2 * g.monitorRoom + (g.stack.map fun v => v.category).sum ≤ W9 → A.U.methodNamed? y = some mk → Pre A a →
    (∃ (v : Option Value) (B : Pt), Stand p l e R s m sargs below meth c B.U B.locs B.cells B.slots ∧ Post A a v B ∧
      Steps p.tables e below (doInvoke e (A.U.setTop g) [] mk a).1 (B.U.setTop { g with pc := g.pc + len, stack := v.toList ++ g.stack })) ∨
    (∃ (q : Addr) (B : Pt), Stand p l e R s m sargs below meth c B.U B.locs B.cells B.slots ∧ PostX A a q B ∧
      Steps p.tables e below (doInvoke e (A.U.setTop g) [] mk a).1 ((B.U.setTop g).pushFrame (.throwing q)))
section Payer
variable {l : Launch} {R : Room} {p : Program} {e : Env} {below : List Frame} {s : State} {sargs : Array Value} {y : MethodName} {len W9 : Nat}
theorem vx_back {ws : List Cond} {rm : Room} {Pc : Array Value → State → Prop} {Qc : Array Value → State → Outcome → State → Prop} {XC : String → State → State → Prop} {mc ms : Nat} {free : Addr → Prop} {bytes : ByteArray} {maxL : Nat} {ret : Option FieldType}
    (hM : vx_Met l y ws rm Pc Qc XC mc ms free) (hblind : FrameBlind Pc) (hrc : rm.cells = mc) (hrs : rm.slots = ms)
    (hframes : rm.frames + 1 ≤ R.frames) (hlocals : W9 + (maxL + 11) + rm.locals ≤ R.locals)
    (hws : ∀ w ∈ ws, ∀ a' U, s.WarmedH U.vm → w.before a' U = true) (hcode : Cond.code y bytes maxL ret ∈ ws) (hinit : ∀ a' U, s.WarmedH U.vm → (Cond.initialized y.cls).before a' U = true) :
    vx_Back l R p e below s sargs y len W9 (PreOf R mc ms Pc) (PostOf Qc mc ms free) (vx_Post XC mc ms free) := by
  intro m meth c A g ig mk a X hg hsize hdg hW hn hp
  have h1 : (headSpec ws rm).pre.before a A.U = true := atoms_intro fun w hw => hws w hw _ _ X.warmed
  have h2 : (Cond.code y bytes maxL ret).before a A.U = true := hws _ hcode _ _ X.warmed
  have h3 : (Cond.initialized y.cls).before a A.U = true := hinit _ _ X.warmed
  have h4 : A.cells + (headSpec ws rm).room.cells ≤ R.cells := by rw [show (headSpec ws rm).room.cells = mc from hrc]; exact hp.1
  have h5 : A.slots + (headSpec ws rm).room.slots ≤ R.slots := by rw [show (headSpec ws rm).room.slots = ms from hrs]; exact hp.2.1
  have hPc : Pc a (A.U.calling g mk a) := hblind _ _ _ _ hp.2.2
  obtain ⟨U, Ls, c0, s0⟩ := A
  dsimp only [Pt.U, Pt.locs, Pt.cells, Pt.slots] at h1 h2 h3 h4 h5 X hn hPc ⊢
  obtain ⟨methY, cY, hmY, hcY, -, hlY, -, -, -, -⟩ := Cond.code_spec hn h2
  obtain ⟨kY, hkY, -⟩ := className_of_methodNamed hn
  have hinitY : kY.init = .initialized := Cond.initialized_spec (findClass_of_methodNamed hn) hkY h3
  have h : At U g.method c below := by rw [hg]; exact X.here
  have hlocals9 : W9 + (maxL + 11) + (headSpec ws rm).room.locals ≤ R.locals := hlocals
  have happ : (headSpec ws rm).appliesLoose y e.platform (U.calling g mk a) = true :=
    Spec.appliesLoose_calling (g := g) h hdg hn hkY hinitY
      (X.room_calling (g := g) (R' := (headSpec ws rm).room) hsize hmY hcY hframes (by rw [hlY]; omega) h4 h5) h1
  obtain ⟨mid, hmid⟩ := h.above
  have hfr : (U.setTop g).frames = (.java g :: mid) ++ below := by rw [State.frames_setTop' g h.top, hmid]; rfl
  obtain ⟨o, s₂, hsteps, -, hend, hq⟩ := Steps.callFree hM p X.admits X.cas X.clock (acts := []) hfr happ hPc trivial
  have hq' : vx_Q Qc XC mc ms free a (U.calling g mk a) o s₂ := hq
  rw [State.frames_setTop' g h.top] at hend
  obtain ⟨g₀, hg0⟩ := Option.isSome_iff_exists.mp h.top
  obtain ⟨r, hr⟩ := State.topJava?_eq_some.mp hg0
  have hr' : (({ U with heap := s₂.heap, slotsUsed := s₂.slotsUsed } : State).setVm s₂.vm).frames = .java g₀ :: r := hr
  rcases hq' with ⟨hqc, L, hfe, hL⟩ | ⟨q, rfl, E, ce, L, hx, hce, hcv, hcl, hW₂, hsm, hL⟩
  · obtain ⟨⟨v, rfl⟩, hW₂, e2, q2, q3, q4, q5, q6⟩ := id hfe
    have e3 : s₂ = ({ (U.calling g mk a).setFrames s₂.frames with heap := s₂.heap, slotsUsed := s₂.slotsUsed } : State).setVm s₂.vm := by
      have : s₂ = ({ s₂ with vm := (U.calling g mk a).vm } : State).setVm s₂.vm := rfl
      rw [e2] at this
      exact this
    obtain ⟨c₂, i₂, len₂, hc₂, hd₂, hf₂⟩ := hend
    have hW' : U.WarmedH s₂.vm := hW₂
    have hcc : c₂ = c := by
      have h1 : s₂.code? g.method = U.code? g.method := by
        rw [State.code?_eq, State.code?_eq, hW'.alike.method?]
      exact Option.some.inj (hc₂.symm.trans (h1.trans h.code))
    subst hcc
    have hlen : len₂ = len := by rw [hdg] at hd₂; cases hd₂; rfl
    subst hlen
    have hs₂ : s₂ = (({ U with heap := s₂.heap, slotsUsed := s₂.slotsUsed } : State).setVm s₂.vm).setTop { g with pc := g.pc + len₂, stack := v.toList ++ g.stack } := by
      refine e3.trans ?_
      rw [hf₂, State.calling_eq h.top, State.setFrames_setFrames, State.setTop_of_frames _ hr', hr]
      rfl
    have hsame : U.sameButNew ({ U with heap := s₂.heap, slotsUsed := s₂.slotsUsed } : State) L mc ms := by
      refine ⟨?_, q2, q3, q4, q5, q6⟩
      obtain ⟨t, ht, -⟩ := State.frames_cons hr
      show ({ U with heap := s₂.heap, slotsUsed := s₂.slotsUsed } : State) = { U.setFrames U.frames with heap := s₂.heap, slotsUsed := s₂.slotsUsed }
      rw [State.setFrames_self ht]
    subst hg
    refine Or.inl ⟨v, ⟨(({ U with heap := s₂.heap, slotsUsed := s₂.slotsUsed } : State).setVm s₂.vm), Ls ++ L, c0 + mc, s0 + ms⟩,
      ⟨X.admits, X.cas, X.clock, X.frames, X.room, X.hears, X.method, X.code, (X.here.setHeapUsed s₂.heap s₂.slotsUsed).setVm hW'.alike, X.tail, State.WarmedH.trans X.warmed hW', X.limits, X.bytes, X.same.trans (hsame.setVm s.vm)⟩,
      ⟨g, mk, s₂, L, rfl, rfl, hqc, rfl, hL, rfl, rfl⟩, ?_⟩
    show Steps p.tables e below _ ((({ U with heap := s₂.heap, slotsUsed := s₂.slotsUsed } : State).setVm s₂.vm).setTop { g with pc := g.pc + len₂, stack := v.toList ++ g.stack })
    rw [← hs₂]
    exact hsteps
  · obtain ⟨e2, q2, q3, q4, q5, q6⟩ := id hsm
    have e3 : s₂ = ({ (U.calling g mk a).setFrames s₂.frames with heap := s₂.heap, slotsUsed := s₂.slotsUsed } : State).setVm s₂.vm := by
      have : s₂ = ({ s₂ with vm := (U.calling g mk a).vm } : State).setVm s₂.vm := rfl
      rw [e2] at this
      exact this
    have hf₂ : s₂.frames = .throwing q :: .java g :: U.frames.tail := hend
    have hW' : U.WarmedH s₂.vm := hW₂
    have hs₂ : s₂ = ((({ U with heap := s₂.heap, slotsUsed := s₂.slotsUsed } : State).setVm s₂.vm).setTop g).pushFrame (.throwing q) := by
      refine e3.trans ?_
      rw [hf₂, State.calling_eq h.top, State.setFrames_setFrames, State.pushFrame, State.frames_setTop _ hr', State.setTop_of_frames _ hr', State.setFrames_setFrames, hr]
      rfl
    have hsame : U.sameButNew ({ U with heap := s₂.heap, slotsUsed := s₂.slotsUsed } : State) L mc ms := by
      refine ⟨?_, q2, q3, q4, q5, q6⟩
      obtain ⟨t, ht, -⟩ := State.frames_cons hr
      show ({ U with heap := s₂.heap, slotsUsed := s₂.slotsUsed } : State) = { U.setFrames U.frames with heap := s₂.heap, slotsUsed := s₂.slotsUsed }
      rw [State.setFrames_self ht]
    subst hg
    refine Or.inr ⟨q, ⟨(({ U with heap := s₂.heap, slotsUsed := s₂.slotsUsed } : State).setVm s₂.vm), Ls ++ L, c0 + mc, s0 + ms⟩,
      ⟨X.admits, X.cas, X.clock, X.frames, X.room, X.hears, X.method, X.code, (X.here.setHeapUsed s₂.heap s₂.slotsUsed).setVm hW'.alike, X.tail, State.WarmedH.trans X.warmed hW', X.limits, X.bytes, X.same.trans (hsame.setVm s.vm)⟩,
      ⟨g, mk, s₂, L, E, ce, rfl, rfl, hx, hce, hcv, hcl, rfl, hL, rfl, rfl⟩, ?_⟩
    show Steps p.tables e below _ (((({ U with heap := s₂.heap, slotsUsed := s₂.slotsUsed } : State).setVm s₂.vm).setTop g).pushFrame (.throwing q))
    rw [← hs₂]
    exact hsteps
end Payer
section Calls
variable {p : Program} {l : Launch} {e : Env} {R : Room} {s : State} {m : MethodId} {args : Array Value} {below : List Frame} {meth : Method} {c : Code} {T : State} {locs : List Loc} {cells slots : Nat}
theorem vx_callV (X : Stand p l e R s m args below meth c T locs cells slots) (hexec : p.tables.exec = Jvm.exec) {own C : String} {index : Nat} {y : MethodName} {bytes : ByteArray} {maxL : Nat} {ret : Option FieldType}
    (hown : s.vm.findClass own = some m.cls) (hlink : (Cond.methodLink own index y).before args s = true) (hinst : (Cond.instanceMethod y).before args s = true) (hsel : (Cond.selects C y y).before args s = true)
    (hcode : (Cond.code y bytes maxL ret).before args s = true) (hy : y.cls ≠ "java/lang/invoke/MethodHandle" ∧ y.cls ≠ "java/lang/invoke/VarHandle")
    {W9 : Nat} {Pre : Pt → Array Value → Prop} {Post : Pt → Array Value → Option Value → Pt → Prop} {PostX : Pt → Array Value → Addr → Pt → Prop} (hK : vx_Back l R p e below s args y 3 W9 Pre Post PostX)
    {b : Addr} {cellB : Cell} (hcell : T.heap[b]? = some cellB) (hobj : cellB.vm.isStatics = false) (hcls : s.vm.findClass C = some cellB.cls)
    {g : JFrame} (hg : g.method = m) (hsize : g.locals.size = c.maxLocals) {argsL rest : List Value} (hlen : ∀ sig, parseMethodDescriptor y.desc = some sig → argsL.length = sig.parameters.length)
    (hstack : g.stack = argsL.reverse ++ .ref b :: rest) (hW : 2 * g.monitorRoom + (rest.map fun v => v.category).sum ≤ W9) (hdg : decode c.code g.pc = .ok (.invokevirtual index, 3))
    (hpre : ∀ vm₁, s.WarmedH vm₁ → Pre ⟨T.setVm vm₁, locs, cells, slots⟩ (Value.ref b :: argsL).toArray) :
    (∃ (v : Option Value) (vm₁ : Vm) (B : Pt), s.WarmedH vm₁ ∧ Stand p l e R s m args below meth c B.U B.locs B.cells B.slots ∧ Post ⟨T.setVm vm₁, locs, cells, slots⟩ (Value.ref b :: argsL).toArray v B ∧
      ∀ target, Steps p.tables e below (B.U.setTop { g with pc := g.pc + 3, stack := v.toList ++ rest }) target → Steps p.tables e below (T.setTop g) target) ∨
    (∃ (q : Addr) (vm₁ : Vm) (B : Pt), s.WarmedH vm₁ ∧ Stand p l e R s m args below meth c B.U B.locs B.cells B.slots ∧ PostX ⟨T.setVm vm₁, locs, cells, slots⟩ (Value.ref b :: argsL).toArray q B ∧
      Steps p.tables e below (T.setTop g) ((B.U.setTop { g with stack := rest }).pushFrame (.throwing q))) := by
  obtain ⟨mk, methM, hnamed, hmethM, hstM, habM⟩ := Cond.instanceMethod_spec hinst
  obtain ⟨methM', cM, hmethM', -, -, -, -, -, -, hsigM⟩ := Cond.code_spec hnamed hcode
  cases hmethM.symm.trans hmethM'
  obtain ⟨c2, r2, m2, q1, q2, q3, q4, kP, hkP, hkPi⟩ := Cond.selects_spec hsel
  cases hcls.symm.trans q1
  cases (State.methodFound?_of_named hnamed hy).symm.trans q2
  cases hnamed.symm.trans q3
  have hselP : selectMethod e.platform s.vm cellB.cls mk = .method mk := by rw [Launch.admits_selectMethod X.admits]; exact q4
  obtain ⟨vm₁, X₁, hstep₁⟩ := X.invokevirtual hexec hown hlink hnamed hmethM hstM hkP hkPi hy (a := b) (cell := cellB) hcell
    (fun z h => by rw [h] at hobj; cases hobj) hselP hmethM habM hkP hkPi (g := g) hg (argsL := argsL) (rest := rest) (hlen _ hsigM) hstack hdg
  rcases hK m meth c ⟨T.setVm vm₁, locs, cells, slots⟩ { g with stack := rest } (.invokevirtual index) mk (Value.ref b :: argsL).toArray X₁ hg hsize hdg hW (X₁.named hnamed) (hpre vm₁ X₁.warmed) with ⟨v, B, X', hpost, hsteps⟩ | ⟨q, B, X', hpost, hsteps⟩
  · exact Or.inl ⟨v, vm₁, B, X₁.warmed, X', hpost, fun target h => hstep₁ _ fun acts => by rw [doInvoke_state]; exact hsteps.trans h⟩
  · exact Or.inr ⟨q, vm₁, B, X₁.warmed, X', hpost, hstep₁ _ fun acts => by rw [doInvoke_state]; exact hsteps⟩
theorem vx_callS (X : Stand p l e R s m args below meth c T locs cells slots) (hexec : p.tables.exec = Jvm.exec) {own : String} {index : Nat} {y : MethodName} {bytes : ByteArray} {maxL : Nat} {ret : Option FieldType}
    (hown : s.vm.findClass own = some m.cls) (hlink : (Cond.methodLink own index y).before args s = true) (hstat : (Cond.static y).before args s = true) (hinit : (Cond.initialized y.cls).before args s = true)
    (hcode : (Cond.code y bytes maxL ret).before args s = true) (hy : y.cls ≠ "java/lang/invoke/MethodHandle" ∧ y.cls ≠ "java/lang/invoke/VarHandle")
    {W9 : Nat} {Pre : Pt → Array Value → Prop} {Post : Pt → Array Value → Option Value → Pt → Prop} {PostX : Pt → Array Value → Addr → Pt → Prop} (hK : vx_Back l R p e below s args y 3 W9 Pre Post PostX)
    {g : JFrame} (hg : g.method = m) (hsize : g.locals.size = c.maxLocals) {argsL rest : List Value} (hlen : ∀ sig, parseMethodDescriptor y.desc = some sig → argsL.length = sig.parameters.length)
    (hstack : g.stack = argsL.reverse ++ rest) (hW : 2 * g.monitorRoom + (rest.map fun v => v.category).sum ≤ W9) (hdg : decode c.code g.pc = .ok (.invokestatic index, 3))
    (hpre : ∀ vm₁, s.WarmedH vm₁ → Pre ⟨T.setVm vm₁, locs, cells, slots⟩ argsL.toArray) :
    (∃ (v : Option Value) (vm₁ : Vm) (B : Pt), s.WarmedH vm₁ ∧ Stand p l e R s m args below meth c B.U B.locs B.cells B.slots ∧ Post ⟨T.setVm vm₁, locs, cells, slots⟩ argsL.toArray v B ∧
      ∀ target, Steps p.tables e below (B.U.setTop { g with pc := g.pc + 3, stack := v.toList ++ rest }) target → Steps p.tables e below (T.setTop g) target) ∨
    (∃ (q : Addr) (vm₁ : Vm) (B : Pt), s.WarmedH vm₁ ∧ Stand p l e R s m args below meth c B.U B.locs B.cells B.slots ∧ PostX ⟨T.setVm vm₁, locs, cells, slots⟩ argsL.toArray q B ∧
      Steps p.tables e below (T.setTop g) ((B.U.setTop { g with stack := rest }).pushFrame (.throwing q))) := by
  obtain ⟨mk, hnamed⟩ := Cond.code_named hcode
  obtain ⟨methM, cM, hmethM, -, -, -, -, -, -, hsigM⟩ := Cond.code_spec hnamed hcode
  have hstatic : methM.isStatic = true := Cond.static_spec hnamed hmethM hstat
  obtain ⟨kP, hkP, -⟩ := className_of_methodNamed hnamed
  have hinitP : kP.init = .initialized := Cond.initialized_spec (findClass_of_methodNamed hnamed) hkP hinit
  obtain ⟨vm₁, X₁, hstep₁⟩ := X.invokestatic hexec hown hlink hnamed hmethM hstatic hkP hinitP hy (g := g) hg (argsL := argsL) (rest := rest) (hlen _ hsigM) hstack hdg
  rcases hK m meth c ⟨T.setVm vm₁, locs, cells, slots⟩ { g with stack := rest } (.invokestatic index) mk argsL.toArray X₁ hg hsize hdg hW (X₁.named hnamed) (hpre vm₁ X₁.warmed) with ⟨v, B, X', hpost, hsteps⟩ | ⟨q, B, X', hpost, hsteps⟩
  · exact Or.inl ⟨v, vm₁, B, X₁.warmed, X', hpost, fun target h => hstep₁ _ fun acts => by rw [doInvoke_state]; exact hsteps.trans h⟩
  · exact Or.inr ⟨q, vm₁, B, X₁.warmed, X', hpost, hstep₁ _ fun acts => by rw [doInvoke_state]; exact hsteps⟩
end Calls
theorem vx_cls {s : State} {T : State} {vm₁ : Vm} {E : String} {k : ClassId} (hW : s.WarmedH vm₁) (h : (T.setVm vm₁).vm.findClass E = some k) : s.vm.findClass E = some k := by
  have h1 : vm₁.findClass E = some k := h
  rw [hW.alike.findClass] at h1
  exact h1
/-- the method's frame g, with q thrown over it -/
def vx_W (p : Program) (l : Launch) (e : Env) (R : Room) (s : State) (m : MethodId) (args : Array Value) (below : List Frame) (meth : Method) (c : Code) (H : Heap) (locs : List Loc) (cells slots : Nat) (Q : State → Prop) (g : JFrame) (q : Addr) : Prop :=
  ∀ T : State, T.heap = H → Stand p l e R s m args below meth c T locs cells slots → ∃ t, Steps p.tables e below ((T.setTop g).pushFrame (.throwing q)) t ∧ Q t
def vx_Run (p : Program) (l : Launch) (e : Env) (R : Room) (s : State) (m : MethodId) (args : Array Value) (below : List Frame) (meth : Method) (c : Code) (H : Heap) (locs : List Loc) (cells slots mc ms : Nat) (g : JFrame) (rest : List Value) (Qa : State → Outcome → State → Prop) (XC : String → State → State → Prop) (free : Addr → Prop) : Prop :=
  ∀ T : State, T.heap = H → Stand p l e R s m args below meth c T locs cells slots →
    (∃ (v : Option Value) (st₀ t T' : State) (L : List Loc), st₀.heap = H ∧ Stand p l e R s m args below meth c T' (locs ++ L) (cells + mc) (slots + ms) ∧ (∀ q ∈ L, free q.base) ∧ T'.heap = t.heap ∧ T'.vm = t.vm ∧ Qa st₀ (.returned v) t ∧
      Goes p e below T g T' { g with pc := g.pc + 3, stack := v.toList ++ rest }) ∨
    (∃ (q : Addr) (st₀ t T' : State) (L : List Loc) (E : String) (ce : Cell), st₀.heap = H ∧ Stand p l e R s m args below meth c T' (locs ++ L) (cells + mc) (slots + ms) ∧ (∀ z ∈ L, free z.base) ∧ T'.heap = t.heap ∧ T'.vm = t.vm ∧ XC E st₀ t ∧ t.heap[q]? = some ce ∧ ce.vm = .none ∧ s.vm.findClass E = some ce.cls ∧
      Steps p.tables e below (T.setTop g) ((T'.setTop { g with stack := rest }).pushFrame (.throwing q)))
def vx_X {S : Type} (px : S → Prop) (B : String → S → State → Prop) (A : Nat → Prop) : String → State → State → Prop := fun E st t => ∃ u : S, px u ∧ B E u t ∧ va_F A st t
section Runs
variable {p : Program} {l : Launch} {e : Env} {R : Room} {s : State} {m : MethodId} {args : Array Value} {below : List Frame} {meth : Method} {c : Code} {H : Heap} {locs : List Loc} {cells slots : Nat}
variable {y : MethodName} {bytes cc : ByteArray} {maxL nL mc ms n index : Nat} {ret : Option FieldType} {ws : List Cond} {rm : Room} {Pc : Array Value → State → Prop} {Qc : Array Value → State → Outcome → State → Prop} {XC : String → State → State → Prop} {free : Addr → Prop} {Ts : List Cond} {own C : String} {b : Addr} {As rest : List Value} {g : JFrame}
theorem vx_callBack (cb : CallB R s args own index y bytes maxL ret ws rm mc ms n) (hM : vx_Met l y ws rm Pc Qc XC mc ms free) (hbl : FrameBlind Pc) : vx_Back l R p e below s args y 3 8 (PreOf R mc ms Pc) (PostOf Qc mc ms free) (vx_Post XC mc ms free) := by
  obtain ⟨hrc, hrs, hfr, hlo, hws, hcw, -, hini, -⟩ := cb
  exact vx_back (bytes := bytes) (maxL := maxL) (ret := ret) hM hbl hrc hrs hfr hlo hws hcw (fun a' U hW => word_at hW (Or.inl (by first | rfl | simp [Cond.onTables, Cond.keeps, Cond.steady])) hini)
theorem vx_runV (S : CallFix p m c cc nL s args Ts own) (hM : vx_Met l y ws rm Pc Qc XC mc ms free) (cw : CallW R s args own C index y bytes maxL ret ws rm mc ms n) (hp : PreV s H C b Pc As)
    (hg : g.method = m) (hn : As.length = n) (hsize : g.locals.size = nL) (hstack : g.stack = As.reverse ++ .ref b :: rest) (hW : 2 * g.monitorRoom + (rest.map fun v => v.category).sum ≤ 8) (hdg : decode cc g.pc = .ok (.invokevirtual index, 3)) (hf : cells + mc ≤ R.cells ∧ slots + ms ≤ R.slots) :
    vx_Run p l e R s m args below meth c H locs cells slots mc ms g rest (Qc (Value.ref b :: As).toArray) XC free := by
  have hK : vx_Back l R p e below s args y 3 8 (PreOf R mc ms Pc) (PostOf Qc mc ms free) (vx_Post XC mc ms free) := vx_callBack cw.1 hM hp.1
  obtain ⟨⟨-, -, -, -, -, -, hcode, -, hy, hlen, hl⟩, hin, hse⟩ := cw
  obtain ⟨hx, hb, hml, ho, -⟩ := S
  obtain ⟨-, ⟨cellB, hcB, hoB, hclB⟩, hPc⟩ := hp
  intro T hT X
  rcases vx_callV X hx (C := C) (bytes := bytes) (maxL := maxL) (ret := ret) ho hl hin hse hcode hy hK (by rw [hT]; exact hcB) hoB hclB hg (hsize.trans hml.symm) (argsL := As) (rest := rest) (fun sig h => hn.trans (hlen sig h)) hstack hW (by rw [hb]; exact hdg)
    (fun vm₁ hW₁ => ⟨hf.1, hf.2, hPc (T.setVm vm₁) hT hW₁⟩) with ⟨v, vm₁, ⟨U', l2, c2, s2⟩, hW₁, X', ⟨g', mk, t, L, e1, e2, hq, h1, hL, h2, h3⟩, st⟩ | ⟨q, vm₁, ⟨U', l2, c2, s2⟩, hW₁, X', ⟨g', mk, t, L, E, ce, e1, e2, hq, hce, hcv, hcl, h1, hL, h2, h3⟩, st⟩
  · dsimp only [Pt.U, Pt.locs, Pt.cells, Pt.slots] at X' e1 e2 h1 h2 h3 st
    subst h1; subst h2; subst h3
    exact Or.inl ⟨v, (T.setVm vm₁).calling g' mk (Value.ref b :: As).toArray, t, U', L, hT, X', hL, e1, e2, hq, st⟩
  · dsimp only [Pt.U, Pt.locs, Pt.cells, Pt.slots] at X' e1 e2 h1 h2 h3 st hcl
    subst h1; subst h2; subst h3
    exact Or.inr ⟨q, (T.setVm vm₁).calling g' mk (Value.ref b :: As).toArray, t, U', L, E, ce, hT, X', hL, e1, e2, hq, hce, hcv, vx_cls hW₁ hcl, st⟩
theorem vx_runS (S : CallFix p m c cc nL s args Ts own) (hM : vx_Met l y ws rm Pc Qc XC mc ms free) (cw : CallB R s args own index y bytes maxL ret ws rm mc ms n ∧ (Cond.static y).before args s = true) (hp : PreS s H Pc As)
    (hg : g.method = m) (hn : As.length = n) (hsize : g.locals.size = nL) (hstack : g.stack = As.reverse ++ rest) (hW : 2 * g.monitorRoom + (rest.map fun v => v.category).sum ≤ 8) (hdg : decode cc g.pc = .ok (.invokestatic index, 3)) (hf : cells + mc ≤ R.cells ∧ slots + ms ≤ R.slots) :
    vx_Run p l e R s m args below meth c H locs cells slots mc ms g rest (Qc As.toArray) XC free := by
  have hK : vx_Back l R p e below s args y 3 8 (PreOf R mc ms Pc) (PostOf Qc mc ms free) (vx_Post XC mc ms free) := vx_callBack cw.1 hM hp.1
  obtain ⟨⟨-, -, -, -, -, -, hcode, hini, hy, hlen, hl⟩, hstt⟩ := cw
  obtain ⟨hx, hb, hml, ho, -⟩ := S
  intro T hT X
  rcases vx_callS X hx (bytes := bytes) (maxL := maxL) (ret := ret) ho hl hstt hini hcode hy hK hg (hsize.trans hml.symm) (argsL := As) (rest := rest) (fun sig h => hn.trans (hlen sig h)) hstack hW (by rw [hb]; exact hdg)
    (fun vm₁ hW₁ => ⟨hf.1, hf.2, hp.2 (T.setVm vm₁) hT hW₁⟩) with ⟨v, vm₁, ⟨U', l2, c2, s2⟩, hW₁, X', ⟨g', mk, t, L, e1, e2, hq, h1, hL, h2, h3⟩, st⟩ | ⟨q, vm₁, ⟨U', l2, c2, s2⟩, hW₁, X', ⟨g', mk, t, L, E, ce, e1, e2, hq, hce, hcv, hcl, h1, hL, h2, h3⟩, st⟩
  · dsimp only [Pt.U, Pt.locs, Pt.cells, Pt.slots] at X' e1 e2 h1 h2 h3 st
    subst h1; subst h2; subst h3
    exact Or.inl ⟨v, (T.setVm vm₁).calling g' mk As.toArray, t, U', L, hT, X', hL, e1, e2, hq, st⟩
  · dsimp only [Pt.U, Pt.locs, Pt.cells, Pt.slots] at X' e1 e2 h1 h2 h3 st hcl
    subst h1; subst h2; subst h3
    exact Or.inr ⟨q, (T.setVm vm₁).calling g' mk As.toArray, t, U', L, E, ce, hT, X', hL, e1, e2, hq, hce, hcv, vx_cls hW₁ hcl, st⟩
end Runs
section Rows
variable {p : Program} {l : Launch} {e : Env} {R : Room} {s : State} {m : MethodId} {args : Array Value} {below : List Frame} {meth : Method} {c : Code} {H : Heap} {locs : List Loc} {cells slots : Nat} {Q : State → Prop}
variable {mc ms : Nat} {free : Addr → Prop} {A0 A1 : Nat → Prop} {H0 : Heap} {a : Array Value} {pc : Nat} {ls : Array Slot} {st0 rest : List Value}
theorem vx_keep {st₀ t T' : State} {L : List Loc} (h0 : st₀.heap = H) (e1 : T'.heap = t.heap) (hS : va_S A0 H0 H locs) (hA : ∀ q, q < H.size → A1 q → A0 q) (hf : ∀ q, free q → A0 q) (hL : ∀ q ∈ L, free q.base) (hF : va_F A1 st₀ t) :
    H.size ≤ T'.heap.size ∧ (∀ q : Nat, q < H.size → ¬ A1 q → T'.heap[q]? = H[q]?) ∧ va_S A0 H0 T'.heap (locs ++ L) := by
  obtain ⟨hz, hk⟩ := hF
  rw [h0] at hz hk
  exact ⟨by rw [e1]; exact hz, fun q h1 h2 => by rw [e1]; exact hk q h1 h2,
    ⟨Nat.le_trans hS.1 (by rw [e1]; exact hz), fun q h1 h2 => by rw [e1, hk q (Nat.lt_of_lt_of_le h1 hS.1) (fun z => h2 (hA q (Nat.lt_of_lt_of_le h1 hS.1) z))]; exact hS.2.1 q h1 h2, fun q hq => by
      rcases List.mem_append.mp hq with h | h
      · exact hS.2.2 q h
      · exact hf _ (hL q h)⟩⟩
theorem vx_calli {S SX : Type} {post : Int32 → S → Prop} {px : SX → Prop} {B : S → State → Prop} {BX : String → SX → State → Prop} {AX : Nat → Prop} (hr : vx_Run p l e R s m args below meth c H locs cells slots mc ms (F0 m pc ls st0) rest (va_Qi post B A1 a) (vx_X px BX AX) free) (hS : va_S A0 H0 H locs) (hA : ∀ q, q < H.size → A1 q → A0 q) (hf : ∀ q, free q → A0 q) (hAX : ∀ q, q < H.size → AX q → A0 q)
    (kx : ∀ (E : String) (ce : Cell) (q9 : Addr) (u : SX) (t : State) (H1 : Heap) (locs1 : List Loc), t.heap = H1 → s.vm.Alike t.vm → px u → BX E u t → H.size ≤ H1.size → (∀ q : Nat, q < H.size → ¬ AX q → H1[q]? = H[q]?) → va_S A0 H0 H1 locs1 → H1[q9]? = some ce → ce.vm = .none → s.vm.findClass E = some ce.cls → vx_W p l e R s m args below meth c H1 locs1 (cells + mc) (slots + ms) Q (F0 m pc ls rest) q9)
    (kk : ∀ (r : Int32) (u : S) (t : State) (H1 : Heap) (locs1 : List Loc), t.heap = H1 → s.vm.Alike t.vm → post r u → B u t → H.size ≤ H1.size → (∀ q : Nat, q < H.size → ¬ A1 q → H1[q]? = H[q]?) → va_S A0 H0 H1 locs1 → W p l e R s m args below meth c H1 locs1 (cells + mc) (slots + ms) Q (F0 m (pc + 3) ls (.int r :: rest))) : W p l e R s m args below meth c H locs cells slots Q (F0 m pc ls st0) := by
  intro T hT X
  rcases hr T hT X with ⟨v, st₀, t, T', L, h0, X', hL, e1, e2, ⟨⟨r, u, hv, hp, hb⟩, hF⟩, st⟩ | ⟨q, st₀, t, T', L, E, ce, h0, X', hL, e1, e2, ⟨u, hp, hb, hF⟩, hce, hcv, hcl, st⟩
  · cases hv
    obtain ⟨k1, k2, k3⟩ := vx_keep h0 e1 hS hA hf hL hF
    obtain ⟨t2, a1, b1⟩ := kk r u t T'.heap (locs ++ L) e1.symm (by rw [← e2]; exact X'.warmed.alike) hp hb k1 k2 k3 T' rfl X'
    exact ⟨t2, st t2 a1, b1⟩
  · obtain ⟨k1, k2, k3⟩ := vx_keep h0 e1 hS hAX hf hL hF
    obtain ⟨t2, a1, b1⟩ := kx E ce q u t T'.heap (locs ++ L) e1.symm (by rw [← e2]; exact X'.warmed.alike) hp hb k1 k2 k3 (by rw [e1]; exact hce) hcv hcl T' rfl X'
    exact ⟨t2, st.trans a1, b1⟩
theorem vx_calll {S SX : Type} {post : Int64 → S → Prop} {px : SX → Prop} {B : S → State → Prop} {BX : String → SX → State → Prop} {AX : Nat → Prop} (hr : vx_Run p l e R s m args below meth c H locs cells slots mc ms (F0 m pc ls st0) rest (va_Ql post B A1 a) (vx_X px BX AX) free) (hS : va_S A0 H0 H locs) (hA : ∀ q, q < H.size → A1 q → A0 q) (hf : ∀ q, free q → A0 q) (hAX : ∀ q, q < H.size → AX q → A0 q)
    (kx : ∀ (E : String) (ce : Cell) (q9 : Addr) (u : SX) (t : State) (H1 : Heap) (locs1 : List Loc), t.heap = H1 → s.vm.Alike t.vm → px u → BX E u t → H.size ≤ H1.size → (∀ q : Nat, q < H.size → ¬ AX q → H1[q]? = H[q]?) → va_S A0 H0 H1 locs1 → H1[q9]? = some ce → ce.vm = .none → s.vm.findClass E = some ce.cls → vx_W p l e R s m args below meth c H1 locs1 (cells + mc) (slots + ms) Q (F0 m pc ls rest) q9)
    (kk : ∀ (r : Int64) (u : S) (t : State) (H1 : Heap) (locs1 : List Loc), t.heap = H1 → s.vm.Alike t.vm → post r u → B u t → H.size ≤ H1.size → (∀ q : Nat, q < H.size → ¬ A1 q → H1[q]? = H[q]?) → va_S A0 H0 H1 locs1 → W p l e R s m args below meth c H1 locs1 (cells + mc) (slots + ms) Q (F0 m (pc + 3) ls (.long r :: rest))) : W p l e R s m args below meth c H locs cells slots Q (F0 m pc ls st0) := by
  intro T hT X
  rcases hr T hT X with ⟨v, st₀, t, T', L, h0, X', hL, e1, e2, ⟨⟨r, u, hv, hp, hb⟩, hF⟩, st⟩ | ⟨q, st₀, t, T', L, E, ce, h0, X', hL, e1, e2, ⟨u, hp, hb, hF⟩, hce, hcv, hcl, st⟩
  · cases hv
    obtain ⟨k1, k2, k3⟩ := vx_keep h0 e1 hS hA hf hL hF
    obtain ⟨t2, a1, b1⟩ := kk r u t T'.heap (locs ++ L) e1.symm (by rw [← e2]; exact X'.warmed.alike) hp hb k1 k2 k3 T' rfl X'
    exact ⟨t2, st t2 a1, b1⟩
  · obtain ⟨k1, k2, k3⟩ := vx_keep h0 e1 hS hAX hf hL hF
    obtain ⟨t2, a1, b1⟩ := kx E ce q u t T'.heap (locs ++ L) e1.symm (by rw [← e2]; exact X'.warmed.alike) hp hb k1 k2 k3 (by rw [e1]; exact hce) hcv hcl T' rfl X'
    exact ⟨t2, st.trans a1, b1⟩
theorem vx_callf {S SX : Type} {post : UInt32 → S → Prop} {px : SX → Prop} {B : S → State → Prop} {BX : String → SX → State → Prop} {AX : Nat → Prop} (hr : vx_Run p l e R s m args below meth c H locs cells slots mc ms (F0 m pc ls st0) rest (va_Qf post B A1 a) (vx_X px BX AX) free) (hS : va_S A0 H0 H locs) (hA : ∀ q, q < H.size → A1 q → A0 q) (hf : ∀ q, free q → A0 q) (hAX : ∀ q, q < H.size → AX q → A0 q)
    (kx : ∀ (E : String) (ce : Cell) (q9 : Addr) (u : SX) (t : State) (H1 : Heap) (locs1 : List Loc), t.heap = H1 → s.vm.Alike t.vm → px u → BX E u t → H.size ≤ H1.size → (∀ q : Nat, q < H.size → ¬ AX q → H1[q]? = H[q]?) → va_S A0 H0 H1 locs1 → H1[q9]? = some ce → ce.vm = .none → s.vm.findClass E = some ce.cls → vx_W p l e R s m args below meth c H1 locs1 (cells + mc) (slots + ms) Q (F0 m pc ls rest) q9)
    (kk : ∀ (r : UInt32) (u : S) (t : State) (H1 : Heap) (locs1 : List Loc), t.heap = H1 → s.vm.Alike t.vm → post r u → B u t → H.size ≤ H1.size → (∀ q : Nat, q < H.size → ¬ A1 q → H1[q]? = H[q]?) → va_S A0 H0 H1 locs1 → W p l e R s m args below meth c H1 locs1 (cells + mc) (slots + ms) Q (F0 m (pc + 3) ls (.float r :: rest))) : W p l e R s m args below meth c H locs cells slots Q (F0 m pc ls st0) := by
  intro T hT X
  rcases hr T hT X with ⟨v, st₀, t, T', L, h0, X', hL, e1, e2, ⟨⟨r, u, hv, hp, hb⟩, hF⟩, st⟩ | ⟨q, st₀, t, T', L, E, ce, h0, X', hL, e1, e2, ⟨u, hp, hb, hF⟩, hce, hcv, hcl, st⟩
  · cases hv
    obtain ⟨k1, k2, k3⟩ := vx_keep h0 e1 hS hA hf hL hF
    obtain ⟨t2, a1, b1⟩ := kk r u t T'.heap (locs ++ L) e1.symm (by rw [← e2]; exact X'.warmed.alike) hp hb k1 k2 k3 T' rfl X'
    exact ⟨t2, st t2 a1, b1⟩
  · obtain ⟨k1, k2, k3⟩ := vx_keep h0 e1 hS hAX hf hL hF
    obtain ⟨t2, a1, b1⟩ := kx E ce q u t T'.heap (locs ++ L) e1.symm (by rw [← e2]; exact X'.warmed.alike) hp hb k1 k2 k3 (by rw [e1]; exact hce) hcv hcl T' rfl X'
    exact ⟨t2, st.trans a1, b1⟩
theorem vx_calld {S SX : Type} {post : UInt64 → S → Prop} {px : SX → Prop} {B : S → State → Prop} {BX : String → SX → State → Prop} {AX : Nat → Prop} (hr : vx_Run p l e R s m args below meth c H locs cells slots mc ms (F0 m pc ls st0) rest (va_Qd post B A1 a) (vx_X px BX AX) free) (hS : va_S A0 H0 H locs) (hA : ∀ q, q < H.size → A1 q → A0 q) (hf : ∀ q, free q → A0 q) (hAX : ∀ q, q < H.size → AX q → A0 q)
    (kx : ∀ (E : String) (ce : Cell) (q9 : Addr) (u : SX) (t : State) (H1 : Heap) (locs1 : List Loc), t.heap = H1 → s.vm.Alike t.vm → px u → BX E u t → H.size ≤ H1.size → (∀ q : Nat, q < H.size → ¬ AX q → H1[q]? = H[q]?) → va_S A0 H0 H1 locs1 → H1[q9]? = some ce → ce.vm = .none → s.vm.findClass E = some ce.cls → vx_W p l e R s m args below meth c H1 locs1 (cells + mc) (slots + ms) Q (F0 m pc ls rest) q9)
    (kk : ∀ (r : UInt64) (u : S) (t : State) (H1 : Heap) (locs1 : List Loc), t.heap = H1 → s.vm.Alike t.vm → post r u → B u t → H.size ≤ H1.size → (∀ q : Nat, q < H.size → ¬ A1 q → H1[q]? = H[q]?) → va_S A0 H0 H1 locs1 → W p l e R s m args below meth c H1 locs1 (cells + mc) (slots + ms) Q (F0 m (pc + 3) ls (.double r :: rest))) : W p l e R s m args below meth c H locs cells slots Q (F0 m pc ls st0) := by
  intro T hT X
  rcases hr T hT X with ⟨v, st₀, t, T', L, h0, X', hL, e1, e2, ⟨⟨r, u, hv, hp, hb⟩, hF⟩, st⟩ | ⟨q, st₀, t, T', L, E, ce, h0, X', hL, e1, e2, ⟨u, hp, hb, hF⟩, hce, hcv, hcl, st⟩
  · cases hv
    obtain ⟨k1, k2, k3⟩ := vx_keep h0 e1 hS hA hf hL hF
    obtain ⟨t2, a1, b1⟩ := kk r u t T'.heap (locs ++ L) e1.symm (by rw [← e2]; exact X'.warmed.alike) hp hb k1 k2 k3 T' rfl X'
    exact ⟨t2, st t2 a1, b1⟩
  · obtain ⟨k1, k2, k3⟩ := vx_keep h0 e1 hS hAX hf hL hF
    obtain ⟨t2, a1, b1⟩ := kx E ce q u t T'.heap (locs ++ L) e1.symm (by rw [← e2]; exact X'.warmed.alike) hp hb k1 k2 k3 (by rw [e1]; exact hce) hcv hcl T' rfl X'
    exact ⟨t2, st.trans a1, b1⟩
theorem vx_callv {S SX : Type} {post : S → Prop} {px : SX → Prop} {B : S → State → Prop} {BX : String → SX → State → Prop} {AX : Nat → Prop} (hr : vx_Run p l e R s m args below meth c H locs cells slots mc ms (F0 m pc ls st0) rest (va_Qv post B A1 a) (vx_X px BX AX) free) (hS : va_S A0 H0 H locs) (hA : ∀ q, q < H.size → A1 q → A0 q) (hf : ∀ q, free q → A0 q) (hAX : ∀ q, q < H.size → AX q → A0 q)
    (kx : ∀ (E : String) (ce : Cell) (q9 : Addr) (u : SX) (t : State) (H1 : Heap) (locs1 : List Loc), t.heap = H1 → s.vm.Alike t.vm → px u → BX E u t → H.size ≤ H1.size → (∀ q : Nat, q < H.size → ¬ AX q → H1[q]? = H[q]?) → va_S A0 H0 H1 locs1 → H1[q9]? = some ce → ce.vm = .none → s.vm.findClass E = some ce.cls → vx_W p l e R s m args below meth c H1 locs1 (cells + mc) (slots + ms) Q (F0 m pc ls rest) q9)
    (kk : ∀ (u : S) (t : State) (H1 : Heap) (locs1 : List Loc), t.heap = H1 → s.vm.Alike t.vm → post u → B u t → H.size ≤ H1.size → (∀ q : Nat, q < H.size → ¬ A1 q → H1[q]? = H[q]?) → va_S A0 H0 H1 locs1 → W p l e R s m args below meth c H1 locs1 (cells + mc) (slots + ms) Q (F0 m (pc + 3) ls (rest))) : W p l e R s m args below meth c H locs cells slots Q (F0 m pc ls st0) := by
  intro T hT X
  rcases hr T hT X with ⟨v, st₀, t, T', L, h0, X', hL, e1, e2, ⟨⟨u, hv, hp, hb⟩, hF⟩, st⟩ | ⟨q, st₀, t, T', L, E, ce, h0, X', hL, e1, e2, ⟨u, hp, hb, hF⟩, hce, hcv, hcl, st⟩
  · cases hv
    obtain ⟨k1, k2, k3⟩ := vx_keep h0 e1 hS hA hf hL hF
    obtain ⟨t2, a1, b1⟩ := kk u t T'.heap (locs ++ L) e1.symm (by rw [← e2]; exact X'.warmed.alike) hp hb k1 k2 k3 T' rfl X'
    exact ⟨t2, st t2 a1, b1⟩
  · obtain ⟨k1, k2, k3⟩ := vx_keep h0 e1 hS hAX hf hL hF
    obtain ⟨t2, a1, b1⟩ := kx E ce q u t T'.heap (locs ++ L) e1.symm (by rw [← e2]; exact X'.warmed.alike) hp hb k1 k2 k3 (by rw [e1]; exact hce) hcv hcl T' rfl X'
    exact ⟨t2, st.trans a1, b1⟩
end Rows
section Ends
variable {p : Program} {l : Launch} {e : Env} {R : Room} {s : State} {m : MethodId} {args : Array Value} {below : List Frame} {meth : Method} {c : Code} {H : Heap} {locs : List Loc} {cells slots : Nat} {Q : State → Prop}
variable {mc ms : Nat} {free : Addr → Prop} {A0 A1 : Nat → Prop} {H0 : Heap} {a : Array Value} {ls : Array Slot} {st0 rest : List Value}
variable {Qc : Array Value → State → Outcome → State → Prop} {XC : String → State → State → Prop}
/-- what a body that may throw owes at its end -/
def vx_MQ (below : List Frame) (Qc : Array Value → State → Outcome → State → Prop) (XC : String → State → State → Prop) (a : Array Value) (s : State) (mc ms : Nat) (free : Addr → Prop) : State → Prop := fun t =>
  ∃ o, t.status = .running ∧ Ended t below o ∧ vx_Q Qc XC mc ms free a s o t
theorem vx_ret {g : JFrame} {mc ms : Nat} (k : W p l e R s m args below meth c H locs cells slots (MQ below Qc args s mc ms free) g) : W p l e R s m args below meth c H locs cells slots (vx_MQ below Qc XC args s mc ms free) g := by
  intro T hT X
  obtain ⟨t, a1, o, b1, b2, b3, b4⟩ := k T hT X
  exact ⟨t, a1, o, b1, b2, Or.inl ⟨b3, b4⟩⟩
/-- not caught here: it goes on to the caller -/
theorem vx_widen {g : JFrame} {q : Addr} {k n : Nat} (h1 : cells ≤ k) (h2 : slots ≤ n) (kk : vx_W p l e R s m args below meth c H locs k n Q g q) : vx_W p l e R s m args below meth c H locs cells slots Q g q := fun T hT X => kk T hT (stand_widen X h1 h2)
theorem vx_out {pc : Nat} {E : String} {ce : Cell} {q : Addr} {mc ms : Nat} (hout : ∀ x ∈ c.exceptionTable.toList, covers x pc = false) (hlocks : meth.locks = false) (hcell : H[q]? = some ce) (hv : ce.vm = .none) (hcl : s.vm.findClass E = some ce.cls)
    (hx : ∀ t : State, t.heap = H → s.vm.Alike t.vm → XC E s t) (hf : ∀ z ∈ locs, free z.base) (hc : cells ≤ mc) (hs : slots ≤ ms) :
    vx_W p l e R s m args below meth c H locs cells slots (vx_MQ below Qc XC args s mc ms free) (F0 m pc ls rest) q := by
  intro T hT X
  obtain ⟨st1, hrun, hend, hW, hsm⟩ := X.leaveThrown q (g := F0 m pc ls rest) rfl rfl rfl hout hlocks
  have hcell9 : (T.setFrames (.throwing q :: below)).heap[q]? = some ce := by
    show T.heap[q]? = some ce
    rw [hT]; exact hcell
  exact ⟨_, st1, .threw q, hrun, hend, Or.inr ⟨q, rfl, E, ce, locs, hx _ hT hW.alike, hcell9, hv, hcl, hW, hsm.mono hc hs, hf⟩⟩
theorem vx_frame {U : State} {k n : Nat} (h : s.sameButNew ({ U with vm := s.vm } : State) locs k n) : s.heap.size ≤ U.heap.size ∧ ∀ q : Nat, q < s.heap.size → (∀ z ∈ locs, z.base ≠ q) → U.heap[q]? = s.heap[q]? := by
  obtain ⟨-, h2, -, -, -, h6⟩ := h
  refine ⟨h2, fun q hq hz => ?_⟩
  obtain ⟨c9, e1, e2, e3, e4⟩ := h6 q _ (Array.getElem?_eq_getElem hq)
  have hs : c9.slots = (s.heap[q]).slots := Array.ext_getElem? fun i => e4 i fun hm => hz _ hm rfl
  have h9 : c9 = s.heap[q] := by
    rw [hs] at e2
    exact e2
  have e5 : U.heap[q]? = some c9 := e1
  rw [e5, h9, Array.getElem?_eq_getElem hq]
/-- the words of a throw but the four that speak of the heap -/
def vx_no (w : Cond) : Bool := decide (w ≠ .isRef (.static Bundle.tN "UNASSIGNED_STACK" Bundle.steD)) && decide (w ≠ .isRef (.static Bundle.tN "SUPPRESSED_SENTINEL" Bundle.listD)) && decide (w ≠ .laysStatic Bundle.tN "UNASSIGNED_STACK" Bundle.steD) && decide (w ≠ .laysStatic Bundle.tN "SUPPRESSED_SENTINEL" Bundle.listD)
def vx_at0 (own : String) (ic : Nat) (X : String) (names : List String) : List Cond := (Bundle.ownAtoms0 own ic X names).filter vx_no
def vx_atS (own : String) (ic : Nat) (X : String) (names : List String) : List Cond := (Bundle.ownAtoms own ic X names).filter vx_no
/-- a word that the tables alone decide, or a good one -/
def vx_ot (w : Cond) : Bool := w.onTables || goodWord w
theorem vx_ot_at {args a' : Array Value} {s U : State} {w : Cond} (hW : s.WarmedH U.vm) (hvm : s.vm = U.vm) (hg : vx_ot w = true) (h : w.before args s = true) : w.before a' U = true := by
  simp only [vx_ot, Bool.or_eq_true] at hg
  rcases hg with hg | hg
  · exact va_tabs hg hvm h
  · exact word_at hW (good_of_word hg) h
/-- a list's words: the good ones out of the method's own list, the others by premises of their own -/
theorem vx_hat {args : Array Value} {s : State} {L B : List Cond} (h1 : ∀ w ∈ L.filter goodWord, w.before args s = true) (h2 : ∀ w ∈ L.filter (fun w => !goodWord w), w ∈ B) (h3 : ∀ w ∈ B, w.before args s = true) : ∀ w ∈ L, w.before args s = true := by
  intro w hw
  by_cases g : goodWord w = true
  · exact h1 w (List.mem_filter.mpr ⟨hw, g⟩)
  · refine h3 w (h2 w (List.mem_filter.mpr ⟨hw, ?_⟩))
    show (!goodWord w) = true
    cases hgw : goodWord w
    · rfl
    · exact absurd hgw g
theorem vx_c {args : Array Value} {s : State} {w : Cond} {B : List Cond} (h : w.before args s = true) (t : ∀ w ∈ B, w.before args s = true) : ∀ w' ∈ w :: B, w'.before args s = true := fun w' h' => (List.mem_cons.mp h').elim (fun e => by rw [e]; exact h) (t w')
theorem vx_n {args : Array Value} {s : State} : ∀ w ∈ ([] : List Cond), w.before args s = true := fun _ h => nomatch h
theorem vx_own {args : Array Value} {s : State} {L : List Cond} (h1 : ∀ w ∈ L.filter vx_no, w.before args s = true)
    (hU : (Cond.isRef (.static Bundle.tN "UNASSIGNED_STACK" Bundle.steD)).before args s = true) (hN : (Cond.isRef (.static Bundle.tN "SUPPRESSED_SENTINEL" Bundle.listD)).before args s = true)
    (lU : (Cond.laysStatic Bundle.tN "UNASSIGNED_STACK" Bundle.steD).before args s = true) (lN : (Cond.laysStatic Bundle.tN "SUPPRESSED_SENTINEL" Bundle.listD).before args s = true) : ∀ w ∈ L, w.before args s = true := by
  intro w hw
  by_cases e1 : w = .isRef (.static Bundle.tN "UNASSIGNED_STACK" Bundle.steD)
  · rw [e1]; exact hU
  · by_cases e2 : w = .isRef (.static Bundle.tN "SUPPRESSED_SENTINEL" Bundle.listD)
    · rw [e2]; exact hN
    · by_cases e3 : w = .laysStatic Bundle.tN "UNASSIGNED_STACK" Bundle.steD
      · rw [e3]; exact lU
      · by_cases e4 : w = .laysStatic Bundle.tN "SUPPRESSED_SENTINEL" Bundle.listD
        · rw [e4]; exact lN
        · exact h1 w (List.mem_filter.mpr ⟨hw, by unfold vx_no; rw [decide_eq_true e1, decide_eq_true e2, decide_eq_true e3, decide_eq_true e4]; rfl⟩)
/-- where a static field lies, its class's statics cell in H -/
def vx_L (C n d : String) (A : Nat → Prop) (U : State) (H : Heap) : Prop := ∃ (c : ClassId) (k : Class) (i : Nat) (f : Field) (a : Nat) (cell : Cell), U.vm.findClass C = some c ∧ U.fieldFound? C n d = some (c, k, i, f) ∧ f.isStatic = true ∧ k.statics = some a ∧ H[a]? = some cell ∧ cell.vm.isStatics = true ∧ cell.cls = c ∧ f.slot < cell.slots.size ∧ k.staticTypes[f.slot]? = some f.type ∧ ¬ A a
theorem vx_L.moved {C n d : String} {A : Nat → Prop} {u U : State} {H : Heap} (hvm : u.vm.Alike U.vm) (h : vx_L C n d A u H) : vx_L C n d A U H := by
  obtain ⟨c, k, i, f, a, cell, h1, h2, h3, h4, h5, h6, h7, h8, h9, h10⟩ := h
  obtain ⟨k', hi', he⟩ := State.fieldFound?_setVm hvm h2
  exact ⟨c, k', i, f, a, cell, by rw [hvm.findClass]; exact h1, hi', h3, by rw [he]; exact h4, h5, h6, h7, h8, by rw [he]; exact h9, h10⟩
theorem vx_L.kept {C n d : String} {A : Nat → Prop} {U : State} {H H1 : Heap} (h : vx_L C n d A U H) (hq : ∀ a : Nat, a < H.size → ¬ A a → H1[a]? = H[a]?) : vx_L C n d A U H1 := by
  obtain ⟨c, k, i, f, a, cell, h1, h2, h3, h4, h5, h6, h7, h8, h9, h10⟩ := h
  exact ⟨c, k, i, f, a, cell, h1, h2, h3, h4, by rw [hq a (Array.getElem?_eq_some_iff.mp h5).1 h10]; exact h5, h6, h7, h8, h9, h10⟩
theorem vx_L.narrow {C n d : String} {A B : Nat → Prop} {U : State} {H : Heap} (h : vx_L C n d A U H) (hAB : ∀ q, B q → A q) : vx_L C n d B U H := by
  obtain ⟨c, k, i, f, a, cell, h1, h2, h3, h4, h5, h6, h7, h8, h9, h10⟩ := h
  exact ⟨c, k, i, f, a, cell, h1, h2, h3, h4, h5, h6, h7, h8, h9, fun z => h10 (hAB _ z)⟩
theorem vx_L.word {C n d : String} {A : Nat → Prop} {s : State} {args : Array Value} (h : vx_L C n d A s s.heap) : (Cond.laysStatic C n d).before args s = true := by
  obtain ⟨c, k, i, f, a, cell, h1, h2, h3, h4, h5, h6, h7, h8, h9, -⟩ := h
  show (Cond.laysStatic C n d).holds args s none s [] = true
  exact Cond.laysStatic_of h1 h2 h3 h4 h5 h6 h7 h8 h9
/-- .. and what it holds: null or some reference -/
def vx_Zq (C n d : String) (A : Nat → Prop) (U : State) (H : Heap) : Prop := va_Zq C n d A U H ∧ vx_L C n d A U H
theorem vx_Zq.moved {C n d : String} {A : Nat → Prop} {u U : State} {H : Heap} (hvm : u.vm.Alike U.vm) (h : vx_Zq C n d A u H) : vx_Zq C n d A U H := ⟨va_Zq.moved hvm h.1, vx_L.moved hvm h.2⟩
theorem vx_Zq.kept {C n d : String} {A : Nat → Prop} {U : State} {H H1 : Heap} (h : vx_Zq C n d A U H) (hq : ∀ a : Nat, a < H.size → ¬ A a → H1[a]? = H[a]?) : vx_Zq C n d A U H1 := ⟨va_Zq.kept h.1 hq, vx_L.kept h.2 hq⟩
theorem vx_Zq.narrow {C n d : String} {A B : Nat → Prop} {U : State} {H : Heap} (h : vx_Zq C n d A U H) (hAB : ∀ q, B q → A q) : vx_Zq C n d B U H := ⟨va_Zq.narrow h.1 hAB, vx_L.narrow h.2 hAB⟩
theorem vx_Zqof {args : Array Value} {s : State} {C n d : String} {A : Nat → Prop} (hl : (Cond.laysStatic C n d).before args s = true) (hini : (Cond.initialized C).before args s = true) (h : (Cond.isRef (.static C n d)).before args s = true) (hA : ∀ a : Nat, a < s.heap.size → ¬ A a) : vx_Zq C n d A s s.heap := by
  refine ⟨va_Zqof hl hini h hA, ?_⟩
  obtain ⟨c, k, i, f, a, cell, h1, h2, h3, h4, h5, h6, h7, h8, h9⟩ := Cond.laysStatic_spec hl
  exact ⟨c, k, i, f, a, cell, h1, h2, h3, h4, h5, h6, h7, h8, h9, hA a (Array.getElem?_eq_some_iff.mp h5).1⟩
theorem vx_isRef {C n d : String} {v : Value} {A : Nat → Prop} {s : State} {args : Array Value} (h : va_Z C n d v A s s.heap) (hv : v.isRef = true) : (Cond.isRef (.static C n d)).before args s = true := by
  obtain ⟨cf, kf, fi, f, a, cell, h1, h2, h3, h4, h5, h6, h7, -⟩ := h
  have he : (Term.static C n d).eval args s none [] s = some v := by
    simp [Term.eval, State.fieldNamed?, h1, h2, h4, h5, h6, h7]
  simp only [Cond.before, Cond.holds, Cond.value, he]
  cases v <;> simp_all [Value.isRef]
theorem vx_isRefq {C n d : String} {A : Nat → Prop} {s : State} {args : Array Value} (h : va_Zq C n d A s s.heap) : (Cond.isRef (.static C n d)).before args s = true := by
  rcases h with h | ⟨t, h⟩
  · exact vx_isRef h rfl
  · exact vx_isRef h rfl
/-- the same frame, seen from here: as if the method were called anew in this heap -/
theorem vx_rebase {T : State} (X : Stand p l e R s m args below meth c T locs cells slots) {R' : Room} (hf : R'.frames ≤ R.frames) (hl : R'.locals ≤ R.locals) (hc : cells + R'.cells ≤ R.cells) (hs : slots + R'.slots ≤ R.slots) :
    Stand p l e R' ((T.setVm s.vm).setFrames (.invoking m args :: below)) m args below meth c T [] 0 0 := by
  have htop : (T.setVm s.vm).topJava?.isSome := X.here.top
  have hF : ((T.setVm s.vm).setFrames (.invoking m args :: below)).frames = .invoking m args :: below := State.frames_setFrames _ (State.cur_lt_of_top htop)
  obtain ⟨g₀, hg0⟩ := Option.isSome_iff_exists.mp htop
  obtain ⟨r, hr⟩ := State.topJava?_eq_some.mp hg0
  have hl9 : e.platform.stackLimits (T.setVm s.vm).me = e.platform.stackLimits s.me := X.limits
  have hb9 : (T.setVm s.vm).me.stackBytes = s.me.stackBytes := X.bytes
  refine ⟨X.admits, X.cas, X.clock, hF, ?_, X.hears, X.method, X.code, X.here, X.tail, X.warmed, ?_, ?_, ?_⟩
  · have h := X.room
    have hU : ((T.setVm s.vm).setFrames (.invoking m args :: below)).localsInUse = s.localsInUse := by
      rw [State.localsInUse_invoking hF (meth := meth) (c := c) X.method X.code, State.localsInUse_invoking X.frames X.method X.code]
    simp only [State.hasRoom, Bool.and_eq_true, decide_eq_true_eq] at h ⊢
    obtain ⟨⟨⟨⟨h1, h2, h3, h4, h5, h6⟩, h7⟩, h8⟩, h9⟩ := h
    rw [X.frames, List.length_cons] at h2 h3
    have q1 := X.heapSize
    have q2 := X.used
    simp only [hF, hU, List.length_cons, State.stackLimits_setFrames, State.stackBytes_setFrames, hl9, hb9]
    refine ⟨⟨⟨⟨by omega, by omega, by omega, by omega, by omega, h6⟩, ?_⟩, ?_⟩, X.book⟩
    · show T.heap.size + R'.cells ≤ e.platform.maxCells
      omega
    · show T.slotsUsed + R'.slots ≤ e.platform.maxSlots
      omega
  · rw [State.stackLimits_setFrames]; rfl
  · rw [State.stackBytes_setFrames]; rfl
  · refine ⟨?_, Nat.le_refl _, Nat.le_refl _, ?_, ?_, fun a c9 h9 => ⟨c9, h9, rfl, rfl, fun _ _ => rfl⟩⟩
    · obtain ⟨t, ht, -⟩ := State.frames_cons hr
      show T.setVm s.vm = { ((T.setVm s.vm).setFrames (.invoking m args :: below)).setFrames (T.setVm s.vm).frames with heap := T.heap, slotsUsed := T.slotsUsed }
      rw [State.setFrames_setFrames, State.setFrames_self ht]
      rfl
    · show T.slotsUsed = T.slotsUsed + ((T.heap.toList.drop T.heap.size).map (·.slots.size)).sum
      rw [List.drop_eq_nil_of_le (Nat.le_of_eq Array.length_toList)]
      rfl
    · show ((T.heap.toList.drop T.heap.size).map (·.slots.size)).sum ≤ 0
      rw [List.drop_eq_nil_of_le (Nat.le_of_eq Array.length_toList)]
      exact Nat.le_refl _
/-- 'throw new E()': new; dup; invokespecial; athrow -/
theorem vx_throw0 {cc : ByteArray} {pc : Nat} (hexec : p.tables.exec = Jvm.exec) (hb : c.code = cc) (hl : l.stackTraces = false) {own cls : String} {names : List String} {ik ic mc ms : Nat} {A : Nat → Prop}
    (hown : s.vm.findClass own = some m.cls) (hcls : Bundle.fit cls = true) (hnames : ∀ n ∈ names, Bundle.fit n = true)
    (hk : (Cond.classLink own ik cls).before args s = true) (hini : (Cond.initialized cls).before args s = true) (hat : ∀ w ∈ vx_at0 own ic cls names, w.before args s = true)
    (hgood : ∀ w ∈ Cond.classLink own ik cls :: Cond.initialized cls :: vx_at0 own ic cls names, vx_ot w = true)
    (hU : vx_Zq Bundle.tN "UNASSIGNED_STACK" Bundle.steD A s s.heap) (hN : vx_Zq Bundle.tN "SUPPRESSED_SENTINEL" Bundle.listD A s s.heap) (hS : va_S A s.heap H locs) (hsize : ls.size = c.maxLocals)
    (d0 : decode cc pc = .ok (.new ik, 3)) (d3 : decode cc (pc + 3) = .ok (.dup, 1)) (d4 : decode cc (pc + 4) = .ok (.invokespecial ic, 3)) (d7 : decode cc (pc + 7) = .ok (.athrow, 1))
    (hout : ∀ x ∈ c.exceptionTable.toList, covers x (pc + 7) = false)
    (hRframes : names.length + 3 < R.frames) (hRlocals : (rest.map fun v => v.category).sum + (13 * (names.length + 1) + 42) ≤ R.locals) (hRcells : cells + 1 ≤ R.cells) (hRslots : slots + 6 ≤ R.slots) (hlocks : meth.locks = false)
    (hx : ∀ t : State, s.vm.Alike t.vm → H.size ≤ t.heap.size → (∀ q : Nat, q < H.size → t.heap[q]? = H[q]?) → XC cls s t)
    (hf : ∀ z ∈ locs, free z.base) (hc : cells + 1 ≤ mc) (hs : slots + 6 ≤ ms) :
    W p l e R s m args below meth c H locs cells slots (vx_MQ below Qc XC args s mc ms free) (F0 m pc ls rest) := by
  intro T hT X
  have htr : e.platform.stackTraces = false := (show e.platform.stackTraces = l.stackTraces by rw [X.admits.platform]).trans hl
  have Y := vx_rebase X (R' := { frames := R.frames, locals := R.locals, cells := 1, slots := 6 }) (Nat.le_refl _) (Nat.le_refl _) hRcells hRslots
  obtain ⟨s', hA⟩ : ∃ z, z = (T.setVm s.vm).setFrames (.invoking m args :: below) := ⟨_, rfl⟩
  rw [← hA] at Y
  have hvm : s'.vm = s.vm := by rw [hA]; rfl
  have hhp : s'.heap = H := by rw [hA]; exact hT
  have hW0 : s.WarmedH s'.vm := by rw [hvm]; exact State.WarmedH.refl s
  have hat' : ∀ w ∈ vx_at0 own ic cls names, w.before args s' = true := fun w hw => vx_ot_at hW0 hvm.symm (hgood w (List.mem_cons_of_mem _ (List.mem_cons_of_mem _ hw))) (hat w hw)
  have hk' : (Cond.classLink own ik cls).before args s' = true := vx_ot_at hW0 hvm.symm (hgood _ List.mem_cons_self) hk
  have hini' : (Cond.initialized cls).before args s' = true := vx_ot_at hW0 hvm.symm (hgood _ (List.mem_cons_of_mem _ List.mem_cons_self)) hini
  have hU' : vx_Zq Bundle.tN "UNASSIGNED_STACK" Bundle.steD A s' s'.heap := by rw [hhp]; exact vx_Zq.moved hW0.alike (hU.kept hS.2.1)
  have hN' : vx_Zq Bundle.tN "SUPPRESSED_SENTINEL" Bundle.listD A s' s'.heap := by rw [hhp]; exact vx_Zq.moved hW0.alike (hN.kept hS.2.1)
  have h : ∀ w ∈ Bundle.ownAtoms0 own ic cls names, w.before args s' = true := vx_own hat' (vx_isRefq hU'.1) (vx_isRefq hN'.1) hU'.2.word hN'.2.word
  have hown' : s'.vm.findClass own = some m.cls := by rw [hvm]; exact hown
  have hins : (Cond.instantiable cls 6).before args s' = true := h _ (by simp [Bundle.ownAtoms0])
  obtain ⟨vm₁, cX, kX, hfX, hkX, -, -, X₁, st1⟩ := Y.newCold hexec (own := own) (C := cls) (index := ik) (n := 6) hown' hk' hins hini'
    (g := F0 m pc ls rest) rfl (by rw [hb]; exact d0) (Nat.le_refl _) (Nat.le_refl _)
  generalize hT1 : (T.setVm vm₁).pushCell { cls := cX, slots := kX.instanceTypes.map defaultValue, vm := .none } = T1 at X₁ st1
  have hcat : (Value.ref T.heap.size).category = 1 := rfl
  have hcellA : T1.heap[T.heap.size]? = some (freshCell cX kX) := by rw [← hT1]; exact State.heap_pushCell_size _ _
  have d3' : decode c.code (pc + 3) = .ok (.dup, 1) := by rw [hb]; exact d3
  obtain ⟨U, hsteps, hrun, hend, hW, hsame, ce, hce, hO⟩ := X₁.ctorThrow0 hexec htr (own := own) (cls := cls) (names := names) (ic := ic) hown' hcls hnames h (fun x hx => nomatch hx) hfX hkX hcellA (by rw [hhp, hT]; exact Nat.le_refl _)
    (g := { method := m, pc := pc + 4, locals := ls, stack := .ref T.heap.size :: .ref T.heap.size :: rest, locked := none }) rfl hsize rfl rfl (rest := rest) rfl
    (by rw [hb]; exact d4) (by rw [hb]; exact d7) hout hRframes (by simp only [List.map_cons, List.sum_cons, hcat]; omega) hlocks
  obtain ⟨f1, f2⟩ := vx_frame hsame
  rw [hhp] at f1 f2
  have hWs : s.WarmedH U.vm := State.WarmedH.trans hW0 hW
  have hcl : s.vm.findClass cls = some ce.cls := by
    have h9 := hO.cls
    rw [hvm] at h9
    exact h9
  have hall : s.sameButNew ({ U with vm := s.vm } : State) locs mc ms := by
    subst hA
    obtain ⟨e1, e2⟩ := hsame
    rw [State.setFrames_setFrames] at e1
    have h2 : (T.setVm s.vm).sameButNew ({ U with vm := s.vm } : State) [] (0 + 1) (0 + 6) := ⟨e1, e2⟩
    have h3 := X.same.trans h2
    rw [List.append_nil] at h3
    exact h3.mono hc hs
  refine ⟨U, ?_, .threw T.heap.size, hrun, hend, Or.inr ⟨T.heap.size, rfl, cls, ce, locs, hx U hWs.alike f1 (fun q hq => f2 q hq (fun z hz => nomatch hz)), hce, hO.vm, hcl, hWs, hall, hf⟩⟩
  refine st1 _ ?_
  show Steps p.tables e below (T1.setTop { method := m, pc := pc + 3, locals := ls, stack := .ref T.heap.size :: rest, locked := none }) _
  jvm_step X₁.here [X₁.here.top, hexec, d3', Value.category]
  exact hsteps
/-- 'throw new E("text")': new; dup; ldc; invokespecial; athrow -/
theorem vx_throwS {cc : ByteArray} {pc : Nat} (hexec : p.tables.exec = Jvm.exec) (hb : c.code = cc) (hl : l.stackTraces = false) {own cls text : String} {names : List String} {ik is ic mc ms sa : Nat} {A : Nat → Prop}
    (hown : s.vm.findClass own = some m.cls) (hcls : Bundle.fit cls = true) (hnames : ∀ n ∈ names, Bundle.fit n = true)
    (hk : (Cond.classLink own ik cls).before args s = true) (hini : (Cond.initialized cls).before args s = true) (hstr : vk_R own is text sa s) (hat : ∀ w ∈ vx_atS own ic cls names, w.before args s = true)
    (hgood : ∀ w ∈ Cond.classLink own ik cls :: Cond.initialized cls :: vx_atS own ic cls names, vx_ot w = true)
    (hU : vx_Zq Bundle.tN "UNASSIGNED_STACK" Bundle.steD A s s.heap) (hN : vx_Zq Bundle.tN "SUPPRESSED_SENTINEL" Bundle.listD A s s.heap) (hS : va_S A s.heap H locs) (hsize : ls.size = c.maxLocals)
    (d0 : decode cc pc = .ok (.new ik, 3)) (d3 : decode cc (pc + 3) = .ok (.dup, 1)) (d4 : decode cc (pc + 4) = .ok (.ldc is, 2)) (d6 : decode cc (pc + 6) = .ok (.invokespecial ic, 3)) (d9 : decode cc (pc + 9) = .ok (.athrow, 1))
    (hout : ∀ x ∈ c.exceptionTable.toList, covers x (pc + 9) = false)
    (hRframes : names.length + 3 < R.frames) (hRlocals : (rest.map fun v => v.category).sum + (13 * (names.length + 1) + 43) ≤ R.locals) (hRcells : cells + 1 ≤ R.cells) (hRslots : slots + 6 ≤ R.slots) (hlocks : meth.locks = false)
    (hx : ∀ t : State, s.vm.Alike t.vm → H.size ≤ t.heap.size → (∀ q : Nat, q < H.size → t.heap[q]? = H[q]?) → XC cls s t)
    (hf : ∀ z ∈ locs, free z.base) (hc : cells + 1 ≤ mc) (hs : slots + 6 ≤ ms) :
    W p l e R s m args below meth c H locs cells slots (vx_MQ below Qc XC args s mc ms free) (F0 m pc ls rest) := by
  intro T hT X
  have htr : e.platform.stackTraces = false := (show e.platform.stackTraces = l.stackTraces by rw [X.admits.platform]).trans hl
  have Y := vx_rebase X (R' := { frames := R.frames, locals := R.locals, cells := 1, slots := 6 }) (Nat.le_refl _) (Nat.le_refl _) hRcells hRslots
  obtain ⟨s', hA⟩ : ∃ z, z = (T.setVm s.vm).setFrames (.invoking m args :: below) := ⟨_, rfl⟩
  rw [← hA] at Y
  have hvm : s'.vm = s.vm := by rw [hA]; rfl
  have hhp : s'.heap = H := by rw [hA]; exact hT
  have hW0 : s.WarmedH s'.vm := by rw [hvm]; exact State.WarmedH.refl s
  have hat' : ∀ w ∈ vx_atS own ic cls names, w.before args s' = true := fun w hw => vx_ot_at hW0 hvm.symm (hgood w (List.mem_cons_of_mem _ (List.mem_cons_of_mem _ hw))) (hat w hw)
  have hk' : (Cond.classLink own ik cls).before args s' = true := vx_ot_at hW0 hvm.symm (hgood _ List.mem_cons_self) hk
  have hini' : (Cond.initialized cls).before args s' = true := vx_ot_at hW0 hvm.symm (hgood _ (List.mem_cons_of_mem _ List.mem_cons_self)) hini
  have hU' : vx_Zq Bundle.tN "UNASSIGNED_STACK" Bundle.steD A s' s'.heap := by rw [hhp]; exact vx_Zq.moved hW0.alike (hU.kept hS.2.1)
  have hN' : vx_Zq Bundle.tN "SUPPRESSED_SENTINEL" Bundle.listD A s' s'.heap := by rw [hhp]; exact vx_Zq.moved hW0.alike (hN.kept hS.2.1)
  have h : ∀ w ∈ Bundle.ownAtoms own ic cls names, w.before args s' = true := vx_own hat' (vx_isRefq hU'.1) (vx_isRefq hN'.1) hU'.2.word hN'.2.word
  have hown' : s'.vm.findClass own = some m.cls := by rw [hvm]; exact hown
  have hins : (Cond.instantiable cls 6).before args s' = true := h _ (by simp [Bundle.ownAtoms])
  obtain ⟨vm₁, cX, kX, hfX, hkX, -, -, X₁, st1⟩ := Y.newCold hexec (own := own) (C := cls) (index := ik) (n := 6) hown' hk' hins hini'
    (g := F0 m pc ls rest) rfl (by rw [hb]; exact d0) (Nat.le_refl _) (Nat.le_refl _)
  generalize hT1 : (T.setVm vm₁).pushCell { cls := cX, slots := kX.instanceTypes.map defaultValue, vm := .none } = T1 at X₁ st1
  have hcat : (Value.ref T.heap.size).category = 1 := rfl
  have hcellA : T1.heap[T.heap.size]? = some (freshCell cX kX) := by rw [← hT1]; exact State.heap_pushCell_size _ _
  have d3' : decode c.code (pc + 3) = .ok (.dup, 1) := by rw [hb]; exact d3
  have d4' : decode c.code (pc + 4) = .ok (.ldc is, 2) := by rw [hb]; exact d4
  have hstr' : vk_R own is text sa s' := vk_R.warm hW0 hstr
  obtain ⟨U, hsteps, hrun, hend, hW, hsame, ce, hce, hO⟩ := X₁.ctorThrowS hexec htr (own := own) (cls := cls) (names := names) (ic := ic) hown' hcls hnames h (fun x hx => nomatch hx) hfX hkX hcellA (by rw [hhp, hT]; exact Nat.le_refl _) (msg := .ref sa) rfl
    (g := { method := m, pc := pc + 6, locals := ls, stack := .ref sa :: .ref T.heap.size :: .ref T.heap.size :: rest, locked := none }) rfl hsize rfl rfl (rest := rest) rfl
    (by rw [hb]; exact d6) (by rw [hb]; exact d9) hout hRframes (by simp only [List.map_cons, List.sum_cons, hcat]; omega) hlocks
  obtain ⟨f1, f2⟩ := vx_frame hsame
  rw [hhp] at f1 f2
  have hWs : s.WarmedH U.vm := State.WarmedH.trans hW0 hW
  have hcl : s.vm.findClass cls = some ce.cls := by
    have h9 := hO.cls
    rw [hvm] at h9
    exact h9
  have hall : s.sameButNew ({ U with vm := s.vm } : State) locs mc ms := by
    subst hA
    obtain ⟨e1, e2⟩ := hsame
    rw [State.setFrames_setFrames] at e1
    have h2 : (T.setVm s.vm).sameButNew ({ U with vm := s.vm } : State) [] (0 + 1) (0 + 6) := ⟨e1, e2⟩
    have h3 := X.same.trans h2
    rw [List.append_nil] at h3
    exact h3.mono hc hs
  refine ⟨U, ?_, .threw T.heap.size, hrun, hend, Or.inr ⟨T.heap.size, rfl, cls, ce, locs, hx U hWs.alike f1 (fun q hq => f2 q hq (fun z hz => nomatch hz)), hce, hO.vm, hcl, hWs, hall, hf⟩⟩
  refine st1 _ ?_
  show Steps p.tables e below (T1.setTop { method := m, pc := pc + 3, locals := ls, stack := .ref T.heap.size :: rest, locked := none }) _
  jvm_step X₁.here [X₁.here.top, hexec, d3', Value.category]
  exact X₁.ldcString hexec (own := own) (text := text) (index := is) (a := sa) hown' hstr'.1 hstr'.2
    (g := { method := m, pc := pc + 4, locals := ls, stack := .ref T.heap.size :: .ref T.heap.size :: rest, locked := none }) rfl d4' _ hsteps
/-- 'throw new E("text")', the text by a wide index -/
theorem vx_throwSW {cc : ByteArray} {pc : Nat} (hexec : p.tables.exec = Jvm.exec) (hb : c.code = cc) (hl : l.stackTraces = false) {own cls text : String} {names : List String} {ik is ic mc ms sa : Nat} {A : Nat → Prop}
    (hown : s.vm.findClass own = some m.cls) (hcls : Bundle.fit cls = true) (hnames : ∀ n ∈ names, Bundle.fit n = true)
    (hk : (Cond.classLink own ik cls).before args s = true) (hini : (Cond.initialized cls).before args s = true) (hstr : vk_R own is text sa s) (hat : ∀ w ∈ vx_atS own ic cls names, w.before args s = true)
    (hgood : ∀ w ∈ Cond.classLink own ik cls :: Cond.initialized cls :: vx_atS own ic cls names, vx_ot w = true)
    (hU : vx_Zq Bundle.tN "UNASSIGNED_STACK" Bundle.steD A s s.heap) (hN : vx_Zq Bundle.tN "SUPPRESSED_SENTINEL" Bundle.listD A s s.heap) (hS : va_S A s.heap H locs) (hsize : ls.size = c.maxLocals)
    (d0 : decode cc pc = .ok (.new ik, 3)) (d3 : decode cc (pc + 3) = .ok (.dup, 1)) (d4 : decode cc (pc + 4) = .ok (.ldc_w is, 3)) (d7 : decode cc (pc + 7) = .ok (.invokespecial ic, 3)) (d10 : decode cc (pc + 10) = .ok (.athrow, 1))
    (hout : ∀ x ∈ c.exceptionTable.toList, covers x (pc + 10) = false)
    (hRframes : names.length + 3 < R.frames) (hRlocals : (rest.map fun v => v.category).sum + (13 * (names.length + 1) + 43) ≤ R.locals) (hRcells : cells + 1 ≤ R.cells) (hRslots : slots + 6 ≤ R.slots) (hlocks : meth.locks = false)
    (hx : ∀ t : State, s.vm.Alike t.vm → H.size ≤ t.heap.size → (∀ q : Nat, q < H.size → t.heap[q]? = H[q]?) → XC cls s t)
    (hf : ∀ z ∈ locs, free z.base) (hc : cells + 1 ≤ mc) (hs : slots + 6 ≤ ms) :
    W p l e R s m args below meth c H locs cells slots (vx_MQ below Qc XC args s mc ms free) (F0 m pc ls rest) := by
  intro T hT X
  have htr : e.platform.stackTraces = false := (show e.platform.stackTraces = l.stackTraces by rw [X.admits.platform]).trans hl
  have Y := vx_rebase X (R' := { frames := R.frames, locals := R.locals, cells := 1, slots := 6 }) (Nat.le_refl _) (Nat.le_refl _) hRcells hRslots
  obtain ⟨s', hA⟩ : ∃ z, z = (T.setVm s.vm).setFrames (.invoking m args :: below) := ⟨_, rfl⟩
  rw [← hA] at Y
  have hvm : s'.vm = s.vm := by rw [hA]; rfl
  have hhp : s'.heap = H := by rw [hA]; exact hT
  have hW0 : s.WarmedH s'.vm := by rw [hvm]; exact State.WarmedH.refl s
  have hat' : ∀ w ∈ vx_atS own ic cls names, w.before args s' = true := fun w hw => vx_ot_at hW0 hvm.symm (hgood w (List.mem_cons_of_mem _ (List.mem_cons_of_mem _ hw))) (hat w hw)
  have hk' : (Cond.classLink own ik cls).before args s' = true := vx_ot_at hW0 hvm.symm (hgood _ List.mem_cons_self) hk
  have hini' : (Cond.initialized cls).before args s' = true := vx_ot_at hW0 hvm.symm (hgood _ (List.mem_cons_of_mem _ List.mem_cons_self)) hini
  have hU' : vx_Zq Bundle.tN "UNASSIGNED_STACK" Bundle.steD A s' s'.heap := by rw [hhp]; exact vx_Zq.moved hW0.alike (hU.kept hS.2.1)
  have hN' : vx_Zq Bundle.tN "SUPPRESSED_SENTINEL" Bundle.listD A s' s'.heap := by rw [hhp]; exact vx_Zq.moved hW0.alike (hN.kept hS.2.1)
  have h : ∀ w ∈ Bundle.ownAtoms own ic cls names, w.before args s' = true := vx_own hat' (vx_isRefq hU'.1) (vx_isRefq hN'.1) hU'.2.word hN'.2.word
  have hown' : s'.vm.findClass own = some m.cls := by rw [hvm]; exact hown
  have hins : (Cond.instantiable cls 6).before args s' = true := h _ (by simp [Bundle.ownAtoms])
  obtain ⟨vm₁, cX, kX, hfX, hkX, -, -, X₁, st1⟩ := Y.newCold hexec (own := own) (C := cls) (index := ik) (n := 6) hown' hk' hins hini'
    (g := F0 m pc ls rest) rfl (by rw [hb]; exact d0) (Nat.le_refl _) (Nat.le_refl _)
  generalize hT1 : (T.setVm vm₁).pushCell { cls := cX, slots := kX.instanceTypes.map defaultValue, vm := .none } = T1 at X₁ st1
  have hcat : (Value.ref T.heap.size).category = 1 := rfl
  have hcellA : T1.heap[T.heap.size]? = some (freshCell cX kX) := by rw [← hT1]; exact State.heap_pushCell_size _ _
  have d3' : decode c.code (pc + 3) = .ok (.dup, 1) := by rw [hb]; exact d3
  have d4' : decode c.code (pc + 4) = .ok (.ldc_w is, 3) := by rw [hb]; exact d4
  have hstr' : vk_R own is text sa s' := vk_R.warm hW0 hstr
  obtain ⟨U, hsteps, hrun, hend, hW, hsame, ce, hce, hO⟩ := X₁.ctorThrowS hexec htr (own := own) (cls := cls) (names := names) (ic := ic) hown' hcls hnames h (fun x hx => nomatch hx) hfX hkX hcellA (by rw [hhp, hT]; exact Nat.le_refl _) (msg := .ref sa) rfl
    (g := { method := m, pc := pc + 7, locals := ls, stack := .ref sa :: .ref T.heap.size :: .ref T.heap.size :: rest, locked := none }) rfl hsize rfl rfl (rest := rest) rfl
    (by rw [hb]; exact d7) (by rw [hb]; exact d10) hout hRframes (by simp only [List.map_cons, List.sum_cons, hcat]; omega) hlocks
  obtain ⟨f1, f2⟩ := vx_frame hsame
  rw [hhp] at f1 f2
  have hWs : s.WarmedH U.vm := State.WarmedH.trans hW0 hW
  have hcl : s.vm.findClass cls = some ce.cls := by
    have h9 := hO.cls
    rw [hvm] at h9
    exact h9
  have hall : s.sameButNew ({ U with vm := s.vm } : State) locs mc ms := by
    subst hA
    obtain ⟨e1, e2⟩ := hsame
    rw [State.setFrames_setFrames] at e1
    have h2 : (T.setVm s.vm).sameButNew ({ U with vm := s.vm } : State) [] (0 + 1) (0 + 6) := ⟨e1, e2⟩
    have h3 := X.same.trans h2
    rw [List.append_nil] at h3
    exact h3.mono hc hs
  refine ⟨U, ?_, .threw T.heap.size, hrun, hend, Or.inr ⟨T.heap.size, rfl, cls, ce, locs, hx U hWs.alike f1 (fun q hq => f2 q hq (fun z hz => nomatch hz)), hce, hO.vm, hcl, hWs, hall, hf⟩⟩
  refine st1 _ ?_
  show Steps p.tables e below (T1.setTop { method := m, pc := pc + 3, locals := ls, stack := .ref T.heap.size :: rest, locked := none }) _
  jvm_step X₁.here [X₁.here.top, hexec, d3', Value.category]
  exact X₁.ldcStringW hexec (own := own) (text := text) (index := is) (a := sa) hown' hstr'.1 hstr'.2
    (g := { method := m, pc := pc + 4, locals := ls, stack := .ref T.heap.size :: .ref T.heap.size :: rest, locked := none }) rfl d4' _ hsteps
end Ends
section Bodies
variable {l : Launch}
theorem vx_ofW {y : MethodName} {ws ws' : List Cond} {rm : Room} {Pc : Array Value → State → Prop} {Qc : Array Value → State → Outcome → State → Prop} {XC : String → State → State → Prop} {mc ms : Nat} {free : Addr → Prop} {cc : ByteArray} {maxL : Nat} {ret : Option FieldType}
    (hy : plainName y.cls = true) (hw : ws = Cond.code y cc maxL ret :: ws')
    (body : ∀ p e s m args below meth c s₁, BodyLoose p l y (headSpec ws rm) cc maxL ret e s m args below meth c s₁ → c.maxLocals = maxL → (∀ x ∈ c.exceptionTable.toList, False) → Pc args s →
      W p l e (headSpec ws rm).room s m args below meth c s.heap [] 0 0 (vx_MQ below Qc XC args s mc ms free) (entryFrame m args maxL)) : vx_Met l y ws rm Pc Qc XC mc ms free := by
  refine MetFree.of_bodyS (code := cc) (maxLocals := maxL) (ret := ret) hy ?_ ?_
  · intro args s m h hn
    obtain ⟨meth, c, h1, h2, h3, h4, h5, h6, -, -⟩ := Cond.code_spec hn (atoms_spec (ws := ws) h _ (by rw [hw]; exact List.mem_cons_self))
    exact ⟨meth, c, h1, h2, h3, h4, h5, h6⟩
  · intro p e s m args below meth c s₁ B hml hP _
    have hh0 : s₁.heap = s.heap := by rw [B.state]; rfl
    have ht : ∀ x ∈ c.exceptionTable.toList, False := by
      obtain ⟨meth9, c9, h1, h2, -, -, -, -, h7, -⟩ := Cond.code_spec B.named (atoms_spec (ws := ws) B.pre _ (by rw [hw]; exact List.mem_cons_self))
      cases Option.some.inj (h1.symm.trans B.method)
      cases Option.some.inj (h2.symm.trans (Stand.of_body B).code)
      intro x hx
      rw [Array.isEmpty_iff.mp h7] at hx
      cases hx
    obtain ⟨t, a1, o, b1, b2, b3⟩ := body p e s m args below meth c s₁ B hml ht hP s₁ hh0 (Stand.of_body B)
    exact ⟨t, o, a1, b1, b2, b3⟩
/-- the table of a body with handlers -/
theorem vx_table {p : Program} {x y : MethodName} {S : Spec} {cc bytes : ByteArray} {maxL maxL' : Nat} {ret ret' : Option FieldType} {e : Env} {s s₁ : State} {m : MethodId} {args : Array Value} {below : List Frame} {meth : Method} {c : Code} {hh : List (Nat × Nat × Nat × Nat)}
    (B : BodyLoose p l y S cc maxL ret e s m args below meth c s₁) (h : (Cond.codeWith y bytes maxL' ret' hh).before args s = true) : c.exceptionTable.toList = tableOf hh := by
  obtain ⟨m9, meth9, c9, hn9, h1, h2, -, -, h6, -⟩ := Cond.codeWith_spec h
  cases Option.some.inj (hn9.symm.trans B.named)
  cases Option.some.inj (h1.symm.trans B.method)
  cases Option.some.inj (h2.symm.trans (Stand.of_body B).code)
  rw [← h6, table_eq]
end Bodies
end VXA
/-! ===== END ===== -/
/-! ===== BEGIN a static call of a method with an exception table ===== -/
section VXS
variable {p : Program} {l : Launch} {e : Env} {R : Room} {s : State} {m : MethodId} {args : Array Value} {below : List Frame} {meth : Method} {c : Code} {T : State} {H : Heap} {locs : List Loc} {cells slots : Nat}
abbrev vx_CSW (R : Room) (s : State) (args : Array Value) (own : String) (index : Nat) (y : MethodName) (bytes : ByteArray) (maxL : Nat) (ret : Option FieldType) (hh : List (Nat × Nat × Nat × Nat)) (ws : List Cond) (rm : Room) (mc ms n : Nat) : Prop :=
  (rm.cells = mc ∧ rm.slots = ms ∧ rm.frames + 1 ≤ R.frames ∧ 8 + (maxL + 11) + rm.locals ≤ R.locals ∧ (∀ w ∈ ws, ∀ (a' : Array Value) (U : State), s.WarmedH U.vm → w.before a' U = true) ∧ Cond.codeWith y bytes maxL ret hh ∈ ws) ∧
  (Cond.codeWith y bytes maxL ret hh).before args s = true ∧ (Cond.initialized y.cls).before args s = true ∧ (y.cls ≠ "java/lang/invoke/MethodHandle" ∧ y.cls ≠ "java/lang/invoke/VarHandle") ∧
  (∀ sig, parseMethodDescriptor y.desc = some sig → n = sig.parameters.length) ∧ (Cond.methodLink own index y).before args s = true ∧ (Cond.static y).before args s = true
theorem vx_cwSW {own : String} {index maxL mc ms : Nat} {y : MethodName} {bytes : ByteArray} {ret : Option FieldType} {hh : List (Nat × Nat × Nat × Nat)} {Ts ws ws' : List Cond} {rm : Room} (n : Nat) (ht : ∀ w ∈ Ts, w.before args s = true) (hT : GoodIn Ts (va_wsS own index y ws)) (hw : ws = Cond.codeWith y bytes maxL ret hh :: ws') (hrc : rm.cells = mc) (hrs : rm.slots = ms)
    (hd : y.cls ≠ "java/lang/invoke/MethodHandle" ∧ y.cls ≠ "java/lang/invoke/VarHandle" ∧ (parseMethodDescriptor y.desc).map (fun d => d.parameters.length) = some n) (hR : rm.frames + 1 ≤ R.frames ∧ 8 + (maxL + 11) + rm.locals ≤ R.locals) :
    vx_CSW R s args own index y bytes maxL ret hh ws rm mc ms n := by
  have ok : ∀ w ∈ va_wsS own index y ws, w.before args s = true := fun w h => ht w (hT w h).1
  have hG : GoodIn Ts ws := fun w h => hT w (by unfold va_wsS; exact List.mem_append_right _ h)
  have hc : Cond.codeWith y bytes maxL ret hh ∈ ws := by rw [hw]; exact List.mem_cons_self
  refine ⟨⟨hrc, hrs, hR.1, hR.2, pay_in ht hG, hc⟩, ht _ (hG _ hc).1, ok _ (by simp [va_wsS]), ⟨hd.1, hd.2.1⟩, fun sig h => ?_, ok _ (by simp [va_wsS]), ok _ (by simp [va_wsS])⟩
  have h2 := hd.2.2
  rw [h] at h2
  exact (Option.some.inj h2).symm
theorem vx_callSW (X : Stand p l e R s m args below meth c T locs cells slots) (hexec : p.tables.exec = Jvm.exec) {own : String} {index : Nat} {y : MethodName} {bytes : ByteArray} {maxL : Nat} {ret : Option FieldType} {hh : List (Nat × Nat × Nat × Nat)}
    (hown : s.vm.findClass own = some m.cls) (hlink : (Cond.methodLink own index y).before args s = true) (hstat : (Cond.static y).before args s = true) (hinit : (Cond.initialized y.cls).before args s = true)
    (hcode : (Cond.codeWith y bytes maxL ret hh).before args s = true) (hy : y.cls ≠ "java/lang/invoke/MethodHandle" ∧ y.cls ≠ "java/lang/invoke/VarHandle")
    {W9 : Nat} {Pre : Pt → Array Value → Prop} {Post : Pt → Array Value → Option Value → Pt → Prop} (hK : Back l R p e below s args y 3 W9 Pre Post)
    {g : JFrame} (hg : g.method = m) (hsize : g.locals.size = c.maxLocals) {argsL rest : List Value} (hlen : ∀ sig, parseMethodDescriptor y.desc = some sig → argsL.length = sig.parameters.length)
    (hstack : g.stack = argsL.reverse ++ rest) (hW : 2 * g.monitorRoom + (rest.map fun v => v.category).sum ≤ W9) (hdg : decode c.code g.pc = .ok (.invokestatic index, 3))
    (hpre : ∀ vm₁, s.WarmedH vm₁ → Pre ⟨T.setVm vm₁, locs, cells, slots⟩ argsL.toArray) :
    ∃ (v : Option Value) (vm₁ : Vm) (B : Pt), s.WarmedH vm₁ ∧ Stand p l e R s m args below meth c B.U B.locs B.cells B.slots ∧ Post ⟨T.setVm vm₁, locs, cells, slots⟩ argsL.toArray v B ∧
      ∀ target, Steps p.tables e below (B.U.setTop { g with pc := g.pc + 3, stack := v.toList ++ rest }) target → Steps p.tables e below (T.setTop g) target := by
  obtain ⟨mk, methM, cM, hnamed, hmethM, -, -, -, -, -, -, hsigM⟩ := Cond.codeWith_spec hcode
  have hstatic : methM.isStatic = true := Cond.static_spec hnamed hmethM hstat
  obtain ⟨kP, hkP, -⟩ := className_of_methodNamed hnamed
  have hinitP : kP.init = .initialized := Cond.initialized_spec (findClass_of_methodNamed hnamed) hkP hinit
  obtain ⟨vm₁, X₁, hstep₁⟩ := X.invokestatic hexec hown hlink hnamed hmethM hstatic hkP hinitP hy (g := g) hg (argsL := argsL) (rest := rest) (hlen _ hsigM) hstack hdg
  obtain ⟨v, B, X', hpost, hsteps⟩ := hK m meth c ⟨T.setVm vm₁, locs, cells, slots⟩ { g with stack := rest } (.invokestatic index) mk argsL.toArray X₁ hg hsize hdg hW (X₁.named hnamed) (hpre vm₁ X₁.warmed)
  exact ⟨v, vm₁, B, X₁.warmed, X', hpost, fun target h => hstep₁ _ fun acts => by rw [doInvoke_state]; exact hsteps.trans h⟩
theorem vx_runSW {y : MethodName} {bytes cc : ByteArray} {maxL nL mc ms n index : Nat} {ret : Option FieldType} {hh : List (Nat × Nat × Nat × Nat)} {ws : List Cond} {rm : Room} {Pc : Array Value → State → Prop} {Qc : Array Value → State → Outcome → State → Prop} {free : Addr → Prop} {Ts : List Cond} {own : String} {As rest : List Value} {g : JFrame}
    (S : CallFix p m c cc nL s args Ts own) (hM : Met l y ws rm Pc Qc mc ms free) (cw : vx_CSW R s args own index y bytes maxL ret hh ws rm mc ms n) (hp : PreS s H Pc As)
    (hg : g.method = m) (hn : As.length = n) (hsize : g.locals.size = nL) (hstack : g.stack = As.reverse ++ rest) (hW : 2 * g.monitorRoom + (rest.map fun v => v.category).sum ≤ 8) (hdg : decode cc g.pc = .ok (.invokestatic index, 3)) (hf : cells + mc ≤ R.cells ∧ slots + ms ≤ R.slots) :
    va_Run p l e R s m args below meth c H locs cells slots mc ms g rest (Qc As.toArray) (free) := by
  obtain ⟨⟨hrc, hrs, hfr, hlo, hws, hcw⟩, hcode, hini, hy, hlen, hl, hstt⟩ := cw
  have hK : Back l R p e below s args y 3 8 (PreOf R mc ms Pc) (PostOf Qc mc ms free) := va_backW (hh := hh) (bytes := bytes) (maxL := maxL) (ret := ret) hM hp.1 hrc hrs hfr hlo hws hcw (fun a' U hW => word_at hW (Or.inl (by first | rfl | simp [Cond.onTables, Cond.keeps, Cond.steady])) hini)
  obtain ⟨hx, hb, hml, ho, -⟩ := S
  intro T hT X
  obtain ⟨v, vm₁, ⟨U', l2, c2, s2⟩, hW₁, X', ⟨g', mk, t, L, e1, e2, hq, h1, hL, h2, h3⟩, st⟩ := vx_callSW X hx (hh := hh) (bytes := bytes) (maxL := maxL) (ret := ret) ho hl hstt hini hcode hy hK hg (hsize.trans hml.symm) (argsL := As) (rest := rest) (fun sig h => hn.trans (hlen sig h)) hstack hW (by rw [hb]; exact hdg)
    (fun vm₁ hW₁ => ⟨hf.1, hf.2, hp.2 (T.setVm vm₁) hT hW₁⟩)
  dsimp only [Pt.U, Pt.locs, Pt.cells, Pt.slots] at X' e1 e2 h1 h2 h3 st
  subst h1; subst h2; subst h3
  exact ⟨v, (T.setVm vm₁).calling g' mk As.toArray, t, U', L, hT, X', hL, e1, e2, hq, st⟩
/-- a thing of a world lies in the heap -/
theorem vx_lt {D : va_G} {cl : List vw_C} {ws : va_W} {H1 : Heap} (h : va_P D cl ws H1) {k : Nat} {q : Nat × va_E} (hk : ws[k]? = some q) : q.1 < H1.size := (h k q hk).lt
end VXS
/-! ===== END ===== -/
/-! ===== BEGIN methods with a table of their own: called by a name, returning or throwing ===== -/
section VXH
/-! vx_backW, vx_callVX, vx_callSX, vx_callVW, vx_runVW, vx_runVX, vx_runSX, vx_ofWH follow the same proofs as their sisters above (Free/Laws.lean, Shelf42/LK1.lean); vx_outP calls Shelf42/NT130.lean (outThrough). -/
section
variable {l : Launch} {R : Room} {p : Program} {e : Env} {below : List Frame} {s : State} {sargs : Array Value} {y : MethodName} {len W9 : Nat}
theorem vx_backW {ws : List Cond} {rm : Room} {Pc : Array Value → State → Prop} {Qc : Array Value → State → Outcome → State → Prop} {XC : String → State → State → Prop} {mc ms : Nat} {free : Addr → Prop} {bytes : ByteArray} {maxL : Nat} {ret : Option FieldType} {hh : List (Nat × Nat × Nat × Nat)}
    (hM : vx_Met l y ws rm Pc Qc XC mc ms free) (hblind : FrameBlind Pc) (hrc : rm.cells = mc) (hrs : rm.slots = ms)
    (hframes : rm.frames + 1 ≤ R.frames) (hlocals : W9 + (maxL + 11) + rm.locals ≤ R.locals)
    (hws : ∀ w ∈ ws, ∀ a' U, s.WarmedH U.vm → w.before a' U = true) (hcode : Cond.codeWith y bytes maxL ret hh ∈ ws) (hinit : ∀ a' U, s.WarmedH U.vm → (Cond.initialized y.cls).before a' U = true) :
    vx_Back l R p e below s sargs y len W9 (PreOf R mc ms Pc) (PostOf Qc mc ms free) (vx_Post XC mc ms free) := by
  intro m meth c A g ig mk a X hg hsize hdg hW hn hp
  have h1 : (headSpec ws rm).pre.before a A.U = true := atoms_intro fun w hw => hws w hw _ _ X.warmed
  have h2 : (Cond.codeWith y bytes maxL ret hh).before a A.U = true := hws _ hcode _ _ X.warmed
  have h3 : (Cond.initialized y.cls).before a A.U = true := hinit _ _ X.warmed
  have h4 : A.cells + (headSpec ws rm).room.cells ≤ R.cells := by rw [show (headSpec ws rm).room.cells = mc from hrc]; exact hp.1
  have h5 : A.slots + (headSpec ws rm).room.slots ≤ R.slots := by rw [show (headSpec ws rm).room.slots = ms from hrs]; exact hp.2.1
  have hPc : Pc a (A.U.calling g mk a) := hblind _ _ _ _ hp.2.2
  obtain ⟨U, Ls, c0, s0⟩ := A
  dsimp only [Pt.U, Pt.locs, Pt.cells, Pt.slots] at h1 h2 h3 h4 h5 X hn hPc ⊢
  obtain ⟨m9, methY, cY, hn9, hmY, hcY, -, hlY, -⟩ := Cond.codeWith_spec h2
  cases Option.some.inj (hn9.symm.trans hn)
  obtain ⟨kY, hkY, -⟩ := className_of_methodNamed hn
  have hinitY : kY.init = .initialized := Cond.initialized_spec (findClass_of_methodNamed hn) hkY h3
  have h : At U g.method c below := by rw [hg]; exact X.here
  have hlocals9 : W9 + (maxL + 11) + (headSpec ws rm).room.locals ≤ R.locals := hlocals
  have happ : (headSpec ws rm).appliesLoose y e.platform (U.calling g mk a) = true :=
    Spec.appliesLoose_calling (g := g) h hdg hn hkY hinitY
      (X.room_calling (g := g) (R' := (headSpec ws rm).room) hsize hmY hcY hframes (by rw [hlY]; omega) h4 h5) h1
  obtain ⟨mid, hmid⟩ := h.above
  have hfr : (U.setTop g).frames = (.java g :: mid) ++ below := by rw [State.frames_setTop' g h.top, hmid]; rfl
  obtain ⟨o, s₂, hsteps, -, hend, hq⟩ := Steps.callFree hM p X.admits X.cas X.clock (acts := []) hfr happ hPc trivial
  have hq' : vx_Q Qc XC mc ms free a (U.calling g mk a) o s₂ := hq
  rw [State.frames_setTop' g h.top] at hend
  obtain ⟨g₀, hg0⟩ := Option.isSome_iff_exists.mp h.top
  obtain ⟨r, hr⟩ := State.topJava?_eq_some.mp hg0
  have hr' : (({ U with heap := s₂.heap, slotsUsed := s₂.slotsUsed } : State).setVm s₂.vm).frames = .java g₀ :: r := hr
  rcases hq' with ⟨hqc, L, hfe, hL⟩ | ⟨q, rfl, E, ce, L, hx, hce, hcv, hcl, hW₂, hsm, hL⟩
  · obtain ⟨⟨v, rfl⟩, hW₂, e2, q2, q3, q4, q5, q6⟩ := id hfe
    have e3 : s₂ = ({ (U.calling g mk a).setFrames s₂.frames with heap := s₂.heap, slotsUsed := s₂.slotsUsed } : State).setVm s₂.vm := by
      have : s₂ = ({ s₂ with vm := (U.calling g mk a).vm } : State).setVm s₂.vm := rfl
      rw [e2] at this
      exact this
    obtain ⟨c₂, i₂, len₂, hc₂, hd₂, hf₂⟩ := hend
    have hW' : U.WarmedH s₂.vm := hW₂
    have hcc : c₂ = c := by
      have h1 : s₂.code? g.method = U.code? g.method := by
        rw [State.code?_eq, State.code?_eq, hW'.alike.method?]
      exact Option.some.inj (hc₂.symm.trans (h1.trans h.code))
    subst hcc
    have hlen : len₂ = len := by rw [hdg] at hd₂; cases hd₂; rfl
    subst hlen
    have hs₂ : s₂ = (({ U with heap := s₂.heap, slotsUsed := s₂.slotsUsed } : State).setVm s₂.vm).setTop { g with pc := g.pc + len₂, stack := v.toList ++ g.stack } := by
      refine e3.trans ?_
      rw [hf₂, State.calling_eq h.top, State.setFrames_setFrames, State.setTop_of_frames _ hr', hr]
      rfl
    have hsame : U.sameButNew ({ U with heap := s₂.heap, slotsUsed := s₂.slotsUsed } : State) L mc ms := by
      refine ⟨?_, q2, q3, q4, q5, q6⟩
      obtain ⟨t, ht, -⟩ := State.frames_cons hr
      show ({ U with heap := s₂.heap, slotsUsed := s₂.slotsUsed } : State) = { U.setFrames U.frames with heap := s₂.heap, slotsUsed := s₂.slotsUsed }
      rw [State.setFrames_self ht]
    subst hg
    refine Or.inl ⟨v, ⟨(({ U with heap := s₂.heap, slotsUsed := s₂.slotsUsed } : State).setVm s₂.vm), Ls ++ L, c0 + mc, s0 + ms⟩,
      ⟨X.admits, X.cas, X.clock, X.frames, X.room, X.hears, X.method, X.code, (X.here.setHeapUsed s₂.heap s₂.slotsUsed).setVm hW'.alike, X.tail, State.WarmedH.trans X.warmed hW', X.limits, X.bytes, X.same.trans (hsame.setVm s.vm)⟩,
      ⟨g, mk, s₂, L, rfl, rfl, hqc, rfl, hL, rfl, rfl⟩, ?_⟩
    show Steps p.tables e below _ ((({ U with heap := s₂.heap, slotsUsed := s₂.slotsUsed } : State).setVm s₂.vm).setTop { g with pc := g.pc + len₂, stack := v.toList ++ g.stack })
    rw [← hs₂]
    exact hsteps
  · obtain ⟨e2, q2, q3, q4, q5, q6⟩ := id hsm
    have e3 : s₂ = ({ (U.calling g mk a).setFrames s₂.frames with heap := s₂.heap, slotsUsed := s₂.slotsUsed } : State).setVm s₂.vm := by
      have : s₂ = ({ s₂ with vm := (U.calling g mk a).vm } : State).setVm s₂.vm := rfl
      rw [e2] at this
      exact this
    have hf₂ : s₂.frames = .throwing q :: .java g :: U.frames.tail := hend
    have hW' : U.WarmedH s₂.vm := hW₂
    have hs₂ : s₂ = ((({ U with heap := s₂.heap, slotsUsed := s₂.slotsUsed } : State).setVm s₂.vm).setTop g).pushFrame (.throwing q) := by
      refine e3.trans ?_
      rw [hf₂, State.calling_eq h.top, State.setFrames_setFrames, State.pushFrame, State.frames_setTop _ hr', State.setTop_of_frames _ hr', State.setFrames_setFrames, hr]
      rfl
    have hsame : U.sameButNew ({ U with heap := s₂.heap, slotsUsed := s₂.slotsUsed } : State) L mc ms := by
      refine ⟨?_, q2, q3, q4, q5, q6⟩
      obtain ⟨t, ht, -⟩ := State.frames_cons hr
      show ({ U with heap := s₂.heap, slotsUsed := s₂.slotsUsed } : State) = { U.setFrames U.frames with heap := s₂.heap, slotsUsed := s₂.slotsUsed }
      rw [State.setFrames_self ht]
    subst hg
    refine Or.inr ⟨q, ⟨(({ U with heap := s₂.heap, slotsUsed := s₂.slotsUsed } : State).setVm s₂.vm), Ls ++ L, c0 + mc, s0 + ms⟩,
      ⟨X.admits, X.cas, X.clock, X.frames, X.room, X.hears, X.method, X.code, (X.here.setHeapUsed s₂.heap s₂.slotsUsed).setVm hW'.alike, X.tail, State.WarmedH.trans X.warmed hW', X.limits, X.bytes, X.same.trans (hsame.setVm s.vm)⟩,
      ⟨g, mk, s₂, L, E, ce, rfl, rfl, hx, hce, hcv, hcl, rfl, hL, rfl, rfl⟩, ?_⟩
    show Steps p.tables e below _ (((({ U with heap := s₂.heap, slotsUsed := s₂.slotsUsed } : State).setVm s₂.vm).setTop g).pushFrame (.throwing q))
    rw [← hs₂]
    exact hsteps
end
variable {p : Program} {l : Launch} {e : Env} {R : Room} {s : State} {m : MethodId} {args : Array Value} {below : List Frame} {meth : Method} {c : Code} {T : State} {H : Heap} {locs : List Loc} {cells slots : Nat}
theorem vx_callVX (X : Stand p l e R s m args below meth c T locs cells slots) (hexec : p.tables.exec = Jvm.exec) {own C : String} {index : Nat} {y : MethodName} {bytes : ByteArray} {maxL : Nat} {ret : Option FieldType} {hh : List (Nat × Nat × Nat × Nat)}
    (hown : s.vm.findClass own = some m.cls) (hlink : (Cond.methodLink own index y).before args s = true) (hinst : (Cond.instanceMethod y).before args s = true) (hsel : (Cond.selects C y y).before args s = true)
    (hcode : (Cond.codeWith y bytes maxL ret hh).before args s = true) (hy : y.cls ≠ "java/lang/invoke/MethodHandle" ∧ y.cls ≠ "java/lang/invoke/VarHandle")
    {W9 : Nat} {Pre : Pt → Array Value → Prop} {Post : Pt → Array Value → Option Value → Pt → Prop} {PostX : Pt → Array Value → Addr → Pt → Prop} (hK : vx_Back l R p e below s args y 3 W9 Pre Post PostX)
    {b : Addr} {cellB : Cell} (hcell : T.heap[b]? = some cellB) (hobj : cellB.vm.isStatics = false) (hcls : s.vm.findClass C = some cellB.cls)
    {g : JFrame} (hg : g.method = m) (hsize : g.locals.size = c.maxLocals) {argsL rest : List Value} (hlen : ∀ sig, parseMethodDescriptor y.desc = some sig → argsL.length = sig.parameters.length)
    (hstack : g.stack = argsL.reverse ++ .ref b :: rest) (hW : 2 * g.monitorRoom + (rest.map fun v => v.category).sum ≤ W9) (hdg : decode c.code g.pc = .ok (.invokevirtual index, 3))
    (hpre : ∀ vm₁, s.WarmedH vm₁ → Pre ⟨T.setVm vm₁, locs, cells, slots⟩ (Value.ref b :: argsL).toArray) :
    (∃ (v : Option Value) (vm₁ : Vm) (B : Pt), s.WarmedH vm₁ ∧ Stand p l e R s m args below meth c B.U B.locs B.cells B.slots ∧ Post ⟨T.setVm vm₁, locs, cells, slots⟩ (Value.ref b :: argsL).toArray v B ∧
      ∀ target, Steps p.tables e below (B.U.setTop { g with pc := g.pc + 3, stack := v.toList ++ rest }) target → Steps p.tables e below (T.setTop g) target) ∨
    (∃ (q : Addr) (vm₁ : Vm) (B : Pt), s.WarmedH vm₁ ∧ Stand p l e R s m args below meth c B.U B.locs B.cells B.slots ∧ PostX ⟨T.setVm vm₁, locs, cells, slots⟩ (Value.ref b :: argsL).toArray q B ∧
      Steps p.tables e below (T.setTop g) ((B.U.setTop { g with stack := rest }).pushFrame (.throwing q))) := by
  obtain ⟨mk, methM, hnamed, hmethM, hstM, habM⟩ := Cond.instanceMethod_spec hinst
  obtain ⟨m8, methM', cM, hn8, hmethM', -, -, -, -, -, -, hsigM⟩ := Cond.codeWith_spec hcode
  cases Option.some.inj (hn8.symm.trans hnamed)
  cases hmethM.symm.trans hmethM'
  obtain ⟨c2, r2, m2, q1, q2, q3, q4, kP, hkP, hkPi⟩ := Cond.selects_spec hsel
  cases hcls.symm.trans q1
  cases (State.methodFound?_of_named hnamed hy).symm.trans q2
  cases hnamed.symm.trans q3
  have hselP : selectMethod e.platform s.vm cellB.cls mk = .method mk := by rw [Launch.admits_selectMethod X.admits]; exact q4
  obtain ⟨vm₁, X₁, hstep₁⟩ := X.invokevirtual hexec hown hlink hnamed hmethM hstM hkP hkPi hy (a := b) (cell := cellB) hcell
    (fun z h => by rw [h] at hobj; cases hobj) hselP hmethM habM hkP hkPi (g := g) hg (argsL := argsL) (rest := rest) (hlen _ hsigM) hstack hdg
  rcases hK m meth c ⟨T.setVm vm₁, locs, cells, slots⟩ { g with stack := rest } (.invokevirtual index) mk (Value.ref b :: argsL).toArray X₁ hg hsize hdg hW (X₁.named hnamed) (hpre vm₁ X₁.warmed) with ⟨v, B, X', hpost, hsteps⟩ | ⟨q, B, X', hpost, hsteps⟩
  · exact Or.inl ⟨v, vm₁, B, X₁.warmed, X', hpost, fun target h => hstep₁ _ fun acts => by rw [doInvoke_state]; exact hsteps.trans h⟩
  · exact Or.inr ⟨q, vm₁, B, X₁.warmed, X', hpost, hstep₁ _ fun acts => by rw [doInvoke_state]; exact hsteps⟩
theorem vx_callSX (X : Stand p l e R s m args below meth c T locs cells slots) (hexec : p.tables.exec = Jvm.exec) {own : String} {index : Nat} {y : MethodName} {bytes : ByteArray} {maxL : Nat} {ret : Option FieldType} {hh : List (Nat × Nat × Nat × Nat)}
    (hown : s.vm.findClass own = some m.cls) (hlink : (Cond.methodLink own index y).before args s = true) (hstat : (Cond.static y).before args s = true) (hinit : (Cond.initialized y.cls).before args s = true)
    (hcode : (Cond.codeWith y bytes maxL ret hh).before args s = true) (hy : y.cls ≠ "java/lang/invoke/MethodHandle" ∧ y.cls ≠ "java/lang/invoke/VarHandle")
    {W9 : Nat} {Pre : Pt → Array Value → Prop} {Post : Pt → Array Value → Option Value → Pt → Prop} {PostX : Pt → Array Value → Addr → Pt → Prop} (hK : vx_Back l R p e below s args y 3 W9 Pre Post PostX)
    {g : JFrame} (hg : g.method = m) (hsize : g.locals.size = c.maxLocals) {argsL rest : List Value} (hlen : ∀ sig, parseMethodDescriptor y.desc = some sig → argsL.length = sig.parameters.length)
    (hstack : g.stack = argsL.reverse ++ rest) (hW : 2 * g.monitorRoom + (rest.map fun v => v.category).sum ≤ W9) (hdg : decode c.code g.pc = .ok (.invokestatic index, 3))
    (hpre : ∀ vm₁, s.WarmedH vm₁ → Pre ⟨T.setVm vm₁, locs, cells, slots⟩ argsL.toArray) :
    (∃ (v : Option Value) (vm₁ : Vm) (B : Pt), s.WarmedH vm₁ ∧ Stand p l e R s m args below meth c B.U B.locs B.cells B.slots ∧ Post ⟨T.setVm vm₁, locs, cells, slots⟩ argsL.toArray v B ∧
      ∀ target, Steps p.tables e below (B.U.setTop { g with pc := g.pc + 3, stack := v.toList ++ rest }) target → Steps p.tables e below (T.setTop g) target) ∨
    (∃ (q : Addr) (vm₁ : Vm) (B : Pt), s.WarmedH vm₁ ∧ Stand p l e R s m args below meth c B.U B.locs B.cells B.slots ∧ PostX ⟨T.setVm vm₁, locs, cells, slots⟩ argsL.toArray q B ∧
      Steps p.tables e below (T.setTop g) ((B.U.setTop { g with stack := rest }).pushFrame (.throwing q))) := by
  obtain ⟨mk, methM, cM, hnamed, hmethM, -, -, -, -, -, -, hsigM⟩ := Cond.codeWith_spec hcode
  have hstatic : methM.isStatic = true := Cond.static_spec hnamed hmethM hstat
  obtain ⟨kP, hkP, -⟩ := className_of_methodNamed hnamed
  have hinitP : kP.init = .initialized := Cond.initialized_spec (findClass_of_methodNamed hnamed) hkP hinit
  obtain ⟨vm₁, X₁, hstep₁⟩ := X.invokestatic hexec hown hlink hnamed hmethM hstatic hkP hinitP hy (g := g) hg (argsL := argsL) (rest := rest) (hlen _ hsigM) hstack hdg
  rcases hK m meth c ⟨T.setVm vm₁, locs, cells, slots⟩ { g with stack := rest } (.invokestatic index) mk argsL.toArray X₁ hg hsize hdg hW (X₁.named hnamed) (hpre vm₁ X₁.warmed) with ⟨v, B, X', hpost, hsteps⟩ | ⟨q, B, X', hpost, hsteps⟩
  · exact Or.inl ⟨v, vm₁, B, X₁.warmed, X', hpost, fun target h => hstep₁ _ fun acts => by rw [doInvoke_state]; exact hsteps.trans h⟩
  · exact Or.inr ⟨q, vm₁, B, X₁.warmed, X', hpost, hstep₁ _ fun acts => by rw [doInvoke_state]; exact hsteps⟩
theorem vx_callVW (X : Stand p l e R s m args below meth c T locs cells slots) (hexec : p.tables.exec = Jvm.exec) {own C : String} {index : Nat} {y : MethodName} {bytes : ByteArray} {maxL : Nat} {ret : Option FieldType} {hh : List (Nat × Nat × Nat × Nat)}
    (hown : s.vm.findClass own = some m.cls) (hlink : (Cond.methodLink own index y).before args s = true) (hinst : (Cond.instanceMethod y).before args s = true) (hsel : (Cond.selects C y y).before args s = true)
    (hcode : (Cond.codeWith y bytes maxL ret hh).before args s = true) (hy : y.cls ≠ "java/lang/invoke/MethodHandle" ∧ y.cls ≠ "java/lang/invoke/VarHandle")
    {W9 : Nat} {Pre : Pt → Array Value → Prop} {Post : Pt → Array Value → Option Value → Pt → Prop} (hK : Back l R p e below s args y 3 W9 Pre Post)
    {b : Addr} {cellB : Cell} (hcell : T.heap[b]? = some cellB) (hobj : cellB.vm.isStatics = false) (hcls : s.vm.findClass C = some cellB.cls)
    {g : JFrame} (hg : g.method = m) (hsize : g.locals.size = c.maxLocals) {argsL rest : List Value} (hlen : ∀ sig, parseMethodDescriptor y.desc = some sig → argsL.length = sig.parameters.length)
    (hstack : g.stack = argsL.reverse ++ .ref b :: rest) (hW : 2 * g.monitorRoom + (rest.map fun v => v.category).sum ≤ W9) (hdg : decode c.code g.pc = .ok (.invokevirtual index, 3))
    (hpre : ∀ vm₁, s.WarmedH vm₁ → Pre ⟨T.setVm vm₁, locs, cells, slots⟩ (Value.ref b :: argsL).toArray) :
    ∃ (v : Option Value) (vm₁ : Vm) (B : Pt), s.WarmedH vm₁ ∧ Stand p l e R s m args below meth c B.U B.locs B.cells B.slots ∧ Post ⟨T.setVm vm₁, locs, cells, slots⟩ (Value.ref b :: argsL).toArray v B ∧
      ∀ target, Steps p.tables e below (B.U.setTop { g with pc := g.pc + 3, stack := v.toList ++ rest }) target → Steps p.tables e below (T.setTop g) target := by
  obtain ⟨mk, methM, hnamed, hmethM, hstM, habM⟩ := Cond.instanceMethod_spec hinst
  obtain ⟨m8, methM', cM, hn8, hmethM', -, -, -, -, -, -, hsigM⟩ := Cond.codeWith_spec hcode
  cases Option.some.inj (hn8.symm.trans hnamed)
  cases hmethM.symm.trans hmethM'
  obtain ⟨c2, r2, m2, q1, q2, q3, q4, kP, hkP, hkPi⟩ := Cond.selects_spec hsel
  cases hcls.symm.trans q1
  cases (State.methodFound?_of_named hnamed hy).symm.trans q2
  cases hnamed.symm.trans q3
  have hselP : selectMethod e.platform s.vm cellB.cls mk = .method mk := by rw [Launch.admits_selectMethod X.admits]; exact q4
  obtain ⟨vm₁, X₁, hstep₁⟩ := X.invokevirtual hexec hown hlink hnamed hmethM hstM hkP hkPi hy (a := b) (cell := cellB) hcell
    (fun z h => by rw [h] at hobj; cases hobj) hselP hmethM habM hkP hkPi (g := g) hg (argsL := argsL) (rest := rest) (hlen _ hsigM) hstack hdg
  obtain ⟨v, B, X', hpost, hsteps⟩ := hK m meth c ⟨T.setVm vm₁, locs, cells, slots⟩ { g with stack := rest } (.invokevirtual index) mk (Value.ref b :: argsL).toArray X₁ hg hsize hdg hW (X₁.named hnamed) (hpre vm₁ X₁.warmed)
  exact ⟨v, vm₁, B, X₁.warmed, X', hpost, fun target h => hstep₁ _ fun acts => by rw [doInvoke_state]; exact hsteps.trans h⟩
abbrev vx_CVW (R : Room) (s : State) (args : Array Value) (own C : String) (index : Nat) (y : MethodName) (bytes : ByteArray) (maxL : Nat) (ret : Option FieldType) (hh : List (Nat × Nat × Nat × Nat)) (ws : List Cond) (rm : Room) (mc ms n : Nat) : Prop :=
  (rm.cells = mc ∧ rm.slots = ms ∧ rm.frames + 1 ≤ R.frames ∧ 8 + (maxL + 11) + rm.locals ≤ R.locals ∧ (∀ w ∈ ws, ∀ (a' : Array Value) (U : State), s.WarmedH U.vm → w.before a' U = true) ∧ Cond.codeWith y bytes maxL ret hh ∈ ws) ∧
  (Cond.codeWith y bytes maxL ret hh).before args s = true ∧ (Cond.initialized y.cls).before args s = true ∧ (y.cls ≠ "java/lang/invoke/MethodHandle" ∧ y.cls ≠ "java/lang/invoke/VarHandle") ∧
  (∀ sig, parseMethodDescriptor y.desc = some sig → n = sig.parameters.length) ∧ (Cond.methodLink own index y).before args s = true ∧ (Cond.instanceMethod y).before args s = true ∧ (Cond.selects C y y).before args s = true
theorem vx_cwVW {own C : String} {index maxL mc ms : Nat} {y : MethodName} {bytes : ByteArray} {ret : Option FieldType} {hh : List (Nat × Nat × Nat × Nat)} {Ts ws ws' : List Cond} {rm : Room} (n : Nat) (ht : ∀ w ∈ Ts, w.before args s = true) (hT : GoodIn Ts (wsV own index C y ws)) (hw : ws = Cond.codeWith y bytes maxL ret hh :: ws') (hrc : rm.cells = mc) (hrs : rm.slots = ms)
    (hd : y.cls = C ∧ y.cls ≠ "java/lang/invoke/MethodHandle" ∧ y.cls ≠ "java/lang/invoke/VarHandle" ∧ (parseMethodDescriptor y.desc).map (fun d => d.parameters.length) = some n) (hR : rm.frames + 1 ≤ R.frames ∧ 8 + (maxL + 11) + rm.locals ≤ R.locals) :
    vx_CVW R s args own C index y bytes maxL ret hh ws rm mc ms n := by
  obtain ⟨hC, hd⟩ := hd
  subst hC
  have ok : ∀ w ∈ wsV own index y.cls y ws, w.before args s = true := fun w h => ht w (hT w h).1
  have hG : GoodIn Ts ws := fun w h => hT w (by unfold wsV; exact List.mem_append_right _ h)
  have hc : Cond.codeWith y bytes maxL ret hh ∈ ws := by rw [hw]; exact List.mem_cons_self
  refine ⟨⟨hrc, hrs, hR.1, hR.2, pay_in ht hG, hc⟩, ht _ (hG _ hc).1, ok _ (by simp [wsV]), ⟨hd.1, hd.2.1⟩, fun sig h => ?_, ok _ (by simp [wsV]), ok _ (by simp [wsV]), ok _ (by simp [wsV])⟩
  have h2 := hd.2.2
  rw [h] at h2
  exact (Option.some.inj h2).symm
theorem vx_runVW {y : MethodName} {bytes cc : ByteArray} {maxL nL mc ms n index : Nat} {ret : Option FieldType} {hh : List (Nat × Nat × Nat × Nat)} {ws : List Cond} {rm : Room} {Pc : Array Value → State → Prop} {Qc : Array Value → State → Outcome → State → Prop} {free : Addr → Prop} {Ts : List Cond} {own C : String} {b : Addr} {As rest : List Value} {g : JFrame}
    (S : CallFix p m c cc nL s args Ts own) (hM : Met l y ws rm Pc Qc mc ms free) (cw : vx_CVW R s args own C index y bytes maxL ret hh ws rm mc ms n) (hp : PreV s H C b Pc As)
    (hg : g.method = m) (hn : As.length = n) (hsize : g.locals.size = nL) (hstack : g.stack = As.reverse ++ .ref b :: rest) (hW : 2 * g.monitorRoom + (rest.map fun v => v.category).sum ≤ 8) (hdg : decode cc g.pc = .ok (.invokevirtual index, 3)) (hf : cells + mc ≤ R.cells ∧ slots + ms ≤ R.slots) :
    va_Run p l e R s m args below meth c H locs cells slots mc ms g rest (Qc (Value.ref b :: As).toArray) free := by
  obtain ⟨⟨hrc, hrs, hfr, hlo, hws, hcw⟩, hcode, hini, hy, hlen, hl, hin, hse⟩ := cw
  have hK : Back l R p e below s args y 3 8 (PreOf R mc ms Pc) (PostOf Qc mc ms free) := va_backW (hh := hh) (bytes := bytes) (maxL := maxL) (ret := ret) hM hp.1 hrc hrs hfr hlo hws hcw (fun a' U hW => word_at hW (Or.inl (by first | rfl | simp [Cond.onTables, Cond.keeps, Cond.steady])) hini)
  obtain ⟨hx, hb, hml, ho, -⟩ := S
  obtain ⟨-, ⟨cellB, hcB, hoB, hclB⟩, hPc⟩ := hp
  intro T hT X
  obtain ⟨v, vm₁, ⟨U', l2, c2, s2⟩, hW₁, X', ⟨g', mk, t, L, e1, e2, hq, h1, hL, h2, h3⟩, st⟩ := vx_callVW X hx (C := C) (hh := hh) (bytes := bytes) (maxL := maxL) (ret := ret) ho hl hin hse hcode hy hK (by rw [hT]; exact hcB) hoB hclB hg (hsize.trans hml.symm) (argsL := As) (rest := rest) (fun sig h => hn.trans (hlen sig h)) hstack hW (by rw [hb]; exact hdg)
    (fun vm₁ hW₁ => ⟨hf.1, hf.2, hPc (T.setVm vm₁) hT hW₁⟩)
  dsimp only [Pt.U, Pt.locs, Pt.cells, Pt.slots] at X' e1 e2 h1 h2 h3 st
  subst h1; subst h2; subst h3
  exact ⟨v, (T.setVm vm₁).calling g' mk (Value.ref b :: As).toArray, t, U', L, hT, X', hL, e1, e2, hq, st⟩
section
variable {y : MethodName} {bytes cc : ByteArray} {maxL nL mc ms n index : Nat} {ret : Option FieldType} {ws : List Cond} {rm : Room} {Pc : Array Value → State → Prop} {Qc : Array Value → State → Outcome → State → Prop} {XC : String → State → State → Prop} {free : Addr → Prop} {Ts : List Cond} {own C : String} {b : Addr} {As rest : List Value} {g : JFrame}
theorem vx_runVX {hh : List (Nat × Nat × Nat × Nat)} (S : CallFix p m c cc nL s args Ts own) (hM : vx_Met l y ws rm Pc Qc XC mc ms free) (cw : vx_CVW R s args own C index y bytes maxL ret hh ws rm mc ms n) (hp : PreV s H C b Pc As)
    (hg : g.method = m) (hn : As.length = n) (hsize : g.locals.size = nL) (hstack : g.stack = As.reverse ++ .ref b :: rest) (hW : 2 * g.monitorRoom + (rest.map fun v => v.category).sum ≤ 8) (hdg : decode cc g.pc = .ok (.invokevirtual index, 3)) (hf : cells + mc ≤ R.cells ∧ slots + ms ≤ R.slots) :
    vx_Run p l e R s m args below meth c H locs cells slots mc ms g rest (Qc (Value.ref b :: As).toArray) XC free := by
  obtain ⟨⟨hrc, hrs, hfr, hlo, hws, hcw⟩, hcode, hini, hy, hlen, hl, hin, hse⟩ := cw
  have hK : vx_Back l R p e below s args y 3 8 (PreOf R mc ms Pc) (PostOf Qc mc ms free) (vx_Post XC mc ms free) := vx_backW (hh := hh) (bytes := bytes) (maxL := maxL) (ret := ret) hM hp.1 hrc hrs hfr hlo hws hcw (fun a' U hW => word_at hW (Or.inl (by first | rfl | simp [Cond.onTables, Cond.keeps, Cond.steady])) hini)
  obtain ⟨hx, hb, hml, ho, -⟩ := S
  obtain ⟨-, ⟨cellB, hcB, hoB, hclB⟩, hPc⟩ := hp
  intro T hT X
  rcases vx_callVX X hx (C := C) (hh := hh) (bytes := bytes) (maxL := maxL) (ret := ret) ho hl hin hse hcode hy hK (by rw [hT]; exact hcB) hoB hclB hg (hsize.trans hml.symm) (argsL := As) (rest := rest) (fun sig h => hn.trans (hlen sig h)) hstack hW (by rw [hb]; exact hdg)
    (fun vm₁ hW₁ => ⟨hf.1, hf.2, hPc (T.setVm vm₁) hT hW₁⟩) with ⟨v, vm₁, ⟨U', l2, c2, s2⟩, hW₁, X', ⟨g', mk, t, L, e1, e2, hq, h1, hL, h2, h3⟩, st⟩ | ⟨q, vm₁, ⟨U', l2, c2, s2⟩, hW₁, X', ⟨g', mk, t, L, E, ce, e1, e2, hq, hce, hcv, hcl, h1, hL, h2, h3⟩, st⟩
  · dsimp only [Pt.U, Pt.locs, Pt.cells, Pt.slots] at X' e1 e2 h1 h2 h3 st
    subst h1; subst h2; subst h3
    exact Or.inl ⟨v, (T.setVm vm₁).calling g' mk (Value.ref b :: As).toArray, t, U', L, hT, X', hL, e1, e2, hq, st⟩
  · dsimp only [Pt.U, Pt.locs, Pt.cells, Pt.slots] at X' e1 e2 h1 h2 h3 st hcl
    subst h1; subst h2; subst h3
    exact Or.inr ⟨q, (T.setVm vm₁).calling g' mk (Value.ref b :: As).toArray, t, U', L, E, ce, hT, X', hL, e1, e2, hq, hce, hcv, vx_cls hW₁ hcl, st⟩
theorem vx_runSX {hh : List (Nat × Nat × Nat × Nat)} (S : CallFix p m c cc nL s args Ts own) (hM : vx_Met l y ws rm Pc Qc XC mc ms free) (cw : vx_CSW R s args own index y bytes maxL ret hh ws rm mc ms n) (hp : PreS s H Pc As)
    (hg : g.method = m) (hn : As.length = n) (hsize : g.locals.size = nL) (hstack : g.stack = As.reverse ++ rest) (hW : 2 * g.monitorRoom + (rest.map fun v => v.category).sum ≤ 8) (hdg : decode cc g.pc = .ok (.invokestatic index, 3)) (hf : cells + mc ≤ R.cells ∧ slots + ms ≤ R.slots) :
    vx_Run p l e R s m args below meth c H locs cells slots mc ms g rest (Qc As.toArray) XC free := by
  obtain ⟨⟨hrc, hrs, hfr, hlo, hws, hcw⟩, hcode, hini, hy, hlen, hl, hstt⟩ := cw
  have hK : vx_Back l R p e below s args y 3 8 (PreOf R mc ms Pc) (PostOf Qc mc ms free) (vx_Post XC mc ms free) := vx_backW (hh := hh) (bytes := bytes) (maxL := maxL) (ret := ret) hM hp.1 hrc hrs hfr hlo hws hcw (fun a' U hW => word_at hW (Or.inl (by first | rfl | simp [Cond.onTables, Cond.keeps, Cond.steady])) hini)
  obtain ⟨hx, hb, hml, ho, -⟩ := S
  intro T hT X
  rcases vx_callSX X hx (hh := hh) (bytes := bytes) (maxL := maxL) (ret := ret) ho hl hstt hini hcode hy hK hg (hsize.trans hml.symm) (argsL := As) (rest := rest) (fun sig h => hn.trans (hlen sig h)) hstack hW (by rw [hb]; exact hdg)
    (fun vm₁ hW₁ => ⟨hf.1, hf.2, hp.2 (T.setVm vm₁) hT hW₁⟩) with ⟨v, vm₁, ⟨U', l2, c2, s2⟩, hW₁, X', ⟨g', mk, t, L, e1, e2, hq, h1, hL, h2, h3⟩, st⟩ | ⟨q, vm₁, ⟨U', l2, c2, s2⟩, hW₁, X', ⟨g', mk, t, L, E, ce, e1, e2, hq, hce, hcv, hcl, h1, hL, h2, h3⟩, st⟩
  · dsimp only [Pt.U, Pt.locs, Pt.cells, Pt.slots] at X' e1 e2 h1 h2 h3 st
    subst h1; subst h2; subst h3
    exact Or.inl ⟨v, (T.setVm vm₁).calling g' mk As.toArray, t, U', L, hT, X', hL, e1, e2, hq, st⟩
  · dsimp only [Pt.U, Pt.locs, Pt.cells, Pt.slots] at X' e1 e2 h1 h2 h3 st hcl
    subst h1; subst h2; subst h3
    exact Or.inr ⟨q, (T.setVm vm₁).calling g' mk As.toArray, t, U', L, E, ce, hT, X', hL, e1, e2, hq, hce, hcv, vx_cls hW₁ hcl, st⟩
end
end VXH
theorem vx_ofWH {l : Launch} {y : MethodName} {ws ws' : List Cond} {rm : Room} {Pc : Array Value → State → Prop} {Qc : Array Value → State → Outcome → State → Prop} {XC : String → State → State → Prop} {mc ms : Nat} {free : Addr → Prop} {cc : ByteArray} {maxL : Nat} {ret : Option FieldType} {hh : List (Nat × Nat × Nat × Nat)}
    (hy : plainName y.cls = true) (hw : ws = Cond.codeWith y cc maxL ret hh :: ws')
    (body : ∀ p e s m args below meth c s₁, BodyLoose p l y (headSpec ws rm) cc maxL ret e s m args below meth c s₁ → c.maxLocals = maxL → Pc args s →
      W p l e (headSpec ws rm).room s m args below meth c s.heap [] 0 0 (vx_MQ below Qc XC args s mc ms free) (entryFrame m args maxL)) : vx_Met l y ws rm Pc Qc XC mc ms free := by
  refine MetFree.of_bodyS (code := cc) (maxLocals := maxL) (ret := ret) hy ?_ ?_
  · intro args s m h hn
    obtain ⟨m9, meth, c, hn9, h1, h2, h3, h4, -, h5, h6, -⟩ := Cond.codeWith_spec (atoms_spec (ws := ws) h _ (by rw [hw]; exact List.mem_cons_self))
    cases hn.symm.trans hn9
    exact ⟨meth, c, h1, h2, h3, h4, h5, h6⟩
  · intro p e s m args below meth c s₁ B hml hP _
    have hh0 : s₁.heap = s.heap := by rw [B.state]; rfl
    obtain ⟨t, a1, o, b1, b2, b3⟩ := body p e s m args below meth c s₁ B hml hP s₁ hh0 (Stand.of_body B)
    exact ⟨t, o, a1, b1, b2, b3⟩
/-! ===== END ===== -/
end
section
/-! ===== BEGIN printed: names, fields, word lists, decode rows ===== -/
def RX0 : String := "SeedMakers$Aim"
def TX0 : u_T := fun k => match k with
  | 0 => ("SeedMakers$Aim", "easy", "I", false)
  | 1 => ("SeedMakers$Aim", "least", "I", false)
  | _ => ("SeedMakers$Aim", "most", "I", false)
def tyX0 : Nat → FieldType := fun k => match k with
  | 0 => .int
  | 1 => .int
  | _ => .int
abbrev wsX00 : List Cond := u_ws RX0 TX0 3
theorem nmX0 : ∀ a, a < 3 → ∀ b, b < 3 → a ≠ b → (TX0 a).2.1 ≠ (TX0 b).2.1 := by decide +kernel
theorem tyX0_ok : ∀ k, k < 3 → parseFieldDescriptor (TX0 k).2.2.1 = some (tyX0 k) := by decide +kernel
abbrev cX0_init : ByteArray := prog_2_method_1_code
def yX0_init : MethodName := ⟨RX0, "<init>", "()V"⟩
abbrev cX0_set : ByteArray := prog_2_method_2_code
def yX0_set : MethodName := ⟨RX0, "set", "(III)V"⟩
abbrev cX0_isMet : ByteArray := prog_2_method_3_code
def yX0_isMet : MethodName := ⟨RX0, "isMet", "(IZ)Z"⟩
def RX1 : String := "SeedMakers$Board"
def TX1 : u_T := fun k => match k with
  | 0 => ("SeedMakers$Board", "grid", "LSeedMakers$Grid;", true)
  | 1 => ("SeedMakers$Board", "symbols", "[I", true)
  | 2 => ("SeedMakers$Board", "inRow", "[I", true)
  | 3 => ("SeedMakers$Board", "inColumn", "[I", true)
  | _ => ("SeedMakers$Board", "inBox", "[I", true)
def tyX1 : Nat → FieldType := fun k => match k with
  | 0 => .object "SeedMakers$Grid"
  | 1 => .array .int
  | 2 => .array .int
  | 3 => .array .int
  | _ => .array .int
abbrev wsX10 : List Cond := u_ws RX1 TX1 5
theorem nmX1 : ∀ a, a < 5 → ∀ b, b < 5 → a ≠ b → (TX1 a).2.1 ≠ (TX1 b).2.1 := by decide +kernel
theorem tyX1_ok : ∀ k, k < 5 → parseFieldDescriptor (TX1 k).2.2.1 = some (tyX1 k) := by decide +kernel
abbrev cX1_init : ByteArray := prog_3_method_1_code
def yX1_init : MethodName := ⟨RX1, "<init>", "(LSeedMakers$Grid;)V"⟩
abbrev cX1_clear : ByteArray := prog_3_method_2_code
def yX1_clear : MethodName := ⟨RX1, "clear", "()V"⟩
abbrev cX1_putAll : ByteArray := prog_3_method_3_code
def yX1_putAll : MethodName := ⟨RX1, "putAll", "([I)V"⟩
abbrev cX1_isEmpty : ByteArray := prog_3_method_4_code
def yX1_isEmpty : MethodName := ⟨RX1, "isEmpty", "(I)Z"⟩
abbrev cX1_may : ByteArray := prog_3_method_5_code
def yX1_may : MethodName := ⟨RX1, "may", "(I)I"⟩
abbrev cX1_put : ByteArray := prog_3_method_6_code
def yX1_put : MethodName := ⟨RX1, "put", "(II)V"⟩
abbrev cX1_takeOut : ByteArray := prog_3_method_7_code
def yX1_takeOut : MethodName := ⟨RX1, "takeOut", "(I)V"⟩
abbrev cX1_flip : ByteArray := prog_3_method_8_code
def yX1_flip : MethodName := ⟨RX1, "flip", "(II)V"⟩
def RX2 : String := "SeedMakers$Chance"
def TX2 : u_T := fun k => match k with
  | _ => ("SeedMakers$Chance", "state", "J", false)
def tyX2 : Nat → FieldType := fun k => match k with
  | _ => .long
abbrev wsX20 : List Cond := u_ws RX2 TX2 1
theorem nmX2 : ∀ a, a < 1 → ∀ b, b < 1 → a ≠ b → (TX2 a).2.1 ≠ (TX2 b).2.1 := by decide +kernel
theorem tyX2_ok : ∀ k, k < 1 → parseFieldDescriptor (TX2 k).2.2.1 = some (tyX2 k) := by decide +kernel
abbrev cX2_init : ByteArray := prog_4_method_1_code
def yX2_init : MethodName := ⟨RX2, "<init>", "()V"⟩
abbrev cX2_startAt : ByteArray := prog_4_method_2_code
def yX2_startAt : MethodName := ⟨RX2, "startAt", "(J)V"⟩
abbrev cX2_below : ByteArray := prog_4_method_3_code
def yX2_below : MethodName := ⟨RX2, "below", "(I)I"⟩
abbrev cX2_upperBits : ByteArray := prog_4_method_4_code
def yX2_upperBits : MethodName := ⟨RX2, "upperBits", "()I"⟩
def RX3 : String := "SeedMakers$Drawer"
def TX3 : u_T := fun k => match k with
  | 0 => ("SeedMakers$Drawer", "grid", "LSeedMakers$Grid;", true)
  | 1 => ("SeedMakers$Drawer", "chance", "LSeedMakers$Chance;", true)
  | _ => ("SeedMakers$Drawer", "board", "LSeedMakers$Board;", true)
def tyX3 : Nat → FieldType := fun k => match k with
  | 0 => .object "SeedMakers$Grid"
  | 1 => .object "SeedMakers$Chance"
  | _ => .object "SeedMakers$Board"
abbrev wsX30 : List Cond := u_ws RX3 TX3 3
theorem nmX3 : ∀ a, a < 3 → ∀ b, b < 3 → a ≠ b → (TX3 a).2.1 ≠ (TX3 b).2.1 := by decide +kernel
theorem tyX3_ok : ∀ k, k < 3 → parseFieldDescriptor (TX3 k).2.2.1 = some (tyX3 k) := by decide +kernel
abbrev cX3_init : ByteArray := prog_5_method_1_code
def yX3_init : MethodName := ⟨RX3, "<init>", "(LSeedMakers$Grid;LSeedMakers$Chance;)V"⟩
abbrev cX3_fill : ByteArray := prog_5_method_2_code
def yX3_fill : MethodName := ⟨RX3, "fill", "()Z"⟩
abbrev cX3_tightest : ByteArray := prog_5_method_3_code
def yX3_tightest : MethodName := ⟨RX3, "tightest", "()I"⟩
abbrev cX3_symbolAt : ByteArray := prog_5_method_4_code
def yX3_symbolAt : MethodName := ⟨RX3, "symbolAt", "(II)I"⟩
def RX4 : String := "SeedMakers$Grid"
def TX4 : u_T := fun k => match k with
  | 0 => ("SeedMakers$Grid", "side", "I", true)
  | 1 => ("SeedMakers$Grid", "cells", "I", true)
  | 2 => ("SeedMakers$Grid", "allSymbols", "I", true)
  | 3 => ("SeedMakers$Grid", "row", "[I", true)
  | 4 => ("SeedMakers$Grid", "column", "[I", true)
  | 5 => ("SeedMakers$Grid", "box", "[I", true)
  | _ => ("SeedMakers$Grid", "units", "[[I", true)
def tyX4 : Nat → FieldType := fun k => match k with
  | 0 => .int
  | 1 => .int
  | 2 => .int
  | 3 => .array .int
  | 4 => .array .int
  | 5 => .array .int
  | _ => .array (.array .int)
abbrev wsX40 : List Cond := u_ws RX4 TX4 7
theorem nmX4 : ∀ a, a < 7 → ∀ b, b < 7 → a ≠ b → (TX4 a).2.1 ≠ (TX4 b).2.1 := by decide +kernel
theorem tyX4_ok : ∀ k, k < 7 → parseFieldDescriptor (TX4 k).2.2.1 = some (tyX4 k) := by decide +kernel
abbrev cX4_init : ByteArray := prog_6_method_1_code
def yX4_init : MethodName := ⟨RX4, "<init>", "(I)V"⟩
abbrev cX4_has : ByteArray := prog_6_method_2_code
def yX4_has : MethodName := ⟨RX4, "has", "(I)Z"⟩
def RX5 : String := "SeedMakers$Maker"
def TX5 : u_T := fun k => match k with
  | 0 => ("SeedMakers$Maker", "grid", "LSeedMakers$Grid;", true)
  | 1 => ("SeedMakers$Maker", "sets", "LSeedMakers$Sets;", true)
  | 2 => ("SeedMakers$Maker", "themes", "[I", true)
  | 3 => ("SeedMakers$Maker", "aimed", "LSeedMakers$Aim;", true)
  | 4 => ("SeedMakers$Maker", "drawer", "LSeedMakers$Drawer;", true)
  | 5 => ("SeedMakers$Maker", "singles", "LSeedMakers$Singles;", true)
  | 6 => ("SeedMakers$Maker", "solver", "LSeedMakers$Solver;", true)
  | 7 => ("SeedMakers$Maker", "chance", "LSeedMakers$Chance;", true)
  | 8 => ("SeedMakers$Maker", "whole", "[I", true)
  | 9 => ("SeedMakers$Maker", "givens", "[I", true)
  | 10 => ("SeedMakers$Maker", "marked", "[Z", true)
  | 11 => ("SeedMakers$Maker", "row", "[I", true)
  | 12 => ("SeedMakers$Maker", "without", "[I", true)
  | 13 => ("SeedMakers$Maker", "made", "Z", false)
  | 14 => ("SeedMakers$Maker", "triesMade", "I", false)
  | 15 => ("SeedMakers$Maker", "restarts", "I", false)
  | 16 => ("SeedMakers$Maker", "takenOut", "I", false)
  | 17 => ("SeedMakers$Maker", "putBack", "I", false)
  | 18 => ("SeedMakers$Maker", "givenCells", "I", false)
  | _ => ("SeedMakers$Maker", "unknownCells", "I", false)
def tyX5 : Nat → FieldType := fun k => match k with
  | 0 => .object "SeedMakers$Grid"
  | 1 => .object "SeedMakers$Sets"
  | 2 => .array .int
  | 3 => .object "SeedMakers$Aim"
  | 4 => .object "SeedMakers$Drawer"
  | 5 => .object "SeedMakers$Singles"
  | 6 => .object "SeedMakers$Solver"
  | 7 => .object "SeedMakers$Chance"
  | 8 => .array .int
  | 9 => .array .int
  | 10 => .array .boolean
  | 11 => .array .int
  | 12 => .array .int
  | 13 => .boolean
  | 14 => .int
  | 15 => .int
  | 16 => .int
  | 17 => .int
  | 18 => .int
  | _ => .int
abbrev wsX50 : List Cond := u_ws RX5 TX5 20
theorem nmX5 : ∀ a, a < 20 → ∀ b, b < 20 → a ≠ b → (TX5 a).2.1 ≠ (TX5 b).2.1 := by decide +kernel
theorem tyX5_ok : ∀ k, k < 20 → parseFieldDescriptor (TX5 k).2.2.1 = some (tyX5 k) := by decide +kernel
abbrev cX5_init : ByteArray := prog_7_method_1_code
def yX5_init : MethodName := ⟨RX5, "<init>", "(LSeedMakers$Grid;LSeedMakers$Sets;[ILSeedMakers$Aim;)V"⟩
abbrev cX5_startAt : ByteArray := prog_7_method_2_code
def yX5_startAt : MethodName := ⟨RX5, "startAt", "(J)V"⟩
abbrev cX5_tryOnce : ByteArray := prog_7_method_3_code
def yX5_tryOnce : MethodName := ⟨RX5, "tryOnce", "()Z"⟩
abbrev cX5_drawWhole : ByteArray := prog_7_method_4_code
def yX5_drawWhole : MethodName := ⟨RX5, "drawWhole", "()Z"⟩
abbrev cX5_takeOutEmptySets : ByteArray := prog_7_method_5_code
def yX5_takeOutEmptySets : MethodName := ⟨RX5, "takeOutEmptySets", "()Z"⟩
abbrev cX5_markSetsWith : ByteArray := prog_7_method_6_code
def yX5_markSetsWith : MethodName := ⟨RX5, "markSetsWith", "(I)V"⟩
abbrev cX5_layRow : ByteArray := prog_7_method_7_code
def yX5_layRow : MethodName := ⟨RX5, "layRow", "()I"⟩
abbrev cX5_mixRow : ByteArray := prog_7_method_8_code
def yX5_mixRow : MethodName := ⟨RX5, "mixRow", "(I)V"⟩
abbrev cX5_needsSet : ByteArray := prog_7_method_9_code
def yX5_needsSet : MethodName := ⟨RX5, "needsSet", "(I)Z"⟩
abbrev cX5_countGivens : ByteArray := prog_7_method_10_code
def yX5_countGivens : MethodName := ⟨RX5, "countGivens", "()I"⟩
def RX6 : String := "SeedMakers$Sets"
def TX6 : u_T := fun k => match k with
  | 0 => ("SeedMakers$Sets", "grid", "LSeedMakers$Grid;", true)
  | _ => ("SeedMakers$Sets", "leastOf", "[I", true)
def tyX6 : Nat → FieldType := fun k => match k with
  | 0 => .object "SeedMakers$Grid"
  | _ => .array .int
abbrev wsX60 : List Cond := u_ws RX6 TX6 2
theorem nmX6 : ∀ a, a < 2 → ∀ b, b < 2 → a ≠ b → (TX6 a).2.1 ≠ (TX6 b).2.1 := by decide +kernel
theorem tyX6_ok : ∀ k, k < 2 → parseFieldDescriptor (TX6 k).2.2.1 = some (tyX6 k) := by decide +kernel
abbrev cX6_init : ByteArray := prog_8_method_1_code
def yX6_init : MethodName := ⟨RX6, "<init>", "(LSeedMakers$Grid;)V"⟩
abbrev cX6_joinBy : ByteArray := prog_8_method_2_code
def yX6_joinBy : MethodName := ⟨RX6, "joinBy", "(I)V"⟩
abbrev cX6_moved : ByteArray := prog_8_method_3_code
def yX6_moved : MethodName := ⟨RX6, "moved", "(II)I"⟩
def RX7 : String := "SeedMakers$Singles"
def TX7 : u_T := fun k => match k with
  | 0 => ("SeedMakers$Singles", "grid", "LSeedMakers$Grid;", true)
  | _ => ("SeedMakers$Singles", "board", "LSeedMakers$Board;", true)
def tyX7 : Nat → FieldType := fun k => match k with
  | 0 => .object "SeedMakers$Grid"
  | _ => .object "SeedMakers$Board"
abbrev wsX70 : List Cond := u_ws RX7 TX7 2
theorem nmX7 : ∀ a, a < 2 → ∀ b, b < 2 → a ≠ b → (TX7 a).2.1 ≠ (TX7 b).2.1 := by decide +kernel
theorem tyX7_ok : ∀ k, k < 2 → parseFieldDescriptor (TX7 k).2.2.1 = some (tyX7 k) := by decide +kernel
abbrev cX7_init : ByteArray := prog_9_method_1_code
def yX7_init : MethodName := ⟨RX7, "<init>", "(LSeedMakers$Grid;)V"⟩
abbrev cX7_countUnknown : ByteArray := prog_9_method_2_code
def yX7_countUnknown : MethodName := ⟨RX7, "countUnknown", "([I)I"⟩
abbrev cX7_fillLoneSymbols : ByteArray := prog_9_method_3_code
def yX7_fillLoneSymbols : MethodName := ⟨RX7, "fillLoneSymbols", "()Z"⟩
abbrev cX7_fillLoneCells : ByteArray := prog_9_method_4_code
def yX7_fillLoneCells : MethodName := ⟨RX7, "fillLoneCells", "()Z"⟩
abbrev cX7_symbolsOfOneCell : ByteArray := prog_9_method_5_code
def yX7_symbolsOfOneCell : MethodName := ⟨RX7, "symbolsOfOneCell", "([I)I"⟩
abbrev cX7_fillFrom : ByteArray := prog_9_method_6_code
def yX7_fillFrom : MethodName := ⟨RX7, "fillFrom", "([II)Z"⟩
def RX8 : String := "SeedMakers$Solver"
def TX8 : u_T := fun k => match k with
  | 0 => ("SeedMakers$Solver", "board", "LSeedMakers$Board;", true)
  | 1 => ("SeedMakers$Solver", "open", "[I", true)
  | 2 => ("SeedMakers$Solver", "limit", "I", false)
  | _ => ("SeedMakers$Solver", "found", "I", false)
def tyX8 : Nat → FieldType := fun k => match k with
  | 0 => .object "SeedMakers$Board"
  | 1 => .array .int
  | 2 => .int
  | _ => .int
abbrev wsX80 : List Cond := u_ws RX8 TX8 4
theorem nmX8 : ∀ a, a < 4 → ∀ b, b < 4 → a ≠ b → (TX8 a).2.1 ≠ (TX8 b).2.1 := by decide +kernel
theorem tyX8_ok : ∀ k, k < 4 → parseFieldDescriptor (TX8 k).2.2.1 = some (tyX8 k) := by decide +kernel
abbrev cX8_init : ByteArray := prog_10_method_1_code
def yX8_init : MethodName := ⟨RX8, "<init>", "(LSeedMakers$Grid;)V"⟩
abbrev cX8_count : ByteArray := prog_10_method_2_code
def yX8_count : MethodName := ⟨RX8, "count", "([II)I"⟩
abbrev cX8_search : ByteArray := prog_10_method_3_code
def yX8_search : MethodName := ⟨RX8, "search", "(I)V"⟩
abbrev cX8_tightest : ByteArray := prog_10_method_4_code
def yX8_tightest : MethodName := ⟨RX8, "tightest", "(I)I"⟩
def RX9 : String := "SeedMakers$Typed"
def TX9 : u_T := fun k => match k with
  | 0 => ("SeedMakers$Typed", "grid", "LSeedMakers$Grid;", true)
  | 1 => ("SeedMakers$Typed", "board", "LSeedMakers$Board;", true)
  | 2 => ("SeedMakers$Typed", "bytes", "[I", true)
  | 3 => ("SeedMakers$Typed", "length", "I", false)
  | _ => ("SeedMakers$Typed", "symbols", "[I", true)
def tyX9 : Nat → FieldType := fun k => match k with
  | 0 => .object "SeedMakers$Grid"
  | 1 => .object "SeedMakers$Board"
  | 2 => .array .int
  | 3 => .int
  | _ => .array .int
abbrev wsX90 : List Cond := u_ws RX9 TX9 5
theorem nmX9 : ∀ a, a < 5 → ∀ b, b < 5 → a ≠ b → (TX9 a).2.1 ≠ (TX9 b).2.1 := by decide +kernel
theorem tyX9_ok : ∀ k, k < 5 → parseFieldDescriptor (TX9 k).2.2.1 = some (tyX9 k) := by decide +kernel
abbrev cX9_init : ByteArray := prog_11_method_1_code
def yX9_init : MethodName := ⟨RX9, "<init>", "(LSeedMakers$Grid;)V"⟩
abbrev cX9_byteOf : ByteArray := prog_11_method_2_code
def yX9_byteOf : MethodName := ⟨RX9, "byteOf", "(I)I"⟩
abbrev cX9_add : ByteArray := prog_11_method_3_code
def yX9_add : MethodName := ⟨RX9, "add", "(I)Z"⟩
abbrev cX9_read : ByteArray := prog_11_method_4_code
def yX9_read : MethodName := ⟨RX9, "read", "()I"⟩
abbrev cX9_readByte : ByteArray := prog_11_method_5_code
def yX9_readByte : MethodName := ⟨RX9, "readByte", "(II)Z"⟩
def RX10 : String := "SeedMakers"
def TX10 : u_T := fun k => match k with
  | 0 => ("SeedMakers", "grid", "LSeedMakers$Grid;", true)
  | 1 => ("SeedMakers", "sets", "LSeedMakers$Sets;", true)
  | 2 => ("SeedMakers", "themes", "[I", true)
  | 3 => ("SeedMakers", "aimed", "LSeedMakers$Aim;", true)
  | 4 => ("SeedMakers", "maker", "LSeedMakers$Maker;", true)
  | _ => ("SeedMakers", "typed", "LSeedMakers$Typed;", true)
def tyX10 : Nat → FieldType := fun k => match k with
  | 0 => .object "SeedMakers$Grid"
  | 1 => .object "SeedMakers$Sets"
  | 2 => .array .int
  | 3 => .object "SeedMakers$Aim"
  | 4 => .object "SeedMakers$Maker"
  | _ => .object "SeedMakers$Typed"
abbrev wsX100 : List Cond := u_ws RX10 TX10 6
theorem nmX10 : ∀ a, a < 6 → ∀ b, b < 6 → a ≠ b → (TX10 a).2.1 ≠ (TX10 b).2.1 := by decide +kernel
theorem tyX10_ok : ∀ k, k < 6 → parseFieldDescriptor (TX10 k).2.2.1 = some (tyX10 k) := by decide +kernel
abbrev cX10_init : ByteArray := prog_1_method_1_code
def yX10_init : MethodName := ⟨RX10, "<init>", "(I)V"⟩
abbrev cX10_symmetry : ByteArray := prog_1_method_2_code
def yX10_symmetry : MethodName := ⟨RX10, "symmetry", "(I)Z"⟩
abbrev cX10_theme : ByteArray := prog_1_method_3_code
def yX10_theme : MethodName := ⟨RX10, "theme", "(II)V"⟩
abbrev cX10_aim : ByteArray := prog_1_method_4_code
def yX10_aim : MethodName := ⟨RX10, "aim", "(III)V"⟩
abbrev cX10_make : ByteArray := prog_1_method_5_code
def yX10_make : MethodName := ⟨RX10, "make", "(JI)I"⟩
abbrev cX10_given : ByteArray := prog_1_method_6_code
def yX10_given : MethodName := ⟨RX10, "given", "(I)I"⟩
abbrev cX10_answer : ByteArray := prog_1_method_7_code
def yX10_answer : MethodName := ⟨RX10, "answer", "(I)I"⟩
abbrev cX10_told : ByteArray := prog_1_method_8_code
def yX10_told : MethodName := ⟨RX10, "told", "(I)I"⟩
abbrev cX10_left : ByteArray := prog_1_method_9_code
def yX10_left : MethodName := ⟨RX10, "left", "()I"⟩
abbrev cX10_needed : ByteArray := prog_1_method_10_code
def yX10_needed : MethodName := ⟨RX10, "needed", "(I)Z"⟩
abbrev cX10_answers : ByteArray := prog_1_method_11_code
def yX10_answers : MethodName := ⟨RX10, "answers", "()I"⟩
abbrev cX10_unit : ByteArray := prog_1_method_12_code
def yX10_unit : MethodName := ⟨RX10, "unit", "(I)Z"⟩
abbrev cX10_text : ByteArray := prog_1_method_13_code
def yX10_text : MethodName := ⟨RX10, "text", "(I)I"⟩
def RX11 : String := "SeedMakersModel"
def TX11 : u_T := fun k => match k with
  | 0 => ("SeedMakersModel", "thrown", "I", false)
  | 1 => ("SeedMakersModel", "n", "I", true)
  | 2 => ("SeedMakersModel", "wide", "I", true)
  | 3 => ("SeedMakersModel", "high", "I", true)
  | 4 => ("SeedMakersModel", "symmetry", "I", false)
  | 5 => ("SeedMakersModel", "themes", "[I", true)
  | 6 => ("SeedMakersModel", "easyAim", "I", false)
  | 7 => ("SeedMakersModel", "leastAim", "I", false)
  | 8 => ("SeedMakersModel", "mostAim", "I", false)
  | 9 => ("SeedMakersModel", "chance", "J", false)
  | 10 => ("SeedMakersModel", "tells", "[I", true)
  | 11 => ("SeedMakersModel", "isMade", "Z", false)
  | 12 => ("SeedMakersModel", "puzzle", "[I", true)
  | 13 => ("SeedMakersModel", "whole", "[I", true)
  | 14 => ("SeedMakersModel", "givens", "[I", true)
  | 15 => ("SeedMakersModel", "drawn", "[I", true)
  | 16 => ("SeedMakersModel", "tried", "[I", true)
  | 17 => ("SeedMakersModel", "known", "[I", true)
  | 18 => ("SeedMakersModel", "row", "[I", true)
  | 19 => ("SeedMakersModel", "rows", "I", false)
  | 20 => ("SeedMakersModel", "size", "I", false)
  | _ => ("SeedMakersModel", "text", "[I", true)
def tyX11 : Nat → FieldType := fun k => match k with
  | 0 => .int
  | 1 => .int
  | 2 => .int
  | 3 => .int
  | 4 => .int
  | 5 => .array .int
  | 6 => .int
  | 7 => .int
  | 8 => .int
  | 9 => .long
  | 10 => .array .int
  | 11 => .boolean
  | 12 => .array .int
  | 13 => .array .int
  | 14 => .array .int
  | 15 => .array .int
  | 16 => .array .int
  | 17 => .array .int
  | 18 => .array .int
  | 19 => .int
  | 20 => .int
  | _ => .array .int
abbrev wsX110 : List Cond := u_ws RX11 TX11 22
theorem nmX11 : ∀ a, a < 22 → ∀ b, b < 22 → a ≠ b → (TX11 a).2.1 ≠ (TX11 b).2.1 := by decide +kernel
theorem tyX11_ok : ∀ k, k < 22 → parseFieldDescriptor (TX11 k).2.2.1 = some (tyX11 k) := by decide +kernel
abbrev cX11_init : ByteArray := prog_13_method_1_code
def yX11_init : MethodName := ⟨RX11, "<init>", "(I)V"⟩
abbrev cX11_thrown : ByteArray := prog_13_method_2_code
def yX11_thrown : MethodName := ⟨RX11, "thrown", "()I"⟩
abbrev cX11_throwsIf : ByteArray := prog_13_method_3_code
def yX11_throwsIf : MethodName := ⟨RX11, "throwsIf", "(IZ)Z"⟩
abbrev cX11_cells : ByteArray := prog_13_method_4_code
def yX11_cells : MethodName := ⟨RX11, "cells", "()I"⟩
abbrev cX11_isCell : ByteArray := prog_13_method_5_code
def yX11_isCell : MethodName := ⟨RX11, "isCell", "(I)Z"⟩
abbrev cX11_sees : ByteArray := prog_13_method_6_code
def yX11_sees : MethodName := ⟨RX11, "sees", "(II)Z"⟩
abbrev cX11_symmetry : ByteArray := prog_13_method_7_code
def yX11_symmetry : MethodName := ⟨RX11, "symmetry", "(I)Z"⟩
abbrev cX11_theme : ByteArray := prog_13_method_8_code
def yX11_theme : MethodName := ⟨RX11, "theme", "(II)V"⟩
abbrev cX11_aim : ByteArray := prog_13_method_9_code
def yX11_aim : MethodName := ⟨RX11, "aim", "(III)V"⟩
abbrev cX11_turned : ByteArray := prog_13_method_10_code
def yX11_turned : MethodName := ⟨RX11, "turned", "(I)I"⟩
abbrev cX11_leastOf : ByteArray := prog_13_method_11_code
def yX11_leastOf : MethodName := ⟨RX11, "leastOf", "(I)I"⟩
abbrev cX11_hasTheme : ByteArray := prog_13_method_12_code
def yX11_hasTheme : MethodName := ⟨RX11, "hasTheme", "(II)Z"⟩
abbrev cX11_takeOut : ByteArray := prog_13_method_13_code
def yX11_takeOut : MethodName := ⟨RX11, "takeOut", "(I)V"⟩
abbrev cX11_putBack : ByteArray := prog_13_method_14_code
def yX11_putBack : MethodName := ⟨RX11, "putBack", "(I)V"⟩
abbrev cX11_fits : ByteArray := prog_13_method_15_code
def yX11_fits : MethodName := ⟨RX11, "fits", "(II)Z"⟩
abbrev cX11_countUpTo : ByteArray := prog_13_method_16_code
def yX11_countUpTo : MethodName := ⟨RX11, "countUpTo", "(I)I"⟩
abbrev cX11_may : ByteArray := prog_13_method_17_code
def yX11_may : MethodName := ⟨RX11, "may", "(II)Z"⟩
abbrev cX11_isTogether : ByteArray := prog_13_method_18_code
def yX11_isTogether : MethodName := ⟨RX11, "isTogether", "(III)Z"⟩
abbrev cX11_isSingle : ByteArray := prog_13_method_19_code
def yX11_isSingle : MethodName := ⟨RX11, "isSingle", "(II)Z"⟩
abbrev cX11_countLeft : ByteArray := prog_13_method_20_code
def yX11_countLeft : MethodName := ⟨RX11, "countLeft", "()I"⟩
abbrev cX11_below : ByteArray := prog_13_method_21_code
def yX11_below : MethodName := ⟨RX11, "below", "(I)I"⟩
abbrev cX11_mayDraw : ByteArray := prog_13_method_22_code
def yX11_mayDraw : MethodName := ⟨RX11, "mayDraw", "(II)Z"⟩
abbrev cX11_countDraw : ByteArray := prog_13_method_23_code
def yX11_countDraw : MethodName := ⟨RX11, "countDraw", "(I)I"⟩
abbrev cX11_empty : ByteArray := prog_13_method_24_code
def yX11_empty : MethodName := ⟨RX11, "empty", "()V"⟩
abbrev cX11_draw : ByteArray := prog_13_method_25_code
def yX11_draw : MethodName := ⟨RX11, "draw", "()Z"⟩
abbrev cX11_countGivens : ByteArray := prog_13_method_26_code
def yX11_countGivens : MethodName := ⟨RX11, "countGivens", "()I"⟩
abbrev cX11_isGood : ByteArray := prog_13_method_27_code
def yX11_isGood : MethodName := ⟨RX11, "isGood", "()Z"⟩
abbrev cX11_make : ByteArray := prog_13_method_28_code
def yX11_make : MethodName := ⟨RX11, "make", "(JI)I"⟩
abbrev cX11_take : ByteArray := prog_13_method_29_code
def yX11_take : MethodName := ⟨RX11, "take", "()V"⟩
abbrev cX11_given : ByteArray := prog_13_method_30_code
def yX11_given : MethodName := ⟨RX11, "given", "(I)I"⟩
abbrev cX11_answer : ByteArray := prog_13_method_31_code
def yX11_answer : MethodName := ⟨RX11, "answer", "(I)I"⟩
abbrev cX11_told : ByteArray := prog_13_method_32_code
def yX11_told : MethodName := ⟨RX11, "told", "(I)I"⟩
abbrev cX11_left : ByteArray := prog_13_method_33_code
def yX11_left : MethodName := ⟨RX11, "left", "()I"⟩
abbrev cX11_needed : ByteArray := prog_13_method_34_code
def yX11_needed : MethodName := ⟨RX11, "needed", "(I)Z"⟩
abbrev cX11_unit : ByteArray := prog_13_method_35_code
def yX11_unit : MethodName := ⟨RX11, "unit", "(I)Z"⟩
abbrev cX11_read : ByteArray := prog_13_method_36_code
def yX11_read : MethodName := ⟨RX11, "read", "()I"⟩
abbrev cX11_answers : ByteArray := prog_13_method_37_code
def yX11_answers : MethodName := ⟨RX11, "answers", "()I"⟩
abbrev cX11_text : ByteArray := prog_13_method_38_code
def yX11_text : MethodName := ⟨RX11, "text", "(I)I"⟩
def RJx00060 : String := "java/lang/ArrayIndexOutOfBoundsException"
def TJx00060 : u_T := fun k => match k with
  | 0 => ("java/lang/Throwable", "cause", "Ljava/lang/Throwable;", false)
  | 1 => ("java/lang/Throwable", "stackTrace", "[Ljava/lang/StackTraceElement;", false)
  | 2 => ("java/lang/Throwable", "suppressedExceptions", "Ljava/util/List;", false)
  | 3 => ("java/lang/Throwable", "detailMessage", "Ljava/lang/String;", false)
  | 4 => ("java/lang/Throwable", "backtrace", "Ljava/lang/Object;", false)
  | _ => ("java/lang/Throwable", "depth", "I", false)
def tyJx00060 : Nat → FieldType := fun k => match k with
  | 0 => .object "java/lang/Throwable"
  | 1 => .array (.object "java/lang/StackTraceElement")
  | 2 => .object "java/util/List"
  | 3 => .object "java/lang/String"
  | 4 => .object "java/lang/Object"
  | _ => .int
abbrev wsJx000600 : List Cond := u_ws RJx00060 TJx00060 6
theorem nmJx00060 : ∀ a, a < 6 → ∀ b, b < 6 → a ≠ b → (TJx00060 a).2.1 ≠ (TJx00060 b).2.1 := by decide +kernel
theorem tyJx00060_ok : ∀ k, k < 6 → parseFieldDescriptor (TJx00060 k).2.2.1 = some (tyJx00060 k) := by decide +kernel
abbrev cJx00060_init_a7421 : ByteArray := prog_14_method_2_code
def yJx00060_init_a7421 : MethodName := ⟨RJx00060, "<init>", "(Ljava/lang/String;)V"⟩
def RJ6 : String := "java/lang/Integer"
def TJ6 : u_T := fun k => match k with
  | _ => ("", "", "", false)
def tyJ6 : Nat → FieldType := fun k => match k with
  | _ => .int
abbrev wsJ60 : List Cond := u_ws RJ6 TJ6 0
theorem nmJ6 : ∀ a, a < 0 → ∀ b, b < 0 → a ≠ b → (TJ6 a).2.1 ≠ (TJ6 b).2.1 := by decide +kernel
theorem tyJ6_ok : ∀ k, k < 0 → parseFieldDescriptor (TJ6 k).2.2.1 = some (tyJ6 k) := by decide +kernel
abbrev cJ6_numberOfTrailingZeros_0f7a4 : ByteArray := prog_18_method_48_code
def yJ6_numberOfTrailingZeros_0f7a4 : MethodName := ⟨RJ6, "numberOfTrailingZeros", "(I)I"⟩
abbrev cJ6_bitCount_0f7a4 : ByteArray := prog_18_method_49_code
def yJ6_bitCount_0f7a4 : MethodName := ⟨RJ6, "bitCount", "(I)I"⟩
def RJ9 : String := "java/lang/Math"
def TJ9 : u_T := fun k => match k with
  | _ => ("", "", "", false)
def tyJ9 : Nat → FieldType := fun k => match k with
  | _ => .int
abbrev wsJ90 : List Cond := u_ws RJ9 TJ9 0
theorem nmJ9 : ∀ a, a < 0 → ∀ b, b < 0 → a ≠ b → (TJ9 a).2.1 ≠ (TJ9 b).2.1 := by decide +kernel
theorem tyJ9_ok : ∀ k, k < 0 → parseFieldDescriptor (TJ9 k).2.2.1 = some (tyJ9 k) := by decide +kernel
abbrev cJ9_min_7cf53 : ByteArray := prog_19_method_69_code
def yJ9_min_7cf53 : MethodName := ⟨RJ9, "min", "(II)I"⟩
def RJ0 : String := "java/lang/String"
def TJ0 : u_T := fun k => match k with
  | _ => ("", "", "", false)
def tyJ0 : Nat → FieldType := fun k => match k with
  | _ => .int
abbrev wsJ00 : List Cond := u_ws RJ0 TJ0 0
theorem nmJ0 : ∀ a, a < 0 → ∀ b, b < 0 → a ≠ b → (TJ0 a).2.1 ≠ (TJ0 b).2.1 := by decide +kernel
theorem tyJ0_ok : ∀ k, k < 0 → parseFieldDescriptor (TJ0 k).2.2.1 = some (tyJ0 k) := by decide +kernel
def RJ10 : String := "java/lang/System"
def TJ10 : u_T := fun k => match k with
  | _ => ("", "", "", false)
def tyJ10 : Nat → FieldType := fun k => match k with
  | _ => .int
abbrev wsJ100 : List Cond := u_ws RJ10 TJ10 0
theorem nmJ10 : ∀ a, a < 0 → ∀ b, b < 0 → a ≠ b → (TJ10 a).2.1 ≠ (TJ10 b).2.1 := by decide +kernel
theorem tyJ10_ok : ∀ k, k < 0 → parseFieldDescriptor (TJ10 k).2.2.1 = some (tyJ10 k) := by decide +kernel
def RL : String := "SeedMakersLaw"
abbrev cL_cell : ByteArray := method_2_code
def yL_cell : MethodName := ⟨RL, "cell", "([II)I"⟩
abbrev cL_theme : ByteArray := method_3_code
def yL_theme : MethodName := ⟨RL, "theme", "(LSeedMakers;II)I"⟩
abbrev cL_aim : ByteArray := method_4_code
def yL_aim : MethodName := ⟨RL, "aim", "(LSeedMakers;III)I"⟩
abbrev cL_given : ByteArray := method_5_code
def yL_given : MethodName := ⟨RL, "given", "(LSeedMakers;I[J)I"⟩
abbrev cL_answer : ByteArray := method_6_code
def yL_answer : MethodName := ⟨RL, "answer", "(LSeedMakers;I[J)I"⟩
abbrev cL_needed : ByteArray := method_7_code
def yL_needed : MethodName := ⟨RL, "needed", "(LSeedMakers;I[J)I"⟩
abbrev cL_law : ByteArray := code
def yL_law : MethodName := ⟨RL, "law", "([I)Z"⟩
def wsX0_init : List Cond := .code yX0_init cX0_init 1 none :: ([.methodLink RX0 1 objectInit, .instanceMethod objectInit, .code objectInit ⟨#[0xb1]⟩ 1 none, .fieldLink RX0 7 "SeedMakers$Aim" "easy" "I", .fieldLink RX0 13 "SeedMakers$Aim" "least" "I", .constant RX0 18 (2147483647), .fieldLink RX0 19 "SeedMakers$Aim" "most" "I"] ++ wsX00)
def wsX0_set : List Cond := .code yX0_set cX0_set 4 none :: ([.fieldLink RX0 7 "SeedMakers$Aim" "easy" "I", .fieldLink RX0 13 "SeedMakers$Aim" "least" "I", .fieldLink RX0 19 "SeedMakers$Aim" "most" "I"] ++ wsX00)
def wsX0_isMet : List Cond := .code yX0_isMet cX0_isMet 3 (some .boolean) :: ([.fieldLink RX0 13 "SeedMakers$Aim" "least" "I", .fieldLink RX0 19 "SeedMakers$Aim" "most" "I", .fieldLink RX0 7 "SeedMakers$Aim" "easy" "I"] ++ wsX00)
def wsX1_clear : List Cond := .code yX1_clear cX1_clear 2 none :: ([.fieldLink RX1 7 "SeedMakers$Board" "grid" "LSeedMakers$Grid;", .fieldLink RX1 13 "SeedMakers$Grid" "cells" "I", .fieldLink RX1 19 "SeedMakers$Board" "symbols" "[I", .fieldLink RX1 23 "SeedMakers$Grid" "side" "I", .fieldLink RX1 26 "SeedMakers$Board" "inRow" "[I", .fieldLink RX1 29 "SeedMakers$Board" "inColumn" "[I", .fieldLink RX1 32 "SeedMakers$Board" "inBox" "[I"] ++ wsX10 ++ wsX40)
def wsX1_init : List Cond := .code yX1_init cX1_init 2 none :: ([.methodLink RX1 1 objectInit, .instanceMethod objectInit, .code objectInit ⟨#[0xb1]⟩ 1 none, .fieldLink RX1 7 "SeedMakers$Board" "grid" "LSeedMakers$Grid;", .fieldLink RX1 13 "SeedMakers$Grid" "cells" "I", .arrayClass .int, .fieldLink RX1 19 "SeedMakers$Board" "symbols" "[I", .fieldLink RX1 23 "SeedMakers$Grid" "side" "I", .fieldLink RX1 26 "SeedMakers$Board" "inRow" "[I", .fieldLink RX1 29 "SeedMakers$Board" "inColumn" "[I", .fieldLink RX1 32 "SeedMakers$Board" "inBox" "[I", .methodLink RX1 35 yX1_clear, .instanceMethod yX1_clear, .selects RX1 yX1_clear yX1_clear, .initialized RX1, .code yX1_clear cX1_clear 2 none] ++ wsX10 ++ wsX40)
def wsX1_flip : List Cond := .code yX1_flip cX1_flip 3 none :: ([.fieldLink RX1 26 "SeedMakers$Board" "inRow" "[I", .fieldLink RX1 7 "SeedMakers$Board" "grid" "LSeedMakers$Grid;", .fieldLink RX1 45 "SeedMakers$Grid" "row" "[I", .fieldLink RX1 29 "SeedMakers$Board" "inColumn" "[I", .fieldLink RX1 48 "SeedMakers$Grid" "column" "[I", .fieldLink RX1 32 "SeedMakers$Board" "inBox" "[I", .fieldLink RX1 51 "SeedMakers$Grid" "box" "[I"] ++ wsX10 ++ wsX40)
def wsX1_put : List Cond := .code yX1_put cX1_put 3 none :: ([.fieldLink RX1 19 "SeedMakers$Board" "symbols" "[I", .methodLink RX1 54 yX1_flip, .instanceMethod yX1_flip, .selects RX1 yX1_flip yX1_flip, .initialized RX1, .code yX1_flip cX1_flip 3 none, .fieldLink RX1 26 "SeedMakers$Board" "inRow" "[I", .fieldLink RX1 7 "SeedMakers$Board" "grid" "LSeedMakers$Grid;", .fieldLink RX1 45 "SeedMakers$Grid" "row" "[I", .fieldLink RX1 29 "SeedMakers$Board" "inColumn" "[I", .fieldLink RX1 48 "SeedMakers$Grid" "column" "[I", .fieldLink RX1 32 "SeedMakers$Board" "inBox" "[I", .fieldLink RX1 51 "SeedMakers$Grid" "box" "[I"] ++ wsX10 ++ wsX40)
def wsX1_putAll : List Cond := .code yX1_putAll cX1_putAll 3 none :: ([.fieldLink RX1 7 "SeedMakers$Board" "grid" "LSeedMakers$Grid;", .fieldLink RX1 13 "SeedMakers$Grid" "cells" "I", .methodLink RX1 35 yX1_clear, .instanceMethod yX1_clear, .selects RX1 yX1_clear yX1_clear, .initialized RX1, .code yX1_clear cX1_clear 2 none, .fieldLink RX1 19 "SeedMakers$Board" "symbols" "[I", .fieldLink RX1 23 "SeedMakers$Grid" "side" "I", .fieldLink RX1 26 "SeedMakers$Board" "inRow" "[I", .fieldLink RX1 29 "SeedMakers$Board" "inColumn" "[I", .fieldLink RX1 32 "SeedMakers$Board" "inBox" "[I", .methodLink RX1 38 yX1_put, .instanceMethod yX1_put, .selects RX1 yX1_put yX1_put, .code yX1_put cX1_put 3 none, .methodLink RX1 54 yX1_flip, .instanceMethod yX1_flip, .selects RX1 yX1_flip yX1_flip, .code yX1_flip cX1_flip 3 none, .fieldLink RX1 45 "SeedMakers$Grid" "row" "[I", .fieldLink RX1 48 "SeedMakers$Grid" "column" "[I", .fieldLink RX1 51 "SeedMakers$Grid" "box" "[I"] ++ wsX10 ++ wsX40)
def wsX1_isEmpty : List Cond := .code yX1_isEmpty cX1_isEmpty 2 (some .boolean) :: ([.fieldLink RX1 19 "SeedMakers$Board" "symbols" "[I"] ++ wsX10)
def wsX1_may : List Cond := .code yX1_may cX1_may 2 (some .int) :: ([.fieldLink RX1 7 "SeedMakers$Board" "grid" "LSeedMakers$Grid;", .fieldLink RX1 42 "SeedMakers$Grid" "allSymbols" "I", .fieldLink RX1 26 "SeedMakers$Board" "inRow" "[I", .fieldLink RX1 45 "SeedMakers$Grid" "row" "[I", .fieldLink RX1 29 "SeedMakers$Board" "inColumn" "[I", .fieldLink RX1 48 "SeedMakers$Grid" "column" "[I", .fieldLink RX1 32 "SeedMakers$Board" "inBox" "[I", .fieldLink RX1 51 "SeedMakers$Grid" "box" "[I"] ++ wsX10 ++ wsX40)
def wsX1_takeOut : List Cond := .code yX1_takeOut cX1_takeOut 3 none :: ([.fieldLink RX1 19 "SeedMakers$Board" "symbols" "[I", .methodLink RX1 54 yX1_flip, .instanceMethod yX1_flip, .selects RX1 yX1_flip yX1_flip, .initialized RX1, .code yX1_flip cX1_flip 3 none, .fieldLink RX1 26 "SeedMakers$Board" "inRow" "[I", .fieldLink RX1 7 "SeedMakers$Board" "grid" "LSeedMakers$Grid;", .fieldLink RX1 45 "SeedMakers$Grid" "row" "[I", .fieldLink RX1 29 "SeedMakers$Board" "inColumn" "[I", .fieldLink RX1 48 "SeedMakers$Grid" "column" "[I", .fieldLink RX1 32 "SeedMakers$Board" "inBox" "[I", .fieldLink RX1 51 "SeedMakers$Grid" "box" "[I"] ++ wsX10 ++ wsX40)
def wsX2_init : List Cond := .code yX2_init cX2_init 1 none :: ([.methodLink RX2 1 objectInit, .instanceMethod objectInit, .code objectInit ⟨#[0xb1]⟩ 1 none, .fieldLink RX2 7 "SeedMakers$Chance" "state" "J"] ++ wsX20)
def wsX2_startAt : List Cond := .code yX2_startAt cX2_startAt 3 none :: ([.fieldLink RX2 7 "SeedMakers$Chance" "state" "J"] ++ wsX20)
def wsX2_upperBits : List Cond := .code yX2_upperBits cX2_upperBits 1 (some .int) :: ([.fieldLink RX2 7 "SeedMakers$Chance" "state" "J"] ++ wsX20)
def wsX2_below : List Cond := .code yX2_below cX2_below 2 (some .int) :: ([.constantLong RX2 13 (6364136223846793005), .fieldLink RX2 7 "SeedMakers$Chance" "state" "J", .constantLong RX2 15 (1442695040888963407), .methodLink RX2 17 yX2_upperBits, .instanceMethod yX2_upperBits, .selects RX2 yX2_upperBits yX2_upperBits, .initialized RX2, .code yX2_upperBits cX2_upperBits 1 (some .int)] ++ wsX20)
def wsX3_init_r1 : List Cond := [Cond.methodLink RX3 1 objectInit, Cond.instanceMethod objectInit, Cond.code objectInit ⟨#[0xb1]⟩ 1 none, Cond.fieldLink RX3 7 "SeedMakers$Drawer" "grid" "LSeedMakers$Grid;", Cond.fieldLink RX3 13 "SeedMakers$Drawer" "chance" "LSeedMakers$Chance;", Cond.classLink RX3 17 RX1, Cond.instantiable RX1 5, Cond.initialized RX1, Cond.fieldLink RX3 22 "SeedMakers$Drawer" "board" "LSeedMakers$Board;", Cond.methodLink RX3 19 yX1_init, Cond.instanceMethod yX1_init, Cond.code yX1_init cX1_init 2 none, Cond.methodLink RX1 1 objectInit, Cond.fieldLink RX1 7 "SeedMakers$Board" "grid" "LSeedMakers$Grid;", Cond.fieldLink RX1 13 "SeedMakers$Grid" "cells" "I", Cond.arrayClass .int, Cond.fieldLink RX1 19 "SeedMakers$Board" "symbols" "[I", Cond.fieldLink RX1 23 "SeedMakers$Grid" "side" "I", Cond.fieldLink RX1 26 "SeedMakers$Board" "inRow" "[I", Cond.fieldLink RX1 29 "SeedMakers$Board" "inColumn" "[I", Cond.fieldLink RX1 32 "SeedMakers$Board" "inBox" "[I", Cond.methodLink RX1 35 yX1_clear, Cond.instanceMethod yX1_clear, Cond.selects RX1 yX1_clear yX1_clear]
def wsX3_init_r2 : List Cond := [Cond.code yX1_clear cX1_clear 2 none]
def wsX3_init : List Cond := .code yX3_init cX3_init 3 none :: ((wsX3_init_r1 ++ wsX3_init_r2) ++ wsX30 ++ wsX10 ++ wsX40)
def wsJ6_bitCount_0f7a4 : List Cond := .code yJ6_bitCount_0f7a4 cJ6_bitCount_0f7a4 1 (some .int) :: ([.constant RJ6 265 (1431655765), .constant RJ6 266 (858993459), .constant RJ6 267 (252645135)])
def wsX3_tightest_r1 : List Cond := [Cond.constant RX3 61 (2147483647), Cond.fieldLink RX3 7 "SeedMakers$Drawer" "grid" "LSeedMakers$Grid;", Cond.fieldLink RX3 29 "SeedMakers$Grid" "cells" "I", Cond.fieldLink RX3 22 "SeedMakers$Drawer" "board" "LSeedMakers$Board;", Cond.methodLink RX3 62 yX1_isEmpty, Cond.instanceMethod yX1_isEmpty, Cond.selects RX1 yX1_isEmpty yX1_isEmpty, Cond.initialized RX1, Cond.code yX1_isEmpty cX1_isEmpty 2 (some .boolean), Cond.fieldLink RX1 19 "SeedMakers$Board" "symbols" "[I", Cond.methodLink RX3 39 yX1_may, Cond.instanceMethod yX1_may, Cond.selects RX1 yX1_may yX1_may, Cond.code yX1_may cX1_may 2 (some .int), Cond.fieldLink RX1 7 "SeedMakers$Board" "grid" "LSeedMakers$Grid;", Cond.fieldLink RX1 42 "SeedMakers$Grid" "allSymbols" "I", Cond.fieldLink RX1 26 "SeedMakers$Board" "inRow" "[I", Cond.fieldLink RX1 45 "SeedMakers$Grid" "row" "[I", Cond.fieldLink RX1 29 "SeedMakers$Board" "inColumn" "[I", Cond.fieldLink RX1 48 "SeedMakers$Grid" "column" "[I", Cond.fieldLink RX1 32 "SeedMakers$Board" "inBox" "[I", Cond.fieldLink RX1 51 "SeedMakers$Grid" "box" "[I", Cond.methodLink RX3 43 yJ6_bitCount_0f7a4, Cond.static yJ6_bitCount_0f7a4]
def wsX3_tightest_r2 : List Cond := [Cond.initialized RJ6, Cond.code yJ6_bitCount_0f7a4 cJ6_bitCount_0f7a4 1 (some .int), Cond.constant RJ6 265 (1431655765), Cond.constant RJ6 266 (858993459), Cond.constant RJ6 267 (252645135)]
def wsX3_tightest : List Cond := .code yX3_tightest cX3_tightest 5 (some .int) :: ((wsX3_tightest_r1 ++ wsX3_tightest_r2) ++ wsX30 ++ wsX40 ++ wsX10)
def wsJ6_numberOfTrailingZeros_0f7a4 : List Cond := .code yJ6_numberOfTrailingZeros_0f7a4 cJ6_numberOfTrailingZeros_0f7a4 2 (some .int) :: ([.constant RJ6 264 (65536)])
def wsX3_symbolAt : List Cond := .code yX3_symbolAt cX3_symbolAt 4 (some .int) :: ([.methodLink RX3 66 yJ6_numberOfTrailingZeros_0f7a4, .static yJ6_numberOfTrailingZeros_0f7a4, .initialized RJ6, .code yJ6_numberOfTrailingZeros_0f7a4 cJ6_numberOfTrailingZeros_0f7a4 2 (some .int), .constant RJ6 264 (65536)])
def wsX3_fill_r1 : List Cond := [Cond.fieldLink RX3 22 "SeedMakers$Drawer" "board" "LSeedMakers$Board;", Cond.fieldLink RX3 7 "SeedMakers$Drawer" "grid" "LSeedMakers$Grid;", Cond.fieldLink RX3 29 "SeedMakers$Grid" "cells" "I", Cond.fieldLink RX3 13 "SeedMakers$Drawer" "chance" "LSeedMakers$Chance;", Cond.methodLink RX3 26 yX1_clear, Cond.instanceMethod yX1_clear, Cond.selects RX1 yX1_clear yX1_clear, Cond.initialized RX1, Cond.code yX1_clear cX1_clear 2 none, Cond.fieldLink RX1 7 "SeedMakers$Board" "grid" "LSeedMakers$Grid;", Cond.fieldLink RX1 13 "SeedMakers$Grid" "cells" "I", Cond.fieldLink RX1 19 "SeedMakers$Board" "symbols" "[I", Cond.fieldLink RX1 23 "SeedMakers$Grid" "side" "I", Cond.fieldLink RX1 26 "SeedMakers$Board" "inRow" "[I", Cond.fieldLink RX1 29 "SeedMakers$Board" "inColumn" "[I", Cond.fieldLink RX1 32 "SeedMakers$Board" "inBox" "[I", Cond.methodLink RX3 35 yX3_tightest, Cond.instanceMethod yX3_tightest, Cond.selects RX3 yX3_tightest yX3_tightest, Cond.initialized RX3, Cond.code yX3_tightest cX3_tightest 5 (some .int), Cond.constant RX3 61 (2147483647), Cond.methodLink RX3 62 yX1_isEmpty, Cond.instanceMethod yX1_isEmpty]
def wsX3_fill_r2 : List Cond := [Cond.selects RX1 yX1_isEmpty yX1_isEmpty, Cond.code yX1_isEmpty cX1_isEmpty 2 (some .boolean), Cond.methodLink RX3 39 yX1_may, Cond.instanceMethod yX1_may, Cond.selects RX1 yX1_may yX1_may, Cond.code yX1_may cX1_may 2 (some .int), Cond.fieldLink RX1 42 "SeedMakers$Grid" "allSymbols" "I", Cond.fieldLink RX1 45 "SeedMakers$Grid" "row" "[I", Cond.fieldLink RX1 48 "SeedMakers$Grid" "column" "[I", Cond.fieldLink RX1 51 "SeedMakers$Grid" "box" "[I", Cond.methodLink RX3 43 yJ6_bitCount_0f7a4, Cond.static yJ6_bitCount_0f7a4, Cond.initialized RJ6, Cond.code yJ6_bitCount_0f7a4 cJ6_bitCount_0f7a4 1 (some .int), Cond.constant RJ6 265 (1431655765), Cond.constant RJ6 266 (858993459), Cond.constant RJ6 267 (252645135), Cond.methodLink RX3 48 yX2_below, Cond.instanceMethod yX2_below, Cond.selects RX2 yX2_below yX2_below, Cond.initialized RX2, Cond.code yX2_below cX2_below 2 (some .int), Cond.constantLong RX2 13 (6364136223846793005), Cond.fieldLink RX2 7 "SeedMakers$Chance" "state" "J"]
def wsX3_fill_r3 : List Cond := [Cond.constantLong RX2 15 (1442695040888963407), Cond.methodLink RX2 17 yX2_upperBits, Cond.instanceMethod yX2_upperBits, Cond.selects RX2 yX2_upperBits yX2_upperBits, Cond.code yX2_upperBits cX2_upperBits 1 (some .int), Cond.methodLink RX3 53 yX3_symbolAt, Cond.static yX3_symbolAt, Cond.code yX3_symbolAt cX3_symbolAt 4 (some .int), Cond.methodLink RX3 66 yJ6_numberOfTrailingZeros_0f7a4, Cond.static yJ6_numberOfTrailingZeros_0f7a4, Cond.code yJ6_numberOfTrailingZeros_0f7a4 cJ6_numberOfTrailingZeros_0f7a4 2 (some .int), Cond.constant RJ6 264 (65536), Cond.methodLink RX3 57 yX1_put, Cond.instanceMethod yX1_put, Cond.selects RX1 yX1_put yX1_put, Cond.code yX1_put cX1_put 3 none, Cond.methodLink RX1 54 yX1_flip, Cond.instanceMethod yX1_flip, Cond.selects RX1 yX1_flip yX1_flip, Cond.code yX1_flip cX1_flip 3 none]
def wsX3_fill : List Cond := .code yX3_fill cX3_fill 5 (some .boolean) :: ((wsX3_fill_r1 ++ (wsX3_fill_r2 ++ wsX3_fill_r3)) ++ wsX30 ++ wsX40 ++ wsX10 ++ wsX20)
def wsX4_init : List Cond := .code yX4_init cX4_init 8 none :: ([.methodLink RX4 1 objectInit, .instanceMethod objectInit, .code objectInit ⟨#[0xb1]⟩ 1 none, .fieldLink RX4 7 "SeedMakers$Grid" "side" "I", .fieldLink RX4 13 "SeedMakers$Grid" "cells" "I", .fieldLink RX4 16 "SeedMakers$Grid" "allSymbols" "I", .arrayClass .int, .fieldLink RX4 19 "SeedMakers$Grid" "row" "[I", .fieldLink RX4 23 "SeedMakers$Grid" "column" "[I", .fieldLink RX4 26 "SeedMakers$Grid" "box" "[I", .classLink RX4 29 "[[I", .fieldLink RX4 31 "SeedMakers$Grid" "units" "[[I"] ++ wsX40)
def wsX4_has : List Cond := .code yX4_has cX4_has 2 (some .boolean) :: ([.fieldLink RX4 13 "SeedMakers$Grid" "cells" "I"] ++ wsX40)
def wsX7_init : List Cond := .code yX7_init cX7_init 2 none :: ([.methodLink RX7 1 objectInit, .instanceMethod objectInit, .code objectInit ⟨#[0xb1]⟩ 1 none, .fieldLink RX7 7 "SeedMakers$Singles" "grid" "LSeedMakers$Grid;", .classLink RX7 13 RX1, .instantiable RX1 5, .initialized RX1, .fieldLink RX7 18 "SeedMakers$Singles" "board" "LSeedMakers$Board;", .methodLink RX7 15 yX1_init, .instanceMethod yX1_init, .code yX1_init cX1_init 2 none, .methodLink RX1 1 objectInit, .fieldLink RX1 7 "SeedMakers$Board" "grid" "LSeedMakers$Grid;", .fieldLink RX1 13 "SeedMakers$Grid" "cells" "I", .arrayClass .int, .fieldLink RX1 19 "SeedMakers$Board" "symbols" "[I", .fieldLink RX1 23 "SeedMakers$Grid" "side" "I", .fieldLink RX1 26 "SeedMakers$Board" "inRow" "[I", .fieldLink RX1 29 "SeedMakers$Board" "inColumn" "[I", .fieldLink RX1 32 "SeedMakers$Board" "inBox" "[I", .methodLink RX1 35 yX1_clear, .instanceMethod yX1_clear, .selects RX1 yX1_clear yX1_clear, .code yX1_clear cX1_clear 2 none] ++ wsX70 ++ wsX10 ++ wsX40)
def wsX8_init_r1 : List Cond := [Cond.methodLink RX8 1 objectInit, Cond.instanceMethod objectInit, Cond.code objectInit ⟨#[0xb1]⟩ 1 none, Cond.fieldLink RX8 7 "SeedMakers$Solver" "limit" "I", Cond.fieldLink RX8 13 "SeedMakers$Solver" "found" "I", Cond.classLink RX8 16 RX1, Cond.instantiable RX1 5, Cond.initialized RX1, Cond.fieldLink RX8 21 "SeedMakers$Solver" "board" "LSeedMakers$Board;", Cond.fieldLink RX8 25 "SeedMakers$Grid" "cells" "I", Cond.arrayClass .int, Cond.fieldLink RX8 30 "SeedMakers$Solver" "open" "[I", Cond.methodLink RX8 18 yX1_init, Cond.instanceMethod yX1_init, Cond.code yX1_init cX1_init 2 none, Cond.methodLink RX1 1 objectInit, Cond.fieldLink RX1 7 "SeedMakers$Board" "grid" "LSeedMakers$Grid;", Cond.fieldLink RX1 13 "SeedMakers$Grid" "cells" "I", Cond.fieldLink RX1 19 "SeedMakers$Board" "symbols" "[I", Cond.fieldLink RX1 23 "SeedMakers$Grid" "side" "I", Cond.fieldLink RX1 26 "SeedMakers$Board" "inRow" "[I", Cond.fieldLink RX1 29 "SeedMakers$Board" "inColumn" "[I", Cond.fieldLink RX1 32 "SeedMakers$Board" "inBox" "[I", Cond.methodLink RX1 35 yX1_clear]
def wsX8_init_r2 : List Cond := [Cond.instanceMethod yX1_clear, Cond.selects RX1 yX1_clear yX1_clear, Cond.code yX1_clear cX1_clear 2 none]
def wsX8_init : List Cond := .code yX8_init cX8_init 2 none :: ((wsX8_init_r1 ++ wsX8_init_r2) ++ wsX80 ++ wsX10 ++ wsX40)
def wsX5_init_r1 : List Cond := [Cond.methodLink RX5 1 objectInit, Cond.instanceMethod objectInit, Cond.code objectInit ⟨#[0xb1]⟩ 1 none, Cond.fieldLink RX5 7 "SeedMakers$Maker" "made" "Z", Cond.fieldLink RX5 13 "SeedMakers$Maker" "triesMade" "I", Cond.fieldLink RX5 17 "SeedMakers$Maker" "restarts" "I", Cond.fieldLink RX5 20 "SeedMakers$Maker" "takenOut" "I", Cond.fieldLink RX5 23 "SeedMakers$Maker" "putBack" "I", Cond.fieldLink RX5 26 "SeedMakers$Maker" "givenCells" "I", Cond.fieldLink RX5 29 "SeedMakers$Maker" "unknownCells" "I", Cond.fieldLink RX5 32 "SeedMakers$Maker" "grid" "LSeedMakers$Grid;", Cond.fieldLink RX5 36 "SeedMakers$Maker" "sets" "LSeedMakers$Sets;", Cond.fieldLink RX5 40 "SeedMakers$Maker" "themes" "[I", Cond.fieldLink RX5 44 "SeedMakers$Maker" "aimed" "LSeedMakers$Aim;", Cond.classLink RX5 48 RX2, Cond.instantiable RX2 1, Cond.initialized RX2, Cond.fieldLink RX5 51 "SeedMakers$Maker" "chance" "LSeedMakers$Chance;", Cond.classLink RX5 55 RX3, Cond.instantiable RX3 3, Cond.initialized RX3, Cond.fieldLink RX5 60 "SeedMakers$Maker" "drawer" "LSeedMakers$Drawer;", Cond.classLink RX5 64 RX7, Cond.instantiable RX7 2]
def wsX5_init_r2 : List Cond := [Cond.initialized RX7, Cond.fieldLink RX5 69 "SeedMakers$Maker" "singles" "LSeedMakers$Singles;", Cond.classLink RX5 73 RX8, Cond.instantiable RX8 4, Cond.initialized RX8, Cond.fieldLink RX5 76 "SeedMakers$Maker" "solver" "LSeedMakers$Solver;", Cond.fieldLink RX5 80 "SeedMakers$Grid" "cells" "I", Cond.arrayClass .int, Cond.fieldLink RX5 85 "SeedMakers$Maker" "whole" "[I", Cond.fieldLink RX5 88 "SeedMakers$Maker" "givens" "[I", Cond.arrayClass .boolean, Cond.fieldLink RX5 91 "SeedMakers$Maker" "marked" "[Z", Cond.fieldLink RX5 95 "SeedMakers$Maker" "row" "[I", Cond.fieldLink RX5 98 "SeedMakers$Maker" "without" "[I", Cond.instanceMethod yX2_init, Cond.code yX2_init cX2_init 1 none, Cond.methodLink RX2 1 objectInit, Cond.fieldLink RX2 7 "SeedMakers$Chance" "state" "J", Cond.methodLink RX5 57 yX3_init, Cond.instanceMethod yX3_init, Cond.code yX3_init cX3_init 3 none, Cond.methodLink RX3 1 objectInit, Cond.fieldLink RX3 7 "SeedMakers$Drawer" "grid" "LSeedMakers$Grid;", Cond.fieldLink RX3 13 "SeedMakers$Drawer" "chance" "LSeedMakers$Chance;"]
def wsX5_init_r3 : List Cond := [Cond.classLink RX3 17 RX1, Cond.instantiable RX1 5, Cond.initialized RX1, Cond.fieldLink RX3 22 "SeedMakers$Drawer" "board" "LSeedMakers$Board;", Cond.methodLink RX3 19 yX1_init, Cond.instanceMethod yX1_init, Cond.code yX1_init cX1_init 2 none, Cond.methodLink RX1 1 objectInit, Cond.fieldLink RX1 7 "SeedMakers$Board" "grid" "LSeedMakers$Grid;", Cond.fieldLink RX1 13 "SeedMakers$Grid" "cells" "I", Cond.fieldLink RX1 19 "SeedMakers$Board" "symbols" "[I", Cond.fieldLink RX1 23 "SeedMakers$Grid" "side" "I", Cond.fieldLink RX1 26 "SeedMakers$Board" "inRow" "[I", Cond.fieldLink RX1 29 "SeedMakers$Board" "inColumn" "[I", Cond.fieldLink RX1 32 "SeedMakers$Board" "inBox" "[I", Cond.methodLink RX1 35 yX1_clear, Cond.instanceMethod yX1_clear, Cond.selects RX1 yX1_clear yX1_clear, Cond.code yX1_clear cX1_clear 2 none, Cond.methodLink RX5 66 yX7_init, Cond.instanceMethod yX7_init, Cond.code yX7_init cX7_init 2 none, Cond.methodLink RX7 1 objectInit, Cond.fieldLink RX7 7 "SeedMakers$Singles" "grid" "LSeedMakers$Grid;"]
def wsX5_init_r4 : List Cond := [Cond.classLink RX7 13 RX1, Cond.fieldLink RX7 18 "SeedMakers$Singles" "board" "LSeedMakers$Board;", Cond.methodLink RX7 15 yX1_init, Cond.methodLink RX5 75 yX8_init, Cond.instanceMethod yX8_init, Cond.code yX8_init cX8_init 2 none, Cond.methodLink RX8 1 objectInit, Cond.fieldLink RX8 7 "SeedMakers$Solver" "limit" "I", Cond.fieldLink RX8 13 "SeedMakers$Solver" "found" "I", Cond.classLink RX8 16 RX1, Cond.fieldLink RX8 21 "SeedMakers$Solver" "board" "LSeedMakers$Board;", Cond.fieldLink RX8 25 "SeedMakers$Grid" "cells" "I", Cond.fieldLink RX8 30 "SeedMakers$Solver" "open" "[I", Cond.methodLink RX8 18 yX1_init]
def wsX5_init : List Cond := .code yX5_init cX5_init 5 none :: ((wsX5_init_r1 ++ (wsX5_init_r2 ++ (wsX5_init_r3 ++ wsX5_init_r4))) ++ wsX50 ++ wsX20 ++ wsX30 ++ wsX70 ++ wsX80 ++ wsX40 ++ wsX10)
def wsX5_startAt : List Cond := .code yX5_startAt cX5_startAt 3 none :: ([.fieldLink RX5 7 "SeedMakers$Maker" "made" "Z", .fieldLink RX5 13 "SeedMakers$Maker" "triesMade" "I", .fieldLink RX5 17 "SeedMakers$Maker" "restarts" "I", .fieldLink RX5 20 "SeedMakers$Maker" "takenOut" "I", .fieldLink RX5 23 "SeedMakers$Maker" "putBack" "I", .fieldLink RX5 51 "SeedMakers$Maker" "chance" "LSeedMakers$Chance;", .methodLink RX5 101 yX2_startAt, .instanceMethod yX2_startAt, .selects RX2 yX2_startAt yX2_startAt, .initialized RX2, .code yX2_startAt cX2_startAt 3 none, .fieldLink RX2 7 "SeedMakers$Chance" "state" "J"] ++ wsX50 ++ wsX20)
def wsX5_drawWhole_r1 : List Cond := [Cond.fieldLink RX5 60 "SeedMakers$Maker" "drawer" "LSeedMakers$Drawer;", Cond.fieldLink RX5 17 "SeedMakers$Maker" "restarts" "I", Cond.fieldLink RX5 146 "SeedMakers$Drawer" "board" "LSeedMakers$Board;", Cond.fieldLink RX5 150 "SeedMakers$Board" "symbols" "[I", Cond.fieldLink RX5 85 "SeedMakers$Maker" "whole" "[I", Cond.methodLink RX5 124 arraycopyName, Cond.native arraycopyName, Cond.static arraycopyName, Cond.initialized "java/lang/System", Cond.fieldLink RX5 88 "SeedMakers$Maker" "givens" "[I", Cond.methodLink RX5 143 yX3_fill, Cond.instanceMethod yX3_fill, Cond.selects RX3 yX3_fill yX3_fill, Cond.initialized RX3, Cond.code yX3_fill cX3_fill 5 (some .boolean), Cond.fieldLink RX3 22 "SeedMakers$Drawer" "board" "LSeedMakers$Board;", Cond.fieldLink RX3 7 "SeedMakers$Drawer" "grid" "LSeedMakers$Grid;", Cond.fieldLink RX3 29 "SeedMakers$Grid" "cells" "I", Cond.fieldLink RX3 13 "SeedMakers$Drawer" "chance" "LSeedMakers$Chance;", Cond.methodLink RX3 26 yX1_clear, Cond.instanceMethod yX1_clear, Cond.selects RX1 yX1_clear yX1_clear, Cond.initialized RX1, Cond.code yX1_clear cX1_clear 2 none]
def wsX5_drawWhole_r2 : List Cond := [Cond.fieldLink RX1 7 "SeedMakers$Board" "grid" "LSeedMakers$Grid;", Cond.fieldLink RX1 13 "SeedMakers$Grid" "cells" "I", Cond.fieldLink RX1 19 "SeedMakers$Board" "symbols" "[I", Cond.fieldLink RX1 23 "SeedMakers$Grid" "side" "I", Cond.fieldLink RX1 26 "SeedMakers$Board" "inRow" "[I", Cond.fieldLink RX1 29 "SeedMakers$Board" "inColumn" "[I", Cond.fieldLink RX1 32 "SeedMakers$Board" "inBox" "[I", Cond.methodLink RX3 35 yX3_tightest, Cond.instanceMethod yX3_tightest, Cond.selects RX3 yX3_tightest yX3_tightest, Cond.code yX3_tightest cX3_tightest 5 (some .int), Cond.constant RX3 61 (2147483647), Cond.methodLink RX3 62 yX1_isEmpty, Cond.instanceMethod yX1_isEmpty, Cond.selects RX1 yX1_isEmpty yX1_isEmpty, Cond.code yX1_isEmpty cX1_isEmpty 2 (some .boolean), Cond.methodLink RX3 39 yX1_may, Cond.instanceMethod yX1_may, Cond.selects RX1 yX1_may yX1_may, Cond.code yX1_may cX1_may 2 (some .int), Cond.fieldLink RX1 42 "SeedMakers$Grid" "allSymbols" "I", Cond.fieldLink RX1 45 "SeedMakers$Grid" "row" "[I", Cond.fieldLink RX1 48 "SeedMakers$Grid" "column" "[I", Cond.fieldLink RX1 51 "SeedMakers$Grid" "box" "[I"]
def wsX5_drawWhole_r3 : List Cond := [Cond.methodLink RX3 43 yJ6_bitCount_0f7a4, Cond.static yJ6_bitCount_0f7a4, Cond.initialized RJ6, Cond.code yJ6_bitCount_0f7a4 cJ6_bitCount_0f7a4 1 (some .int), Cond.constant RJ6 265 (1431655765), Cond.constant RJ6 266 (858993459), Cond.constant RJ6 267 (252645135), Cond.methodLink RX3 48 yX2_below, Cond.instanceMethod yX2_below, Cond.selects RX2 yX2_below yX2_below, Cond.initialized RX2, Cond.code yX2_below cX2_below 2 (some .int), Cond.constantLong RX2 13 (6364136223846793005), Cond.fieldLink RX2 7 "SeedMakers$Chance" "state" "J", Cond.constantLong RX2 15 (1442695040888963407), Cond.methodLink RX2 17 yX2_upperBits, Cond.instanceMethod yX2_upperBits, Cond.selects RX2 yX2_upperBits yX2_upperBits, Cond.code yX2_upperBits cX2_upperBits 1 (some .int), Cond.methodLink RX3 53 yX3_symbolAt, Cond.static yX3_symbolAt, Cond.code yX3_symbolAt cX3_symbolAt 4 (some .int), Cond.methodLink RX3 66 yJ6_numberOfTrailingZeros_0f7a4, Cond.static yJ6_numberOfTrailingZeros_0f7a4]
def wsX5_drawWhole_r4 : List Cond := [Cond.code yJ6_numberOfTrailingZeros_0f7a4 cJ6_numberOfTrailingZeros_0f7a4 2 (some .int), Cond.constant RJ6 264 (65536), Cond.methodLink RX3 57 yX1_put, Cond.instanceMethod yX1_put, Cond.selects RX1 yX1_put yX1_put, Cond.code yX1_put cX1_put 3 none, Cond.methodLink RX1 54 yX1_flip, Cond.instanceMethod yX1_flip, Cond.selects RX1 yX1_flip yX1_flip, Cond.code yX1_flip cX1_flip 3 none]
def wsX5_drawWhole : List Cond := .code yX5_drawWhole cX5_drawWhole 3 (some .boolean) :: ((wsX5_drawWhole_r1 ++ (wsX5_drawWhole_r2 ++ (wsX5_drawWhole_r3 ++ wsX5_drawWhole_r4))) ++ wsX50 ++ wsX30 ++ wsX10 ++ wsX40 ++ wsX20)
def wsX5_markSetsWith : List Cond := .code yX5_markSetsWith cX5_markSetsWith 3 none :: ([.fieldLink RX5 32 "SeedMakers$Maker" "grid" "LSeedMakers$Grid;", .fieldLink RX5 80 "SeedMakers$Grid" "cells" "I", .fieldLink RX5 91 "SeedMakers$Maker" "marked" "[Z", .fieldLink RX5 40 "SeedMakers$Maker" "themes" "[I", .fieldLink RX5 36 "SeedMakers$Maker" "sets" "LSeedMakers$Sets;", .fieldLink RX5 158 "SeedMakers$Sets" "leastOf" "[I"] ++ wsX50 ++ wsX40 ++ wsX60)
def wsX8_tightest : List Cond := .code yX8_tightest cX8_tightest 6 (some .int) :: ([.constant RX8 69 (2147483647), .fieldLink RX8 21 "SeedMakers$Solver" "board" "LSeedMakers$Board;", .fieldLink RX8 30 "SeedMakers$Solver" "open" "[I", .methodLink RX8 50 yX1_may, .instanceMethod yX1_may, .selects RX1 yX1_may yX1_may, .initialized RX1, .code yX1_may cX1_may 2 (some .int), .fieldLink RX1 7 "SeedMakers$Board" "grid" "LSeedMakers$Grid;", .fieldLink RX1 42 "SeedMakers$Grid" "allSymbols" "I", .fieldLink RX1 26 "SeedMakers$Board" "inRow" "[I", .fieldLink RX1 45 "SeedMakers$Grid" "row" "[I", .fieldLink RX1 29 "SeedMakers$Board" "inColumn" "[I", .fieldLink RX1 48 "SeedMakers$Grid" "column" "[I", .fieldLink RX1 32 "SeedMakers$Board" "inBox" "[I", .fieldLink RX1 51 "SeedMakers$Grid" "box" "[I", .methodLink RX8 70 yJ6_bitCount_0f7a4, .static yJ6_bitCount_0f7a4, .initialized RJ6, .code yJ6_bitCount_0f7a4 cJ6_bitCount_0f7a4 1 (some .int), .constant RJ6 265 (1431655765), .constant RJ6 266 (858993459), .constant RJ6 267 (252645135)] ++ wsX80 ++ wsX10 ++ wsX40)
def wsX8_search_r1 : List Cond := [Cond.fieldLink RX8 13 "SeedMakers$Solver" "found" "I", Cond.fieldLink RX8 30 "SeedMakers$Solver" "open" "[I", Cond.fieldLink RX8 21 "SeedMakers$Solver" "board" "LSeedMakers$Board;", Cond.fieldLink RX8 53 "SeedMakers$Board" "grid" "LSeedMakers$Grid;", Cond.fieldLink RX8 57 "SeedMakers$Grid" "side" "I", Cond.fieldLink RX8 7 "SeedMakers$Solver" "limit" "I", Cond.methodLink RX8 46 yX8_tightest, Cond.instanceMethod yX8_tightest, Cond.selects RX8 yX8_tightest yX8_tightest, Cond.initialized RX8, Cond.code yX8_tightest cX8_tightest 6 (some .int), Cond.constant RX8 69 (2147483647), Cond.methodLink RX8 50 yX1_may, Cond.instanceMethod yX1_may, Cond.selects RX1 yX1_may yX1_may, Cond.initialized RX1, Cond.code yX1_may cX1_may 2 (some .int), Cond.fieldLink RX1 7 "SeedMakers$Board" "grid" "LSeedMakers$Grid;", Cond.fieldLink RX1 42 "SeedMakers$Grid" "allSymbols" "I", Cond.fieldLink RX1 26 "SeedMakers$Board" "inRow" "[I", Cond.fieldLink RX1 45 "SeedMakers$Grid" "row" "[I", Cond.fieldLink RX1 29 "SeedMakers$Board" "inColumn" "[I", Cond.fieldLink RX1 48 "SeedMakers$Grid" "column" "[I", Cond.fieldLink RX1 32 "SeedMakers$Board" "inBox" "[I"]
def wsX8_search_r2 : List Cond := [Cond.fieldLink RX1 51 "SeedMakers$Grid" "box" "[I", Cond.methodLink RX8 70 yJ6_bitCount_0f7a4, Cond.static yJ6_bitCount_0f7a4, Cond.initialized RJ6, Cond.code yJ6_bitCount_0f7a4 cJ6_bitCount_0f7a4 1 (some .int), Cond.constant RJ6 265 (1431655765), Cond.constant RJ6 266 (858993459), Cond.constant RJ6 267 (252645135), Cond.methodLink RX8 60 yX1_put, Cond.instanceMethod yX1_put, Cond.selects RX1 yX1_put yX1_put, Cond.code yX1_put cX1_put 3 none, Cond.fieldLink RX1 19 "SeedMakers$Board" "symbols" "[I", Cond.methodLink RX1 54 yX1_flip, Cond.instanceMethod yX1_flip, Cond.selects RX1 yX1_flip yX1_flip, Cond.code yX1_flip cX1_flip 3 none, Cond.methodLink RX8 42 yX8_search, Cond.instanceMethod yX8_search, Cond.selects RX8 yX8_search yX8_search, Cond.methodLink RX8 64 yX1_takeOut, Cond.instanceMethod yX1_takeOut, Cond.selects RX1 yX1_takeOut yX1_takeOut, Cond.code yX1_takeOut cX1_takeOut 3 none]
def wsX8_search : List Cond := .code yX8_search cX8_search 6 none :: ((wsX8_search_r1 ++ wsX8_search_r2) ++ wsX80 ++ wsX10 ++ wsX40)
def wsX8_count_r1 : List Cond := [Cond.fieldLink RX8 21 "SeedMakers$Solver" "board" "LSeedMakers$Board;", Cond.fieldLink RX8 30 "SeedMakers$Solver" "open" "[I", Cond.fieldLink RX8 7 "SeedMakers$Solver" "limit" "I", Cond.fieldLink RX8 13 "SeedMakers$Solver" "found" "I", Cond.methodLink RX8 34 yX1_putAll, Cond.instanceMethod yX1_putAll, Cond.selects RX1 yX1_putAll yX1_putAll, Cond.initialized RX1, Cond.code yX1_putAll cX1_putAll 3 none, Cond.fieldLink RX1 7 "SeedMakers$Board" "grid" "LSeedMakers$Grid;", Cond.fieldLink RX1 13 "SeedMakers$Grid" "cells" "I", Cond.methodLink RX1 35 yX1_clear, Cond.instanceMethod yX1_clear, Cond.selects RX1 yX1_clear yX1_clear, Cond.code yX1_clear cX1_clear 2 none, Cond.fieldLink RX1 19 "SeedMakers$Board" "symbols" "[I", Cond.fieldLink RX1 23 "SeedMakers$Grid" "side" "I", Cond.fieldLink RX1 26 "SeedMakers$Board" "inRow" "[I", Cond.fieldLink RX1 29 "SeedMakers$Board" "inColumn" "[I", Cond.fieldLink RX1 32 "SeedMakers$Board" "inBox" "[I", Cond.methodLink RX1 38 yX1_put, Cond.instanceMethod yX1_put, Cond.selects RX1 yX1_put yX1_put, Cond.code yX1_put cX1_put 3 none]
def wsX8_count_r2 : List Cond := [Cond.methodLink RX1 54 yX1_flip, Cond.instanceMethod yX1_flip, Cond.selects RX1 yX1_flip yX1_flip, Cond.code yX1_flip cX1_flip 3 none, Cond.fieldLink RX1 45 "SeedMakers$Grid" "row" "[I", Cond.fieldLink RX1 48 "SeedMakers$Grid" "column" "[I", Cond.fieldLink RX1 51 "SeedMakers$Grid" "box" "[I", Cond.methodLink RX8 38 yX1_isEmpty, Cond.instanceMethod yX1_isEmpty, Cond.selects RX1 yX1_isEmpty yX1_isEmpty, Cond.code yX1_isEmpty cX1_isEmpty 2 (some .boolean), Cond.methodLink RX8 42 yX8_search, Cond.instanceMethod yX8_search, Cond.selects RX8 yX8_search yX8_search, Cond.initialized RX8, Cond.code yX8_search cX8_search 6 none, Cond.fieldLink RX8 53 "SeedMakers$Board" "grid" "LSeedMakers$Grid;", Cond.fieldLink RX8 57 "SeedMakers$Grid" "side" "I", Cond.methodLink RX8 46 yX8_tightest, Cond.instanceMethod yX8_tightest, Cond.selects RX8 yX8_tightest yX8_tightest, Cond.code yX8_tightest cX8_tightest 6 (some .int), Cond.constant RX8 69 (2147483647), Cond.methodLink RX8 50 yX1_may]
def wsX8_count_r3 : List Cond := [Cond.instanceMethod yX1_may, Cond.selects RX1 yX1_may yX1_may, Cond.code yX1_may cX1_may 2 (some .int), Cond.fieldLink RX1 42 "SeedMakers$Grid" "allSymbols" "I", Cond.methodLink RX8 70 yJ6_bitCount_0f7a4, Cond.static yJ6_bitCount_0f7a4, Cond.initialized RJ6, Cond.code yJ6_bitCount_0f7a4 cJ6_bitCount_0f7a4 1 (some .int), Cond.constant RJ6 265 (1431655765), Cond.constant RJ6 266 (858993459), Cond.constant RJ6 267 (252645135), Cond.methodLink RX8 60 yX1_put, Cond.methodLink RX8 64 yX1_takeOut, Cond.instanceMethod yX1_takeOut, Cond.selects RX1 yX1_takeOut yX1_takeOut, Cond.code yX1_takeOut cX1_takeOut 3 none]
def wsX8_count : List Cond := .code yX8_count cX8_count 5 (some .int) :: ((wsX8_count_r1 ++ (wsX8_count_r2 ++ wsX8_count_r3)) ++ wsX80 ++ wsX10 ++ wsX40)
def wsX5_takeOutEmptySets_r1 : List Cond := [Cond.fieldLink RX5 32 "SeedMakers$Maker" "grid" "LSeedMakers$Grid;", Cond.fieldLink RX5 80 "SeedMakers$Grid" "cells" "I", Cond.fieldLink RX5 91 "SeedMakers$Maker" "marked" "[Z", Cond.fieldLink RX5 36 "SeedMakers$Maker" "sets" "LSeedMakers$Sets;", Cond.fieldLink RX5 158 "SeedMakers$Sets" "leastOf" "[I", Cond.fieldLink RX5 40 "SeedMakers$Maker" "themes" "[I", Cond.fieldLink RX5 88 "SeedMakers$Maker" "givens" "[I", Cond.fieldLink RX5 76 "SeedMakers$Maker" "solver" "LSeedMakers$Solver;", Cond.methodLink RX5 155 yX5_markSetsWith, Cond.instanceMethod yX5_markSetsWith, Cond.selects RX5 yX5_markSetsWith yX5_markSetsWith, Cond.initialized RX5, Cond.code yX5_markSetsWith cX5_markSetsWith 3 none, Cond.methodLink RX5 163 yX8_count, Cond.instanceMethod yX8_count, Cond.selects RX8 yX8_count yX8_count, Cond.initialized RX8, Cond.code yX8_count cX8_count 5 (some .int), Cond.fieldLink RX8 21 "SeedMakers$Solver" "board" "LSeedMakers$Board;", Cond.fieldLink RX8 30 "SeedMakers$Solver" "open" "[I", Cond.fieldLink RX8 7 "SeedMakers$Solver" "limit" "I", Cond.fieldLink RX8 13 "SeedMakers$Solver" "found" "I", Cond.methodLink RX8 34 yX1_putAll, Cond.instanceMethod yX1_putAll]
def wsX5_takeOutEmptySets_r2 : List Cond := [Cond.selects RX1 yX1_putAll yX1_putAll, Cond.initialized RX1, Cond.code yX1_putAll cX1_putAll 3 none, Cond.fieldLink RX1 7 "SeedMakers$Board" "grid" "LSeedMakers$Grid;", Cond.fieldLink RX1 13 "SeedMakers$Grid" "cells" "I", Cond.methodLink RX1 35 yX1_clear, Cond.instanceMethod yX1_clear, Cond.selects RX1 yX1_clear yX1_clear, Cond.code yX1_clear cX1_clear 2 none, Cond.fieldLink RX1 19 "SeedMakers$Board" "symbols" "[I", Cond.fieldLink RX1 23 "SeedMakers$Grid" "side" "I", Cond.fieldLink RX1 26 "SeedMakers$Board" "inRow" "[I", Cond.fieldLink RX1 29 "SeedMakers$Board" "inColumn" "[I", Cond.fieldLink RX1 32 "SeedMakers$Board" "inBox" "[I", Cond.methodLink RX1 38 yX1_put, Cond.instanceMethod yX1_put, Cond.selects RX1 yX1_put yX1_put, Cond.code yX1_put cX1_put 3 none, Cond.methodLink RX1 54 yX1_flip, Cond.instanceMethod yX1_flip, Cond.selects RX1 yX1_flip yX1_flip, Cond.code yX1_flip cX1_flip 3 none, Cond.fieldLink RX1 45 "SeedMakers$Grid" "row" "[I", Cond.fieldLink RX1 48 "SeedMakers$Grid" "column" "[I"]
def wsX5_takeOutEmptySets_r3 : List Cond := [Cond.fieldLink RX1 51 "SeedMakers$Grid" "box" "[I", Cond.methodLink RX8 38 yX1_isEmpty, Cond.instanceMethod yX1_isEmpty, Cond.selects RX1 yX1_isEmpty yX1_isEmpty, Cond.code yX1_isEmpty cX1_isEmpty 2 (some .boolean), Cond.methodLink RX8 42 yX8_search, Cond.instanceMethod yX8_search, Cond.selects RX8 yX8_search yX8_search, Cond.code yX8_search cX8_search 6 none, Cond.fieldLink RX8 53 "SeedMakers$Board" "grid" "LSeedMakers$Grid;", Cond.fieldLink RX8 57 "SeedMakers$Grid" "side" "I", Cond.methodLink RX8 46 yX8_tightest, Cond.instanceMethod yX8_tightest, Cond.selects RX8 yX8_tightest yX8_tightest, Cond.code yX8_tightest cX8_tightest 6 (some .int), Cond.constant RX8 69 (2147483647), Cond.methodLink RX8 50 yX1_may, Cond.instanceMethod yX1_may, Cond.selects RX1 yX1_may yX1_may, Cond.code yX1_may cX1_may 2 (some .int), Cond.fieldLink RX1 42 "SeedMakers$Grid" "allSymbols" "I", Cond.methodLink RX8 70 yJ6_bitCount_0f7a4, Cond.static yJ6_bitCount_0f7a4, Cond.initialized RJ6]
def wsX5_takeOutEmptySets_r4 : List Cond := [Cond.code yJ6_bitCount_0f7a4 cJ6_bitCount_0f7a4 1 (some .int), Cond.constant RJ6 265 (1431655765), Cond.constant RJ6 266 (858993459), Cond.constant RJ6 267 (252645135), Cond.methodLink RX8 60 yX1_put, Cond.methodLink RX8 64 yX1_takeOut, Cond.instanceMethod yX1_takeOut, Cond.selects RX1 yX1_takeOut yX1_takeOut, Cond.code yX1_takeOut cX1_takeOut 3 none]
def wsX5_takeOutEmptySets : List Cond := .code yX5_takeOutEmptySets cX5_takeOutEmptySets 2 (some .boolean) :: ((wsX5_takeOutEmptySets_r1 ++ (wsX5_takeOutEmptySets_r2 ++ (wsX5_takeOutEmptySets_r3 ++ wsX5_takeOutEmptySets_r4))) ++ wsX50 ++ wsX40 ++ wsX60 ++ wsX80 ++ wsX10)
def wsX5_layRow : List Cond := .code yX5_layRow cX5_layRow 3 (some .int) :: ([.fieldLink RX5 32 "SeedMakers$Maker" "grid" "LSeedMakers$Grid;", .fieldLink RX5 80 "SeedMakers$Grid" "cells" "I", .fieldLink RX5 36 "SeedMakers$Maker" "sets" "LSeedMakers$Sets;", .fieldLink RX5 158 "SeedMakers$Sets" "leastOf" "[I", .fieldLink RX5 88 "SeedMakers$Maker" "givens" "[I", .fieldLink RX5 91 "SeedMakers$Maker" "marked" "[Z", .fieldLink RX5 95 "SeedMakers$Maker" "row" "[I", .methodLink RX5 155 yX5_markSetsWith, .instanceMethod yX5_markSetsWith, .selects RX5 yX5_markSetsWith yX5_markSetsWith, .initialized RX5, .code yX5_markSetsWith cX5_markSetsWith 3 none, .fieldLink RX5 40 "SeedMakers$Maker" "themes" "[I"] ++ wsX50 ++ wsX40 ++ wsX60)
def wsX5_mixRow : List Cond := .code yX5_mixRow cX5_mixRow 5 none :: ([.fieldLink RX5 51 "SeedMakers$Maker" "chance" "LSeedMakers$Chance;", .fieldLink RX5 95 "SeedMakers$Maker" "row" "[I", .methodLink RX5 167 yX2_below, .instanceMethod yX2_below, .selects RX2 yX2_below yX2_below, .initialized RX2, .code yX2_below cX2_below 2 (some .int), .constantLong RX2 13 (6364136223846793005), .fieldLink RX2 7 "SeedMakers$Chance" "state" "J", .constantLong RX2 15 (1442695040888963407), .methodLink RX2 17 yX2_upperBits, .instanceMethod yX2_upperBits, .selects RX2 yX2_upperBits yX2_upperBits, .code yX2_upperBits cX2_upperBits 1 (some .int)] ++ wsX50 ++ wsX20)
def wsX5_needsSet_r1 : List Cond := [Cond.fieldLink RX5 32 "SeedMakers$Maker" "grid" "LSeedMakers$Grid;", Cond.fieldLink RX5 80 "SeedMakers$Grid" "cells" "I", Cond.fieldLink RX5 36 "SeedMakers$Maker" "sets" "LSeedMakers$Sets;", Cond.fieldLink RX5 158 "SeedMakers$Sets" "leastOf" "[I", Cond.fieldLink RX5 88 "SeedMakers$Maker" "givens" "[I", Cond.fieldLink RX5 98 "SeedMakers$Maker" "without" "[I", Cond.fieldLink RX5 76 "SeedMakers$Maker" "solver" "LSeedMakers$Solver;", Cond.methodLink RX5 163 yX8_count, Cond.instanceMethod yX8_count, Cond.selects RX8 yX8_count yX8_count, Cond.initialized RX8, Cond.code yX8_count cX8_count 5 (some .int), Cond.fieldLink RX8 21 "SeedMakers$Solver" "board" "LSeedMakers$Board;", Cond.fieldLink RX8 30 "SeedMakers$Solver" "open" "[I", Cond.fieldLink RX8 7 "SeedMakers$Solver" "limit" "I", Cond.fieldLink RX8 13 "SeedMakers$Solver" "found" "I", Cond.methodLink RX8 34 yX1_putAll, Cond.instanceMethod yX1_putAll, Cond.selects RX1 yX1_putAll yX1_putAll, Cond.initialized RX1, Cond.code yX1_putAll cX1_putAll 3 none, Cond.fieldLink RX1 7 "SeedMakers$Board" "grid" "LSeedMakers$Grid;", Cond.fieldLink RX1 13 "SeedMakers$Grid" "cells" "I", Cond.methodLink RX1 35 yX1_clear]
def wsX5_needsSet_r2 : List Cond := [Cond.instanceMethod yX1_clear, Cond.selects RX1 yX1_clear yX1_clear, Cond.code yX1_clear cX1_clear 2 none, Cond.fieldLink RX1 19 "SeedMakers$Board" "symbols" "[I", Cond.fieldLink RX1 23 "SeedMakers$Grid" "side" "I", Cond.fieldLink RX1 26 "SeedMakers$Board" "inRow" "[I", Cond.fieldLink RX1 29 "SeedMakers$Board" "inColumn" "[I", Cond.fieldLink RX1 32 "SeedMakers$Board" "inBox" "[I", Cond.methodLink RX1 38 yX1_put, Cond.instanceMethod yX1_put, Cond.selects RX1 yX1_put yX1_put, Cond.code yX1_put cX1_put 3 none, Cond.methodLink RX1 54 yX1_flip, Cond.instanceMethod yX1_flip, Cond.selects RX1 yX1_flip yX1_flip, Cond.code yX1_flip cX1_flip 3 none, Cond.fieldLink RX1 45 "SeedMakers$Grid" "row" "[I", Cond.fieldLink RX1 48 "SeedMakers$Grid" "column" "[I", Cond.fieldLink RX1 51 "SeedMakers$Grid" "box" "[I", Cond.methodLink RX8 38 yX1_isEmpty, Cond.instanceMethod yX1_isEmpty, Cond.selects RX1 yX1_isEmpty yX1_isEmpty, Cond.code yX1_isEmpty cX1_isEmpty 2 (some .boolean), Cond.methodLink RX8 42 yX8_search]
def wsX5_needsSet_r3 : List Cond := [Cond.instanceMethod yX8_search, Cond.selects RX8 yX8_search yX8_search, Cond.code yX8_search cX8_search 6 none, Cond.fieldLink RX8 53 "SeedMakers$Board" "grid" "LSeedMakers$Grid;", Cond.fieldLink RX8 57 "SeedMakers$Grid" "side" "I", Cond.methodLink RX8 46 yX8_tightest, Cond.instanceMethod yX8_tightest, Cond.selects RX8 yX8_tightest yX8_tightest, Cond.code yX8_tightest cX8_tightest 6 (some .int), Cond.constant RX8 69 (2147483647), Cond.methodLink RX8 50 yX1_may, Cond.instanceMethod yX1_may, Cond.selects RX1 yX1_may yX1_may, Cond.code yX1_may cX1_may 2 (some .int), Cond.fieldLink RX1 42 "SeedMakers$Grid" "allSymbols" "I", Cond.methodLink RX8 70 yJ6_bitCount_0f7a4, Cond.static yJ6_bitCount_0f7a4, Cond.initialized RJ6, Cond.code yJ6_bitCount_0f7a4 cJ6_bitCount_0f7a4 1 (some .int), Cond.constant RJ6 265 (1431655765), Cond.constant RJ6 266 (858993459), Cond.constant RJ6 267 (252645135), Cond.methodLink RX8 60 yX1_put, Cond.methodLink RX8 64 yX1_takeOut]
def wsX5_needsSet_r4 : List Cond := [Cond.instanceMethod yX1_takeOut, Cond.selects RX1 yX1_takeOut yX1_takeOut, Cond.code yX1_takeOut cX1_takeOut 3 none]
def wsX5_needsSet : List Cond := .code yX5_needsSet cX5_needsSet 5 (some .boolean) :: ((wsX5_needsSet_r1 ++ (wsX5_needsSet_r2 ++ (wsX5_needsSet_r3 ++ wsX5_needsSet_r4))) ++ wsX50 ++ wsX40 ++ wsX60 ++ wsX80 ++ wsX10)
def wsX5_countGivens : List Cond := .code yX5_countGivens cX5_countGivens 3 (some .int) :: ([.fieldLink RX5 32 "SeedMakers$Maker" "grid" "LSeedMakers$Grid;", .fieldLink RX5 80 "SeedMakers$Grid" "cells" "I", .fieldLink RX5 88 "SeedMakers$Maker" "givens" "[I"] ++ wsX50 ++ wsX40)
def wsX7_fillLoneSymbols_r1 : List Cond := [Cond.fieldLink RX7 7 "SeedMakers$Singles" "grid" "LSeedMakers$Grid;", Cond.fieldLink RX7 26 "SeedMakers$Grid" "cells" "I", Cond.fieldLink RX7 18 "SeedMakers$Singles" "board" "LSeedMakers$Board;", Cond.methodLink RX7 39 yX1_isEmpty, Cond.instanceMethod yX1_isEmpty, Cond.selects RX1 yX1_isEmpty yX1_isEmpty, Cond.initialized RX1, Cond.code yX1_isEmpty cX1_isEmpty 2 (some .boolean), Cond.fieldLink RX1 19 "SeedMakers$Board" "symbols" "[I", Cond.methodLink RX7 43 yX1_may, Cond.instanceMethod yX1_may, Cond.selects RX1 yX1_may yX1_may, Cond.code yX1_may cX1_may 2 (some .int), Cond.fieldLink RX1 7 "SeedMakers$Board" "grid" "LSeedMakers$Grid;", Cond.fieldLink RX1 42 "SeedMakers$Grid" "allSymbols" "I", Cond.fieldLink RX1 26 "SeedMakers$Board" "inRow" "[I", Cond.fieldLink RX1 45 "SeedMakers$Grid" "row" "[I", Cond.fieldLink RX1 29 "SeedMakers$Board" "inColumn" "[I", Cond.fieldLink RX1 48 "SeedMakers$Grid" "column" "[I", Cond.fieldLink RX1 32 "SeedMakers$Board" "inBox" "[I", Cond.fieldLink RX1 51 "SeedMakers$Grid" "box" "[I", Cond.methodLink RX7 47 yJ6_bitCount_0f7a4, Cond.static yJ6_bitCount_0f7a4, Cond.initialized RJ6]
def wsX7_fillLoneSymbols_r2 : List Cond := [Cond.code yJ6_bitCount_0f7a4 cJ6_bitCount_0f7a4 1 (some .int), Cond.constant RJ6 265 (1431655765), Cond.constant RJ6 266 (858993459), Cond.constant RJ6 267 (252645135), Cond.methodLink RX7 52 yJ6_numberOfTrailingZeros_0f7a4, Cond.static yJ6_numberOfTrailingZeros_0f7a4, Cond.code yJ6_numberOfTrailingZeros_0f7a4 cJ6_numberOfTrailingZeros_0f7a4 2 (some .int), Cond.constant RJ6 264 (65536), Cond.methodLink RX7 55 yX1_put, Cond.instanceMethod yX1_put, Cond.selects RX1 yX1_put yX1_put, Cond.code yX1_put cX1_put 3 none, Cond.methodLink RX1 54 yX1_flip, Cond.instanceMethod yX1_flip, Cond.selects RX1 yX1_flip yX1_flip, Cond.code yX1_flip cX1_flip 3 none]
def wsX7_fillLoneSymbols : List Cond := .code yX7_fillLoneSymbols cX7_fillLoneSymbols 4 (some .boolean) :: ((wsX7_fillLoneSymbols_r1 ++ wsX7_fillLoneSymbols_r2) ++ wsX70 ++ wsX40 ++ wsX10)
def wsX7_symbolsOfOneCell : List Cond := .code yX7_symbolsOfOneCell cX7_symbolsOfOneCell 6 (some .int) :: ([.fieldLink RX7 18 "SeedMakers$Singles" "board" "LSeedMakers$Board;", .methodLink RX7 39 yX1_isEmpty, .instanceMethod yX1_isEmpty, .selects RX1 yX1_isEmpty yX1_isEmpty, .initialized RX1, .code yX1_isEmpty cX1_isEmpty 2 (some .boolean), .fieldLink RX1 19 "SeedMakers$Board" "symbols" "[I", .methodLink RX7 43 yX1_may, .instanceMethod yX1_may, .selects RX1 yX1_may yX1_may, .code yX1_may cX1_may 2 (some .int), .fieldLink RX1 7 "SeedMakers$Board" "grid" "LSeedMakers$Grid;", .fieldLink RX1 42 "SeedMakers$Grid" "allSymbols" "I", .fieldLink RX1 26 "SeedMakers$Board" "inRow" "[I", .fieldLink RX1 45 "SeedMakers$Grid" "row" "[I", .fieldLink RX1 29 "SeedMakers$Board" "inColumn" "[I", .fieldLink RX1 48 "SeedMakers$Grid" "column" "[I", .fieldLink RX1 32 "SeedMakers$Board" "inBox" "[I", .fieldLink RX1 51 "SeedMakers$Grid" "box" "[I"] ++ wsX70 ++ wsX10 ++ wsX40)
def wsX7_fillFrom_r1 : List Cond := [Cond.fieldLink RX7 18 "SeedMakers$Singles" "board" "LSeedMakers$Board;", Cond.methodLink RX7 39 yX1_isEmpty, Cond.instanceMethod yX1_isEmpty, Cond.selects RX1 yX1_isEmpty yX1_isEmpty, Cond.initialized RX1, Cond.code yX1_isEmpty cX1_isEmpty 2 (some .boolean), Cond.fieldLink RX1 19 "SeedMakers$Board" "symbols" "[I", Cond.methodLink RX7 43 yX1_may, Cond.instanceMethod yX1_may, Cond.selects RX1 yX1_may yX1_may, Cond.code yX1_may cX1_may 2 (some .int), Cond.fieldLink RX1 7 "SeedMakers$Board" "grid" "LSeedMakers$Grid;", Cond.fieldLink RX1 42 "SeedMakers$Grid" "allSymbols" "I", Cond.fieldLink RX1 26 "SeedMakers$Board" "inRow" "[I", Cond.fieldLink RX1 45 "SeedMakers$Grid" "row" "[I", Cond.fieldLink RX1 29 "SeedMakers$Board" "inColumn" "[I", Cond.fieldLink RX1 48 "SeedMakers$Grid" "column" "[I", Cond.fieldLink RX1 32 "SeedMakers$Board" "inBox" "[I", Cond.fieldLink RX1 51 "SeedMakers$Grid" "box" "[I", Cond.methodLink RX7 52 yJ6_numberOfTrailingZeros_0f7a4, Cond.static yJ6_numberOfTrailingZeros_0f7a4, Cond.initialized RJ6, Cond.code yJ6_numberOfTrailingZeros_0f7a4 cJ6_numberOfTrailingZeros_0f7a4 2 (some .int), Cond.constant RJ6 264 (65536)]
def wsX7_fillFrom_r2 : List Cond := [Cond.methodLink RX7 55 yX1_put, Cond.instanceMethod yX1_put, Cond.selects RX1 yX1_put yX1_put, Cond.code yX1_put cX1_put 3 none, Cond.methodLink RX1 54 yX1_flip, Cond.instanceMethod yX1_flip, Cond.selects RX1 yX1_flip yX1_flip, Cond.code yX1_flip cX1_flip 3 none]
def wsX7_fillFrom : List Cond := .code yX7_fillFrom cX7_fillFrom 6 (some .boolean) :: ((wsX7_fillFrom_r1 ++ wsX7_fillFrom_r2) ++ wsX70 ++ wsX10 ++ wsX40)
def wsX7_fillLoneCells_r1 : List Cond := [Cond.fieldLink RX7 7 "SeedMakers$Singles" "grid" "LSeedMakers$Grid;", Cond.fieldLink RX7 59 "SeedMakers$Grid" "units" "[[I", Cond.methodLink RX7 63 yX7_symbolsOfOneCell, Cond.instanceMethod yX7_symbolsOfOneCell, Cond.selects RX7 yX7_symbolsOfOneCell yX7_symbolsOfOneCell, Cond.initialized RX7, Cond.code yX7_symbolsOfOneCell cX7_symbolsOfOneCell 6 (some .int), Cond.fieldLink RX7 18 "SeedMakers$Singles" "board" "LSeedMakers$Board;", Cond.methodLink RX7 39 yX1_isEmpty, Cond.instanceMethod yX1_isEmpty, Cond.selects RX1 yX1_isEmpty yX1_isEmpty, Cond.initialized RX1, Cond.code yX1_isEmpty cX1_isEmpty 2 (some .boolean), Cond.fieldLink RX1 19 "SeedMakers$Board" "symbols" "[I", Cond.methodLink RX7 43 yX1_may, Cond.instanceMethod yX1_may, Cond.selects RX1 yX1_may yX1_may, Cond.code yX1_may cX1_may 2 (some .int), Cond.fieldLink RX1 7 "SeedMakers$Board" "grid" "LSeedMakers$Grid;", Cond.fieldLink RX1 42 "SeedMakers$Grid" "allSymbols" "I", Cond.fieldLink RX1 26 "SeedMakers$Board" "inRow" "[I", Cond.fieldLink RX1 45 "SeedMakers$Grid" "row" "[I", Cond.fieldLink RX1 29 "SeedMakers$Board" "inColumn" "[I", Cond.fieldLink RX1 48 "SeedMakers$Grid" "column" "[I"]
def wsX7_fillLoneCells_r2 : List Cond := [Cond.fieldLink RX1 32 "SeedMakers$Board" "inBox" "[I", Cond.fieldLink RX1 51 "SeedMakers$Grid" "box" "[I", Cond.methodLink RX7 67 yX7_fillFrom, Cond.instanceMethod yX7_fillFrom, Cond.selects RX7 yX7_fillFrom yX7_fillFrom, Cond.code yX7_fillFrom cX7_fillFrom 6 (some .boolean), Cond.methodLink RX7 52 yJ6_numberOfTrailingZeros_0f7a4, Cond.static yJ6_numberOfTrailingZeros_0f7a4, Cond.initialized RJ6, Cond.code yJ6_numberOfTrailingZeros_0f7a4 cJ6_numberOfTrailingZeros_0f7a4 2 (some .int), Cond.constant RJ6 264 (65536), Cond.methodLink RX7 55 yX1_put, Cond.instanceMethod yX1_put, Cond.selects RX1 yX1_put yX1_put, Cond.code yX1_put cX1_put 3 none, Cond.methodLink RX1 54 yX1_flip, Cond.instanceMethod yX1_flip, Cond.selects RX1 yX1_flip yX1_flip, Cond.code yX1_flip cX1_flip 3 none]
def wsX7_fillLoneCells : List Cond := .code yX7_fillLoneCells cX7_fillLoneCells 4 (some .boolean) :: ((wsX7_fillLoneCells_r1 ++ wsX7_fillLoneCells_r2) ++ wsX70 ++ wsX40 ++ wsX10)
def wsX7_countUnknown_r1 : List Cond := [Cond.fieldLink RX7 18 "SeedMakers$Singles" "board" "LSeedMakers$Board;", Cond.fieldLink RX7 7 "SeedMakers$Singles" "grid" "LSeedMakers$Grid;", Cond.fieldLink RX7 26 "SeedMakers$Grid" "cells" "I", Cond.methodLink RX7 22 yX1_putAll, Cond.instanceMethod yX1_putAll, Cond.selects RX1 yX1_putAll yX1_putAll, Cond.initialized RX1, Cond.code yX1_putAll cX1_putAll 3 none, Cond.fieldLink RX1 7 "SeedMakers$Board" "grid" "LSeedMakers$Grid;", Cond.fieldLink RX1 13 "SeedMakers$Grid" "cells" "I", Cond.methodLink RX1 35 yX1_clear, Cond.instanceMethod yX1_clear, Cond.selects RX1 yX1_clear yX1_clear, Cond.code yX1_clear cX1_clear 2 none, Cond.fieldLink RX1 19 "SeedMakers$Board" "symbols" "[I", Cond.fieldLink RX1 23 "SeedMakers$Grid" "side" "I", Cond.fieldLink RX1 26 "SeedMakers$Board" "inRow" "[I", Cond.fieldLink RX1 29 "SeedMakers$Board" "inColumn" "[I", Cond.fieldLink RX1 32 "SeedMakers$Board" "inBox" "[I", Cond.methodLink RX1 38 yX1_put, Cond.instanceMethod yX1_put, Cond.selects RX1 yX1_put yX1_put, Cond.code yX1_put cX1_put 3 none, Cond.methodLink RX1 54 yX1_flip]
def wsX7_countUnknown_r2 : List Cond := [Cond.instanceMethod yX1_flip, Cond.selects RX1 yX1_flip yX1_flip, Cond.code yX1_flip cX1_flip 3 none, Cond.fieldLink RX1 45 "SeedMakers$Grid" "row" "[I", Cond.fieldLink RX1 48 "SeedMakers$Grid" "column" "[I", Cond.fieldLink RX1 51 "SeedMakers$Grid" "box" "[I", Cond.methodLink RX7 32 yX7_fillLoneSymbols, Cond.instanceMethod yX7_fillLoneSymbols, Cond.selects RX7 yX7_fillLoneSymbols yX7_fillLoneSymbols, Cond.initialized RX7, Cond.code yX7_fillLoneSymbols cX7_fillLoneSymbols 4 (some .boolean), Cond.methodLink RX7 39 yX1_isEmpty, Cond.instanceMethod yX1_isEmpty, Cond.selects RX1 yX1_isEmpty yX1_isEmpty, Cond.code yX1_isEmpty cX1_isEmpty 2 (some .boolean), Cond.methodLink RX7 43 yX1_may, Cond.instanceMethod yX1_may, Cond.selects RX1 yX1_may yX1_may, Cond.code yX1_may cX1_may 2 (some .int), Cond.fieldLink RX1 42 "SeedMakers$Grid" "allSymbols" "I", Cond.methodLink RX7 47 yJ6_bitCount_0f7a4, Cond.static yJ6_bitCount_0f7a4, Cond.initialized RJ6, Cond.code yJ6_bitCount_0f7a4 cJ6_bitCount_0f7a4 1 (some .int)]
def wsX7_countUnknown_r3 : List Cond := [Cond.constant RJ6 265 (1431655765), Cond.constant RJ6 266 (858993459), Cond.constant RJ6 267 (252645135), Cond.methodLink RX7 52 yJ6_numberOfTrailingZeros_0f7a4, Cond.static yJ6_numberOfTrailingZeros_0f7a4, Cond.code yJ6_numberOfTrailingZeros_0f7a4 cJ6_numberOfTrailingZeros_0f7a4 2 (some .int), Cond.constant RJ6 264 (65536), Cond.methodLink RX7 55 yX1_put, Cond.methodLink RX7 36 yX7_fillLoneCells, Cond.instanceMethod yX7_fillLoneCells, Cond.selects RX7 yX7_fillLoneCells yX7_fillLoneCells, Cond.code yX7_fillLoneCells cX7_fillLoneCells 4 (some .boolean), Cond.fieldLink RX7 59 "SeedMakers$Grid" "units" "[[I", Cond.methodLink RX7 63 yX7_symbolsOfOneCell, Cond.instanceMethod yX7_symbolsOfOneCell, Cond.selects RX7 yX7_symbolsOfOneCell yX7_symbolsOfOneCell, Cond.code yX7_symbolsOfOneCell cX7_symbolsOfOneCell 6 (some .int), Cond.methodLink RX7 67 yX7_fillFrom, Cond.instanceMethod yX7_fillFrom, Cond.selects RX7 yX7_fillFrom yX7_fillFrom, Cond.code yX7_fillFrom cX7_fillFrom 6 (some .boolean)]
def wsX7_countUnknown : List Cond := .code yX7_countUnknown cX7_countUnknown 6 (some .int) :: ((wsX7_countUnknown_r1 ++ (wsX7_countUnknown_r2 ++ wsX7_countUnknown_r3)) ++ wsX70 ++ wsX40 ++ wsX10)
def wsX5_tryOnce_r1 : List Cond := [Cond.fieldLink RX5 13 "SeedMakers$Maker" "triesMade" "I", Cond.fieldLink RX5 20 "SeedMakers$Maker" "takenOut" "I", Cond.fieldLink RX5 95 "SeedMakers$Maker" "row" "[I", Cond.fieldLink RX5 23 "SeedMakers$Maker" "putBack" "I", Cond.fieldLink RX5 98 "SeedMakers$Maker" "without" "[I", Cond.fieldLink RX5 88 "SeedMakers$Maker" "givens" "[I", Cond.methodLink RX5 124 arraycopyName, Cond.native arraycopyName, Cond.static arraycopyName, Cond.initialized "java/lang/System", Cond.fieldLink RX5 26 "SeedMakers$Maker" "givenCells" "I", Cond.fieldLink RX5 69 "SeedMakers$Maker" "singles" "LSeedMakers$Singles;", Cond.fieldLink RX5 29 "SeedMakers$Maker" "unknownCells" "I", Cond.fieldLink RX5 44 "SeedMakers$Maker" "aimed" "LSeedMakers$Aim;", Cond.fieldLink RX5 7 "SeedMakers$Maker" "made" "Z", Cond.methodLink RX5 105 yX5_drawWhole, Cond.instanceMethod yX5_drawWhole, Cond.selects RX5 yX5_drawWhole yX5_drawWhole, Cond.initialized RX5, Cond.code yX5_drawWhole cX5_drawWhole 3 (some .boolean), Cond.fieldLink RX5 60 "SeedMakers$Maker" "drawer" "LSeedMakers$Drawer;", Cond.fieldLink RX5 17 "SeedMakers$Maker" "restarts" "I", Cond.fieldLink RX5 146 "SeedMakers$Drawer" "board" "LSeedMakers$Board;", Cond.fieldLink RX5 150 "SeedMakers$Board" "symbols" "[I"]
def wsX5_tryOnce_r2 : List Cond := [Cond.fieldLink RX5 85 "SeedMakers$Maker" "whole" "[I", Cond.methodLink RX5 143 yX3_fill, Cond.instanceMethod yX3_fill, Cond.selects RX3 yX3_fill yX3_fill, Cond.initialized RX3, Cond.code yX3_fill cX3_fill 5 (some .boolean), Cond.fieldLink RX3 22 "SeedMakers$Drawer" "board" "LSeedMakers$Board;", Cond.fieldLink RX3 7 "SeedMakers$Drawer" "grid" "LSeedMakers$Grid;", Cond.fieldLink RX3 29 "SeedMakers$Grid" "cells" "I", Cond.fieldLink RX3 13 "SeedMakers$Drawer" "chance" "LSeedMakers$Chance;", Cond.methodLink RX3 26 yX1_clear, Cond.instanceMethod yX1_clear, Cond.selects RX1 yX1_clear yX1_clear, Cond.initialized RX1, Cond.code yX1_clear cX1_clear 2 none, Cond.fieldLink RX1 7 "SeedMakers$Board" "grid" "LSeedMakers$Grid;", Cond.fieldLink RX1 13 "SeedMakers$Grid" "cells" "I", Cond.fieldLink RX1 19 "SeedMakers$Board" "symbols" "[I", Cond.fieldLink RX1 23 "SeedMakers$Grid" "side" "I", Cond.fieldLink RX1 26 "SeedMakers$Board" "inRow" "[I", Cond.fieldLink RX1 29 "SeedMakers$Board" "inColumn" "[I", Cond.fieldLink RX1 32 "SeedMakers$Board" "inBox" "[I", Cond.methodLink RX3 35 yX3_tightest, Cond.instanceMethod yX3_tightest]
def wsX5_tryOnce_r3 : List Cond := [Cond.selects RX3 yX3_tightest yX3_tightest, Cond.code yX3_tightest cX3_tightest 5 (some .int), Cond.constant RX3 61 (2147483647), Cond.methodLink RX3 62 yX1_isEmpty, Cond.instanceMethod yX1_isEmpty, Cond.selects RX1 yX1_isEmpty yX1_isEmpty, Cond.code yX1_isEmpty cX1_isEmpty 2 (some .boolean), Cond.methodLink RX3 39 yX1_may, Cond.instanceMethod yX1_may, Cond.selects RX1 yX1_may yX1_may, Cond.code yX1_may cX1_may 2 (some .int), Cond.fieldLink RX1 42 "SeedMakers$Grid" "allSymbols" "I", Cond.fieldLink RX1 45 "SeedMakers$Grid" "row" "[I", Cond.fieldLink RX1 48 "SeedMakers$Grid" "column" "[I", Cond.fieldLink RX1 51 "SeedMakers$Grid" "box" "[I", Cond.methodLink RX3 43 yJ6_bitCount_0f7a4, Cond.static yJ6_bitCount_0f7a4, Cond.initialized RJ6, Cond.code yJ6_bitCount_0f7a4 cJ6_bitCount_0f7a4 1 (some .int), Cond.constant RJ6 265 (1431655765), Cond.constant RJ6 266 (858993459), Cond.constant RJ6 267 (252645135), Cond.methodLink RX3 48 yX2_below, Cond.instanceMethod yX2_below]
def wsX5_tryOnce_r4 : List Cond := [Cond.selects RX2 yX2_below yX2_below, Cond.initialized RX2, Cond.code yX2_below cX2_below 2 (some .int), Cond.constantLong RX2 13 (6364136223846793005), Cond.fieldLink RX2 7 "SeedMakers$Chance" "state" "J", Cond.constantLong RX2 15 (1442695040888963407), Cond.methodLink RX2 17 yX2_upperBits, Cond.instanceMethod yX2_upperBits, Cond.selects RX2 yX2_upperBits yX2_upperBits, Cond.code yX2_upperBits cX2_upperBits 1 (some .int), Cond.methodLink RX3 53 yX3_symbolAt, Cond.static yX3_symbolAt, Cond.code yX3_symbolAt cX3_symbolAt 4 (some .int), Cond.methodLink RX3 66 yJ6_numberOfTrailingZeros_0f7a4, Cond.static yJ6_numberOfTrailingZeros_0f7a4, Cond.code yJ6_numberOfTrailingZeros_0f7a4 cJ6_numberOfTrailingZeros_0f7a4 2 (some .int), Cond.constant RJ6 264 (65536), Cond.methodLink RX3 57 yX1_put, Cond.instanceMethod yX1_put, Cond.selects RX1 yX1_put yX1_put, Cond.code yX1_put cX1_put 3 none, Cond.methodLink RX1 54 yX1_flip, Cond.instanceMethod yX1_flip, Cond.selects RX1 yX1_flip yX1_flip]
def wsX5_tryOnce_r5 : List Cond := [Cond.code yX1_flip cX1_flip 3 none, Cond.methodLink RX5 109 yX5_takeOutEmptySets, Cond.instanceMethod yX5_takeOutEmptySets, Cond.selects RX5 yX5_takeOutEmptySets yX5_takeOutEmptySets, Cond.code yX5_takeOutEmptySets cX5_takeOutEmptySets 2 (some .boolean), Cond.fieldLink RX5 32 "SeedMakers$Maker" "grid" "LSeedMakers$Grid;", Cond.fieldLink RX5 80 "SeedMakers$Grid" "cells" "I", Cond.fieldLink RX5 91 "SeedMakers$Maker" "marked" "[Z", Cond.fieldLink RX5 36 "SeedMakers$Maker" "sets" "LSeedMakers$Sets;", Cond.fieldLink RX5 158 "SeedMakers$Sets" "leastOf" "[I", Cond.fieldLink RX5 40 "SeedMakers$Maker" "themes" "[I", Cond.fieldLink RX5 76 "SeedMakers$Maker" "solver" "LSeedMakers$Solver;", Cond.methodLink RX5 155 yX5_markSetsWith, Cond.instanceMethod yX5_markSetsWith, Cond.selects RX5 yX5_markSetsWith yX5_markSetsWith, Cond.code yX5_markSetsWith cX5_markSetsWith 3 none, Cond.methodLink RX5 163 yX8_count, Cond.instanceMethod yX8_count, Cond.selects RX8 yX8_count yX8_count, Cond.initialized RX8, Cond.code yX8_count cX8_count 5 (some .int), Cond.fieldLink RX8 21 "SeedMakers$Solver" "board" "LSeedMakers$Board;", Cond.fieldLink RX8 30 "SeedMakers$Solver" "open" "[I", Cond.fieldLink RX8 7 "SeedMakers$Solver" "limit" "I"]
def wsX5_tryOnce_r6 : List Cond := [Cond.fieldLink RX8 13 "SeedMakers$Solver" "found" "I", Cond.methodLink RX8 34 yX1_putAll, Cond.instanceMethod yX1_putAll, Cond.selects RX1 yX1_putAll yX1_putAll, Cond.code yX1_putAll cX1_putAll 3 none, Cond.methodLink RX1 35 yX1_clear, Cond.methodLink RX1 38 yX1_put, Cond.methodLink RX8 38 yX1_isEmpty, Cond.methodLink RX8 42 yX8_search, Cond.instanceMethod yX8_search, Cond.selects RX8 yX8_search yX8_search, Cond.code yX8_search cX8_search 6 none, Cond.fieldLink RX8 53 "SeedMakers$Board" "grid" "LSeedMakers$Grid;", Cond.fieldLink RX8 57 "SeedMakers$Grid" "side" "I", Cond.methodLink RX8 46 yX8_tightest, Cond.instanceMethod yX8_tightest, Cond.selects RX8 yX8_tightest yX8_tightest, Cond.code yX8_tightest cX8_tightest 6 (some .int), Cond.constant RX8 69 (2147483647), Cond.methodLink RX8 50 yX1_may, Cond.methodLink RX8 70 yJ6_bitCount_0f7a4, Cond.methodLink RX8 60 yX1_put, Cond.methodLink RX8 64 yX1_takeOut, Cond.instanceMethod yX1_takeOut]
def wsX5_tryOnce_r7 : List Cond := [Cond.selects RX1 yX1_takeOut yX1_takeOut, Cond.code yX1_takeOut cX1_takeOut 3 none, Cond.methodLink RX5 112 yX5_layRow, Cond.instanceMethod yX5_layRow, Cond.selects RX5 yX5_layRow yX5_layRow, Cond.code yX5_layRow cX5_layRow 3 (some .int), Cond.methodLink RX5 116 yX5_mixRow, Cond.instanceMethod yX5_mixRow, Cond.selects RX5 yX5_mixRow yX5_mixRow, Cond.code yX5_mixRow cX5_mixRow 5 none, Cond.fieldLink RX5 51 "SeedMakers$Maker" "chance" "LSeedMakers$Chance;", Cond.methodLink RX5 167 yX2_below, Cond.methodLink RX5 120 yX5_needsSet, Cond.instanceMethod yX5_needsSet, Cond.selects RX5 yX5_needsSet yX5_needsSet, Cond.code yX5_needsSet cX5_needsSet 5 (some .boolean), Cond.methodLink RX5 130 yX5_countGivens, Cond.instanceMethod yX5_countGivens, Cond.selects RX5 yX5_countGivens yX5_countGivens, Cond.code yX5_countGivens cX5_countGivens 3 (some .int), Cond.methodLink RX5 133 yX7_countUnknown, Cond.instanceMethod yX7_countUnknown, Cond.selects RX7 yX7_countUnknown yX7_countUnknown, Cond.initialized RX7]
def wsX5_tryOnce_r8 : List Cond := [Cond.code yX7_countUnknown cX7_countUnknown 6 (some .int), Cond.fieldLink RX7 18 "SeedMakers$Singles" "board" "LSeedMakers$Board;", Cond.fieldLink RX7 7 "SeedMakers$Singles" "grid" "LSeedMakers$Grid;", Cond.fieldLink RX7 26 "SeedMakers$Grid" "cells" "I", Cond.methodLink RX7 22 yX1_putAll, Cond.methodLink RX7 32 yX7_fillLoneSymbols, Cond.instanceMethod yX7_fillLoneSymbols, Cond.selects RX7 yX7_fillLoneSymbols yX7_fillLoneSymbols, Cond.code yX7_fillLoneSymbols cX7_fillLoneSymbols 4 (some .boolean), Cond.methodLink RX7 39 yX1_isEmpty, Cond.methodLink RX7 43 yX1_may, Cond.methodLink RX7 47 yJ6_bitCount_0f7a4, Cond.methodLink RX7 52 yJ6_numberOfTrailingZeros_0f7a4, Cond.methodLink RX7 55 yX1_put, Cond.methodLink RX7 36 yX7_fillLoneCells, Cond.instanceMethod yX7_fillLoneCells, Cond.selects RX7 yX7_fillLoneCells yX7_fillLoneCells, Cond.code yX7_fillLoneCells cX7_fillLoneCells 4 (some .boolean), Cond.fieldLink RX7 59 "SeedMakers$Grid" "units" "[[I", Cond.methodLink RX7 63 yX7_symbolsOfOneCell, Cond.instanceMethod yX7_symbolsOfOneCell, Cond.selects RX7 yX7_symbolsOfOneCell yX7_symbolsOfOneCell, Cond.code yX7_symbolsOfOneCell cX7_symbolsOfOneCell 6 (some .int), Cond.methodLink RX7 67 yX7_fillFrom]
def wsX5_tryOnce_r9 : List Cond := [Cond.instanceMethod yX7_fillFrom, Cond.selects RX7 yX7_fillFrom yX7_fillFrom, Cond.code yX7_fillFrom cX7_fillFrom 6 (some .boolean), Cond.methodLink RX5 137 yX0_isMet, Cond.instanceMethod yX0_isMet, Cond.selects RX0 yX0_isMet yX0_isMet, Cond.initialized RX0, Cond.code yX0_isMet cX0_isMet 3 (some .boolean), Cond.fieldLink RX0 13 "SeedMakers$Aim" "least" "I", Cond.fieldLink RX0 19 "SeedMakers$Aim" "most" "I", Cond.fieldLink RX0 7 "SeedMakers$Aim" "easy" "I"]
def wsX5_tryOnce : List Cond := .code yX5_tryOnce cX5_tryOnce 3 (some .boolean) :: ((wsX5_tryOnce_r1 ++ (wsX5_tryOnce_r2 ++ (wsX5_tryOnce_r3 ++ (wsX5_tryOnce_r4 ++ (wsX5_tryOnce_r5 ++ (wsX5_tryOnce_r6 ++ (wsX5_tryOnce_r7 ++ (wsX5_tryOnce_r8 ++ wsX5_tryOnce_r9)))))))) ++ wsX50 ++ wsX30 ++ wsX10 ++ wsX40 ++ wsX20 ++ wsX60 ++ wsX80 ++ wsX70 ++ wsX00)
def wsX6_init : List Cond := .code yX6_init cX6_init 3 none :: ([.methodLink RX6 1 objectInit, .instanceMethod objectInit, .code objectInit ⟨#[0xb1]⟩ 1 none, .fieldLink RX6 7 "SeedMakers$Sets" "grid" "LSeedMakers$Grid;", .fieldLink RX6 13 "SeedMakers$Grid" "cells" "I", .arrayClass .int, .fieldLink RX6 19 "SeedMakers$Sets" "leastOf" "[I"] ++ wsX60 ++ wsX40)
def wsX6_moved : List Cond := .code yX6_moved cX6_moved 6 (some .int) :: ([.fieldLink RX6 7 "SeedMakers$Sets" "grid" "LSeedMakers$Grid;", .fieldLink RX6 32 "SeedMakers$Grid" "side" "I", .fieldLink RX6 35 "SeedMakers$Grid" "column" "[I", .fieldLink RX6 38 "SeedMakers$Grid" "row" "[I"] ++ wsX60 ++ wsX40)
def wsX6_joinBy : List Cond := .code yX6_joinBy cX6_joinBy 6 none :: ([.fieldLink RX6 7 "SeedMakers$Sets" "grid" "LSeedMakers$Grid;", .fieldLink RX6 13 "SeedMakers$Grid" "cells" "I", .methodLink RX6 27 Lib.Math.min.name, .static Lib.Math.min.name, .initialized "java/lang/Math", .code Lib.Math.min.name Lib.Math.min.code 2 (some .int), .fieldLink RX6 19 "SeedMakers$Sets" "leastOf" "[I", .methodLink RX6 23 yX6_moved, .instanceMethod yX6_moved, .selects RX6 yX6_moved yX6_moved, .initialized RX6, .code yX6_moved cX6_moved 6 (some .int), .fieldLink RX6 32 "SeedMakers$Grid" "side" "I", .fieldLink RX6 35 "SeedMakers$Grid" "column" "[I", .fieldLink RX6 38 "SeedMakers$Grid" "row" "[I"] ++ wsX60 ++ wsX40)
def wsX9_init_r1 : List Cond := [Cond.methodLink RX9 1 objectInit, Cond.instanceMethod objectInit, Cond.code objectInit ⟨#[0xb1]⟩ 1 none, Cond.fieldLink RX9 7 "SeedMakers$Typed" "length" "I", Cond.fieldLink RX9 13 "SeedMakers$Typed" "grid" "LSeedMakers$Grid;", Cond.classLink RX9 17 RX1, Cond.instantiable RX1 5, Cond.initialized RX1, Cond.fieldLink RX9 22 "SeedMakers$Typed" "board" "LSeedMakers$Board;", Cond.arrayClass .int, Cond.fieldLink RX9 26 "SeedMakers$Typed" "bytes" "[I", Cond.fieldLink RX9 30 "SeedMakers$Board" "symbols" "[I", Cond.fieldLink RX9 33 "SeedMakers$Typed" "symbols" "[I", Cond.methodLink RX9 19 yX1_init, Cond.instanceMethod yX1_init, Cond.code yX1_init cX1_init 2 none, Cond.methodLink RX1 1 objectInit, Cond.fieldLink RX1 7 "SeedMakers$Board" "grid" "LSeedMakers$Grid;", Cond.fieldLink RX1 13 "SeedMakers$Grid" "cells" "I", Cond.fieldLink RX1 19 "SeedMakers$Board" "symbols" "[I", Cond.fieldLink RX1 23 "SeedMakers$Grid" "side" "I", Cond.fieldLink RX1 26 "SeedMakers$Board" "inRow" "[I", Cond.fieldLink RX1 29 "SeedMakers$Board" "inColumn" "[I", Cond.fieldLink RX1 32 "SeedMakers$Board" "inBox" "[I"]
def wsX9_init_r2 : List Cond := [Cond.methodLink RX1 35 yX1_clear, Cond.instanceMethod yX1_clear, Cond.selects RX1 yX1_clear yX1_clear, Cond.code yX1_clear cX1_clear 2 none]
def wsX9_init : List Cond := .code yX9_init cX9_init 2 none :: ((wsX9_init_r1 ++ wsX9_init_r2) ++ wsX90 ++ wsX10 ++ wsX40)
def wsX9_byteOf : List Cond := .code yX9_byteOf cX9_byteOf 1 (some .int) :: ([])
def wsX9_add : List Cond := .code yX9_add cX9_add 2 (some .boolean) :: ([.fieldLink RX9 7 "SeedMakers$Typed" "length" "I", .fieldLink RX9 26 "SeedMakers$Typed" "bytes" "[I"] ++ wsX90)
def wsX9_readByte_r1 : List Cond := [Cond.fieldLink RX9 13 "SeedMakers$Typed" "grid" "LSeedMakers$Grid;", Cond.fieldLink RX9 46 "SeedMakers$Grid" "side" "I", Cond.fieldLink RX9 22 "SeedMakers$Typed" "board" "LSeedMakers$Board;", Cond.methodLink RX9 49 yX1_may, Cond.instanceMethod yX1_may, Cond.selects RX1 yX1_may yX1_may, Cond.initialized RX1, Cond.code yX1_may cX1_may 2 (some .int), Cond.fieldLink RX1 7 "SeedMakers$Board" "grid" "LSeedMakers$Grid;", Cond.fieldLink RX1 42 "SeedMakers$Grid" "allSymbols" "I", Cond.fieldLink RX1 26 "SeedMakers$Board" "inRow" "[I", Cond.fieldLink RX1 45 "SeedMakers$Grid" "row" "[I", Cond.fieldLink RX1 29 "SeedMakers$Board" "inColumn" "[I", Cond.fieldLink RX1 48 "SeedMakers$Grid" "column" "[I", Cond.fieldLink RX1 32 "SeedMakers$Board" "inBox" "[I", Cond.fieldLink RX1 51 "SeedMakers$Grid" "box" "[I", Cond.methodLink RX9 53 yX1_put, Cond.instanceMethod yX1_put, Cond.selects RX1 yX1_put yX1_put, Cond.code yX1_put cX1_put 3 none, Cond.fieldLink RX1 19 "SeedMakers$Board" "symbols" "[I", Cond.methodLink RX1 54 yX1_flip, Cond.instanceMethod yX1_flip, Cond.selects RX1 yX1_flip yX1_flip]
def wsX9_readByte_r2 : List Cond := [Cond.code yX1_flip cX1_flip 3 none]
def wsX9_readByte : List Cond := .code yX9_readByte cX9_readByte 4 (some .boolean) :: ((wsX9_readByte_r1 ++ wsX9_readByte_r2) ++ wsX90 ++ wsX40 ++ wsX10)
def wsX9_read_r1 : List Cond := [Cond.fieldLink RX9 7 "SeedMakers$Typed" "length" "I", Cond.fieldLink RX9 22 "SeedMakers$Typed" "board" "LSeedMakers$Board;", Cond.fieldLink RX9 13 "SeedMakers$Typed" "grid" "LSeedMakers$Grid;", Cond.fieldLink RX9 37 "SeedMakers$Grid" "cells" "I", Cond.fieldLink RX9 26 "SeedMakers$Typed" "bytes" "[I", Cond.methodLink RX9 34 yX1_clear, Cond.instanceMethod yX1_clear, Cond.selects RX1 yX1_clear yX1_clear, Cond.initialized RX1, Cond.code yX1_clear cX1_clear 2 none, Cond.fieldLink RX1 7 "SeedMakers$Board" "grid" "LSeedMakers$Grid;", Cond.fieldLink RX1 13 "SeedMakers$Grid" "cells" "I", Cond.fieldLink RX1 19 "SeedMakers$Board" "symbols" "[I", Cond.fieldLink RX1 23 "SeedMakers$Grid" "side" "I", Cond.fieldLink RX1 26 "SeedMakers$Board" "inRow" "[I", Cond.fieldLink RX1 29 "SeedMakers$Board" "inColumn" "[I", Cond.fieldLink RX1 32 "SeedMakers$Board" "inBox" "[I", Cond.methodLink RX9 42 yX9_readByte, Cond.instanceMethod yX9_readByte, Cond.selects RX9 yX9_readByte yX9_readByte, Cond.initialized RX9, Cond.code yX9_readByte cX9_readByte 4 (some .boolean), Cond.fieldLink RX9 46 "SeedMakers$Grid" "side" "I", Cond.methodLink RX9 49 yX1_may]
def wsX9_read_r2 : List Cond := [Cond.instanceMethod yX1_may, Cond.selects RX1 yX1_may yX1_may, Cond.code yX1_may cX1_may 2 (some .int), Cond.fieldLink RX1 42 "SeedMakers$Grid" "allSymbols" "I", Cond.fieldLink RX1 45 "SeedMakers$Grid" "row" "[I", Cond.fieldLink RX1 48 "SeedMakers$Grid" "column" "[I", Cond.fieldLink RX1 51 "SeedMakers$Grid" "box" "[I", Cond.methodLink RX9 53 yX1_put, Cond.instanceMethod yX1_put, Cond.selects RX1 yX1_put yX1_put, Cond.code yX1_put cX1_put 3 none, Cond.methodLink RX1 54 yX1_flip, Cond.instanceMethod yX1_flip, Cond.selects RX1 yX1_flip yX1_flip, Cond.code yX1_flip cX1_flip 3 none]
def wsX9_read : List Cond := .code yX9_read cX9_read 3 (some .int) :: ((wsX9_read_r1 ++ wsX9_read_r2) ++ wsX90 ++ wsX40 ++ wsX10)
def wsX10_init_r1 : List Cond := [Cond.methodLink RX10 1 objectInit, Cond.instanceMethod objectInit, Cond.code objectInit ⟨#[0xb1]⟩ 1 none, Cond.classLink RX10 7 RX4, Cond.instantiable RX4 7, Cond.initialized RX4, Cond.fieldLink RX10 12 "SeedMakers" "grid" "LSeedMakers$Grid;", Cond.classLink RX10 18 RX6, Cond.instantiable RX6 2, Cond.initialized RX6, Cond.fieldLink RX10 23 "SeedMakers" "sets" "LSeedMakers$Sets;", Cond.fieldLink RX10 27 "SeedMakers$Grid" "cells" "I", Cond.arrayClass .int, Cond.fieldLink RX10 31 "SeedMakers" "themes" "[I", Cond.classLink RX10 35 RX0, Cond.instantiable RX0 3, Cond.initialized RX0, Cond.fieldLink RX10 38 "SeedMakers" "aimed" "LSeedMakers$Aim;", Cond.classLink RX10 42 RX5, Cond.instantiable RX5 20, Cond.initialized RX5, Cond.fieldLink RX10 47 "SeedMakers" "maker" "LSeedMakers$Maker;", Cond.classLink RX10 51 RX9, Cond.instantiable RX9 5]
def wsX10_init_r2 : List Cond := [Cond.initialized RX9, Cond.fieldLink RX10 54 "SeedMakers" "typed" "LSeedMakers$Typed;", Cond.methodLink RX10 9 yX4_init, Cond.instanceMethod yX4_init, Cond.code yX4_init cX4_init 8 none, Cond.methodLink RX4 1 objectInit, Cond.fieldLink RX4 7 "SeedMakers$Grid" "side" "I", Cond.fieldLink RX4 13 "SeedMakers$Grid" "cells" "I", Cond.fieldLink RX4 16 "SeedMakers$Grid" "allSymbols" "I", Cond.fieldLink RX4 19 "SeedMakers$Grid" "row" "[I", Cond.fieldLink RX4 23 "SeedMakers$Grid" "column" "[I", Cond.fieldLink RX4 26 "SeedMakers$Grid" "box" "[I", Cond.classLink RX4 29 "[[I", Cond.fieldLink RX4 31 "SeedMakers$Grid" "units" "[[I", Cond.methodLink RX10 20 yX6_init, Cond.instanceMethod yX6_init, Cond.code yX6_init cX6_init 3 none, Cond.methodLink RX6 1 objectInit, Cond.fieldLink RX6 7 "SeedMakers$Sets" "grid" "LSeedMakers$Grid;", Cond.fieldLink RX6 13 "SeedMakers$Grid" "cells" "I", Cond.fieldLink RX6 19 "SeedMakers$Sets" "leastOf" "[I", Cond.instanceMethod yX0_init, Cond.code yX0_init cX0_init 1 none, Cond.methodLink RX0 1 objectInit]
def wsX10_init_r3 : List Cond := [Cond.fieldLink RX0 7 "SeedMakers$Aim" "easy" "I", Cond.fieldLink RX0 13 "SeedMakers$Aim" "least" "I", Cond.constant RX0 18 (2147483647), Cond.fieldLink RX0 19 "SeedMakers$Aim" "most" "I", Cond.methodLink RX10 44 yX5_init, Cond.instanceMethod yX5_init, Cond.code yX5_init cX5_init 5 none, Cond.methodLink RX5 1 objectInit, Cond.fieldLink RX5 7 "SeedMakers$Maker" "made" "Z", Cond.fieldLink RX5 13 "SeedMakers$Maker" "triesMade" "I", Cond.fieldLink RX5 17 "SeedMakers$Maker" "restarts" "I", Cond.fieldLink RX5 20 "SeedMakers$Maker" "takenOut" "I", Cond.fieldLink RX5 23 "SeedMakers$Maker" "putBack" "I", Cond.fieldLink RX5 26 "SeedMakers$Maker" "givenCells" "I", Cond.fieldLink RX5 29 "SeedMakers$Maker" "unknownCells" "I", Cond.fieldLink RX5 32 "SeedMakers$Maker" "grid" "LSeedMakers$Grid;", Cond.fieldLink RX5 36 "SeedMakers$Maker" "sets" "LSeedMakers$Sets;", Cond.fieldLink RX5 40 "SeedMakers$Maker" "themes" "[I", Cond.fieldLink RX5 44 "SeedMakers$Maker" "aimed" "LSeedMakers$Aim;", Cond.classLink RX5 48 RX2, Cond.instantiable RX2 1, Cond.initialized RX2, Cond.fieldLink RX5 51 "SeedMakers$Maker" "chance" "LSeedMakers$Chance;", Cond.classLink RX5 55 RX3]
def wsX10_init_r4 : List Cond := [Cond.instantiable RX3 3, Cond.initialized RX3, Cond.fieldLink RX5 60 "SeedMakers$Maker" "drawer" "LSeedMakers$Drawer;", Cond.classLink RX5 64 RX7, Cond.instantiable RX7 2, Cond.initialized RX7, Cond.fieldLink RX5 69 "SeedMakers$Maker" "singles" "LSeedMakers$Singles;", Cond.classLink RX5 73 RX8, Cond.instantiable RX8 4, Cond.initialized RX8, Cond.fieldLink RX5 76 "SeedMakers$Maker" "solver" "LSeedMakers$Solver;", Cond.fieldLink RX5 80 "SeedMakers$Grid" "cells" "I", Cond.fieldLink RX5 85 "SeedMakers$Maker" "whole" "[I", Cond.fieldLink RX5 88 "SeedMakers$Maker" "givens" "[I", Cond.arrayClass .boolean, Cond.fieldLink RX5 91 "SeedMakers$Maker" "marked" "[Z", Cond.fieldLink RX5 95 "SeedMakers$Maker" "row" "[I", Cond.fieldLink RX5 98 "SeedMakers$Maker" "without" "[I", Cond.instanceMethod yX2_init, Cond.code yX2_init cX2_init 1 none, Cond.methodLink RX2 1 objectInit, Cond.fieldLink RX2 7 "SeedMakers$Chance" "state" "J", Cond.methodLink RX5 57 yX3_init, Cond.instanceMethod yX3_init]
def wsX10_init_r5 : List Cond := [Cond.code yX3_init cX3_init 3 none, Cond.methodLink RX3 1 objectInit, Cond.fieldLink RX3 7 "SeedMakers$Drawer" "grid" "LSeedMakers$Grid;", Cond.fieldLink RX3 13 "SeedMakers$Drawer" "chance" "LSeedMakers$Chance;", Cond.classLink RX3 17 RX1, Cond.instantiable RX1 5, Cond.initialized RX1, Cond.fieldLink RX3 22 "SeedMakers$Drawer" "board" "LSeedMakers$Board;", Cond.methodLink RX3 19 yX1_init, Cond.instanceMethod yX1_init, Cond.code yX1_init cX1_init 2 none, Cond.methodLink RX1 1 objectInit, Cond.fieldLink RX1 7 "SeedMakers$Board" "grid" "LSeedMakers$Grid;", Cond.fieldLink RX1 13 "SeedMakers$Grid" "cells" "I", Cond.fieldLink RX1 19 "SeedMakers$Board" "symbols" "[I", Cond.fieldLink RX1 23 "SeedMakers$Grid" "side" "I", Cond.fieldLink RX1 26 "SeedMakers$Board" "inRow" "[I", Cond.fieldLink RX1 29 "SeedMakers$Board" "inColumn" "[I", Cond.fieldLink RX1 32 "SeedMakers$Board" "inBox" "[I", Cond.methodLink RX1 35 yX1_clear, Cond.instanceMethod yX1_clear, Cond.selects RX1 yX1_clear yX1_clear, Cond.code yX1_clear cX1_clear 2 none, Cond.methodLink RX5 66 yX7_init]
def wsX10_init_r6 : List Cond := [Cond.instanceMethod yX7_init, Cond.code yX7_init cX7_init 2 none, Cond.methodLink RX7 1 objectInit, Cond.fieldLink RX7 7 "SeedMakers$Singles" "grid" "LSeedMakers$Grid;", Cond.classLink RX7 13 RX1, Cond.fieldLink RX7 18 "SeedMakers$Singles" "board" "LSeedMakers$Board;", Cond.methodLink RX7 15 yX1_init, Cond.methodLink RX5 75 yX8_init, Cond.instanceMethod yX8_init, Cond.code yX8_init cX8_init 2 none, Cond.methodLink RX8 1 objectInit, Cond.fieldLink RX8 7 "SeedMakers$Solver" "limit" "I", Cond.fieldLink RX8 13 "SeedMakers$Solver" "found" "I", Cond.classLink RX8 16 RX1, Cond.fieldLink RX8 21 "SeedMakers$Solver" "board" "LSeedMakers$Board;", Cond.fieldLink RX8 25 "SeedMakers$Grid" "cells" "I", Cond.fieldLink RX8 30 "SeedMakers$Solver" "open" "[I", Cond.methodLink RX8 18 yX1_init, Cond.methodLink RX10 53 yX9_init, Cond.instanceMethod yX9_init, Cond.code yX9_init cX9_init 2 none, Cond.methodLink RX9 1 objectInit, Cond.fieldLink RX9 7 "SeedMakers$Typed" "length" "I", Cond.fieldLink RX9 13 "SeedMakers$Typed" "grid" "LSeedMakers$Grid;"]
def wsX10_init_r7 : List Cond := [Cond.classLink RX9 17 RX1, Cond.fieldLink RX9 22 "SeedMakers$Typed" "board" "LSeedMakers$Board;", Cond.fieldLink RX9 26 "SeedMakers$Typed" "bytes" "[I", Cond.fieldLink RX9 30 "SeedMakers$Board" "symbols" "[I", Cond.fieldLink RX9 33 "SeedMakers$Typed" "symbols" "[I", Cond.methodLink RX9 19 yX1_init]
def wsX10_init : List Cond := .code yX10_init cX10_init 2 none :: ((wsX10_init_r1 ++ (wsX10_init_r2 ++ (wsX10_init_r3 ++ (wsX10_init_r4 ++ (wsX10_init_r5 ++ (wsX10_init_r6 ++ wsX10_init_r7)))))) ++ wsX40 ++ wsX100 ++ wsX60 ++ wsX00 ++ wsX50 ++ wsX90 ++ wsX20 ++ wsX30 ++ wsX70 ++ wsX80 ++ wsX10)
def wsX10_symmetry : List Cond := .code yX10_symmetry cX10_symmetry 2 (some .boolean) :: ([.fieldLink RX10 23 "SeedMakers" "sets" "LSeedMakers$Sets;", .methodLink RX10 58 yX6_joinBy, .instanceMethod yX6_joinBy, .selects RX6 yX6_joinBy yX6_joinBy, .initialized RX6, .code yX6_joinBy cX6_joinBy 6 none, .fieldLink RX6 7 "SeedMakers$Sets" "grid" "LSeedMakers$Grid;", .fieldLink RX6 13 "SeedMakers$Grid" "cells" "I", .methodLink RX6 27 Lib.Math.min.name, .static Lib.Math.min.name, .initialized "java/lang/Math", .code Lib.Math.min.name Lib.Math.min.code 2 (some .int), .fieldLink RX6 19 "SeedMakers$Sets" "leastOf" "[I", .methodLink RX6 23 yX6_moved, .instanceMethod yX6_moved, .selects RX6 yX6_moved yX6_moved, .code yX6_moved cX6_moved 6 (some .int), .fieldLink RX6 32 "SeedMakers$Grid" "side" "I", .fieldLink RX6 35 "SeedMakers$Grid" "column" "[I", .fieldLink RX6 38 "SeedMakers$Grid" "row" "[I"] ++ wsX100 ++ wsX60 ++ wsX40)
def wsX10_theme : List Cond := .code yX10_theme cX10_theme 3 none :: ([.classLink RX10 72 "java/lang/IllegalArgumentException", .initialized "java/lang/IllegalArgumentException", .fieldLink RX10 12 "SeedMakers" "grid" "LSeedMakers$Grid;", .classLink RX10 65 RJx00060, .instantiable RJx00060 6, .initialized RJx00060, .fieldLink RX10 31 "SeedMakers" "themes" "[I", .methodLink RX10 61 yX4_has, .instanceMethod yX4_has, .selects RX4 yX4_has yX4_has, .initialized RX4, .code yX4_has cX4_has 2 (some .boolean), .fieldLink RX4 13 "SeedMakers$Grid" "cells" "I"] ++ wsX100 ++ wsJx000600 ++ wsX40 ++ (vx_atS RX10 76 "java/lang/IllegalArgumentException" ["java/lang/RuntimeException", "java/lang/Exception"]).filter goodWord)
def wsX10_aim : List Cond := .code yX10_aim cX10_aim 4 none :: ([.classLink RX10 72 "java/lang/IllegalArgumentException", .initialized "java/lang/IllegalArgumentException", .fieldLink RX10 38 "SeedMakers" "aimed" "LSeedMakers$Aim;", .methodLink RX10 81 yX0_set, .instanceMethod yX0_set, .selects RX0 yX0_set yX0_set, .initialized RX0, .code yX0_set cX0_set 4 none, .fieldLink RX0 7 "SeedMakers$Aim" "easy" "I", .fieldLink RX0 13 "SeedMakers$Aim" "least" "I", .fieldLink RX0 19 "SeedMakers$Aim" "most" "I"] ++ wsX100 ++ wsX00 ++ (vx_atS RX10 76 "java/lang/IllegalArgumentException" ["java/lang/RuntimeException", "java/lang/Exception"]).filter goodWord)
def wsX10_make_r1 : List Cond := [Cond.fieldLink RX10 47 "SeedMakers" "maker" "LSeedMakers$Maker;", Cond.methodLink RX10 85 yX5_startAt, Cond.instanceMethod yX5_startAt, Cond.selects RX5 yX5_startAt yX5_startAt, Cond.initialized RX5, Cond.code yX5_startAt cX5_startAt 3 none, Cond.fieldLink RX5 7 "SeedMakers$Maker" "made" "Z", Cond.fieldLink RX5 13 "SeedMakers$Maker" "triesMade" "I", Cond.fieldLink RX5 17 "SeedMakers$Maker" "restarts" "I", Cond.fieldLink RX5 20 "SeedMakers$Maker" "takenOut" "I", Cond.fieldLink RX5 23 "SeedMakers$Maker" "putBack" "I", Cond.fieldLink RX5 51 "SeedMakers$Maker" "chance" "LSeedMakers$Chance;", Cond.methodLink RX5 101 yX2_startAt, Cond.instanceMethod yX2_startAt, Cond.selects RX2 yX2_startAt yX2_startAt, Cond.initialized RX2, Cond.code yX2_startAt cX2_startAt 3 none, Cond.fieldLink RX2 7 "SeedMakers$Chance" "state" "J", Cond.methodLink RX10 89 yX5_tryOnce, Cond.instanceMethod yX5_tryOnce, Cond.selects RX5 yX5_tryOnce yX5_tryOnce, Cond.code yX5_tryOnce cX5_tryOnce 3 (some .boolean), Cond.fieldLink RX5 95 "SeedMakers$Maker" "row" "[I", Cond.fieldLink RX5 98 "SeedMakers$Maker" "without" "[I"]
def wsX10_make_r2 : List Cond := [Cond.fieldLink RX5 88 "SeedMakers$Maker" "givens" "[I", Cond.methodLink RX5 124 arraycopyName, Cond.native arraycopyName, Cond.static arraycopyName, Cond.initialized "java/lang/System", Cond.fieldLink RX5 26 "SeedMakers$Maker" "givenCells" "I", Cond.fieldLink RX5 69 "SeedMakers$Maker" "singles" "LSeedMakers$Singles;", Cond.fieldLink RX5 29 "SeedMakers$Maker" "unknownCells" "I", Cond.fieldLink RX5 44 "SeedMakers$Maker" "aimed" "LSeedMakers$Aim;", Cond.methodLink RX5 105 yX5_drawWhole, Cond.instanceMethod yX5_drawWhole, Cond.selects RX5 yX5_drawWhole yX5_drawWhole, Cond.code yX5_drawWhole cX5_drawWhole 3 (some .boolean), Cond.fieldLink RX5 60 "SeedMakers$Maker" "drawer" "LSeedMakers$Drawer;", Cond.fieldLink RX5 146 "SeedMakers$Drawer" "board" "LSeedMakers$Board;", Cond.fieldLink RX5 150 "SeedMakers$Board" "symbols" "[I", Cond.fieldLink RX5 85 "SeedMakers$Maker" "whole" "[I", Cond.methodLink RX5 143 yX3_fill, Cond.instanceMethod yX3_fill, Cond.selects RX3 yX3_fill yX3_fill, Cond.initialized RX3, Cond.code yX3_fill cX3_fill 5 (some .boolean), Cond.fieldLink RX3 22 "SeedMakers$Drawer" "board" "LSeedMakers$Board;", Cond.fieldLink RX3 7 "SeedMakers$Drawer" "grid" "LSeedMakers$Grid;"]
def wsX10_make_r3 : List Cond := [Cond.fieldLink RX3 29 "SeedMakers$Grid" "cells" "I", Cond.fieldLink RX3 13 "SeedMakers$Drawer" "chance" "LSeedMakers$Chance;", Cond.methodLink RX3 26 yX1_clear, Cond.instanceMethod yX1_clear, Cond.selects RX1 yX1_clear yX1_clear, Cond.initialized RX1, Cond.code yX1_clear cX1_clear 2 none, Cond.fieldLink RX1 7 "SeedMakers$Board" "grid" "LSeedMakers$Grid;", Cond.fieldLink RX1 13 "SeedMakers$Grid" "cells" "I", Cond.fieldLink RX1 19 "SeedMakers$Board" "symbols" "[I", Cond.fieldLink RX1 23 "SeedMakers$Grid" "side" "I", Cond.fieldLink RX1 26 "SeedMakers$Board" "inRow" "[I", Cond.fieldLink RX1 29 "SeedMakers$Board" "inColumn" "[I", Cond.fieldLink RX1 32 "SeedMakers$Board" "inBox" "[I", Cond.methodLink RX3 35 yX3_tightest, Cond.instanceMethod yX3_tightest, Cond.selects RX3 yX3_tightest yX3_tightest, Cond.code yX3_tightest cX3_tightest 5 (some .int), Cond.constant RX3 61 (2147483647), Cond.methodLink RX3 62 yX1_isEmpty, Cond.instanceMethod yX1_isEmpty, Cond.selects RX1 yX1_isEmpty yX1_isEmpty, Cond.code yX1_isEmpty cX1_isEmpty 2 (some .boolean), Cond.methodLink RX3 39 yX1_may]
def wsX10_make_r4 : List Cond := [Cond.instanceMethod yX1_may, Cond.selects RX1 yX1_may yX1_may, Cond.code yX1_may cX1_may 2 (some .int), Cond.fieldLink RX1 42 "SeedMakers$Grid" "allSymbols" "I", Cond.fieldLink RX1 45 "SeedMakers$Grid" "row" "[I", Cond.fieldLink RX1 48 "SeedMakers$Grid" "column" "[I", Cond.fieldLink RX1 51 "SeedMakers$Grid" "box" "[I", Cond.methodLink RX3 43 yJ6_bitCount_0f7a4, Cond.static yJ6_bitCount_0f7a4, Cond.initialized RJ6, Cond.code yJ6_bitCount_0f7a4 cJ6_bitCount_0f7a4 1 (some .int), Cond.constant RJ6 265 (1431655765), Cond.constant RJ6 266 (858993459), Cond.constant RJ6 267 (252645135), Cond.methodLink RX3 48 yX2_below, Cond.instanceMethod yX2_below, Cond.selects RX2 yX2_below yX2_below, Cond.code yX2_below cX2_below 2 (some .int), Cond.constantLong RX2 13 (6364136223846793005), Cond.constantLong RX2 15 (1442695040888963407), Cond.methodLink RX2 17 yX2_upperBits, Cond.instanceMethod yX2_upperBits, Cond.selects RX2 yX2_upperBits yX2_upperBits, Cond.code yX2_upperBits cX2_upperBits 1 (some .int)]
def wsX10_make_r5 : List Cond := [Cond.methodLink RX3 53 yX3_symbolAt, Cond.static yX3_symbolAt, Cond.code yX3_symbolAt cX3_symbolAt 4 (some .int), Cond.methodLink RX3 66 yJ6_numberOfTrailingZeros_0f7a4, Cond.static yJ6_numberOfTrailingZeros_0f7a4, Cond.code yJ6_numberOfTrailingZeros_0f7a4 cJ6_numberOfTrailingZeros_0f7a4 2 (some .int), Cond.constant RJ6 264 (65536), Cond.methodLink RX3 57 yX1_put, Cond.instanceMethod yX1_put, Cond.selects RX1 yX1_put yX1_put, Cond.code yX1_put cX1_put 3 none, Cond.methodLink RX1 54 yX1_flip, Cond.instanceMethod yX1_flip, Cond.selects RX1 yX1_flip yX1_flip, Cond.code yX1_flip cX1_flip 3 none, Cond.methodLink RX5 109 yX5_takeOutEmptySets, Cond.instanceMethod yX5_takeOutEmptySets, Cond.selects RX5 yX5_takeOutEmptySets yX5_takeOutEmptySets, Cond.code yX5_takeOutEmptySets cX5_takeOutEmptySets 2 (some .boolean), Cond.fieldLink RX5 32 "SeedMakers$Maker" "grid" "LSeedMakers$Grid;", Cond.fieldLink RX5 80 "SeedMakers$Grid" "cells" "I", Cond.fieldLink RX5 91 "SeedMakers$Maker" "marked" "[Z", Cond.fieldLink RX5 36 "SeedMakers$Maker" "sets" "LSeedMakers$Sets;", Cond.fieldLink RX5 158 "SeedMakers$Sets" "leastOf" "[I"]
def wsX10_make_r6 : List Cond := [Cond.fieldLink RX5 40 "SeedMakers$Maker" "themes" "[I", Cond.fieldLink RX5 76 "SeedMakers$Maker" "solver" "LSeedMakers$Solver;", Cond.methodLink RX5 155 yX5_markSetsWith, Cond.instanceMethod yX5_markSetsWith, Cond.selects RX5 yX5_markSetsWith yX5_markSetsWith, Cond.code yX5_markSetsWith cX5_markSetsWith 3 none, Cond.methodLink RX5 163 yX8_count, Cond.instanceMethod yX8_count, Cond.selects RX8 yX8_count yX8_count, Cond.initialized RX8, Cond.code yX8_count cX8_count 5 (some .int), Cond.fieldLink RX8 21 "SeedMakers$Solver" "board" "LSeedMakers$Board;", Cond.fieldLink RX8 30 "SeedMakers$Solver" "open" "[I", Cond.fieldLink RX8 7 "SeedMakers$Solver" "limit" "I", Cond.fieldLink RX8 13 "SeedMakers$Solver" "found" "I", Cond.methodLink RX8 34 yX1_putAll, Cond.instanceMethod yX1_putAll, Cond.selects RX1 yX1_putAll yX1_putAll, Cond.code yX1_putAll cX1_putAll 3 none, Cond.methodLink RX1 35 yX1_clear, Cond.methodLink RX1 38 yX1_put, Cond.methodLink RX8 38 yX1_isEmpty, Cond.methodLink RX8 42 yX8_search, Cond.instanceMethod yX8_search]
def wsX10_make_r7 : List Cond := [Cond.selects RX8 yX8_search yX8_search, Cond.code yX8_search cX8_search 6 none, Cond.fieldLink RX8 53 "SeedMakers$Board" "grid" "LSeedMakers$Grid;", Cond.fieldLink RX8 57 "SeedMakers$Grid" "side" "I", Cond.methodLink RX8 46 yX8_tightest, Cond.instanceMethod yX8_tightest, Cond.selects RX8 yX8_tightest yX8_tightest, Cond.code yX8_tightest cX8_tightest 6 (some .int), Cond.constant RX8 69 (2147483647), Cond.methodLink RX8 50 yX1_may, Cond.methodLink RX8 70 yJ6_bitCount_0f7a4, Cond.methodLink RX8 60 yX1_put, Cond.methodLink RX8 64 yX1_takeOut, Cond.instanceMethod yX1_takeOut, Cond.selects RX1 yX1_takeOut yX1_takeOut, Cond.code yX1_takeOut cX1_takeOut 3 none, Cond.methodLink RX5 112 yX5_layRow, Cond.instanceMethod yX5_layRow, Cond.selects RX5 yX5_layRow yX5_layRow, Cond.code yX5_layRow cX5_layRow 3 (some .int), Cond.methodLink RX5 116 yX5_mixRow, Cond.instanceMethod yX5_mixRow, Cond.selects RX5 yX5_mixRow yX5_mixRow, Cond.code yX5_mixRow cX5_mixRow 5 none]
def wsX10_make_r8 : List Cond := [Cond.methodLink RX5 167 yX2_below, Cond.methodLink RX5 120 yX5_needsSet, Cond.instanceMethod yX5_needsSet, Cond.selects RX5 yX5_needsSet yX5_needsSet, Cond.code yX5_needsSet cX5_needsSet 5 (some .boolean), Cond.methodLink RX5 130 yX5_countGivens, Cond.instanceMethod yX5_countGivens, Cond.selects RX5 yX5_countGivens yX5_countGivens, Cond.code yX5_countGivens cX5_countGivens 3 (some .int), Cond.methodLink RX5 133 yX7_countUnknown, Cond.instanceMethod yX7_countUnknown, Cond.selects RX7 yX7_countUnknown yX7_countUnknown, Cond.initialized RX7, Cond.code yX7_countUnknown cX7_countUnknown 6 (some .int), Cond.fieldLink RX7 18 "SeedMakers$Singles" "board" "LSeedMakers$Board;", Cond.fieldLink RX7 7 "SeedMakers$Singles" "grid" "LSeedMakers$Grid;", Cond.fieldLink RX7 26 "SeedMakers$Grid" "cells" "I", Cond.methodLink RX7 22 yX1_putAll, Cond.methodLink RX7 32 yX7_fillLoneSymbols, Cond.instanceMethod yX7_fillLoneSymbols, Cond.selects RX7 yX7_fillLoneSymbols yX7_fillLoneSymbols, Cond.code yX7_fillLoneSymbols cX7_fillLoneSymbols 4 (some .boolean), Cond.methodLink RX7 39 yX1_isEmpty, Cond.methodLink RX7 43 yX1_may]
def wsX10_make_r9 : List Cond := [Cond.methodLink RX7 47 yJ6_bitCount_0f7a4, Cond.methodLink RX7 52 yJ6_numberOfTrailingZeros_0f7a4, Cond.methodLink RX7 55 yX1_put, Cond.methodLink RX7 36 yX7_fillLoneCells, Cond.instanceMethod yX7_fillLoneCells, Cond.selects RX7 yX7_fillLoneCells yX7_fillLoneCells, Cond.code yX7_fillLoneCells cX7_fillLoneCells 4 (some .boolean), Cond.fieldLink RX7 59 "SeedMakers$Grid" "units" "[[I", Cond.methodLink RX7 63 yX7_symbolsOfOneCell, Cond.instanceMethod yX7_symbolsOfOneCell, Cond.selects RX7 yX7_symbolsOfOneCell yX7_symbolsOfOneCell, Cond.code yX7_symbolsOfOneCell cX7_symbolsOfOneCell 6 (some .int), Cond.methodLink RX7 67 yX7_fillFrom, Cond.instanceMethod yX7_fillFrom, Cond.selects RX7 yX7_fillFrom yX7_fillFrom, Cond.code yX7_fillFrom cX7_fillFrom 6 (some .boolean), Cond.methodLink RX5 137 yX0_isMet, Cond.instanceMethod yX0_isMet, Cond.selects RX0 yX0_isMet yX0_isMet, Cond.initialized RX0, Cond.code yX0_isMet cX0_isMet 3 (some .boolean), Cond.fieldLink RX0 13 "SeedMakers$Aim" "least" "I", Cond.fieldLink RX0 19 "SeedMakers$Aim" "most" "I", Cond.fieldLink RX0 7 "SeedMakers$Aim" "easy" "I"]
def wsX10_make : List Cond := .code yX10_make cX10_make 5 (some .int) :: ((wsX10_make_r1 ++ (wsX10_make_r2 ++ (wsX10_make_r3 ++ (wsX10_make_r4 ++ (wsX10_make_r5 ++ (wsX10_make_r6 ++ (wsX10_make_r7 ++ (wsX10_make_r8 ++ wsX10_make_r9)))))))) ++ wsX100 ++ wsX50 ++ wsX20 ++ wsX30 ++ wsX10 ++ wsX40 ++ wsX60 ++ wsX80 ++ wsX70 ++ wsX00)
def wsX10_given : List Cond := .code yX10_given cX10_given 2 (some .int) :: ([.fieldLink RX10 12 "SeedMakers" "grid" "LSeedMakers$Grid;", .classLink RX10 65 RJx00060, .instantiable RJx00060 6, .initialized RJx00060, .fieldLink RX10 47 "SeedMakers" "maker" "LSeedMakers$Maker;", .fieldLink RX10 93 "SeedMakers$Maker" "made" "Z", .fieldLink RX10 97 "SeedMakers$Maker" "givens" "[I", .methodLink RX10 61 yX4_has, .instanceMethod yX4_has, .selects RX4 yX4_has yX4_has, .initialized RX4, .code yX4_has cX4_has 2 (some .boolean), .fieldLink RX4 13 "SeedMakers$Grid" "cells" "I"] ++ wsX100 ++ wsJx000600 ++ wsX50 ++ wsX40)
def wsX10_answer : List Cond := .code yX10_answer cX10_answer 2 (some .int) :: ([.fieldLink RX10 12 "SeedMakers" "grid" "LSeedMakers$Grid;", .classLink RX10 65 RJx00060, .instantiable RJx00060 6, .initialized RJx00060, .fieldLink RX10 47 "SeedMakers" "maker" "LSeedMakers$Maker;", .fieldLink RX10 93 "SeedMakers$Maker" "made" "Z", .fieldLink RX10 100 "SeedMakers$Maker" "whole" "[I", .methodLink RX10 61 yX4_has, .instanceMethod yX4_has, .selects RX4 yX4_has yX4_has, .initialized RX4, .code yX4_has cX4_has 2 (some .boolean), .fieldLink RX4 13 "SeedMakers$Grid" "cells" "I"] ++ wsX100 ++ wsJx000600 ++ wsX50 ++ wsX40)
def wsX10_told : List Cond := .code yX10_told cX10_told 2 (some .int) :: ([.fieldLink RX10 47 "SeedMakers" "maker" "LSeedMakers$Maker;", .fieldLink RX10 103 "SeedMakers$Maker" "triesMade" "I", .fieldLink RX10 106 "SeedMakers$Maker" "restarts" "I", .fieldLink RX10 109 "SeedMakers$Maker" "takenOut" "I", .fieldLink RX10 112 "SeedMakers$Maker" "putBack" "I", .fieldLink RX10 93 "SeedMakers$Maker" "made" "Z", .fieldLink RX10 115 "SeedMakers$Maker" "givenCells" "I", .fieldLink RX10 118 "SeedMakers$Maker" "unknownCells" "I", .fieldLink RX10 121 "SeedMakers$Maker" "chance" "LSeedMakers$Chance;", .methodLink RX10 125 yX2_upperBits, .instanceMethod yX2_upperBits, .selects RX2 yX2_upperBits yX2_upperBits, .initialized RX2, .code yX2_upperBits cX2_upperBits 1 (some .int), .fieldLink RX2 7 "SeedMakers$Chance" "state" "J"] ++ wsX100 ++ wsX50 ++ wsX20)
def wsX10_left : List Cond := .code yX10_left cX10_left 1 (some .int) :: ([.fieldLink RX10 47 "SeedMakers" "maker" "LSeedMakers$Maker;", .fieldLink RX10 93 "SeedMakers$Maker" "made" "Z", .fieldLink RX10 118 "SeedMakers$Maker" "unknownCells" "I"] ++ wsX100 ++ wsX50)
def wsX10_needed_r1 : List Cond := [Cond.fieldLink RX10 12 "SeedMakers" "grid" "LSeedMakers$Grid;", Cond.classLink RX10 65 RJx00060, Cond.instantiable RJx00060 6, Cond.initialized RJx00060, Cond.fieldLink RX10 47 "SeedMakers" "maker" "LSeedMakers$Maker;", Cond.fieldLink RX10 93 "SeedMakers$Maker" "made" "Z", Cond.fieldLink RX10 23 "SeedMakers" "sets" "LSeedMakers$Sets;", Cond.fieldLink RX10 131 "SeedMakers$Sets" "leastOf" "[I", Cond.methodLink RX10 61 yX4_has, Cond.instanceMethod yX4_has, Cond.selects RX4 yX4_has yX4_has, Cond.initialized RX4, Cond.code yX4_has cX4_has 2 (some .boolean), Cond.fieldLink RX4 13 "SeedMakers$Grid" "cells" "I", Cond.methodLink RX10 134 yX5_needsSet, Cond.instanceMethod yX5_needsSet, Cond.selects RX5 yX5_needsSet yX5_needsSet, Cond.initialized RX5, Cond.code yX5_needsSet cX5_needsSet 5 (some .boolean), Cond.fieldLink RX5 32 "SeedMakers$Maker" "grid" "LSeedMakers$Grid;", Cond.fieldLink RX5 80 "SeedMakers$Grid" "cells" "I", Cond.fieldLink RX5 36 "SeedMakers$Maker" "sets" "LSeedMakers$Sets;", Cond.fieldLink RX5 158 "SeedMakers$Sets" "leastOf" "[I", Cond.fieldLink RX5 88 "SeedMakers$Maker" "givens" "[I"]
def wsX10_needed_r2 : List Cond := [Cond.fieldLink RX5 98 "SeedMakers$Maker" "without" "[I", Cond.fieldLink RX5 76 "SeedMakers$Maker" "solver" "LSeedMakers$Solver;", Cond.methodLink RX5 163 yX8_count, Cond.instanceMethod yX8_count, Cond.selects RX8 yX8_count yX8_count, Cond.initialized RX8, Cond.code yX8_count cX8_count 5 (some .int), Cond.fieldLink RX8 21 "SeedMakers$Solver" "board" "LSeedMakers$Board;", Cond.fieldLink RX8 30 "SeedMakers$Solver" "open" "[I", Cond.fieldLink RX8 7 "SeedMakers$Solver" "limit" "I", Cond.fieldLink RX8 13 "SeedMakers$Solver" "found" "I", Cond.methodLink RX8 34 yX1_putAll, Cond.instanceMethod yX1_putAll, Cond.selects RX1 yX1_putAll yX1_putAll, Cond.initialized RX1, Cond.code yX1_putAll cX1_putAll 3 none, Cond.fieldLink RX1 7 "SeedMakers$Board" "grid" "LSeedMakers$Grid;", Cond.fieldLink RX1 13 "SeedMakers$Grid" "cells" "I", Cond.methodLink RX1 35 yX1_clear, Cond.instanceMethod yX1_clear, Cond.selects RX1 yX1_clear yX1_clear, Cond.code yX1_clear cX1_clear 2 none, Cond.fieldLink RX1 19 "SeedMakers$Board" "symbols" "[I", Cond.fieldLink RX1 23 "SeedMakers$Grid" "side" "I"]
def wsX10_needed_r3 : List Cond := [Cond.fieldLink RX1 26 "SeedMakers$Board" "inRow" "[I", Cond.fieldLink RX1 29 "SeedMakers$Board" "inColumn" "[I", Cond.fieldLink RX1 32 "SeedMakers$Board" "inBox" "[I", Cond.methodLink RX1 38 yX1_put, Cond.instanceMethod yX1_put, Cond.selects RX1 yX1_put yX1_put, Cond.code yX1_put cX1_put 3 none, Cond.methodLink RX1 54 yX1_flip, Cond.instanceMethod yX1_flip, Cond.selects RX1 yX1_flip yX1_flip, Cond.code yX1_flip cX1_flip 3 none, Cond.fieldLink RX1 45 "SeedMakers$Grid" "row" "[I", Cond.fieldLink RX1 48 "SeedMakers$Grid" "column" "[I", Cond.fieldLink RX1 51 "SeedMakers$Grid" "box" "[I", Cond.methodLink RX8 38 yX1_isEmpty, Cond.instanceMethod yX1_isEmpty, Cond.selects RX1 yX1_isEmpty yX1_isEmpty, Cond.code yX1_isEmpty cX1_isEmpty 2 (some .boolean), Cond.methodLink RX8 42 yX8_search, Cond.instanceMethod yX8_search, Cond.selects RX8 yX8_search yX8_search, Cond.code yX8_search cX8_search 6 none, Cond.fieldLink RX8 53 "SeedMakers$Board" "grid" "LSeedMakers$Grid;", Cond.fieldLink RX8 57 "SeedMakers$Grid" "side" "I"]
def wsX10_needed_r4 : List Cond := [Cond.methodLink RX8 46 yX8_tightest, Cond.instanceMethod yX8_tightest, Cond.selects RX8 yX8_tightest yX8_tightest, Cond.code yX8_tightest cX8_tightest 6 (some .int), Cond.constant RX8 69 (2147483647), Cond.methodLink RX8 50 yX1_may, Cond.instanceMethod yX1_may, Cond.selects RX1 yX1_may yX1_may, Cond.code yX1_may cX1_may 2 (some .int), Cond.fieldLink RX1 42 "SeedMakers$Grid" "allSymbols" "I", Cond.methodLink RX8 70 yJ6_bitCount_0f7a4, Cond.static yJ6_bitCount_0f7a4, Cond.initialized RJ6, Cond.code yJ6_bitCount_0f7a4 cJ6_bitCount_0f7a4 1 (some .int), Cond.constant RJ6 265 (1431655765), Cond.constant RJ6 266 (858993459), Cond.constant RJ6 267 (252645135), Cond.methodLink RX8 60 yX1_put, Cond.methodLink RX8 64 yX1_takeOut, Cond.instanceMethod yX1_takeOut, Cond.selects RX1 yX1_takeOut yX1_takeOut, Cond.code yX1_takeOut cX1_takeOut 3 none]
def wsX10_needed : List Cond := .code yX10_needed cX10_needed 2 (some .boolean) :: ((wsX10_needed_r1 ++ (wsX10_needed_r2 ++ (wsX10_needed_r3 ++ wsX10_needed_r4))) ++ wsX100 ++ wsJx000600 ++ wsX50 ++ wsX60 ++ wsX40 ++ wsX80 ++ wsX10)
def wsX10_answers_r1 : List Cond := [Cond.fieldLink RX10 54 "SeedMakers" "typed" "LSeedMakers$Typed;", Cond.fieldLink RX10 47 "SeedMakers" "maker" "LSeedMakers$Maker;", Cond.fieldLink RX10 140 "SeedMakers$Maker" "solver" "LSeedMakers$Solver;", Cond.fieldLink RX10 144 "SeedMakers$Typed" "symbols" "[I", Cond.methodLink RX10 137 yX9_read, Cond.instanceMethod yX9_read, Cond.selects RX9 yX9_read yX9_read, Cond.initialized RX9, Cond.code yX9_read cX9_read 3 (some .int), Cond.fieldLink RX9 7 "SeedMakers$Typed" "length" "I", Cond.fieldLink RX9 22 "SeedMakers$Typed" "board" "LSeedMakers$Board;", Cond.fieldLink RX9 13 "SeedMakers$Typed" "grid" "LSeedMakers$Grid;", Cond.fieldLink RX9 37 "SeedMakers$Grid" "cells" "I", Cond.fieldLink RX9 26 "SeedMakers$Typed" "bytes" "[I", Cond.methodLink RX9 34 yX1_clear, Cond.instanceMethod yX1_clear, Cond.selects RX1 yX1_clear yX1_clear, Cond.initialized RX1, Cond.code yX1_clear cX1_clear 2 none, Cond.fieldLink RX1 7 "SeedMakers$Board" "grid" "LSeedMakers$Grid;", Cond.fieldLink RX1 13 "SeedMakers$Grid" "cells" "I", Cond.fieldLink RX1 19 "SeedMakers$Board" "symbols" "[I", Cond.fieldLink RX1 23 "SeedMakers$Grid" "side" "I", Cond.fieldLink RX1 26 "SeedMakers$Board" "inRow" "[I"]
def wsX10_answers_r2 : List Cond := [Cond.fieldLink RX1 29 "SeedMakers$Board" "inColumn" "[I", Cond.fieldLink RX1 32 "SeedMakers$Board" "inBox" "[I", Cond.methodLink RX9 42 yX9_readByte, Cond.instanceMethod yX9_readByte, Cond.selects RX9 yX9_readByte yX9_readByte, Cond.code yX9_readByte cX9_readByte 4 (some .boolean), Cond.fieldLink RX9 46 "SeedMakers$Grid" "side" "I", Cond.methodLink RX9 49 yX1_may, Cond.instanceMethod yX1_may, Cond.selects RX1 yX1_may yX1_may, Cond.code yX1_may cX1_may 2 (some .int), Cond.fieldLink RX1 42 "SeedMakers$Grid" "allSymbols" "I", Cond.fieldLink RX1 45 "SeedMakers$Grid" "row" "[I", Cond.fieldLink RX1 48 "SeedMakers$Grid" "column" "[I", Cond.fieldLink RX1 51 "SeedMakers$Grid" "box" "[I", Cond.methodLink RX9 53 yX1_put, Cond.instanceMethod yX1_put, Cond.selects RX1 yX1_put yX1_put, Cond.code yX1_put cX1_put 3 none, Cond.methodLink RX1 54 yX1_flip, Cond.instanceMethod yX1_flip, Cond.selects RX1 yX1_flip yX1_flip, Cond.code yX1_flip cX1_flip 3 none, Cond.methodLink RX10 147 yX8_count]
def wsX10_answers_r3 : List Cond := [Cond.instanceMethod yX8_count, Cond.selects RX8 yX8_count yX8_count, Cond.initialized RX8, Cond.code yX8_count cX8_count 5 (some .int), Cond.fieldLink RX8 21 "SeedMakers$Solver" "board" "LSeedMakers$Board;", Cond.fieldLink RX8 30 "SeedMakers$Solver" "open" "[I", Cond.fieldLink RX8 7 "SeedMakers$Solver" "limit" "I", Cond.fieldLink RX8 13 "SeedMakers$Solver" "found" "I", Cond.methodLink RX8 34 yX1_putAll, Cond.instanceMethod yX1_putAll, Cond.selects RX1 yX1_putAll yX1_putAll, Cond.code yX1_putAll cX1_putAll 3 none, Cond.methodLink RX1 35 yX1_clear, Cond.methodLink RX1 38 yX1_put, Cond.methodLink RX8 38 yX1_isEmpty, Cond.instanceMethod yX1_isEmpty, Cond.selects RX1 yX1_isEmpty yX1_isEmpty, Cond.code yX1_isEmpty cX1_isEmpty 2 (some .boolean), Cond.methodLink RX8 42 yX8_search, Cond.instanceMethod yX8_search, Cond.selects RX8 yX8_search yX8_search, Cond.code yX8_search cX8_search 6 none, Cond.fieldLink RX8 53 "SeedMakers$Board" "grid" "LSeedMakers$Grid;", Cond.fieldLink RX8 57 "SeedMakers$Grid" "side" "I"]
def wsX10_answers_r4 : List Cond := [Cond.methodLink RX8 46 yX8_tightest, Cond.instanceMethod yX8_tightest, Cond.selects RX8 yX8_tightest yX8_tightest, Cond.code yX8_tightest cX8_tightest 6 (some .int), Cond.constant RX8 69 (2147483647), Cond.methodLink RX8 50 yX1_may, Cond.methodLink RX8 70 yJ6_bitCount_0f7a4, Cond.static yJ6_bitCount_0f7a4, Cond.initialized RJ6, Cond.code yJ6_bitCount_0f7a4 cJ6_bitCount_0f7a4 1 (some .int), Cond.constant RJ6 265 (1431655765), Cond.constant RJ6 266 (858993459), Cond.constant RJ6 267 (252645135), Cond.methodLink RX8 60 yX1_put, Cond.methodLink RX8 64 yX1_takeOut, Cond.instanceMethod yX1_takeOut, Cond.selects RX1 yX1_takeOut yX1_takeOut, Cond.code yX1_takeOut cX1_takeOut 3 none]
def wsX10_answers : List Cond := .code yX10_answers cX10_answers 2 (some .int) :: ((wsX10_answers_r1 ++ (wsX10_answers_r2 ++ (wsX10_answers_r3 ++ wsX10_answers_r4))) ++ wsX100 ++ wsX50 ++ wsX90 ++ wsX40 ++ wsX10 ++ wsX80)
def wsX10_unit : List Cond := .code yX10_unit cX10_unit 2 (some .boolean) :: ([.fieldLink RX10 54 "SeedMakers" "typed" "LSeedMakers$Typed;", .methodLink RX10 153 yX9_add, .instanceMethod yX9_add, .selects RX9 yX9_add yX9_add, .initialized RX9, .code yX9_add cX9_add 2 (some .boolean), .fieldLink RX9 7 "SeedMakers$Typed" "length" "I", .fieldLink RX9 26 "SeedMakers$Typed" "bytes" "[I"] ++ wsX100 ++ wsX90)
def wsX10_text : List Cond := .code yX10_text cX10_text 2 (some .int) :: ([.fieldLink RX10 47 "SeedMakers" "maker" "LSeedMakers$Maker;", .fieldLink RX10 93 "SeedMakers$Maker" "made" "Z", .fieldLink RX10 12 "SeedMakers" "grid" "LSeedMakers$Grid;", .fieldLink RX10 97 "SeedMakers$Maker" "givens" "[I", .methodLink RX10 61 yX4_has, .instanceMethod yX4_has, .selects RX4 yX4_has yX4_has, .initialized RX4, .code yX4_has cX4_has 2 (some .boolean), .fieldLink RX4 13 "SeedMakers$Grid" "cells" "I", .methodLink RX10 156 yX9_byteOf, .static yX9_byteOf, .initialized RX9, .code yX9_byteOf cX9_byteOf 1 (some .int)] ++ wsX100 ++ wsX50 ++ wsX40)
def wsX11_init : List Cond := .code yX11_init cX11_init 2 none :: ([.methodLink RX11 1 objectInit, .instanceMethod objectInit, .code objectInit ⟨#[0xb1]⟩ 1 none, .arrayClass .int, .fieldLink RX11 7 "SeedMakersModel" "themes" "[I", .constant RX11 13 (1000000), .fieldLink RX11 14 "SeedMakersModel" "mostAim" "I", .fieldLink RX11 18 "SeedMakersModel" "tells" "[I", .fieldLink RX11 21 "SeedMakersModel" "puzzle" "[I", .fieldLink RX11 24 "SeedMakersModel" "whole" "[I", .fieldLink RX11 27 "SeedMakersModel" "givens" "[I", .fieldLink RX11 30 "SeedMakersModel" "drawn" "[I", .fieldLink RX11 33 "SeedMakersModel" "tried" "[I", .fieldLink RX11 36 "SeedMakersModel" "known" "[I", .fieldLink RX11 39 "SeedMakersModel" "row" "[I", .fieldLink RX11 42 "SeedMakersModel" "text" "[I", .fieldLink RX11 45 "SeedMakersModel" "n" "I", .fieldLink RX11 48 "SeedMakersModel" "wide" "I", .fieldLink RX11 51 "SeedMakersModel" "high" "I"] ++ wsX110)
def wsX11_thrown : List Cond := .code yX11_thrown cX11_thrown 1 (some .int) :: ([.fieldLink RX11 54 "SeedMakersModel" "thrown" "I"] ++ wsX110)
def wsX11_throwsIf : List Cond := .code yX11_throwsIf cX11_throwsIf 3 (some .boolean) :: ([.fieldLink RX11 54 "SeedMakersModel" "thrown" "I"] ++ wsX110)
def wsX11_cells : List Cond := .code yX11_cells cX11_cells 1 (some .int) :: ([.fieldLink RX11 45 "SeedMakersModel" "n" "I"] ++ wsX110)
def wsX11_isCell : List Cond := .code yX11_isCell cX11_isCell 2 (some .boolean) :: ([.methodLink RX11 57 yX11_cells, .instanceMethod yX11_cells, .selects RX11 yX11_cells yX11_cells, .initialized RX11, .code yX11_cells cX11_cells 1 (some .int), .fieldLink RX11 45 "SeedMakersModel" "n" "I"] ++ wsX110)
def wsX11_sees : List Cond := .code yX11_sees cX11_sees 3 (some .boolean) :: ([.fieldLink RX11 45 "SeedMakersModel" "n" "I", .fieldLink RX11 51 "SeedMakersModel" "high" "I", .fieldLink RX11 48 "SeedMakersModel" "wide" "I"] ++ wsX110)
def wsX11_symmetry : List Cond := .code yX11_symmetry cX11_symmetry 2 (some .boolean) :: ([.fieldLink RX11 54 "SeedMakersModel" "thrown" "I", .fieldLink RX11 61 "SeedMakersModel" "symmetry" "I"] ++ wsX110)
def wsX11_theme : List Cond := .code yX11_theme cX11_theme 3 none :: ([.fieldLink RX11 7 "SeedMakersModel" "themes" "[I", .methodLink RX11 64 yX11_isCell, .instanceMethod yX11_isCell, .selects RX11 yX11_isCell yX11_isCell, .initialized RX11, .code yX11_isCell cX11_isCell 2 (some .boolean), .methodLink RX11 57 yX11_cells, .instanceMethod yX11_cells, .selects RX11 yX11_cells yX11_cells, .code yX11_cells cX11_cells 1 (some .int), .fieldLink RX11 45 "SeedMakersModel" "n" "I", .methodLink RX11 68 yX11_throwsIf, .instanceMethod yX11_throwsIf, .selects RX11 yX11_throwsIf yX11_throwsIf, .code yX11_throwsIf cX11_throwsIf 3 (some .boolean), .fieldLink RX11 54 "SeedMakersModel" "thrown" "I"] ++ wsX110)
def wsX11_aim : List Cond := .code yX11_aim cX11_aim 4 none :: ([.fieldLink RX11 72 "SeedMakersModel" "easyAim" "I", .fieldLink RX11 75 "SeedMakersModel" "leastAim" "I", .fieldLink RX11 14 "SeedMakersModel" "mostAim" "I", .methodLink RX11 68 yX11_throwsIf, .instanceMethod yX11_throwsIf, .selects RX11 yX11_throwsIf yX11_throwsIf, .initialized RX11, .code yX11_throwsIf cX11_throwsIf 3 (some .boolean), .fieldLink RX11 54 "SeedMakersModel" "thrown" "I"] ++ wsX110)
def wsX11_turned : List Cond := .code yX11_turned cX11_turned 4 (some .int) :: ([.fieldLink RX11 45 "SeedMakersModel" "n" "I", .fieldLink RX11 61 "SeedMakersModel" "symmetry" "I"] ++ wsX110)
def wsX11_leastOf : List Cond := .code yX11_leastOf cX11_leastOf 5 (some .int) :: ([.methodLink RX11 78 yX11_turned, .instanceMethod yX11_turned, .selects RX11 yX11_turned yX11_turned, .initialized RX11, .code yX11_turned cX11_turned 4 (some .int), .fieldLink RX11 45 "SeedMakersModel" "n" "I", .fieldLink RX11 61 "SeedMakersModel" "symmetry" "I"] ++ wsX110)
def wsX11_hasTheme : List Cond := .code yX11_hasTheme cX11_hasTheme 4 (some .boolean) :: ([.fieldLink RX11 7 "SeedMakersModel" "themes" "[I", .methodLink RX11 57 yX11_cells, .instanceMethod yX11_cells, .selects RX11 yX11_cells yX11_cells, .initialized RX11, .code yX11_cells cX11_cells 1 (some .int), .fieldLink RX11 45 "SeedMakersModel" "n" "I", .methodLink RX11 82 yX11_leastOf, .instanceMethod yX11_leastOf, .selects RX11 yX11_leastOf yX11_leastOf, .code yX11_leastOf cX11_leastOf 5 (some .int), .methodLink RX11 78 yX11_turned, .instanceMethod yX11_turned, .selects RX11 yX11_turned yX11_turned, .code yX11_turned cX11_turned 4 (some .int), .fieldLink RX11 61 "SeedMakersModel" "symmetry" "I"] ++ wsX110)
def wsX11_takeOut : List Cond := .code yX11_takeOut cX11_takeOut 3 none :: ([.fieldLink RX11 27 "SeedMakersModel" "givens" "[I", .methodLink RX11 57 yX11_cells, .instanceMethod yX11_cells, .selects RX11 yX11_cells yX11_cells, .initialized RX11, .code yX11_cells cX11_cells 1 (some .int), .fieldLink RX11 45 "SeedMakersModel" "n" "I", .methodLink RX11 82 yX11_leastOf, .instanceMethod yX11_leastOf, .selects RX11 yX11_leastOf yX11_leastOf, .code yX11_leastOf cX11_leastOf 5 (some .int), .methodLink RX11 78 yX11_turned, .instanceMethod yX11_turned, .selects RX11 yX11_turned yX11_turned, .code yX11_turned cX11_turned 4 (some .int), .fieldLink RX11 61 "SeedMakersModel" "symmetry" "I"] ++ wsX110)
def wsX11_putBack : List Cond := .code yX11_putBack cX11_putBack 3 none :: ([.fieldLink RX11 27 "SeedMakersModel" "givens" "[I", .fieldLink RX11 30 "SeedMakersModel" "drawn" "[I", .methodLink RX11 57 yX11_cells, .instanceMethod yX11_cells, .selects RX11 yX11_cells yX11_cells, .initialized RX11, .code yX11_cells cX11_cells 1 (some .int), .fieldLink RX11 45 "SeedMakersModel" "n" "I", .methodLink RX11 82 yX11_leastOf, .instanceMethod yX11_leastOf, .selects RX11 yX11_leastOf yX11_leastOf, .code yX11_leastOf cX11_leastOf 5 (some .int), .methodLink RX11 78 yX11_turned, .instanceMethod yX11_turned, .selects RX11 yX11_turned yX11_turned, .code yX11_turned cX11_turned 4 (some .int), .fieldLink RX11 61 "SeedMakersModel" "symmetry" "I"] ++ wsX110)
def wsX11_fits : List Cond := .code yX11_fits cX11_fits 4 (some .boolean) :: ([.fieldLink RX11 33 "SeedMakersModel" "tried" "[I", .fieldLink RX11 27 "SeedMakersModel" "givens" "[I", .methodLink RX11 57 yX11_cells, .instanceMethod yX11_cells, .selects RX11 yX11_cells yX11_cells, .initialized RX11, .code yX11_cells cX11_cells 1 (some .int), .fieldLink RX11 45 "SeedMakersModel" "n" "I", .methodLink RX11 85 yX11_sees, .instanceMethod yX11_sees, .selects RX11 yX11_sees yX11_sees, .code yX11_sees cX11_sees 3 (some .boolean), .fieldLink RX11 51 "SeedMakersModel" "high" "I", .fieldLink RX11 48 "SeedMakersModel" "wide" "I"] ++ wsX110)
def wsX11_countUpTo : List Cond := .code yX11_countUpTo cX11_countUpTo 7 (some .int) :: ([.fieldLink RX11 27 "SeedMakersModel" "givens" "[I", .fieldLink RX11 45 "SeedMakersModel" "n" "I", .fieldLink RX11 33 "SeedMakersModel" "tried" "[I", .methodLink RX11 57 yX11_cells, .instanceMethod yX11_cells, .selects RX11 yX11_cells yX11_cells, .initialized RX11, .code yX11_cells cX11_cells 1 (some .int), .methodLink RX11 89 yX11_fits, .instanceMethod yX11_fits, .selects RX11 yX11_fits yX11_fits, .code yX11_fits cX11_fits 4 (some .boolean), .methodLink RX11 85 yX11_sees, .instanceMethod yX11_sees, .selects RX11 yX11_sees yX11_sees, .code yX11_sees cX11_sees 3 (some .boolean), .fieldLink RX11 51 "SeedMakersModel" "high" "I", .fieldLink RX11 48 "SeedMakersModel" "wide" "I"] ++ wsX110)
def wsX11_may : List Cond := .code yX11_may cX11_may 4 (some .boolean) :: ([.fieldLink RX11 36 "SeedMakersModel" "known" "[I", .methodLink RX11 57 yX11_cells, .instanceMethod yX11_cells, .selects RX11 yX11_cells yX11_cells, .initialized RX11, .code yX11_cells cX11_cells 1 (some .int), .fieldLink RX11 45 "SeedMakersModel" "n" "I", .methodLink RX11 85 yX11_sees, .instanceMethod yX11_sees, .selects RX11 yX11_sees yX11_sees, .code yX11_sees cX11_sees 3 (some .boolean), .fieldLink RX11 51 "SeedMakersModel" "high" "I", .fieldLink RX11 48 "SeedMakersModel" "wide" "I"] ++ wsX110)
def wsX11_isTogether : List Cond := .code yX11_isTogether cX11_isTogether 4 (some .boolean) :: ([.fieldLink RX11 45 "SeedMakersModel" "n" "I", .fieldLink RX11 51 "SeedMakersModel" "high" "I", .fieldLink RX11 48 "SeedMakersModel" "wide" "I"] ++ wsX110)
def wsX11_isSingle : List Cond := .code yX11_isSingle cX11_isSingle 7 (some .boolean) :: ([.fieldLink RX11 45 "SeedMakersModel" "n" "I", .methodLink RX11 92 yX11_may, .instanceMethod yX11_may, .selects RX11 yX11_may yX11_may, .initialized RX11, .code yX11_may cX11_may 4 (some .boolean), .fieldLink RX11 36 "SeedMakersModel" "known" "[I", .methodLink RX11 57 yX11_cells, .instanceMethod yX11_cells, .selects RX11 yX11_cells yX11_cells, .code yX11_cells cX11_cells 1 (some .int), .methodLink RX11 85 yX11_sees, .instanceMethod yX11_sees, .selects RX11 yX11_sees yX11_sees, .code yX11_sees cX11_sees 3 (some .boolean), .fieldLink RX11 51 "SeedMakersModel" "high" "I", .fieldLink RX11 48 "SeedMakersModel" "wide" "I", .methodLink RX11 95 yX11_isTogether, .instanceMethod yX11_isTogether, .selects RX11 yX11_isTogether yX11_isTogether, .code yX11_isTogether cX11_isTogether 4 (some .boolean)] ++ wsX110)
def wsX11_countLeft_r1 : List Cond := [Cond.fieldLink RX11 36 "SeedMakersModel" "known" "[I", Cond.fieldLink RX11 27 "SeedMakersModel" "givens" "[I", Cond.fieldLink RX11 45 "SeedMakersModel" "n" "I", Cond.methodLink RX11 57 yX11_cells, Cond.instanceMethod yX11_cells, Cond.selects RX11 yX11_cells yX11_cells, Cond.initialized RX11, Cond.code yX11_cells cX11_cells 1 (some .int), Cond.methodLink RX11 92 yX11_may, Cond.instanceMethod yX11_may, Cond.selects RX11 yX11_may yX11_may, Cond.code yX11_may cX11_may 4 (some .boolean), Cond.methodLink RX11 85 yX11_sees, Cond.instanceMethod yX11_sees, Cond.selects RX11 yX11_sees yX11_sees, Cond.code yX11_sees cX11_sees 3 (some .boolean), Cond.fieldLink RX11 51 "SeedMakersModel" "high" "I", Cond.fieldLink RX11 48 "SeedMakersModel" "wide" "I", Cond.methodLink RX11 99 yX11_isSingle, Cond.instanceMethod yX11_isSingle, Cond.selects RX11 yX11_isSingle yX11_isSingle, Cond.code yX11_isSingle cX11_isSingle 7 (some .boolean), Cond.methodLink RX11 95 yX11_isTogether, Cond.instanceMethod yX11_isTogether]
def wsX11_countLeft_r2 : List Cond := [Cond.selects RX11 yX11_isTogether yX11_isTogether, Cond.code yX11_isTogether cX11_isTogether 4 (some .boolean)]
def wsX11_countLeft : List Cond := .code yX11_countLeft cX11_countLeft 4 (some .int) :: ((wsX11_countLeft_r1 ++ wsX11_countLeft_r2) ++ wsX110)
def wsX11_below : List Cond := .code yX11_below cX11_below 2 (some .int) :: ([.fieldLink RX11 102 "SeedMakersModel" "chance" "J", .constantLong RX11 106 (6364136223846793005), .constantLong RX11 108 (1442695040888963407)] ++ wsX110)
def wsX11_mayDraw : List Cond := .code yX11_mayDraw cX11_mayDraw 4 (some .boolean) :: ([.fieldLink RX11 30 "SeedMakersModel" "drawn" "[I", .methodLink RX11 57 yX11_cells, .instanceMethod yX11_cells, .selects RX11 yX11_cells yX11_cells, .initialized RX11, .code yX11_cells cX11_cells 1 (some .int), .fieldLink RX11 45 "SeedMakersModel" "n" "I", .methodLink RX11 85 yX11_sees, .instanceMethod yX11_sees, .selects RX11 yX11_sees yX11_sees, .code yX11_sees cX11_sees 3 (some .boolean), .fieldLink RX11 51 "SeedMakersModel" "high" "I", .fieldLink RX11 48 "SeedMakersModel" "wide" "I"] ++ wsX110)
def wsX11_countDraw : List Cond := .code yX11_countDraw cX11_countDraw 4 (some .int) :: ([.fieldLink RX11 45 "SeedMakersModel" "n" "I", .methodLink RX11 110 yX11_mayDraw, .instanceMethod yX11_mayDraw, .selects RX11 yX11_mayDraw yX11_mayDraw, .initialized RX11, .code yX11_mayDraw cX11_mayDraw 4 (some .boolean), .fieldLink RX11 30 "SeedMakersModel" "drawn" "[I", .methodLink RX11 57 yX11_cells, .instanceMethod yX11_cells, .selects RX11 yX11_cells yX11_cells, .code yX11_cells cX11_cells 1 (some .int), .methodLink RX11 85 yX11_sees, .instanceMethod yX11_sees, .selects RX11 yX11_sees yX11_sees, .code yX11_sees cX11_sees 3 (some .boolean), .fieldLink RX11 51 "SeedMakersModel" "high" "I", .fieldLink RX11 48 "SeedMakersModel" "wide" "I"] ++ wsX110)
def wsX11_empty : List Cond := .code yX11_empty cX11_empty 2 none :: ([.fieldLink RX11 30 "SeedMakersModel" "drawn" "[I"] ++ wsX110)
def wsX11_draw_r1 : List Cond := [Cond.fieldLink RX11 45 "SeedMakersModel" "n" "I", Cond.fieldLink RX11 30 "SeedMakersModel" "drawn" "[I", Cond.fieldLink RX11 18 "SeedMakersModel" "tells" "[I", Cond.methodLink RX11 113 yX11_empty, Cond.instanceMethod yX11_empty, Cond.selects RX11 yX11_empty yX11_empty, Cond.initialized RX11, Cond.code yX11_empty cX11_empty 2 none, Cond.methodLink RX11 57 yX11_cells, Cond.instanceMethod yX11_cells, Cond.selects RX11 yX11_cells yX11_cells, Cond.code yX11_cells cX11_cells 1 (some .int), Cond.methodLink RX11 116 yX11_countDraw, Cond.instanceMethod yX11_countDraw, Cond.selects RX11 yX11_countDraw yX11_countDraw, Cond.code yX11_countDraw cX11_countDraw 4 (some .int), Cond.methodLink RX11 110 yX11_mayDraw, Cond.instanceMethod yX11_mayDraw, Cond.selects RX11 yX11_mayDraw yX11_mayDraw, Cond.code yX11_mayDraw cX11_mayDraw 4 (some .boolean), Cond.methodLink RX11 85 yX11_sees, Cond.instanceMethod yX11_sees, Cond.selects RX11 yX11_sees yX11_sees, Cond.code yX11_sees cX11_sees 3 (some .boolean)]
def wsX11_draw_r2 : List Cond := [Cond.fieldLink RX11 51 "SeedMakersModel" "high" "I", Cond.fieldLink RX11 48 "SeedMakersModel" "wide" "I", Cond.methodLink RX11 119 yX11_below, Cond.instanceMethod yX11_below, Cond.selects RX11 yX11_below yX11_below, Cond.code yX11_below cX11_below 2 (some .int), Cond.fieldLink RX11 102 "SeedMakersModel" "chance" "J", Cond.constantLong RX11 106 (6364136223846793005), Cond.constantLong RX11 108 (1442695040888963407)]
def wsX11_draw : List Cond := .code yX11_draw cX11_draw 7 (some .boolean) :: ((wsX11_draw_r1 ++ wsX11_draw_r2) ++ wsX110)
def wsX11_countGivens : List Cond := .code yX11_countGivens cX11_countGivens 3 (some .int) :: ([.fieldLink RX11 27 "SeedMakersModel" "givens" "[I", .methodLink RX11 57 yX11_cells, .instanceMethod yX11_cells, .selects RX11 yX11_cells yX11_cells, .initialized RX11, .code yX11_cells cX11_cells 1 (some .int), .fieldLink RX11 45 "SeedMakersModel" "n" "I"] ++ wsX110)
def wsX11_isGood_r1 : List Cond := [Cond.fieldLink RX11 27 "SeedMakersModel" "givens" "[I", Cond.fieldLink RX11 30 "SeedMakersModel" "drawn" "[I", Cond.fieldLink RX11 126 "SeedMakersModel" "rows" "I", Cond.fieldLink RX11 39 "SeedMakersModel" "row" "[I", Cond.fieldLink RX11 18 "SeedMakersModel" "tells" "[I", Cond.fieldLink RX11 75 "SeedMakersModel" "leastAim" "I", Cond.fieldLink RX11 14 "SeedMakersModel" "mostAim" "I", Cond.fieldLink RX11 72 "SeedMakersModel" "easyAim" "I", Cond.methodLink RX11 122 yX11_draw, Cond.instanceMethod yX11_draw, Cond.selects RX11 yX11_draw yX11_draw, Cond.initialized RX11, Cond.code yX11_draw cX11_draw 7 (some .boolean), Cond.fieldLink RX11 45 "SeedMakersModel" "n" "I", Cond.methodLink RX11 113 yX11_empty, Cond.instanceMethod yX11_empty, Cond.selects RX11 yX11_empty yX11_empty, Cond.code yX11_empty cX11_empty 2 none, Cond.methodLink RX11 57 yX11_cells, Cond.instanceMethod yX11_cells, Cond.selects RX11 yX11_cells yX11_cells, Cond.code yX11_cells cX11_cells 1 (some .int), Cond.methodLink RX11 116 yX11_countDraw, Cond.instanceMethod yX11_countDraw]
def wsX11_isGood_r2 : List Cond := [Cond.selects RX11 yX11_countDraw yX11_countDraw, Cond.code yX11_countDraw cX11_countDraw 4 (some .int), Cond.methodLink RX11 110 yX11_mayDraw, Cond.instanceMethod yX11_mayDraw, Cond.selects RX11 yX11_mayDraw yX11_mayDraw, Cond.code yX11_mayDraw cX11_mayDraw 4 (some .boolean), Cond.methodLink RX11 85 yX11_sees, Cond.instanceMethod yX11_sees, Cond.selects RX11 yX11_sees yX11_sees, Cond.code yX11_sees cX11_sees 3 (some .boolean), Cond.fieldLink RX11 51 "SeedMakersModel" "high" "I", Cond.fieldLink RX11 48 "SeedMakersModel" "wide" "I", Cond.methodLink RX11 119 yX11_below, Cond.instanceMethod yX11_below, Cond.selects RX11 yX11_below yX11_below, Cond.code yX11_below cX11_below 2 (some .int), Cond.fieldLink RX11 102 "SeedMakersModel" "chance" "J", Cond.constantLong RX11 106 (6364136223846793005), Cond.constantLong RX11 108 (1442695040888963407), Cond.methodLink RX11 82 yX11_leastOf, Cond.instanceMethod yX11_leastOf, Cond.selects RX11 yX11_leastOf yX11_leastOf, Cond.code yX11_leastOf cX11_leastOf 5 (some .int), Cond.methodLink RX11 78 yX11_turned]
def wsX11_isGood_r3 : List Cond := [Cond.instanceMethod yX11_turned, Cond.selects RX11 yX11_turned yX11_turned, Cond.code yX11_turned cX11_turned 4 (some .int), Cond.fieldLink RX11 61 "SeedMakersModel" "symmetry" "I", Cond.methodLink RX11 129 yX11_hasTheme, Cond.instanceMethod yX11_hasTheme, Cond.selects RX11 yX11_hasTheme yX11_hasTheme, Cond.code yX11_hasTheme cX11_hasTheme 4 (some .boolean), Cond.fieldLink RX11 7 "SeedMakersModel" "themes" "[I", Cond.methodLink RX11 132 yX11_takeOut, Cond.instanceMethod yX11_takeOut, Cond.selects RX11 yX11_takeOut yX11_takeOut, Cond.code yX11_takeOut cX11_takeOut 3 none, Cond.methodLink RX11 136 yX11_countUpTo, Cond.instanceMethod yX11_countUpTo, Cond.selects RX11 yX11_countUpTo yX11_countUpTo, Cond.code yX11_countUpTo cX11_countUpTo 7 (some .int), Cond.fieldLink RX11 33 "SeedMakersModel" "tried" "[I", Cond.methodLink RX11 89 yX11_fits, Cond.instanceMethod yX11_fits, Cond.selects RX11 yX11_fits yX11_fits, Cond.code yX11_fits cX11_fits 4 (some .boolean), Cond.methodLink RX11 139 yX11_putBack, Cond.instanceMethod yX11_putBack]
def wsX11_isGood_r4 : List Cond := [Cond.selects RX11 yX11_putBack yX11_putBack, Cond.code yX11_putBack cX11_putBack 3 none, Cond.methodLink RX11 142 yX11_countGivens, Cond.instanceMethod yX11_countGivens, Cond.selects RX11 yX11_countGivens yX11_countGivens, Cond.code yX11_countGivens cX11_countGivens 3 (some .int), Cond.methodLink RX11 145 yX11_countLeft, Cond.instanceMethod yX11_countLeft, Cond.selects RX11 yX11_countLeft yX11_countLeft, Cond.code yX11_countLeft cX11_countLeft 4 (some .int), Cond.fieldLink RX11 36 "SeedMakersModel" "known" "[I", Cond.methodLink RX11 92 yX11_may, Cond.instanceMethod yX11_may, Cond.selects RX11 yX11_may yX11_may, Cond.code yX11_may cX11_may 4 (some .boolean), Cond.methodLink RX11 99 yX11_isSingle, Cond.instanceMethod yX11_isSingle, Cond.selects RX11 yX11_isSingle yX11_isSingle, Cond.code yX11_isSingle cX11_isSingle 7 (some .boolean), Cond.methodLink RX11 95 yX11_isTogether, Cond.instanceMethod yX11_isTogether, Cond.selects RX11 yX11_isTogether yX11_isTogether, Cond.code yX11_isTogether cX11_isTogether 4 (some .boolean)]
def wsX11_isGood : List Cond := .code yX11_isGood cX11_isGood 5 (some .boolean) :: ((wsX11_isGood_r1 ++ (wsX11_isGood_r2 ++ (wsX11_isGood_r3 ++ wsX11_isGood_r4))) ++ wsX110)
def wsX11_make_r1 : List Cond := [Cond.fieldLink RX11 54 "SeedMakersModel" "thrown" "I", Cond.fieldLink RX11 102 "SeedMakersModel" "chance" "J", Cond.fieldLink RX11 18 "SeedMakersModel" "tells" "[I", Cond.fieldLink RX11 148 "SeedMakersModel" "isMade" "Z", Cond.fieldLink RX11 21 "SeedMakersModel" "puzzle" "[I", Cond.fieldLink RX11 27 "SeedMakersModel" "givens" "[I", Cond.fieldLink RX11 24 "SeedMakersModel" "whole" "[I", Cond.fieldLink RX11 30 "SeedMakersModel" "drawn" "[I", Cond.methodLink RX11 152 yX11_isGood, Cond.instanceMethod yX11_isGood, Cond.selects RX11 yX11_isGood yX11_isGood, Cond.initialized RX11, Cond.code yX11_isGood cX11_isGood 5 (some .boolean), Cond.fieldLink RX11 126 "SeedMakersModel" "rows" "I", Cond.fieldLink RX11 39 "SeedMakersModel" "row" "[I", Cond.fieldLink RX11 75 "SeedMakersModel" "leastAim" "I", Cond.fieldLink RX11 14 "SeedMakersModel" "mostAim" "I", Cond.fieldLink RX11 72 "SeedMakersModel" "easyAim" "I", Cond.methodLink RX11 122 yX11_draw, Cond.instanceMethod yX11_draw, Cond.selects RX11 yX11_draw yX11_draw, Cond.code yX11_draw cX11_draw 7 (some .boolean), Cond.fieldLink RX11 45 "SeedMakersModel" "n" "I", Cond.methodLink RX11 113 yX11_empty]
def wsX11_make_r2 : List Cond := [Cond.instanceMethod yX11_empty, Cond.selects RX11 yX11_empty yX11_empty, Cond.code yX11_empty cX11_empty 2 none, Cond.methodLink RX11 57 yX11_cells, Cond.instanceMethod yX11_cells, Cond.selects RX11 yX11_cells yX11_cells, Cond.code yX11_cells cX11_cells 1 (some .int), Cond.methodLink RX11 116 yX11_countDraw, Cond.instanceMethod yX11_countDraw, Cond.selects RX11 yX11_countDraw yX11_countDraw, Cond.code yX11_countDraw cX11_countDraw 4 (some .int), Cond.methodLink RX11 110 yX11_mayDraw, Cond.instanceMethod yX11_mayDraw, Cond.selects RX11 yX11_mayDraw yX11_mayDraw, Cond.code yX11_mayDraw cX11_mayDraw 4 (some .boolean), Cond.methodLink RX11 85 yX11_sees, Cond.instanceMethod yX11_sees, Cond.selects RX11 yX11_sees yX11_sees, Cond.code yX11_sees cX11_sees 3 (some .boolean), Cond.fieldLink RX11 51 "SeedMakersModel" "high" "I", Cond.fieldLink RX11 48 "SeedMakersModel" "wide" "I", Cond.methodLink RX11 119 yX11_below, Cond.instanceMethod yX11_below, Cond.selects RX11 yX11_below yX11_below]
def wsX11_make_r3 : List Cond := [Cond.code yX11_below cX11_below 2 (some .int), Cond.constantLong RX11 106 (6364136223846793005), Cond.constantLong RX11 108 (1442695040888963407), Cond.methodLink RX11 82 yX11_leastOf, Cond.instanceMethod yX11_leastOf, Cond.selects RX11 yX11_leastOf yX11_leastOf, Cond.code yX11_leastOf cX11_leastOf 5 (some .int), Cond.methodLink RX11 78 yX11_turned, Cond.instanceMethod yX11_turned, Cond.selects RX11 yX11_turned yX11_turned, Cond.code yX11_turned cX11_turned 4 (some .int), Cond.fieldLink RX11 61 "SeedMakersModel" "symmetry" "I", Cond.methodLink RX11 129 yX11_hasTheme, Cond.instanceMethod yX11_hasTheme, Cond.selects RX11 yX11_hasTheme yX11_hasTheme, Cond.code yX11_hasTheme cX11_hasTheme 4 (some .boolean), Cond.fieldLink RX11 7 "SeedMakersModel" "themes" "[I", Cond.methodLink RX11 132 yX11_takeOut, Cond.instanceMethod yX11_takeOut, Cond.selects RX11 yX11_takeOut yX11_takeOut, Cond.code yX11_takeOut cX11_takeOut 3 none, Cond.methodLink RX11 136 yX11_countUpTo, Cond.instanceMethod yX11_countUpTo, Cond.selects RX11 yX11_countUpTo yX11_countUpTo]
def wsX11_make_r4 : List Cond := [Cond.code yX11_countUpTo cX11_countUpTo 7 (some .int), Cond.fieldLink RX11 33 "SeedMakersModel" "tried" "[I", Cond.methodLink RX11 89 yX11_fits, Cond.instanceMethod yX11_fits, Cond.selects RX11 yX11_fits yX11_fits, Cond.code yX11_fits cX11_fits 4 (some .boolean), Cond.methodLink RX11 139 yX11_putBack, Cond.instanceMethod yX11_putBack, Cond.selects RX11 yX11_putBack yX11_putBack, Cond.code yX11_putBack cX11_putBack 3 none, Cond.methodLink RX11 142 yX11_countGivens, Cond.instanceMethod yX11_countGivens, Cond.selects RX11 yX11_countGivens yX11_countGivens, Cond.code yX11_countGivens cX11_countGivens 3 (some .int), Cond.methodLink RX11 145 yX11_countLeft, Cond.instanceMethod yX11_countLeft, Cond.selects RX11 yX11_countLeft yX11_countLeft, Cond.code yX11_countLeft cX11_countLeft 4 (some .int), Cond.fieldLink RX11 36 "SeedMakersModel" "known" "[I", Cond.methodLink RX11 92 yX11_may, Cond.instanceMethod yX11_may, Cond.selects RX11 yX11_may yX11_may, Cond.code yX11_may cX11_may 4 (some .boolean), Cond.methodLink RX11 99 yX11_isSingle]
def wsX11_make_r5 : List Cond := [Cond.instanceMethod yX11_isSingle, Cond.selects RX11 yX11_isSingle yX11_isSingle, Cond.code yX11_isSingle cX11_isSingle 7 (some .boolean), Cond.methodLink RX11 95 yX11_isTogether, Cond.instanceMethod yX11_isTogether, Cond.selects RX11 yX11_isTogether yX11_isTogether, Cond.code yX11_isTogether cX11_isTogether 4 (some .boolean)]
def wsX11_make : List Cond := .code yX11_make cX11_make 5 (some .int) :: ((wsX11_make_r1 ++ (wsX11_make_r2 ++ (wsX11_make_r3 ++ (wsX11_make_r4 ++ wsX11_make_r5)))) ++ wsX110)
def wsX11_take : List Cond := .code yX11_take cX11_take 2 none :: ([.fieldLink RX11 27 "SeedMakersModel" "givens" "[I", .fieldLink RX11 21 "SeedMakersModel" "puzzle" "[I"] ++ wsX110)
def wsX11_given : List Cond := .code yX11_given cX11_given 2 (some .int) :: ([.fieldLink RX11 148 "SeedMakersModel" "isMade" "Z", .fieldLink RX11 21 "SeedMakersModel" "puzzle" "[I", .methodLink RX11 64 yX11_isCell, .instanceMethod yX11_isCell, .selects RX11 yX11_isCell yX11_isCell, .initialized RX11, .code yX11_isCell cX11_isCell 2 (some .boolean), .methodLink RX11 57 yX11_cells, .instanceMethod yX11_cells, .selects RX11 yX11_cells yX11_cells, .code yX11_cells cX11_cells 1 (some .int), .fieldLink RX11 45 "SeedMakersModel" "n" "I", .methodLink RX11 68 yX11_throwsIf, .instanceMethod yX11_throwsIf, .selects RX11 yX11_throwsIf yX11_throwsIf, .code yX11_throwsIf cX11_throwsIf 3 (some .boolean), .fieldLink RX11 54 "SeedMakersModel" "thrown" "I"] ++ wsX110)
def wsX11_answer : List Cond := .code yX11_answer cX11_answer 2 (some .int) :: ([.fieldLink RX11 148 "SeedMakersModel" "isMade" "Z", .fieldLink RX11 24 "SeedMakersModel" "whole" "[I", .methodLink RX11 64 yX11_isCell, .instanceMethod yX11_isCell, .selects RX11 yX11_isCell yX11_isCell, .initialized RX11, .code yX11_isCell cX11_isCell 2 (some .boolean), .methodLink RX11 57 yX11_cells, .instanceMethod yX11_cells, .selects RX11 yX11_cells yX11_cells, .code yX11_cells cX11_cells 1 (some .int), .fieldLink RX11 45 "SeedMakersModel" "n" "I", .methodLink RX11 68 yX11_throwsIf, .instanceMethod yX11_throwsIf, .selects RX11 yX11_throwsIf yX11_throwsIf, .code yX11_throwsIf cX11_throwsIf 3 (some .boolean), .fieldLink RX11 54 "SeedMakersModel" "thrown" "I"] ++ wsX110)
def wsX11_told : List Cond := .code yX11_told cX11_told 2 (some .int) :: ([.fieldLink RX11 54 "SeedMakersModel" "thrown" "I", .fieldLink RX11 18 "SeedMakersModel" "tells" "[I"] ++ wsX110)
def wsX11_left_r1 : List Cond := [Cond.fieldLink RX11 54 "SeedMakersModel" "thrown" "I", Cond.fieldLink RX11 148 "SeedMakersModel" "isMade" "Z", Cond.methodLink RX11 155 yX11_take, Cond.instanceMethod yX11_take, Cond.selects RX11 yX11_take yX11_take, Cond.initialized RX11, Cond.code yX11_take cX11_take 2 none, Cond.fieldLink RX11 27 "SeedMakersModel" "givens" "[I", Cond.fieldLink RX11 21 "SeedMakersModel" "puzzle" "[I", Cond.methodLink RX11 145 yX11_countLeft, Cond.instanceMethod yX11_countLeft, Cond.selects RX11 yX11_countLeft yX11_countLeft, Cond.code yX11_countLeft cX11_countLeft 4 (some .int), Cond.fieldLink RX11 36 "SeedMakersModel" "known" "[I", Cond.fieldLink RX11 45 "SeedMakersModel" "n" "I", Cond.methodLink RX11 57 yX11_cells, Cond.instanceMethod yX11_cells, Cond.selects RX11 yX11_cells yX11_cells, Cond.code yX11_cells cX11_cells 1 (some .int), Cond.methodLink RX11 92 yX11_may, Cond.instanceMethod yX11_may, Cond.selects RX11 yX11_may yX11_may, Cond.code yX11_may cX11_may 4 (some .boolean), Cond.methodLink RX11 85 yX11_sees]
def wsX11_left_r2 : List Cond := [Cond.instanceMethod yX11_sees, Cond.selects RX11 yX11_sees yX11_sees, Cond.code yX11_sees cX11_sees 3 (some .boolean), Cond.fieldLink RX11 51 "SeedMakersModel" "high" "I", Cond.fieldLink RX11 48 "SeedMakersModel" "wide" "I", Cond.methodLink RX11 99 yX11_isSingle, Cond.instanceMethod yX11_isSingle, Cond.selects RX11 yX11_isSingle yX11_isSingle, Cond.code yX11_isSingle cX11_isSingle 7 (some .boolean), Cond.methodLink RX11 95 yX11_isTogether, Cond.instanceMethod yX11_isTogether, Cond.selects RX11 yX11_isTogether yX11_isTogether, Cond.code yX11_isTogether cX11_isTogether 4 (some .boolean)]
def wsX11_left : List Cond := .code yX11_left cX11_left 1 (some .int) :: ((wsX11_left_r1 ++ wsX11_left_r2) ++ wsX110)
def wsX11_needed_r1 : List Cond := [Cond.fieldLink RX11 148 "SeedMakersModel" "isMade" "Z", Cond.methodLink RX11 64 yX11_isCell, Cond.instanceMethod yX11_isCell, Cond.selects RX11 yX11_isCell yX11_isCell, Cond.initialized RX11, Cond.code yX11_isCell cX11_isCell 2 (some .boolean), Cond.methodLink RX11 57 yX11_cells, Cond.instanceMethod yX11_cells, Cond.selects RX11 yX11_cells yX11_cells, Cond.code yX11_cells cX11_cells 1 (some .int), Cond.fieldLink RX11 45 "SeedMakersModel" "n" "I", Cond.methodLink RX11 68 yX11_throwsIf, Cond.instanceMethod yX11_throwsIf, Cond.selects RX11 yX11_throwsIf yX11_throwsIf, Cond.code yX11_throwsIf cX11_throwsIf 3 (some .boolean), Cond.fieldLink RX11 54 "SeedMakersModel" "thrown" "I", Cond.methodLink RX11 155 yX11_take, Cond.instanceMethod yX11_take, Cond.selects RX11 yX11_take yX11_take, Cond.code yX11_take cX11_take 2 none, Cond.fieldLink RX11 27 "SeedMakersModel" "givens" "[I", Cond.fieldLink RX11 21 "SeedMakersModel" "puzzle" "[I", Cond.methodLink RX11 142 yX11_countGivens, Cond.instanceMethod yX11_countGivens]
def wsX11_needed_r2 : List Cond := [Cond.selects RX11 yX11_countGivens yX11_countGivens, Cond.code yX11_countGivens cX11_countGivens 3 (some .int), Cond.methodLink RX11 82 yX11_leastOf, Cond.instanceMethod yX11_leastOf, Cond.selects RX11 yX11_leastOf yX11_leastOf, Cond.code yX11_leastOf cX11_leastOf 5 (some .int), Cond.methodLink RX11 78 yX11_turned, Cond.instanceMethod yX11_turned, Cond.selects RX11 yX11_turned yX11_turned, Cond.code yX11_turned cX11_turned 4 (some .int), Cond.fieldLink RX11 61 "SeedMakersModel" "symmetry" "I", Cond.methodLink RX11 132 yX11_takeOut, Cond.instanceMethod yX11_takeOut, Cond.selects RX11 yX11_takeOut yX11_takeOut, Cond.code yX11_takeOut cX11_takeOut 3 none, Cond.methodLink RX11 136 yX11_countUpTo, Cond.instanceMethod yX11_countUpTo, Cond.selects RX11 yX11_countUpTo yX11_countUpTo, Cond.code yX11_countUpTo cX11_countUpTo 7 (some .int), Cond.fieldLink RX11 33 "SeedMakersModel" "tried" "[I", Cond.methodLink RX11 89 yX11_fits, Cond.instanceMethod yX11_fits, Cond.selects RX11 yX11_fits yX11_fits, Cond.code yX11_fits cX11_fits 4 (some .boolean)]
def wsX11_needed_r3 : List Cond := [Cond.methodLink RX11 85 yX11_sees, Cond.instanceMethod yX11_sees, Cond.selects RX11 yX11_sees yX11_sees, Cond.code yX11_sees cX11_sees 3 (some .boolean), Cond.fieldLink RX11 51 "SeedMakersModel" "high" "I", Cond.fieldLink RX11 48 "SeedMakersModel" "wide" "I"]
def wsX11_needed : List Cond := .code yX11_needed cX11_needed 3 (some .boolean) :: ((wsX11_needed_r1 ++ (wsX11_needed_r2 ++ wsX11_needed_r3)) ++ wsX110)
def wsX11_unit : List Cond := .code yX11_unit cX11_unit 2 (some .boolean) :: ([.fieldLink RX11 54 "SeedMakersModel" "thrown" "I", .fieldLink RX11 158 "SeedMakersModel" "size" "I", .fieldLink RX11 42 "SeedMakersModel" "text" "[I"] ++ wsX110)
def wsX11_read : List Cond := .code yX11_read cX11_read 4 (some .int) :: ([.fieldLink RX11 158 "SeedMakersModel" "size" "I", .fieldLink RX11 42 "SeedMakersModel" "text" "[I", .fieldLink RX11 45 "SeedMakersModel" "n" "I", .fieldLink RX11 27 "SeedMakersModel" "givens" "[I", .methodLink RX11 57 yX11_cells, .instanceMethod yX11_cells, .selects RX11 yX11_cells yX11_cells, .initialized RX11, .code yX11_cells cX11_cells 1 (some .int), .methodLink RX11 85 yX11_sees, .instanceMethod yX11_sees, .selects RX11 yX11_sees yX11_sees, .code yX11_sees cX11_sees 3 (some .boolean), .fieldLink RX11 51 "SeedMakersModel" "high" "I", .fieldLink RX11 48 "SeedMakersModel" "wide" "I"] ++ wsX110)
def wsX11_answers_r1 : List Cond := [Cond.fieldLink RX11 54 "SeedMakersModel" "thrown" "I", Cond.fieldLink RX11 158 "SeedMakersModel" "size" "I", Cond.methodLink RX11 161 yX11_read, Cond.instanceMethod yX11_read, Cond.selects RX11 yX11_read yX11_read, Cond.initialized RX11, Cond.code yX11_read cX11_read 4 (some .int), Cond.fieldLink RX11 42 "SeedMakersModel" "text" "[I", Cond.fieldLink RX11 45 "SeedMakersModel" "n" "I", Cond.fieldLink RX11 27 "SeedMakersModel" "givens" "[I", Cond.methodLink RX11 57 yX11_cells, Cond.instanceMethod yX11_cells, Cond.selects RX11 yX11_cells yX11_cells, Cond.code yX11_cells cX11_cells 1 (some .int), Cond.methodLink RX11 85 yX11_sees, Cond.instanceMethod yX11_sees, Cond.selects RX11 yX11_sees yX11_sees, Cond.code yX11_sees cX11_sees 3 (some .boolean), Cond.fieldLink RX11 51 "SeedMakersModel" "high" "I", Cond.fieldLink RX11 48 "SeedMakersModel" "wide" "I", Cond.methodLink RX11 136 yX11_countUpTo, Cond.instanceMethod yX11_countUpTo, Cond.selects RX11 yX11_countUpTo yX11_countUpTo, Cond.code yX11_countUpTo cX11_countUpTo 7 (some .int)]
def wsX11_answers_r2 : List Cond := [Cond.fieldLink RX11 33 "SeedMakersModel" "tried" "[I", Cond.methodLink RX11 89 yX11_fits, Cond.instanceMethod yX11_fits, Cond.selects RX11 yX11_fits yX11_fits, Cond.code yX11_fits cX11_fits 4 (some .boolean)]
def wsX11_answers : List Cond := .code yX11_answers cX11_answers 2 (some .int) :: ((wsX11_answers_r1 ++ wsX11_answers_r2) ++ wsX110)
def wsX11_text : List Cond := .code yX11_text cX11_text 2 (some .int) :: ([.fieldLink RX11 54 "SeedMakersModel" "thrown" "I", .fieldLink RX11 148 "SeedMakersModel" "isMade" "Z", .fieldLink RX11 21 "SeedMakersModel" "puzzle" "[I", .methodLink RX11 57 yX11_cells, .instanceMethod yX11_cells, .selects RX11 yX11_cells yX11_cells, .initialized RX11, .code yX11_cells cX11_cells 1 (some .int), .fieldLink RX11 45 "SeedMakersModel" "n" "I"] ++ wsX110)
def wsJx00060_init_a7421 : List Cond := .code yJx00060_init_a7421 cJx00060_init_a7421 2 none :: ([])
def wsJ9_min_7cf53 : List Cond := .code yJ9_min_7cf53 cJ9_min_7cf53 2 (some .int) :: ([])
def wsL_cell : List Cond := .code yL_cell cL_cell 2 (some .int) :: ([])
def wsL_theme : List Cond := .codeWith yL_theme cL_theme 4 (some .int) [(0, 6, 9, 13), (0, 6, 12, 15)] :: ([.classLink RL 13 "java/lang/ArrayIndexOutOfBoundsException", .classLink RL 15 "java/lang/IllegalArgumentException", .methodLink RL 7 yX10_theme, .instanceMethod yX10_theme, .selects RX10 yX10_theme yX10_theme, .initialized RX10, .code yX10_theme cX10_theme 3 none, .classLink RX10 72 "java/lang/IllegalArgumentException", .initialized "java/lang/IllegalArgumentException", .fieldLink RX10 12 "SeedMakers" "grid" "LSeedMakers$Grid;", .classLink RX10 65 RJx00060, .instantiable RJx00060 6, .initialized RJx00060, .fieldLink RX10 31 "SeedMakers" "themes" "[I", .methodLink RX10 61 yX4_has, .instanceMethod yX4_has, .selects RX4 yX4_has yX4_has, .initialized RX4, .code yX4_has cX4_has 2 (some .boolean), .fieldLink RX4 13 "SeedMakers$Grid" "cells" "I"] ++ wsX100 ++ wsJx000600 ++ wsX40 ++ (vx_atS RX10 76 "java/lang/IllegalArgumentException" ["java/lang/RuntimeException", "java/lang/Exception"]).filter goodWord)
def wsL_aim : List Cond := .codeWith yL_aim cL_aim 5 (some .int) [(0, 7, 10, 15)] :: ([.classLink RL 15 "java/lang/IllegalArgumentException", .methodLink RL 17 yX10_aim, .instanceMethod yX10_aim, .selects RX10 yX10_aim yX10_aim, .initialized RX10, .code yX10_aim cX10_aim 4 none, .classLink RX10 72 "java/lang/IllegalArgumentException", .initialized "java/lang/IllegalArgumentException", .fieldLink RX10 38 "SeedMakers" "aimed" "LSeedMakers$Aim;", .methodLink RX10 81 yX0_set, .instanceMethod yX0_set, .selects RX0 yX0_set yX0_set, .initialized RX0, .code yX0_set cX0_set 4 none, .fieldLink RX0 7 "SeedMakers$Aim" "easy" "I", .fieldLink RX0 13 "SeedMakers$Aim" "least" "I", .fieldLink RX0 19 "SeedMakers$Aim" "most" "I"] ++ wsX100 ++ wsX00 ++ (vx_atS RX10 76 "java/lang/IllegalArgumentException" ["java/lang/RuntimeException", "java/lang/Exception"]).filter goodWord)
def wsL_given : List Cond := .codeWith yL_given cL_given 4 (some .int) [(0, 9, 12, 13)] :: ([.methodLink RL 21 yX10_given, .instanceMethod yX10_given, .selects RX10 yX10_given yX10_given, .initialized RX10, .code yX10_given cX10_given 2 (some .int), .fieldLink RX10 12 "SeedMakers" "grid" "LSeedMakers$Grid;", .classLink RX10 65 RJx00060, .instantiable RJx00060 6, .initialized RJx00060, .fieldLink RX10 47 "SeedMakers" "maker" "LSeedMakers$Maker;", .fieldLink RX10 93 "SeedMakers$Maker" "made" "Z", .fieldLink RX10 97 "SeedMakers$Maker" "givens" "[I", .methodLink RX10 61 yX4_has, .instanceMethod yX4_has, .selects RX4 yX4_has yX4_has, .initialized RX4, .code yX4_has cX4_has 2 (some .boolean), .fieldLink RX4 13 "SeedMakers$Grid" "cells" "I"] ++ wsX100 ++ wsJx000600 ++ wsX50 ++ wsX40)
def wsL_answer : List Cond := .codeWith yL_answer cL_answer 4 (some .int) [(0, 9, 12, 13)] :: ([.methodLink RL 25 yX10_answer, .instanceMethod yX10_answer, .selects RX10 yX10_answer yX10_answer, .initialized RX10, .code yX10_answer cX10_answer 2 (some .int), .fieldLink RX10 12 "SeedMakers" "grid" "LSeedMakers$Grid;", .classLink RX10 65 RJx00060, .instantiable RJx00060 6, .initialized RJx00060, .fieldLink RX10 47 "SeedMakers" "maker" "LSeedMakers$Maker;", .fieldLink RX10 93 "SeedMakers$Maker" "made" "Z", .fieldLink RX10 100 "SeedMakers$Maker" "whole" "[I", .methodLink RX10 61 yX4_has, .instanceMethod yX4_has, .selects RX4 yX4_has yX4_has, .initialized RX4, .code yX4_has cX4_has 2 (some .boolean), .fieldLink RX4 13 "SeedMakers$Grid" "cells" "I"] ++ wsX100 ++ wsJx000600 ++ wsX50 ++ wsX40)
def wsL_needed_r1 : List Cond := [Cond.methodLink RL 28 yX10_needed, Cond.instanceMethod yX10_needed, Cond.selects RX10 yX10_needed yX10_needed, Cond.initialized RX10, Cond.code yX10_needed cX10_needed 2 (some .boolean), Cond.fieldLink RX10 12 "SeedMakers" "grid" "LSeedMakers$Grid;", Cond.classLink RX10 65 RJx00060, Cond.instantiable RJx00060 6, Cond.initialized RJx00060, Cond.fieldLink RX10 47 "SeedMakers" "maker" "LSeedMakers$Maker;", Cond.fieldLink RX10 93 "SeedMakers$Maker" "made" "Z", Cond.fieldLink RX10 23 "SeedMakers" "sets" "LSeedMakers$Sets;", Cond.fieldLink RX10 131 "SeedMakers$Sets" "leastOf" "[I", Cond.methodLink RX10 61 yX4_has, Cond.instanceMethod yX4_has, Cond.selects RX4 yX4_has yX4_has, Cond.initialized RX4, Cond.code yX4_has cX4_has 2 (some .boolean), Cond.fieldLink RX4 13 "SeedMakers$Grid" "cells" "I", Cond.methodLink RX10 134 yX5_needsSet, Cond.instanceMethod yX5_needsSet, Cond.selects RX5 yX5_needsSet yX5_needsSet, Cond.initialized RX5, Cond.code yX5_needsSet cX5_needsSet 5 (some .boolean)]
def wsL_needed_r2 : List Cond := [Cond.fieldLink RX5 32 "SeedMakers$Maker" "grid" "LSeedMakers$Grid;", Cond.fieldLink RX5 80 "SeedMakers$Grid" "cells" "I", Cond.fieldLink RX5 36 "SeedMakers$Maker" "sets" "LSeedMakers$Sets;", Cond.fieldLink RX5 158 "SeedMakers$Sets" "leastOf" "[I", Cond.fieldLink RX5 88 "SeedMakers$Maker" "givens" "[I", Cond.fieldLink RX5 98 "SeedMakers$Maker" "without" "[I", Cond.fieldLink RX5 76 "SeedMakers$Maker" "solver" "LSeedMakers$Solver;", Cond.methodLink RX5 163 yX8_count, Cond.instanceMethod yX8_count, Cond.selects RX8 yX8_count yX8_count, Cond.initialized RX8, Cond.code yX8_count cX8_count 5 (some .int), Cond.fieldLink RX8 21 "SeedMakers$Solver" "board" "LSeedMakers$Board;", Cond.fieldLink RX8 30 "SeedMakers$Solver" "open" "[I", Cond.fieldLink RX8 7 "SeedMakers$Solver" "limit" "I", Cond.fieldLink RX8 13 "SeedMakers$Solver" "found" "I", Cond.methodLink RX8 34 yX1_putAll, Cond.instanceMethod yX1_putAll, Cond.selects RX1 yX1_putAll yX1_putAll, Cond.initialized RX1, Cond.code yX1_putAll cX1_putAll 3 none, Cond.fieldLink RX1 7 "SeedMakers$Board" "grid" "LSeedMakers$Grid;", Cond.fieldLink RX1 13 "SeedMakers$Grid" "cells" "I", Cond.methodLink RX1 35 yX1_clear]
def wsL_needed_r3 : List Cond := [Cond.instanceMethod yX1_clear, Cond.selects RX1 yX1_clear yX1_clear, Cond.code yX1_clear cX1_clear 2 none, Cond.fieldLink RX1 19 "SeedMakers$Board" "symbols" "[I", Cond.fieldLink RX1 23 "SeedMakers$Grid" "side" "I", Cond.fieldLink RX1 26 "SeedMakers$Board" "inRow" "[I", Cond.fieldLink RX1 29 "SeedMakers$Board" "inColumn" "[I", Cond.fieldLink RX1 32 "SeedMakers$Board" "inBox" "[I", Cond.methodLink RX1 38 yX1_put, Cond.instanceMethod yX1_put, Cond.selects RX1 yX1_put yX1_put, Cond.code yX1_put cX1_put 3 none, Cond.methodLink RX1 54 yX1_flip, Cond.instanceMethod yX1_flip, Cond.selects RX1 yX1_flip yX1_flip, Cond.code yX1_flip cX1_flip 3 none, Cond.fieldLink RX1 45 "SeedMakers$Grid" "row" "[I", Cond.fieldLink RX1 48 "SeedMakers$Grid" "column" "[I", Cond.fieldLink RX1 51 "SeedMakers$Grid" "box" "[I", Cond.methodLink RX8 38 yX1_isEmpty, Cond.instanceMethod yX1_isEmpty, Cond.selects RX1 yX1_isEmpty yX1_isEmpty, Cond.code yX1_isEmpty cX1_isEmpty 2 (some .boolean), Cond.methodLink RX8 42 yX8_search]
def wsL_needed_r4 : List Cond := [Cond.instanceMethod yX8_search, Cond.selects RX8 yX8_search yX8_search, Cond.code yX8_search cX8_search 6 none, Cond.fieldLink RX8 53 "SeedMakers$Board" "grid" "LSeedMakers$Grid;", Cond.fieldLink RX8 57 "SeedMakers$Grid" "side" "I", Cond.methodLink RX8 46 yX8_tightest, Cond.instanceMethod yX8_tightest, Cond.selects RX8 yX8_tightest yX8_tightest, Cond.code yX8_tightest cX8_tightest 6 (some .int), Cond.constant RX8 69 (2147483647), Cond.methodLink RX8 50 yX1_may, Cond.instanceMethod yX1_may, Cond.selects RX1 yX1_may yX1_may, Cond.code yX1_may cX1_may 2 (some .int), Cond.fieldLink RX1 42 "SeedMakers$Grid" "allSymbols" "I", Cond.methodLink RX8 70 yJ6_bitCount_0f7a4, Cond.static yJ6_bitCount_0f7a4, Cond.initialized RJ6, Cond.code yJ6_bitCount_0f7a4 cJ6_bitCount_0f7a4 1 (some .int), Cond.constant RJ6 265 (1431655765), Cond.constant RJ6 266 (858993459), Cond.constant RJ6 267 (252645135), Cond.methodLink RX8 60 yX1_put, Cond.methodLink RX8 64 yX1_takeOut]
def wsL_needed_r5 : List Cond := [Cond.instanceMethod yX1_takeOut, Cond.selects RX1 yX1_takeOut yX1_takeOut, Cond.code yX1_takeOut cX1_takeOut 3 none]
def wsL_needed : List Cond := .codeWith yL_needed cL_needed 4 (some .int) [(0, 16, 19, 13)] :: ((wsL_needed_r1 ++ (wsL_needed_r2 ++ (wsL_needed_r3 ++ (wsL_needed_r4 ++ wsL_needed_r5)))) ++ wsX100 ++ wsJx000600 ++ wsX50 ++ wsX60 ++ wsX40 ++ wsX80 ++ wsX10)
def wsL_law0_r1 : List Cond := [Cond.classLink RL 8 RX10, Cond.instantiable RX10 6, Cond.initialized RX10, Cond.classLink RL 41 RX11, Cond.instantiable RX11 22, Cond.initialized RX11, Cond.arrayClass .long, Cond.constantLong RL 60 (4294967295), Cond.methodLink RL 32 yL_cell, Cond.static yL_cell, Cond.initialized RL, Cond.code yL_cell cL_cell 2 (some .int), Cond.methodLink RL 38 yX10_init, Cond.instanceMethod yX10_init, Cond.code yX10_init cX10_init 2 none, Cond.methodLink RX10 1 objectInit, Cond.instanceMethod objectInit, Cond.code objectInit ⟨#[0xb1]⟩ 1 none, Cond.classLink RX10 7 RX4, Cond.instantiable RX4 7, Cond.initialized RX4, Cond.fieldLink RX10 12 "SeedMakers" "grid" "LSeedMakers$Grid;", Cond.classLink RX10 18 RX6, Cond.instantiable RX6 2]
def wsL_law0_r2 : List Cond := [Cond.initialized RX6, Cond.fieldLink RX10 23 "SeedMakers" "sets" "LSeedMakers$Sets;", Cond.fieldLink RX10 27 "SeedMakers$Grid" "cells" "I", Cond.arrayClass .int, Cond.fieldLink RX10 31 "SeedMakers" "themes" "[I", Cond.classLink RX10 35 RX0, Cond.instantiable RX0 3, Cond.initialized RX0, Cond.fieldLink RX10 38 "SeedMakers" "aimed" "LSeedMakers$Aim;", Cond.classLink RX10 42 RX5, Cond.instantiable RX5 20, Cond.initialized RX5, Cond.fieldLink RX10 47 "SeedMakers" "maker" "LSeedMakers$Maker;", Cond.classLink RX10 51 RX9, Cond.instantiable RX9 5, Cond.initialized RX9, Cond.fieldLink RX10 54 "SeedMakers" "typed" "LSeedMakers$Typed;", Cond.methodLink RX10 9 yX4_init, Cond.instanceMethod yX4_init, Cond.code yX4_init cX4_init 8 none, Cond.methodLink RX4 1 objectInit, Cond.fieldLink RX4 7 "SeedMakers$Grid" "side" "I", Cond.fieldLink RX4 13 "SeedMakers$Grid" "cells" "I", Cond.fieldLink RX4 16 "SeedMakers$Grid" "allSymbols" "I"]
def wsL_law0_r3 : List Cond := [Cond.fieldLink RX4 19 "SeedMakers$Grid" "row" "[I", Cond.fieldLink RX4 23 "SeedMakers$Grid" "column" "[I", Cond.fieldLink RX4 26 "SeedMakers$Grid" "box" "[I", Cond.classLink RX4 29 "[[I", Cond.fieldLink RX4 31 "SeedMakers$Grid" "units" "[[I", Cond.methodLink RX10 20 yX6_init, Cond.instanceMethod yX6_init, Cond.code yX6_init cX6_init 3 none, Cond.methodLink RX6 1 objectInit, Cond.fieldLink RX6 7 "SeedMakers$Sets" "grid" "LSeedMakers$Grid;", Cond.fieldLink RX6 13 "SeedMakers$Grid" "cells" "I", Cond.fieldLink RX6 19 "SeedMakers$Sets" "leastOf" "[I", Cond.instanceMethod yX0_init, Cond.code yX0_init cX0_init 1 none, Cond.methodLink RX0 1 objectInit, Cond.fieldLink RX0 7 "SeedMakers$Aim" "easy" "I", Cond.fieldLink RX0 13 "SeedMakers$Aim" "least" "I", Cond.constant RX0 18 (2147483647), Cond.fieldLink RX0 19 "SeedMakers$Aim" "most" "I", Cond.methodLink RX10 44 yX5_init, Cond.instanceMethod yX5_init, Cond.code yX5_init cX5_init 5 none, Cond.methodLink RX5 1 objectInit, Cond.fieldLink RX5 7 "SeedMakers$Maker" "made" "Z"]
def wsL_law0_r4 : List Cond := [Cond.fieldLink RX5 13 "SeedMakers$Maker" "triesMade" "I", Cond.fieldLink RX5 17 "SeedMakers$Maker" "restarts" "I", Cond.fieldLink RX5 20 "SeedMakers$Maker" "takenOut" "I", Cond.fieldLink RX5 23 "SeedMakers$Maker" "putBack" "I", Cond.fieldLink RX5 26 "SeedMakers$Maker" "givenCells" "I", Cond.fieldLink RX5 29 "SeedMakers$Maker" "unknownCells" "I", Cond.fieldLink RX5 32 "SeedMakers$Maker" "grid" "LSeedMakers$Grid;", Cond.fieldLink RX5 36 "SeedMakers$Maker" "sets" "LSeedMakers$Sets;", Cond.fieldLink RX5 40 "SeedMakers$Maker" "themes" "[I", Cond.fieldLink RX5 44 "SeedMakers$Maker" "aimed" "LSeedMakers$Aim;", Cond.classLink RX5 48 RX2, Cond.instantiable RX2 1, Cond.initialized RX2, Cond.fieldLink RX5 51 "SeedMakers$Maker" "chance" "LSeedMakers$Chance;", Cond.classLink RX5 55 RX3, Cond.instantiable RX3 3, Cond.initialized RX3, Cond.fieldLink RX5 60 "SeedMakers$Maker" "drawer" "LSeedMakers$Drawer;", Cond.classLink RX5 64 RX7, Cond.instantiable RX7 2, Cond.initialized RX7, Cond.fieldLink RX5 69 "SeedMakers$Maker" "singles" "LSeedMakers$Singles;", Cond.classLink RX5 73 RX8, Cond.instantiable RX8 4]
def wsL_law0_r5 : List Cond := [Cond.initialized RX8, Cond.fieldLink RX5 76 "SeedMakers$Maker" "solver" "LSeedMakers$Solver;", Cond.fieldLink RX5 80 "SeedMakers$Grid" "cells" "I", Cond.fieldLink RX5 85 "SeedMakers$Maker" "whole" "[I", Cond.fieldLink RX5 88 "SeedMakers$Maker" "givens" "[I", Cond.arrayClass .boolean, Cond.fieldLink RX5 91 "SeedMakers$Maker" "marked" "[Z", Cond.fieldLink RX5 95 "SeedMakers$Maker" "row" "[I", Cond.fieldLink RX5 98 "SeedMakers$Maker" "without" "[I", Cond.instanceMethod yX2_init, Cond.code yX2_init cX2_init 1 none, Cond.methodLink RX2 1 objectInit, Cond.fieldLink RX2 7 "SeedMakers$Chance" "state" "J", Cond.methodLink RX5 57 yX3_init, Cond.instanceMethod yX3_init, Cond.code yX3_init cX3_init 3 none, Cond.methodLink RX3 1 objectInit, Cond.fieldLink RX3 7 "SeedMakers$Drawer" "grid" "LSeedMakers$Grid;", Cond.fieldLink RX3 13 "SeedMakers$Drawer" "chance" "LSeedMakers$Chance;", Cond.classLink RX3 17 RX1, Cond.instantiable RX1 5, Cond.initialized RX1, Cond.fieldLink RX3 22 "SeedMakers$Drawer" "board" "LSeedMakers$Board;", Cond.methodLink RX3 19 yX1_init]
def wsL_law0_r6 : List Cond := [Cond.instanceMethod yX1_init, Cond.code yX1_init cX1_init 2 none, Cond.methodLink RX1 1 objectInit, Cond.fieldLink RX1 7 "SeedMakers$Board" "grid" "LSeedMakers$Grid;", Cond.fieldLink RX1 13 "SeedMakers$Grid" "cells" "I", Cond.fieldLink RX1 19 "SeedMakers$Board" "symbols" "[I", Cond.fieldLink RX1 23 "SeedMakers$Grid" "side" "I", Cond.fieldLink RX1 26 "SeedMakers$Board" "inRow" "[I", Cond.fieldLink RX1 29 "SeedMakers$Board" "inColumn" "[I", Cond.fieldLink RX1 32 "SeedMakers$Board" "inBox" "[I", Cond.methodLink RX1 35 yX1_clear, Cond.instanceMethod yX1_clear, Cond.selects RX1 yX1_clear yX1_clear, Cond.code yX1_clear cX1_clear 2 none, Cond.methodLink RX5 66 yX7_init, Cond.instanceMethod yX7_init, Cond.code yX7_init cX7_init 2 none, Cond.methodLink RX7 1 objectInit, Cond.fieldLink RX7 7 "SeedMakers$Singles" "grid" "LSeedMakers$Grid;", Cond.classLink RX7 13 RX1, Cond.fieldLink RX7 18 "SeedMakers$Singles" "board" "LSeedMakers$Board;", Cond.methodLink RX7 15 yX1_init, Cond.methodLink RX5 75 yX8_init, Cond.instanceMethod yX8_init]
def wsL_law0_r7 : List Cond := [Cond.code yX8_init cX8_init 2 none, Cond.methodLink RX8 1 objectInit, Cond.fieldLink RX8 7 "SeedMakers$Solver" "limit" "I", Cond.fieldLink RX8 13 "SeedMakers$Solver" "found" "I", Cond.classLink RX8 16 RX1, Cond.fieldLink RX8 21 "SeedMakers$Solver" "board" "LSeedMakers$Board;", Cond.fieldLink RX8 25 "SeedMakers$Grid" "cells" "I", Cond.fieldLink RX8 30 "SeedMakers$Solver" "open" "[I", Cond.methodLink RX8 18 yX1_init, Cond.methodLink RX10 53 yX9_init, Cond.instanceMethod yX9_init, Cond.code yX9_init cX9_init 2 none, Cond.methodLink RX9 1 objectInit, Cond.fieldLink RX9 7 "SeedMakers$Typed" "length" "I", Cond.fieldLink RX9 13 "SeedMakers$Typed" "grid" "LSeedMakers$Grid;", Cond.classLink RX9 17 RX1, Cond.fieldLink RX9 22 "SeedMakers$Typed" "board" "LSeedMakers$Board;", Cond.fieldLink RX9 26 "SeedMakers$Typed" "bytes" "[I", Cond.fieldLink RX9 30 "SeedMakers$Board" "symbols" "[I", Cond.fieldLink RX9 33 "SeedMakers$Typed" "symbols" "[I", Cond.methodLink RX9 19 yX1_init, Cond.methodLink RL 43 yX11_init, Cond.instanceMethod yX11_init, Cond.code yX11_init cX11_init 2 none]
def wsL_law0_r8 : List Cond := [Cond.methodLink RX11 1 objectInit, Cond.fieldLink RX11 7 "SeedMakersModel" "themes" "[I", Cond.constant RX11 13 (1000000), Cond.fieldLink RX11 14 "SeedMakersModel" "mostAim" "I", Cond.fieldLink RX11 18 "SeedMakersModel" "tells" "[I", Cond.fieldLink RX11 21 "SeedMakersModel" "puzzle" "[I", Cond.fieldLink RX11 24 "SeedMakersModel" "whole" "[I", Cond.fieldLink RX11 27 "SeedMakersModel" "givens" "[I", Cond.fieldLink RX11 30 "SeedMakersModel" "drawn" "[I", Cond.fieldLink RX11 33 "SeedMakersModel" "tried" "[I", Cond.fieldLink RX11 36 "SeedMakersModel" "known" "[I", Cond.fieldLink RX11 39 "SeedMakersModel" "row" "[I", Cond.fieldLink RX11 42 "SeedMakersModel" "text" "[I", Cond.fieldLink RX11 45 "SeedMakersModel" "n" "I", Cond.fieldLink RX11 48 "SeedMakersModel" "wide" "I", Cond.fieldLink RX11 51 "SeedMakersModel" "high" "I", Cond.methodLink RL 44 yX10_symmetry, Cond.instanceMethod yX10_symmetry, Cond.selects RX10 yX10_symmetry yX10_symmetry, Cond.code yX10_symmetry cX10_symmetry 2 (some .boolean), Cond.methodLink RX10 58 yX6_joinBy, Cond.instanceMethod yX6_joinBy, Cond.selects RX6 yX6_joinBy yX6_joinBy, Cond.code yX6_joinBy cX6_joinBy 6 none]
def wsL_law0_r9 : List Cond := [Cond.methodLink RX6 27 Lib.Math.min.name, Cond.static Lib.Math.min.name, Cond.initialized "java/lang/Math", Cond.code Lib.Math.min.name Lib.Math.min.code 2 (some .int), Cond.methodLink RX6 23 yX6_moved, Cond.instanceMethod yX6_moved, Cond.selects RX6 yX6_moved yX6_moved, Cond.code yX6_moved cX6_moved 6 (some .int), Cond.fieldLink RX6 32 "SeedMakers$Grid" "side" "I", Cond.fieldLink RX6 35 "SeedMakers$Grid" "column" "[I", Cond.fieldLink RX6 38 "SeedMakers$Grid" "row" "[I", Cond.methodLink RL 47 yX11_symmetry, Cond.instanceMethod yX11_symmetry, Cond.selects RX11 yX11_symmetry yX11_symmetry, Cond.code yX11_symmetry cX11_symmetry 2 (some .boolean), Cond.fieldLink RX11 54 "SeedMakersModel" "thrown" "I", Cond.fieldLink RX11 61 "SeedMakersModel" "symmetry" "I", Cond.methodLink RL 48 yL_theme, Cond.static yL_theme, Cond.codeWith yL_theme cL_theme 4 (some .int) [(0, 6, 9, 13), (0, 6, 12, 15)], Cond.classLink RL 13 "java/lang/ArrayIndexOutOfBoundsException", Cond.classLink RL 15 "java/lang/IllegalArgumentException", Cond.methodLink RL 7 yX10_theme, Cond.instanceMethod yX10_theme]
def wsL_law0_r10 : List Cond := [Cond.selects RX10 yX10_theme yX10_theme, Cond.code yX10_theme cX10_theme 3 none, Cond.classLink RX10 72 "java/lang/IllegalArgumentException", Cond.initialized "java/lang/IllegalArgumentException", Cond.classLink RX10 65 RJx00060, Cond.instantiable RJx00060 6, Cond.initialized RJx00060, Cond.methodLink RX10 61 yX4_has, Cond.instanceMethod yX4_has, Cond.selects RX4 yX4_has yX4_has, Cond.code yX4_has cX4_has 2 (some .boolean), Cond.methodLink RL 51 yX11_theme, Cond.instanceMethod yX11_theme, Cond.selects RX11 yX11_theme yX11_theme, Cond.code yX11_theme cX11_theme 3 none, Cond.methodLink RX11 64 yX11_isCell, Cond.instanceMethod yX11_isCell, Cond.selects RX11 yX11_isCell yX11_isCell, Cond.code yX11_isCell cX11_isCell 2 (some .boolean), Cond.methodLink RX11 57 yX11_cells, Cond.instanceMethod yX11_cells, Cond.selects RX11 yX11_cells yX11_cells, Cond.code yX11_cells cX11_cells 1 (some .int), Cond.methodLink RX11 68 yX11_throwsIf]
def wsL_law0_r11 : List Cond := [Cond.instanceMethod yX11_throwsIf, Cond.selects RX11 yX11_throwsIf yX11_throwsIf, Cond.code yX11_throwsIf cX11_throwsIf 3 (some .boolean), Cond.methodLink RL 52 yX11_thrown, Cond.instanceMethod yX11_thrown, Cond.selects RX11 yX11_thrown yX11_thrown, Cond.code yX11_thrown cX11_thrown 1 (some .int), Cond.methodLink RL 56 yL_aim, Cond.static yL_aim, Cond.codeWith yL_aim cL_aim 5 (some .int) [(0, 7, 10, 15)], Cond.methodLink RL 17 yX10_aim, Cond.instanceMethod yX10_aim, Cond.selects RX10 yX10_aim yX10_aim, Cond.code yX10_aim cX10_aim 4 none, Cond.methodLink RX10 81 yX0_set, Cond.instanceMethod yX0_set, Cond.selects RX0 yX0_set yX0_set, Cond.code yX0_set cX0_set 4 none, Cond.methodLink RL 59 yX11_aim, Cond.instanceMethod yX11_aim, Cond.selects RX11 yX11_aim yX11_aim, Cond.code yX11_aim cX11_aim 4 none, Cond.fieldLink RX11 72 "SeedMakersModel" "easyAim" "I", Cond.fieldLink RX11 75 "SeedMakersModel" "leastAim" "I"]
def wsL_law0_r12 : List Cond := [Cond.methodLink RL 62 yX10_make, Cond.instanceMethod yX10_make, Cond.selects RX10 yX10_make yX10_make, Cond.code yX10_make cX10_make 5 (some .int), Cond.methodLink RX10 85 yX5_startAt, Cond.instanceMethod yX5_startAt, Cond.selects RX5 yX5_startAt yX5_startAt, Cond.code yX5_startAt cX5_startAt 3 none, Cond.methodLink RX5 101 yX2_startAt, Cond.instanceMethod yX2_startAt, Cond.selects RX2 yX2_startAt yX2_startAt, Cond.code yX2_startAt cX2_startAt 3 none, Cond.methodLink RX10 89 yX5_tryOnce, Cond.instanceMethod yX5_tryOnce, Cond.selects RX5 yX5_tryOnce yX5_tryOnce, Cond.code yX5_tryOnce cX5_tryOnce 3 (some .boolean), Cond.methodLink RX5 124 arraycopyName, Cond.native arraycopyName, Cond.static arraycopyName, Cond.initialized "java/lang/System", Cond.methodLink RX5 105 yX5_drawWhole, Cond.instanceMethod yX5_drawWhole, Cond.selects RX5 yX5_drawWhole yX5_drawWhole, Cond.code yX5_drawWhole cX5_drawWhole 3 (some .boolean)]
def wsL_law0_r13 : List Cond := [Cond.fieldLink RX5 146 "SeedMakers$Drawer" "board" "LSeedMakers$Board;", Cond.fieldLink RX5 150 "SeedMakers$Board" "symbols" "[I", Cond.methodLink RX5 143 yX3_fill, Cond.instanceMethod yX3_fill, Cond.selects RX3 yX3_fill yX3_fill, Cond.code yX3_fill cX3_fill 5 (some .boolean), Cond.fieldLink RX3 29 "SeedMakers$Grid" "cells" "I", Cond.methodLink RX3 26 yX1_clear, Cond.methodLink RX3 35 yX3_tightest, Cond.instanceMethod yX3_tightest, Cond.selects RX3 yX3_tightest yX3_tightest, Cond.code yX3_tightest cX3_tightest 5 (some .int), Cond.constant RX3 61 (2147483647), Cond.methodLink RX3 62 yX1_isEmpty, Cond.instanceMethod yX1_isEmpty, Cond.selects RX1 yX1_isEmpty yX1_isEmpty, Cond.code yX1_isEmpty cX1_isEmpty 2 (some .boolean), Cond.methodLink RX3 39 yX1_may, Cond.instanceMethod yX1_may, Cond.selects RX1 yX1_may yX1_may, Cond.code yX1_may cX1_may 2 (some .int), Cond.fieldLink RX1 42 "SeedMakers$Grid" "allSymbols" "I", Cond.fieldLink RX1 45 "SeedMakers$Grid" "row" "[I", Cond.fieldLink RX1 48 "SeedMakers$Grid" "column" "[I"]
def wsL_law0_r14 : List Cond := [Cond.fieldLink RX1 51 "SeedMakers$Grid" "box" "[I", Cond.methodLink RX3 43 yJ6_bitCount_0f7a4, Cond.static yJ6_bitCount_0f7a4, Cond.initialized RJ6, Cond.code yJ6_bitCount_0f7a4 cJ6_bitCount_0f7a4 1 (some .int), Cond.constant RJ6 265 (1431655765), Cond.constant RJ6 266 (858993459), Cond.constant RJ6 267 (252645135), Cond.methodLink RX3 48 yX2_below, Cond.instanceMethod yX2_below, Cond.selects RX2 yX2_below yX2_below, Cond.code yX2_below cX2_below 2 (some .int), Cond.constantLong RX2 13 (6364136223846793005), Cond.constantLong RX2 15 (1442695040888963407), Cond.methodLink RX2 17 yX2_upperBits, Cond.instanceMethod yX2_upperBits, Cond.selects RX2 yX2_upperBits yX2_upperBits, Cond.code yX2_upperBits cX2_upperBits 1 (some .int), Cond.methodLink RX3 53 yX3_symbolAt, Cond.static yX3_symbolAt, Cond.code yX3_symbolAt cX3_symbolAt 4 (some .int), Cond.methodLink RX3 66 yJ6_numberOfTrailingZeros_0f7a4, Cond.static yJ6_numberOfTrailingZeros_0f7a4, Cond.code yJ6_numberOfTrailingZeros_0f7a4 cJ6_numberOfTrailingZeros_0f7a4 2 (some .int)]
def wsL_law0_r15 : List Cond := [Cond.constant RJ6 264 (65536), Cond.methodLink RX3 57 yX1_put, Cond.instanceMethod yX1_put, Cond.selects RX1 yX1_put yX1_put, Cond.code yX1_put cX1_put 3 none, Cond.methodLink RX1 54 yX1_flip, Cond.instanceMethod yX1_flip, Cond.selects RX1 yX1_flip yX1_flip, Cond.code yX1_flip cX1_flip 3 none, Cond.methodLink RX5 109 yX5_takeOutEmptySets, Cond.instanceMethod yX5_takeOutEmptySets, Cond.selects RX5 yX5_takeOutEmptySets yX5_takeOutEmptySets, Cond.code yX5_takeOutEmptySets cX5_takeOutEmptySets 2 (some .boolean), Cond.fieldLink RX5 158 "SeedMakers$Sets" "leastOf" "[I", Cond.methodLink RX5 155 yX5_markSetsWith, Cond.instanceMethod yX5_markSetsWith, Cond.selects RX5 yX5_markSetsWith yX5_markSetsWith, Cond.code yX5_markSetsWith cX5_markSetsWith 3 none, Cond.methodLink RX5 163 yX8_count, Cond.instanceMethod yX8_count, Cond.selects RX8 yX8_count yX8_count, Cond.code yX8_count cX8_count 5 (some .int), Cond.methodLink RX8 34 yX1_putAll, Cond.instanceMethod yX1_putAll]
def wsL_law0_r16 : List Cond := [Cond.selects RX1 yX1_putAll yX1_putAll, Cond.code yX1_putAll cX1_putAll 3 none, Cond.methodLink RX1 38 yX1_put, Cond.methodLink RX8 38 yX1_isEmpty, Cond.methodLink RX8 42 yX8_search, Cond.instanceMethod yX8_search, Cond.selects RX8 yX8_search yX8_search, Cond.code yX8_search cX8_search 6 none, Cond.fieldLink RX8 53 "SeedMakers$Board" "grid" "LSeedMakers$Grid;", Cond.fieldLink RX8 57 "SeedMakers$Grid" "side" "I", Cond.methodLink RX8 46 yX8_tightest, Cond.instanceMethod yX8_tightest, Cond.selects RX8 yX8_tightest yX8_tightest, Cond.code yX8_tightest cX8_tightest 6 (some .int), Cond.constant RX8 69 (2147483647), Cond.methodLink RX8 50 yX1_may, Cond.methodLink RX8 70 yJ6_bitCount_0f7a4, Cond.methodLink RX8 60 yX1_put, Cond.methodLink RX8 64 yX1_takeOut, Cond.instanceMethod yX1_takeOut, Cond.selects RX1 yX1_takeOut yX1_takeOut, Cond.code yX1_takeOut cX1_takeOut 3 none, Cond.methodLink RX5 112 yX5_layRow, Cond.instanceMethod yX5_layRow]
def wsL_law0_r17 : List Cond := [Cond.selects RX5 yX5_layRow yX5_layRow, Cond.code yX5_layRow cX5_layRow 3 (some .int), Cond.methodLink RX5 116 yX5_mixRow, Cond.instanceMethod yX5_mixRow, Cond.selects RX5 yX5_mixRow yX5_mixRow, Cond.code yX5_mixRow cX5_mixRow 5 none, Cond.methodLink RX5 167 yX2_below, Cond.methodLink RX5 120 yX5_needsSet, Cond.instanceMethod yX5_needsSet, Cond.selects RX5 yX5_needsSet yX5_needsSet, Cond.code yX5_needsSet cX5_needsSet 5 (some .boolean), Cond.methodLink RX5 130 yX5_countGivens, Cond.instanceMethod yX5_countGivens, Cond.selects RX5 yX5_countGivens yX5_countGivens, Cond.code yX5_countGivens cX5_countGivens 3 (some .int), Cond.methodLink RX5 133 yX7_countUnknown, Cond.instanceMethod yX7_countUnknown, Cond.selects RX7 yX7_countUnknown yX7_countUnknown, Cond.code yX7_countUnknown cX7_countUnknown 6 (some .int), Cond.fieldLink RX7 26 "SeedMakers$Grid" "cells" "I", Cond.methodLink RX7 22 yX1_putAll, Cond.methodLink RX7 32 yX7_fillLoneSymbols, Cond.instanceMethod yX7_fillLoneSymbols, Cond.selects RX7 yX7_fillLoneSymbols yX7_fillLoneSymbols]
def wsL_law0_r18 : List Cond := [Cond.code yX7_fillLoneSymbols cX7_fillLoneSymbols 4 (some .boolean), Cond.methodLink RX7 39 yX1_isEmpty, Cond.methodLink RX7 43 yX1_may, Cond.methodLink RX7 47 yJ6_bitCount_0f7a4, Cond.methodLink RX7 52 yJ6_numberOfTrailingZeros_0f7a4, Cond.methodLink RX7 55 yX1_put, Cond.methodLink RX7 36 yX7_fillLoneCells, Cond.instanceMethod yX7_fillLoneCells, Cond.selects RX7 yX7_fillLoneCells yX7_fillLoneCells, Cond.code yX7_fillLoneCells cX7_fillLoneCells 4 (some .boolean), Cond.fieldLink RX7 59 "SeedMakers$Grid" "units" "[[I", Cond.methodLink RX7 63 yX7_symbolsOfOneCell, Cond.instanceMethod yX7_symbolsOfOneCell, Cond.selects RX7 yX7_symbolsOfOneCell yX7_symbolsOfOneCell, Cond.code yX7_symbolsOfOneCell cX7_symbolsOfOneCell 6 (some .int), Cond.methodLink RX7 67 yX7_fillFrom, Cond.instanceMethod yX7_fillFrom, Cond.selects RX7 yX7_fillFrom yX7_fillFrom, Cond.code yX7_fillFrom cX7_fillFrom 6 (some .boolean), Cond.methodLink RX5 137 yX0_isMet, Cond.instanceMethod yX0_isMet, Cond.selects RX0 yX0_isMet yX0_isMet, Cond.code yX0_isMet cX0_isMet 3 (some .boolean), Cond.methodLink RL 66 yX11_make]
def wsL_law0_r19 : List Cond := [Cond.instanceMethod yX11_make, Cond.selects RX11 yX11_make yX11_make, Cond.code yX11_make cX11_make 5 (some .int), Cond.fieldLink RX11 102 "SeedMakersModel" "chance" "J", Cond.fieldLink RX11 148 "SeedMakersModel" "isMade" "Z", Cond.methodLink RX11 152 yX11_isGood, Cond.instanceMethod yX11_isGood, Cond.selects RX11 yX11_isGood yX11_isGood, Cond.code yX11_isGood cX11_isGood 5 (some .boolean), Cond.fieldLink RX11 126 "SeedMakersModel" "rows" "I", Cond.methodLink RX11 122 yX11_draw, Cond.instanceMethod yX11_draw, Cond.selects RX11 yX11_draw yX11_draw, Cond.code yX11_draw cX11_draw 7 (some .boolean), Cond.methodLink RX11 113 yX11_empty, Cond.instanceMethod yX11_empty, Cond.selects RX11 yX11_empty yX11_empty, Cond.code yX11_empty cX11_empty 2 none, Cond.methodLink RX11 116 yX11_countDraw, Cond.instanceMethod yX11_countDraw, Cond.selects RX11 yX11_countDraw yX11_countDraw, Cond.code yX11_countDraw cX11_countDraw 4 (some .int), Cond.methodLink RX11 110 yX11_mayDraw, Cond.instanceMethod yX11_mayDraw]
def wsL_law0_r20 : List Cond := [Cond.selects RX11 yX11_mayDraw yX11_mayDraw, Cond.code yX11_mayDraw cX11_mayDraw 4 (some .boolean), Cond.methodLink RX11 85 yX11_sees, Cond.instanceMethod yX11_sees, Cond.selects RX11 yX11_sees yX11_sees, Cond.code yX11_sees cX11_sees 3 (some .boolean), Cond.methodLink RX11 119 yX11_below, Cond.instanceMethod yX11_below, Cond.selects RX11 yX11_below yX11_below, Cond.code yX11_below cX11_below 2 (some .int), Cond.constantLong RX11 106 (6364136223846793005), Cond.constantLong RX11 108 (1442695040888963407), Cond.methodLink RX11 82 yX11_leastOf, Cond.instanceMethod yX11_leastOf, Cond.selects RX11 yX11_leastOf yX11_leastOf, Cond.code yX11_leastOf cX11_leastOf 5 (some .int), Cond.methodLink RX11 78 yX11_turned, Cond.instanceMethod yX11_turned, Cond.selects RX11 yX11_turned yX11_turned, Cond.code yX11_turned cX11_turned 4 (some .int), Cond.methodLink RX11 129 yX11_hasTheme, Cond.instanceMethod yX11_hasTheme, Cond.selects RX11 yX11_hasTheme yX11_hasTheme, Cond.code yX11_hasTheme cX11_hasTheme 4 (some .boolean)]
def wsL_law0_r21 : List Cond := [Cond.methodLink RX11 132 yX11_takeOut, Cond.instanceMethod yX11_takeOut, Cond.selects RX11 yX11_takeOut yX11_takeOut, Cond.code yX11_takeOut cX11_takeOut 3 none, Cond.methodLink RX11 136 yX11_countUpTo, Cond.instanceMethod yX11_countUpTo, Cond.selects RX11 yX11_countUpTo yX11_countUpTo, Cond.code yX11_countUpTo cX11_countUpTo 7 (some .int), Cond.methodLink RX11 89 yX11_fits, Cond.instanceMethod yX11_fits, Cond.selects RX11 yX11_fits yX11_fits, Cond.code yX11_fits cX11_fits 4 (some .boolean), Cond.methodLink RX11 139 yX11_putBack, Cond.instanceMethod yX11_putBack, Cond.selects RX11 yX11_putBack yX11_putBack, Cond.code yX11_putBack cX11_putBack 3 none, Cond.methodLink RX11 142 yX11_countGivens, Cond.instanceMethod yX11_countGivens, Cond.selects RX11 yX11_countGivens yX11_countGivens, Cond.code yX11_countGivens cX11_countGivens 3 (some .int), Cond.methodLink RX11 145 yX11_countLeft, Cond.instanceMethod yX11_countLeft, Cond.selects RX11 yX11_countLeft yX11_countLeft, Cond.code yX11_countLeft cX11_countLeft 4 (some .int)]
def wsL_law0_r22 : List Cond := [Cond.methodLink RX11 92 yX11_may, Cond.instanceMethod yX11_may, Cond.selects RX11 yX11_may yX11_may, Cond.code yX11_may cX11_may 4 (some .boolean), Cond.methodLink RX11 99 yX11_isSingle, Cond.instanceMethod yX11_isSingle, Cond.selects RX11 yX11_isSingle yX11_isSingle, Cond.code yX11_isSingle cX11_isSingle 7 (some .boolean), Cond.methodLink RX11 95 yX11_isTogether, Cond.instanceMethod yX11_isTogether, Cond.selects RX11 yX11_isTogether yX11_isTogether, Cond.code yX11_isTogether cX11_isTogether 4 (some .boolean), Cond.methodLink RL 67 yL_given, Cond.static yL_given, Cond.codeWith yL_given cL_given 4 (some .int) [(0, 9, 12, 13)], Cond.methodLink RL 21 yX10_given, Cond.instanceMethod yX10_given, Cond.selects RX10 yX10_given yX10_given, Cond.code yX10_given cX10_given 2 (some .int), Cond.fieldLink RX10 93 "SeedMakers$Maker" "made" "Z", Cond.fieldLink RX10 97 "SeedMakers$Maker" "givens" "[I", Cond.methodLink RL 70 yX11_given, Cond.instanceMethod yX11_given, Cond.selects RX11 yX11_given yX11_given]
def wsL_law0_r23 : List Cond := [Cond.code yX11_given cX11_given 2 (some .int), Cond.methodLink RL 71 yL_answer, Cond.static yL_answer, Cond.codeWith yL_answer cL_answer 4 (some .int) [(0, 9, 12, 13)], Cond.methodLink RL 25 yX10_answer, Cond.instanceMethod yX10_answer, Cond.selects RX10 yX10_answer yX10_answer, Cond.code yX10_answer cX10_answer 2 (some .int), Cond.fieldLink RX10 100 "SeedMakers$Maker" "whole" "[I", Cond.methodLink RL 73 yX11_answer, Cond.instanceMethod yX11_answer, Cond.selects RX11 yX11_answer yX11_answer, Cond.code yX11_answer cX11_answer 2 (some .int), Cond.methodLink RL 74 yX10_told, Cond.instanceMethod yX10_told, Cond.selects RX10 yX10_told yX10_told, Cond.code yX10_told cX10_told 2 (some .int), Cond.fieldLink RX10 103 "SeedMakers$Maker" "triesMade" "I", Cond.fieldLink RX10 106 "SeedMakers$Maker" "restarts" "I", Cond.fieldLink RX10 109 "SeedMakers$Maker" "takenOut" "I", Cond.fieldLink RX10 112 "SeedMakers$Maker" "putBack" "I", Cond.fieldLink RX10 115 "SeedMakers$Maker" "givenCells" "I", Cond.fieldLink RX10 118 "SeedMakers$Maker" "unknownCells" "I", Cond.fieldLink RX10 121 "SeedMakers$Maker" "chance" "LSeedMakers$Chance;"]
def wsL_law0_r24 : List Cond := [Cond.methodLink RX10 125 yX2_upperBits, Cond.methodLink RL 77 yX11_told, Cond.instanceMethod yX11_told, Cond.selects RX11 yX11_told yX11_told, Cond.code yX11_told cX11_told 2 (some .int), Cond.methodLink RL 78 yX10_left, Cond.instanceMethod yX10_left, Cond.selects RX10 yX10_left yX10_left, Cond.code yX10_left cX10_left 1 (some .int), Cond.methodLink RL 81 yX11_left, Cond.instanceMethod yX11_left, Cond.selects RX11 yX11_left yX11_left, Cond.code yX11_left cX11_left 1 (some .int), Cond.methodLink RX11 155 yX11_take, Cond.instanceMethod yX11_take, Cond.selects RX11 yX11_take yX11_take, Cond.code yX11_take cX11_take 2 none, Cond.methodLink RL 82 yL_needed, Cond.static yL_needed, Cond.codeWith yL_needed cL_needed 4 (some .int) [(0, 16, 19, 13)], Cond.methodLink RL 28 yX10_needed, Cond.instanceMethod yX10_needed, Cond.selects RX10 yX10_needed yX10_needed, Cond.code yX10_needed cX10_needed 2 (some .boolean)]
def wsL_law0_r25 : List Cond := [Cond.fieldLink RX10 131 "SeedMakers$Sets" "leastOf" "[I", Cond.methodLink RX10 134 yX5_needsSet, Cond.methodLink RL 84 yX11_needed, Cond.instanceMethod yX11_needed, Cond.selects RX11 yX11_needed yX11_needed, Cond.code yX11_needed cX11_needed 3 (some .boolean), Cond.methodLink RL 85 yX10_answers, Cond.instanceMethod yX10_answers, Cond.selects RX10 yX10_answers yX10_answers, Cond.code yX10_answers cX10_answers 2 (some .int), Cond.fieldLink RX10 140 "SeedMakers$Maker" "solver" "LSeedMakers$Solver;", Cond.fieldLink RX10 144 "SeedMakers$Typed" "symbols" "[I", Cond.methodLink RX10 137 yX9_read, Cond.instanceMethod yX9_read, Cond.selects RX9 yX9_read yX9_read, Cond.code yX9_read cX9_read 3 (some .int), Cond.fieldLink RX9 37 "SeedMakers$Grid" "cells" "I", Cond.methodLink RX9 34 yX1_clear, Cond.methodLink RX9 42 yX9_readByte, Cond.instanceMethod yX9_readByte, Cond.selects RX9 yX9_readByte yX9_readByte, Cond.code yX9_readByte cX9_readByte 4 (some .boolean), Cond.fieldLink RX9 46 "SeedMakers$Grid" "side" "I", Cond.methodLink RX9 49 yX1_may]
def wsL_law0_r26 : List Cond := [Cond.methodLink RX9 53 yX1_put, Cond.methodLink RX10 147 yX8_count, Cond.methodLink RL 88 yX11_answers, Cond.instanceMethod yX11_answers, Cond.selects RX11 yX11_answers yX11_answers, Cond.code yX11_answers cX11_answers 2 (some .int), Cond.fieldLink RX11 158 "SeedMakersModel" "size" "I", Cond.methodLink RX11 161 yX11_read, Cond.instanceMethod yX11_read, Cond.selects RX11 yX11_read yX11_read, Cond.code yX11_read cX11_read 4 (some .int), Cond.methodLink RL 89 yX10_unit, Cond.instanceMethod yX10_unit, Cond.selects RX10 yX10_unit yX10_unit, Cond.code yX10_unit cX10_unit 2 (some .boolean), Cond.methodLink RX10 153 yX9_add, Cond.instanceMethod yX9_add, Cond.selects RX9 yX9_add yX9_add, Cond.code yX9_add cX9_add 2 (some .boolean), Cond.methodLink RL 92 yX11_unit, Cond.instanceMethod yX11_unit, Cond.selects RX11 yX11_unit yX11_unit, Cond.code yX11_unit cX11_unit 2 (some .boolean), Cond.methodLink RL 93 yX10_text]
def wsL_law0_r27 : List Cond := [Cond.instanceMethod yX10_text, Cond.selects RX10 yX10_text yX10_text, Cond.code yX10_text cX10_text 2 (some .int), Cond.methodLink RX10 156 yX9_byteOf, Cond.static yX9_byteOf, Cond.code yX9_byteOf cX9_byteOf 1 (some .int), Cond.methodLink RL 96 yX11_text, Cond.instanceMethod yX11_text, Cond.selects RX11 yX11_text yX11_text, Cond.code yX11_text cX11_text 2 (some .int)]
def wsL_law0 : List Cond := (wsL_law0_r1 ++ (wsL_law0_r2 ++ (wsL_law0_r3 ++ (wsL_law0_r4 ++ (wsL_law0_r5 ++ (wsL_law0_r6 ++ (wsL_law0_r7 ++ (wsL_law0_r8 ++ (wsL_law0_r9 ++ (wsL_law0_r10 ++ (wsL_law0_r11 ++ (wsL_law0_r12 ++ (wsL_law0_r13 ++ (wsL_law0_r14 ++ (wsL_law0_r15 ++ (wsL_law0_r16 ++ (wsL_law0_r17 ++ (wsL_law0_r18 ++ (wsL_law0_r19 ++ (wsL_law0_r20 ++ (wsL_law0_r21 ++ (wsL_law0_r22 ++ (wsL_law0_r23 ++ (wsL_law0_r24 ++ (wsL_law0_r25 ++ (wsL_law0_r26 ++ wsL_law0_r27)))))))))))))))))))))))))) ++ wsX100 ++ wsX110 ++ wsX40 ++ wsX60 ++ wsX00 ++ wsX50 ++ wsX90 ++ wsX20 ++ wsX30 ++ wsX70 ++ wsX80 ++ wsX10 ++ wsJx000600 ++ ([] : List Cond)
def wsL_law : List Cond := wsL_law0 ++ (vx_atS RX10 76 "java/lang/IllegalArgumentException" ["java/lang/RuntimeException", "java/lang/Exception"]).filter goodWord
abbrev vwCl : List vw_C := [(RJx00060, TJx00060, 6), (RX0, TX0, 3), (RX1, TX1, 5), (RX2, TX2, 1), (RX3, TX3, 3), (RX4, TX4, 7), (RX5, TX5, 20), (RX6, TX6, 2), (RX7, TX7, 2), (RX8, TX8, 4), (RX9, TX9, 5), (RX10, TX10, 6), (RX11, TX11, 22)]
end
section
theorem dX0_init_0 : decode cX0_init 0 = .ok (.aload_n 0, 1) := by decide +kernel
theorem dX0_init_1 : decode cX0_init 1 = .ok (.invokespecial 1, 3) := by decide +kernel
theorem dX0_init_4 : decode cX0_init 4 = .ok (.aload_n 0, 1) := by decide +kernel
theorem dX0_init_5 : decode cX0_init 5 = .ok (.iconst 0, 1) := by decide +kernel
theorem dX0_init_6 : decode cX0_init 6 = .ok (.putfield 7, 3) := by decide +kernel
theorem dX0_init_9 : decode cX0_init 9 = .ok (.aload_n 0, 1) := by decide +kernel
theorem dX0_init_10 : decode cX0_init 10 = .ok (.iconst 0, 1) := by decide +kernel
theorem dX0_init_11 : decode cX0_init 11 = .ok (.putfield 13, 3) := by decide +kernel
theorem dX0_init_14 : decode cX0_init 14 = .ok (.aload_n 0, 1) := by decide +kernel
theorem dX0_init_15 : decode cX0_init 15 = .ok (.ldc 18, 2) := by decide +kernel
theorem dX0_init_17 : decode cX0_init 17 = .ok (.putfield 19, 3) := by decide +kernel
theorem dX0_init_20 : decode cX0_init 20 = .ok (.return_, 1) := by decide +kernel
theorem dX0_set_0 : decode cX0_set 0 = .ok (.aload_n 0, 1) := by decide +kernel
theorem dX0_set_1 : decode cX0_set 1 = .ok (.iload_n 1, 1) := by decide +kernel
theorem dX0_set_2 : decode cX0_set 2 = .ok (.putfield 7, 3) := by decide +kernel
theorem dX0_set_5 : decode cX0_set 5 = .ok (.aload_n 0, 1) := by decide +kernel
theorem dX0_set_6 : decode cX0_set 6 = .ok (.iload_n 2, 1) := by decide +kernel
theorem dX0_set_7 : decode cX0_set 7 = .ok (.putfield 13, 3) := by decide +kernel
theorem dX0_set_10 : decode cX0_set 10 = .ok (.aload_n 0, 1) := by decide +kernel
theorem dX0_set_11 : decode cX0_set 11 = .ok (.iload_n 3, 1) := by decide +kernel
theorem dX0_set_12 : decode cX0_set 12 = .ok (.putfield 19, 3) := by decide +kernel
theorem dX0_set_15 : decode cX0_set 15 = .ok (.return_, 1) := by decide +kernel
theorem dX0_isMet_0 : decode cX0_isMet 0 = .ok (.iload_n 1, 1) := by decide +kernel
theorem dX0_isMet_1 : decode cX0_isMet 1 = .ok (.aload_n 0, 1) := by decide +kernel
theorem dX0_isMet_2 : decode cX0_isMet 2 = .ok (.getfield 13, 3) := by decide +kernel
theorem dX0_isMet_5 : decode cX0_isMet 5 = .ok (.if_icmp .lt 11, 3) := by decide +kernel
theorem dX0_isMet_8 : decode cX0_isMet 8 = .ok (.iload_n 1, 1) := by decide +kernel
theorem dX0_isMet_9 : decode cX0_isMet 9 = .ok (.aload_n 0, 1) := by decide +kernel
theorem dX0_isMet_10 : decode cX0_isMet 10 = .ok (.getfield 19, 3) := by decide +kernel
theorem dX0_isMet_13 : decode cX0_isMet 13 = .ok (.if_icmp .le 5, 3) := by decide +kernel
theorem dX0_isMet_16 : decode cX0_isMet 16 = .ok (.iconst 0, 1) := by decide +kernel
theorem dX0_isMet_17 : decode cX0_isMet 17 = .ok (.ireturn, 1) := by decide +kernel
theorem dX0_isMet_18 : decode cX0_isMet 18 = .ok (.aload_n 0, 1) := by decide +kernel
theorem dX0_isMet_19 : decode cX0_isMet 19 = .ok (.getfield 7, 3) := by decide +kernel
theorem dX0_isMet_22 : decode cX0_isMet 22 = .ok (.iconst 1, 1) := by decide +kernel
theorem dX0_isMet_23 : decode cX0_isMet 23 = .ok (.if_icmp .ne 7, 3) := by decide +kernel
theorem dX0_isMet_26 : decode cX0_isMet 26 = .ok (.iload_n 2, 1) := by decide +kernel
theorem dX0_isMet_27 : decode cX0_isMet 27 = .ok (.ifCond .eq 19, 3) := by decide +kernel
theorem dX0_isMet_30 : decode cX0_isMet 30 = .ok (.aload_n 0, 1) := by decide +kernel
theorem dX0_isMet_31 : decode cX0_isMet 31 = .ok (.getfield 7, 3) := by decide +kernel
theorem dX0_isMet_34 : decode cX0_isMet 34 = .ok (.iconst 2, 1) := by decide +kernel
theorem dX0_isMet_35 : decode cX0_isMet 35 = .ok (.if_icmp .ne 7, 3) := by decide +kernel
theorem dX0_isMet_38 : decode cX0_isMet 38 = .ok (.iload_n 2, 1) := by decide +kernel
theorem dX0_isMet_39 : decode cX0_isMet 39 = .ok (.ifCond .ne 7, 3) := by decide +kernel
theorem dX0_isMet_42 : decode cX0_isMet 42 = .ok (.iconst 1, 1) := by decide +kernel
theorem dX0_isMet_43 : decode cX0_isMet 43 = .ok (.goto 4, 3) := by decide +kernel
theorem dX0_isMet_46 : decode cX0_isMet 46 = .ok (.iconst 0, 1) := by decide +kernel
theorem dX0_isMet_47 : decode cX0_isMet 47 = .ok (.ireturn, 1) := by decide +kernel
set_option maxRecDepth 20000 in
theorem ggX1_init_X1_clear : GoodIn wsX1_init wsX1_clear := goodIn_r _ [16, 4, 5, 7, 8, 9, 10, 11, 17, 18, 19, 20, 21, 22, 23, 24, 25, 26, 27, 28] (by decide +kernel) (by decide +kernel)
set_option maxRecDepth 20000 in
theorem gX1_init_X1_clear : GoodIn wsX1_init (wsV RX1 35 RX1 yX1_clear wsX1_clear) := goodIn_app (goodIn_of _ (by decide +kernel)) ggX1_init_X1_clear
theorem dX1_init_0 : decode cX1_init 0 = .ok (.aload_n 0, 1) := by decide +kernel
theorem dX1_init_1 : decode cX1_init 1 = .ok (.invokespecial 1, 3) := by decide +kernel
theorem dX1_init_4 : decode cX1_init 4 = .ok (.aload_n 0, 1) := by decide +kernel
theorem dX1_init_5 : decode cX1_init 5 = .ok (.aload_n 1, 1) := by decide +kernel
theorem dX1_init_6 : decode cX1_init 6 = .ok (.putfield 7, 3) := by decide +kernel
theorem dX1_init_9 : decode cX1_init 9 = .ok (.aload_n 0, 1) := by decide +kernel
theorem dX1_init_10 : decode cX1_init 10 = .ok (.aload_n 1, 1) := by decide +kernel
theorem dX1_init_11 : decode cX1_init 11 = .ok (.getfield 13, 3) := by decide +kernel
theorem dX1_init_14 : decode cX1_init 14 = .ok (.newarray .int, 2) := by decide +kernel
theorem dX1_init_16 : decode cX1_init 16 = .ok (.putfield 19, 3) := by decide +kernel
theorem dX1_init_19 : decode cX1_init 19 = .ok (.aload_n 0, 1) := by decide +kernel
theorem dX1_init_20 : decode cX1_init 20 = .ok (.aload_n 1, 1) := by decide +kernel
theorem dX1_init_21 : decode cX1_init 21 = .ok (.getfield 23, 3) := by decide +kernel
theorem dX1_init_24 : decode cX1_init 24 = .ok (.newarray .int, 2) := by decide +kernel
theorem dX1_init_26 : decode cX1_init 26 = .ok (.putfield 26, 3) := by decide +kernel
theorem dX1_init_29 : decode cX1_init 29 = .ok (.aload_n 0, 1) := by decide +kernel
theorem dX1_init_30 : decode cX1_init 30 = .ok (.aload_n 1, 1) := by decide +kernel
theorem dX1_init_31 : decode cX1_init 31 = .ok (.getfield 23, 3) := by decide +kernel
theorem dX1_init_34 : decode cX1_init 34 = .ok (.newarray .int, 2) := by decide +kernel
theorem dX1_init_36 : decode cX1_init 36 = .ok (.putfield 29, 3) := by decide +kernel
theorem dX1_init_39 : decode cX1_init 39 = .ok (.aload_n 0, 1) := by decide +kernel
theorem dX1_init_40 : decode cX1_init 40 = .ok (.aload_n 1, 1) := by decide +kernel
theorem dX1_init_41 : decode cX1_init 41 = .ok (.getfield 23, 3) := by decide +kernel
theorem dX1_init_44 : decode cX1_init 44 = .ok (.newarray .int, 2) := by decide +kernel
theorem dX1_init_46 : decode cX1_init 46 = .ok (.putfield 32, 3) := by decide +kernel
theorem dX1_init_49 : decode cX1_init 49 = .ok (.aload_n 0, 1) := by decide +kernel
theorem dX1_init_50 : decode cX1_init 50 = .ok (.invokevirtual 35, 3) := by decide +kernel
theorem dX1_init_53 : decode cX1_init 53 = .ok (.return_, 1) := by decide +kernel
theorem dX1_clear_0 : decode cX1_clear 0 = .ok (.iconst 0, 1) := by decide +kernel
theorem dX1_clear_1 : decode cX1_clear 1 = .ok (.istore_n 1, 1) := by decide +kernel
theorem dX1_clear_2 : decode cX1_clear 2 = .ok (.iload_n 1, 1) := by decide +kernel
theorem dX1_clear_3 : decode cX1_clear 3 = .ok (.aload_n 0, 1) := by decide +kernel
theorem dX1_clear_4 : decode cX1_clear 4 = .ok (.getfield 7, 3) := by decide +kernel
theorem dX1_clear_7 : decode cX1_clear 7 = .ok (.getfield 13, 3) := by decide +kernel
theorem dX1_clear_10 : decode cX1_clear 10 = .ok (.if_icmp .ge 16, 3) := by decide +kernel
theorem dX1_clear_13 : decode cX1_clear 13 = .ok (.aload_n 0, 1) := by decide +kernel
theorem dX1_clear_14 : decode cX1_clear 14 = .ok (.getfield 19, 3) := by decide +kernel
theorem dX1_clear_17 : decode cX1_clear 17 = .ok (.iload_n 1, 1) := by decide +kernel
theorem dX1_clear_18 : decode cX1_clear 18 = .ok (.iconst (-1), 1) := by decide +kernel
theorem dX1_clear_19 : decode cX1_clear 19 = .ok (.iastore, 1) := by decide +kernel
theorem dX1_clear_20 : decode cX1_clear 20 = .ok (.iinc 1 1, 3) := by decide +kernel
theorem dX1_clear_23 : decode cX1_clear 23 = .ok (.goto (-21), 3) := by decide +kernel
theorem dX1_clear_26 : decode cX1_clear 26 = .ok (.iconst 0, 1) := by decide +kernel
theorem dX1_clear_27 : decode cX1_clear 27 = .ok (.istore_n 1, 1) := by decide +kernel
theorem dX1_clear_28 : decode cX1_clear 28 = .ok (.iload_n 1, 1) := by decide +kernel
theorem dX1_clear_29 : decode cX1_clear 29 = .ok (.aload_n 0, 1) := by decide +kernel
theorem dX1_clear_30 : decode cX1_clear 30 = .ok (.getfield 7, 3) := by decide +kernel
theorem dX1_clear_33 : decode cX1_clear 33 = .ok (.getfield 23, 3) := by decide +kernel
theorem dX1_clear_36 : decode cX1_clear 36 = .ok (.if_icmp .ge 30, 3) := by decide +kernel
theorem dX1_clear_39 : decode cX1_clear 39 = .ok (.aload_n 0, 1) := by decide +kernel
theorem dX1_clear_40 : decode cX1_clear 40 = .ok (.getfield 26, 3) := by decide +kernel
theorem dX1_clear_43 : decode cX1_clear 43 = .ok (.iload_n 1, 1) := by decide +kernel
theorem dX1_clear_44 : decode cX1_clear 44 = .ok (.iconst 0, 1) := by decide +kernel
theorem dX1_clear_45 : decode cX1_clear 45 = .ok (.iastore, 1) := by decide +kernel
theorem dX1_clear_46 : decode cX1_clear 46 = .ok (.aload_n 0, 1) := by decide +kernel
theorem dX1_clear_47 : decode cX1_clear 47 = .ok (.getfield 29, 3) := by decide +kernel
theorem dX1_clear_50 : decode cX1_clear 50 = .ok (.iload_n 1, 1) := by decide +kernel
theorem dX1_clear_51 : decode cX1_clear 51 = .ok (.iconst 0, 1) := by decide +kernel
theorem dX1_clear_52 : decode cX1_clear 52 = .ok (.iastore, 1) := by decide +kernel
theorem dX1_clear_53 : decode cX1_clear 53 = .ok (.aload_n 0, 1) := by decide +kernel
theorem dX1_clear_54 : decode cX1_clear 54 = .ok (.getfield 32, 3) := by decide +kernel
theorem dX1_clear_57 : decode cX1_clear 57 = .ok (.iload_n 1, 1) := by decide +kernel
theorem dX1_clear_58 : decode cX1_clear 58 = .ok (.iconst 0, 1) := by decide +kernel
theorem dX1_clear_59 : decode cX1_clear 59 = .ok (.iastore, 1) := by decide +kernel
theorem dX1_clear_60 : decode cX1_clear 60 = .ok (.iinc 1 1, 3) := by decide +kernel
theorem dX1_clear_63 : decode cX1_clear 63 = .ok (.goto (-35), 3) := by decide +kernel
theorem dX1_clear_66 : decode cX1_clear 66 = .ok (.return_, 1) := by decide +kernel
set_option maxRecDepth 20000 in
theorem ggX1_putAll_X1_clear : GoodIn wsX1_putAll wsX1_clear := goodIn_r _ [7, 1, 2, 8, 9, 10, 11, 12, 24, 25, 26, 27, 28, 29, 30, 31, 32, 33, 34, 35] (by decide +kernel) (by decide +kernel)
set_option maxRecDepth 20000 in
theorem gX1_putAll_X1_clear : GoodIn wsX1_putAll (wsV RX1 35 RX1 yX1_clear wsX1_clear) := goodIn_app (goodIn_of _ (by decide +kernel)) ggX1_putAll_X1_clear
set_option maxRecDepth 20000 in
theorem ggX1_putAll_X1_put : GoodIn wsX1_putAll wsX1_put := goodIn_r _ [16, 8, 17, 18, 19, 6, 20, 10, 1, 21, 11, 22, 12, 23, 24, 25, 26, 27, 28, 29, 30, 31, 32, 33, 34, 35] (by decide +kernel) (by decide +kernel)
set_option maxRecDepth 20000 in
theorem gX1_putAll_X1_put : GoodIn wsX1_putAll (wsV RX1 38 RX1 yX1_put wsX1_put) := goodIn_app (goodIn_of _ (by decide +kernel)) ggX1_putAll_X1_put
theorem dX1_putAll_0 : decode cX1_putAll 0 = .ok (.aload_n 0, 1) := by decide +kernel
theorem dX1_putAll_1 : decode cX1_putAll 1 = .ok (.invokevirtual 35, 3) := by decide +kernel
theorem dX1_putAll_4 : decode cX1_putAll 4 = .ok (.iconst 0, 1) := by decide +kernel
theorem dX1_putAll_5 : decode cX1_putAll 5 = .ok (.istore_n 2, 1) := by decide +kernel
theorem dX1_putAll_6 : decode cX1_putAll 6 = .ok (.iload_n 2, 1) := by decide +kernel
theorem dX1_putAll_7 : decode cX1_putAll 7 = .ok (.aload_n 0, 1) := by decide +kernel
theorem dX1_putAll_8 : decode cX1_putAll 8 = .ok (.getfield 7, 3) := by decide +kernel
theorem dX1_putAll_11 : decode cX1_putAll 11 = .ok (.getfield 13, 3) := by decide +kernel
theorem dX1_putAll_14 : decode cX1_putAll 14 = .ok (.if_icmp .ge 29, 3) := by decide +kernel
theorem dX1_putAll_17 : decode cX1_putAll 17 = .ok (.iload_n 2, 1) := by decide +kernel
theorem dX1_putAll_18 : decode cX1_putAll 18 = .ok (.aload_n 1, 1) := by decide +kernel
theorem dX1_putAll_19 : decode cX1_putAll 19 = .ok (.arraylength, 1) := by decide +kernel
theorem dX1_putAll_20 : decode cX1_putAll 20 = .ok (.if_icmp .ge 23, 3) := by decide +kernel
theorem dX1_putAll_23 : decode cX1_putAll 23 = .ok (.aload_n 1, 1) := by decide +kernel
theorem dX1_putAll_24 : decode cX1_putAll 24 = .ok (.iload_n 2, 1) := by decide +kernel
theorem dX1_putAll_25 : decode cX1_putAll 25 = .ok (.iaload, 1) := by decide +kernel
theorem dX1_putAll_26 : decode cX1_putAll 26 = .ok (.ifCond .lt 11, 3) := by decide +kernel
theorem dX1_putAll_29 : decode cX1_putAll 29 = .ok (.aload_n 0, 1) := by decide +kernel
theorem dX1_putAll_30 : decode cX1_putAll 30 = .ok (.iload_n 2, 1) := by decide +kernel
theorem dX1_putAll_31 : decode cX1_putAll 31 = .ok (.aload_n 1, 1) := by decide +kernel
theorem dX1_putAll_32 : decode cX1_putAll 32 = .ok (.iload_n 2, 1) := by decide +kernel
theorem dX1_putAll_33 : decode cX1_putAll 33 = .ok (.iaload, 1) := by decide +kernel
theorem dX1_putAll_34 : decode cX1_putAll 34 = .ok (.invokevirtual 38, 3) := by decide +kernel
theorem dX1_putAll_37 : decode cX1_putAll 37 = .ok (.iinc 2 1, 3) := by decide +kernel
theorem dX1_putAll_40 : decode cX1_putAll 40 = .ok (.goto (-34), 3) := by decide +kernel
theorem dX1_putAll_43 : decode cX1_putAll 43 = .ok (.return_, 1) := by decide +kernel
theorem dX1_isEmpty_0 : decode cX1_isEmpty 0 = .ok (.aload_n 0, 1) := by decide +kernel
theorem dX1_isEmpty_1 : decode cX1_isEmpty 1 = .ok (.getfield 19, 3) := by decide +kernel
theorem dX1_isEmpty_4 : decode cX1_isEmpty 4 = .ok (.iload_n 1, 1) := by decide +kernel
theorem dX1_isEmpty_5 : decode cX1_isEmpty 5 = .ok (.iaload, 1) := by decide +kernel
theorem dX1_isEmpty_6 : decode cX1_isEmpty 6 = .ok (.ifCond .ge 7, 3) := by decide +kernel
theorem dX1_isEmpty_9 : decode cX1_isEmpty 9 = .ok (.iconst 1, 1) := by decide +kernel
theorem dX1_isEmpty_10 : decode cX1_isEmpty 10 = .ok (.goto 4, 3) := by decide +kernel
theorem dX1_isEmpty_13 : decode cX1_isEmpty 13 = .ok (.iconst 0, 1) := by decide +kernel
theorem dX1_isEmpty_14 : decode cX1_isEmpty 14 = .ok (.ireturn, 1) := by decide +kernel
theorem dX1_may_0 : decode cX1_may 0 = .ok (.aload_n 0, 1) := by decide +kernel
theorem dX1_may_1 : decode cX1_may 1 = .ok (.getfield 7, 3) := by decide +kernel
theorem dX1_may_4 : decode cX1_may 4 = .ok (.getfield 42, 3) := by decide +kernel
theorem dX1_may_7 : decode cX1_may 7 = .ok (.aload_n 0, 1) := by decide +kernel
theorem dX1_may_8 : decode cX1_may 8 = .ok (.getfield 26, 3) := by decide +kernel
theorem dX1_may_11 : decode cX1_may 11 = .ok (.aload_n 0, 1) := by decide +kernel
theorem dX1_may_12 : decode cX1_may 12 = .ok (.getfield 7, 3) := by decide +kernel
theorem dX1_may_15 : decode cX1_may 15 = .ok (.getfield 45, 3) := by decide +kernel
theorem dX1_may_18 : decode cX1_may 18 = .ok (.iload_n 1, 1) := by decide +kernel
theorem dX1_may_19 : decode cX1_may 19 = .ok (.iaload, 1) := by decide +kernel
theorem dX1_may_20 : decode cX1_may 20 = .ok (.iaload, 1) := by decide +kernel
theorem dX1_may_21 : decode cX1_may 21 = .ok (.aload_n 0, 1) := by decide +kernel
theorem dX1_may_22 : decode cX1_may 22 = .ok (.getfield 29, 3) := by decide +kernel
theorem dX1_may_25 : decode cX1_may 25 = .ok (.aload_n 0, 1) := by decide +kernel
theorem dX1_may_26 : decode cX1_may 26 = .ok (.getfield 7, 3) := by decide +kernel
theorem dX1_may_29 : decode cX1_may 29 = .ok (.getfield 48, 3) := by decide +kernel
theorem dX1_may_32 : decode cX1_may 32 = .ok (.iload_n 1, 1) := by decide +kernel
theorem dX1_may_33 : decode cX1_may 33 = .ok (.iaload, 1) := by decide +kernel
theorem dX1_may_34 : decode cX1_may 34 = .ok (.iaload, 1) := by decide +kernel
theorem dX1_may_35 : decode cX1_may 35 = .ok (.ior, 1) := by decide +kernel
theorem dX1_may_36 : decode cX1_may 36 = .ok (.aload_n 0, 1) := by decide +kernel
theorem dX1_may_37 : decode cX1_may 37 = .ok (.getfield 32, 3) := by decide +kernel
theorem dX1_may_40 : decode cX1_may 40 = .ok (.aload_n 0, 1) := by decide +kernel
theorem dX1_may_41 : decode cX1_may 41 = .ok (.getfield 7, 3) := by decide +kernel
theorem dX1_may_44 : decode cX1_may 44 = .ok (.getfield 51, 3) := by decide +kernel
theorem dX1_may_47 : decode cX1_may 47 = .ok (.iload_n 1, 1) := by decide +kernel
theorem dX1_may_48 : decode cX1_may 48 = .ok (.iaload, 1) := by decide +kernel
theorem dX1_may_49 : decode cX1_may 49 = .ok (.iaload, 1) := by decide +kernel
theorem dX1_may_50 : decode cX1_may 50 = .ok (.ior, 1) := by decide +kernel
theorem dX1_may_51 : decode cX1_may 51 = .ok (.iconst (-1), 1) := by decide +kernel
theorem dX1_may_52 : decode cX1_may 52 = .ok (.ixor, 1) := by decide +kernel
theorem dX1_may_53 : decode cX1_may 53 = .ok (.iand, 1) := by decide +kernel
theorem dX1_may_54 : decode cX1_may 54 = .ok (.ireturn, 1) := by decide +kernel
set_option maxRecDepth 20000 in
theorem ggX1_put_X1_flip : GoodIn wsX1_put wsX1_flip := goodIn_r _ [6, 7, 8, 9, 10, 11, 12, 13, 14, 15, 16, 17, 18, 19, 20, 21, 22, 23, 24, 25] (by decide +kernel) (by decide +kernel)
set_option maxRecDepth 20000 in
theorem gX1_put_X1_flip : GoodIn wsX1_put (wsV RX1 54 RX1 yX1_flip wsX1_flip) := goodIn_app (goodIn_of _ (by decide +kernel)) ggX1_put_X1_flip
theorem dX1_put_0 : decode cX1_put 0 = .ok (.aload_n 0, 1) := by decide +kernel
theorem dX1_put_1 : decode cX1_put 1 = .ok (.getfield 19, 3) := by decide +kernel
theorem dX1_put_4 : decode cX1_put 4 = .ok (.iload_n 1, 1) := by decide +kernel
theorem dX1_put_5 : decode cX1_put 5 = .ok (.iload_n 2, 1) := by decide +kernel
theorem dX1_put_6 : decode cX1_put 6 = .ok (.iastore, 1) := by decide +kernel
theorem dX1_put_7 : decode cX1_put 7 = .ok (.aload_n 0, 1) := by decide +kernel
theorem dX1_put_8 : decode cX1_put 8 = .ok (.iload_n 1, 1) := by decide +kernel
theorem dX1_put_9 : decode cX1_put 9 = .ok (.iconst 1, 1) := by decide +kernel
theorem dX1_put_10 : decode cX1_put 10 = .ok (.iload_n 2, 1) := by decide +kernel
theorem dX1_put_11 : decode cX1_put 11 = .ok (.ishl, 1) := by decide +kernel
theorem dX1_put_12 : decode cX1_put 12 = .ok (.invokevirtual 54, 3) := by decide +kernel
theorem dX1_put_15 : decode cX1_put 15 = .ok (.return_, 1) := by decide +kernel
set_option maxRecDepth 20000 in
theorem ggX1_takeOut_X1_flip : GoodIn wsX1_takeOut wsX1_flip := goodIn_r _ [6, 7, 8, 9, 10, 11, 12, 13, 14, 15, 16, 17, 18, 19, 20, 21, 22, 23, 24, 25] (by decide +kernel) (by decide +kernel)
set_option maxRecDepth 20000 in
theorem gX1_takeOut_X1_flip : GoodIn wsX1_takeOut (wsV RX1 54 RX1 yX1_flip wsX1_flip) := goodIn_app (goodIn_of _ (by decide +kernel)) ggX1_takeOut_X1_flip
theorem dX1_takeOut_0 : decode cX1_takeOut 0 = .ok (.aload_n 0, 1) := by decide +kernel
theorem dX1_takeOut_1 : decode cX1_takeOut 1 = .ok (.getfield 19, 3) := by decide +kernel
theorem dX1_takeOut_4 : decode cX1_takeOut 4 = .ok (.iload_n 1, 1) := by decide +kernel
theorem dX1_takeOut_5 : decode cX1_takeOut 5 = .ok (.iaload, 1) := by decide +kernel
theorem dX1_takeOut_6 : decode cX1_takeOut 6 = .ok (.istore_n 2, 1) := by decide +kernel
theorem dX1_takeOut_7 : decode cX1_takeOut 7 = .ok (.iload_n 2, 1) := by decide +kernel
theorem dX1_takeOut_8 : decode cX1_takeOut 8 = .ok (.ifCond .lt 18, 3) := by decide +kernel
theorem dX1_takeOut_11 : decode cX1_takeOut 11 = .ok (.aload_n 0, 1) := by decide +kernel
theorem dX1_takeOut_12 : decode cX1_takeOut 12 = .ok (.getfield 19, 3) := by decide +kernel
theorem dX1_takeOut_15 : decode cX1_takeOut 15 = .ok (.iload_n 1, 1) := by decide +kernel
theorem dX1_takeOut_16 : decode cX1_takeOut 16 = .ok (.iconst (-1), 1) := by decide +kernel
theorem dX1_takeOut_17 : decode cX1_takeOut 17 = .ok (.iastore, 1) := by decide +kernel
theorem dX1_takeOut_18 : decode cX1_takeOut 18 = .ok (.aload_n 0, 1) := by decide +kernel
theorem dX1_takeOut_19 : decode cX1_takeOut 19 = .ok (.iload_n 1, 1) := by decide +kernel
theorem dX1_takeOut_20 : decode cX1_takeOut 20 = .ok (.iconst 1, 1) := by decide +kernel
theorem dX1_takeOut_21 : decode cX1_takeOut 21 = .ok (.iload_n 2, 1) := by decide +kernel
theorem dX1_takeOut_22 : decode cX1_takeOut 22 = .ok (.ishl, 1) := by decide +kernel
theorem dX1_takeOut_23 : decode cX1_takeOut 23 = .ok (.invokevirtual 54, 3) := by decide +kernel
theorem dX1_takeOut_26 : decode cX1_takeOut 26 = .ok (.return_, 1) := by decide +kernel
theorem dX1_flip_0 : decode cX1_flip 0 = .ok (.aload_n 0, 1) := by decide +kernel
theorem dX1_flip_1 : decode cX1_flip 1 = .ok (.getfield 26, 3) := by decide +kernel
theorem dX1_flip_4 : decode cX1_flip 4 = .ok (.aload_n 0, 1) := by decide +kernel
theorem dX1_flip_5 : decode cX1_flip 5 = .ok (.getfield 7, 3) := by decide +kernel
theorem dX1_flip_8 : decode cX1_flip 8 = .ok (.getfield 45, 3) := by decide +kernel
theorem dX1_flip_11 : decode cX1_flip 11 = .ok (.iload_n 1, 1) := by decide +kernel
theorem dX1_flip_12 : decode cX1_flip 12 = .ok (.iaload, 1) := by decide +kernel
theorem dX1_flip_13 : decode cX1_flip 13 = .ok (.dup2, 1) := by decide +kernel
theorem dX1_flip_14 : decode cX1_flip 14 = .ok (.iaload, 1) := by decide +kernel
theorem dX1_flip_15 : decode cX1_flip 15 = .ok (.iload_n 2, 1) := by decide +kernel
theorem dX1_flip_16 : decode cX1_flip 16 = .ok (.ixor, 1) := by decide +kernel
theorem dX1_flip_17 : decode cX1_flip 17 = .ok (.iastore, 1) := by decide +kernel
theorem dX1_flip_18 : decode cX1_flip 18 = .ok (.aload_n 0, 1) := by decide +kernel
theorem dX1_flip_19 : decode cX1_flip 19 = .ok (.getfield 29, 3) := by decide +kernel
theorem dX1_flip_22 : decode cX1_flip 22 = .ok (.aload_n 0, 1) := by decide +kernel
theorem dX1_flip_23 : decode cX1_flip 23 = .ok (.getfield 7, 3) := by decide +kernel
theorem dX1_flip_26 : decode cX1_flip 26 = .ok (.getfield 48, 3) := by decide +kernel
theorem dX1_flip_29 : decode cX1_flip 29 = .ok (.iload_n 1, 1) := by decide +kernel
theorem dX1_flip_30 : decode cX1_flip 30 = .ok (.iaload, 1) := by decide +kernel
theorem dX1_flip_31 : decode cX1_flip 31 = .ok (.dup2, 1) := by decide +kernel
theorem dX1_flip_32 : decode cX1_flip 32 = .ok (.iaload, 1) := by decide +kernel
theorem dX1_flip_33 : decode cX1_flip 33 = .ok (.iload_n 2, 1) := by decide +kernel
theorem dX1_flip_34 : decode cX1_flip 34 = .ok (.ixor, 1) := by decide +kernel
theorem dX1_flip_35 : decode cX1_flip 35 = .ok (.iastore, 1) := by decide +kernel
theorem dX1_flip_36 : decode cX1_flip 36 = .ok (.aload_n 0, 1) := by decide +kernel
theorem dX1_flip_37 : decode cX1_flip 37 = .ok (.getfield 32, 3) := by decide +kernel
theorem dX1_flip_40 : decode cX1_flip 40 = .ok (.aload_n 0, 1) := by decide +kernel
theorem dX1_flip_41 : decode cX1_flip 41 = .ok (.getfield 7, 3) := by decide +kernel
theorem dX1_flip_44 : decode cX1_flip 44 = .ok (.getfield 51, 3) := by decide +kernel
theorem dX1_flip_47 : decode cX1_flip 47 = .ok (.iload_n 1, 1) := by decide +kernel
theorem dX1_flip_48 : decode cX1_flip 48 = .ok (.iaload, 1) := by decide +kernel
theorem dX1_flip_49 : decode cX1_flip 49 = .ok (.dup2, 1) := by decide +kernel
theorem dX1_flip_50 : decode cX1_flip 50 = .ok (.iaload, 1) := by decide +kernel
theorem dX1_flip_51 : decode cX1_flip 51 = .ok (.iload_n 2, 1) := by decide +kernel
theorem dX1_flip_52 : decode cX1_flip 52 = .ok (.ixor, 1) := by decide +kernel
theorem dX1_flip_53 : decode cX1_flip 53 = .ok (.iastore, 1) := by decide +kernel
theorem dX1_flip_54 : decode cX1_flip 54 = .ok (.return_, 1) := by decide +kernel
theorem dX2_init_0 : decode cX2_init 0 = .ok (.aload_n 0, 1) := by decide +kernel
theorem dX2_init_1 : decode cX2_init 1 = .ok (.invokespecial 1, 3) := by decide +kernel
theorem dX2_init_4 : decode cX2_init 4 = .ok (.aload_n 0, 1) := by decide +kernel
theorem dX2_init_5 : decode cX2_init 5 = .ok (.lconst 0, 1) := by decide +kernel
theorem dX2_init_6 : decode cX2_init 6 = .ok (.putfield 7, 3) := by decide +kernel
theorem dX2_init_9 : decode cX2_init 9 = .ok (.return_, 1) := by decide +kernel
theorem dX2_startAt_0 : decode cX2_startAt 0 = .ok (.aload_n 0, 1) := by decide +kernel
theorem dX2_startAt_1 : decode cX2_startAt 1 = .ok (.lload_n 1, 1) := by decide +kernel
theorem dX2_startAt_2 : decode cX2_startAt 2 = .ok (.putfield 7, 3) := by decide +kernel
theorem dX2_startAt_5 : decode cX2_startAt 5 = .ok (.return_, 1) := by decide +kernel
set_option maxRecDepth 20000 in
theorem ggX2_below_X2_upperBits : GoodIn wsX2_below wsX2_upperBits := goodIn_r _ [8, 2, 9] (by decide +kernel) (by decide +kernel)
set_option maxRecDepth 20000 in
theorem gX2_below_X2_upperBits : GoodIn wsX2_below (wsV RX2 17 RX2 yX2_upperBits wsX2_upperBits) := goodIn_app (goodIn_of _ (by decide +kernel)) ggX2_below_X2_upperBits
theorem dX2_below_0 : decode cX2_below 0 = .ok (.aload_n 0, 1) := by decide +kernel
theorem dX2_below_1 : decode cX2_below 1 = .ok (.ldc2_w 13, 3) := by decide +kernel
theorem dX2_below_4 : decode cX2_below 4 = .ok (.aload_n 0, 1) := by decide +kernel
theorem dX2_below_5 : decode cX2_below 5 = .ok (.getfield 7, 3) := by decide +kernel
theorem dX2_below_8 : decode cX2_below 8 = .ok (.lmul, 1) := by decide +kernel
theorem dX2_below_9 : decode cX2_below 9 = .ok (.ldc2_w 15, 3) := by decide +kernel
theorem dX2_below_12 : decode cX2_below 12 = .ok (.ladd, 1) := by decide +kernel
theorem dX2_below_13 : decode cX2_below 13 = .ok (.putfield 7, 3) := by decide +kernel
theorem dX2_below_16 : decode cX2_below 16 = .ok (.iload_n 1, 1) := by decide +kernel
theorem dX2_below_17 : decode cX2_below 17 = .ok (.iconst 1, 1) := by decide +kernel
theorem dX2_below_18 : decode cX2_below 18 = .ok (.if_icmp .ge 7, 3) := by decide +kernel
theorem dX2_below_21 : decode cX2_below 21 = .ok (.iconst 0, 1) := by decide +kernel
theorem dX2_below_22 : decode cX2_below 22 = .ok (.goto 9, 3) := by decide +kernel
theorem dX2_below_25 : decode cX2_below 25 = .ok (.aload_n 0, 1) := by decide +kernel
theorem dX2_below_26 : decode cX2_below 26 = .ok (.invokevirtual 17, 3) := by decide +kernel
theorem dX2_below_29 : decode cX2_below 29 = .ok (.iload_n 1, 1) := by decide +kernel
theorem dX2_below_30 : decode cX2_below 30 = .ok (.irem, 1) := by decide +kernel
theorem dX2_below_31 : decode cX2_below 31 = .ok (.ireturn, 1) := by decide +kernel
theorem dX2_upperBits_0 : decode cX2_upperBits 0 = .ok (.aload_n 0, 1) := by decide +kernel
theorem dX2_upperBits_1 : decode cX2_upperBits 1 = .ok (.getfield 7, 3) := by decide +kernel
theorem dX2_upperBits_4 : decode cX2_upperBits 4 = .ok (.bipush 33, 2) := by decide +kernel
theorem dX2_upperBits_6 : decode cX2_upperBits 6 = .ok (.lushr, 1) := by decide +kernel
theorem dX2_upperBits_7 : decode cX2_upperBits 7 = .ok (.l2i, 1) := by decide +kernel
theorem dX2_upperBits_8 : decode cX2_upperBits 8 = .ok (.ireturn, 1) := by decide +kernel
set_option maxRecDepth 20000 in
theorem ggX3_init_X1_init : GoodIn wsX3_init wsX1_init := goodIn_r _ [12, 13, 2, 3, 14, 15, 16, 17, 18, 19, 20, 21, 22, 23, 24, 8, 25, 29, 30, 31, 32, 33, 34, 35, 36, 37, 38, 39, 40] (by decide +kernel) (by decide +kernel)
set_option maxRecDepth 20000 in
theorem gX3_init_X1_init : GoodIn wsX3_init (wsX1_init) := ggX3_init_X1_init
theorem dX3_init_0 : decode cX3_init 0 = .ok (.aload_n 0, 1) := by decide +kernel
theorem dX3_init_1 : decode cX3_init 1 = .ok (.invokespecial 1, 3) := by decide +kernel
theorem dX3_init_4 : decode cX3_init 4 = .ok (.aload_n 0, 1) := by decide +kernel
theorem dX3_init_5 : decode cX3_init 5 = .ok (.aload_n 1, 1) := by decide +kernel
theorem dX3_init_6 : decode cX3_init 6 = .ok (.putfield 7, 3) := by decide +kernel
theorem dX3_init_9 : decode cX3_init 9 = .ok (.aload_n 0, 1) := by decide +kernel
theorem dX3_init_10 : decode cX3_init 10 = .ok (.aload_n 2, 1) := by decide +kernel
theorem dX3_init_11 : decode cX3_init 11 = .ok (.putfield 13, 3) := by decide +kernel
theorem dX3_init_14 : decode cX3_init 14 = .ok (.aload_n 0, 1) := by decide +kernel
theorem dX3_init_15 : decode cX3_init 15 = .ok (.new 17, 3) := by decide +kernel
theorem dX3_init_18 : decode cX3_init 18 = .ok (.dup, 1) := by decide +kernel
theorem dX3_init_19 : decode cX3_init 19 = .ok (.aload_n 1, 1) := by decide +kernel
theorem dX3_init_20 : decode cX3_init 20 = .ok (.invokespecial 19, 3) := by decide +kernel
theorem dX3_init_23 : decode cX3_init 23 = .ok (.putfield 22, 3) := by decide +kernel
theorem dX3_init_26 : decode cX3_init 26 = .ok (.return_, 1) := by decide +kernel
set_option maxRecDepth 20000 in
theorem ggX3_fill_X1_clear : GoodIn wsX3_fill wsX1_clear := goodIn_r _ [9, 10, 11, 12, 13, 14, 15, 16, 79, 80, 81, 82, 83, 72, 73, 74, 75, 76, 77, 78] (by decide +kernel) (by decide +kernel)
set_option maxRecDepth 20000 in
theorem gX3_fill_X1_clear : GoodIn wsX3_fill (wsV RX3 26 RX1 yX1_clear wsX1_clear) := goodIn_app (goodIn_of _ (by decide +kernel)) ggX3_fill_X1_clear
set_option maxRecDepth 20000 in
theorem ggX3_fill_X3_tightest : GoodIn wsX3_fill wsX3_tightest := goodIn_r _ [21, 22, 2, 3, 1, 23, 24, 25, 8, 26, 12, 27, 28, 29, 30, 10, 31, 14, 32, 15, 33, 16, 34, 35, 36, 37, 38, 39, 40, 41, 69, 70, 71, 72, 73, 74, 75, 76, 77, 78, 79, 80, 81, 82, 83] (by decide +kernel) (by decide +kernel)
set_option maxRecDepth 20000 in
theorem gX3_fill_X3_tightest : GoodIn wsX3_fill (wsV RX3 35 RX3 yX3_tightest wsX3_tightest) := goodIn_app (goodIn_of _ (by decide +kernel)) ggX3_fill_X3_tightest
set_option maxRecDepth 20000 in
theorem ggX3_fill_X1_may : GoodIn wsX3_fill wsX1_may := goodIn_r _ [30, 10, 31, 14, 32, 15, 33, 16, 34, 79, 80, 81, 82, 83, 72, 73, 74, 75, 76, 77, 78] (by decide +kernel) (by decide +kernel)
set_option maxRecDepth 20000 in
theorem gX3_fill_X1_may : GoodIn wsX3_fill (wsV RX3 39 RX1 yX1_may wsX1_may) := goodIn_app (goodIn_of _ (by decide +kernel)) ggX3_fill_X1_may
set_option maxRecDepth 20000 in
theorem ggX3_fill_J6_bitCount_0f7a4 : GoodIn wsX3_fill wsJ6_bitCount_0f7a4 := goodIn_r _ [38, 39, 40, 41] (by decide +kernel) (by decide +kernel)
set_option maxRecDepth 20000 in
theorem gX3_fill_J6_bitCount_0f7a4 : GoodIn wsX3_fill (va_wsS RX3 43 yJ6_bitCount_0f7a4 wsJ6_bitCount_0f7a4) := goodIn_app (goodIn_of _ (by decide +kernel)) ggX3_fill_J6_bitCount_0f7a4
set_option maxRecDepth 20000 in
theorem ggX3_fill_X2_below : GoodIn wsX3_fill wsX2_below := goodIn_r _ [46, 47, 48, 49, 50, 51, 52, 45, 53, 84] (by decide +kernel) (by decide +kernel)
set_option maxRecDepth 20000 in
theorem gX3_fill_X2_below : GoodIn wsX3_fill (wsV RX3 48 RX2 yX2_below wsX2_below) := goodIn_app (goodIn_of _ (by decide +kernel)) ggX3_fill_X2_below
set_option maxRecDepth 20000 in
theorem ggX3_fill_X3_symbolAt : GoodIn wsX3_fill wsX3_symbolAt := goodIn_r _ [56, 57, 58, 37, 59, 60] (by decide +kernel) (by decide +kernel)
set_option maxRecDepth 20000 in
theorem gX3_fill_X3_symbolAt : GoodIn wsX3_fill (va_wsS RX3 53 yX3_symbolAt wsX3_symbolAt) := goodIn_app (goodIn_of _ (by decide +kernel)) ggX3_fill_X3_symbolAt
set_option maxRecDepth 20000 in
theorem ggX3_fill_X1_put : GoodIn wsX3_fill wsX1_put := goodIn_r _ [64, 12, 65, 66, 67, 8, 68, 14, 10, 32, 15, 33, 16, 34, 79, 80, 81, 82, 83, 72, 73, 74, 75, 76, 77, 78] (by decide +kernel) (by decide +kernel)
set_option maxRecDepth 20000 in
theorem gX3_fill_X1_put : GoodIn wsX3_fill (wsV RX3 57 RX1 yX1_put wsX1_put) := goodIn_app (goodIn_of _ (by decide +kernel)) ggX3_fill_X1_put
theorem dX3_fill_0 : decode cX3_fill 0 = .ok (.aload_n 0, 1) := by decide +kernel
theorem dX3_fill_1 : decode cX3_fill 1 = .ok (.getfield 22, 3) := by decide +kernel
theorem dX3_fill_4 : decode cX3_fill 4 = .ok (.invokevirtual 26, 3) := by decide +kernel
theorem dX3_fill_7 : decode cX3_fill 7 = .ok (.iconst 0, 1) := by decide +kernel
theorem dX3_fill_8 : decode cX3_fill 8 = .ok (.istore_n 1, 1) := by decide +kernel
theorem dX3_fill_9 : decode cX3_fill 9 = .ok (.iload_n 1, 1) := by decide +kernel
theorem dX3_fill_10 : decode cX3_fill 10 = .ok (.aload_n 0, 1) := by decide +kernel
theorem dX3_fill_11 : decode cX3_fill 11 = .ok (.getfield 7, 3) := by decide +kernel
theorem dX3_fill_14 : decode cX3_fill 14 = .ok (.getfield 29, 3) := by decide +kernel
theorem dX3_fill_17 : decode cX3_fill 17 = .ok (.if_icmp .ge 57, 3) := by decide +kernel
theorem dX3_fill_20 : decode cX3_fill 20 = .ok (.aload_n 0, 1) := by decide +kernel
theorem dX3_fill_21 : decode cX3_fill 21 = .ok (.invokevirtual 35, 3) := by decide +kernel
theorem dX3_fill_24 : decode cX3_fill 24 = .ok (.istore_n 2, 1) := by decide +kernel
theorem dX3_fill_25 : decode cX3_fill 25 = .ok (.aload_n 0, 1) := by decide +kernel
theorem dX3_fill_26 : decode cX3_fill 26 = .ok (.getfield 22, 3) := by decide +kernel
theorem dX3_fill_29 : decode cX3_fill 29 = .ok (.iload_n 2, 1) := by decide +kernel
theorem dX3_fill_30 : decode cX3_fill 30 = .ok (.invokevirtual 39, 3) := by decide +kernel
theorem dX3_fill_33 : decode cX3_fill 33 = .ok (.istore_n 3, 1) := by decide +kernel
theorem dX3_fill_34 : decode cX3_fill 34 = .ok (.iload_n 3, 1) := by decide +kernel
theorem dX3_fill_35 : decode cX3_fill 35 = .ok (.invokestatic 43, 3) := by decide +kernel
theorem dX3_fill_38 : decode cX3_fill 38 = .ok (.istore 4, 2) := by decide +kernel
theorem dX3_fill_40 : decode cX3_fill 40 = .ok (.iload 4, 2) := by decide +kernel
theorem dX3_fill_42 : decode cX3_fill 42 = .ok (.ifCond .ne 5, 3) := by decide +kernel
theorem dX3_fill_45 : decode cX3_fill 45 = .ok (.iconst 0, 1) := by decide +kernel
theorem dX3_fill_46 : decode cX3_fill 46 = .ok (.ireturn, 1) := by decide +kernel
theorem dX3_fill_47 : decode cX3_fill 47 = .ok (.aload_n 0, 1) := by decide +kernel
theorem dX3_fill_48 : decode cX3_fill 48 = .ok (.getfield 22, 3) := by decide +kernel
theorem dX3_fill_51 : decode cX3_fill 51 = .ok (.iload_n 2, 1) := by decide +kernel
theorem dX3_fill_52 : decode cX3_fill 52 = .ok (.iload_n 3, 1) := by decide +kernel
theorem dX3_fill_53 : decode cX3_fill 53 = .ok (.aload_n 0, 1) := by decide +kernel
theorem dX3_fill_54 : decode cX3_fill 54 = .ok (.getfield 13, 3) := by decide +kernel
theorem dX3_fill_57 : decode cX3_fill 57 = .ok (.iload 4, 2) := by decide +kernel
theorem dX3_fill_59 : decode cX3_fill 59 = .ok (.invokevirtual 48, 3) := by decide +kernel
theorem dX3_fill_62 : decode cX3_fill 62 = .ok (.invokestatic 53, 3) := by decide +kernel
theorem dX3_fill_65 : decode cX3_fill 65 = .ok (.invokevirtual 57, 3) := by decide +kernel
theorem dX3_fill_68 : decode cX3_fill 68 = .ok (.iinc 1 1, 3) := by decide +kernel
theorem dX3_fill_71 : decode cX3_fill 71 = .ok (.goto (-62), 3) := by decide +kernel
theorem dX3_fill_74 : decode cX3_fill 74 = .ok (.iconst 1, 1) := by decide +kernel
theorem dX3_fill_75 : decode cX3_fill 75 = .ok (.ireturn, 1) := by decide +kernel
set_option maxRecDepth 20000 in
theorem ggX3_tightest_X1_isEmpty : GoodIn wsX3_tightest wsX1_isEmpty := goodIn_r _ [9, 10, 40, 41, 42, 43, 44] (by decide +kernel) (by decide +kernel)
set_option maxRecDepth 20000 in
theorem gX3_tightest_X1_isEmpty : GoodIn wsX3_tightest (wsV RX3 62 RX1 yX1_isEmpty wsX1_isEmpty) := goodIn_app (goodIn_of _ (by decide +kernel)) ggX3_tightest_X1_isEmpty
set_option maxRecDepth 20000 in
theorem ggX3_tightest_X1_may : GoodIn wsX3_tightest wsX1_may := goodIn_r _ [14, 15, 16, 17, 18, 19, 20, 21, 22, 40, 41, 42, 43, 44, 33, 34, 35, 36, 37, 38, 39] (by decide +kernel) (by decide +kernel)
set_option maxRecDepth 20000 in
theorem gX3_tightest_X1_may : GoodIn wsX3_tightest (wsV RX3 39 RX1 yX1_may wsX1_may) := goodIn_app (goodIn_of _ (by decide +kernel)) ggX3_tightest_X1_may
set_option maxRecDepth 20000 in
theorem ggX3_tightest_J6_bitCount_0f7a4 : GoodIn wsX3_tightest wsJ6_bitCount_0f7a4 := goodIn_r _ [26, 27, 28, 29] (by decide +kernel) (by decide +kernel)
set_option maxRecDepth 20000 in
theorem gX3_tightest_J6_bitCount_0f7a4 : GoodIn wsX3_tightest (va_wsS RX3 43 yJ6_bitCount_0f7a4 wsJ6_bitCount_0f7a4) := goodIn_app (goodIn_of _ (by decide +kernel)) ggX3_tightest_J6_bitCount_0f7a4
theorem dX3_tightest_0 : decode cX3_tightest 0 = .ok (.iconst 0, 1) := by decide +kernel
theorem dX3_tightest_1 : decode cX3_tightest 1 = .ok (.istore_n 1, 1) := by decide +kernel
theorem dX3_tightest_2 : decode cX3_tightest 2 = .ok (.ldc 61, 2) := by decide +kernel
theorem dX3_tightest_4 : decode cX3_tightest 4 = .ok (.istore_n 2, 1) := by decide +kernel
theorem dX3_tightest_5 : decode cX3_tightest 5 = .ok (.iconst 0, 1) := by decide +kernel
theorem dX3_tightest_6 : decode cX3_tightest 6 = .ok (.istore_n 3, 1) := by decide +kernel
theorem dX3_tightest_7 : decode cX3_tightest 7 = .ok (.iload_n 3, 1) := by decide +kernel
theorem dX3_tightest_8 : decode cX3_tightest 8 = .ok (.aload_n 0, 1) := by decide +kernel
theorem dX3_tightest_9 : decode cX3_tightest 9 = .ok (.getfield 7, 3) := by decide +kernel
theorem dX3_tightest_12 : decode cX3_tightest 12 = .ok (.getfield 29, 3) := by decide +kernel
theorem dX3_tightest_15 : decode cX3_tightest 15 = .ok (.if_icmp .ge 44, 3) := by decide +kernel
theorem dX3_tightest_18 : decode cX3_tightest 18 = .ok (.aload_n 0, 1) := by decide +kernel
theorem dX3_tightest_19 : decode cX3_tightest 19 = .ok (.getfield 22, 3) := by decide +kernel
theorem dX3_tightest_22 : decode cX3_tightest 22 = .ok (.iload_n 3, 1) := by decide +kernel
theorem dX3_tightest_23 : decode cX3_tightest 23 = .ok (.invokevirtual 62, 3) := by decide +kernel
theorem dX3_tightest_26 : decode cX3_tightest 26 = .ok (.ifCond .eq 27, 3) := by decide +kernel
theorem dX3_tightest_29 : decode cX3_tightest 29 = .ok (.aload_n 0, 1) := by decide +kernel
theorem dX3_tightest_30 : decode cX3_tightest 30 = .ok (.getfield 22, 3) := by decide +kernel
theorem dX3_tightest_33 : decode cX3_tightest 33 = .ok (.iload_n 3, 1) := by decide +kernel
theorem dX3_tightest_34 : decode cX3_tightest 34 = .ok (.invokevirtual 39, 3) := by decide +kernel
theorem dX3_tightest_37 : decode cX3_tightest 37 = .ok (.invokestatic 43, 3) := by decide +kernel
theorem dX3_tightest_40 : decode cX3_tightest 40 = .ok (.istore 4, 2) := by decide +kernel
theorem dX3_tightest_42 : decode cX3_tightest 42 = .ok (.iload 4, 2) := by decide +kernel
theorem dX3_tightest_44 : decode cX3_tightest 44 = .ok (.iload_n 2, 1) := by decide +kernel
theorem dX3_tightest_45 : decode cX3_tightest 45 = .ok (.if_icmp .ge 8, 3) := by decide +kernel
theorem dX3_tightest_48 : decode cX3_tightest 48 = .ok (.iload 4, 2) := by decide +kernel
theorem dX3_tightest_50 : decode cX3_tightest 50 = .ok (.istore_n 2, 1) := by decide +kernel
theorem dX3_tightest_51 : decode cX3_tightest 51 = .ok (.iload_n 3, 1) := by decide +kernel
theorem dX3_tightest_52 : decode cX3_tightest 52 = .ok (.istore_n 1, 1) := by decide +kernel
theorem dX3_tightest_53 : decode cX3_tightest 53 = .ok (.iinc 3 1, 3) := by decide +kernel
theorem dX3_tightest_56 : decode cX3_tightest 56 = .ok (.goto (-49), 3) := by decide +kernel
theorem dX3_tightest_59 : decode cX3_tightest 59 = .ok (.iload_n 1, 1) := by decide +kernel
theorem dX3_tightest_60 : decode cX3_tightest 60 = .ok (.ireturn, 1) := by decide +kernel
set_option maxRecDepth 20000 in
theorem ggX3_symbolAt_J6_numberOfTrailingZeros_0f7a4 : GoodIn wsX3_symbolAt wsJ6_numberOfTrailingZeros_0f7a4 := goodIn_r _ [4, 5] (by decide +kernel) (by decide +kernel)
set_option maxRecDepth 20000 in
theorem gX3_symbolAt_J6_numberOfTrailingZeros_0f7a4 : GoodIn wsX3_symbolAt (va_wsS RX3 66 yJ6_numberOfTrailingZeros_0f7a4 wsJ6_numberOfTrailingZeros_0f7a4) := goodIn_app (goodIn_of _ (by decide +kernel)) ggX3_symbolAt_J6_numberOfTrailingZeros_0f7a4
theorem dX3_symbolAt_0 : decode cX3_symbolAt 0 = .ok (.iload_n 0, 1) := by decide +kernel
theorem dX3_symbolAt_1 : decode cX3_symbolAt 1 = .ok (.istore_n 2, 1) := by decide +kernel
theorem dX3_symbolAt_2 : decode cX3_symbolAt 2 = .ok (.iconst 0, 1) := by decide +kernel
theorem dX3_symbolAt_3 : decode cX3_symbolAt 3 = .ok (.istore_n 3, 1) := by decide +kernel
theorem dX3_symbolAt_4 : decode cX3_symbolAt 4 = .ok (.iload_n 3, 1) := by decide +kernel
theorem dX3_symbolAt_5 : decode cX3_symbolAt 5 = .ok (.iload_n 1, 1) := by decide +kernel
theorem dX3_symbolAt_6 : decode cX3_symbolAt 6 = .ok (.if_icmp .ge 15, 3) := by decide +kernel
theorem dX3_symbolAt_9 : decode cX3_symbolAt 9 = .ok (.iload_n 2, 1) := by decide +kernel
theorem dX3_symbolAt_10 : decode cX3_symbolAt 10 = .ok (.iload_n 2, 1) := by decide +kernel
theorem dX3_symbolAt_11 : decode cX3_symbolAt 11 = .ok (.iconst 1, 1) := by decide +kernel
theorem dX3_symbolAt_12 : decode cX3_symbolAt 12 = .ok (.isub, 1) := by decide +kernel
theorem dX3_symbolAt_13 : decode cX3_symbolAt 13 = .ok (.iand, 1) := by decide +kernel
theorem dX3_symbolAt_14 : decode cX3_symbolAt 14 = .ok (.istore_n 2, 1) := by decide +kernel
theorem dX3_symbolAt_15 : decode cX3_symbolAt 15 = .ok (.iinc 3 1, 3) := by decide +kernel
theorem dX3_symbolAt_18 : decode cX3_symbolAt 18 = .ok (.goto (-14), 3) := by decide +kernel
theorem dX3_symbolAt_21 : decode cX3_symbolAt 21 = .ok (.iload_n 2, 1) := by decide +kernel
theorem dX3_symbolAt_22 : decode cX3_symbolAt 22 = .ok (.invokestatic 66, 3) := by decide +kernel
theorem dX3_symbolAt_25 : decode cX3_symbolAt 25 = .ok (.ireturn, 1) := by decide +kernel
theorem dX4_init_0 : decode cX4_init 0 = .ok (.aload_n 0, 1) := by decide +kernel
theorem dX4_init_1 : decode cX4_init 1 = .ok (.invokespecial 1, 3) := by decide +kernel
theorem dX4_init_4 : decode cX4_init 4 = .ok (.aload_n 0, 1) := by decide +kernel
theorem dX4_init_5 : decode cX4_init 5 = .ok (.iload_n 1, 1) := by decide +kernel
theorem dX4_init_6 : decode cX4_init 6 = .ok (.putfield 7, 3) := by decide +kernel
theorem dX4_init_9 : decode cX4_init 9 = .ok (.aload_n 0, 1) := by decide +kernel
theorem dX4_init_10 : decode cX4_init 10 = .ok (.iload_n 1, 1) := by decide +kernel
theorem dX4_init_11 : decode cX4_init 11 = .ok (.iload_n 1, 1) := by decide +kernel
theorem dX4_init_12 : decode cX4_init 12 = .ok (.imul, 1) := by decide +kernel
theorem dX4_init_13 : decode cX4_init 13 = .ok (.putfield 13, 3) := by decide +kernel
theorem dX4_init_16 : decode cX4_init 16 = .ok (.aload_n 0, 1) := by decide +kernel
theorem dX4_init_17 : decode cX4_init 17 = .ok (.iconst 1, 1) := by decide +kernel
theorem dX4_init_18 : decode cX4_init 18 = .ok (.iload_n 1, 1) := by decide +kernel
theorem dX4_init_19 : decode cX4_init 19 = .ok (.ishl, 1) := by decide +kernel
theorem dX4_init_20 : decode cX4_init 20 = .ok (.iconst 1, 1) := by decide +kernel
theorem dX4_init_21 : decode cX4_init 21 = .ok (.isub, 1) := by decide +kernel
theorem dX4_init_22 : decode cX4_init 22 = .ok (.putfield 16, 3) := by decide +kernel
theorem dX4_init_25 : decode cX4_init 25 = .ok (.aload_n 0, 1) := by decide +kernel
theorem dX4_init_26 : decode cX4_init 26 = .ok (.aload_n 0, 1) := by decide +kernel
theorem dX4_init_27 : decode cX4_init 27 = .ok (.getfield 13, 3) := by decide +kernel
theorem dX4_init_30 : decode cX4_init 30 = .ok (.newarray .int, 2) := by decide +kernel
theorem dX4_init_32 : decode cX4_init 32 = .ok (.putfield 19, 3) := by decide +kernel
theorem dX4_init_35 : decode cX4_init 35 = .ok (.aload_n 0, 1) := by decide +kernel
theorem dX4_init_36 : decode cX4_init 36 = .ok (.aload_n 0, 1) := by decide +kernel
theorem dX4_init_37 : decode cX4_init 37 = .ok (.getfield 13, 3) := by decide +kernel
theorem dX4_init_40 : decode cX4_init 40 = .ok (.newarray .int, 2) := by decide +kernel
theorem dX4_init_42 : decode cX4_init 42 = .ok (.putfield 23, 3) := by decide +kernel
theorem dX4_init_45 : decode cX4_init 45 = .ok (.aload_n 0, 1) := by decide +kernel
theorem dX4_init_46 : decode cX4_init 46 = .ok (.aload_n 0, 1) := by decide +kernel
theorem dX4_init_47 : decode cX4_init 47 = .ok (.getfield 13, 3) := by decide +kernel
theorem dX4_init_50 : decode cX4_init 50 = .ok (.newarray .int, 2) := by decide +kernel
theorem dX4_init_52 : decode cX4_init 52 = .ok (.putfield 26, 3) := by decide +kernel
theorem dX4_init_55 : decode cX4_init 55 = .ok (.aload_n 0, 1) := by decide +kernel
theorem dX4_init_56 : decode cX4_init 56 = .ok (.iconst 3, 1) := by decide +kernel
theorem dX4_init_57 : decode cX4_init 57 = .ok (.iload_n 1, 1) := by decide +kernel
theorem dX4_init_58 : decode cX4_init 58 = .ok (.imul, 1) := by decide +kernel
theorem dX4_init_59 : decode cX4_init 59 = .ok (.iload_n 1, 1) := by decide +kernel
theorem dX4_init_60 : decode cX4_init 60 = .ok (.multianewarray 29 2, 4) := by decide +kernel
theorem dX4_init_64 : decode cX4_init 64 = .ok (.putfield 31, 3) := by decide +kernel
theorem dX4_init_67 : decode cX4_init 67 = .ok (.iload_n 1, 1) := by decide +kernel
theorem dX4_init_68 : decode cX4_init 68 = .ok (.iconst 2, 1) := by decide +kernel
theorem dX4_init_69 : decode cX4_init 69 = .ok (.idiv, 1) := by decide +kernel
theorem dX4_init_70 : decode cX4_init 70 = .ok (.istore_n 2, 1) := by decide +kernel
theorem dX4_init_71 : decode cX4_init 71 = .ok (.iconst 0, 1) := by decide +kernel
theorem dX4_init_72 : decode cX4_init 72 = .ok (.istore_n 3, 1) := by decide +kernel
theorem dX4_init_73 : decode cX4_init 73 = .ok (.iload_n 3, 1) := by decide +kernel
theorem dX4_init_74 : decode cX4_init 74 = .ok (.iload_n 1, 1) := by decide +kernel
theorem dX4_init_75 : decode cX4_init 75 = .ok (.if_icmp .ge 154, 3) := by decide +kernel
theorem dX4_init_78 : decode cX4_init 78 = .ok (.iconst 0, 1) := by decide +kernel
theorem dX4_init_79 : decode cX4_init 79 = .ok (.istore 4, 2) := by decide +kernel
theorem dX4_init_81 : decode cX4_init 81 = .ok (.iload 4, 2) := by decide +kernel
theorem dX4_init_83 : decode cX4_init 83 = .ok (.iload_n 1, 1) := by decide +kernel
theorem dX4_init_84 : decode cX4_init 84 = .ok (.if_icmp .ge 139, 3) := by decide +kernel
theorem dX4_init_87 : decode cX4_init 87 = .ok (.iload_n 1, 1) := by decide +kernel
theorem dX4_init_88 : decode cX4_init 88 = .ok (.iload_n 3, 1) := by decide +kernel
theorem dX4_init_89 : decode cX4_init 89 = .ok (.imul, 1) := by decide +kernel
theorem dX4_init_90 : decode cX4_init 90 = .ok (.iload 4, 2) := by decide +kernel
theorem dX4_init_92 : decode cX4_init 92 = .ok (.iadd, 1) := by decide +kernel
theorem dX4_init_93 : decode cX4_init 93 = .ok (.istore 5, 2) := by decide +kernel
theorem dX4_init_95 : decode cX4_init 95 = .ok (.iload_n 3, 1) := by decide +kernel
theorem dX4_init_96 : decode cX4_init 96 = .ok (.iconst 2, 1) := by decide +kernel
theorem dX4_init_97 : decode cX4_init 97 = .ok (.idiv, 1) := by decide +kernel
theorem dX4_init_98 : decode cX4_init 98 = .ok (.iconst 2, 1) := by decide +kernel
theorem dX4_init_99 : decode cX4_init 99 = .ok (.imul, 1) := by decide +kernel
theorem dX4_init_100 : decode cX4_init 100 = .ok (.istore 6, 2) := by decide +kernel
theorem dX4_init_102 : decode cX4_init 102 = .ok (.iload 4, 2) := by decide +kernel
theorem dX4_init_104 : decode cX4_init 104 = .ok (.iload_n 2, 1) := by decide +kernel
theorem dX4_init_105 : decode cX4_init 105 = .ok (.if_icmp .lt 7, 3) := by decide +kernel
theorem dX4_init_108 : decode cX4_init 108 = .ok (.iconst 1, 1) := by decide +kernel
theorem dX4_init_109 : decode cX4_init 109 = .ok (.goto 4, 3) := by decide +kernel
theorem dX4_init_112 : decode cX4_init 112 = .ok (.iconst 0, 1) := by decide +kernel
theorem dX4_init_113 : decode cX4_init 113 = .ok (.istore 7, 2) := by decide +kernel
theorem dX4_init_115 : decode cX4_init 115 = .ok (.aload_n 0, 1) := by decide +kernel
theorem dX4_init_116 : decode cX4_init 116 = .ok (.getfield 19, 3) := by decide +kernel
theorem dX4_init_119 : decode cX4_init 119 = .ok (.iload 5, 2) := by decide +kernel
theorem dX4_init_121 : decode cX4_init 121 = .ok (.iload_n 3, 1) := by decide +kernel
theorem dX4_init_122 : decode cX4_init 122 = .ok (.iastore, 1) := by decide +kernel
theorem dX4_init_123 : decode cX4_init 123 = .ok (.aload_n 0, 1) := by decide +kernel
theorem dX4_init_124 : decode cX4_init 124 = .ok (.getfield 23, 3) := by decide +kernel
theorem dX4_init_127 : decode cX4_init 127 = .ok (.iload 5, 2) := by decide +kernel
theorem dX4_init_129 : decode cX4_init 129 = .ok (.iload 4, 2) := by decide +kernel
theorem dX4_init_131 : decode cX4_init 131 = .ok (.iastore, 1) := by decide +kernel
theorem dX4_init_132 : decode cX4_init 132 = .ok (.aload_n 0, 1) := by decide +kernel
theorem dX4_init_133 : decode cX4_init 133 = .ok (.getfield 26, 3) := by decide +kernel
theorem dX4_init_136 : decode cX4_init 136 = .ok (.iload 5, 2) := by decide +kernel
theorem dX4_init_138 : decode cX4_init 138 = .ok (.iload 7, 2) := by decide +kernel
theorem dX4_init_140 : decode cX4_init 140 = .ok (.ifCond .eq 10, 3) := by decide +kernel
theorem dX4_init_143 : decode cX4_init 143 = .ok (.iload 6, 2) := by decide +kernel
theorem dX4_init_145 : decode cX4_init 145 = .ok (.iconst 1, 1) := by decide +kernel
theorem dX4_init_146 : decode cX4_init 146 = .ok (.iadd, 1) := by decide +kernel
theorem dX4_init_147 : decode cX4_init 147 = .ok (.goto 5, 3) := by decide +kernel
theorem dX4_init_150 : decode cX4_init 150 = .ok (.iload 6, 2) := by decide +kernel
theorem dX4_init_152 : decode cX4_init 152 = .ok (.iastore, 1) := by decide +kernel
theorem dX4_init_153 : decode cX4_init 153 = .ok (.aload_n 0, 1) := by decide +kernel
theorem dX4_init_154 : decode cX4_init 154 = .ok (.getfield 31, 3) := by decide +kernel
theorem dX4_init_157 : decode cX4_init 157 = .ok (.iload_n 3, 1) := by decide +kernel
theorem dX4_init_158 : decode cX4_init 158 = .ok (.aaload, 1) := by decide +kernel
theorem dX4_init_159 : decode cX4_init 159 = .ok (.iload 4, 2) := by decide +kernel
theorem dX4_init_161 : decode cX4_init 161 = .ok (.iload 5, 2) := by decide +kernel
theorem dX4_init_163 : decode cX4_init 163 = .ok (.iastore, 1) := by decide +kernel
theorem dX4_init_164 : decode cX4_init 164 = .ok (.aload_n 0, 1) := by decide +kernel
theorem dX4_init_165 : decode cX4_init 165 = .ok (.getfield 31, 3) := by decide +kernel
theorem dX4_init_168 : decode cX4_init 168 = .ok (.iload_n 1, 1) := by decide +kernel
theorem dX4_init_169 : decode cX4_init 169 = .ok (.iload 4, 2) := by decide +kernel
theorem dX4_init_171 : decode cX4_init 171 = .ok (.iadd, 1) := by decide +kernel
theorem dX4_init_172 : decode cX4_init 172 = .ok (.aaload, 1) := by decide +kernel
theorem dX4_init_173 : decode cX4_init 173 = .ok (.iload_n 3, 1) := by decide +kernel
theorem dX4_init_174 : decode cX4_init 174 = .ok (.iload 5, 2) := by decide +kernel
theorem dX4_init_176 : decode cX4_init 176 = .ok (.iastore, 1) := by decide +kernel
theorem dX4_init_177 : decode cX4_init 177 = .ok (.aload_n 0, 1) := by decide +kernel
theorem dX4_init_178 : decode cX4_init 178 = .ok (.getfield 31, 3) := by decide +kernel
theorem dX4_init_181 : decode cX4_init 181 = .ok (.iconst 2, 1) := by decide +kernel
theorem dX4_init_182 : decode cX4_init 182 = .ok (.iload_n 1, 1) := by decide +kernel
theorem dX4_init_183 : decode cX4_init 183 = .ok (.imul, 1) := by decide +kernel
theorem dX4_init_184 : decode cX4_init 184 = .ok (.aload_n 0, 1) := by decide +kernel
theorem dX4_init_185 : decode cX4_init 185 = .ok (.getfield 26, 3) := by decide +kernel
theorem dX4_init_188 : decode cX4_init 188 = .ok (.iload 5, 2) := by decide +kernel
theorem dX4_init_190 : decode cX4_init 190 = .ok (.iaload, 1) := by decide +kernel
theorem dX4_init_191 : decode cX4_init 191 = .ok (.iadd, 1) := by decide +kernel
theorem dX4_init_192 : decode cX4_init 192 = .ok (.aaload, 1) := by decide +kernel
theorem dX4_init_193 : decode cX4_init 193 = .ok (.iload_n 3, 1) := by decide +kernel
theorem dX4_init_194 : decode cX4_init 194 = .ok (.iload 6, 2) := by decide +kernel
theorem dX4_init_196 : decode cX4_init 196 = .ok (.isub, 1) := by decide +kernel
theorem dX4_init_197 : decode cX4_init 197 = .ok (.iload_n 2, 1) := by decide +kernel
theorem dX4_init_198 : decode cX4_init 198 = .ok (.imul, 1) := by decide +kernel
theorem dX4_init_199 : decode cX4_init 199 = .ok (.iload 7, 2) := by decide +kernel
theorem dX4_init_201 : decode cX4_init 201 = .ok (.ifCond .eq 10, 3) := by decide +kernel
theorem dX4_init_204 : decode cX4_init 204 = .ok (.iload 4, 2) := by decide +kernel
theorem dX4_init_206 : decode cX4_init 206 = .ok (.iload_n 2, 1) := by decide +kernel
theorem dX4_init_207 : decode cX4_init 207 = .ok (.isub, 1) := by decide +kernel
theorem dX4_init_208 : decode cX4_init 208 = .ok (.goto 5, 3) := by decide +kernel
theorem dX4_init_211 : decode cX4_init 211 = .ok (.iload 4, 2) := by decide +kernel
theorem dX4_init_213 : decode cX4_init 213 = .ok (.iadd, 1) := by decide +kernel
theorem dX4_init_214 : decode cX4_init 214 = .ok (.iload 5, 2) := by decide +kernel
theorem dX4_init_216 : decode cX4_init 216 = .ok (.iastore, 1) := by decide +kernel
theorem dX4_init_217 : decode cX4_init 217 = .ok (.iinc 4 1, 3) := by decide +kernel
theorem dX4_init_220 : decode cX4_init 220 = .ok (.goto (-139), 3) := by decide +kernel
theorem dX4_init_223 : decode cX4_init 223 = .ok (.iinc 3 1, 3) := by decide +kernel
theorem dX4_init_226 : decode cX4_init 226 = .ok (.goto (-153), 3) := by decide +kernel
theorem dX4_init_229 : decode cX4_init 229 = .ok (.return_, 1) := by decide +kernel
theorem dX4_has_0 : decode cX4_has 0 = .ok (.iload_n 1, 1) := by decide +kernel
theorem dX4_has_1 : decode cX4_has 1 = .ok (.ifCond .lt 15, 3) := by decide +kernel
theorem dX4_has_4 : decode cX4_has 4 = .ok (.iload_n 1, 1) := by decide +kernel
theorem dX4_has_5 : decode cX4_has 5 = .ok (.aload_n 0, 1) := by decide +kernel
theorem dX4_has_6 : decode cX4_has 6 = .ok (.getfield 13, 3) := by decide +kernel
theorem dX4_has_9 : decode cX4_has 9 = .ok (.if_icmp .ge 7, 3) := by decide +kernel
theorem dX4_has_12 : decode cX4_has 12 = .ok (.iconst 1, 1) := by decide +kernel
theorem dX4_has_13 : decode cX4_has 13 = .ok (.goto 4, 3) := by decide +kernel
theorem dX4_has_16 : decode cX4_has 16 = .ok (.iconst 0, 1) := by decide +kernel
theorem dX4_has_17 : decode cX4_has 17 = .ok (.ireturn, 1) := by decide +kernel
theorem dJx00060_init_a7421_0 : decode cJx00060_init_a7421 0 = .ok (.aload_n 0, 1) := by decide +kernel
theorem dJx00060_init_a7421_1 : decode cJx00060_init_a7421 1 = .ok (.aload_n 1, 1) := by decide +kernel
theorem dJx00060_init_a7421_2 : decode cJx00060_init_a7421 2 = .ok (.invokespecial 7, 3) := by decide +kernel
theorem dJx00060_init_a7421_5 : decode cJx00060_init_a7421 5 = .ok (.return_, 1) := by decide +kernel
theorem dJ6_numberOfTrailingZeros_0f7a4_0 : decode cJ6_numberOfTrailingZeros_0f7a4 0 = .ok (.iload_n 0, 1) := by decide +kernel
theorem dJ6_numberOfTrailingZeros_0f7a4_1 : decode cJ6_numberOfTrailingZeros_0f7a4 1 = .ok (.iconst (-1), 1) := by decide +kernel
theorem dJ6_numberOfTrailingZeros_0f7a4_2 : decode cJ6_numberOfTrailingZeros_0f7a4 2 = .ok (.ixor, 1) := by decide +kernel
theorem dJ6_numberOfTrailingZeros_0f7a4_3 : decode cJ6_numberOfTrailingZeros_0f7a4 3 = .ok (.iload_n 0, 1) := by decide +kernel
theorem dJ6_numberOfTrailingZeros_0f7a4_4 : decode cJ6_numberOfTrailingZeros_0f7a4 4 = .ok (.iconst 1, 1) := by decide +kernel
theorem dJ6_numberOfTrailingZeros_0f7a4_5 : decode cJ6_numberOfTrailingZeros_0f7a4 5 = .ok (.isub, 1) := by decide +kernel
theorem dJ6_numberOfTrailingZeros_0f7a4_6 : decode cJ6_numberOfTrailingZeros_0f7a4 6 = .ok (.iand, 1) := by decide +kernel
theorem dJ6_numberOfTrailingZeros_0f7a4_7 : decode cJ6_numberOfTrailingZeros_0f7a4 7 = .ok (.istore_n 0, 1) := by decide +kernel
theorem dJ6_numberOfTrailingZeros_0f7a4_8 : decode cJ6_numberOfTrailingZeros_0f7a4 8 = .ok (.iload_n 0, 1) := by decide +kernel
theorem dJ6_numberOfTrailingZeros_0f7a4_9 : decode cJ6_numberOfTrailingZeros_0f7a4 9 = .ok (.ifCond .gt 8, 3) := by decide +kernel
theorem dJ6_numberOfTrailingZeros_0f7a4_12 : decode cJ6_numberOfTrailingZeros_0f7a4 12 = .ok (.iload_n 0, 1) := by decide +kernel
theorem dJ6_numberOfTrailingZeros_0f7a4_13 : decode cJ6_numberOfTrailingZeros_0f7a4 13 = .ok (.bipush 32, 2) := by decide +kernel
theorem dJ6_numberOfTrailingZeros_0f7a4_15 : decode cJ6_numberOfTrailingZeros_0f7a4 15 = .ok (.iand, 1) := by decide +kernel
theorem dJ6_numberOfTrailingZeros_0f7a4_16 : decode cJ6_numberOfTrailingZeros_0f7a4 16 = .ok (.ireturn, 1) := by decide +kernel
theorem dJ6_numberOfTrailingZeros_0f7a4_17 : decode cJ6_numberOfTrailingZeros_0f7a4 17 = .ok (.iconst 1, 1) := by decide +kernel
theorem dJ6_numberOfTrailingZeros_0f7a4_18 : decode cJ6_numberOfTrailingZeros_0f7a4 18 = .ok (.istore_n 1, 1) := by decide +kernel
theorem dJ6_numberOfTrailingZeros_0f7a4_19 : decode cJ6_numberOfTrailingZeros_0f7a4 19 = .ok (.iload_n 0, 1) := by decide +kernel
theorem dJ6_numberOfTrailingZeros_0f7a4_20 : decode cJ6_numberOfTrailingZeros_0f7a4 20 = .ok (.ldc_w 264, 3) := by decide +kernel
theorem dJ6_numberOfTrailingZeros_0f7a4_23 : decode cJ6_numberOfTrailingZeros_0f7a4 23 = .ok (.if_icmp .le 11, 3) := by decide +kernel
theorem dJ6_numberOfTrailingZeros_0f7a4_26 : decode cJ6_numberOfTrailingZeros_0f7a4 26 = .ok (.iinc 1 16, 3) := by decide +kernel
theorem dJ6_numberOfTrailingZeros_0f7a4_29 : decode cJ6_numberOfTrailingZeros_0f7a4 29 = .ok (.iload_n 0, 1) := by decide +kernel
theorem dJ6_numberOfTrailingZeros_0f7a4_30 : decode cJ6_numberOfTrailingZeros_0f7a4 30 = .ok (.bipush 16, 2) := by decide +kernel
theorem dJ6_numberOfTrailingZeros_0f7a4_32 : decode cJ6_numberOfTrailingZeros_0f7a4 32 = .ok (.iushr, 1) := by decide +kernel
theorem dJ6_numberOfTrailingZeros_0f7a4_33 : decode cJ6_numberOfTrailingZeros_0f7a4 33 = .ok (.istore_n 0, 1) := by decide +kernel
theorem dJ6_numberOfTrailingZeros_0f7a4_34 : decode cJ6_numberOfTrailingZeros_0f7a4 34 = .ok (.iload_n 0, 1) := by decide +kernel
theorem dJ6_numberOfTrailingZeros_0f7a4_35 : decode cJ6_numberOfTrailingZeros_0f7a4 35 = .ok (.sipush 256, 3) := by decide +kernel
theorem dJ6_numberOfTrailingZeros_0f7a4_38 : decode cJ6_numberOfTrailingZeros_0f7a4 38 = .ok (.if_icmp .le 11, 3) := by decide +kernel
theorem dJ6_numberOfTrailingZeros_0f7a4_41 : decode cJ6_numberOfTrailingZeros_0f7a4 41 = .ok (.iinc 1 8, 3) := by decide +kernel
theorem dJ6_numberOfTrailingZeros_0f7a4_44 : decode cJ6_numberOfTrailingZeros_0f7a4 44 = .ok (.iload_n 0, 1) := by decide +kernel
theorem dJ6_numberOfTrailingZeros_0f7a4_45 : decode cJ6_numberOfTrailingZeros_0f7a4 45 = .ok (.bipush 8, 2) := by decide +kernel
theorem dJ6_numberOfTrailingZeros_0f7a4_47 : decode cJ6_numberOfTrailingZeros_0f7a4 47 = .ok (.iushr, 1) := by decide +kernel
theorem dJ6_numberOfTrailingZeros_0f7a4_48 : decode cJ6_numberOfTrailingZeros_0f7a4 48 = .ok (.istore_n 0, 1) := by decide +kernel
theorem dJ6_numberOfTrailingZeros_0f7a4_49 : decode cJ6_numberOfTrailingZeros_0f7a4 49 = .ok (.iload_n 0, 1) := by decide +kernel
theorem dJ6_numberOfTrailingZeros_0f7a4_50 : decode cJ6_numberOfTrailingZeros_0f7a4 50 = .ok (.bipush 16, 2) := by decide +kernel
theorem dJ6_numberOfTrailingZeros_0f7a4_52 : decode cJ6_numberOfTrailingZeros_0f7a4 52 = .ok (.if_icmp .le 10, 3) := by decide +kernel
theorem dJ6_numberOfTrailingZeros_0f7a4_55 : decode cJ6_numberOfTrailingZeros_0f7a4 55 = .ok (.iinc 1 4, 3) := by decide +kernel
theorem dJ6_numberOfTrailingZeros_0f7a4_58 : decode cJ6_numberOfTrailingZeros_0f7a4 58 = .ok (.iload_n 0, 1) := by decide +kernel
theorem dJ6_numberOfTrailingZeros_0f7a4_59 : decode cJ6_numberOfTrailingZeros_0f7a4 59 = .ok (.iconst 4, 1) := by decide +kernel
theorem dJ6_numberOfTrailingZeros_0f7a4_60 : decode cJ6_numberOfTrailingZeros_0f7a4 60 = .ok (.iushr, 1) := by decide +kernel
theorem dJ6_numberOfTrailingZeros_0f7a4_61 : decode cJ6_numberOfTrailingZeros_0f7a4 61 = .ok (.istore_n 0, 1) := by decide +kernel
theorem dJ6_numberOfTrailingZeros_0f7a4_62 : decode cJ6_numberOfTrailingZeros_0f7a4 62 = .ok (.iload_n 0, 1) := by decide +kernel
theorem dJ6_numberOfTrailingZeros_0f7a4_63 : decode cJ6_numberOfTrailingZeros_0f7a4 63 = .ok (.iconst 4, 1) := by decide +kernel
theorem dJ6_numberOfTrailingZeros_0f7a4_64 : decode cJ6_numberOfTrailingZeros_0f7a4 64 = .ok (.if_icmp .le 10, 3) := by decide +kernel
theorem dJ6_numberOfTrailingZeros_0f7a4_67 : decode cJ6_numberOfTrailingZeros_0f7a4 67 = .ok (.iinc 1 2, 3) := by decide +kernel
theorem dJ6_numberOfTrailingZeros_0f7a4_70 : decode cJ6_numberOfTrailingZeros_0f7a4 70 = .ok (.iload_n 0, 1) := by decide +kernel
theorem dJ6_numberOfTrailingZeros_0f7a4_71 : decode cJ6_numberOfTrailingZeros_0f7a4 71 = .ok (.iconst 2, 1) := by decide +kernel
theorem dJ6_numberOfTrailingZeros_0f7a4_72 : decode cJ6_numberOfTrailingZeros_0f7a4 72 = .ok (.iushr, 1) := by decide +kernel
theorem dJ6_numberOfTrailingZeros_0f7a4_73 : decode cJ6_numberOfTrailingZeros_0f7a4 73 = .ok (.istore_n 0, 1) := by decide +kernel
theorem dJ6_numberOfTrailingZeros_0f7a4_74 : decode cJ6_numberOfTrailingZeros_0f7a4 74 = .ok (.iload_n 1, 1) := by decide +kernel
theorem dJ6_numberOfTrailingZeros_0f7a4_75 : decode cJ6_numberOfTrailingZeros_0f7a4 75 = .ok (.iload_n 0, 1) := by decide +kernel
theorem dJ6_numberOfTrailingZeros_0f7a4_76 : decode cJ6_numberOfTrailingZeros_0f7a4 76 = .ok (.iconst 1, 1) := by decide +kernel
theorem dJ6_numberOfTrailingZeros_0f7a4_77 : decode cJ6_numberOfTrailingZeros_0f7a4 77 = .ok (.iushr, 1) := by decide +kernel
theorem dJ6_numberOfTrailingZeros_0f7a4_78 : decode cJ6_numberOfTrailingZeros_0f7a4 78 = .ok (.iadd, 1) := by decide +kernel
theorem dJ6_numberOfTrailingZeros_0f7a4_79 : decode cJ6_numberOfTrailingZeros_0f7a4 79 = .ok (.ireturn, 1) := by decide +kernel
theorem dJ6_bitCount_0f7a4_0 : decode cJ6_bitCount_0f7a4 0 = .ok (.iload_n 0, 1) := by decide +kernel
theorem dJ6_bitCount_0f7a4_1 : decode cJ6_bitCount_0f7a4 1 = .ok (.iload_n 0, 1) := by decide +kernel
theorem dJ6_bitCount_0f7a4_2 : decode cJ6_bitCount_0f7a4 2 = .ok (.iconst 1, 1) := by decide +kernel
theorem dJ6_bitCount_0f7a4_3 : decode cJ6_bitCount_0f7a4 3 = .ok (.iushr, 1) := by decide +kernel
theorem dJ6_bitCount_0f7a4_4 : decode cJ6_bitCount_0f7a4 4 = .ok (.ldc_w 265, 3) := by decide +kernel
theorem dJ6_bitCount_0f7a4_7 : decode cJ6_bitCount_0f7a4 7 = .ok (.iand, 1) := by decide +kernel
theorem dJ6_bitCount_0f7a4_8 : decode cJ6_bitCount_0f7a4 8 = .ok (.isub, 1) := by decide +kernel
theorem dJ6_bitCount_0f7a4_9 : decode cJ6_bitCount_0f7a4 9 = .ok (.istore_n 0, 1) := by decide +kernel
theorem dJ6_bitCount_0f7a4_10 : decode cJ6_bitCount_0f7a4 10 = .ok (.iload_n 0, 1) := by decide +kernel
theorem dJ6_bitCount_0f7a4_11 : decode cJ6_bitCount_0f7a4 11 = .ok (.ldc_w 266, 3) := by decide +kernel
theorem dJ6_bitCount_0f7a4_14 : decode cJ6_bitCount_0f7a4 14 = .ok (.iand, 1) := by decide +kernel
theorem dJ6_bitCount_0f7a4_15 : decode cJ6_bitCount_0f7a4 15 = .ok (.iload_n 0, 1) := by decide +kernel
theorem dJ6_bitCount_0f7a4_16 : decode cJ6_bitCount_0f7a4 16 = .ok (.iconst 2, 1) := by decide +kernel
theorem dJ6_bitCount_0f7a4_17 : decode cJ6_bitCount_0f7a4 17 = .ok (.iushr, 1) := by decide +kernel
theorem dJ6_bitCount_0f7a4_18 : decode cJ6_bitCount_0f7a4 18 = .ok (.ldc_w 266, 3) := by decide +kernel
theorem dJ6_bitCount_0f7a4_21 : decode cJ6_bitCount_0f7a4 21 = .ok (.iand, 1) := by decide +kernel
theorem dJ6_bitCount_0f7a4_22 : decode cJ6_bitCount_0f7a4 22 = .ok (.iadd, 1) := by decide +kernel
theorem dJ6_bitCount_0f7a4_23 : decode cJ6_bitCount_0f7a4 23 = .ok (.istore_n 0, 1) := by decide +kernel
theorem dJ6_bitCount_0f7a4_24 : decode cJ6_bitCount_0f7a4 24 = .ok (.iload_n 0, 1) := by decide +kernel
theorem dJ6_bitCount_0f7a4_25 : decode cJ6_bitCount_0f7a4 25 = .ok (.iload_n 0, 1) := by decide +kernel
theorem dJ6_bitCount_0f7a4_26 : decode cJ6_bitCount_0f7a4 26 = .ok (.iconst 4, 1) := by decide +kernel
theorem dJ6_bitCount_0f7a4_27 : decode cJ6_bitCount_0f7a4 27 = .ok (.iushr, 1) := by decide +kernel
theorem dJ6_bitCount_0f7a4_28 : decode cJ6_bitCount_0f7a4 28 = .ok (.iadd, 1) := by decide +kernel
theorem dJ6_bitCount_0f7a4_29 : decode cJ6_bitCount_0f7a4 29 = .ok (.ldc_w 267, 3) := by decide +kernel
theorem dJ6_bitCount_0f7a4_32 : decode cJ6_bitCount_0f7a4 32 = .ok (.iand, 1) := by decide +kernel
theorem dJ6_bitCount_0f7a4_33 : decode cJ6_bitCount_0f7a4 33 = .ok (.istore_n 0, 1) := by decide +kernel
theorem dJ6_bitCount_0f7a4_34 : decode cJ6_bitCount_0f7a4 34 = .ok (.iload_n 0, 1) := by decide +kernel
theorem dJ6_bitCount_0f7a4_35 : decode cJ6_bitCount_0f7a4 35 = .ok (.iload_n 0, 1) := by decide +kernel
theorem dJ6_bitCount_0f7a4_36 : decode cJ6_bitCount_0f7a4 36 = .ok (.bipush 8, 2) := by decide +kernel
theorem dJ6_bitCount_0f7a4_38 : decode cJ6_bitCount_0f7a4 38 = .ok (.iushr, 1) := by decide +kernel
theorem dJ6_bitCount_0f7a4_39 : decode cJ6_bitCount_0f7a4 39 = .ok (.iadd, 1) := by decide +kernel
theorem dJ6_bitCount_0f7a4_40 : decode cJ6_bitCount_0f7a4 40 = .ok (.istore_n 0, 1) := by decide +kernel
theorem dJ6_bitCount_0f7a4_41 : decode cJ6_bitCount_0f7a4 41 = .ok (.iload_n 0, 1) := by decide +kernel
theorem dJ6_bitCount_0f7a4_42 : decode cJ6_bitCount_0f7a4 42 = .ok (.iload_n 0, 1) := by decide +kernel
theorem dJ6_bitCount_0f7a4_43 : decode cJ6_bitCount_0f7a4 43 = .ok (.bipush 16, 2) := by decide +kernel
theorem dJ6_bitCount_0f7a4_45 : decode cJ6_bitCount_0f7a4 45 = .ok (.iushr, 1) := by decide +kernel
theorem dJ6_bitCount_0f7a4_46 : decode cJ6_bitCount_0f7a4 46 = .ok (.iadd, 1) := by decide +kernel
theorem dJ6_bitCount_0f7a4_47 : decode cJ6_bitCount_0f7a4 47 = .ok (.istore_n 0, 1) := by decide +kernel
theorem dJ6_bitCount_0f7a4_48 : decode cJ6_bitCount_0f7a4 48 = .ok (.iload_n 0, 1) := by decide +kernel
theorem dJ6_bitCount_0f7a4_49 : decode cJ6_bitCount_0f7a4 49 = .ok (.bipush 63, 2) := by decide +kernel
theorem dJ6_bitCount_0f7a4_51 : decode cJ6_bitCount_0f7a4 51 = .ok (.iand, 1) := by decide +kernel
theorem dJ6_bitCount_0f7a4_52 : decode cJ6_bitCount_0f7a4 52 = .ok (.ireturn, 1) := by decide +kernel
theorem dJ9_min_7cf53_0 : decode cJ9_min_7cf53 0 = .ok (.iload_n 0, 1) := by decide +kernel
theorem dJ9_min_7cf53_1 : decode cJ9_min_7cf53 1 = .ok (.iload_n 1, 1) := by decide +kernel
theorem dJ9_min_7cf53_2 : decode cJ9_min_7cf53 2 = .ok (.if_icmp .gt 7, 3) := by decide +kernel
theorem dJ9_min_7cf53_5 : decode cJ9_min_7cf53 5 = .ok (.iload_n 0, 1) := by decide +kernel
theorem dJ9_min_7cf53_6 : decode cJ9_min_7cf53 6 = .ok (.goto 4, 3) := by decide +kernel
theorem dJ9_min_7cf53_9 : decode cJ9_min_7cf53 9 = .ok (.iload_n 1, 1) := by decide +kernel
theorem dJ9_min_7cf53_10 : decode cJ9_min_7cf53 10 = .ok (.ireturn, 1) := by decide +kernel
end
section
set_option maxRecDepth 20000 in
theorem ggX5_init_X2_init : GoodIn wsX5_init wsX2_init := goodIn_r _ [40, 41, 2, 3, 42, 107] (by decide +kernel) (by decide +kernel)
set_option maxRecDepth 20000 in
theorem gX5_init_X2_init_n50 : GoodIn wsX5_init (wsX2_init) := ggX5_init_X2_init
set_option maxRecDepth 20000 in
theorem ggX5_init_X3_init : GoodIn wsX5_init wsX3_init := goodIn_r _ [45, 46, 2, 3, 47, 48, 49, 50, 51, 52, 53, 54, 55, 56, 57, 58, 32, 59, 60, 61, 62, 63, 64, 65, 66, 67, 108, 109, 110, 124, 125, 126, 127, 128, 117, 118, 119, 120, 121, 122, 123] (by decide +kernel) (by decide +kernel)
set_option maxRecDepth 20000 in
theorem gX5_init_X3_init : GoodIn wsX5_init (wsX3_init) := ggX5_init_X3_init
set_option maxRecDepth 20000 in
theorem ggX5_init_X7_init : GoodIn wsX5_init wsX7_init := goodIn_r _ [70, 71, 2, 3, 72, 73, 50, 51, 74, 75, 54, 55, 56, 57, 58, 32, 59, 60, 61, 62, 63, 64, 65, 66, 67, 111, 112, 124, 125, 126, 127, 128, 117, 118, 119, 120, 121, 122, 123] (by decide +kernel) (by decide +kernel)
set_option maxRecDepth 20000 in
theorem gX5_init_X7_init : GoodIn wsX5_init (wsX7_init) := ggX5_init_X7_init
set_option maxRecDepth 20000 in
theorem ggX5_init_X8_init : GoodIn wsX5_init wsX8_init := goodIn_r _ [78, 79, 2, 3, 80, 81, 82, 50, 51, 83, 84, 32, 85, 86, 54, 55, 56, 57, 58, 59, 60, 61, 62, 63, 64, 65, 66, 67, 113, 114, 115, 116, 124, 125, 126, 127, 128, 117, 118, 119, 120, 121, 122, 123] (by decide +kernel) (by decide +kernel)
set_option maxRecDepth 20000 in
theorem gX5_init_X8_init : GoodIn wsX5_init (wsX8_init) := ggX5_init_X8_init
theorem dX5_init_0 : decode cX5_init 0 = .ok (.aload_n 0, 1) := by decide +kernel
theorem dX5_init_1 : decode cX5_init 1 = .ok (.invokespecial 1, 3) := by decide +kernel
theorem dX5_init_4 : decode cX5_init 4 = .ok (.aload_n 0, 1) := by decide +kernel
theorem dX5_init_5 : decode cX5_init 5 = .ok (.iconst 0, 1) := by decide +kernel
theorem dX5_init_6 : decode cX5_init 6 = .ok (.putfield 7, 3) := by decide +kernel
theorem dX5_init_9 : decode cX5_init 9 = .ok (.aload_n 0, 1) := by decide +kernel
theorem dX5_init_10 : decode cX5_init 10 = .ok (.iconst 0, 1) := by decide +kernel
theorem dX5_init_11 : decode cX5_init 11 = .ok (.putfield 13, 3) := by decide +kernel
theorem dX5_init_14 : decode cX5_init 14 = .ok (.aload_n 0, 1) := by decide +kernel
theorem dX5_init_15 : decode cX5_init 15 = .ok (.iconst 0, 1) := by decide +kernel
theorem dX5_init_16 : decode cX5_init 16 = .ok (.putfield 17, 3) := by decide +kernel
theorem dX5_init_19 : decode cX5_init 19 = .ok (.aload_n 0, 1) := by decide +kernel
theorem dX5_init_20 : decode cX5_init 20 = .ok (.iconst 0, 1) := by decide +kernel
theorem dX5_init_21 : decode cX5_init 21 = .ok (.putfield 20, 3) := by decide +kernel
theorem dX5_init_24 : decode cX5_init 24 = .ok (.aload_n 0, 1) := by decide +kernel
theorem dX5_init_25 : decode cX5_init 25 = .ok (.iconst 0, 1) := by decide +kernel
theorem dX5_init_26 : decode cX5_init 26 = .ok (.putfield 23, 3) := by decide +kernel
theorem dX5_init_29 : decode cX5_init 29 = .ok (.aload_n 0, 1) := by decide +kernel
theorem dX5_init_30 : decode cX5_init 30 = .ok (.iconst 0, 1) := by decide +kernel
theorem dX5_init_31 : decode cX5_init 31 = .ok (.putfield 26, 3) := by decide +kernel
theorem dX5_init_34 : decode cX5_init 34 = .ok (.aload_n 0, 1) := by decide +kernel
theorem dX5_init_35 : decode cX5_init 35 = .ok (.iconst 0, 1) := by decide +kernel
theorem dX5_init_36 : decode cX5_init 36 = .ok (.putfield 29, 3) := by decide +kernel
theorem dX5_init_39 : decode cX5_init 39 = .ok (.aload_n 0, 1) := by decide +kernel
theorem dX5_init_40 : decode cX5_init 40 = .ok (.aload_n 1, 1) := by decide +kernel
theorem dX5_init_41 : decode cX5_init 41 = .ok (.putfield 32, 3) := by decide +kernel
theorem dX5_init_44 : decode cX5_init 44 = .ok (.aload_n 0, 1) := by decide +kernel
theorem dX5_init_45 : decode cX5_init 45 = .ok (.aload_n 2, 1) := by decide +kernel
theorem dX5_init_46 : decode cX5_init 46 = .ok (.putfield 36, 3) := by decide +kernel
theorem dX5_init_49 : decode cX5_init 49 = .ok (.aload_n 0, 1) := by decide +kernel
theorem dX5_init_50 : decode cX5_init 50 = .ok (.aload_n 3, 1) := by decide +kernel
theorem dX5_init_51 : decode cX5_init 51 = .ok (.putfield 40, 3) := by decide +kernel
theorem dX5_init_54 : decode cX5_init 54 = .ok (.aload_n 0, 1) := by decide +kernel
theorem dX5_init_55 : decode cX5_init 55 = .ok (.aload 4, 2) := by decide +kernel
theorem dX5_init_57 : decode cX5_init 57 = .ok (.putfield 44, 3) := by decide +kernel
theorem dX5_init_60 : decode cX5_init 60 = .ok (.aload_n 0, 1) := by decide +kernel
theorem dX5_init_61 : decode cX5_init 61 = .ok (.new 48, 3) := by decide +kernel
theorem dX5_init_64 : decode cX5_init 64 = .ok (.dup, 1) := by decide +kernel
theorem dX5_init_65 : decode cX5_init 65 = .ok (.invokespecial 50, 3) := by decide +kernel
theorem dX5_init_68 : decode cX5_init 68 = .ok (.putfield 51, 3) := by decide +kernel
theorem dX5_init_71 : decode cX5_init 71 = .ok (.aload_n 0, 1) := by decide +kernel
theorem dX5_init_72 : decode cX5_init 72 = .ok (.new 55, 3) := by decide +kernel
theorem dX5_init_75 : decode cX5_init 75 = .ok (.dup, 1) := by decide +kernel
theorem dX5_init_76 : decode cX5_init 76 = .ok (.aload_n 1, 1) := by decide +kernel
theorem dX5_init_77 : decode cX5_init 77 = .ok (.aload_n 0, 1) := by decide +kernel
theorem dX5_init_78 : decode cX5_init 78 = .ok (.getfield 51, 3) := by decide +kernel
theorem dX5_init_81 : decode cX5_init 81 = .ok (.invokespecial 57, 3) := by decide +kernel
theorem dX5_init_84 : decode cX5_init 84 = .ok (.putfield 60, 3) := by decide +kernel
theorem dX5_init_87 : decode cX5_init 87 = .ok (.aload_n 0, 1) := by decide +kernel
theorem dX5_init_88 : decode cX5_init 88 = .ok (.new 64, 3) := by decide +kernel
theorem dX5_init_91 : decode cX5_init 91 = .ok (.dup, 1) := by decide +kernel
theorem dX5_init_92 : decode cX5_init 92 = .ok (.aload_n 1, 1) := by decide +kernel
theorem dX5_init_93 : decode cX5_init 93 = .ok (.invokespecial 66, 3) := by decide +kernel
theorem dX5_init_96 : decode cX5_init 96 = .ok (.putfield 69, 3) := by decide +kernel
theorem dX5_init_99 : decode cX5_init 99 = .ok (.aload_n 0, 1) := by decide +kernel
theorem dX5_init_100 : decode cX5_init 100 = .ok (.new 73, 3) := by decide +kernel
theorem dX5_init_103 : decode cX5_init 103 = .ok (.dup, 1) := by decide +kernel
theorem dX5_init_104 : decode cX5_init 104 = .ok (.aload_n 1, 1) := by decide +kernel
theorem dX5_init_105 : decode cX5_init 105 = .ok (.invokespecial 75, 3) := by decide +kernel
theorem dX5_init_108 : decode cX5_init 108 = .ok (.putfield 76, 3) := by decide +kernel
theorem dX5_init_111 : decode cX5_init 111 = .ok (.aload_n 0, 1) := by decide +kernel
theorem dX5_init_112 : decode cX5_init 112 = .ok (.aload_n 1, 1) := by decide +kernel
theorem dX5_init_113 : decode cX5_init 113 = .ok (.getfield 80, 3) := by decide +kernel
theorem dX5_init_116 : decode cX5_init 116 = .ok (.newarray .int, 2) := by decide +kernel
theorem dX5_init_118 : decode cX5_init 118 = .ok (.putfield 85, 3) := by decide +kernel
theorem dX5_init_121 : decode cX5_init 121 = .ok (.aload_n 0, 1) := by decide +kernel
theorem dX5_init_122 : decode cX5_init 122 = .ok (.aload_n 1, 1) := by decide +kernel
theorem dX5_init_123 : decode cX5_init 123 = .ok (.getfield 80, 3) := by decide +kernel
theorem dX5_init_126 : decode cX5_init 126 = .ok (.newarray .int, 2) := by decide +kernel
theorem dX5_init_128 : decode cX5_init 128 = .ok (.putfield 88, 3) := by decide +kernel
theorem dX5_init_131 : decode cX5_init 131 = .ok (.aload_n 0, 1) := by decide +kernel
theorem dX5_init_132 : decode cX5_init 132 = .ok (.aload_n 1, 1) := by decide +kernel
theorem dX5_init_133 : decode cX5_init 133 = .ok (.getfield 80, 3) := by decide +kernel
theorem dX5_init_136 : decode cX5_init 136 = .ok (.newarray .boolean, 2) := by decide +kernel
theorem dX5_init_138 : decode cX5_init 138 = .ok (.putfield 91, 3) := by decide +kernel
theorem dX5_init_141 : decode cX5_init 141 = .ok (.aload_n 0, 1) := by decide +kernel
theorem dX5_init_142 : decode cX5_init 142 = .ok (.aload_n 1, 1) := by decide +kernel
theorem dX5_init_143 : decode cX5_init 143 = .ok (.getfield 80, 3) := by decide +kernel
theorem dX5_init_146 : decode cX5_init 146 = .ok (.newarray .int, 2) := by decide +kernel
theorem dX5_init_148 : decode cX5_init 148 = .ok (.putfield 95, 3) := by decide +kernel
theorem dX5_init_151 : decode cX5_init 151 = .ok (.aload_n 0, 1) := by decide +kernel
theorem dX5_init_152 : decode cX5_init 152 = .ok (.aload_n 1, 1) := by decide +kernel
theorem dX5_init_153 : decode cX5_init 153 = .ok (.getfield 80, 3) := by decide +kernel
theorem dX5_init_156 : decode cX5_init 156 = .ok (.newarray .int, 2) := by decide +kernel
theorem dX5_init_158 : decode cX5_init 158 = .ok (.putfield 98, 3) := by decide +kernel
theorem dX5_init_161 : decode cX5_init 161 = .ok (.return_, 1) := by decide +kernel
set_option maxRecDepth 20000 in
theorem ggX5_startAt_X2_startAt : GoodIn wsX5_startAt wsX2_startAt := goodIn_r _ [11, 12, 33] (by decide +kernel) (by decide +kernel)
set_option maxRecDepth 20000 in
theorem gX5_startAt_X2_startAt : GoodIn wsX5_startAt (wsV RX5 101 RX2 yX2_startAt wsX2_startAt) := goodIn_app (goodIn_of _ (by decide +kernel)) ggX5_startAt_X2_startAt
theorem dX5_startAt_0 : decode cX5_startAt 0 = .ok (.aload_n 0, 1) := by decide +kernel
theorem dX5_startAt_1 : decode cX5_startAt 1 = .ok (.iconst 0, 1) := by decide +kernel
theorem dX5_startAt_2 : decode cX5_startAt 2 = .ok (.putfield 7, 3) := by decide +kernel
theorem dX5_startAt_5 : decode cX5_startAt 5 = .ok (.aload_n 0, 1) := by decide +kernel
theorem dX5_startAt_6 : decode cX5_startAt 6 = .ok (.iconst 0, 1) := by decide +kernel
theorem dX5_startAt_7 : decode cX5_startAt 7 = .ok (.putfield 13, 3) := by decide +kernel
theorem dX5_startAt_10 : decode cX5_startAt 10 = .ok (.aload_n 0, 1) := by decide +kernel
theorem dX5_startAt_11 : decode cX5_startAt 11 = .ok (.iconst 0, 1) := by decide +kernel
theorem dX5_startAt_12 : decode cX5_startAt 12 = .ok (.putfield 17, 3) := by decide +kernel
theorem dX5_startAt_15 : decode cX5_startAt 15 = .ok (.aload_n 0, 1) := by decide +kernel
theorem dX5_startAt_16 : decode cX5_startAt 16 = .ok (.iconst 0, 1) := by decide +kernel
theorem dX5_startAt_17 : decode cX5_startAt 17 = .ok (.putfield 20, 3) := by decide +kernel
theorem dX5_startAt_20 : decode cX5_startAt 20 = .ok (.aload_n 0, 1) := by decide +kernel
theorem dX5_startAt_21 : decode cX5_startAt 21 = .ok (.iconst 0, 1) := by decide +kernel
theorem dX5_startAt_22 : decode cX5_startAt 22 = .ok (.putfield 23, 3) := by decide +kernel
theorem dX5_startAt_25 : decode cX5_startAt 25 = .ok (.aload_n 0, 1) := by decide +kernel
theorem dX5_startAt_26 : decode cX5_startAt 26 = .ok (.getfield 51, 3) := by decide +kernel
theorem dX5_startAt_29 : decode cX5_startAt 29 = .ok (.lload_n 1, 1) := by decide +kernel
theorem dX5_startAt_30 : decode cX5_startAt 30 = .ok (.invokevirtual 101, 3) := by decide +kernel
theorem dX5_startAt_33 : decode cX5_startAt 33 = .ok (.return_, 1) := by decide +kernel
set_option maxRecDepth 20000 in
theorem ggX5_tryOnce_X5_drawWhole : GoodIn wsX5_tryOnce wsX5_drawWhole := goodIn_r _ [20, 21, 22, 23, 24, 25, 7, 8, 9, 10, 6, 26, 27, 28, 29, 30, 31, 32, 33, 34, 35, 36, 37, 38, 39, 40, 41, 42, 43, 44, 45, 46, 47, 48, 49, 50, 51, 52, 53, 54, 55, 56, 57, 58, 59, 60, 61, 62, 63, 64, 65, 66, 67, 68, 69, 70, 71, 72, 73, 74, 75, 76, 77, 78, 79, 80, 81, 82, 83, 84, 85, 86, 87, 88, 89, 90, 91, 92, 93, 94, 95, 96, 97, 204, 205, 206, 207, 208, 209, 210, 211, 212, 213, 214, 215, 216, 217, 218, 219, 220, 221, 222, 223, 224, 225, 226, 227, 228, 229, 230, 231, 232, 233, 234, 235, 236, 237, 238, 239] (by decide +kernel) (by decide +kernel)
set_option maxRecDepth 20000 in
theorem gX5_tryOnce_X5_drawWhole : GoodIn wsX5_tryOnce (wsV RX5 105 RX5 yX5_drawWhole wsX5_drawWhole) := goodIn_app (goodIn_of _ (by decide +kernel)) ggX5_tryOnce_X5_drawWhole
set_option maxRecDepth 20000 in
theorem ggX5_tryOnce_X5_takeOutEmptySets : GoodIn wsX5_tryOnce wsX5_takeOutEmptySets := goodIn_r _ [101, 102, 103, 104, 105, 106, 107, 6, 108, 109, 110, 111, 19, 112, 113, 114, 115, 116, 117, 118, 119, 120, 121, 122, 123, 124, 38, 125, 40, 41, 126, 36, 37, 39, 42, 43, 44, 45, 46, 127, 91, 92, 93, 94, 95, 96, 97, 61, 62, 63, 128, 53, 54, 55, 129, 130, 131, 132, 133, 134, 135, 136, 137, 138, 139, 140, 57, 58, 59, 60, 141, 65, 66, 67, 68, 69, 70, 142, 143, 144, 145, 146, 204, 205, 206, 207, 208, 209, 210, 211, 212, 213, 214, 215, 216, 217, 218, 219, 220, 221, 222, 223, 232, 233, 234, 235, 236, 237, 238, 240, 241, 242, 243, 244, 245, 227, 228, 229, 230, 231] (by decide +kernel) (by decide +kernel)
set_option maxRecDepth 20000 in
theorem gX5_tryOnce_X5_takeOutEmptySets : GoodIn wsX5_tryOnce (wsV RX5 109 RX5 yX5_takeOutEmptySets wsX5_takeOutEmptySets) := goodIn_app (goodIn_of _ (by decide +kernel)) ggX5_tryOnce_X5_takeOutEmptySets
set_option maxRecDepth 20000 in
theorem ggX5_tryOnce_X5_layRow : GoodIn wsX5_tryOnce wsX5_layRow := goodIn_r _ [150, 102, 103, 105, 106, 6, 104, 3, 109, 110, 111, 19, 112, 107, 204, 205, 206, 207, 208, 209, 210, 211, 212, 213, 214, 215, 216, 217, 218, 219, 220, 221, 222, 223, 232, 233, 234, 235, 236, 237, 238, 240, 241] (by decide +kernel) (by decide +kernel)
set_option maxRecDepth 20000 in
theorem gX5_tryOnce_X5_layRow : GoodIn wsX5_tryOnce (wsV RX5 112 RX5 yX5_layRow wsX5_layRow) := goodIn_app (goodIn_of _ (by decide +kernel)) ggX5_tryOnce_X5_layRow
set_option maxRecDepth 20000 in
theorem ggX5_tryOnce_X5_mixRow : GoodIn wsX5_tryOnce wsX5_mixRow := goodIn_r _ [154, 155, 3, 156, 72, 73, 74, 75, 76, 77, 78, 79, 80, 81, 82, 204, 205, 206, 207, 208, 209, 210, 211, 212, 213, 214, 215, 216, 217, 218, 219, 220, 221, 222, 223, 239] (by decide +kernel) (by decide +kernel)
set_option maxRecDepth 20000 in
theorem gX5_tryOnce_X5_mixRow : GoodIn wsX5_tryOnce (wsV RX5 116 RX5 yX5_mixRow wsX5_mixRow) := goodIn_app (goodIn_of _ (by decide +kernel)) ggX5_tryOnce_X5_mixRow
set_option maxRecDepth 20000 in
theorem ggX5_tryOnce_X5_needsSet : GoodIn wsX5_tryOnce wsX5_needsSet := goodIn_r _ [160, 102, 103, 105, 106, 6, 5, 108, 113, 114, 115, 116, 117, 118, 119, 120, 121, 122, 123, 124, 38, 125, 40, 41, 126, 36, 37, 39, 42, 43, 44, 45, 46, 127, 91, 92, 93, 94, 95, 96, 97, 61, 62, 63, 128, 53, 54, 55, 129, 130, 131, 132, 133, 134, 135, 136, 137, 138, 139, 140, 57, 58, 59, 60, 141, 65, 66, 67, 68, 69, 70, 142, 143, 144, 145, 146, 204, 205, 206, 207, 208, 209, 210, 211, 212, 213, 214, 215, 216, 217, 218, 219, 220, 221, 222, 223, 232, 233, 234, 235, 236, 237, 238, 240, 241, 242, 243, 244, 245, 227, 228, 229, 230, 231] (by decide +kernel) (by decide +kernel)
set_option maxRecDepth 20000 in
theorem gX5_tryOnce_X5_needsSet : GoodIn wsX5_tryOnce (wsV RX5 120 RX5 yX5_needsSet wsX5_needsSet) := goodIn_app (goodIn_of _ (by decide +kernel)) ggX5_tryOnce_X5_needsSet
set_option maxRecDepth 20000 in
theorem ggX5_tryOnce_X5_countGivens : GoodIn wsX5_tryOnce wsX5_countGivens := goodIn_r _ [164, 102, 103, 6, 204, 205, 206, 207, 208, 209, 210, 211, 212, 213, 214, 215, 216, 217, 218, 219, 220, 221, 222, 223, 232, 233, 234, 235, 236, 237, 238] (by decide +kernel) (by decide +kernel)
set_option maxRecDepth 20000 in
theorem gX5_tryOnce_X5_countGivens : GoodIn wsX5_tryOnce (wsV RX5 130 RX5 yX5_countGivens wsX5_countGivens) := goodIn_app (goodIn_of _ (by decide +kernel)) ggX5_tryOnce_X5_countGivens
set_option maxRecDepth 20000 in
theorem ggX5_tryOnce_X7_countUnknown : GoodIn wsX5_tryOnce wsX7_countUnknown := goodIn_r _ [169, 170, 171, 172, 173, 123, 124, 38, 125, 40, 41, 126, 36, 37, 39, 42, 43, 44, 45, 46, 127, 91, 92, 93, 94, 95, 96, 97, 61, 62, 63, 174, 175, 176, 168, 177, 178, 53, 54, 55, 179, 57, 58, 59, 60, 180, 65, 66, 67, 68, 69, 70, 181, 87, 88, 89, 182, 183, 184, 185, 186, 187, 188, 189, 190, 191, 192, 193, 194, 195, 246, 247, 232, 233, 234, 235, 236, 237, 238, 227, 228, 229, 230, 231] (by decide +kernel) (by decide +kernel)
set_option maxRecDepth 20000 in
theorem gX5_tryOnce_X7_countUnknown : GoodIn wsX5_tryOnce (wsV RX5 133 RX7 yX7_countUnknown wsX7_countUnknown) := goodIn_app (goodIn_of _ (by decide +kernel)) ggX5_tryOnce_X7_countUnknown
set_option maxRecDepth 20000 in
theorem ggX5_tryOnce_X0_isMet : GoodIn wsX5_tryOnce wsX0_isMet := goodIn_r _ [200, 201, 202, 203, 248, 249, 250] (by decide +kernel) (by decide +kernel)
set_option maxRecDepth 20000 in
theorem gX5_tryOnce_X0_isMet : GoodIn wsX5_tryOnce (wsV RX5 137 RX0 yX0_isMet wsX0_isMet) := goodIn_app (goodIn_of _ (by decide +kernel)) ggX5_tryOnce_X0_isMet
theorem dX5_tryOnce_0 : decode cX5_tryOnce 0 = .ok (.aload_n 0, 1) := by decide +kernel
theorem dX5_tryOnce_1 : decode cX5_tryOnce 1 = .ok (.dup, 1) := by decide +kernel
theorem dX5_tryOnce_2 : decode cX5_tryOnce 2 = .ok (.getfield 13, 3) := by decide +kernel
theorem dX5_tryOnce_5 : decode cX5_tryOnce 5 = .ok (.iconst 1, 1) := by decide +kernel
theorem dX5_tryOnce_6 : decode cX5_tryOnce 6 = .ok (.iadd, 1) := by decide +kernel
theorem dX5_tryOnce_7 : decode cX5_tryOnce 7 = .ok (.putfield 13, 3) := by decide +kernel
theorem dX5_tryOnce_10 : decode cX5_tryOnce 10 = .ok (.aload_n 0, 1) := by decide +kernel
theorem dX5_tryOnce_11 : decode cX5_tryOnce 11 = .ok (.invokevirtual 105, 3) := by decide +kernel
theorem dX5_tryOnce_14 : decode cX5_tryOnce 14 = .ok (.ifCond .eq 10, 3) := by decide +kernel
theorem dX5_tryOnce_17 : decode cX5_tryOnce 17 = .ok (.aload_n 0, 1) := by decide +kernel
theorem dX5_tryOnce_18 : decode cX5_tryOnce 18 = .ok (.invokevirtual 109, 3) := by decide +kernel
theorem dX5_tryOnce_21 : decode cX5_tryOnce 21 = .ok (.ifCond .ne 5, 3) := by decide +kernel
theorem dX5_tryOnce_24 : decode cX5_tryOnce 24 = .ok (.iconst 0, 1) := by decide +kernel
theorem dX5_tryOnce_25 : decode cX5_tryOnce 25 = .ok (.ireturn, 1) := by decide +kernel
theorem dX5_tryOnce_26 : decode cX5_tryOnce 26 = .ok (.aload_n 0, 1) := by decide +kernel
theorem dX5_tryOnce_27 : decode cX5_tryOnce 27 = .ok (.invokevirtual 112, 3) := by decide +kernel
theorem dX5_tryOnce_30 : decode cX5_tryOnce 30 = .ok (.istore_n 1, 1) := by decide +kernel
theorem dX5_tryOnce_31 : decode cX5_tryOnce 31 = .ok (.aload_n 0, 1) := by decide +kernel
theorem dX5_tryOnce_32 : decode cX5_tryOnce 32 = .ok (.iload_n 1, 1) := by decide +kernel
theorem dX5_tryOnce_33 : decode cX5_tryOnce 33 = .ok (.invokevirtual 116, 3) := by decide +kernel
theorem dX5_tryOnce_36 : decode cX5_tryOnce 36 = .ok (.iconst 0, 1) := by decide +kernel
theorem dX5_tryOnce_37 : decode cX5_tryOnce 37 = .ok (.istore_n 2, 1) := by decide +kernel
theorem dX5_tryOnce_38 : decode cX5_tryOnce 38 = .ok (.iload_n 2, 1) := by decide +kernel
theorem dX5_tryOnce_39 : decode cX5_tryOnce 39 = .ok (.iload_n 1, 1) := by decide +kernel
theorem dX5_tryOnce_40 : decode cX5_tryOnce 40 = .ok (.if_icmp .ge 63, 3) := by decide +kernel
theorem dX5_tryOnce_43 : decode cX5_tryOnce 43 = .ok (.aload_n 0, 1) := by decide +kernel
theorem dX5_tryOnce_44 : decode cX5_tryOnce 44 = .ok (.dup, 1) := by decide +kernel
theorem dX5_tryOnce_45 : decode cX5_tryOnce 45 = .ok (.getfield 20, 3) := by decide +kernel
theorem dX5_tryOnce_48 : decode cX5_tryOnce 48 = .ok (.iconst 1, 1) := by decide +kernel
theorem dX5_tryOnce_49 : decode cX5_tryOnce 49 = .ok (.iadd, 1) := by decide +kernel
theorem dX5_tryOnce_50 : decode cX5_tryOnce 50 = .ok (.putfield 20, 3) := by decide +kernel
theorem dX5_tryOnce_53 : decode cX5_tryOnce 53 = .ok (.aload_n 0, 1) := by decide +kernel
theorem dX5_tryOnce_54 : decode cX5_tryOnce 54 = .ok (.aload_n 0, 1) := by decide +kernel
theorem dX5_tryOnce_55 : decode cX5_tryOnce 55 = .ok (.getfield 95, 3) := by decide +kernel
theorem dX5_tryOnce_58 : decode cX5_tryOnce 58 = .ok (.iload_n 2, 1) := by decide +kernel
theorem dX5_tryOnce_59 : decode cX5_tryOnce 59 = .ok (.iaload, 1) := by decide +kernel
theorem dX5_tryOnce_60 : decode cX5_tryOnce 60 = .ok (.invokevirtual 120, 3) := by decide +kernel
theorem dX5_tryOnce_63 : decode cX5_tryOnce 63 = .ok (.ifCond .eq 16, 3) := by decide +kernel
theorem dX5_tryOnce_66 : decode cX5_tryOnce 66 = .ok (.aload_n 0, 1) := by decide +kernel
theorem dX5_tryOnce_67 : decode cX5_tryOnce 67 = .ok (.dup, 1) := by decide +kernel
theorem dX5_tryOnce_68 : decode cX5_tryOnce 68 = .ok (.getfield 23, 3) := by decide +kernel
theorem dX5_tryOnce_71 : decode cX5_tryOnce 71 = .ok (.iconst 1, 1) := by decide +kernel
theorem dX5_tryOnce_72 : decode cX5_tryOnce 72 = .ok (.iadd, 1) := by decide +kernel
theorem dX5_tryOnce_73 : decode cX5_tryOnce 73 = .ok (.putfield 23, 3) := by decide +kernel
theorem dX5_tryOnce_76 : decode cX5_tryOnce 76 = .ok (.goto 21, 3) := by decide +kernel
theorem dX5_tryOnce_79 : decode cX5_tryOnce 79 = .ok (.aload_n 0, 1) := by decide +kernel
theorem dX5_tryOnce_80 : decode cX5_tryOnce 80 = .ok (.getfield 98, 3) := by decide +kernel
theorem dX5_tryOnce_83 : decode cX5_tryOnce 83 = .ok (.iconst 0, 1) := by decide +kernel
theorem dX5_tryOnce_84 : decode cX5_tryOnce 84 = .ok (.aload_n 0, 1) := by decide +kernel
theorem dX5_tryOnce_85 : decode cX5_tryOnce 85 = .ok (.getfield 88, 3) := by decide +kernel
theorem dX5_tryOnce_88 : decode cX5_tryOnce 88 = .ok (.iconst 0, 1) := by decide +kernel
theorem dX5_tryOnce_89 : decode cX5_tryOnce 89 = .ok (.aload_n 0, 1) := by decide +kernel
theorem dX5_tryOnce_90 : decode cX5_tryOnce 90 = .ok (.getfield 88, 3) := by decide +kernel
theorem dX5_tryOnce_93 : decode cX5_tryOnce 93 = .ok (.arraylength, 1) := by decide +kernel
theorem dX5_tryOnce_94 : decode cX5_tryOnce 94 = .ok (.invokestatic 124, 3) := by decide +kernel
theorem dX5_tryOnce_97 : decode cX5_tryOnce 97 = .ok (.iinc 2 1, 3) := by decide +kernel
theorem dX5_tryOnce_100 : decode cX5_tryOnce 100 = .ok (.goto (-62), 3) := by decide +kernel
theorem dX5_tryOnce_103 : decode cX5_tryOnce 103 = .ok (.aload_n 0, 1) := by decide +kernel
theorem dX5_tryOnce_104 : decode cX5_tryOnce 104 = .ok (.aload_n 0, 1) := by decide +kernel
theorem dX5_tryOnce_105 : decode cX5_tryOnce 105 = .ok (.invokevirtual 130, 3) := by decide +kernel
theorem dX5_tryOnce_108 : decode cX5_tryOnce 108 = .ok (.putfield 26, 3) := by decide +kernel
theorem dX5_tryOnce_111 : decode cX5_tryOnce 111 = .ok (.aload_n 0, 1) := by decide +kernel
theorem dX5_tryOnce_112 : decode cX5_tryOnce 112 = .ok (.aload_n 0, 1) := by decide +kernel
theorem dX5_tryOnce_113 : decode cX5_tryOnce 113 = .ok (.getfield 69, 3) := by decide +kernel
theorem dX5_tryOnce_116 : decode cX5_tryOnce 116 = .ok (.aload_n 0, 1) := by decide +kernel
theorem dX5_tryOnce_117 : decode cX5_tryOnce 117 = .ok (.getfield 88, 3) := by decide +kernel
theorem dX5_tryOnce_120 : decode cX5_tryOnce 120 = .ok (.invokevirtual 133, 3) := by decide +kernel
theorem dX5_tryOnce_123 : decode cX5_tryOnce 123 = .ok (.putfield 29, 3) := by decide +kernel
theorem dX5_tryOnce_126 : decode cX5_tryOnce 126 = .ok (.aload_n 0, 1) := by decide +kernel
theorem dX5_tryOnce_127 : decode cX5_tryOnce 127 = .ok (.aload_n 0, 1) := by decide +kernel
theorem dX5_tryOnce_128 : decode cX5_tryOnce 128 = .ok (.getfield 44, 3) := by decide +kernel
theorem dX5_tryOnce_131 : decode cX5_tryOnce 131 = .ok (.aload_n 0, 1) := by decide +kernel
theorem dX5_tryOnce_132 : decode cX5_tryOnce 132 = .ok (.getfield 26, 3) := by decide +kernel
theorem dX5_tryOnce_135 : decode cX5_tryOnce 135 = .ok (.aload_n 0, 1) := by decide +kernel
theorem dX5_tryOnce_136 : decode cX5_tryOnce 136 = .ok (.getfield 29, 3) := by decide +kernel
theorem dX5_tryOnce_139 : decode cX5_tryOnce 139 = .ok (.ifCond .ne 7, 3) := by decide +kernel
theorem dX5_tryOnce_142 : decode cX5_tryOnce 142 = .ok (.iconst 1, 1) := by decide +kernel
theorem dX5_tryOnce_143 : decode cX5_tryOnce 143 = .ok (.goto 4, 3) := by decide +kernel
theorem dX5_tryOnce_146 : decode cX5_tryOnce 146 = .ok (.iconst 0, 1) := by decide +kernel
theorem dX5_tryOnce_147 : decode cX5_tryOnce 147 = .ok (.invokevirtual 137, 3) := by decide +kernel
theorem dX5_tryOnce_150 : decode cX5_tryOnce 150 = .ok (.putfield 7, 3) := by decide +kernel
theorem dX5_tryOnce_153 : decode cX5_tryOnce 153 = .ok (.aload_n 0, 1) := by decide +kernel
theorem dX5_tryOnce_154 : decode cX5_tryOnce 154 = .ok (.getfield 7, 3) := by decide +kernel
theorem dX5_tryOnce_157 : decode cX5_tryOnce 157 = .ok (.ireturn, 1) := by decide +kernel
set_option maxRecDepth 20000 in
theorem ggX5_drawWhole_X3_fill : GoodIn wsX5_drawWhole wsX3_fill := goodIn_r _ [15, 16, 17, 18, 19, 20, 21, 22, 23, 24, 25, 26, 27, 28, 29, 30, 31, 32, 33, 34, 14, 35, 36, 37, 38, 39, 40, 41, 42, 43, 44, 45, 46, 47, 48, 49, 50, 51, 52, 53, 54, 55, 56, 57, 58, 59, 60, 61, 62, 63, 64, 65, 66, 67, 68, 69, 70, 71, 72, 73, 74, 75, 76, 77, 78, 79, 80, 81, 82, 103, 104, 105, 111, 112, 113, 114, 115, 116, 117, 106, 107, 108, 109, 110, 118] (by decide +kernel) (by decide +kernel)
set_option maxRecDepth 20000 in
theorem gX5_drawWhole_X3_fill : GoodIn wsX5_drawWhole (wsV RX5 143 RX3 yX3_fill wsX3_fill) := goodIn_app (goodIn_of _ (by decide +kernel)) ggX5_drawWhole_X3_fill
theorem dX5_drawWhole_0 : decode cX5_drawWhole 0 = .ok (.iconst 0, 1) := by decide +kernel
theorem dX5_drawWhole_1 : decode cX5_drawWhole 1 = .ok (.istore_n 1, 1) := by decide +kernel
theorem dX5_drawWhole_2 : decode cX5_drawWhole 2 = .ok (.iconst 0, 1) := by decide +kernel
theorem dX5_drawWhole_3 : decode cX5_drawWhole 3 = .ok (.istore_n 2, 1) := by decide +kernel
theorem dX5_drawWhole_4 : decode cX5_drawWhole 4 = .ok (.iload_n 2, 1) := by decide +kernel
theorem dX5_drawWhole_5 : decode cX5_drawWhole 5 = .ok (.sipush 200, 3) := by decide +kernel
theorem dX5_drawWhole_8 : decode cX5_drawWhole 8 = .ok (.if_icmp .ge 35, 3) := by decide +kernel
theorem dX5_drawWhole_11 : decode cX5_drawWhole 11 = .ok (.iload_n 1, 1) := by decide +kernel
theorem dX5_drawWhole_12 : decode cX5_drawWhole 12 = .ok (.ifCond .ne 31, 3) := by decide +kernel
theorem dX5_drawWhole_15 : decode cX5_drawWhole 15 = .ok (.aload_n 0, 1) := by decide +kernel
theorem dX5_drawWhole_16 : decode cX5_drawWhole 16 = .ok (.getfield 60, 3) := by decide +kernel
theorem dX5_drawWhole_19 : decode cX5_drawWhole 19 = .ok (.invokevirtual 143, 3) := by decide +kernel
theorem dX5_drawWhole_22 : decode cX5_drawWhole 22 = .ok (.istore_n 1, 1) := by decide +kernel
theorem dX5_drawWhole_23 : decode cX5_drawWhole 23 = .ok (.iload_n 1, 1) := by decide +kernel
theorem dX5_drawWhole_24 : decode cX5_drawWhole 24 = .ok (.ifCond .ne 13, 3) := by decide +kernel
theorem dX5_drawWhole_27 : decode cX5_drawWhole 27 = .ok (.aload_n 0, 1) := by decide +kernel
theorem dX5_drawWhole_28 : decode cX5_drawWhole 28 = .ok (.dup, 1) := by decide +kernel
theorem dX5_drawWhole_29 : decode cX5_drawWhole 29 = .ok (.getfield 17, 3) := by decide +kernel
theorem dX5_drawWhole_32 : decode cX5_drawWhole 32 = .ok (.iconst 1, 1) := by decide +kernel
theorem dX5_drawWhole_33 : decode cX5_drawWhole 33 = .ok (.iadd, 1) := by decide +kernel
theorem dX5_drawWhole_34 : decode cX5_drawWhole 34 = .ok (.putfield 17, 3) := by decide +kernel
theorem dX5_drawWhole_37 : decode cX5_drawWhole 37 = .ok (.iinc 2 1, 3) := by decide +kernel
theorem dX5_drawWhole_40 : decode cX5_drawWhole 40 = .ok (.goto (-36), 3) := by decide +kernel
theorem dX5_drawWhole_43 : decode cX5_drawWhole 43 = .ok (.iload_n 1, 1) := by decide +kernel
theorem dX5_drawWhole_44 : decode cX5_drawWhole 44 = .ok (.ifCond .eq 45, 3) := by decide +kernel
theorem dX5_drawWhole_47 : decode cX5_drawWhole 47 = .ok (.aload_n 0, 1) := by decide +kernel
theorem dX5_drawWhole_48 : decode cX5_drawWhole 48 = .ok (.getfield 60, 3) := by decide +kernel
theorem dX5_drawWhole_51 : decode cX5_drawWhole 51 = .ok (.getfield 146, 3) := by decide +kernel
theorem dX5_drawWhole_54 : decode cX5_drawWhole 54 = .ok (.getfield 150, 3) := by decide +kernel
theorem dX5_drawWhole_57 : decode cX5_drawWhole 57 = .ok (.iconst 0, 1) := by decide +kernel
theorem dX5_drawWhole_58 : decode cX5_drawWhole 58 = .ok (.aload_n 0, 1) := by decide +kernel
theorem dX5_drawWhole_59 : decode cX5_drawWhole 59 = .ok (.getfield 85, 3) := by decide +kernel
theorem dX5_drawWhole_62 : decode cX5_drawWhole 62 = .ok (.iconst 0, 1) := by decide +kernel
theorem dX5_drawWhole_63 : decode cX5_drawWhole 63 = .ok (.aload_n 0, 1) := by decide +kernel
theorem dX5_drawWhole_64 : decode cX5_drawWhole 64 = .ok (.getfield 85, 3) := by decide +kernel
theorem dX5_drawWhole_67 : decode cX5_drawWhole 67 = .ok (.arraylength, 1) := by decide +kernel
theorem dX5_drawWhole_68 : decode cX5_drawWhole 68 = .ok (.invokestatic 124, 3) := by decide +kernel
theorem dX5_drawWhole_71 : decode cX5_drawWhole 71 = .ok (.aload_n 0, 1) := by decide +kernel
theorem dX5_drawWhole_72 : decode cX5_drawWhole 72 = .ok (.getfield 85, 3) := by decide +kernel
theorem dX5_drawWhole_75 : decode cX5_drawWhole 75 = .ok (.iconst 0, 1) := by decide +kernel
theorem dX5_drawWhole_76 : decode cX5_drawWhole 76 = .ok (.aload_n 0, 1) := by decide +kernel
theorem dX5_drawWhole_77 : decode cX5_drawWhole 77 = .ok (.getfield 88, 3) := by decide +kernel
theorem dX5_drawWhole_80 : decode cX5_drawWhole 80 = .ok (.iconst 0, 1) := by decide +kernel
theorem dX5_drawWhole_81 : decode cX5_drawWhole 81 = .ok (.aload_n 0, 1) := by decide +kernel
theorem dX5_drawWhole_82 : decode cX5_drawWhole 82 = .ok (.getfield 88, 3) := by decide +kernel
theorem dX5_drawWhole_85 : decode cX5_drawWhole 85 = .ok (.arraylength, 1) := by decide +kernel
theorem dX5_drawWhole_86 : decode cX5_drawWhole 86 = .ok (.invokestatic 124, 3) := by decide +kernel
theorem dX5_drawWhole_89 : decode cX5_drawWhole 89 = .ok (.iload_n 1, 1) := by decide +kernel
theorem dX5_drawWhole_90 : decode cX5_drawWhole 90 = .ok (.ireturn, 1) := by decide +kernel
set_option maxRecDepth 20000 in
theorem ggX5_takeOutEmptySets_X5_markSetsWith : GoodIn wsX5_takeOutEmptySets wsX5_markSetsWith := goodIn_r _ [13, 1, 2, 3, 6, 4, 5, 82, 83, 84, 85, 86, 87, 88, 89, 90, 91, 92, 93, 94, 95, 96, 97, 98, 99, 100, 101, 102, 103, 104, 105, 106, 107, 108, 109, 110] (by decide +kernel) (by decide +kernel)
set_option maxRecDepth 20000 in
theorem gX5_takeOutEmptySets_X5_markSetsWith : GoodIn wsX5_takeOutEmptySets (wsV RX5 155 RX5 yX5_markSetsWith wsX5_markSetsWith) := goodIn_app (goodIn_of _ (by decide +kernel)) ggX5_takeOutEmptySets_X5_markSetsWith
set_option maxRecDepth 20000 in
theorem ggX5_takeOutEmptySets_X8_count : GoodIn wsX5_takeOutEmptySets wsX8_count := goodIn_r _ [18, 19, 20, 21, 22, 23, 24, 25, 26, 27, 28, 29, 30, 31, 32, 33, 34, 35, 36, 37, 38, 39, 40, 41, 42, 43, 44, 45, 46, 47, 48, 49, 50, 51, 52, 53, 54, 55, 56, 17, 57, 58, 59, 60, 61, 62, 63, 64, 65, 66, 67, 68, 69, 70, 71, 72, 73, 74, 75, 76, 77, 78, 79, 80, 81, 111, 112, 113, 114, 115, 116, 117, 118, 119, 102, 103, 104, 105, 106, 107, 108] (by decide +kernel) (by decide +kernel)
set_option maxRecDepth 20000 in
theorem gX5_takeOutEmptySets_X8_count : GoodIn wsX5_takeOutEmptySets (wsV RX5 163 RX8 yX8_count wsX8_count) := goodIn_app (goodIn_of _ (by decide +kernel)) ggX5_takeOutEmptySets_X8_count
theorem dX5_takeOutEmptySets_0 : decode cX5_takeOutEmptySets 0 = .ok (.aload_n 0, 1) := by decide +kernel
theorem dX5_takeOutEmptySets_1 : decode cX5_takeOutEmptySets 1 = .ok (.iconst 2, 1) := by decide +kernel
theorem dX5_takeOutEmptySets_2 : decode cX5_takeOutEmptySets 2 = .ok (.invokevirtual 155, 3) := by decide +kernel
theorem dX5_takeOutEmptySets_5 : decode cX5_takeOutEmptySets 5 = .ok (.iconst 0, 1) := by decide +kernel
theorem dX5_takeOutEmptySets_6 : decode cX5_takeOutEmptySets 6 = .ok (.istore_n 1, 1) := by decide +kernel
theorem dX5_takeOutEmptySets_7 : decode cX5_takeOutEmptySets 7 = .ok (.iload_n 1, 1) := by decide +kernel
theorem dX5_takeOutEmptySets_8 : decode cX5_takeOutEmptySets 8 = .ok (.aload_n 0, 1) := by decide +kernel
theorem dX5_takeOutEmptySets_9 : decode cX5_takeOutEmptySets 9 = .ok (.getfield 32, 3) := by decide +kernel
theorem dX5_takeOutEmptySets_12 : decode cX5_takeOutEmptySets 12 = .ok (.getfield 80, 3) := by decide +kernel
theorem dX5_takeOutEmptySets_15 : decode cX5_takeOutEmptySets 15 = .ok (.if_icmp .ge 45, 3) := by decide +kernel
theorem dX5_takeOutEmptySets_18 : decode cX5_takeOutEmptySets 18 = .ok (.aload_n 0, 1) := by decide +kernel
theorem dX5_takeOutEmptySets_19 : decode cX5_takeOutEmptySets 19 = .ok (.getfield 91, 3) := by decide +kernel
theorem dX5_takeOutEmptySets_22 : decode cX5_takeOutEmptySets 22 = .ok (.aload_n 0, 1) := by decide +kernel
theorem dX5_takeOutEmptySets_23 : decode cX5_takeOutEmptySets 23 = .ok (.getfield 36, 3) := by decide +kernel
theorem dX5_takeOutEmptySets_26 : decode cX5_takeOutEmptySets 26 = .ok (.getfield 158, 3) := by decide +kernel
theorem dX5_takeOutEmptySets_29 : decode cX5_takeOutEmptySets 29 = .ok (.iload_n 1, 1) := by decide +kernel
theorem dX5_takeOutEmptySets_30 : decode cX5_takeOutEmptySets 30 = .ok (.iaload, 1) := by decide +kernel
theorem dX5_takeOutEmptySets_31 : decode cX5_takeOutEmptySets 31 = .ok (.baload, 1) := by decide +kernel
theorem dX5_takeOutEmptySets_32 : decode cX5_takeOutEmptySets 32 = .ok (.ifCond .eq 22, 3) := by decide +kernel
theorem dX5_takeOutEmptySets_35 : decode cX5_takeOutEmptySets 35 = .ok (.aload_n 0, 1) := by decide +kernel
theorem dX5_takeOutEmptySets_36 : decode cX5_takeOutEmptySets 36 = .ok (.getfield 40, 3) := by decide +kernel
theorem dX5_takeOutEmptySets_39 : decode cX5_takeOutEmptySets 39 = .ok (.iload_n 1, 1) := by decide +kernel
theorem dX5_takeOutEmptySets_40 : decode cX5_takeOutEmptySets 40 = .ok (.iaload, 1) := by decide +kernel
theorem dX5_takeOutEmptySets_41 : decode cX5_takeOutEmptySets 41 = .ok (.iconst 1, 1) := by decide +kernel
theorem dX5_takeOutEmptySets_42 : decode cX5_takeOutEmptySets 42 = .ok (.if_icmp .ne 5, 3) := by decide +kernel
theorem dX5_takeOutEmptySets_45 : decode cX5_takeOutEmptySets 45 = .ok (.iconst 0, 1) := by decide +kernel
theorem dX5_takeOutEmptySets_46 : decode cX5_takeOutEmptySets 46 = .ok (.ireturn, 1) := by decide +kernel
theorem dX5_takeOutEmptySets_47 : decode cX5_takeOutEmptySets 47 = .ok (.aload_n 0, 1) := by decide +kernel
theorem dX5_takeOutEmptySets_48 : decode cX5_takeOutEmptySets 48 = .ok (.getfield 88, 3) := by decide +kernel
theorem dX5_takeOutEmptySets_51 : decode cX5_takeOutEmptySets 51 = .ok (.iload_n 1, 1) := by decide +kernel
theorem dX5_takeOutEmptySets_52 : decode cX5_takeOutEmptySets 52 = .ok (.iconst (-1), 1) := by decide +kernel
theorem dX5_takeOutEmptySets_53 : decode cX5_takeOutEmptySets 53 = .ok (.iastore, 1) := by decide +kernel
theorem dX5_takeOutEmptySets_54 : decode cX5_takeOutEmptySets 54 = .ok (.iinc 1 1, 3) := by decide +kernel
theorem dX5_takeOutEmptySets_57 : decode cX5_takeOutEmptySets 57 = .ok (.goto (-50), 3) := by decide +kernel
theorem dX5_takeOutEmptySets_60 : decode cX5_takeOutEmptySets 60 = .ok (.aload_n 0, 1) := by decide +kernel
theorem dX5_takeOutEmptySets_61 : decode cX5_takeOutEmptySets 61 = .ok (.getfield 76, 3) := by decide +kernel
theorem dX5_takeOutEmptySets_64 : decode cX5_takeOutEmptySets 64 = .ok (.aload_n 0, 1) := by decide +kernel
theorem dX5_takeOutEmptySets_65 : decode cX5_takeOutEmptySets 65 = .ok (.getfield 88, 3) := by decide +kernel
theorem dX5_takeOutEmptySets_68 : decode cX5_takeOutEmptySets 68 = .ok (.iconst 2, 1) := by decide +kernel
theorem dX5_takeOutEmptySets_69 : decode cX5_takeOutEmptySets 69 = .ok (.invokevirtual 163, 3) := by decide +kernel
theorem dX5_takeOutEmptySets_72 : decode cX5_takeOutEmptySets 72 = .ok (.iconst 2, 1) := by decide +kernel
theorem dX5_takeOutEmptySets_73 : decode cX5_takeOutEmptySets 73 = .ok (.if_icmp .ge 7, 3) := by decide +kernel
theorem dX5_takeOutEmptySets_76 : decode cX5_takeOutEmptySets 76 = .ok (.iconst 1, 1) := by decide +kernel
theorem dX5_takeOutEmptySets_77 : decode cX5_takeOutEmptySets 77 = .ok (.goto 4, 3) := by decide +kernel
theorem dX5_takeOutEmptySets_80 : decode cX5_takeOutEmptySets 80 = .ok (.iconst 0, 1) := by decide +kernel
theorem dX5_takeOutEmptySets_81 : decode cX5_takeOutEmptySets 81 = .ok (.ireturn, 1) := by decide +kernel
theorem dX5_markSetsWith_0 : decode cX5_markSetsWith 0 = .ok (.iconst 0, 1) := by decide +kernel
theorem dX5_markSetsWith_1 : decode cX5_markSetsWith 1 = .ok (.istore_n 2, 1) := by decide +kernel
theorem dX5_markSetsWith_2 : decode cX5_markSetsWith 2 = .ok (.iload_n 2, 1) := by decide +kernel
theorem dX5_markSetsWith_3 : decode cX5_markSetsWith 3 = .ok (.aload_n 0, 1) := by decide +kernel
theorem dX5_markSetsWith_4 : decode cX5_markSetsWith 4 = .ok (.getfield 32, 3) := by decide +kernel
theorem dX5_markSetsWith_7 : decode cX5_markSetsWith 7 = .ok (.getfield 80, 3) := by decide +kernel
theorem dX5_markSetsWith_10 : decode cX5_markSetsWith 10 = .ok (.if_icmp .ge 16, 3) := by decide +kernel
theorem dX5_markSetsWith_13 : decode cX5_markSetsWith 13 = .ok (.aload_n 0, 1) := by decide +kernel
theorem dX5_markSetsWith_14 : decode cX5_markSetsWith 14 = .ok (.getfield 91, 3) := by decide +kernel
theorem dX5_markSetsWith_17 : decode cX5_markSetsWith 17 = .ok (.iload_n 2, 1) := by decide +kernel
theorem dX5_markSetsWith_18 : decode cX5_markSetsWith 18 = .ok (.iconst 0, 1) := by decide +kernel
theorem dX5_markSetsWith_19 : decode cX5_markSetsWith 19 = .ok (.bastore, 1) := by decide +kernel
theorem dX5_markSetsWith_20 : decode cX5_markSetsWith 20 = .ok (.iinc 2 1, 3) := by decide +kernel
theorem dX5_markSetsWith_23 : decode cX5_markSetsWith 23 = .ok (.goto (-21), 3) := by decide +kernel
theorem dX5_markSetsWith_26 : decode cX5_markSetsWith 26 = .ok (.iconst 0, 1) := by decide +kernel
theorem dX5_markSetsWith_27 : decode cX5_markSetsWith 27 = .ok (.istore_n 2, 1) := by decide +kernel
theorem dX5_markSetsWith_28 : decode cX5_markSetsWith 28 = .ok (.iload_n 2, 1) := by decide +kernel
theorem dX5_markSetsWith_29 : decode cX5_markSetsWith 29 = .ok (.aload_n 0, 1) := by decide +kernel
theorem dX5_markSetsWith_30 : decode cX5_markSetsWith 30 = .ok (.getfield 32, 3) := by decide +kernel
theorem dX5_markSetsWith_33 : decode cX5_markSetsWith 33 = .ok (.getfield 80, 3) := by decide +kernel
theorem dX5_markSetsWith_36 : decode cX5_markSetsWith 36 = .ok (.if_icmp .ge 34, 3) := by decide +kernel
theorem dX5_markSetsWith_39 : decode cX5_markSetsWith 39 = .ok (.aload_n 0, 1) := by decide +kernel
theorem dX5_markSetsWith_40 : decode cX5_markSetsWith 40 = .ok (.getfield 40, 3) := by decide +kernel
theorem dX5_markSetsWith_43 : decode cX5_markSetsWith 43 = .ok (.iload_n 2, 1) := by decide +kernel
theorem dX5_markSetsWith_44 : decode cX5_markSetsWith 44 = .ok (.iaload, 1) := by decide +kernel
theorem dX5_markSetsWith_45 : decode cX5_markSetsWith 45 = .ok (.iload_n 1, 1) := by decide +kernel
theorem dX5_markSetsWith_46 : decode cX5_markSetsWith 46 = .ok (.if_icmp .ne 18, 3) := by decide +kernel
theorem dX5_markSetsWith_49 : decode cX5_markSetsWith 49 = .ok (.aload_n 0, 1) := by decide +kernel
theorem dX5_markSetsWith_50 : decode cX5_markSetsWith 50 = .ok (.getfield 91, 3) := by decide +kernel
theorem dX5_markSetsWith_53 : decode cX5_markSetsWith 53 = .ok (.aload_n 0, 1) := by decide +kernel
theorem dX5_markSetsWith_54 : decode cX5_markSetsWith 54 = .ok (.getfield 36, 3) := by decide +kernel
theorem dX5_markSetsWith_57 : decode cX5_markSetsWith 57 = .ok (.getfield 158, 3) := by decide +kernel
theorem dX5_markSetsWith_60 : decode cX5_markSetsWith 60 = .ok (.iload_n 2, 1) := by decide +kernel
theorem dX5_markSetsWith_61 : decode cX5_markSetsWith 61 = .ok (.iaload, 1) := by decide +kernel
theorem dX5_markSetsWith_62 : decode cX5_markSetsWith 62 = .ok (.iconst 1, 1) := by decide +kernel
theorem dX5_markSetsWith_63 : decode cX5_markSetsWith 63 = .ok (.bastore, 1) := by decide +kernel
theorem dX5_markSetsWith_64 : decode cX5_markSetsWith 64 = .ok (.iinc 2 1, 3) := by decide +kernel
theorem dX5_markSetsWith_67 : decode cX5_markSetsWith 67 = .ok (.goto (-39), 3) := by decide +kernel
theorem dX5_markSetsWith_70 : decode cX5_markSetsWith 70 = .ok (.return_, 1) := by decide +kernel
set_option maxRecDepth 20000 in
theorem ggX5_layRow_X5_markSetsWith : GoodIn wsX5_layRow wsX5_markSetsWith := goodIn_r _ [12, 1, 2, 6, 13, 3, 4, 14, 15, 16, 17, 18, 19, 20, 21, 22, 23, 24, 25, 26, 27, 28, 29, 30, 31, 32, 33, 34, 35, 36, 37, 38, 39, 40, 41, 42] (by decide +kernel) (by decide +kernel)
set_option maxRecDepth 20000 in
theorem gX5_layRow_X5_markSetsWith : GoodIn wsX5_layRow (wsV RX5 155 RX5 yX5_markSetsWith wsX5_markSetsWith) := goodIn_app (goodIn_of _ (by decide +kernel)) ggX5_layRow_X5_markSetsWith
theorem dX5_layRow_0 : decode cX5_layRow 0 = .ok (.aload_n 0, 1) := by decide +kernel
theorem dX5_layRow_1 : decode cX5_layRow 1 = .ok (.iconst 1, 1) := by decide +kernel
theorem dX5_layRow_2 : decode cX5_layRow 2 = .ok (.invokevirtual 155, 3) := by decide +kernel
theorem dX5_layRow_5 : decode cX5_layRow 5 = .ok (.iconst 0, 1) := by decide +kernel
theorem dX5_layRow_6 : decode cX5_layRow 6 = .ok (.istore_n 1, 1) := by decide +kernel
theorem dX5_layRow_7 : decode cX5_layRow 7 = .ok (.iconst 0, 1) := by decide +kernel
theorem dX5_layRow_8 : decode cX5_layRow 8 = .ok (.istore_n 2, 1) := by decide +kernel
theorem dX5_layRow_9 : decode cX5_layRow 9 = .ok (.iload_n 2, 1) := by decide +kernel
theorem dX5_layRow_10 : decode cX5_layRow 10 = .ok (.aload_n 0, 1) := by decide +kernel
theorem dX5_layRow_11 : decode cX5_layRow 11 = .ok (.getfield 32, 3) := by decide +kernel
theorem dX5_layRow_14 : decode cX5_layRow 14 = .ok (.getfield 80, 3) := by decide +kernel
theorem dX5_layRow_17 : decode cX5_layRow 17 = .ok (.if_icmp .ge 50, 3) := by decide +kernel
theorem dX5_layRow_20 : decode cX5_layRow 20 = .ok (.aload_n 0, 1) := by decide +kernel
theorem dX5_layRow_21 : decode cX5_layRow 21 = .ok (.getfield 36, 3) := by decide +kernel
theorem dX5_layRow_24 : decode cX5_layRow 24 = .ok (.getfield 158, 3) := by decide +kernel
theorem dX5_layRow_27 : decode cX5_layRow 27 = .ok (.iload_n 2, 1) := by decide +kernel
theorem dX5_layRow_28 : decode cX5_layRow 28 = .ok (.iaload, 1) := by decide +kernel
theorem dX5_layRow_29 : decode cX5_layRow 29 = .ok (.iload_n 2, 1) := by decide +kernel
theorem dX5_layRow_30 : decode cX5_layRow 30 = .ok (.if_icmp .ne 31, 3) := by decide +kernel
theorem dX5_layRow_33 : decode cX5_layRow 33 = .ok (.aload_n 0, 1) := by decide +kernel
theorem dX5_layRow_34 : decode cX5_layRow 34 = .ok (.getfield 88, 3) := by decide +kernel
theorem dX5_layRow_37 : decode cX5_layRow 37 = .ok (.iload_n 2, 1) := by decide +kernel
theorem dX5_layRow_38 : decode cX5_layRow 38 = .ok (.iaload, 1) := by decide +kernel
theorem dX5_layRow_39 : decode cX5_layRow 39 = .ok (.ifCond .lt 22, 3) := by decide +kernel
theorem dX5_layRow_42 : decode cX5_layRow 42 = .ok (.aload_n 0, 1) := by decide +kernel
theorem dX5_layRow_43 : decode cX5_layRow 43 = .ok (.getfield 91, 3) := by decide +kernel
theorem dX5_layRow_46 : decode cX5_layRow 46 = .ok (.iload_n 2, 1) := by decide +kernel
theorem dX5_layRow_47 : decode cX5_layRow 47 = .ok (.baload, 1) := by decide +kernel
theorem dX5_layRow_48 : decode cX5_layRow 48 = .ok (.ifCond .ne 13, 3) := by decide +kernel
theorem dX5_layRow_51 : decode cX5_layRow 51 = .ok (.aload_n 0, 1) := by decide +kernel
theorem dX5_layRow_52 : decode cX5_layRow 52 = .ok (.getfield 95, 3) := by decide +kernel
theorem dX5_layRow_55 : decode cX5_layRow 55 = .ok (.iload_n 1, 1) := by decide +kernel
theorem dX5_layRow_56 : decode cX5_layRow 56 = .ok (.iload_n 2, 1) := by decide +kernel
theorem dX5_layRow_57 : decode cX5_layRow 57 = .ok (.iastore, 1) := by decide +kernel
theorem dX5_layRow_58 : decode cX5_layRow 58 = .ok (.iinc 1 1, 3) := by decide +kernel
theorem dX5_layRow_61 : decode cX5_layRow 61 = .ok (.iinc 2 1, 3) := by decide +kernel
theorem dX5_layRow_64 : decode cX5_layRow 64 = .ok (.goto (-55), 3) := by decide +kernel
theorem dX5_layRow_67 : decode cX5_layRow 67 = .ok (.iload_n 1, 1) := by decide +kernel
theorem dX5_layRow_68 : decode cX5_layRow 68 = .ok (.ireturn, 1) := by decide +kernel
set_option maxRecDepth 20000 in
theorem ggX5_mixRow_X2_below : GoodIn wsX5_mixRow wsX2_below := goodIn_r _ [7, 8, 9, 10, 11, 12, 13, 6, 14, 35] (by decide +kernel) (by decide +kernel)
set_option maxRecDepth 20000 in
theorem gX5_mixRow_X2_below : GoodIn wsX5_mixRow (wsV RX5 167 RX2 yX2_below wsX2_below) := goodIn_app (goodIn_of _ (by decide +kernel)) ggX5_mixRow_X2_below
theorem dX5_mixRow_0 : decode cX5_mixRow 0 = .ok (.iload_n 1, 1) := by decide +kernel
theorem dX5_mixRow_1 : decode cX5_mixRow 1 = .ok (.iconst 1, 1) := by decide +kernel
theorem dX5_mixRow_2 : decode cX5_mixRow 2 = .ok (.isub, 1) := by decide +kernel
theorem dX5_mixRow_3 : decode cX5_mixRow 3 = .ok (.istore_n 2, 1) := by decide +kernel
theorem dX5_mixRow_4 : decode cX5_mixRow 4 = .ok (.iload_n 2, 1) := by decide +kernel
theorem dX5_mixRow_5 : decode cX5_mixRow 5 = .ok (.iconst 1, 1) := by decide +kernel
theorem dX5_mixRow_6 : decode cX5_mixRow 6 = .ok (.if_icmp .lt 48, 3) := by decide +kernel
theorem dX5_mixRow_9 : decode cX5_mixRow 9 = .ok (.aload_n 0, 1) := by decide +kernel
theorem dX5_mixRow_10 : decode cX5_mixRow 10 = .ok (.getfield 51, 3) := by decide +kernel
theorem dX5_mixRow_13 : decode cX5_mixRow 13 = .ok (.iload_n 2, 1) := by decide +kernel
theorem dX5_mixRow_14 : decode cX5_mixRow 14 = .ok (.iconst 1, 1) := by decide +kernel
theorem dX5_mixRow_15 : decode cX5_mixRow 15 = .ok (.iadd, 1) := by decide +kernel
theorem dX5_mixRow_16 : decode cX5_mixRow 16 = .ok (.invokevirtual 167, 3) := by decide +kernel
theorem dX5_mixRow_19 : decode cX5_mixRow 19 = .ok (.istore_n 3, 1) := by decide +kernel
theorem dX5_mixRow_20 : decode cX5_mixRow 20 = .ok (.aload_n 0, 1) := by decide +kernel
theorem dX5_mixRow_21 : decode cX5_mixRow 21 = .ok (.getfield 95, 3) := by decide +kernel
theorem dX5_mixRow_24 : decode cX5_mixRow 24 = .ok (.iload_n 2, 1) := by decide +kernel
theorem dX5_mixRow_25 : decode cX5_mixRow 25 = .ok (.iaload, 1) := by decide +kernel
theorem dX5_mixRow_26 : decode cX5_mixRow 26 = .ok (.istore 4, 2) := by decide +kernel
theorem dX5_mixRow_28 : decode cX5_mixRow 28 = .ok (.aload_n 0, 1) := by decide +kernel
theorem dX5_mixRow_29 : decode cX5_mixRow 29 = .ok (.getfield 95, 3) := by decide +kernel
theorem dX5_mixRow_32 : decode cX5_mixRow 32 = .ok (.iload_n 2, 1) := by decide +kernel
theorem dX5_mixRow_33 : decode cX5_mixRow 33 = .ok (.aload_n 0, 1) := by decide +kernel
theorem dX5_mixRow_34 : decode cX5_mixRow 34 = .ok (.getfield 95, 3) := by decide +kernel
theorem dX5_mixRow_37 : decode cX5_mixRow 37 = .ok (.iload_n 3, 1) := by decide +kernel
theorem dX5_mixRow_38 : decode cX5_mixRow 38 = .ok (.iaload, 1) := by decide +kernel
theorem dX5_mixRow_39 : decode cX5_mixRow 39 = .ok (.iastore, 1) := by decide +kernel
theorem dX5_mixRow_40 : decode cX5_mixRow 40 = .ok (.aload_n 0, 1) := by decide +kernel
theorem dX5_mixRow_41 : decode cX5_mixRow 41 = .ok (.getfield 95, 3) := by decide +kernel
theorem dX5_mixRow_44 : decode cX5_mixRow 44 = .ok (.iload_n 3, 1) := by decide +kernel
theorem dX5_mixRow_45 : decode cX5_mixRow 45 = .ok (.iload 4, 2) := by decide +kernel
theorem dX5_mixRow_47 : decode cX5_mixRow 47 = .ok (.iastore, 1) := by decide +kernel
theorem dX5_mixRow_48 : decode cX5_mixRow 48 = .ok (.iinc 2 (-1), 3) := by decide +kernel
theorem dX5_mixRow_51 : decode cX5_mixRow 51 = .ok (.goto (-47), 3) := by decide +kernel
theorem dX5_mixRow_54 : decode cX5_mixRow 54 = .ok (.return_, 1) := by decide +kernel
set_option maxRecDepth 20000 in
theorem ggX5_needsSet_X8_count : GoodIn wsX5_needsSet wsX8_count := goodIn_r _ [12, 13, 14, 15, 16, 17, 18, 19, 20, 21, 22, 23, 24, 25, 26, 27, 28, 29, 30, 31, 32, 33, 34, 35, 36, 37, 38, 39, 40, 41, 42, 43, 44, 45, 46, 47, 48, 49, 50, 11, 51, 52, 53, 54, 55, 56, 57, 58, 59, 60, 61, 62, 63, 64, 65, 66, 67, 68, 69, 70, 71, 72, 73, 74, 75, 105, 106, 107, 108, 109, 110, 111, 112, 113, 96, 97, 98, 99, 100, 101, 102] (by decide +kernel) (by decide +kernel)
set_option maxRecDepth 20000 in
theorem gX5_needsSet_X8_count : GoodIn wsX5_needsSet (wsV RX5 163 RX8 yX8_count wsX8_count) := goodIn_app (goodIn_of _ (by decide +kernel)) ggX5_needsSet_X8_count
theorem dX5_needsSet_0 : decode cX5_needsSet 0 = .ok (.iconst 0, 1) := by decide +kernel
theorem dX5_needsSet_1 : decode cX5_needsSet 1 = .ok (.istore_n 2, 1) := by decide +kernel
theorem dX5_needsSet_2 : decode cX5_needsSet 2 = .ok (.iconst 0, 1) := by decide +kernel
theorem dX5_needsSet_3 : decode cX5_needsSet 3 = .ok (.istore_n 3, 1) := by decide +kernel
theorem dX5_needsSet_4 : decode cX5_needsSet 4 = .ok (.iload_n 3, 1) := by decide +kernel
theorem dX5_needsSet_5 : decode cX5_needsSet 5 = .ok (.aload_n 0, 1) := by decide +kernel
theorem dX5_needsSet_6 : decode cX5_needsSet 6 = .ok (.getfield 32, 3) := by decide +kernel
theorem dX5_needsSet_9 : decode cX5_needsSet 9 = .ok (.getfield 80, 3) := by decide +kernel
theorem dX5_needsSet_12 : decode cX5_needsSet 12 = .ok (.if_icmp .ge 74, 3) := by decide +kernel
theorem dX5_needsSet_15 : decode cX5_needsSet 15 = .ok (.aload_n 0, 1) := by decide +kernel
theorem dX5_needsSet_16 : decode cX5_needsSet 16 = .ok (.getfield 36, 3) := by decide +kernel
theorem dX5_needsSet_19 : decode cX5_needsSet 19 = .ok (.getfield 158, 3) := by decide +kernel
theorem dX5_needsSet_22 : decode cX5_needsSet 22 = .ok (.iload_n 3, 1) := by decide +kernel
theorem dX5_needsSet_23 : decode cX5_needsSet 23 = .ok (.iaload, 1) := by decide +kernel
theorem dX5_needsSet_24 : decode cX5_needsSet 24 = .ok (.iload_n 1, 1) := by decide +kernel
theorem dX5_needsSet_25 : decode cX5_needsSet 25 = .ok (.if_icmp .ne 7, 3) := by decide +kernel
theorem dX5_needsSet_28 : decode cX5_needsSet 28 = .ok (.iconst 1, 1) := by decide +kernel
theorem dX5_needsSet_29 : decode cX5_needsSet 29 = .ok (.goto 4, 3) := by decide +kernel
theorem dX5_needsSet_32 : decode cX5_needsSet 32 = .ok (.iconst 0, 1) := by decide +kernel
theorem dX5_needsSet_33 : decode cX5_needsSet 33 = .ok (.istore 4, 2) := by decide +kernel
theorem dX5_needsSet_35 : decode cX5_needsSet 35 = .ok (.iload_n 2, 1) := by decide +kernel
theorem dX5_needsSet_36 : decode cX5_needsSet 36 = .ok (.ifCond .ne 17, 3) := by decide +kernel
theorem dX5_needsSet_39 : decode cX5_needsSet 39 = .ok (.iload 4, 2) := by decide +kernel
theorem dX5_needsSet_41 : decode cX5_needsSet 41 = .ok (.ifCond .eq 16, 3) := by decide +kernel
theorem dX5_needsSet_44 : decode cX5_needsSet 44 = .ok (.aload_n 0, 1) := by decide +kernel
theorem dX5_needsSet_45 : decode cX5_needsSet 45 = .ok (.getfield 88, 3) := by decide +kernel
theorem dX5_needsSet_48 : decode cX5_needsSet 48 = .ok (.iload_n 3, 1) := by decide +kernel
theorem dX5_needsSet_49 : decode cX5_needsSet 49 = .ok (.iaload, 1) := by decide +kernel
theorem dX5_needsSet_50 : decode cX5_needsSet 50 = .ok (.ifCond .lt 7, 3) := by decide +kernel
theorem dX5_needsSet_53 : decode cX5_needsSet 53 = .ok (.iconst 1, 1) := by decide +kernel
theorem dX5_needsSet_54 : decode cX5_needsSet 54 = .ok (.goto 4, 3) := by decide +kernel
theorem dX5_needsSet_57 : decode cX5_needsSet 57 = .ok (.iconst 0, 1) := by decide +kernel
theorem dX5_needsSet_58 : decode cX5_needsSet 58 = .ok (.istore_n 2, 1) := by decide +kernel
theorem dX5_needsSet_59 : decode cX5_needsSet 59 = .ok (.aload_n 0, 1) := by decide +kernel
theorem dX5_needsSet_60 : decode cX5_needsSet 60 = .ok (.getfield 98, 3) := by decide +kernel
theorem dX5_needsSet_63 : decode cX5_needsSet 63 = .ok (.iload_n 3, 1) := by decide +kernel
theorem dX5_needsSet_64 : decode cX5_needsSet 64 = .ok (.iload 4, 2) := by decide +kernel
theorem dX5_needsSet_66 : decode cX5_needsSet 66 = .ok (.ifCond .eq 7, 3) := by decide +kernel
theorem dX5_needsSet_69 : decode cX5_needsSet 69 = .ok (.iconst (-1), 1) := by decide +kernel
theorem dX5_needsSet_70 : decode cX5_needsSet 70 = .ok (.goto 9, 3) := by decide +kernel
theorem dX5_needsSet_73 : decode cX5_needsSet 73 = .ok (.aload_n 0, 1) := by decide +kernel
theorem dX5_needsSet_74 : decode cX5_needsSet 74 = .ok (.getfield 88, 3) := by decide +kernel
theorem dX5_needsSet_77 : decode cX5_needsSet 77 = .ok (.iload_n 3, 1) := by decide +kernel
theorem dX5_needsSet_78 : decode cX5_needsSet 78 = .ok (.iaload, 1) := by decide +kernel
theorem dX5_needsSet_79 : decode cX5_needsSet 79 = .ok (.iastore, 1) := by decide +kernel
theorem dX5_needsSet_80 : decode cX5_needsSet 80 = .ok (.iinc 3 1, 3) := by decide +kernel
theorem dX5_needsSet_83 : decode cX5_needsSet 83 = .ok (.goto (-79), 3) := by decide +kernel
theorem dX5_needsSet_86 : decode cX5_needsSet 86 = .ok (.iload_n 2, 1) := by decide +kernel
theorem dX5_needsSet_87 : decode cX5_needsSet 87 = .ok (.ifCond .eq 23, 3) := by decide +kernel
theorem dX5_needsSet_90 : decode cX5_needsSet 90 = .ok (.aload_n 0, 1) := by decide +kernel
theorem dX5_needsSet_91 : decode cX5_needsSet 91 = .ok (.getfield 76, 3) := by decide +kernel
theorem dX5_needsSet_94 : decode cX5_needsSet 94 = .ok (.aload_n 0, 1) := by decide +kernel
theorem dX5_needsSet_95 : decode cX5_needsSet 95 = .ok (.getfield 98, 3) := by decide +kernel
theorem dX5_needsSet_98 : decode cX5_needsSet 98 = .ok (.iconst 2, 1) := by decide +kernel
theorem dX5_needsSet_99 : decode cX5_needsSet 99 = .ok (.invokevirtual 163, 3) := by decide +kernel
theorem dX5_needsSet_102 : decode cX5_needsSet 102 = .ok (.iconst 1, 1) := by decide +kernel
theorem dX5_needsSet_103 : decode cX5_needsSet 103 = .ok (.if_icmp .le 7, 3) := by decide +kernel
theorem dX5_needsSet_106 : decode cX5_needsSet 106 = .ok (.iconst 1, 1) := by decide +kernel
theorem dX5_needsSet_107 : decode cX5_needsSet 107 = .ok (.goto 4, 3) := by decide +kernel
theorem dX5_needsSet_110 : decode cX5_needsSet 110 = .ok (.iconst 0, 1) := by decide +kernel
theorem dX5_needsSet_111 : decode cX5_needsSet 111 = .ok (.ireturn, 1) := by decide +kernel
theorem dX5_countGivens_0 : decode cX5_countGivens 0 = .ok (.iconst 0, 1) := by decide +kernel
theorem dX5_countGivens_1 : decode cX5_countGivens 1 = .ok (.istore_n 1, 1) := by decide +kernel
theorem dX5_countGivens_2 : decode cX5_countGivens 2 = .ok (.iconst 0, 1) := by decide +kernel
theorem dX5_countGivens_3 : decode cX5_countGivens 3 = .ok (.istore_n 2, 1) := by decide +kernel
theorem dX5_countGivens_4 : decode cX5_countGivens 4 = .ok (.iload_n 2, 1) := by decide +kernel
theorem dX5_countGivens_5 : decode cX5_countGivens 5 = .ok (.aload_n 0, 1) := by decide +kernel
theorem dX5_countGivens_6 : decode cX5_countGivens 6 = .ok (.getfield 32, 3) := by decide +kernel
theorem dX5_countGivens_9 : decode cX5_countGivens 9 = .ok (.getfield 80, 3) := by decide +kernel
theorem dX5_countGivens_12 : decode cX5_countGivens 12 = .ok (.if_icmp .ge 21, 3) := by decide +kernel
theorem dX5_countGivens_15 : decode cX5_countGivens 15 = .ok (.aload_n 0, 1) := by decide +kernel
theorem dX5_countGivens_16 : decode cX5_countGivens 16 = .ok (.getfield 88, 3) := by decide +kernel
theorem dX5_countGivens_19 : decode cX5_countGivens 19 = .ok (.iload_n 2, 1) := by decide +kernel
theorem dX5_countGivens_20 : decode cX5_countGivens 20 = .ok (.iaload, 1) := by decide +kernel
theorem dX5_countGivens_21 : decode cX5_countGivens 21 = .ok (.ifCond .lt 6, 3) := by decide +kernel
theorem dX5_countGivens_24 : decode cX5_countGivens 24 = .ok (.iinc 1 1, 3) := by decide +kernel
theorem dX5_countGivens_27 : decode cX5_countGivens 27 = .ok (.iinc 2 1, 3) := by decide +kernel
theorem dX5_countGivens_30 : decode cX5_countGivens 30 = .ok (.goto (-26), 3) := by decide +kernel
theorem dX5_countGivens_33 : decode cX5_countGivens 33 = .ok (.iload_n 1, 1) := by decide +kernel
theorem dX5_countGivens_34 : decode cX5_countGivens 34 = .ok (.ireturn, 1) := by decide +kernel
theorem dX6_init_0 : decode cX6_init 0 = .ok (.aload_n 0, 1) := by decide +kernel
theorem dX6_init_1 : decode cX6_init 1 = .ok (.invokespecial 1, 3) := by decide +kernel
theorem dX6_init_4 : decode cX6_init 4 = .ok (.aload_n 0, 1) := by decide +kernel
theorem dX6_init_5 : decode cX6_init 5 = .ok (.aload_n 1, 1) := by decide +kernel
theorem dX6_init_6 : decode cX6_init 6 = .ok (.putfield 7, 3) := by decide +kernel
theorem dX6_init_9 : decode cX6_init 9 = .ok (.aload_n 0, 1) := by decide +kernel
theorem dX6_init_10 : decode cX6_init 10 = .ok (.aload_n 1, 1) := by decide +kernel
theorem dX6_init_11 : decode cX6_init 11 = .ok (.getfield 13, 3) := by decide +kernel
theorem dX6_init_14 : decode cX6_init 14 = .ok (.newarray .int, 2) := by decide +kernel
theorem dX6_init_16 : decode cX6_init 16 = .ok (.putfield 19, 3) := by decide +kernel
theorem dX6_init_19 : decode cX6_init 19 = .ok (.iconst 0, 1) := by decide +kernel
theorem dX6_init_20 : decode cX6_init 20 = .ok (.istore_n 2, 1) := by decide +kernel
theorem dX6_init_21 : decode cX6_init 21 = .ok (.iload_n 2, 1) := by decide +kernel
theorem dX6_init_22 : decode cX6_init 22 = .ok (.aload_n 1, 1) := by decide +kernel
theorem dX6_init_23 : decode cX6_init 23 = .ok (.getfield 13, 3) := by decide +kernel
theorem dX6_init_26 : decode cX6_init 26 = .ok (.if_icmp .ge 16, 3) := by decide +kernel
theorem dX6_init_29 : decode cX6_init 29 = .ok (.aload_n 0, 1) := by decide +kernel
theorem dX6_init_30 : decode cX6_init 30 = .ok (.getfield 19, 3) := by decide +kernel
theorem dX6_init_33 : decode cX6_init 33 = .ok (.iload_n 2, 1) := by decide +kernel
theorem dX6_init_34 : decode cX6_init 34 = .ok (.iload_n 2, 1) := by decide +kernel
theorem dX6_init_35 : decode cX6_init 35 = .ok (.iastore, 1) := by decide +kernel
theorem dX6_init_36 : decode cX6_init 36 = .ok (.iinc 2 1, 3) := by decide +kernel
theorem dX6_init_39 : decode cX6_init 39 = .ok (.goto (-18), 3) := by decide +kernel
theorem dX6_init_42 : decode cX6_init 42 = .ok (.return_, 1) := by decide +kernel
set_option maxRecDepth 20000 in
theorem ggX6_joinBy_X6_moved : GoodIn wsX6_joinBy wsX6_moved := goodIn_r _ [12, 1, 13, 14, 15, 16, 17, 18, 19, 20, 21, 22, 23, 24] (by decide +kernel) (by decide +kernel)
set_option maxRecDepth 20000 in
theorem gX6_joinBy_X6_moved : GoodIn wsX6_joinBy (wsV RX6 23 RX6 yX6_moved wsX6_moved) := goodIn_app (goodIn_of _ (by decide +kernel)) ggX6_joinBy_X6_moved
theorem dX6_joinBy_0 : decode cX6_joinBy 0 = .ok (.iconst 0, 1) := by decide +kernel
theorem dX6_joinBy_1 : decode cX6_joinBy 1 = .ok (.istore_n 2, 1) := by decide +kernel
theorem dX6_joinBy_2 : decode cX6_joinBy 2 = .ok (.iload_n 2, 1) := by decide +kernel
theorem dX6_joinBy_3 : decode cX6_joinBy 3 = .ok (.aload_n 0, 1) := by decide +kernel
theorem dX6_joinBy_4 : decode cX6_joinBy 4 = .ok (.getfield 7, 3) := by decide +kernel
theorem dX6_joinBy_7 : decode cX6_joinBy 7 = .ok (.getfield 13, 3) := by decide +kernel
theorem dX6_joinBy_10 : decode cX6_joinBy 10 = .ok (.if_icmp .ge 52, 3) := by decide +kernel
theorem dX6_joinBy_13 : decode cX6_joinBy 13 = .ok (.iload_n 2, 1) := by decide +kernel
theorem dX6_joinBy_14 : decode cX6_joinBy 14 = .ok (.istore_n 3, 1) := by decide +kernel
theorem dX6_joinBy_15 : decode cX6_joinBy 15 = .ok (.iload_n 2, 1) := by decide +kernel
theorem dX6_joinBy_16 : decode cX6_joinBy 16 = .ok (.istore 4, 2) := by decide +kernel
theorem dX6_joinBy_18 : decode cX6_joinBy 18 = .ok (.iconst 0, 1) := by decide +kernel
theorem dX6_joinBy_19 : decode cX6_joinBy 19 = .ok (.istore 5, 2) := by decide +kernel
theorem dX6_joinBy_21 : decode cX6_joinBy 21 = .ok (.iload 5, 2) := by decide +kernel
theorem dX6_joinBy_23 : decode cX6_joinBy 23 = .ok (.iconst 4, 1) := by decide +kernel
theorem dX6_joinBy_24 : decode cX6_joinBy 24 = .ok (.if_icmp .ge 25, 3) := by decide +kernel
theorem dX6_joinBy_27 : decode cX6_joinBy 27 = .ok (.aload_n 0, 1) := by decide +kernel
theorem dX6_joinBy_28 : decode cX6_joinBy 28 = .ok (.iload 4, 2) := by decide +kernel
theorem dX6_joinBy_30 : decode cX6_joinBy 30 = .ok (.iload_n 1, 1) := by decide +kernel
theorem dX6_joinBy_31 : decode cX6_joinBy 31 = .ok (.invokevirtual 23, 3) := by decide +kernel
theorem dX6_joinBy_34 : decode cX6_joinBy 34 = .ok (.istore 4, 2) := by decide +kernel
theorem dX6_joinBy_36 : decode cX6_joinBy 36 = .ok (.iload_n 3, 1) := by decide +kernel
theorem dX6_joinBy_37 : decode cX6_joinBy 37 = .ok (.iload 4, 2) := by decide +kernel
theorem dX6_joinBy_39 : decode cX6_joinBy 39 = .ok (.invokestatic 27, 3) := by decide +kernel
theorem dX6_joinBy_42 : decode cX6_joinBy 42 = .ok (.istore_n 3, 1) := by decide +kernel
theorem dX6_joinBy_43 : decode cX6_joinBy 43 = .ok (.iinc 5 1, 3) := by decide +kernel
theorem dX6_joinBy_46 : decode cX6_joinBy 46 = .ok (.goto (-25), 3) := by decide +kernel
theorem dX6_joinBy_49 : decode cX6_joinBy 49 = .ok (.aload_n 0, 1) := by decide +kernel
theorem dX6_joinBy_50 : decode cX6_joinBy 50 = .ok (.getfield 19, 3) := by decide +kernel
theorem dX6_joinBy_53 : decode cX6_joinBy 53 = .ok (.iload_n 2, 1) := by decide +kernel
theorem dX6_joinBy_54 : decode cX6_joinBy 54 = .ok (.iload_n 3, 1) := by decide +kernel
theorem dX6_joinBy_55 : decode cX6_joinBy 55 = .ok (.iastore, 1) := by decide +kernel
theorem dX6_joinBy_56 : decode cX6_joinBy 56 = .ok (.iinc 2 1, 3) := by decide +kernel
theorem dX6_joinBy_59 : decode cX6_joinBy 59 = .ok (.goto (-57), 3) := by decide +kernel
theorem dX6_joinBy_62 : decode cX6_joinBy 62 = .ok (.return_, 1) := by decide +kernel
theorem dX6_moved_0 : decode cX6_moved 0 = .ok (.aload_n 0, 1) := by decide +kernel
theorem dX6_moved_1 : decode cX6_moved 1 = .ok (.getfield 7, 3) := by decide +kernel
theorem dX6_moved_4 : decode cX6_moved 4 = .ok (.getfield 32, 3) := by decide +kernel
theorem dX6_moved_7 : decode cX6_moved 7 = .ok (.iconst 1, 1) := by decide +kernel
theorem dX6_moved_8 : decode cX6_moved 8 = .ok (.isub, 1) := by decide +kernel
theorem dX6_moved_9 : decode cX6_moved 9 = .ok (.istore_n 3, 1) := by decide +kernel
theorem dX6_moved_10 : decode cX6_moved 10 = .ok (.aload_n 0, 1) := by decide +kernel
theorem dX6_moved_11 : decode cX6_moved 11 = .ok (.getfield 7, 3) := by decide +kernel
theorem dX6_moved_14 : decode cX6_moved 14 = .ok (.getfield 35, 3) := by decide +kernel
theorem dX6_moved_17 : decode cX6_moved 17 = .ok (.iload_n 1, 1) := by decide +kernel
theorem dX6_moved_18 : decode cX6_moved 18 = .ok (.iaload, 1) := by decide +kernel
theorem dX6_moved_19 : decode cX6_moved 19 = .ok (.istore 4, 2) := by decide +kernel
theorem dX6_moved_21 : decode cX6_moved 21 = .ok (.aload_n 0, 1) := by decide +kernel
theorem dX6_moved_22 : decode cX6_moved 22 = .ok (.getfield 7, 3) := by decide +kernel
theorem dX6_moved_25 : decode cX6_moved 25 = .ok (.getfield 38, 3) := by decide +kernel
theorem dX6_moved_28 : decode cX6_moved 28 = .ok (.iload_n 1, 1) := by decide +kernel
theorem dX6_moved_29 : decode cX6_moved 29 = .ok (.iaload, 1) := by decide +kernel
theorem dX6_moved_30 : decode cX6_moved 30 = .ok (.istore 5, 2) := by decide +kernel
theorem dX6_moved_32 : decode cX6_moved 32 = .ok (.iload_n 2, 1) := by decide +kernel
theorem dX6_moved_33 : decode cX6_moved 33 = .ok (.tableswitch 77 1 3 #[27, 45, 61], 27) := by decide +kernel
theorem dX6_moved_60 : decode cX6_moved 60 = .ok (.aload_n 0, 1) := by decide +kernel
theorem dX6_moved_61 : decode cX6_moved 61 = .ok (.getfield 7, 3) := by decide +kernel
theorem dX6_moved_64 : decode cX6_moved 64 = .ok (.getfield 32, 3) := by decide +kernel
theorem dX6_moved_67 : decode cX6_moved 67 = .ok (.iload_n 3, 1) := by decide +kernel
theorem dX6_moved_68 : decode cX6_moved 68 = .ok (.iload 5, 2) := by decide +kernel
theorem dX6_moved_70 : decode cX6_moved 70 = .ok (.isub, 1) := by decide +kernel
theorem dX6_moved_71 : decode cX6_moved 71 = .ok (.imul, 1) := by decide +kernel
theorem dX6_moved_72 : decode cX6_moved 72 = .ok (.iload_n 3, 1) := by decide +kernel
theorem dX6_moved_73 : decode cX6_moved 73 = .ok (.iadd, 1) := by decide +kernel
theorem dX6_moved_74 : decode cX6_moved 74 = .ok (.iload 4, 2) := by decide +kernel
theorem dX6_moved_76 : decode cX6_moved 76 = .ok (.isub, 1) := by decide +kernel
theorem dX6_moved_77 : decode cX6_moved 77 = .ok (.ireturn, 1) := by decide +kernel
theorem dX6_moved_78 : decode cX6_moved 78 = .ok (.aload_n 0, 1) := by decide +kernel
theorem dX6_moved_79 : decode cX6_moved 79 = .ok (.getfield 7, 3) := by decide +kernel
theorem dX6_moved_82 : decode cX6_moved 82 = .ok (.getfield 32, 3) := by decide +kernel
theorem dX6_moved_85 : decode cX6_moved 85 = .ok (.iload 5, 2) := by decide +kernel
theorem dX6_moved_87 : decode cX6_moved 87 = .ok (.imul, 1) := by decide +kernel
theorem dX6_moved_88 : decode cX6_moved 88 = .ok (.iload_n 3, 1) := by decide +kernel
theorem dX6_moved_89 : decode cX6_moved 89 = .ok (.iadd, 1) := by decide +kernel
theorem dX6_moved_90 : decode cX6_moved 90 = .ok (.iload 4, 2) := by decide +kernel
theorem dX6_moved_92 : decode cX6_moved 92 = .ok (.isub, 1) := by decide +kernel
theorem dX6_moved_93 : decode cX6_moved 93 = .ok (.ireturn, 1) := by decide +kernel
theorem dX6_moved_94 : decode cX6_moved 94 = .ok (.aload_n 0, 1) := by decide +kernel
theorem dX6_moved_95 : decode cX6_moved 95 = .ok (.getfield 7, 3) := by decide +kernel
theorem dX6_moved_98 : decode cX6_moved 98 = .ok (.getfield 32, 3) := by decide +kernel
theorem dX6_moved_101 : decode cX6_moved 101 = .ok (.iload 4, 2) := by decide +kernel
theorem dX6_moved_103 : decode cX6_moved 103 = .ok (.imul, 1) := by decide +kernel
theorem dX6_moved_104 : decode cX6_moved 104 = .ok (.iload_n 3, 1) := by decide +kernel
theorem dX6_moved_105 : decode cX6_moved 105 = .ok (.iadd, 1) := by decide +kernel
theorem dX6_moved_106 : decode cX6_moved 106 = .ok (.iload 5, 2) := by decide +kernel
theorem dX6_moved_108 : decode cX6_moved 108 = .ok (.isub, 1) := by decide +kernel
theorem dX6_moved_109 : decode cX6_moved 109 = .ok (.ireturn, 1) := by decide +kernel
theorem dX6_moved_110 : decode cX6_moved 110 = .ok (.iload_n 1, 1) := by decide +kernel
theorem dX6_moved_111 : decode cX6_moved 111 = .ok (.ireturn, 1) := by decide +kernel
set_option maxRecDepth 20000 in
theorem ggX7_init_X1_init : GoodIn wsX7_init wsX1_init := goodIn_r _ [11, 12, 2, 3, 13, 14, 15, 16, 17, 18, 19, 20, 21, 22, 23, 7, 24, 27, 28, 29, 30, 31, 32, 33, 34, 35, 36, 37, 38] (by decide +kernel) (by decide +kernel)
set_option maxRecDepth 20000 in
theorem gX7_init_X1_init : GoodIn wsX7_init (wsX1_init) := ggX7_init_X1_init
theorem dX7_init_0 : decode cX7_init 0 = .ok (.aload_n 0, 1) := by decide +kernel
theorem dX7_init_1 : decode cX7_init 1 = .ok (.invokespecial 1, 3) := by decide +kernel
theorem dX7_init_4 : decode cX7_init 4 = .ok (.aload_n 0, 1) := by decide +kernel
theorem dX7_init_5 : decode cX7_init 5 = .ok (.aload_n 1, 1) := by decide +kernel
theorem dX7_init_6 : decode cX7_init 6 = .ok (.putfield 7, 3) := by decide +kernel
theorem dX7_init_9 : decode cX7_init 9 = .ok (.aload_n 0, 1) := by decide +kernel
theorem dX7_init_10 : decode cX7_init 10 = .ok (.new 13, 3) := by decide +kernel
theorem dX7_init_13 : decode cX7_init 13 = .ok (.dup, 1) := by decide +kernel
theorem dX7_init_14 : decode cX7_init 14 = .ok (.aload_n 1, 1) := by decide +kernel
theorem dX7_init_15 : decode cX7_init 15 = .ok (.invokespecial 15, 3) := by decide +kernel
theorem dX7_init_18 : decode cX7_init 18 = .ok (.putfield 18, 3) := by decide +kernel
theorem dX7_init_21 : decode cX7_init 21 = .ok (.return_, 1) := by decide +kernel
set_option maxRecDepth 20000 in
theorem ggX7_countUnknown_X1_putAll : GoodIn wsX7_countUnknown wsX1_putAll := goodIn_r _ [8, 9, 10, 11, 12, 13, 7, 14, 15, 16, 17, 18, 19, 20, 21, 22, 23, 24, 25, 26, 27, 28, 29, 30, 79, 80, 81, 82, 83, 72, 73, 74, 75, 76, 77, 78] (by decide +kernel) (by decide +kernel)
set_option maxRecDepth 20000 in
theorem gX7_countUnknown_X1_putAll : GoodIn wsX7_countUnknown (wsV RX7 22 RX1 yX1_putAll wsX1_putAll) := goodIn_app (goodIn_of _ (by decide +kernel)) ggX7_countUnknown_X1_putAll
set_option maxRecDepth 20000 in
theorem ggX7_countUnknown_X7_fillLoneSymbols : GoodIn wsX7_countUnknown wsX7_fillLoneSymbols := goodIn_r _ [35, 2, 3, 1, 36, 37, 38, 7, 39, 15, 40, 41, 42, 43, 9, 44, 17, 28, 18, 29, 19, 30, 45, 46, 47, 48, 49, 50, 51, 52, 53, 54, 55, 56, 21, 22, 23, 24, 25, 26, 27, 70, 71, 72, 73, 74, 75, 76, 77, 78, 79, 80, 81, 82, 83] (by decide +kernel) (by decide +kernel)
set_option maxRecDepth 20000 in
theorem gX7_countUnknown_X7_fillLoneSymbols : GoodIn wsX7_countUnknown (wsV RX7 32 RX7 yX7_fillLoneSymbols wsX7_fillLoneSymbols) := goodIn_app (goodIn_of _ (by decide +kernel)) ggX7_countUnknown_X7_fillLoneSymbols
set_option maxRecDepth 20000 in
theorem ggX7_countUnknown_X7_fillLoneCells : GoodIn wsX7_countUnknown wsX7_fillLoneCells := goodIn_r _ [60, 2, 61, 62, 63, 64, 34, 65, 1, 36, 37, 38, 7, 39, 15, 40, 41, 42, 43, 9, 44, 17, 28, 18, 29, 19, 30, 66, 67, 68, 69, 52, 53, 47, 54, 55, 56, 21, 22, 23, 24, 25, 26, 27, 70, 71, 72, 73, 74, 75, 76, 77, 78, 79, 80, 81, 82, 83] (by decide +kernel) (by decide +kernel)
set_option maxRecDepth 20000 in
theorem gX7_countUnknown_X7_fillLoneCells : GoodIn wsX7_countUnknown (wsV RX7 36 RX7 yX7_fillLoneCells wsX7_fillLoneCells) := goodIn_app (goodIn_of _ (by decide +kernel)) ggX7_countUnknown_X7_fillLoneCells
set_option maxRecDepth 20000 in
theorem ggX7_countUnknown_X1_isEmpty : GoodIn wsX7_countUnknown wsX1_isEmpty := goodIn_r _ [39, 15, 79, 80, 81, 82, 83] (by decide +kernel) (by decide +kernel)
set_option maxRecDepth 20000 in
theorem gX7_countUnknown_X1_isEmpty : GoodIn wsX7_countUnknown (wsV RX7 39 RX1 yX1_isEmpty wsX1_isEmpty) := goodIn_app (goodIn_of _ (by decide +kernel)) ggX7_countUnknown_X1_isEmpty
theorem dX7_countUnknown_0 : decode cX7_countUnknown 0 = .ok (.aload_n 0, 1) := by decide +kernel
theorem dX7_countUnknown_1 : decode cX7_countUnknown 1 = .ok (.getfield 18, 3) := by decide +kernel
theorem dX7_countUnknown_4 : decode cX7_countUnknown 4 = .ok (.aload_n 1, 1) := by decide +kernel
theorem dX7_countUnknown_5 : decode cX7_countUnknown 5 = .ok (.invokevirtual 22, 3) := by decide +kernel
theorem dX7_countUnknown_8 : decode cX7_countUnknown 8 = .ok (.iconst 1, 1) := by decide +kernel
theorem dX7_countUnknown_9 : decode cX7_countUnknown 9 = .ok (.istore_n 2, 1) := by decide +kernel
theorem dX7_countUnknown_10 : decode cX7_countUnknown 10 = .ok (.iconst 0, 1) := by decide +kernel
theorem dX7_countUnknown_11 : decode cX7_countUnknown 11 = .ok (.istore_n 3, 1) := by decide +kernel
theorem dX7_countUnknown_12 : decode cX7_countUnknown 12 = .ok (.iload_n 3, 1) := by decide +kernel
theorem dX7_countUnknown_13 : decode cX7_countUnknown 13 = .ok (.aload_n 0, 1) := by decide +kernel
theorem dX7_countUnknown_14 : decode cX7_countUnknown 14 = .ok (.getfield 7, 3) := by decide +kernel
theorem dX7_countUnknown_17 : decode cX7_countUnknown 17 = .ok (.getfield 26, 3) := by decide +kernel
theorem dX7_countUnknown_20 : decode cX7_countUnknown 20 = .ok (.if_icmp .gt 41, 3) := by decide +kernel
theorem dX7_countUnknown_23 : decode cX7_countUnknown 23 = .ok (.iload_n 2, 1) := by decide +kernel
theorem dX7_countUnknown_24 : decode cX7_countUnknown 24 = .ok (.ifCond .eq 37, 3) := by decide +kernel
theorem dX7_countUnknown_27 : decode cX7_countUnknown 27 = .ok (.aload_n 0, 1) := by decide +kernel
theorem dX7_countUnknown_28 : decode cX7_countUnknown 28 = .ok (.invokevirtual 32, 3) := by decide +kernel
theorem dX7_countUnknown_31 : decode cX7_countUnknown 31 = .ok (.istore 4, 2) := by decide +kernel
theorem dX7_countUnknown_33 : decode cX7_countUnknown 33 = .ok (.aload_n 0, 1) := by decide +kernel
theorem dX7_countUnknown_34 : decode cX7_countUnknown 34 = .ok (.invokevirtual 36, 3) := by decide +kernel
theorem dX7_countUnknown_37 : decode cX7_countUnknown 37 = .ok (.istore 5, 2) := by decide +kernel
theorem dX7_countUnknown_39 : decode cX7_countUnknown 39 = .ok (.iload 4, 2) := by decide +kernel
theorem dX7_countUnknown_41 : decode cX7_countUnknown 41 = .ok (.ifCond .ne 8, 3) := by decide +kernel
theorem dX7_countUnknown_44 : decode cX7_countUnknown 44 = .ok (.iload 5, 2) := by decide +kernel
theorem dX7_countUnknown_46 : decode cX7_countUnknown 46 = .ok (.ifCond .eq 7, 3) := by decide +kernel
theorem dX7_countUnknown_49 : decode cX7_countUnknown 49 = .ok (.iconst 1, 1) := by decide +kernel
theorem dX7_countUnknown_50 : decode cX7_countUnknown 50 = .ok (.goto 4, 3) := by decide +kernel
theorem dX7_countUnknown_53 : decode cX7_countUnknown 53 = .ok (.iconst 0, 1) := by decide +kernel
theorem dX7_countUnknown_54 : decode cX7_countUnknown 54 = .ok (.istore_n 2, 1) := by decide +kernel
theorem dX7_countUnknown_55 : decode cX7_countUnknown 55 = .ok (.iinc 3 1, 3) := by decide +kernel
theorem dX7_countUnknown_58 : decode cX7_countUnknown 58 = .ok (.goto (-46), 3) := by decide +kernel
theorem dX7_countUnknown_61 : decode cX7_countUnknown 61 = .ok (.iconst 0, 1) := by decide +kernel
theorem dX7_countUnknown_62 : decode cX7_countUnknown 62 = .ok (.istore_n 3, 1) := by decide +kernel
theorem dX7_countUnknown_63 : decode cX7_countUnknown 63 = .ok (.iconst 0, 1) := by decide +kernel
theorem dX7_countUnknown_64 : decode cX7_countUnknown 64 = .ok (.istore 4, 2) := by decide +kernel
theorem dX7_countUnknown_66 : decode cX7_countUnknown 66 = .ok (.iload 4, 2) := by decide +kernel
theorem dX7_countUnknown_68 : decode cX7_countUnknown 68 = .ok (.aload_n 0, 1) := by decide +kernel
theorem dX7_countUnknown_69 : decode cX7_countUnknown 69 = .ok (.getfield 7, 3) := by decide +kernel
theorem dX7_countUnknown_72 : decode cX7_countUnknown 72 = .ok (.getfield 26, 3) := by decide +kernel
theorem dX7_countUnknown_75 : decode cX7_countUnknown 75 = .ok (.if_icmp .ge 24, 3) := by decide +kernel
theorem dX7_countUnknown_78 : decode cX7_countUnknown 78 = .ok (.aload_n 0, 1) := by decide +kernel
theorem dX7_countUnknown_79 : decode cX7_countUnknown 79 = .ok (.getfield 18, 3) := by decide +kernel
theorem dX7_countUnknown_82 : decode cX7_countUnknown 82 = .ok (.iload 4, 2) := by decide +kernel
theorem dX7_countUnknown_84 : decode cX7_countUnknown 84 = .ok (.invokevirtual 39, 3) := by decide +kernel
theorem dX7_countUnknown_87 : decode cX7_countUnknown 87 = .ok (.ifCond .eq 6, 3) := by decide +kernel
theorem dX7_countUnknown_90 : decode cX7_countUnknown 90 = .ok (.iinc 3 1, 3) := by decide +kernel
theorem dX7_countUnknown_93 : decode cX7_countUnknown 93 = .ok (.iinc 4 1, 3) := by decide +kernel
theorem dX7_countUnknown_96 : decode cX7_countUnknown 96 = .ok (.goto (-30), 3) := by decide +kernel
theorem dX7_countUnknown_99 : decode cX7_countUnknown 99 = .ok (.iload_n 3, 1) := by decide +kernel
theorem dX7_countUnknown_100 : decode cX7_countUnknown 100 = .ok (.ireturn, 1) := by decide +kernel
set_option maxRecDepth 20000 in
theorem ggX7_fillLoneSymbols_X1_isEmpty : GoodIn wsX7_fillLoneSymbols wsX1_isEmpty := goodIn_r _ [8, 9, 50, 51, 52, 53, 54] (by decide +kernel) (by decide +kernel)
set_option maxRecDepth 20000 in
theorem gX7_fillLoneSymbols_X1_isEmpty : GoodIn wsX7_fillLoneSymbols (wsV RX7 39 RX1 yX1_isEmpty wsX1_isEmpty) := goodIn_app (goodIn_of _ (by decide +kernel)) ggX7_fillLoneSymbols_X1_isEmpty
set_option maxRecDepth 20000 in
theorem ggX7_fillLoneSymbols_X1_may : GoodIn wsX7_fillLoneSymbols wsX1_may := goodIn_r _ [13, 14, 15, 16, 17, 18, 19, 20, 21, 50, 51, 52, 53, 54, 43, 44, 45, 46, 47, 48, 49] (by decide +kernel) (by decide +kernel)
set_option maxRecDepth 20000 in
theorem gX7_fillLoneSymbols_X1_may : GoodIn wsX7_fillLoneSymbols (wsV RX7 43 RX1 yX1_may wsX1_may) := goodIn_app (goodIn_of _ (by decide +kernel)) ggX7_fillLoneSymbols_X1_may
set_option maxRecDepth 20000 in
theorem ggX7_fillLoneSymbols_J6_bitCount_0f7a4 : GoodIn wsX7_fillLoneSymbols wsJ6_bitCount_0f7a4 := goodIn_r _ [25, 26, 27, 28] (by decide +kernel) (by decide +kernel)
set_option maxRecDepth 20000 in
theorem gX7_fillLoneSymbols_J6_bitCount_0f7a4 : GoodIn wsX7_fillLoneSymbols (va_wsS RX7 47 yJ6_bitCount_0f7a4 wsJ6_bitCount_0f7a4) := goodIn_app (goodIn_of _ (by decide +kernel)) ggX7_fillLoneSymbols_J6_bitCount_0f7a4
set_option maxRecDepth 20000 in
theorem ggX7_fillLoneSymbols_J6_numberOfTrailingZeros_0f7a4 : GoodIn wsX7_fillLoneSymbols wsJ6_numberOfTrailingZeros_0f7a4 := goodIn_r _ [31, 32] (by decide +kernel) (by decide +kernel)
set_option maxRecDepth 20000 in
theorem gX7_fillLoneSymbols_J6_numberOfTrailingZeros_0f7a4 : GoodIn wsX7_fillLoneSymbols (va_wsS RX7 52 yJ6_numberOfTrailingZeros_0f7a4 wsJ6_numberOfTrailingZeros_0f7a4) := goodIn_app (goodIn_of _ (by decide +kernel)) ggX7_fillLoneSymbols_J6_numberOfTrailingZeros_0f7a4
set_option maxRecDepth 20000 in
theorem ggX7_fillLoneSymbols_X1_put : GoodIn wsX7_fillLoneSymbols wsX1_put := goodIn_r _ [36, 9, 37, 38, 39, 7, 40, 16, 14, 17, 18, 19, 20, 21, 50, 51, 52, 53, 54, 43, 44, 45, 46, 47, 48, 49] (by decide +kernel) (by decide +kernel)
set_option maxRecDepth 20000 in
theorem gX7_fillLoneSymbols_X1_put : GoodIn wsX7_fillLoneSymbols (wsV RX7 55 RX1 yX1_put wsX1_put) := goodIn_app (goodIn_of _ (by decide +kernel)) ggX7_fillLoneSymbols_X1_put
theorem dX7_fillLoneSymbols_0 : decode cX7_fillLoneSymbols 0 = .ok (.iconst 0, 1) := by decide +kernel
theorem dX7_fillLoneSymbols_1 : decode cX7_fillLoneSymbols 1 = .ok (.istore_n 1, 1) := by decide +kernel
theorem dX7_fillLoneSymbols_2 : decode cX7_fillLoneSymbols 2 = .ok (.iconst 0, 1) := by decide +kernel
theorem dX7_fillLoneSymbols_3 : decode cX7_fillLoneSymbols 3 = .ok (.istore_n 2, 1) := by decide +kernel
theorem dX7_fillLoneSymbols_4 : decode cX7_fillLoneSymbols 4 = .ok (.iload_n 2, 1) := by decide +kernel
theorem dX7_fillLoneSymbols_5 : decode cX7_fillLoneSymbols 5 = .ok (.aload_n 0, 1) := by decide +kernel
theorem dX7_fillLoneSymbols_6 : decode cX7_fillLoneSymbols 6 = .ok (.getfield 7, 3) := by decide +kernel
theorem dX7_fillLoneSymbols_9 : decode cX7_fillLoneSymbols 9 = .ok (.getfield 26, 3) := by decide +kernel
theorem dX7_fillLoneSymbols_12 : decode cX7_fillLoneSymbols 12 = .ok (.if_icmp .ge 51, 3) := by decide +kernel
theorem dX7_fillLoneSymbols_15 : decode cX7_fillLoneSymbols 15 = .ok (.aload_n 0, 1) := by decide +kernel
theorem dX7_fillLoneSymbols_16 : decode cX7_fillLoneSymbols 16 = .ok (.getfield 18, 3) := by decide +kernel
theorem dX7_fillLoneSymbols_19 : decode cX7_fillLoneSymbols 19 = .ok (.iload_n 2, 1) := by decide +kernel
theorem dX7_fillLoneSymbols_20 : decode cX7_fillLoneSymbols 20 = .ok (.invokevirtual 39, 3) := by decide +kernel
theorem dX7_fillLoneSymbols_23 : decode cX7_fillLoneSymbols 23 = .ok (.ifCond .eq 34, 3) := by decide +kernel
theorem dX7_fillLoneSymbols_26 : decode cX7_fillLoneSymbols 26 = .ok (.aload_n 0, 1) := by decide +kernel
theorem dX7_fillLoneSymbols_27 : decode cX7_fillLoneSymbols 27 = .ok (.getfield 18, 3) := by decide +kernel
theorem dX7_fillLoneSymbols_30 : decode cX7_fillLoneSymbols 30 = .ok (.iload_n 2, 1) := by decide +kernel
theorem dX7_fillLoneSymbols_31 : decode cX7_fillLoneSymbols 31 = .ok (.invokevirtual 43, 3) := by decide +kernel
theorem dX7_fillLoneSymbols_34 : decode cX7_fillLoneSymbols 34 = .ok (.istore_n 3, 1) := by decide +kernel
theorem dX7_fillLoneSymbols_35 : decode cX7_fillLoneSymbols 35 = .ok (.iload_n 3, 1) := by decide +kernel
theorem dX7_fillLoneSymbols_36 : decode cX7_fillLoneSymbols 36 = .ok (.invokestatic 47, 3) := by decide +kernel
theorem dX7_fillLoneSymbols_39 : decode cX7_fillLoneSymbols 39 = .ok (.iconst 1, 1) := by decide +kernel
theorem dX7_fillLoneSymbols_40 : decode cX7_fillLoneSymbols 40 = .ok (.if_icmp .ne 17, 3) := by decide +kernel
theorem dX7_fillLoneSymbols_43 : decode cX7_fillLoneSymbols 43 = .ok (.aload_n 0, 1) := by decide +kernel
theorem dX7_fillLoneSymbols_44 : decode cX7_fillLoneSymbols 44 = .ok (.getfield 18, 3) := by decide +kernel
theorem dX7_fillLoneSymbols_47 : decode cX7_fillLoneSymbols 47 = .ok (.iload_n 2, 1) := by decide +kernel
theorem dX7_fillLoneSymbols_48 : decode cX7_fillLoneSymbols 48 = .ok (.iload_n 3, 1) := by decide +kernel
theorem dX7_fillLoneSymbols_49 : decode cX7_fillLoneSymbols 49 = .ok (.invokestatic 52, 3) := by decide +kernel
theorem dX7_fillLoneSymbols_52 : decode cX7_fillLoneSymbols 52 = .ok (.invokevirtual 55, 3) := by decide +kernel
theorem dX7_fillLoneSymbols_55 : decode cX7_fillLoneSymbols 55 = .ok (.iconst 1, 1) := by decide +kernel
theorem dX7_fillLoneSymbols_56 : decode cX7_fillLoneSymbols 56 = .ok (.istore_n 1, 1) := by decide +kernel
theorem dX7_fillLoneSymbols_57 : decode cX7_fillLoneSymbols 57 = .ok (.iinc 2 1, 3) := by decide +kernel
theorem dX7_fillLoneSymbols_60 : decode cX7_fillLoneSymbols 60 = .ok (.goto (-56), 3) := by decide +kernel
theorem dX7_fillLoneSymbols_63 : decode cX7_fillLoneSymbols 63 = .ok (.iload_n 1, 1) := by decide +kernel
theorem dX7_fillLoneSymbols_64 : decode cX7_fillLoneSymbols 64 = .ok (.ireturn, 1) := by decide +kernel
set_option maxRecDepth 20000 in
theorem ggX7_fillLoneCells_X7_symbolsOfOneCell : GoodIn wsX7_fillLoneCells wsX7_symbolsOfOneCell := goodIn_r _ [7, 8, 9, 10, 11, 12, 13, 14, 15, 16, 17, 18, 19, 20, 21, 22, 23, 24, 25, 26, 44, 45, 53, 54, 55, 56, 57, 46, 47, 48, 49, 50, 51, 52] (by decide +kernel) (by decide +kernel)
set_option maxRecDepth 20000 in
theorem gX7_fillLoneCells_X7_symbolsOfOneCell : GoodIn wsX7_fillLoneCells (wsV RX7 63 RX7 yX7_symbolsOfOneCell wsX7_symbolsOfOneCell) := goodIn_app (goodIn_of _ (by decide +kernel)) ggX7_fillLoneCells_X7_symbolsOfOneCell
set_option maxRecDepth 20000 in
theorem ggX7_fillLoneCells_X7_fillFrom : GoodIn wsX7_fillLoneCells wsX7_fillFrom := goodIn_r _ [30, 8, 9, 10, 11, 12, 13, 14, 15, 16, 17, 18, 19, 20, 21, 22, 23, 24, 25, 26, 31, 32, 33, 34, 35, 36, 37, 38, 39, 40, 41, 42, 43, 44, 45, 53, 54, 55, 56, 57, 46, 47, 48, 49, 50, 51, 52] (by decide +kernel) (by decide +kernel)
set_option maxRecDepth 20000 in
theorem gX7_fillLoneCells_X7_fillFrom : GoodIn wsX7_fillLoneCells (wsV RX7 67 RX7 yX7_fillFrom wsX7_fillFrom) := goodIn_app (goodIn_of _ (by decide +kernel)) ggX7_fillLoneCells_X7_fillFrom
theorem dX7_fillLoneCells_0 : decode cX7_fillLoneCells 0 = .ok (.iconst 0, 1) := by decide +kernel
theorem dX7_fillLoneCells_1 : decode cX7_fillLoneCells 1 = .ok (.istore_n 1, 1) := by decide +kernel
theorem dX7_fillLoneCells_2 : decode cX7_fillLoneCells 2 = .ok (.iconst 0, 1) := by decide +kernel
theorem dX7_fillLoneCells_3 : decode cX7_fillLoneCells 3 = .ok (.istore_n 2, 1) := by decide +kernel
theorem dX7_fillLoneCells_4 : decode cX7_fillLoneCells 4 = .ok (.iload_n 2, 1) := by decide +kernel
theorem dX7_fillLoneCells_5 : decode cX7_fillLoneCells 5 = .ok (.aload_n 0, 1) := by decide +kernel
theorem dX7_fillLoneCells_6 : decode cX7_fillLoneCells 6 = .ok (.getfield 7, 3) := by decide +kernel
theorem dX7_fillLoneCells_9 : decode cX7_fillLoneCells 9 = .ok (.getfield 59, 3) := by decide +kernel
theorem dX7_fillLoneCells_12 : decode cX7_fillLoneCells 12 = .ok (.arraylength, 1) := by decide +kernel
theorem dX7_fillLoneCells_13 : decode cX7_fillLoneCells 13 = .ok (.if_icmp .ge 46, 3) := by decide +kernel
theorem dX7_fillLoneCells_16 : decode cX7_fillLoneCells 16 = .ok (.aload_n 0, 1) := by decide +kernel
theorem dX7_fillLoneCells_17 : decode cX7_fillLoneCells 17 = .ok (.aload_n 0, 1) := by decide +kernel
theorem dX7_fillLoneCells_18 : decode cX7_fillLoneCells 18 = .ok (.getfield 7, 3) := by decide +kernel
theorem dX7_fillLoneCells_21 : decode cX7_fillLoneCells 21 = .ok (.getfield 59, 3) := by decide +kernel
theorem dX7_fillLoneCells_24 : decode cX7_fillLoneCells 24 = .ok (.iload_n 2, 1) := by decide +kernel
theorem dX7_fillLoneCells_25 : decode cX7_fillLoneCells 25 = .ok (.aaload, 1) := by decide +kernel
theorem dX7_fillLoneCells_26 : decode cX7_fillLoneCells 26 = .ok (.invokevirtual 63, 3) := by decide +kernel
theorem dX7_fillLoneCells_29 : decode cX7_fillLoneCells 29 = .ok (.istore_n 3, 1) := by decide +kernel
theorem dX7_fillLoneCells_30 : decode cX7_fillLoneCells 30 = .ok (.iload_n 3, 1) := by decide +kernel
theorem dX7_fillLoneCells_31 : decode cX7_fillLoneCells 31 = .ok (.ifCond .eq 22, 3) := by decide +kernel
theorem dX7_fillLoneCells_34 : decode cX7_fillLoneCells 34 = .ok (.aload_n 0, 1) := by decide +kernel
theorem dX7_fillLoneCells_35 : decode cX7_fillLoneCells 35 = .ok (.aload_n 0, 1) := by decide +kernel
theorem dX7_fillLoneCells_36 : decode cX7_fillLoneCells 36 = .ok (.getfield 7, 3) := by decide +kernel
theorem dX7_fillLoneCells_39 : decode cX7_fillLoneCells 39 = .ok (.getfield 59, 3) := by decide +kernel
theorem dX7_fillLoneCells_42 : decode cX7_fillLoneCells 42 = .ok (.iload_n 2, 1) := by decide +kernel
theorem dX7_fillLoneCells_43 : decode cX7_fillLoneCells 43 = .ok (.aaload, 1) := by decide +kernel
theorem dX7_fillLoneCells_44 : decode cX7_fillLoneCells 44 = .ok (.iload_n 3, 1) := by decide +kernel
theorem dX7_fillLoneCells_45 : decode cX7_fillLoneCells 45 = .ok (.invokevirtual 67, 3) := by decide +kernel
theorem dX7_fillLoneCells_48 : decode cX7_fillLoneCells 48 = .ok (.ifCond .eq 5, 3) := by decide +kernel
theorem dX7_fillLoneCells_51 : decode cX7_fillLoneCells 51 = .ok (.iconst 1, 1) := by decide +kernel
theorem dX7_fillLoneCells_52 : decode cX7_fillLoneCells 52 = .ok (.istore_n 1, 1) := by decide +kernel
theorem dX7_fillLoneCells_53 : decode cX7_fillLoneCells 53 = .ok (.iinc 2 1, 3) := by decide +kernel
theorem dX7_fillLoneCells_56 : decode cX7_fillLoneCells 56 = .ok (.goto (-52), 3) := by decide +kernel
theorem dX7_fillLoneCells_59 : decode cX7_fillLoneCells 59 = .ok (.iload_n 1, 1) := by decide +kernel
theorem dX7_fillLoneCells_60 : decode cX7_fillLoneCells 60 = .ok (.ireturn, 1) := by decide +kernel
set_option maxRecDepth 20000 in
theorem ggX7_symbolsOfOneCell_X1_isEmpty : GoodIn wsX7_symbolsOfOneCell wsX1_isEmpty := goodIn_r _ [6, 7, 22, 23, 24, 25, 26] (by decide +kernel) (by decide +kernel)
set_option maxRecDepth 20000 in
theorem gX7_symbolsOfOneCell_X1_isEmpty : GoodIn wsX7_symbolsOfOneCell (wsV RX7 39 RX1 yX1_isEmpty wsX1_isEmpty) := goodIn_app (goodIn_of _ (by decide +kernel)) ggX7_symbolsOfOneCell_X1_isEmpty
set_option maxRecDepth 20000 in
theorem ggX7_symbolsOfOneCell_X1_may : GoodIn wsX7_symbolsOfOneCell wsX1_may := goodIn_r _ [11, 12, 13, 14, 15, 16, 17, 18, 19, 22, 23, 24, 25, 26, 27, 28, 29, 30, 31, 32, 33] (by decide +kernel) (by decide +kernel)
set_option maxRecDepth 20000 in
theorem gX7_symbolsOfOneCell_X1_may : GoodIn wsX7_symbolsOfOneCell (wsV RX7 43 RX1 yX1_may wsX1_may) := goodIn_app (goodIn_of _ (by decide +kernel)) ggX7_symbolsOfOneCell_X1_may
theorem dX7_symbolsOfOneCell_0 : decode cX7_symbolsOfOneCell 0 = .ok (.iconst 0, 1) := by decide +kernel
theorem dX7_symbolsOfOneCell_1 : decode cX7_symbolsOfOneCell 1 = .ok (.istore_n 2, 1) := by decide +kernel
theorem dX7_symbolsOfOneCell_2 : decode cX7_symbolsOfOneCell 2 = .ok (.iconst 0, 1) := by decide +kernel
theorem dX7_symbolsOfOneCell_3 : decode cX7_symbolsOfOneCell 3 = .ok (.istore_n 3, 1) := by decide +kernel
theorem dX7_symbolsOfOneCell_4 : decode cX7_symbolsOfOneCell 4 = .ok (.iconst 0, 1) := by decide +kernel
theorem dX7_symbolsOfOneCell_5 : decode cX7_symbolsOfOneCell 5 = .ok (.istore 4, 2) := by decide +kernel
theorem dX7_symbolsOfOneCell_7 : decode cX7_symbolsOfOneCell 7 = .ok (.iload 4, 2) := by decide +kernel
theorem dX7_symbolsOfOneCell_9 : decode cX7_symbolsOfOneCell 9 = .ok (.aload_n 1, 1) := by decide +kernel
theorem dX7_symbolsOfOneCell_10 : decode cX7_symbolsOfOneCell 10 = .ok (.arraylength, 1) := by decide +kernel
theorem dX7_symbolsOfOneCell_11 : decode cX7_symbolsOfOneCell 11 = .ok (.if_icmp .ge 48, 3) := by decide +kernel
theorem dX7_symbolsOfOneCell_14 : decode cX7_symbolsOfOneCell 14 = .ok (.aload_n 0, 1) := by decide +kernel
theorem dX7_symbolsOfOneCell_15 : decode cX7_symbolsOfOneCell 15 = .ok (.getfield 18, 3) := by decide +kernel
theorem dX7_symbolsOfOneCell_18 : decode cX7_symbolsOfOneCell 18 = .ok (.aload_n 1, 1) := by decide +kernel
theorem dX7_symbolsOfOneCell_19 : decode cX7_symbolsOfOneCell 19 = .ok (.iload 4, 2) := by decide +kernel
theorem dX7_symbolsOfOneCell_21 : decode cX7_symbolsOfOneCell 21 = .ok (.iaload, 1) := by decide +kernel
theorem dX7_symbolsOfOneCell_22 : decode cX7_symbolsOfOneCell 22 = .ok (.invokevirtual 39, 3) := by decide +kernel
theorem dX7_symbolsOfOneCell_25 : decode cX7_symbolsOfOneCell 25 = .ok (.ifCond .eq 28, 3) := by decide +kernel
theorem dX7_symbolsOfOneCell_28 : decode cX7_symbolsOfOneCell 28 = .ok (.aload_n 0, 1) := by decide +kernel
theorem dX7_symbolsOfOneCell_29 : decode cX7_symbolsOfOneCell 29 = .ok (.getfield 18, 3) := by decide +kernel
theorem dX7_symbolsOfOneCell_32 : decode cX7_symbolsOfOneCell 32 = .ok (.aload_n 1, 1) := by decide +kernel
theorem dX7_symbolsOfOneCell_33 : decode cX7_symbolsOfOneCell 33 = .ok (.iload 4, 2) := by decide +kernel
theorem dX7_symbolsOfOneCell_35 : decode cX7_symbolsOfOneCell 35 = .ok (.iaload, 1) := by decide +kernel
theorem dX7_symbolsOfOneCell_36 : decode cX7_symbolsOfOneCell 36 = .ok (.invokevirtual 43, 3) := by decide +kernel
theorem dX7_symbolsOfOneCell_39 : decode cX7_symbolsOfOneCell 39 = .ok (.istore 5, 2) := by decide +kernel
theorem dX7_symbolsOfOneCell_41 : decode cX7_symbolsOfOneCell 41 = .ok (.iload_n 3, 1) := by decide +kernel
theorem dX7_symbolsOfOneCell_42 : decode cX7_symbolsOfOneCell 42 = .ok (.iload_n 2, 1) := by decide +kernel
theorem dX7_symbolsOfOneCell_43 : decode cX7_symbolsOfOneCell 43 = .ok (.iload 5, 2) := by decide +kernel
theorem dX7_symbolsOfOneCell_45 : decode cX7_symbolsOfOneCell 45 = .ok (.iand, 1) := by decide +kernel
theorem dX7_symbolsOfOneCell_46 : decode cX7_symbolsOfOneCell 46 = .ok (.ior, 1) := by decide +kernel
theorem dX7_symbolsOfOneCell_47 : decode cX7_symbolsOfOneCell 47 = .ok (.istore_n 3, 1) := by decide +kernel
theorem dX7_symbolsOfOneCell_48 : decode cX7_symbolsOfOneCell 48 = .ok (.iload_n 2, 1) := by decide +kernel
theorem dX7_symbolsOfOneCell_49 : decode cX7_symbolsOfOneCell 49 = .ok (.iload 5, 2) := by decide +kernel
theorem dX7_symbolsOfOneCell_51 : decode cX7_symbolsOfOneCell 51 = .ok (.ior, 1) := by decide +kernel
theorem dX7_symbolsOfOneCell_52 : decode cX7_symbolsOfOneCell 52 = .ok (.istore_n 2, 1) := by decide +kernel
theorem dX7_symbolsOfOneCell_53 : decode cX7_symbolsOfOneCell 53 = .ok (.iinc 4 1, 3) := by decide +kernel
theorem dX7_symbolsOfOneCell_56 : decode cX7_symbolsOfOneCell 56 = .ok (.goto (-49), 3) := by decide +kernel
theorem dX7_symbolsOfOneCell_59 : decode cX7_symbolsOfOneCell 59 = .ok (.iload_n 2, 1) := by decide +kernel
theorem dX7_symbolsOfOneCell_60 : decode cX7_symbolsOfOneCell 60 = .ok (.iload_n 3, 1) := by decide +kernel
theorem dX7_symbolsOfOneCell_61 : decode cX7_symbolsOfOneCell 61 = .ok (.iconst (-1), 1) := by decide +kernel
theorem dX7_symbolsOfOneCell_62 : decode cX7_symbolsOfOneCell 62 = .ok (.ixor, 1) := by decide +kernel
theorem dX7_symbolsOfOneCell_63 : decode cX7_symbolsOfOneCell 63 = .ok (.iand, 1) := by decide +kernel
theorem dX7_symbolsOfOneCell_64 : decode cX7_symbolsOfOneCell 64 = .ok (.ireturn, 1) := by decide +kernel
set_option maxRecDepth 20000 in
theorem ggX7_fillFrom_X1_isEmpty : GoodIn wsX7_fillFrom wsX1_isEmpty := goodIn_r _ [6, 7, 35, 36, 37, 38, 39] (by decide +kernel) (by decide +kernel)
set_option maxRecDepth 20000 in
theorem gX7_fillFrom_X1_isEmpty : GoodIn wsX7_fillFrom (wsV RX7 39 RX1 yX1_isEmpty wsX1_isEmpty) := goodIn_app (goodIn_of _ (by decide +kernel)) ggX7_fillFrom_X1_isEmpty
set_option maxRecDepth 20000 in
theorem ggX7_fillFrom_X1_may : GoodIn wsX7_fillFrom wsX1_may := goodIn_r _ [11, 12, 13, 14, 15, 16, 17, 18, 19, 35, 36, 37, 38, 39, 40, 41, 42, 43, 44, 45, 46] (by decide +kernel) (by decide +kernel)
set_option maxRecDepth 20000 in
theorem gX7_fillFrom_X1_may : GoodIn wsX7_fillFrom (wsV RX7 43 RX1 yX1_may wsX1_may) := goodIn_app (goodIn_of _ (by decide +kernel)) ggX7_fillFrom_X1_may
set_option maxRecDepth 20000 in
theorem ggX7_fillFrom_J6_numberOfTrailingZeros_0f7a4 : GoodIn wsX7_fillFrom wsJ6_numberOfTrailingZeros_0f7a4 := goodIn_r _ [23, 24] (by decide +kernel) (by decide +kernel)
set_option maxRecDepth 20000 in
theorem gX7_fillFrom_J6_numberOfTrailingZeros_0f7a4 : GoodIn wsX7_fillFrom (va_wsS RX7 52 yJ6_numberOfTrailingZeros_0f7a4 wsJ6_numberOfTrailingZeros_0f7a4) := goodIn_app (goodIn_of _ (by decide +kernel)) ggX7_fillFrom_J6_numberOfTrailingZeros_0f7a4
set_option maxRecDepth 20000 in
theorem ggX7_fillFrom_X1_put : GoodIn wsX7_fillFrom wsX1_put := goodIn_r _ [28, 7, 29, 30, 31, 5, 32, 14, 12, 15, 16, 17, 18, 19, 35, 36, 37, 38, 39, 40, 41, 42, 43, 44, 45, 46] (by decide +kernel) (by decide +kernel)
set_option maxRecDepth 20000 in
theorem gX7_fillFrom_X1_put : GoodIn wsX7_fillFrom (wsV RX7 55 RX1 yX1_put wsX1_put) := goodIn_app (goodIn_of _ (by decide +kernel)) ggX7_fillFrom_X1_put
theorem dX7_fillFrom_0 : decode cX7_fillFrom 0 = .ok (.iconst 0, 1) := by decide +kernel
theorem dX7_fillFrom_1 : decode cX7_fillFrom 1 = .ok (.istore_n 3, 1) := by decide +kernel
theorem dX7_fillFrom_2 : decode cX7_fillFrom 2 = .ok (.iconst 0, 1) := by decide +kernel
theorem dX7_fillFrom_3 : decode cX7_fillFrom 3 = .ok (.istore 4, 2) := by decide +kernel
theorem dX7_fillFrom_5 : decode cX7_fillFrom 5 = .ok (.iload 4, 2) := by decide +kernel
theorem dX7_fillFrom_7 : decode cX7_fillFrom 7 = .ok (.aload_n 1, 1) := by decide +kernel
theorem dX7_fillFrom_8 : decode cX7_fillFrom 8 = .ok (.arraylength, 1) := by decide +kernel
theorem dX7_fillFrom_9 : decode cX7_fillFrom 9 = .ok (.if_icmp .ge 61, 3) := by decide +kernel
theorem dX7_fillFrom_12 : decode cX7_fillFrom 12 = .ok (.aload_n 0, 1) := by decide +kernel
theorem dX7_fillFrom_13 : decode cX7_fillFrom 13 = .ok (.getfield 18, 3) := by decide +kernel
theorem dX7_fillFrom_16 : decode cX7_fillFrom 16 = .ok (.aload_n 1, 1) := by decide +kernel
theorem dX7_fillFrom_17 : decode cX7_fillFrom 17 = .ok (.iload 4, 2) := by decide +kernel
theorem dX7_fillFrom_19 : decode cX7_fillFrom 19 = .ok (.iaload, 1) := by decide +kernel
theorem dX7_fillFrom_20 : decode cX7_fillFrom 20 = .ok (.invokevirtual 39, 3) := by decide +kernel
theorem dX7_fillFrom_23 : decode cX7_fillFrom 23 = .ok (.ifCond .eq 41, 3) := by decide +kernel
theorem dX7_fillFrom_26 : decode cX7_fillFrom 26 = .ok (.aload_n 0, 1) := by decide +kernel
theorem dX7_fillFrom_27 : decode cX7_fillFrom 27 = .ok (.getfield 18, 3) := by decide +kernel
theorem dX7_fillFrom_30 : decode cX7_fillFrom 30 = .ok (.aload_n 1, 1) := by decide +kernel
theorem dX7_fillFrom_31 : decode cX7_fillFrom 31 = .ok (.iload 4, 2) := by decide +kernel
theorem dX7_fillFrom_33 : decode cX7_fillFrom 33 = .ok (.iaload, 1) := by decide +kernel
theorem dX7_fillFrom_34 : decode cX7_fillFrom 34 = .ok (.invokevirtual 43, 3) := by decide +kernel
theorem dX7_fillFrom_37 : decode cX7_fillFrom 37 = .ok (.iload_n 2, 1) := by decide +kernel
theorem dX7_fillFrom_38 : decode cX7_fillFrom 38 = .ok (.iand, 1) := by decide +kernel
theorem dX7_fillFrom_39 : decode cX7_fillFrom 39 = .ok (.istore 5, 2) := by decide +kernel
theorem dX7_fillFrom_41 : decode cX7_fillFrom 41 = .ok (.iload 5, 2) := by decide +kernel
theorem dX7_fillFrom_43 : decode cX7_fillFrom 43 = .ok (.ifCond .eq 21, 3) := by decide +kernel
theorem dX7_fillFrom_46 : decode cX7_fillFrom 46 = .ok (.aload_n 0, 1) := by decide +kernel
theorem dX7_fillFrom_47 : decode cX7_fillFrom 47 = .ok (.getfield 18, 3) := by decide +kernel
theorem dX7_fillFrom_50 : decode cX7_fillFrom 50 = .ok (.aload_n 1, 1) := by decide +kernel
theorem dX7_fillFrom_51 : decode cX7_fillFrom 51 = .ok (.iload 4, 2) := by decide +kernel
theorem dX7_fillFrom_53 : decode cX7_fillFrom 53 = .ok (.iaload, 1) := by decide +kernel
theorem dX7_fillFrom_54 : decode cX7_fillFrom 54 = .ok (.iload 5, 2) := by decide +kernel
theorem dX7_fillFrom_56 : decode cX7_fillFrom 56 = .ok (.invokestatic 52, 3) := by decide +kernel
theorem dX7_fillFrom_59 : decode cX7_fillFrom 59 = .ok (.invokevirtual 55, 3) := by decide +kernel
theorem dX7_fillFrom_62 : decode cX7_fillFrom 62 = .ok (.iconst 1, 1) := by decide +kernel
theorem dX7_fillFrom_63 : decode cX7_fillFrom 63 = .ok (.istore_n 3, 1) := by decide +kernel
theorem dX7_fillFrom_64 : decode cX7_fillFrom 64 = .ok (.iinc 4 1, 3) := by decide +kernel
theorem dX7_fillFrom_67 : decode cX7_fillFrom 67 = .ok (.goto (-62), 3) := by decide +kernel
theorem dX7_fillFrom_70 : decode cX7_fillFrom 70 = .ok (.iload_n 3, 1) := by decide +kernel
theorem dX7_fillFrom_71 : decode cX7_fillFrom 71 = .ok (.ireturn, 1) := by decide +kernel
set_option maxRecDepth 20000 in
theorem ggX8_init_X1_init : GoodIn wsX8_init wsX1_init := goodIn_r _ [15, 16, 2, 3, 17, 18, 11, 19, 20, 21, 22, 23, 24, 25, 26, 8, 27, 32, 33, 34, 35, 36, 37, 38, 39, 40, 41, 42, 43] (by decide +kernel) (by decide +kernel)
set_option maxRecDepth 20000 in
theorem gX8_init_X1_init : GoodIn wsX8_init (wsX1_init) := ggX8_init_X1_init
theorem dX8_init_0 : decode cX8_init 0 = .ok (.aload_n 0, 1) := by decide +kernel
theorem dX8_init_1 : decode cX8_init 1 = .ok (.invokespecial 1, 3) := by decide +kernel
theorem dX8_init_4 : decode cX8_init 4 = .ok (.aload_n 0, 1) := by decide +kernel
theorem dX8_init_5 : decode cX8_init 5 = .ok (.iconst 0, 1) := by decide +kernel
theorem dX8_init_6 : decode cX8_init 6 = .ok (.putfield 7, 3) := by decide +kernel
theorem dX8_init_9 : decode cX8_init 9 = .ok (.aload_n 0, 1) := by decide +kernel
theorem dX8_init_10 : decode cX8_init 10 = .ok (.iconst 0, 1) := by decide +kernel
theorem dX8_init_11 : decode cX8_init 11 = .ok (.putfield 13, 3) := by decide +kernel
theorem dX8_init_14 : decode cX8_init 14 = .ok (.aload_n 0, 1) := by decide +kernel
theorem dX8_init_15 : decode cX8_init 15 = .ok (.new 16, 3) := by decide +kernel
theorem dX8_init_18 : decode cX8_init 18 = .ok (.dup, 1) := by decide +kernel
theorem dX8_init_19 : decode cX8_init 19 = .ok (.aload_n 1, 1) := by decide +kernel
theorem dX8_init_20 : decode cX8_init 20 = .ok (.invokespecial 18, 3) := by decide +kernel
theorem dX8_init_23 : decode cX8_init 23 = .ok (.putfield 21, 3) := by decide +kernel
theorem dX8_init_26 : decode cX8_init 26 = .ok (.aload_n 0, 1) := by decide +kernel
theorem dX8_init_27 : decode cX8_init 27 = .ok (.aload_n 1, 1) := by decide +kernel
theorem dX8_init_28 : decode cX8_init 28 = .ok (.getfield 25, 3) := by decide +kernel
theorem dX8_init_31 : decode cX8_init 31 = .ok (.newarray .int, 2) := by decide +kernel
theorem dX8_init_33 : decode cX8_init 33 = .ok (.putfield 30, 3) := by decide +kernel
theorem dX8_init_36 : decode cX8_init 36 = .ok (.return_, 1) := by decide +kernel
set_option maxRecDepth 20000 in
theorem ggX8_count_X1_putAll : GoodIn wsX8_count wsX1_putAll := goodIn_r _ [9, 10, 11, 12, 13, 14, 8, 15, 16, 17, 18, 19, 20, 21, 22, 23, 24, 25, 26, 27, 28, 29, 30, 31, 69, 70, 71, 72, 73, 74, 75, 76, 77, 78, 79, 80] (by decide +kernel) (by decide +kernel)
set_option maxRecDepth 20000 in
theorem gX8_count_X1_putAll : GoodIn wsX8_count (wsV RX8 34 RX1 yX1_putAll wsX1_putAll) := goodIn_app (goodIn_of _ (by decide +kernel)) ggX8_count_X1_putAll
set_option maxRecDepth 20000 in
theorem ggX8_count_X1_isEmpty : GoodIn wsX8_count wsX1_isEmpty := goodIn_r _ [35, 16, 69, 70, 71, 72, 73] (by decide +kernel) (by decide +kernel)
set_option maxRecDepth 20000 in
theorem gX8_count_X1_isEmpty : GoodIn wsX8_count (wsV RX8 38 RX1 yX1_isEmpty wsX1_isEmpty) := goodIn_app (goodIn_of _ (by decide +kernel)) ggX8_count_X1_isEmpty
set_option maxRecDepth 20000 in
theorem ggX8_count_X8_search : GoodIn wsX8_count wsX8_search := goodIn_r _ [40, 4, 2, 1, 41, 42, 3, 43, 44, 45, 39, 46, 47, 48, 49, 50, 8, 51, 10, 52, 18, 29, 19, 30, 20, 31, 53, 54, 55, 56, 57, 58, 59, 60, 22, 23, 24, 16, 25, 26, 27, 28, 36, 37, 38, 61, 62, 63, 64, 65, 66, 67, 68, 69, 70, 71, 72, 73, 74, 75, 76, 77, 78, 79, 80] (by decide +kernel) (by decide +kernel)
set_option maxRecDepth 20000 in
theorem gX8_count_X8_search : GoodIn wsX8_count (wsV RX8 42 RX8 yX8_search wsX8_search) := goodIn_app (goodIn_of _ (by decide +kernel)) ggX8_count_X8_search
theorem dX8_count_0 : decode cX8_count 0 = .ok (.aload_n 0, 1) := by decide +kernel
theorem dX8_count_1 : decode cX8_count 1 = .ok (.getfield 21, 3) := by decide +kernel
theorem dX8_count_4 : decode cX8_count 4 = .ok (.aload_n 1, 1) := by decide +kernel
theorem dX8_count_5 : decode cX8_count 5 = .ok (.invokevirtual 34, 3) := by decide +kernel
theorem dX8_count_8 : decode cX8_count 8 = .ok (.iconst 0, 1) := by decide +kernel
theorem dX8_count_9 : decode cX8_count 9 = .ok (.istore_n 3, 1) := by decide +kernel
theorem dX8_count_10 : decode cX8_count 10 = .ok (.iconst 0, 1) := by decide +kernel
theorem dX8_count_11 : decode cX8_count 11 = .ok (.istore 4, 2) := by decide +kernel
theorem dX8_count_13 : decode cX8_count 13 = .ok (.iload 4, 2) := by decide +kernel
theorem dX8_count_15 : decode cX8_count 15 = .ok (.aload_n 0, 1) := by decide +kernel
theorem dX8_count_16 : decode cX8_count 16 = .ok (.getfield 30, 3) := by decide +kernel
theorem dX8_count_19 : decode cX8_count 19 = .ok (.arraylength, 1) := by decide +kernel
theorem dX8_count_20 : decode cX8_count 20 = .ok (.if_icmp .ge 32, 3) := by decide +kernel
theorem dX8_count_23 : decode cX8_count 23 = .ok (.aload_n 0, 1) := by decide +kernel
theorem dX8_count_24 : decode cX8_count 24 = .ok (.getfield 21, 3) := by decide +kernel
theorem dX8_count_27 : decode cX8_count 27 = .ok (.iload 4, 2) := by decide +kernel
theorem dX8_count_29 : decode cX8_count 29 = .ok (.invokevirtual 38, 3) := by decide +kernel
theorem dX8_count_32 : decode cX8_count 32 = .ok (.ifCond .eq 14, 3) := by decide +kernel
theorem dX8_count_35 : decode cX8_count 35 = .ok (.aload_n 0, 1) := by decide +kernel
theorem dX8_count_36 : decode cX8_count 36 = .ok (.getfield 30, 3) := by decide +kernel
theorem dX8_count_39 : decode cX8_count 39 = .ok (.iload_n 3, 1) := by decide +kernel
theorem dX8_count_40 : decode cX8_count 40 = .ok (.iload 4, 2) := by decide +kernel
theorem dX8_count_42 : decode cX8_count 42 = .ok (.iastore, 1) := by decide +kernel
theorem dX8_count_43 : decode cX8_count 43 = .ok (.iinc 3 1, 3) := by decide +kernel
theorem dX8_count_46 : decode cX8_count 46 = .ok (.iinc 4 1, 3) := by decide +kernel
theorem dX8_count_49 : decode cX8_count 49 = .ok (.goto (-36), 3) := by decide +kernel
theorem dX8_count_52 : decode cX8_count 52 = .ok (.aload_n 0, 1) := by decide +kernel
theorem dX8_count_53 : decode cX8_count 53 = .ok (.iload_n 2, 1) := by decide +kernel
theorem dX8_count_54 : decode cX8_count 54 = .ok (.putfield 7, 3) := by decide +kernel
theorem dX8_count_57 : decode cX8_count 57 = .ok (.aload_n 0, 1) := by decide +kernel
theorem dX8_count_58 : decode cX8_count 58 = .ok (.iconst 0, 1) := by decide +kernel
theorem dX8_count_59 : decode cX8_count 59 = .ok (.putfield 13, 3) := by decide +kernel
theorem dX8_count_62 : decode cX8_count 62 = .ok (.aload_n 0, 1) := by decide +kernel
theorem dX8_count_63 : decode cX8_count 63 = .ok (.iload_n 3, 1) := by decide +kernel
theorem dX8_count_64 : decode cX8_count 64 = .ok (.invokevirtual 42, 3) := by decide +kernel
theorem dX8_count_67 : decode cX8_count 67 = .ok (.aload_n 0, 1) := by decide +kernel
theorem dX8_count_68 : decode cX8_count 68 = .ok (.getfield 13, 3) := by decide +kernel
theorem dX8_count_71 : decode cX8_count 71 = .ok (.ireturn, 1) := by decide +kernel
set_option maxRecDepth 20000 in
theorem ggX8_search_X8_tightest : GoodIn wsX8_search wsX8_tightest := goodIn_r _ [11, 12, 3, 2, 13, 14, 15, 16, 17, 18, 19, 20, 21, 22, 23, 24, 25, 26, 27, 28, 29, 30, 31, 32, 49, 50, 51, 52, 53, 54, 55, 56, 57, 58, 59, 60, 61, 62, 63, 64] (by decide +kernel) (by decide +kernel)
set_option maxRecDepth 20000 in
theorem gX8_search_X8_tightest : GoodIn wsX8_search (wsV RX8 46 RX8 yX8_tightest wsX8_tightest) := goodIn_app (goodIn_of _ (by decide +kernel)) ggX8_search_X8_tightest
set_option maxRecDepth 20000 in
theorem ggX8_search_X1_may : GoodIn wsX8_search wsX1_may := goodIn_r _ [17, 18, 19, 20, 21, 22, 23, 24, 25, 53, 54, 55, 56, 57, 58, 59, 60, 61, 62, 63, 64] (by decide +kernel) (by decide +kernel)
set_option maxRecDepth 20000 in
theorem gX8_search_X1_may : GoodIn wsX8_search (wsV RX8 50 RX1 yX1_may wsX1_may) := goodIn_app (goodIn_of _ (by decide +kernel)) ggX8_search_X1_may
set_option maxRecDepth 20000 in
theorem ggX8_search_X1_put : GoodIn wsX8_search wsX1_put := goodIn_r _ [36, 37, 38, 39, 40, 16, 41, 20, 18, 21, 22, 23, 24, 25, 53, 54, 55, 56, 57, 58, 59, 60, 61, 62, 63, 64] (by decide +kernel) (by decide +kernel)
set_option maxRecDepth 20000 in
theorem gX8_search_X1_put : GoodIn wsX8_search (wsV RX8 60 RX1 yX1_put wsX1_put) := goodIn_app (goodIn_of _ (by decide +kernel)) ggX8_search_X1_put
set_option maxRecDepth 20000 in
theorem ggX8_search_X8_search : GoodIn wsX8_search wsX8_search := goodIn_r _ [0, 1, 2, 3, 4, 5, 6, 7, 8, 9, 10, 11, 12, 13, 14, 15, 16, 17, 18, 19, 20, 21, 22, 23, 24, 25, 26, 27, 28, 29, 30, 31, 32, 33, 34, 35, 36, 37, 38, 39, 40, 41, 42, 43, 44, 45, 46, 47, 48, 49, 50, 51, 52, 53, 54, 55, 56, 57, 58, 59, 60, 61, 62, 63, 64] (by decide +kernel) (by decide +kernel)
set_option maxRecDepth 20000 in
theorem gX8_search_X8_search : GoodIn wsX8_search (wsV RX8 42 RX8 yX8_search wsX8_search) := goodIn_app (goodIn_of _ (by decide +kernel)) ggX8_search_X8_search
set_option maxRecDepth 20000 in
theorem ggX8_search_X1_takeOut : GoodIn wsX8_search wsX1_takeOut := goodIn_r _ [48, 37, 38, 39, 40, 16, 41, 20, 18, 21, 22, 23, 24, 25, 53, 54, 55, 56, 57, 58, 59, 60, 61, 62, 63, 64] (by decide +kernel) (by decide +kernel)
set_option maxRecDepth 20000 in
theorem gX8_search_X1_takeOut : GoodIn wsX8_search (wsV RX8 64 RX1 yX1_takeOut wsX1_takeOut) := goodIn_app (goodIn_of _ (by decide +kernel)) ggX8_search_X1_takeOut
theorem dX8_search_0 : decode cX8_search 0 = .ok (.iload_n 1, 1) := by decide +kernel
theorem dX8_search_1 : decode cX8_search 1 = .ok (.iconst 1, 1) := by decide +kernel
theorem dX8_search_2 : decode cX8_search 2 = .ok (.if_icmp .ge 14, 3) := by decide +kernel
theorem dX8_search_5 : decode cX8_search 5 = .ok (.aload_n 0, 1) := by decide +kernel
theorem dX8_search_6 : decode cX8_search 6 = .ok (.dup, 1) := by decide +kernel
theorem dX8_search_7 : decode cX8_search 7 = .ok (.getfield 13, 3) := by decide +kernel
theorem dX8_search_10 : decode cX8_search 10 = .ok (.iconst 1, 1) := by decide +kernel
theorem dX8_search_11 : decode cX8_search 11 = .ok (.iadd, 1) := by decide +kernel
theorem dX8_search_12 : decode cX8_search 12 = .ok (.putfield 13, 3) := by decide +kernel
theorem dX8_search_15 : decode cX8_search 15 = .ok (.return_, 1) := by decide +kernel
theorem dX8_search_16 : decode cX8_search 16 = .ok (.iload_n 1, 1) := by decide +kernel
theorem dX8_search_17 : decode cX8_search 17 = .ok (.aload_n 0, 1) := by decide +kernel
theorem dX8_search_18 : decode cX8_search 18 = .ok (.getfield 30, 3) := by decide +kernel
theorem dX8_search_21 : decode cX8_search 21 = .ok (.arraylength, 1) := by decide +kernel
theorem dX8_search_22 : decode cX8_search 22 = .ok (.if_icmp .le 4, 3) := by decide +kernel
theorem dX8_search_25 : decode cX8_search 25 = .ok (.return_, 1) := by decide +kernel
theorem dX8_search_26 : decode cX8_search 26 = .ok (.aload_n 0, 1) := by decide +kernel
theorem dX8_search_27 : decode cX8_search 27 = .ok (.iload_n 1, 1) := by decide +kernel
theorem dX8_search_28 : decode cX8_search 28 = .ok (.invokevirtual 46, 3) := by decide +kernel
theorem dX8_search_31 : decode cX8_search 31 = .ok (.istore_n 2, 1) := by decide +kernel
theorem dX8_search_32 : decode cX8_search 32 = .ok (.aload_n 0, 1) := by decide +kernel
theorem dX8_search_33 : decode cX8_search 33 = .ok (.getfield 30, 3) := by decide +kernel
theorem dX8_search_36 : decode cX8_search 36 = .ok (.iload_n 2, 1) := by decide +kernel
theorem dX8_search_37 : decode cX8_search 37 = .ok (.iaload, 1) := by decide +kernel
theorem dX8_search_38 : decode cX8_search 38 = .ok (.istore_n 3, 1) := by decide +kernel
theorem dX8_search_39 : decode cX8_search 39 = .ok (.aload_n 0, 1) := by decide +kernel
theorem dX8_search_40 : decode cX8_search 40 = .ok (.getfield 30, 3) := by decide +kernel
theorem dX8_search_43 : decode cX8_search 43 = .ok (.iload_n 2, 1) := by decide +kernel
theorem dX8_search_44 : decode cX8_search 44 = .ok (.aload_n 0, 1) := by decide +kernel
theorem dX8_search_45 : decode cX8_search 45 = .ok (.getfield 30, 3) := by decide +kernel
theorem dX8_search_48 : decode cX8_search 48 = .ok (.iload_n 1, 1) := by decide +kernel
theorem dX8_search_49 : decode cX8_search 49 = .ok (.iconst 1, 1) := by decide +kernel
theorem dX8_search_50 : decode cX8_search 50 = .ok (.isub, 1) := by decide +kernel
theorem dX8_search_51 : decode cX8_search 51 = .ok (.iaload, 1) := by decide +kernel
theorem dX8_search_52 : decode cX8_search 52 = .ok (.iastore, 1) := by decide +kernel
theorem dX8_search_53 : decode cX8_search 53 = .ok (.aload_n 0, 1) := by decide +kernel
theorem dX8_search_54 : decode cX8_search 54 = .ok (.getfield 30, 3) := by decide +kernel
theorem dX8_search_57 : decode cX8_search 57 = .ok (.iload_n 1, 1) := by decide +kernel
theorem dX8_search_58 : decode cX8_search 58 = .ok (.iconst 1, 1) := by decide +kernel
theorem dX8_search_59 : decode cX8_search 59 = .ok (.isub, 1) := by decide +kernel
theorem dX8_search_60 : decode cX8_search 60 = .ok (.iload_n 3, 1) := by decide +kernel
theorem dX8_search_61 : decode cX8_search 61 = .ok (.iastore, 1) := by decide +kernel
theorem dX8_search_62 : decode cX8_search 62 = .ok (.aload_n 0, 1) := by decide +kernel
theorem dX8_search_63 : decode cX8_search 63 = .ok (.getfield 21, 3) := by decide +kernel
theorem dX8_search_66 : decode cX8_search 66 = .ok (.iload_n 3, 1) := by decide +kernel
theorem dX8_search_67 : decode cX8_search 67 = .ok (.invokevirtual 50, 3) := by decide +kernel
theorem dX8_search_70 : decode cX8_search 70 = .ok (.istore 4, 2) := by decide +kernel
theorem dX8_search_72 : decode cX8_search 72 = .ok (.iconst 0, 1) := by decide +kernel
theorem dX8_search_73 : decode cX8_search 73 = .ok (.istore 5, 2) := by decide +kernel
theorem dX8_search_75 : decode cX8_search 75 = .ok (.iload 5, 2) := by decide +kernel
theorem dX8_search_77 : decode cX8_search 77 = .ok (.aload_n 0, 1) := by decide +kernel
theorem dX8_search_78 : decode cX8_search 78 = .ok (.getfield 21, 3) := by decide +kernel
theorem dX8_search_81 : decode cX8_search 81 = .ok (.getfield 53, 3) := by decide +kernel
theorem dX8_search_84 : decode cX8_search 84 = .ok (.getfield 57, 3) := by decide +kernel
theorem dX8_search_87 : decode cX8_search 87 = .ok (.if_icmp .ge 55, 3) := by decide +kernel
theorem dX8_search_90 : decode cX8_search 90 = .ok (.aload_n 0, 1) := by decide +kernel
theorem dX8_search_91 : decode cX8_search 91 = .ok (.getfield 13, 3) := by decide +kernel
theorem dX8_search_94 : decode cX8_search 94 = .ok (.aload_n 0, 1) := by decide +kernel
theorem dX8_search_95 : decode cX8_search 95 = .ok (.getfield 7, 3) := by decide +kernel
theorem dX8_search_98 : decode cX8_search 98 = .ok (.if_icmp .ge 44, 3) := by decide +kernel
theorem dX8_search_101 : decode cX8_search 101 = .ok (.iload 4, 2) := by decide +kernel
theorem dX8_search_103 : decode cX8_search 103 = .ok (.iload 5, 2) := by decide +kernel
theorem dX8_search_105 : decode cX8_search 105 = .ok (.ishr, 1) := by decide +kernel
theorem dX8_search_106 : decode cX8_search 106 = .ok (.iconst 1, 1) := by decide +kernel
theorem dX8_search_107 : decode cX8_search 107 = .ok (.iand, 1) := by decide +kernel
theorem dX8_search_108 : decode cX8_search 108 = .ok (.ifCond .eq 28, 3) := by decide +kernel
theorem dX8_search_111 : decode cX8_search 111 = .ok (.aload_n 0, 1) := by decide +kernel
theorem dX8_search_112 : decode cX8_search 112 = .ok (.getfield 21, 3) := by decide +kernel
theorem dX8_search_115 : decode cX8_search 115 = .ok (.iload_n 3, 1) := by decide +kernel
theorem dX8_search_116 : decode cX8_search 116 = .ok (.iload 5, 2) := by decide +kernel
theorem dX8_search_118 : decode cX8_search 118 = .ok (.invokevirtual 60, 3) := by decide +kernel
theorem dX8_search_121 : decode cX8_search 121 = .ok (.aload_n 0, 1) := by decide +kernel
theorem dX8_search_122 : decode cX8_search 122 = .ok (.iload_n 1, 1) := by decide +kernel
theorem dX8_search_123 : decode cX8_search 123 = .ok (.iconst 1, 1) := by decide +kernel
theorem dX8_search_124 : decode cX8_search 124 = .ok (.isub, 1) := by decide +kernel
theorem dX8_search_125 : decode cX8_search 125 = .ok (.invokevirtual 42, 3) := by decide +kernel
theorem dX8_search_128 : decode cX8_search 128 = .ok (.aload_n 0, 1) := by decide +kernel
theorem dX8_search_129 : decode cX8_search 129 = .ok (.getfield 21, 3) := by decide +kernel
theorem dX8_search_132 : decode cX8_search 132 = .ok (.iload_n 3, 1) := by decide +kernel
theorem dX8_search_133 : decode cX8_search 133 = .ok (.invokevirtual 64, 3) := by decide +kernel
theorem dX8_search_136 : decode cX8_search 136 = .ok (.iinc 5 1, 3) := by decide +kernel
theorem dX8_search_139 : decode cX8_search 139 = .ok (.goto (-64), 3) := by decide +kernel
theorem dX8_search_142 : decode cX8_search 142 = .ok (.return_, 1) := by decide +kernel
set_option maxRecDepth 20000 in
theorem ggX8_tightest_X1_may : GoodIn wsX8_tightest wsX1_may := goodIn_r _ [8, 9, 10, 11, 12, 13, 14, 15, 16, 28, 29, 30, 31, 32, 33, 34, 35, 36, 37, 38, 39] (by decide +kernel) (by decide +kernel)
set_option maxRecDepth 20000 in
theorem gX8_tightest_X1_may : GoodIn wsX8_tightest (wsV RX8 50 RX1 yX1_may wsX1_may) := goodIn_app (goodIn_of _ (by decide +kernel)) ggX8_tightest_X1_may
set_option maxRecDepth 20000 in
theorem ggX8_tightest_J6_bitCount_0f7a4 : GoodIn wsX8_tightest wsJ6_bitCount_0f7a4 := goodIn_r _ [20, 21, 22, 23] (by decide +kernel) (by decide +kernel)
set_option maxRecDepth 20000 in
theorem gX8_tightest_J6_bitCount_0f7a4 : GoodIn wsX8_tightest (va_wsS RX8 70 yJ6_bitCount_0f7a4 wsJ6_bitCount_0f7a4) := goodIn_app (goodIn_of _ (by decide +kernel)) ggX8_tightest_J6_bitCount_0f7a4
theorem dX8_tightest_0 : decode cX8_tightest 0 = .ok (.iconst 0, 1) := by decide +kernel
theorem dX8_tightest_1 : decode cX8_tightest 1 = .ok (.istore_n 2, 1) := by decide +kernel
theorem dX8_tightest_2 : decode cX8_tightest 2 = .ok (.ldc 69, 2) := by decide +kernel
theorem dX8_tightest_4 : decode cX8_tightest 4 = .ok (.istore_n 3, 1) := by decide +kernel
theorem dX8_tightest_5 : decode cX8_tightest 5 = .ok (.iconst 0, 1) := by decide +kernel
theorem dX8_tightest_6 : decode cX8_tightest 6 = .ok (.istore 4, 2) := by decide +kernel
theorem dX8_tightest_8 : decode cX8_tightest 8 = .ok (.iload 4, 2) := by decide +kernel
theorem dX8_tightest_10 : decode cX8_tightest 10 = .ok (.iload_n 1, 1) := by decide +kernel
theorem dX8_tightest_11 : decode cX8_tightest 11 = .ok (.if_icmp .ge 45, 3) := by decide +kernel
theorem dX8_tightest_14 : decode cX8_tightest 14 = .ok (.iload_n 3, 1) := by decide +kernel
theorem dX8_tightest_15 : decode cX8_tightest 15 = .ok (.iconst 1, 1) := by decide +kernel
theorem dX8_tightest_16 : decode cX8_tightest 16 = .ok (.if_icmp .le 40, 3) := by decide +kernel
theorem dX8_tightest_19 : decode cX8_tightest 19 = .ok (.aload_n 0, 1) := by decide +kernel
theorem dX8_tightest_20 : decode cX8_tightest 20 = .ok (.getfield 21, 3) := by decide +kernel
theorem dX8_tightest_23 : decode cX8_tightest 23 = .ok (.aload_n 0, 1) := by decide +kernel
theorem dX8_tightest_24 : decode cX8_tightest 24 = .ok (.getfield 30, 3) := by decide +kernel
theorem dX8_tightest_27 : decode cX8_tightest 27 = .ok (.iload 4, 2) := by decide +kernel
theorem dX8_tightest_29 : decode cX8_tightest 29 = .ok (.iaload, 1) := by decide +kernel
theorem dX8_tightest_30 : decode cX8_tightest 30 = .ok (.invokevirtual 50, 3) := by decide +kernel
theorem dX8_tightest_33 : decode cX8_tightest 33 = .ok (.invokestatic 70, 3) := by decide +kernel
theorem dX8_tightest_36 : decode cX8_tightest 36 = .ok (.istore 5, 2) := by decide +kernel
theorem dX8_tightest_38 : decode cX8_tightest 38 = .ok (.iload 5, 2) := by decide +kernel
theorem dX8_tightest_40 : decode cX8_tightest 40 = .ok (.iload_n 3, 1) := by decide +kernel
theorem dX8_tightest_41 : decode cX8_tightest 41 = .ok (.if_icmp .ge 9, 3) := by decide +kernel
theorem dX8_tightest_44 : decode cX8_tightest 44 = .ok (.iload 5, 2) := by decide +kernel
theorem dX8_tightest_46 : decode cX8_tightest 46 = .ok (.istore_n 3, 1) := by decide +kernel
theorem dX8_tightest_47 : decode cX8_tightest 47 = .ok (.iload 4, 2) := by decide +kernel
theorem dX8_tightest_49 : decode cX8_tightest 49 = .ok (.istore_n 2, 1) := by decide +kernel
theorem dX8_tightest_50 : decode cX8_tightest 50 = .ok (.iinc 4 1, 3) := by decide +kernel
theorem dX8_tightest_53 : decode cX8_tightest 53 = .ok (.goto (-45), 3) := by decide +kernel
theorem dX8_tightest_56 : decode cX8_tightest 56 = .ok (.iload_n 2, 1) := by decide +kernel
theorem dX8_tightest_57 : decode cX8_tightest 57 = .ok (.ireturn, 1) := by decide +kernel
set_option maxRecDepth 20000 in
theorem ggX9_init_X1_init : GoodIn wsX9_init wsX1_init := goodIn_r _ [16, 17, 2, 3, 18, 19, 10, 20, 21, 22, 23, 24, 25, 26, 27, 8, 28, 34, 35, 36, 37, 38, 39, 40, 41, 42, 43, 44, 45] (by decide +kernel) (by decide +kernel)
set_option maxRecDepth 20000 in
theorem gX9_init_X1_init : GoodIn wsX9_init (wsX1_init) := ggX9_init_X1_init
theorem dX9_init_0 : decode cX9_init 0 = .ok (.aload_n 0, 1) := by decide +kernel
theorem dX9_init_1 : decode cX9_init 1 = .ok (.invokespecial 1, 3) := by decide +kernel
theorem dX9_init_4 : decode cX9_init 4 = .ok (.aload_n 0, 1) := by decide +kernel
theorem dX9_init_5 : decode cX9_init 5 = .ok (.iconst 0, 1) := by decide +kernel
theorem dX9_init_6 : decode cX9_init 6 = .ok (.putfield 7, 3) := by decide +kernel
theorem dX9_init_9 : decode cX9_init 9 = .ok (.aload_n 0, 1) := by decide +kernel
theorem dX9_init_10 : decode cX9_init 10 = .ok (.aload_n 1, 1) := by decide +kernel
theorem dX9_init_11 : decode cX9_init 11 = .ok (.putfield 13, 3) := by decide +kernel
theorem dX9_init_14 : decode cX9_init 14 = .ok (.aload_n 0, 1) := by decide +kernel
theorem dX9_init_15 : decode cX9_init 15 = .ok (.new 17, 3) := by decide +kernel
theorem dX9_init_18 : decode cX9_init 18 = .ok (.dup, 1) := by decide +kernel
theorem dX9_init_19 : decode cX9_init 19 = .ok (.aload_n 1, 1) := by decide +kernel
theorem dX9_init_20 : decode cX9_init 20 = .ok (.invokespecial 19, 3) := by decide +kernel
theorem dX9_init_23 : decode cX9_init 23 = .ok (.putfield 22, 3) := by decide +kernel
theorem dX9_init_26 : decode cX9_init 26 = .ok (.aload_n 0, 1) := by decide +kernel
theorem dX9_init_27 : decode cX9_init 27 = .ok (.bipush 60, 2) := by decide +kernel
theorem dX9_init_29 : decode cX9_init 29 = .ok (.newarray .int, 2) := by decide +kernel
theorem dX9_init_31 : decode cX9_init 31 = .ok (.putfield 26, 3) := by decide +kernel
theorem dX9_init_34 : decode cX9_init 34 = .ok (.aload_n 0, 1) := by decide +kernel
theorem dX9_init_35 : decode cX9_init 35 = .ok (.aload_n 0, 1) := by decide +kernel
theorem dX9_init_36 : decode cX9_init 36 = .ok (.getfield 22, 3) := by decide +kernel
theorem dX9_init_39 : decode cX9_init 39 = .ok (.getfield 30, 3) := by decide +kernel
theorem dX9_init_42 : decode cX9_init 42 = .ok (.putfield 33, 3) := by decide +kernel
theorem dX9_init_45 : decode cX9_init 45 = .ok (.return_, 1) := by decide +kernel
theorem dX9_byteOf_0 : decode cX9_byteOf 0 = .ok (.iload_n 0, 1) := by decide +kernel
theorem dX9_byteOf_1 : decode cX9_byteOf 1 = .ok (.ifCond .ge 8, 3) := by decide +kernel
theorem dX9_byteOf_4 : decode cX9_byteOf 4 = .ok (.bipush 46, 2) := by decide +kernel
theorem dX9_byteOf_6 : decode cX9_byteOf 6 = .ok (.goto 7, 3) := by decide +kernel
theorem dX9_byteOf_9 : decode cX9_byteOf 9 = .ok (.bipush 49, 2) := by decide +kernel
theorem dX9_byteOf_11 : decode cX9_byteOf 11 = .ok (.iload_n 0, 1) := by decide +kernel
theorem dX9_byteOf_12 : decode cX9_byteOf 12 = .ok (.iadd, 1) := by decide +kernel
theorem dX9_byteOf_13 : decode cX9_byteOf 13 = .ok (.ireturn, 1) := by decide +kernel
theorem dX9_add_0 : decode cX9_add 0 = .ok (.iload_n 1, 1) := by decide +kernel
theorem dX9_add_1 : decode cX9_add 1 = .ok (.ifCond .lt 19, 3) := by decide +kernel
theorem dX9_add_4 : decode cX9_add 4 = .ok (.iload_n 1, 1) := by decide +kernel
theorem dX9_add_5 : decode cX9_add 5 = .ok (.sipush 255, 3) := by decide +kernel
theorem dX9_add_8 : decode cX9_add 8 = .ok (.if_icmp .gt 12, 3) := by decide +kernel
theorem dX9_add_11 : decode cX9_add 11 = .ok (.aload_n 0, 1) := by decide +kernel
theorem dX9_add_12 : decode cX9_add 12 = .ok (.getfield 7, 3) := by decide +kernel
theorem dX9_add_15 : decode cX9_add 15 = .ok (.bipush 60, 2) := by decide +kernel
theorem dX9_add_17 : decode cX9_add 17 = .ok (.if_icmp .lt 5, 3) := by decide +kernel
theorem dX9_add_20 : decode cX9_add 20 = .ok (.iconst 0, 1) := by decide +kernel
theorem dX9_add_21 : decode cX9_add 21 = .ok (.ireturn, 1) := by decide +kernel
theorem dX9_add_22 : decode cX9_add 22 = .ok (.aload_n 0, 1) := by decide +kernel
theorem dX9_add_23 : decode cX9_add 23 = .ok (.getfield 26, 3) := by decide +kernel
theorem dX9_add_26 : decode cX9_add 26 = .ok (.aload_n 0, 1) := by decide +kernel
theorem dX9_add_27 : decode cX9_add 27 = .ok (.getfield 7, 3) := by decide +kernel
theorem dX9_add_30 : decode cX9_add 30 = .ok (.iload_n 1, 1) := by decide +kernel
theorem dX9_add_31 : decode cX9_add 31 = .ok (.iastore, 1) := by decide +kernel
theorem dX9_add_32 : decode cX9_add 32 = .ok (.aload_n 0, 1) := by decide +kernel
theorem dX9_add_33 : decode cX9_add 33 = .ok (.dup, 1) := by decide +kernel
theorem dX9_add_34 : decode cX9_add 34 = .ok (.getfield 7, 3) := by decide +kernel
theorem dX9_add_37 : decode cX9_add 37 = .ok (.iconst 1, 1) := by decide +kernel
theorem dX9_add_38 : decode cX9_add 38 = .ok (.iadd, 1) := by decide +kernel
theorem dX9_add_39 : decode cX9_add 39 = .ok (.putfield 7, 3) := by decide +kernel
theorem dX9_add_42 : decode cX9_add 42 = .ok (.iconst 1, 1) := by decide +kernel
theorem dX9_add_43 : decode cX9_add 43 = .ok (.ireturn, 1) := by decide +kernel
set_option maxRecDepth 20000 in
theorem ggX9_read_X1_clear : GoodIn wsX9_read wsX1_clear := goodIn_r _ [10, 11, 12, 13, 14, 15, 16, 17, 52, 53, 54, 55, 56, 45, 46, 47, 48, 49, 50, 51] (by decide +kernel) (by decide +kernel)
set_option maxRecDepth 20000 in
theorem gX9_read_X1_clear : GoodIn wsX9_read (wsV RX9 34 RX1 yX1_clear wsX1_clear) := goodIn_app (goodIn_of _ (by decide +kernel)) ggX9_read_X1_clear
set_option maxRecDepth 20000 in
theorem ggX9_read_X9_readByte : GoodIn wsX9_read wsX9_readByte := goodIn_r _ [22, 3, 23, 2, 24, 25, 26, 9, 27, 11, 28, 15, 29, 16, 30, 17, 31, 32, 33, 34, 35, 13, 36, 37, 38, 39, 40, 41, 42, 43, 44, 45, 46, 47, 48, 49, 50, 51, 52, 53, 54, 55, 56] (by decide +kernel) (by decide +kernel)
set_option maxRecDepth 20000 in
theorem gX9_read_X9_readByte : GoodIn wsX9_read (wsV RX9 42 RX9 yX9_readByte wsX9_readByte) := goodIn_app (goodIn_of _ (by decide +kernel)) ggX9_read_X9_readByte
theorem dX9_read_0 : decode cX9_read 0 = .ok (.aload_n 0, 1) := by decide +kernel
theorem dX9_read_1 : decode cX9_read 1 = .ok (.getfield 7, 3) := by decide +kernel
theorem dX9_read_4 : decode cX9_read 4 = .ok (.istore_n 1, 1) := by decide +kernel
theorem dX9_read_5 : decode cX9_read 5 = .ok (.aload_n 0, 1) := by decide +kernel
theorem dX9_read_6 : decode cX9_read 6 = .ok (.iconst 0, 1) := by decide +kernel
theorem dX9_read_7 : decode cX9_read 7 = .ok (.putfield 7, 3) := by decide +kernel
theorem dX9_read_10 : decode cX9_read 10 = .ok (.aload_n 0, 1) := by decide +kernel
theorem dX9_read_11 : decode cX9_read 11 = .ok (.getfield 22, 3) := by decide +kernel
theorem dX9_read_14 : decode cX9_read 14 = .ok (.invokevirtual 34, 3) := by decide +kernel
theorem dX9_read_17 : decode cX9_read 17 = .ok (.iconst 0, 1) := by decide +kernel
theorem dX9_read_18 : decode cX9_read 18 = .ok (.istore_n 2, 1) := by decide +kernel
theorem dX9_read_19 : decode cX9_read 19 = .ok (.iload_n 2, 1) := by decide +kernel
theorem dX9_read_20 : decode cX9_read 20 = .ok (.aload_n 0, 1) := by decide +kernel
theorem dX9_read_21 : decode cX9_read 21 = .ok (.getfield 13, 3) := by decide +kernel
theorem dX9_read_24 : decode cX9_read 24 = .ok (.getfield 37, 3) := by decide +kernel
theorem dX9_read_27 : decode cX9_read 27 = .ok (.if_icmp .ge 30, 3) := by decide +kernel
theorem dX9_read_30 : decode cX9_read 30 = .ok (.iload_n 2, 1) := by decide +kernel
theorem dX9_read_31 : decode cX9_read 31 = .ok (.iload_n 1, 1) := by decide +kernel
theorem dX9_read_32 : decode cX9_read 32 = .ok (.if_icmp .ge 17, 3) := by decide +kernel
theorem dX9_read_35 : decode cX9_read 35 = .ok (.aload_n 0, 1) := by decide +kernel
theorem dX9_read_36 : decode cX9_read 36 = .ok (.iload_n 2, 1) := by decide +kernel
theorem dX9_read_37 : decode cX9_read 37 = .ok (.aload_n 0, 1) := by decide +kernel
theorem dX9_read_38 : decode cX9_read 38 = .ok (.getfield 26, 3) := by decide +kernel
theorem dX9_read_41 : decode cX9_read 41 = .ok (.iload_n 2, 1) := by decide +kernel
theorem dX9_read_42 : decode cX9_read 42 = .ok (.iaload, 1) := by decide +kernel
theorem dX9_read_43 : decode cX9_read 43 = .ok (.invokevirtual 42, 3) := by decide +kernel
theorem dX9_read_46 : decode cX9_read 46 = .ok (.ifCond .ne 5, 3) := by decide +kernel
theorem dX9_read_49 : decode cX9_read 49 = .ok (.iload_n 2, 1) := by decide +kernel
theorem dX9_read_50 : decode cX9_read 50 = .ok (.ireturn, 1) := by decide +kernel
theorem dX9_read_51 : decode cX9_read 51 = .ok (.iinc 2 1, 3) := by decide +kernel
theorem dX9_read_54 : decode cX9_read 54 = .ok (.goto (-35), 3) := by decide +kernel
theorem dX9_read_57 : decode cX9_read 57 = .ok (.iload_n 1, 1) := by decide +kernel
theorem dX9_read_58 : decode cX9_read 58 = .ok (.aload_n 0, 1) := by decide +kernel
theorem dX9_read_59 : decode cX9_read 59 = .ok (.getfield 13, 3) := by decide +kernel
theorem dX9_read_62 : decode cX9_read 62 = .ok (.getfield 37, 3) := by decide +kernel
theorem dX9_read_65 : decode cX9_read 65 = .ok (.if_icmp .le 13, 3) := by decide +kernel
theorem dX9_read_68 : decode cX9_read 68 = .ok (.aload_n 0, 1) := by decide +kernel
theorem dX9_read_69 : decode cX9_read 69 = .ok (.getfield 13, 3) := by decide +kernel
theorem dX9_read_72 : decode cX9_read 72 = .ok (.getfield 37, 3) := by decide +kernel
theorem dX9_read_75 : decode cX9_read 75 = .ok (.goto 4, 3) := by decide +kernel
theorem dX9_read_78 : decode cX9_read 78 = .ok (.iconst (-1), 1) := by decide +kernel
theorem dX9_read_79 : decode cX9_read 79 = .ok (.ireturn, 1) := by decide +kernel
set_option maxRecDepth 20000 in
theorem ggX9_readByte_X1_may : GoodIn wsX9_readByte wsX1_may := goodIn_r _ [8, 9, 10, 11, 12, 13, 14, 15, 16, 38, 39, 40, 41, 42, 31, 32, 33, 34, 35, 36, 37] (by decide +kernel) (by decide +kernel)
set_option maxRecDepth 20000 in
theorem gX9_readByte_X1_may : GoodIn wsX9_readByte (wsV RX9 49 RX1 yX1_may wsX1_may) := goodIn_app (goodIn_of _ (by decide +kernel)) ggX9_readByte_X1_may
set_option maxRecDepth 20000 in
theorem ggX9_readByte_X1_put : GoodIn wsX9_readByte wsX1_put := goodIn_r _ [20, 21, 22, 23, 24, 7, 25, 11, 9, 12, 13, 14, 15, 16, 38, 39, 40, 41, 42, 31, 32, 33, 34, 35, 36, 37] (by decide +kernel) (by decide +kernel)
set_option maxRecDepth 20000 in
theorem gX9_readByte_X1_put : GoodIn wsX9_readByte (wsV RX9 53 RX1 yX1_put wsX1_put) := goodIn_app (goodIn_of _ (by decide +kernel)) ggX9_readByte_X1_put
theorem dX9_readByte_0 : decode cX9_readByte 0 = .ok (.iload_n 2, 1) := by decide +kernel
theorem dX9_readByte_1 : decode cX9_readByte 1 = .ok (.bipush 46, 2) := by decide +kernel
theorem dX9_readByte_3 : decode cX9_readByte 3 = .ok (.if_icmp .ne 5, 3) := by decide +kernel
theorem dX9_readByte_6 : decode cX9_readByte 6 = .ok (.iconst 1, 1) := by decide +kernel
theorem dX9_readByte_7 : decode cX9_readByte 7 = .ok (.ireturn, 1) := by decide +kernel
theorem dX9_readByte_8 : decode cX9_readByte 8 = .ok (.iload_n 2, 1) := by decide +kernel
theorem dX9_readByte_9 : decode cX9_readByte 9 = .ok (.bipush 49, 2) := by decide +kernel
theorem dX9_readByte_11 : decode cX9_readByte 11 = .ok (.isub, 1) := by decide +kernel
theorem dX9_readByte_12 : decode cX9_readByte 12 = .ok (.istore_n 3, 1) := by decide +kernel
theorem dX9_readByte_13 : decode cX9_readByte 13 = .ok (.iload_n 3, 1) := by decide +kernel
theorem dX9_readByte_14 : decode cX9_readByte 14 = .ok (.ifCond .lt 29, 3) := by decide +kernel
theorem dX9_readByte_17 : decode cX9_readByte 17 = .ok (.iload_n 3, 1) := by decide +kernel
theorem dX9_readByte_18 : decode cX9_readByte 18 = .ok (.aload_n 0, 1) := by decide +kernel
theorem dX9_readByte_19 : decode cX9_readByte 19 = .ok (.getfield 13, 3) := by decide +kernel
theorem dX9_readByte_22 : decode cX9_readByte 22 = .ok (.getfield 46, 3) := by decide +kernel
theorem dX9_readByte_25 : decode cX9_readByte 25 = .ok (.if_icmp .ge 18, 3) := by decide +kernel
theorem dX9_readByte_28 : decode cX9_readByte 28 = .ok (.aload_n 0, 1) := by decide +kernel
theorem dX9_readByte_29 : decode cX9_readByte 29 = .ok (.getfield 22, 3) := by decide +kernel
theorem dX9_readByte_32 : decode cX9_readByte 32 = .ok (.iload_n 1, 1) := by decide +kernel
theorem dX9_readByte_33 : decode cX9_readByte 33 = .ok (.invokevirtual 49, 3) := by decide +kernel
theorem dX9_readByte_36 : decode cX9_readByte 36 = .ok (.iload_n 3, 1) := by decide +kernel
theorem dX9_readByte_37 : decode cX9_readByte 37 = .ok (.ishr, 1) := by decide +kernel
theorem dX9_readByte_38 : decode cX9_readByte 38 = .ok (.iconst 1, 1) := by decide +kernel
theorem dX9_readByte_39 : decode cX9_readByte 39 = .ok (.iand, 1) := by decide +kernel
theorem dX9_readByte_40 : decode cX9_readByte 40 = .ok (.ifCond .ne 5, 3) := by decide +kernel
theorem dX9_readByte_43 : decode cX9_readByte 43 = .ok (.iconst 0, 1) := by decide +kernel
theorem dX9_readByte_44 : decode cX9_readByte 44 = .ok (.ireturn, 1) := by decide +kernel
theorem dX9_readByte_45 : decode cX9_readByte 45 = .ok (.aload_n 0, 1) := by decide +kernel
theorem dX9_readByte_46 : decode cX9_readByte 46 = .ok (.getfield 22, 3) := by decide +kernel
theorem dX9_readByte_49 : decode cX9_readByte 49 = .ok (.iload_n 1, 1) := by decide +kernel
theorem dX9_readByte_50 : decode cX9_readByte 50 = .ok (.iload_n 3, 1) := by decide +kernel
theorem dX9_readByte_51 : decode cX9_readByte 51 = .ok (.invokevirtual 53, 3) := by decide +kernel
theorem dX9_readByte_54 : decode cX9_readByte 54 = .ok (.iconst 1, 1) := by decide +kernel
theorem dX9_readByte_55 : decode cX9_readByte 55 = .ok (.ireturn, 1) := by decide +kernel
end
section
set_option maxRecDepth 20000 in
theorem ggX10_init_X4_init : GoodIn wsX10_init wsX4_init := goodIn_r _ [29, 30, 2, 3, 31, 32, 33, 13, 34, 35, 36, 37, 38, 151, 152, 153, 154, 155, 156, 157] (by decide +kernel) (by decide +kernel)
set_option maxRecDepth 20000 in
theorem gX10_init_X4_init : GoodIn wsX10_init (wsX4_init) := ggX10_init_X4_init
set_option maxRecDepth 20000 in
theorem ggX10_init_X6_init : GoodIn wsX10_init wsX6_init := goodIn_r _ [41, 42, 2, 3, 43, 44, 13, 45, 164, 165, 151, 152, 153, 154, 155, 156, 157] (by decide +kernel) (by decide +kernel)
set_option maxRecDepth 20000 in
theorem gX10_init_X6_init : GoodIn wsX10_init (wsX6_init) := ggX10_init_X6_init
set_option maxRecDepth 20000 in
theorem ggX10_init_X0_init : GoodIn wsX10_init wsX0_init := goodIn_r _ [47, 48, 2, 3, 49, 50, 51, 52, 166, 167, 168] (by decide +kernel) (by decide +kernel)
set_option maxRecDepth 20000 in
theorem gX10_init_X0_init_n37 : GoodIn wsX10_init (wsX0_init) := ggX10_init_X0_init
set_option maxRecDepth 20000 in
theorem ggX10_init_X5_init : GoodIn wsX10_init wsX5_init := goodIn_r _ [55, 56, 2, 3, 57, 58, 59, 60, 61, 62, 63, 64, 65, 66, 67, 68, 69, 70, 71, 72, 73, 74, 75, 76, 77, 78, 79, 80, 81, 82, 83, 84, 13, 85, 86, 87, 88, 89, 90, 91, 92, 93, 94, 95, 96, 97, 98, 99, 100, 101, 102, 103, 104, 105, 106, 107, 108, 109, 110, 111, 112, 113, 114, 115, 116, 117, 118, 119, 120, 121, 122, 123, 124, 125, 126, 127, 128, 129, 130, 131, 132, 133, 134, 135, 136, 137, 138, 169, 170, 171, 172, 173, 174, 175, 176, 177, 178, 179, 180, 181, 182, 183, 184, 185, 186, 187, 188, 194, 195, 196, 197, 198, 199, 200, 201, 202, 203, 151, 152, 153, 154, 155, 156, 157, 204, 205, 206, 207, 208] (by decide +kernel) (by decide +kernel)
set_option maxRecDepth 20000 in
theorem gX10_init_X5_init : GoodIn wsX10_init (wsX5_init) := ggX10_init_X5_init
set_option maxRecDepth 20000 in
theorem ggX10_init_X9_init : GoodIn wsX10_init wsX9_init := goodIn_r _ [141, 142, 2, 3, 143, 144, 145, 102, 103, 146, 13, 147, 148, 149, 150, 106, 107, 108, 109, 110, 111, 112, 113, 114, 115, 116, 117, 118, 119, 189, 190, 191, 192, 193, 204, 205, 206, 207, 208, 151, 152, 153, 154, 155, 156, 157] (by decide +kernel) (by decide +kernel)
set_option maxRecDepth 20000 in
theorem gX10_init_X9_init : GoodIn wsX10_init (wsX9_init) := ggX10_init_X9_init
theorem dX10_init_0 : decode cX10_init 0 = .ok (.aload_n 0, 1) := by decide +kernel
theorem dX10_init_1 : decode cX10_init 1 = .ok (.invokespecial 1, 3) := by decide +kernel
theorem dX10_init_4 : decode cX10_init 4 = .ok (.aload_n 0, 1) := by decide +kernel
theorem dX10_init_5 : decode cX10_init 5 = .ok (.new 7, 3) := by decide +kernel
theorem dX10_init_8 : decode cX10_init 8 = .ok (.dup, 1) := by decide +kernel
theorem dX10_init_9 : decode cX10_init 9 = .ok (.iload_n 1, 1) := by decide +kernel
theorem dX10_init_10 : decode cX10_init 10 = .ok (.ifCond .gt 7, 3) := by decide +kernel
theorem dX10_init_13 : decode cX10_init 13 = .ok (.iconst 4, 1) := by decide +kernel
theorem dX10_init_14 : decode cX10_init 14 = .ok (.goto 5, 3) := by decide +kernel
theorem dX10_init_17 : decode cX10_init 17 = .ok (.bipush 6, 2) := by decide +kernel
theorem dX10_init_19 : decode cX10_init 19 = .ok (.invokespecial 9, 3) := by decide +kernel
theorem dX10_init_22 : decode cX10_init 22 = .ok (.putfield 12, 3) := by decide +kernel
theorem dX10_init_25 : decode cX10_init 25 = .ok (.aload_n 0, 1) := by decide +kernel
theorem dX10_init_26 : decode cX10_init 26 = .ok (.new 18, 3) := by decide +kernel
theorem dX10_init_29 : decode cX10_init 29 = .ok (.dup, 1) := by decide +kernel
theorem dX10_init_30 : decode cX10_init 30 = .ok (.aload_n 0, 1) := by decide +kernel
theorem dX10_init_31 : decode cX10_init 31 = .ok (.getfield 12, 3) := by decide +kernel
theorem dX10_init_34 : decode cX10_init 34 = .ok (.invokespecial 20, 3) := by decide +kernel
theorem dX10_init_37 : decode cX10_init 37 = .ok (.putfield 23, 3) := by decide +kernel
theorem dX10_init_40 : decode cX10_init 40 = .ok (.aload_n 0, 1) := by decide +kernel
theorem dX10_init_41 : decode cX10_init 41 = .ok (.aload_n 0, 1) := by decide +kernel
theorem dX10_init_42 : decode cX10_init 42 = .ok (.getfield 12, 3) := by decide +kernel
theorem dX10_init_45 : decode cX10_init 45 = .ok (.getfield 27, 3) := by decide +kernel
theorem dX10_init_48 : decode cX10_init 48 = .ok (.newarray .int, 2) := by decide +kernel
theorem dX10_init_50 : decode cX10_init 50 = .ok (.putfield 31, 3) := by decide +kernel
theorem dX10_init_53 : decode cX10_init 53 = .ok (.aload_n 0, 1) := by decide +kernel
theorem dX10_init_54 : decode cX10_init 54 = .ok (.new 35, 3) := by decide +kernel
theorem dX10_init_57 : decode cX10_init 57 = .ok (.dup, 1) := by decide +kernel
theorem dX10_init_58 : decode cX10_init 58 = .ok (.invokespecial 37, 3) := by decide +kernel
theorem dX10_init_61 : decode cX10_init 61 = .ok (.putfield 38, 3) := by decide +kernel
theorem dX10_init_64 : decode cX10_init 64 = .ok (.aload_n 0, 1) := by decide +kernel
theorem dX10_init_65 : decode cX10_init 65 = .ok (.new 42, 3) := by decide +kernel
theorem dX10_init_68 : decode cX10_init 68 = .ok (.dup, 1) := by decide +kernel
theorem dX10_init_69 : decode cX10_init 69 = .ok (.aload_n 0, 1) := by decide +kernel
theorem dX10_init_70 : decode cX10_init 70 = .ok (.getfield 12, 3) := by decide +kernel
theorem dX10_init_73 : decode cX10_init 73 = .ok (.aload_n 0, 1) := by decide +kernel
theorem dX10_init_74 : decode cX10_init 74 = .ok (.getfield 23, 3) := by decide +kernel
theorem dX10_init_77 : decode cX10_init 77 = .ok (.aload_n 0, 1) := by decide +kernel
theorem dX10_init_78 : decode cX10_init 78 = .ok (.getfield 31, 3) := by decide +kernel
theorem dX10_init_81 : decode cX10_init 81 = .ok (.aload_n 0, 1) := by decide +kernel
theorem dX10_init_82 : decode cX10_init 82 = .ok (.getfield 38, 3) := by decide +kernel
theorem dX10_init_85 : decode cX10_init 85 = .ok (.invokespecial 44, 3) := by decide +kernel
theorem dX10_init_88 : decode cX10_init 88 = .ok (.putfield 47, 3) := by decide +kernel
theorem dX10_init_91 : decode cX10_init 91 = .ok (.aload_n 0, 1) := by decide +kernel
theorem dX10_init_92 : decode cX10_init 92 = .ok (.new 51, 3) := by decide +kernel
theorem dX10_init_95 : decode cX10_init 95 = .ok (.dup, 1) := by decide +kernel
theorem dX10_init_96 : decode cX10_init 96 = .ok (.aload_n 0, 1) := by decide +kernel
theorem dX10_init_97 : decode cX10_init 97 = .ok (.getfield 12, 3) := by decide +kernel
theorem dX10_init_100 : decode cX10_init 100 = .ok (.invokespecial 53, 3) := by decide +kernel
theorem dX10_init_103 : decode cX10_init 103 = .ok (.putfield 54, 3) := by decide +kernel
theorem dX10_init_106 : decode cX10_init 106 = .ok (.return_, 1) := by decide +kernel
set_option maxRecDepth 20000 in
theorem ggX10_symmetry_X6_joinBy : GoodIn wsX10_symmetry wsX6_joinBy := goodIn_r _ [6, 7, 8, 9, 10, 11, 12, 13, 14, 15, 16, 5, 17, 18, 19, 20, 27, 28, 29, 30, 31, 32, 33, 34, 35] (by decide +kernel) (by decide +kernel)
set_option maxRecDepth 20000 in
theorem gX10_symmetry_X6_joinBy : GoodIn wsX10_symmetry (wsV RX10 58 RX6 yX6_joinBy wsX6_joinBy) := goodIn_app (goodIn_of _ (by decide +kernel)) ggX10_symmetry_X6_joinBy
theorem dX10_symmetry_0 : decode cX10_symmetry 0 = .ok (.iload_n 1, 1) := by decide +kernel
theorem dX10_symmetry_1 : decode cX10_symmetry 1 = .ok (.ifCond .lt 8, 3) := by decide +kernel
theorem dX10_symmetry_4 : decode cX10_symmetry 4 = .ok (.iload_n 1, 1) := by decide +kernel
theorem dX10_symmetry_5 : decode cX10_symmetry 5 = .ok (.iconst 4, 1) := by decide +kernel
theorem dX10_symmetry_6 : decode cX10_symmetry 6 = .ok (.if_icmp .lt 5, 3) := by decide +kernel
theorem dX10_symmetry_9 : decode cX10_symmetry 9 = .ok (.iconst 0, 1) := by decide +kernel
theorem dX10_symmetry_10 : decode cX10_symmetry 10 = .ok (.ireturn, 1) := by decide +kernel
theorem dX10_symmetry_11 : decode cX10_symmetry 11 = .ok (.aload_n 0, 1) := by decide +kernel
theorem dX10_symmetry_12 : decode cX10_symmetry 12 = .ok (.getfield 23, 3) := by decide +kernel
theorem dX10_symmetry_15 : decode cX10_symmetry 15 = .ok (.iload_n 1, 1) := by decide +kernel
theorem dX10_symmetry_16 : decode cX10_symmetry 16 = .ok (.invokevirtual 58, 3) := by decide +kernel
theorem dX10_symmetry_19 : decode cX10_symmetry 19 = .ok (.iconst 1, 1) := by decide +kernel
theorem dX10_symmetry_20 : decode cX10_symmetry 20 = .ok (.ireturn, 1) := by decide +kernel
set_option maxRecDepth 20000 in
theorem ggX10_theme_X4_has : GoodIn wsX10_theme wsX4_has := goodIn_r _ [12, 13, 26, 27, 28, 29, 30, 31, 32] (by decide +kernel) (by decide +kernel)
set_option maxRecDepth 20000 in
theorem gX10_theme_X4_has : GoodIn wsX10_theme (wsV RX10 61 RX4 yX4_has wsX4_has) := goodIn_app (goodIn_of _ (by decide +kernel)) ggX10_theme_X4_has
theorem dX10_theme_0 : decode cX10_theme 0 = .ok (.aload_n 0, 1) := by decide +kernel
theorem dX10_theme_1 : decode cX10_theme 1 = .ok (.getfield 12, 3) := by decide +kernel
theorem dX10_theme_4 : decode cX10_theme 4 = .ok (.iload_n 1, 1) := by decide +kernel
theorem dX10_theme_5 : decode cX10_theme 5 = .ok (.invokevirtual 61, 3) := by decide +kernel
theorem dX10_theme_8 : decode cX10_theme 8 = .ok (.ifCond .ne 13, 3) := by decide +kernel
theorem dX10_theme_11 : decode cX10_theme 11 = .ok (.new 65, 3) := by decide +kernel
theorem dX10_theme_14 : decode cX10_theme 14 = .ok (.dup, 1) := by decide +kernel
theorem dX10_theme_15 : decode cX10_theme 15 = .ok (.ldc 67, 2) := by decide +kernel
theorem dX10_theme_17 : decode cX10_theme 17 = .ok (.invokespecial 69, 3) := by decide +kernel
theorem dX10_theme_20 : decode cX10_theme 20 = .ok (.athrow, 1) := by decide +kernel
theorem dX10_theme_21 : decode cX10_theme 21 = .ok (.iload_n 2, 1) := by decide +kernel
theorem dX10_theme_22 : decode cX10_theme 22 = .ok (.ifCond .lt 8, 3) := by decide +kernel
theorem dX10_theme_25 : decode cX10_theme 25 = .ok (.iload_n 2, 1) := by decide +kernel
theorem dX10_theme_26 : decode cX10_theme 26 = .ok (.iconst 3, 1) := by decide +kernel
theorem dX10_theme_27 : decode cX10_theme 27 = .ok (.if_icmp .lt 13, 3) := by decide +kernel
theorem dX10_theme_30 : decode cX10_theme 30 = .ok (.new 72, 3) := by decide +kernel
theorem dX10_theme_33 : decode cX10_theme 33 = .ok (.dup, 1) := by decide +kernel
theorem dX10_theme_34 : decode cX10_theme 34 = .ok (.ldc 74, 2) := by decide +kernel
theorem dX10_theme_36 : decode cX10_theme 36 = .ok (.invokespecial 76, 3) := by decide +kernel
theorem dX10_theme_39 : decode cX10_theme 39 = .ok (.athrow, 1) := by decide +kernel
theorem dX10_theme_40 : decode cX10_theme 40 = .ok (.aload_n 0, 1) := by decide +kernel
theorem dX10_theme_41 : decode cX10_theme 41 = .ok (.getfield 31, 3) := by decide +kernel
theorem dX10_theme_44 : decode cX10_theme 44 = .ok (.iload_n 1, 1) := by decide +kernel
theorem dX10_theme_45 : decode cX10_theme 45 = .ok (.iload_n 2, 1) := by decide +kernel
theorem dX10_theme_46 : decode cX10_theme 46 = .ok (.iastore, 1) := by decide +kernel
theorem dX10_theme_47 : decode cX10_theme 47 = .ok (.return_, 1) := by decide +kernel
set_option maxRecDepth 20000 in
theorem ggX10_aim_X0_set : GoodIn wsX10_aim wsX0_set := goodIn_r _ [8, 9, 10, 11, 18, 19, 20] (by decide +kernel) (by decide +kernel)
set_option maxRecDepth 20000 in
theorem gX10_aim_X0_set : GoodIn wsX10_aim (wsV RX10 81 RX0 yX0_set wsX0_set) := goodIn_app (goodIn_of _ (by decide +kernel)) ggX10_aim_X0_set
theorem dX10_aim_0 : decode cX10_aim 0 = .ok (.iload_n 1, 1) := by decide +kernel
theorem dX10_aim_1 : decode cX10_aim 1 = .ok (.ifCond .lt 8, 3) := by decide +kernel
theorem dX10_aim_4 : decode cX10_aim 4 = .ok (.iload_n 1, 1) := by decide +kernel
theorem dX10_aim_5 : decode cX10_aim 5 = .ok (.iconst 3, 1) := by decide +kernel
theorem dX10_aim_6 : decode cX10_aim 6 = .ok (.if_icmp .lt 13, 3) := by decide +kernel
theorem dX10_aim_9 : decode cX10_aim 9 = .ok (.new 72, 3) := by decide +kernel
theorem dX10_aim_12 : decode cX10_aim 12 = .ok (.dup, 1) := by decide +kernel
theorem dX10_aim_13 : decode cX10_aim 13 = .ok (.ldc 77, 2) := by decide +kernel
theorem dX10_aim_15 : decode cX10_aim 15 = .ok (.invokespecial 76, 3) := by decide +kernel
theorem dX10_aim_18 : decode cX10_aim 18 = .ok (.athrow, 1) := by decide +kernel
theorem dX10_aim_19 : decode cX10_aim 19 = .ok (.iload_n 2, 1) := by decide +kernel
theorem dX10_aim_20 : decode cX10_aim 20 = .ok (.ifCond .lt 8, 3) := by decide +kernel
theorem dX10_aim_23 : decode cX10_aim 23 = .ok (.iload_n 2, 1) := by decide +kernel
theorem dX10_aim_24 : decode cX10_aim 24 = .ok (.iload_n 3, 1) := by decide +kernel
theorem dX10_aim_25 : decode cX10_aim 25 = .ok (.if_icmp .le 13, 3) := by decide +kernel
theorem dX10_aim_28 : decode cX10_aim 28 = .ok (.new 72, 3) := by decide +kernel
theorem dX10_aim_31 : decode cX10_aim 31 = .ok (.dup, 1) := by decide +kernel
theorem dX10_aim_32 : decode cX10_aim 32 = .ok (.ldc 79, 2) := by decide +kernel
theorem dX10_aim_34 : decode cX10_aim 34 = .ok (.invokespecial 76, 3) := by decide +kernel
theorem dX10_aim_37 : decode cX10_aim 37 = .ok (.athrow, 1) := by decide +kernel
theorem dX10_aim_38 : decode cX10_aim 38 = .ok (.aload_n 0, 1) := by decide +kernel
theorem dX10_aim_39 : decode cX10_aim 39 = .ok (.getfield 38, 3) := by decide +kernel
theorem dX10_aim_42 : decode cX10_aim 42 = .ok (.iload_n 1, 1) := by decide +kernel
theorem dX10_aim_43 : decode cX10_aim 43 = .ok (.iload_n 2, 1) := by decide +kernel
theorem dX10_aim_44 : decode cX10_aim 44 = .ok (.iload_n 3, 1) := by decide +kernel
theorem dX10_aim_45 : decode cX10_aim 45 = .ok (.invokevirtual 81, 3) := by decide +kernel
theorem dX10_aim_48 : decode cX10_aim 48 = .ok (.return_, 1) := by decide +kernel
set_option maxRecDepth 20000 in
theorem ggX10_make_X5_startAt : GoodIn wsX10_make wsX5_startAt := goodIn_r _ [6, 7, 8, 9, 10, 11, 12, 13, 14, 15, 16, 17, 18, 223, 224, 225, 226, 227, 228, 229, 230, 231, 232, 233, 234, 235, 236, 237, 238, 239, 240, 241, 242, 243] (by decide +kernel) (by decide +kernel)
set_option maxRecDepth 20000 in
theorem gX10_make_X5_startAt : GoodIn wsX10_make (wsV RX10 85 RX5 yX5_startAt wsX5_startAt) := goodIn_app (goodIn_of _ (by decide +kernel)) ggX10_make_X5_startAt
set_option maxRecDepth 20000 in
theorem ggX10_make_X5_tryOnce : GoodIn wsX10_make wsX5_tryOnce := goodIn_r _ [22, 8, 10, 23, 11, 24, 25, 26, 27, 28, 29, 30, 31, 32, 33, 7, 34, 35, 36, 5, 37, 38, 9, 39, 40, 41, 42, 43, 44, 45, 46, 47, 48, 49, 50, 51, 52, 53, 54, 55, 56, 57, 58, 59, 60, 61, 62, 63, 64, 65, 66, 67, 68, 69, 70, 71, 72, 73, 74, 75, 76, 77, 78, 79, 80, 81, 82, 83, 84, 85, 86, 87, 88, 89, 16, 90, 91, 18, 92, 93, 94, 95, 96, 97, 98, 99, 100, 101, 102, 103, 104, 105, 106, 107, 108, 109, 110, 111, 112, 113, 114, 115, 116, 117, 118, 119, 120, 121, 122, 123, 124, 125, 126, 127, 128, 129, 130, 131, 132, 133, 134, 135, 136, 137, 138, 139, 140, 141, 142, 143, 144, 145, 146, 147, 148, 149, 150, 151, 152, 153, 154, 155, 156, 157, 158, 159, 160, 161, 162, 163, 164, 165, 166, 167, 168, 12, 169, 170, 171, 172, 173, 174, 175, 176, 177, 178, 179, 180, 181, 182, 183, 184, 185, 186, 187, 188, 189, 190, 191, 192, 193, 194, 195, 196, 197, 198, 199, 200, 201, 202, 203, 204, 205, 206, 207, 208, 209, 210, 211, 212, 213, 214, 215, 216, 223, 224, 225, 226, 227, 228, 229, 230, 231, 232, 233, 234, 235, 236, 237, 238, 239, 240, 241, 242, 244, 245, 246, 247, 248, 249, 250, 251, 252, 253, 254, 255, 256, 257, 258, 243, 259, 260, 261, 262, 263, 264, 265, 266, 267, 268, 269] (by decide +kernel) (by decide +kernel)
set_option maxRecDepth 20000 in
theorem gX10_make_X5_tryOnce : GoodIn wsX10_make (wsV RX10 89 RX5 yX5_tryOnce wsX5_tryOnce) := goodIn_app (goodIn_of _ (by decide +kernel)) ggX10_make_X5_tryOnce
theorem dX10_make_0 : decode cX10_make 0 = .ok (.iload_n 3, 1) := by decide +kernel
theorem dX10_make_1 : decode cX10_make 1 = .ok (.iconst 1, 1) := by decide +kernel
theorem dX10_make_2 : decode cX10_make 2 = .ok (.if_icmp .lt 9, 3) := by decide +kernel
theorem dX10_make_5 : decode cX10_make 5 = .ok (.iload_n 3, 1) := by decide +kernel
theorem dX10_make_6 : decode cX10_make 6 = .ok (.bipush 40, 2) := by decide +kernel
theorem dX10_make_8 : decode cX10_make 8 = .ok (.if_icmp .le 6, 3) := by decide +kernel
theorem dX10_make_11 : decode cX10_make 11 = .ok (.bipush (-2), 2) := by decide +kernel
theorem dX10_make_13 : decode cX10_make 13 = .ok (.ireturn, 1) := by decide +kernel
theorem dX10_make_14 : decode cX10_make 14 = .ok (.aload_n 0, 1) := by decide +kernel
theorem dX10_make_15 : decode cX10_make 15 = .ok (.getfield 47, 3) := by decide +kernel
theorem dX10_make_18 : decode cX10_make 18 = .ok (.lload_n 1, 1) := by decide +kernel
theorem dX10_make_19 : decode cX10_make 19 = .ok (.invokevirtual 85, 3) := by decide +kernel
theorem dX10_make_22 : decode cX10_make 22 = .ok (.iconst 1, 1) := by decide +kernel
theorem dX10_make_23 : decode cX10_make 23 = .ok (.istore 4, 2) := by decide +kernel
theorem dX10_make_25 : decode cX10_make 25 = .ok (.iload 4, 2) := by decide +kernel
theorem dX10_make_27 : decode cX10_make 27 = .ok (.iload_n 3, 1) := by decide +kernel
theorem dX10_make_28 : decode cX10_make 28 = .ok (.if_icmp .gt 22, 3) := by decide +kernel
theorem dX10_make_31 : decode cX10_make 31 = .ok (.aload_n 0, 1) := by decide +kernel
theorem dX10_make_32 : decode cX10_make 32 = .ok (.getfield 47, 3) := by decide +kernel
theorem dX10_make_35 : decode cX10_make 35 = .ok (.invokevirtual 89, 3) := by decide +kernel
theorem dX10_make_38 : decode cX10_make 38 = .ok (.ifCond .eq 6, 3) := by decide +kernel
theorem dX10_make_41 : decode cX10_make 41 = .ok (.iload 4, 2) := by decide +kernel
theorem dX10_make_43 : decode cX10_make 43 = .ok (.ireturn, 1) := by decide +kernel
theorem dX10_make_44 : decode cX10_make 44 = .ok (.iinc 4 1, 3) := by decide +kernel
theorem dX10_make_47 : decode cX10_make 47 = .ok (.goto (-22), 3) := by decide +kernel
theorem dX10_make_50 : decode cX10_make 50 = .ok (.iconst (-1), 1) := by decide +kernel
theorem dX10_make_51 : decode cX10_make 51 = .ok (.ireturn, 1) := by decide +kernel
set_option maxRecDepth 20000 in
theorem ggX10_given_X4_has : GoodIn wsX10_given wsX4_has := goodIn_r _ [12, 13, 46, 47, 48, 49, 50, 51, 52] (by decide +kernel) (by decide +kernel)
set_option maxRecDepth 20000 in
theorem gX10_given_X4_has : GoodIn wsX10_given (wsV RX10 61 RX4 yX4_has wsX4_has) := goodIn_app (goodIn_of _ (by decide +kernel)) ggX10_given_X4_has
theorem dX10_given_0 : decode cX10_given 0 = .ok (.aload_n 0, 1) := by decide +kernel
theorem dX10_given_1 : decode cX10_given 1 = .ok (.getfield 12, 3) := by decide +kernel
theorem dX10_given_4 : decode cX10_given 4 = .ok (.iload_n 1, 1) := by decide +kernel
theorem dX10_given_5 : decode cX10_given 5 = .ok (.invokevirtual 61, 3) := by decide +kernel
theorem dX10_given_8 : decode cX10_given 8 = .ok (.ifCond .ne 13, 3) := by decide +kernel
theorem dX10_given_11 : decode cX10_given 11 = .ok (.new 65, 3) := by decide +kernel
theorem dX10_given_14 : decode cX10_given 14 = .ok (.dup, 1) := by decide +kernel
theorem dX10_given_15 : decode cX10_given 15 = .ok (.ldc 67, 2) := by decide +kernel
theorem dX10_given_17 : decode cX10_given 17 = .ok (.invokespecial 69, 3) := by decide +kernel
theorem dX10_given_20 : decode cX10_given 20 = .ok (.athrow, 1) := by decide +kernel
theorem dX10_given_21 : decode cX10_given 21 = .ok (.aload_n 0, 1) := by decide +kernel
theorem dX10_given_22 : decode cX10_given 22 = .ok (.getfield 47, 3) := by decide +kernel
theorem dX10_given_25 : decode cX10_given 25 = .ok (.getfield 93, 3) := by decide +kernel
theorem dX10_given_28 : decode cX10_given 28 = .ok (.ifCond .eq 15, 3) := by decide +kernel
theorem dX10_given_31 : decode cX10_given 31 = .ok (.aload_n 0, 1) := by decide +kernel
theorem dX10_given_32 : decode cX10_given 32 = .ok (.getfield 47, 3) := by decide +kernel
theorem dX10_given_35 : decode cX10_given 35 = .ok (.getfield 97, 3) := by decide +kernel
theorem dX10_given_38 : decode cX10_given 38 = .ok (.iload_n 1, 1) := by decide +kernel
theorem dX10_given_39 : decode cX10_given 39 = .ok (.iaload, 1) := by decide +kernel
theorem dX10_given_40 : decode cX10_given 40 = .ok (.goto 4, 3) := by decide +kernel
theorem dX10_given_43 : decode cX10_given 43 = .ok (.iconst (-1), 1) := by decide +kernel
theorem dX10_given_44 : decode cX10_given 44 = .ok (.ireturn, 1) := by decide +kernel
set_option maxRecDepth 20000 in
theorem ggX10_answer_X4_has : GoodIn wsX10_answer wsX4_has := goodIn_r _ [12, 13, 46, 47, 48, 49, 50, 51, 52] (by decide +kernel) (by decide +kernel)
set_option maxRecDepth 20000 in
theorem gX10_answer_X4_has : GoodIn wsX10_answer (wsV RX10 61 RX4 yX4_has wsX4_has) := goodIn_app (goodIn_of _ (by decide +kernel)) ggX10_answer_X4_has
theorem dX10_answer_0 : decode cX10_answer 0 = .ok (.aload_n 0, 1) := by decide +kernel
theorem dX10_answer_1 : decode cX10_answer 1 = .ok (.getfield 12, 3) := by decide +kernel
theorem dX10_answer_4 : decode cX10_answer 4 = .ok (.iload_n 1, 1) := by decide +kernel
theorem dX10_answer_5 : decode cX10_answer 5 = .ok (.invokevirtual 61, 3) := by decide +kernel
theorem dX10_answer_8 : decode cX10_answer 8 = .ok (.ifCond .ne 13, 3) := by decide +kernel
theorem dX10_answer_11 : decode cX10_answer 11 = .ok (.new 65, 3) := by decide +kernel
theorem dX10_answer_14 : decode cX10_answer 14 = .ok (.dup, 1) := by decide +kernel
theorem dX10_answer_15 : decode cX10_answer 15 = .ok (.ldc 67, 2) := by decide +kernel
theorem dX10_answer_17 : decode cX10_answer 17 = .ok (.invokespecial 69, 3) := by decide +kernel
theorem dX10_answer_20 : decode cX10_answer 20 = .ok (.athrow, 1) := by decide +kernel
theorem dX10_answer_21 : decode cX10_answer 21 = .ok (.aload_n 0, 1) := by decide +kernel
theorem dX10_answer_22 : decode cX10_answer 22 = .ok (.getfield 47, 3) := by decide +kernel
theorem dX10_answer_25 : decode cX10_answer 25 = .ok (.getfield 93, 3) := by decide +kernel
theorem dX10_answer_28 : decode cX10_answer 28 = .ok (.ifCond .eq 15, 3) := by decide +kernel
theorem dX10_answer_31 : decode cX10_answer 31 = .ok (.aload_n 0, 1) := by decide +kernel
theorem dX10_answer_32 : decode cX10_answer 32 = .ok (.getfield 47, 3) := by decide +kernel
theorem dX10_answer_35 : decode cX10_answer 35 = .ok (.getfield 100, 3) := by decide +kernel
theorem dX10_answer_38 : decode cX10_answer 38 = .ok (.iload_n 1, 1) := by decide +kernel
theorem dX10_answer_39 : decode cX10_answer 39 = .ok (.iaload, 1) := by decide +kernel
theorem dX10_answer_40 : decode cX10_answer 40 = .ok (.goto 4, 3) := by decide +kernel
theorem dX10_answer_43 : decode cX10_answer 43 = .ok (.iconst (-1), 1) := by decide +kernel
theorem dX10_answer_44 : decode cX10_answer 44 = .ok (.ireturn, 1) := by decide +kernel
set_option maxRecDepth 20000 in
theorem ggX10_told_X2_upperBits : GoodIn wsX10_told wsX2_upperBits := goodIn_r _ [14, 15, 42] (by decide +kernel) (by decide +kernel)
set_option maxRecDepth 20000 in
theorem gX10_told_X2_upperBits : GoodIn wsX10_told (wsV RX10 125 RX2 yX2_upperBits wsX2_upperBits) := goodIn_app (goodIn_of _ (by decide +kernel)) ggX10_told_X2_upperBits
theorem dX10_told_0 : decode cX10_told 0 = .ok (.iload_n 1, 1) := by decide +kernel
theorem dX10_told_1 : decode cX10_told 1 = .ok (.tableswitch 134 0 6 #[43, 51, 59, 67, 75, 97, 123], 43) := by decide +kernel
theorem dX10_told_44 : decode cX10_told 44 = .ok (.aload_n 0, 1) := by decide +kernel
theorem dX10_told_45 : decode cX10_told 45 = .ok (.getfield 47, 3) := by decide +kernel
theorem dX10_told_48 : decode cX10_told 48 = .ok (.getfield 103, 3) := by decide +kernel
theorem dX10_told_51 : decode cX10_told 51 = .ok (.ireturn, 1) := by decide +kernel
theorem dX10_told_52 : decode cX10_told 52 = .ok (.aload_n 0, 1) := by decide +kernel
theorem dX10_told_53 : decode cX10_told 53 = .ok (.getfield 47, 3) := by decide +kernel
theorem dX10_told_56 : decode cX10_told 56 = .ok (.getfield 106, 3) := by decide +kernel
theorem dX10_told_59 : decode cX10_told 59 = .ok (.ireturn, 1) := by decide +kernel
theorem dX10_told_60 : decode cX10_told 60 = .ok (.aload_n 0, 1) := by decide +kernel
theorem dX10_told_61 : decode cX10_told 61 = .ok (.getfield 47, 3) := by decide +kernel
theorem dX10_told_64 : decode cX10_told 64 = .ok (.getfield 109, 3) := by decide +kernel
theorem dX10_told_67 : decode cX10_told 67 = .ok (.ireturn, 1) := by decide +kernel
theorem dX10_told_68 : decode cX10_told 68 = .ok (.aload_n 0, 1) := by decide +kernel
theorem dX10_told_69 : decode cX10_told 69 = .ok (.getfield 47, 3) := by decide +kernel
theorem dX10_told_72 : decode cX10_told 72 = .ok (.getfield 112, 3) := by decide +kernel
theorem dX10_told_75 : decode cX10_told 75 = .ok (.ireturn, 1) := by decide +kernel
theorem dX10_told_76 : decode cX10_told 76 = .ok (.aload_n 0, 1) := by decide +kernel
theorem dX10_told_77 : decode cX10_told 77 = .ok (.getfield 47, 3) := by decide +kernel
theorem dX10_told_80 : decode cX10_told 80 = .ok (.getfield 93, 3) := by decide +kernel
theorem dX10_told_83 : decode cX10_told 83 = .ok (.ifCond .eq 13, 3) := by decide +kernel
theorem dX10_told_86 : decode cX10_told 86 = .ok (.aload_n 0, 1) := by decide +kernel
theorem dX10_told_87 : decode cX10_told 87 = .ok (.getfield 47, 3) := by decide +kernel
theorem dX10_told_90 : decode cX10_told 90 = .ok (.getfield 115, 3) := by decide +kernel
theorem dX10_told_93 : decode cX10_told 93 = .ok (.goto 4, 3) := by decide +kernel
theorem dX10_told_96 : decode cX10_told 96 = .ok (.iconst 0, 1) := by decide +kernel
theorem dX10_told_97 : decode cX10_told 97 = .ok (.ireturn, 1) := by decide +kernel
theorem dX10_told_98 : decode cX10_told 98 = .ok (.aload_n 0, 1) := by decide +kernel
theorem dX10_told_99 : decode cX10_told 99 = .ok (.getfield 47, 3) := by decide +kernel
theorem dX10_told_102 : decode cX10_told 102 = .ok (.getfield 93, 3) := by decide +kernel
theorem dX10_told_105 : decode cX10_told 105 = .ok (.ifCond .eq 17, 3) := by decide +kernel
theorem dX10_told_108 : decode cX10_told 108 = .ok (.aload_n 0, 1) := by decide +kernel
theorem dX10_told_109 : decode cX10_told 109 = .ok (.getfield 47, 3) := by decide +kernel
theorem dX10_told_112 : decode cX10_told 112 = .ok (.getfield 118, 3) := by decide +kernel
theorem dX10_told_115 : decode cX10_told 115 = .ok (.ifCond .ne 7, 3) := by decide +kernel
theorem dX10_told_118 : decode cX10_told 118 = .ok (.iconst 1, 1) := by decide +kernel
theorem dX10_told_119 : decode cX10_told 119 = .ok (.goto 4, 3) := by decide +kernel
theorem dX10_told_122 : decode cX10_told 122 = .ok (.iconst 0, 1) := by decide +kernel
theorem dX10_told_123 : decode cX10_told 123 = .ok (.ireturn, 1) := by decide +kernel
theorem dX10_told_124 : decode cX10_told 124 = .ok (.aload_n 0, 1) := by decide +kernel
theorem dX10_told_125 : decode cX10_told 125 = .ok (.getfield 47, 3) := by decide +kernel
theorem dX10_told_128 : decode cX10_told 128 = .ok (.getfield 121, 3) := by decide +kernel
theorem dX10_told_131 : decode cX10_told 131 = .ok (.invokevirtual 125, 3) := by decide +kernel
theorem dX10_told_134 : decode cX10_told 134 = .ok (.ireturn, 1) := by decide +kernel
theorem dX10_told_135 : decode cX10_told 135 = .ok (.iconst (-1), 1) := by decide +kernel
theorem dX10_told_136 : decode cX10_told 136 = .ok (.ireturn, 1) := by decide +kernel
theorem dX10_left_0 : decode cX10_left 0 = .ok (.aload_n 0, 1) := by decide +kernel
theorem dX10_left_1 : decode cX10_left 1 = .ok (.getfield 47, 3) := by decide +kernel
theorem dX10_left_4 : decode cX10_left 4 = .ok (.getfield 93, 3) := by decide +kernel
theorem dX10_left_7 : decode cX10_left 7 = .ok (.ifCond .eq 13, 3) := by decide +kernel
theorem dX10_left_10 : decode cX10_left 10 = .ok (.aload_n 0, 1) := by decide +kernel
theorem dX10_left_11 : decode cX10_left 11 = .ok (.getfield 47, 3) := by decide +kernel
theorem dX10_left_14 : decode cX10_left 14 = .ok (.getfield 118, 3) := by decide +kernel
theorem dX10_left_17 : decode cX10_left 17 = .ok (.goto 4, 3) := by decide +kernel
theorem dX10_left_20 : decode cX10_left 20 = .ok (.iconst (-1), 1) := by decide +kernel
theorem dX10_left_21 : decode cX10_left 21 = .ok (.ireturn, 1) := by decide +kernel
set_option maxRecDepth 20000 in
theorem ggX10_needed_X4_has : GoodIn wsX10_needed wsX4_has := goodIn_r _ [13, 14, 129, 130, 131, 132, 133, 134, 135] (by decide +kernel) (by decide +kernel)
set_option maxRecDepth 20000 in
theorem gX10_needed_X4_has : GoodIn wsX10_needed (wsV RX10 61 RX4 yX4_has wsX4_has) := goodIn_app (goodIn_of _ (by decide +kernel)) ggX10_needed_X4_has
set_option maxRecDepth 20000 in
theorem ggX10_needed_X5_needsSet : GoodIn wsX10_needed wsX5_needsSet := goodIn_r _ [19, 20, 21, 22, 23, 24, 25, 26, 27, 28, 29, 30, 31, 32, 33, 34, 35, 36, 37, 38, 39, 40, 41, 42, 43, 44, 45, 46, 47, 48, 49, 50, 51, 52, 53, 54, 55, 56, 57, 58, 59, 60, 61, 62, 63, 64, 65, 66, 67, 68, 69, 70, 71, 72, 73, 74, 75, 76, 77, 78, 79, 80, 81, 82, 83, 84, 85, 86, 87, 88, 89, 90, 91, 92, 93, 94, 107, 108, 109, 110, 111, 112, 113, 114, 115, 116, 117, 118, 119, 120, 121, 122, 123, 124, 125, 126, 129, 130, 131, 132, 133, 134, 135, 127, 128, 136, 137, 138, 139, 140, 141, 142, 143, 144] (by decide +kernel) (by decide +kernel)
set_option maxRecDepth 20000 in
theorem gX10_needed_X5_needsSet : GoodIn wsX10_needed (wsV RX10 134 RX5 yX5_needsSet wsX5_needsSet) := goodIn_app (goodIn_of _ (by decide +kernel)) ggX10_needed_X5_needsSet
theorem dX10_needed_0 : decode cX10_needed 0 = .ok (.aload_n 0, 1) := by decide +kernel
theorem dX10_needed_1 : decode cX10_needed 1 = .ok (.getfield 12, 3) := by decide +kernel
theorem dX10_needed_4 : decode cX10_needed 4 = .ok (.iload_n 1, 1) := by decide +kernel
theorem dX10_needed_5 : decode cX10_needed 5 = .ok (.invokevirtual 61, 3) := by decide +kernel
theorem dX10_needed_8 : decode cX10_needed 8 = .ok (.ifCond .ne 13, 3) := by decide +kernel
theorem dX10_needed_11 : decode cX10_needed 11 = .ok (.new 65, 3) := by decide +kernel
theorem dX10_needed_14 : decode cX10_needed 14 = .ok (.dup, 1) := by decide +kernel
theorem dX10_needed_15 : decode cX10_needed 15 = .ok (.ldc 67, 2) := by decide +kernel
theorem dX10_needed_17 : decode cX10_needed 17 = .ok (.invokespecial 69, 3) := by decide +kernel
theorem dX10_needed_20 : decode cX10_needed 20 = .ok (.athrow, 1) := by decide +kernel
theorem dX10_needed_21 : decode cX10_needed 21 = .ok (.aload_n 0, 1) := by decide +kernel
theorem dX10_needed_22 : decode cX10_needed 22 = .ok (.getfield 47, 3) := by decide +kernel
theorem dX10_needed_25 : decode cX10_needed 25 = .ok (.getfield 93, 3) := by decide +kernel
theorem dX10_needed_28 : decode cX10_needed 28 = .ok (.ifCond .eq 26, 3) := by decide +kernel
theorem dX10_needed_31 : decode cX10_needed 31 = .ok (.aload_n 0, 1) := by decide +kernel
theorem dX10_needed_32 : decode cX10_needed 32 = .ok (.getfield 47, 3) := by decide +kernel
theorem dX10_needed_35 : decode cX10_needed 35 = .ok (.aload_n 0, 1) := by decide +kernel
theorem dX10_needed_36 : decode cX10_needed 36 = .ok (.getfield 23, 3) := by decide +kernel
theorem dX10_needed_39 : decode cX10_needed 39 = .ok (.getfield 131, 3) := by decide +kernel
theorem dX10_needed_42 : decode cX10_needed 42 = .ok (.iload_n 1, 1) := by decide +kernel
theorem dX10_needed_43 : decode cX10_needed 43 = .ok (.iaload, 1) := by decide +kernel
theorem dX10_needed_44 : decode cX10_needed 44 = .ok (.invokevirtual 134, 3) := by decide +kernel
theorem dX10_needed_47 : decode cX10_needed 47 = .ok (.ifCond .eq 7, 3) := by decide +kernel
theorem dX10_needed_50 : decode cX10_needed 50 = .ok (.iconst 1, 1) := by decide +kernel
theorem dX10_needed_51 : decode cX10_needed 51 = .ok (.goto 4, 3) := by decide +kernel
theorem dX10_needed_54 : decode cX10_needed 54 = .ok (.iconst 0, 1) := by decide +kernel
theorem dX10_needed_55 : decode cX10_needed 55 = .ok (.ireturn, 1) := by decide +kernel
set_option maxRecDepth 20000 in
theorem ggX10_answers_X9_read : GoodIn wsX10_answers wsX9_read := goodIn_r _ [9, 10, 11, 12, 13, 14, 15, 16, 17, 18, 19, 20, 21, 22, 23, 24, 25, 26, 27, 28, 29, 8, 30, 31, 32, 33, 34, 35, 36, 37, 38, 39, 40, 41, 42, 43, 44, 45, 46, 47, 117, 118, 119, 120, 121, 122, 123, 124, 125, 126, 127, 128, 129, 130, 131, 132, 133] (by decide +kernel) (by decide +kernel)
set_option maxRecDepth 20000 in
theorem gX10_answers_X9_read : GoodIn wsX10_answers (wsV RX10 137 RX9 yX9_read wsX9_read) := goodIn_app (goodIn_of _ (by decide +kernel)) ggX10_answers_X9_read
set_option maxRecDepth 20000 in
theorem ggX10_answers_X8_count : GoodIn wsX10_answers wsX8_count := goodIn_r _ [52, 53, 54, 55, 56, 57, 58, 59, 18, 60, 20, 21, 61, 16, 17, 19, 22, 23, 24, 25, 26, 62, 41, 42, 43, 44, 45, 46, 47, 37, 38, 39, 63, 64, 65, 66, 67, 68, 69, 51, 70, 71, 72, 73, 74, 75, 76, 77, 78, 33, 34, 35, 36, 79, 80, 81, 82, 83, 84, 85, 86, 87, 88, 89, 90, 134, 135, 136, 137, 129, 130, 131, 132, 133, 122, 123, 124, 125, 126, 127, 128] (by decide +kernel) (by decide +kernel)
set_option maxRecDepth 20000 in
theorem gX10_answers_X8_count : GoodIn wsX10_answers (wsV RX10 147 RX8 yX8_count wsX8_count) := goodIn_app (goodIn_of _ (by decide +kernel)) ggX10_answers_X8_count
theorem dX10_answers_0 : decode cX10_answers 0 = .ok (.aload_n 0, 1) := by decide +kernel
theorem dX10_answers_1 : decode cX10_answers 1 = .ok (.getfield 54, 3) := by decide +kernel
theorem dX10_answers_4 : decode cX10_answers 4 = .ok (.invokevirtual 137, 3) := by decide +kernel
theorem dX10_answers_7 : decode cX10_answers 7 = .ok (.istore_n 1, 1) := by decide +kernel
theorem dX10_answers_8 : decode cX10_answers 8 = .ok (.iload_n 1, 1) := by decide +kernel
theorem dX10_answers_9 : decode cX10_answers 9 = .ok (.ifCond .lt 7, 3) := by decide +kernel
theorem dX10_answers_12 : decode cX10_answers 12 = .ok (.iconst (-1), 1) := by decide +kernel
theorem dX10_answers_13 : decode cX10_answers 13 = .ok (.iload_n 1, 1) := by decide +kernel
theorem dX10_answers_14 : decode cX10_answers 14 = .ok (.isub, 1) := by decide +kernel
theorem dX10_answers_15 : decode cX10_answers 15 = .ok (.ireturn, 1) := by decide +kernel
theorem dX10_answers_16 : decode cX10_answers 16 = .ok (.aload_n 0, 1) := by decide +kernel
theorem dX10_answers_17 : decode cX10_answers 17 = .ok (.getfield 47, 3) := by decide +kernel
theorem dX10_answers_20 : decode cX10_answers 20 = .ok (.getfield 140, 3) := by decide +kernel
theorem dX10_answers_23 : decode cX10_answers 23 = .ok (.aload_n 0, 1) := by decide +kernel
theorem dX10_answers_24 : decode cX10_answers 24 = .ok (.getfield 54, 3) := by decide +kernel
theorem dX10_answers_27 : decode cX10_answers 27 = .ok (.getfield 144, 3) := by decide +kernel
theorem dX10_answers_30 : decode cX10_answers 30 = .ok (.bipush 100, 2) := by decide +kernel
theorem dX10_answers_32 : decode cX10_answers 32 = .ok (.invokevirtual 147, 3) := by decide +kernel
theorem dX10_answers_35 : decode cX10_answers 35 = .ok (.ireturn, 1) := by decide +kernel
set_option maxRecDepth 20000 in
theorem ggX10_unit_X9_add : GoodIn wsX10_unit wsX9_add := goodIn_r _ [6, 7, 8, 15, 16, 17, 18, 19] (by decide +kernel) (by decide +kernel)
set_option maxRecDepth 20000 in
theorem gX10_unit_X9_add : GoodIn wsX10_unit (wsV RX10 153 RX9 yX9_add wsX9_add) := goodIn_app (goodIn_of _ (by decide +kernel)) ggX10_unit_X9_add
theorem dX10_unit_0 : decode cX10_unit 0 = .ok (.aload_n 0, 1) := by decide +kernel
theorem dX10_unit_1 : decode cX10_unit 1 = .ok (.getfield 54, 3) := by decide +kernel
theorem dX10_unit_4 : decode cX10_unit 4 = .ok (.iload_n 1, 1) := by decide +kernel
theorem dX10_unit_5 : decode cX10_unit 5 = .ok (.invokevirtual 153, 3) := by decide +kernel
theorem dX10_unit_8 : decode cX10_unit 8 = .ok (.ireturn, 1) := by decide +kernel
set_option maxRecDepth 20000 in
theorem ggX10_text_X4_has : GoodIn wsX10_text wsX4_has := goodIn_r _ [9, 10, 41, 42, 43, 44, 45, 46, 47] (by decide +kernel) (by decide +kernel)
set_option maxRecDepth 20000 in
theorem gX10_text_X4_has : GoodIn wsX10_text (wsV RX10 61 RX4 yX4_has wsX4_has) := goodIn_app (goodIn_of _ (by decide +kernel)) ggX10_text_X4_has
set_option maxRecDepth 20000 in
theorem ggX10_text_X9_byteOf : GoodIn wsX10_text wsX9_byteOf := goodIn_r _ [14] (by decide +kernel) (by decide +kernel)
set_option maxRecDepth 20000 in
theorem gX10_text_X9_byteOf : GoodIn wsX10_text (va_wsS RX10 156 yX9_byteOf wsX9_byteOf) := goodIn_app (goodIn_of _ (by decide +kernel)) ggX10_text_X9_byteOf
theorem dX10_text_0 : decode cX10_text 0 = .ok (.aload_n 0, 1) := by decide +kernel
theorem dX10_text_1 : decode cX10_text 1 = .ok (.getfield 47, 3) := by decide +kernel
theorem dX10_text_4 : decode cX10_text 4 = .ok (.getfield 93, 3) := by decide +kernel
theorem dX10_text_7 : decode cX10_text 7 = .ok (.ifCond .eq 14, 3) := by decide +kernel
theorem dX10_text_10 : decode cX10_text 10 = .ok (.aload_n 0, 1) := by decide +kernel
theorem dX10_text_11 : decode cX10_text 11 = .ok (.getfield 12, 3) := by decide +kernel
theorem dX10_text_14 : decode cX10_text 14 = .ok (.iload_n 1, 1) := by decide +kernel
theorem dX10_text_15 : decode cX10_text 15 = .ok (.invokevirtual 61, 3) := by decide +kernel
theorem dX10_text_18 : decode cX10_text 18 = .ok (.ifCond .ne 5, 3) := by decide +kernel
theorem dX10_text_21 : decode cX10_text 21 = .ok (.iconst (-1), 1) := by decide +kernel
theorem dX10_text_22 : decode cX10_text 22 = .ok (.ireturn, 1) := by decide +kernel
theorem dX10_text_23 : decode cX10_text 23 = .ok (.aload_n 0, 1) := by decide +kernel
theorem dX10_text_24 : decode cX10_text 24 = .ok (.getfield 47, 3) := by decide +kernel
theorem dX10_text_27 : decode cX10_text 27 = .ok (.getfield 97, 3) := by decide +kernel
theorem dX10_text_30 : decode cX10_text 30 = .ok (.iload_n 1, 1) := by decide +kernel
theorem dX10_text_31 : decode cX10_text 31 = .ok (.iaload, 1) := by decide +kernel
theorem dX10_text_32 : decode cX10_text 32 = .ok (.invokestatic 156, 3) := by decide +kernel
theorem dX10_text_35 : decode cX10_text 35 = .ok (.ireturn, 1) := by decide +kernel
theorem dL_cell_0 : decode cL_cell 0 = .ok (.iload_n 1, 1) := by decide +kernel
theorem dL_cell_1 : decode cL_cell 1 = .ok (.aload_n 0, 1) := by decide +kernel
theorem dL_cell_2 : decode cL_cell 2 = .ok (.arraylength, 1) := by decide +kernel
theorem dL_cell_3 : decode cL_cell 3 = .ok (.if_icmp .ge 9, 3) := by decide +kernel
theorem dL_cell_6 : decode cL_cell 6 = .ok (.aload_n 0, 1) := by decide +kernel
theorem dL_cell_7 : decode cL_cell 7 = .ok (.iload_n 1, 1) := by decide +kernel
theorem dL_cell_8 : decode cL_cell 8 = .ok (.iaload, 1) := by decide +kernel
theorem dL_cell_9 : decode cL_cell 9 = .ok (.goto 4, 3) := by decide +kernel
theorem dL_cell_12 : decode cL_cell 12 = .ok (.iconst 0, 1) := by decide +kernel
theorem dL_cell_13 : decode cL_cell 13 = .ok (.ireturn, 1) := by decide +kernel
set_option maxRecDepth 20000 in
theorem ggL_theme_X10_theme : GoodIn wsL_theme wsX10_theme := goodIn_ca (goodIn_r _ [7, 8, 9, 10, 11, 12, 13, 14, 15, 16, 17, 18, 19, 20, 21, 22, 23, 24, 25, 26, 27, 28, 29, 30, 31, 32, 33, 34, 35, 36, 37, 38, 39] (by decide +kernel) (by decide +kernel)) (goodIn_sub (fun _ h => List.mem_cons_of_mem _ (List.mem_append_right _ h)) (by decide +kernel))
set_option maxRecDepth 20000 in
theorem gL_theme_X10_theme : GoodIn wsL_theme (wsV RL 7 RX10 yX10_theme wsX10_theme) := goodIn_app (goodIn_of _ (by decide +kernel)) ggL_theme_X10_theme
theorem dL_theme_0 : decode cL_theme 0 = .ok (.aload_n 0, 1) := by decide +kernel
theorem dL_theme_1 : decode cL_theme 1 = .ok (.iload_n 1, 1) := by decide +kernel
theorem dL_theme_2 : decode cL_theme 2 = .ok (.iload_n 2, 1) := by decide +kernel
theorem dL_theme_3 : decode cL_theme 3 = .ok (.invokevirtual 7, 3) := by decide +kernel
theorem dL_theme_6 : decode cL_theme 6 = .ok (.goto 9, 3) := by decide +kernel
theorem dL_theme_9 : decode cL_theme 9 = .ok (.astore_n 3, 1) := by decide +kernel
theorem dL_theme_10 : decode cL_theme 10 = .ok (.iconst 1, 1) := by decide +kernel
theorem dL_theme_11 : decode cL_theme 11 = .ok (.ireturn, 1) := by decide +kernel
theorem dL_theme_12 : decode cL_theme 12 = .ok (.astore_n 3, 1) := by decide +kernel
theorem dL_theme_13 : decode cL_theme 13 = .ok (.iconst 2, 1) := by decide +kernel
theorem dL_theme_14 : decode cL_theme 14 = .ok (.ireturn, 1) := by decide +kernel
theorem dL_theme_15 : decode cL_theme 15 = .ok (.iconst 0, 1) := by decide +kernel
theorem dL_theme_16 : decode cL_theme 16 = .ok (.ireturn, 1) := by decide +kernel
set_option maxRecDepth 20000 in
theorem ggL_aim_X10_aim : GoodIn wsL_aim wsX10_aim := goodIn_ca (goodIn_r _ [6, 7, 8, 9, 10, 11, 12, 13, 14, 15, 16, 17, 18, 19, 20, 21, 22, 23, 24, 25, 26] (by decide +kernel) (by decide +kernel)) (goodIn_sub (fun _ h => List.mem_cons_of_mem _ (List.mem_append_right _ h)) (by decide +kernel))
set_option maxRecDepth 20000 in
theorem gL_aim_X10_aim : GoodIn wsL_aim (wsV RL 17 RX10 yX10_aim wsX10_aim) := goodIn_app (goodIn_of _ (by decide +kernel)) ggL_aim_X10_aim
theorem dL_aim_0 : decode cL_aim 0 = .ok (.aload_n 0, 1) := by decide +kernel
theorem dL_aim_1 : decode cL_aim 1 = .ok (.iload_n 1, 1) := by decide +kernel
theorem dL_aim_2 : decode cL_aim 2 = .ok (.iload_n 2, 1) := by decide +kernel
theorem dL_aim_3 : decode cL_aim 3 = .ok (.iload_n 3, 1) := by decide +kernel
theorem dL_aim_4 : decode cL_aim 4 = .ok (.invokevirtual 17, 3) := by decide +kernel
theorem dL_aim_7 : decode cL_aim 7 = .ok (.goto 7, 3) := by decide +kernel
theorem dL_aim_10 : decode cL_aim 10 = .ok (.astore 4, 2) := by decide +kernel
theorem dL_aim_12 : decode cL_aim 12 = .ok (.iconst 1, 1) := by decide +kernel
theorem dL_aim_13 : decode cL_aim 13 = .ok (.ireturn, 1) := by decide +kernel
theorem dL_aim_14 : decode cL_aim 14 = .ok (.iconst 0, 1) := by decide +kernel
theorem dL_aim_15 : decode cL_aim 15 = .ok (.ireturn, 1) := by decide +kernel
set_option maxRecDepth 20000 in
theorem ggL_given_X10_given : GoodIn wsL_given wsX10_given := goodIn_r _ [5, 6, 7, 8, 9, 10, 11, 12, 13, 14, 15, 16, 17, 18, 19, 20, 21, 22, 23, 24, 25, 26, 27, 28, 29, 30, 31, 32, 33, 34, 35, 36, 37, 38, 39, 40, 41, 42, 43, 44, 45, 46, 47, 48, 49, 50, 51, 52, 53, 54, 55, 56, 57] (by decide +kernel) (by decide +kernel)
set_option maxRecDepth 20000 in
theorem gL_given_X10_given : GoodIn wsL_given (wsV RL 21 RX10 yX10_given wsX10_given) := goodIn_app (goodIn_of _ (by decide +kernel)) ggL_given_X10_given
theorem dL_given_0 : decode cL_given 0 = .ok (.aload_n 2, 1) := by decide +kernel
theorem dL_given_1 : decode cL_given 1 = .ok (.iconst 0, 1) := by decide +kernel
theorem dL_given_2 : decode cL_given 2 = .ok (.aload_n 0, 1) := by decide +kernel
theorem dL_given_3 : decode cL_given 3 = .ok (.iload_n 1, 1) := by decide +kernel
theorem dL_given_4 : decode cL_given 4 = .ok (.invokevirtual 21, 3) := by decide +kernel
theorem dL_given_7 : decode cL_given 7 = .ok (.i2l, 1) := by decide +kernel
theorem dL_given_8 : decode cL_given 8 = .ok (.lastore, 1) := by decide +kernel
theorem dL_given_9 : decode cL_given 9 = .ok (.goto 6, 3) := by decide +kernel
theorem dL_given_12 : decode cL_given 12 = .ok (.astore_n 3, 1) := by decide +kernel
theorem dL_given_13 : decode cL_given 13 = .ok (.iconst 1, 1) := by decide +kernel
theorem dL_given_14 : decode cL_given 14 = .ok (.ireturn, 1) := by decide +kernel
theorem dL_given_15 : decode cL_given 15 = .ok (.iconst 0, 1) := by decide +kernel
theorem dL_given_16 : decode cL_given 16 = .ok (.ireturn, 1) := by decide +kernel
set_option maxRecDepth 20000 in
theorem ggL_answer_X10_answer : GoodIn wsL_answer wsX10_answer := goodIn_r _ [5, 6, 7, 8, 9, 10, 11, 12, 13, 14, 15, 16, 17, 18, 19, 20, 21, 22, 23, 24, 25, 26, 27, 28, 29, 30, 31, 32, 33, 34, 35, 36, 37, 38, 39, 40, 41, 42, 43, 44, 45, 46, 47, 48, 49, 50, 51, 52, 53, 54, 55, 56, 57] (by decide +kernel) (by decide +kernel)
set_option maxRecDepth 20000 in
theorem gL_answer_X10_answer : GoodIn wsL_answer (wsV RL 25 RX10 yX10_answer wsX10_answer) := goodIn_app (goodIn_of _ (by decide +kernel)) ggL_answer_X10_answer
theorem dL_answer_0 : decode cL_answer 0 = .ok (.aload_n 2, 1) := by decide +kernel
theorem dL_answer_1 : decode cL_answer 1 = .ok (.iconst 0, 1) := by decide +kernel
theorem dL_answer_2 : decode cL_answer 2 = .ok (.aload_n 0, 1) := by decide +kernel
theorem dL_answer_3 : decode cL_answer 3 = .ok (.iload_n 1, 1) := by decide +kernel
theorem dL_answer_4 : decode cL_answer 4 = .ok (.invokevirtual 25, 3) := by decide +kernel
theorem dL_answer_7 : decode cL_answer 7 = .ok (.i2l, 1) := by decide +kernel
theorem dL_answer_8 : decode cL_answer 8 = .ok (.lastore, 1) := by decide +kernel
theorem dL_answer_9 : decode cL_answer 9 = .ok (.goto 6, 3) := by decide +kernel
theorem dL_answer_12 : decode cL_answer 12 = .ok (.astore_n 3, 1) := by decide +kernel
theorem dL_answer_13 : decode cL_answer 13 = .ok (.iconst 1, 1) := by decide +kernel
theorem dL_answer_14 : decode cL_answer 14 = .ok (.ireturn, 1) := by decide +kernel
theorem dL_answer_15 : decode cL_answer 15 = .ok (.iconst 0, 1) := by decide +kernel
theorem dL_answer_16 : decode cL_answer 16 = .ok (.ireturn, 1) := by decide +kernel
set_option maxRecDepth 20000 in
theorem ggL_needed_X10_needed : GoodIn wsL_needed wsX10_needed := goodIn_r _ [5, 6, 7, 8, 9, 10, 11, 12, 13, 14, 15, 16, 17, 18, 19, 20, 21, 22, 23, 24, 25, 26, 27, 28, 29, 30, 31, 32, 33, 34, 35, 36, 37, 38, 39, 40, 41, 42, 43, 44, 45, 46, 47, 48, 49, 50, 51, 52, 53, 54, 55, 56, 57, 58, 59, 60, 61, 62, 63, 64, 65, 66, 67, 68, 69, 70, 71, 72, 73, 74, 75, 76, 77, 78, 79, 80, 81, 82, 83, 84, 85, 86, 87, 88, 89, 90, 91, 92, 93, 94, 95, 96, 97, 98, 99, 100, 101, 102, 103, 104, 105, 106, 107, 108, 109, 110, 111, 112, 113, 114, 115, 116, 117, 118, 119, 120, 121, 122, 123, 124, 125, 126, 127, 128, 129, 130, 131, 132, 133, 134, 135, 136, 137, 138, 139, 140, 141, 142, 143, 144, 145, 146, 147, 148, 149] (by decide +kernel) (by decide +kernel)
set_option maxRecDepth 20000 in
theorem gL_needed_X10_needed : GoodIn wsL_needed (wsV RL 28 RX10 yX10_needed wsX10_needed) := goodIn_app (goodIn_of _ (by decide +kernel)) ggL_needed_X10_needed
theorem dL_needed_0 : decode cL_needed 0 = .ok (.aload_n 2, 1) := by decide +kernel
theorem dL_needed_1 : decode cL_needed 1 = .ok (.iconst 0, 1) := by decide +kernel
theorem dL_needed_2 : decode cL_needed 2 = .ok (.aload_n 0, 1) := by decide +kernel
theorem dL_needed_3 : decode cL_needed 3 = .ok (.iload_n 1, 1) := by decide +kernel
theorem dL_needed_4 : decode cL_needed 4 = .ok (.invokevirtual 28, 3) := by decide +kernel
theorem dL_needed_7 : decode cL_needed 7 = .ok (.ifCond .eq 7, 3) := by decide +kernel
theorem dL_needed_10 : decode cL_needed 10 = .ok (.lconst 1, 1) := by decide +kernel
theorem dL_needed_11 : decode cL_needed 11 = .ok (.goto 4, 3) := by decide +kernel
theorem dL_needed_14 : decode cL_needed 14 = .ok (.lconst 0, 1) := by decide +kernel
theorem dL_needed_15 : decode cL_needed 15 = .ok (.lastore, 1) := by decide +kernel
theorem dL_needed_16 : decode cL_needed 16 = .ok (.goto 6, 3) := by decide +kernel
theorem dL_needed_19 : decode cL_needed 19 = .ok (.astore_n 3, 1) := by decide +kernel
theorem dL_needed_20 : decode cL_needed 20 = .ok (.iconst 1, 1) := by decide +kernel
theorem dL_needed_21 : decode cL_needed 21 = .ok (.ireturn, 1) := by decide +kernel
theorem dL_needed_22 : decode cL_needed 22 = .ok (.iconst 0, 1) := by decide +kernel
theorem dL_needed_23 : decode cL_needed 23 = .ok (.ireturn, 1) := by decide +kernel
set_option maxRecDepth 20000 in
theorem ggL_law_L_cell : GoodIn wsL_law wsL_cell := goodIn_r _ [11] (by decide +kernel) (by decide +kernel)
set_option maxRecDepth 20000 in
theorem gL_law_L_cell : GoodIn wsL_law (va_wsS RL 32 yL_cell wsL_cell) := goodIn_app (goodIn_of _ (by decide +kernel)) ggL_law_L_cell
set_option maxRecDepth 20000 in
theorem ggL_law_X10_init : GoodIn wsL_law wsX10_init := goodIn_r _ [14, 15, 16, 17, 18, 19, 20, 21, 22, 23, 24, 25, 26, 27, 28, 29, 30, 31, 32, 33, 34, 35, 36, 37, 38, 39, 40, 41, 42, 43, 44, 45, 46, 47, 48, 49, 50, 51, 52, 53, 54, 55, 56, 57, 58, 59, 60, 61, 62, 63, 64, 65, 66, 67, 68, 69, 70, 71, 72, 73, 74, 75, 76, 77, 78, 79, 80, 81, 82, 83, 84, 85, 86, 87, 88, 89, 90, 91, 92, 93, 94, 95, 96, 97, 98, 99, 100, 101, 102, 103, 104, 105, 106, 107, 108, 109, 110, 111, 112, 113, 114, 115, 116, 117, 118, 119, 120, 121, 122, 123, 124, 125, 126, 127, 128, 129, 130, 131, 132, 133, 134, 135, 136, 137, 138, 139, 140, 141, 142, 143, 144, 145, 146, 147, 148, 149, 150, 151, 152, 153, 154, 155, 156, 157, 158, 159, 160, 161, 162, 163, 164, 662, 663, 664, 665, 666, 667, 668, 634, 635, 636, 637, 638, 639, 669, 670, 671, 672, 673, 674, 675, 676, 677, 678, 679, 680, 681, 682, 683, 684, 685, 686, 687, 688, 689, 690, 691, 692, 693, 694, 695, 696, 697, 698, 699, 700, 701, 702, 703, 704, 705, 706, 707, 708, 709, 710, 711, 712, 713] (by decide +kernel) (by decide +kernel)
set_option maxRecDepth 20000 in
theorem gL_law_X10_init : GoodIn wsL_law (wsX10_init) := ggL_law_X10_init
set_option maxRecDepth 20000 in
theorem ggL_law_X11_init : GoodIn wsL_law wsX11_init := goodIn_r _ [167, 168, 16, 17, 27, 169, 170, 171, 172, 173, 174, 175, 176, 177, 178, 179, 180, 181, 182, 183, 640, 641, 642, 643, 644, 645, 646, 647, 648, 649, 650, 651, 652, 653, 654, 655, 656, 657, 658, 659, 660, 661] (by decide +kernel) (by decide +kernel)
set_option maxRecDepth 20000 in
theorem gL_law_X11_init : GoodIn wsL_law (wsX11_init) := ggL_law_X11_init
set_option maxRecDepth 20000 in
theorem ggL_law_X10_symmetry : GoodIn wsL_law wsX10_symmetry := goodIn_r _ [187, 25, 188, 189, 190, 24, 191, 57, 58, 192, 193, 194, 195, 59, 196, 197, 198, 199, 200, 201, 202, 634, 635, 636, 637, 638, 639, 669, 670, 662, 663, 664, 665, 666, 667, 668] (by decide +kernel) (by decide +kernel)
set_option maxRecDepth 20000 in
theorem gL_law_X10_symmetry : GoodIn wsL_law (wsV RL 44 RX10 yX10_symmetry wsX10_symmetry) := goodIn_app (goodIn_of _ (by decide +kernel)) ggL_law_X10_symmetry
set_option maxRecDepth 20000 in
theorem ggL_law_X11_symmetry : GoodIn wsL_law wsX11_symmetry := goodIn_r _ [206, 207, 208, 640, 641, 642, 643, 644, 645, 646, 647, 648, 649, 650, 651, 652, 653, 654, 655, 656, 657, 658, 659, 660, 661] (by decide +kernel) (by decide +kernel)
set_option maxRecDepth 20000 in
theorem gL_law_X11_symmetry : GoodIn wsL_law (wsV RL 47 RX11 yX11_symmetry wsX11_symmetry) := goodIn_app (goodIn_of _ (by decide +kernel)) ggL_law_X11_symmetry
set_option maxRecDepth 20000 in
theorem ggL_law_L_theme : GoodIn wsL_law wsL_theme := goodIn_ca (goodIn_r _ [211, 212, 213, 214, 215, 216, 2, 217, 218, 219, 21, 220, 221, 222, 28, 223, 224, 225, 20, 226, 46, 634, 635, 636, 637, 638, 639, 714, 715, 716, 717, 718, 719, 662, 663, 664, 665, 666, 667, 668] (by decide +kernel) (by decide +kernel)) (goodIn_sub (fun _ h => List.mem_append_right _ h) (by decide +kernel))
set_option maxRecDepth 20000 in
theorem gL_law_L_theme : GoodIn wsL_law (va_wsS RL 48 yL_theme wsL_theme) := goodIn_app (goodIn_of _ (by decide +kernel)) ggL_law_L_theme
set_option maxRecDepth 20000 in
theorem ggL_law_X11_theme : GoodIn wsL_law wsX11_theme := goodIn_r _ [230, 169, 231, 232, 233, 5, 234, 235, 236, 237, 238, 181, 239, 240, 241, 242, 207, 640, 641, 642, 643, 644, 645, 646, 647, 648, 649, 650, 651, 652, 653, 654, 655, 656, 657, 658, 659, 660, 661] (by decide +kernel) (by decide +kernel)
set_option maxRecDepth 20000 in
theorem gL_law_X11_theme : GoodIn wsL_law (wsV RL 51 RX11 yX11_theme wsX11_theme) := goodIn_app (goodIn_of _ (by decide +kernel)) ggL_law_X11_theme
set_option maxRecDepth 20000 in
theorem ggL_law_X11_thrown : GoodIn wsL_law wsX11_thrown := goodIn_r _ [246, 207, 640, 641, 642, 643, 644, 645, 646, 647, 648, 649, 650, 651, 652, 653, 654, 655, 656, 657, 658, 659, 660, 661] (by decide +kernel) (by decide +kernel)
set_option maxRecDepth 20000 in
theorem gL_law_X11_thrown : GoodIn wsL_law (wsV RL 52 RX11 yX11_thrown wsX11_thrown) := goodIn_app (goodIn_of _ (by decide +kernel)) ggL_law_X11_thrown
set_option maxRecDepth 20000 in
theorem ggL_law_L_aim : GoodIn wsL_law wsL_aim := goodIn_ca (goodIn_r _ [249, 213, 250, 251, 252, 2, 253, 218, 219, 32, 254, 255, 256, 31, 257, 63, 64, 66, 634, 635, 636, 637, 638, 639, 671, 672, 673] (by decide +kernel) (by decide +kernel)) (goodIn_sub (fun _ h => List.mem_append_right _ h) (by decide +kernel))
set_option maxRecDepth 20000 in
theorem gL_law_L_aim : GoodIn wsL_law (va_wsS RL 56 yL_aim wsL_aim) := goodIn_app (goodIn_of _ (by decide +kernel)) ggL_law_L_aim
set_option maxRecDepth 20000 in
theorem ggL_law_X11_aim : GoodIn wsL_law wsX11_aim := goodIn_r _ [261, 262, 263, 171, 239, 240, 241, 5, 242, 207, 640, 641, 642, 643, 644, 645, 646, 647, 648, 649, 650, 651, 652, 653, 654, 655, 656, 657, 658, 659, 660, 661] (by decide +kernel) (by decide +kernel)
set_option maxRecDepth 20000 in
theorem gL_law_X11_aim : GoodIn wsL_law (wsV RL 59 RX11 yX11_aim wsX11_aim) := goodIn_app (goodIn_of _ (by decide +kernel)) ggL_law_X11_aim
set_option maxRecDepth 20000 in
theorem ggL_law_X10_make : GoodIn wsL_law wsX10_make := goodIn_r _ [267, 36, 268, 269, 270, 35, 271, 71, 72, 73, 74, 75, 85, 272, 273, 274, 84, 275, 108, 276, 277, 278, 279, 103, 104, 100, 280, 281, 282, 283, 76, 93, 77, 81, 284, 285, 286, 287, 89, 288, 289, 99, 290, 291, 292, 88, 293, 118, 113, 294, 114, 295, 131, 132, 117, 133, 123, 124, 125, 126, 127, 128, 129, 296, 297, 298, 299, 300, 301, 302, 303, 304, 305, 306, 307, 308, 309, 310, 311, 312, 313, 314, 315, 316, 317, 318, 319, 320, 321, 322, 323, 324, 325, 326, 327, 328, 329, 330, 331, 332, 333, 334, 335, 336, 337, 338, 339, 340, 341, 342, 343, 344, 345, 346, 347, 348, 78, 98, 102, 79, 349, 80, 97, 350, 351, 352, 353, 354, 355, 356, 96, 357, 149, 151, 146, 147, 358, 359, 360, 361, 130, 362, 363, 364, 365, 366, 367, 368, 369, 370, 371, 372, 373, 374, 375, 376, 377, 378, 379, 380, 381, 382, 383, 384, 385, 386, 387, 388, 389, 390, 391, 392, 393, 394, 395, 396, 397, 398, 399, 400, 401, 92, 402, 140, 138, 403, 404, 405, 406, 407, 408, 409, 410, 411, 412, 413, 414, 415, 416, 417, 418, 419, 420, 421, 422, 423, 424, 425, 426, 427, 428, 429, 31, 430, 64, 66, 63, 634, 635, 636, 637, 638, 639, 674, 675, 676, 677, 678, 679, 680, 681, 682, 683, 684, 685, 686, 687, 688, 689, 690, 691, 692, 693, 699, 700, 701, 702, 709, 710, 711, 712, 713, 662, 663, 664, 665, 666, 667, 668, 669, 670, 705, 706, 707, 708, 703, 704, 671, 672, 673] (by decide +kernel) (by decide +kernel)
set_option maxRecDepth 20000 in
theorem gL_law_X10_make : GoodIn wsL_law (wsV RL 62 RX10 yX10_make wsX10_make) := goodIn_app (goodIn_of _ (by decide +kernel)) ggL_law_X10_make
set_option maxRecDepth 20000 in
theorem ggL_law_X11_make : GoodIn wsL_law wsX11_make := goodIn_r _ [434, 207, 435, 172, 436, 173, 175, 174, 176, 437, 438, 439, 5, 440, 441, 179, 263, 171, 262, 442, 443, 444, 445, 181, 446, 447, 448, 449, 235, 236, 237, 238, 450, 451, 452, 453, 454, 455, 456, 457, 458, 459, 460, 461, 183, 182, 462, 463, 464, 465, 466, 467, 468, 469, 470, 471, 472, 473, 474, 475, 208, 476, 477, 478, 479, 169, 480, 481, 482, 483, 484, 485, 486, 487, 177, 488, 489, 490, 491, 492, 493, 494, 495, 496, 497, 498, 499, 500, 501, 502, 503, 178, 504, 505, 506, 507, 508, 509, 510, 511, 512, 513, 514, 515, 640, 641, 642, 643, 644, 645, 646, 647, 648, 649, 650, 651, 652, 653, 654, 655, 656, 657, 658, 659, 660, 661] (by decide +kernel) (by decide +kernel)
set_option maxRecDepth 20000 in
theorem gL_law_X11_make : GoodIn wsL_law (wsV RL 66 RX11 yX11_make wsX11_make) := goodIn_app (goodIn_of _ (by decide +kernel)) ggL_law_X11_make
set_option maxRecDepth 20000 in
theorem ggL_law_L_given : GoodIn wsL_law wsL_given := goodIn_r _ [518, 519, 520, 521, 2, 522, 21, 220, 221, 222, 36, 523, 524, 223, 224, 225, 20, 226, 46, 634, 635, 636, 637, 638, 639, 714, 715, 716, 717, 718, 719, 674, 675, 676, 677, 678, 679, 680, 681, 682, 683, 684, 685, 686, 687, 688, 689, 690, 691, 692, 693, 662, 663, 664, 665, 666, 667, 668] (by decide +kernel) (by decide +kernel)
set_option maxRecDepth 20000 in
theorem gL_law_L_given : GoodIn wsL_law (va_wsS RL 67 yL_given wsL_given) := goodIn_app (goodIn_of _ (by decide +kernel)) ggL_law_L_given
set_option maxRecDepth 20000 in
theorem ggL_law_X11_given : GoodIn wsL_law wsX11_given := goodIn_r _ [528, 436, 173, 231, 232, 233, 5, 234, 235, 236, 237, 238, 181, 239, 240, 241, 242, 207, 640, 641, 642, 643, 644, 645, 646, 647, 648, 649, 650, 651, 652, 653, 654, 655, 656, 657, 658, 659, 660, 661] (by decide +kernel) (by decide +kernel)
set_option maxRecDepth 20000 in
theorem gL_law_X11_given : GoodIn wsL_law (wsV RL 70 RX11 yX11_given wsX11_given) := goodIn_app (goodIn_of _ (by decide +kernel)) ggL_law_X11_given
set_option maxRecDepth 20000 in
theorem ggL_law_L_answer : GoodIn wsL_law wsL_answer := goodIn_r _ [531, 532, 533, 534, 2, 535, 21, 220, 221, 222, 36, 523, 536, 223, 224, 225, 20, 226, 46, 634, 635, 636, 637, 638, 639, 714, 715, 716, 717, 718, 719, 674, 675, 676, 677, 678, 679, 680, 681, 682, 683, 684, 685, 686, 687, 688, 689, 690, 691, 692, 693, 662, 663, 664, 665, 666, 667, 668] (by decide +kernel) (by decide +kernel)
set_option maxRecDepth 20000 in
theorem gL_law_L_answer : GoodIn wsL_law (va_wsS RL 71 yL_answer wsL_answer) := goodIn_app (goodIn_of _ (by decide +kernel)) ggL_law_L_answer
set_option maxRecDepth 20000 in
theorem ggL_law_X11_answer : GoodIn wsL_law wsX11_answer := goodIn_r _ [540, 436, 174, 231, 232, 233, 5, 234, 235, 236, 237, 238, 181, 239, 240, 241, 242, 207, 640, 641, 642, 643, 644, 645, 646, 647, 648, 649, 650, 651, 652, 653, 654, 655, 656, 657, 658, 659, 660, 661] (by decide +kernel) (by decide +kernel)
set_option maxRecDepth 20000 in
theorem gL_law_X11_answer : GoodIn wsL_law (wsV RL 73 RX11 yX11_answer wsX11_answer) := goodIn_app (goodIn_of _ (by decide +kernel)) ggL_law_X11_answer
set_option maxRecDepth 20000 in
theorem ggL_law_X10_told : GoodIn wsL_law wsX10_told := goodIn_r _ [544, 36, 545, 546, 547, 548, 523, 549, 550, 551, 552, 327, 328, 84, 329, 108, 634, 635, 636, 637, 638, 639, 674, 675, 676, 677, 678, 679, 680, 681, 682, 683, 684, 685, 686, 687, 688, 689, 690, 691, 692, 693, 699] (by decide +kernel) (by decide +kernel)
set_option maxRecDepth 20000 in
theorem gL_law_X10_told : GoodIn wsL_law (wsV RL 74 RX10 yX10_told wsX10_told) := goodIn_app (goodIn_of _ (by decide +kernel)) ggL_law_X10_told
set_option maxRecDepth 20000 in
theorem ggL_law_X11_told : GoodIn wsL_law wsX11_told := goodIn_r _ [556, 207, 172, 640, 641, 642, 643, 644, 645, 646, 647, 648, 649, 650, 651, 652, 653, 654, 655, 656, 657, 658, 659, 660, 661] (by decide +kernel) (by decide +kernel)
set_option maxRecDepth 20000 in
theorem gL_law_X11_told : GoodIn wsL_law (wsV RL 77 RX11 yX11_told wsX11_told) := goodIn_app (goodIn_of _ (by decide +kernel)) ggL_law_X11_told
set_option maxRecDepth 20000 in
theorem ggL_law_X10_left : GoodIn wsL_law wsX10_left := goodIn_r _ [560, 36, 523, 550, 634, 635, 636, 637, 638, 639, 674, 675, 676, 677, 678, 679, 680, 681, 682, 683, 684, 685, 686, 687, 688, 689, 690, 691, 692, 693] (by decide +kernel) (by decide +kernel)
set_option maxRecDepth 20000 in
theorem gL_law_X10_left : GoodIn wsL_law (wsV RL 78 RX10 yX10_left wsX10_left) := goodIn_app (goodIn_of _ (by decide +kernel)) ggL_law_X10_left
set_option maxRecDepth 20000 in
theorem ggL_law_X11_left : GoodIn wsL_law wsX11_left := goodIn_r _ [564, 207, 436, 565, 566, 567, 5, 568, 175, 173, 500, 501, 502, 503, 178, 181, 235, 236, 237, 238, 504, 505, 506, 507, 458, 459, 460, 461, 183, 182, 508, 509, 510, 511, 512, 513, 514, 515, 640, 641, 642, 643, 644, 645, 646, 647, 648, 649, 650, 651, 652, 653, 654, 655, 656, 657, 658, 659, 660, 661] (by decide +kernel) (by decide +kernel)
set_option maxRecDepth 20000 in
theorem gL_law_X11_left : GoodIn wsL_law (wsV RL 81 RX11 yX11_left wsX11_left) := goodIn_app (goodIn_of _ (by decide +kernel)) ggL_law_X11_left
set_option maxRecDepth 20000 in
theorem ggL_law_L_needed : GoodIn wsL_law wsL_needed := goodIn_r _ [571, 572, 573, 574, 2, 575, 21, 220, 221, 222, 36, 523, 25, 576, 223, 224, 225, 20, 226, 46, 577, 392, 393, 35, 394, 78, 98, 79, 349, 100, 104, 97, 354, 355, 356, 96, 357, 149, 151, 146, 147, 358, 359, 360, 117, 361, 123, 124, 130, 131, 132, 133, 125, 126, 127, 128, 129, 362, 338, 339, 340, 341, 342, 343, 344, 310, 311, 312, 363, 302, 303, 304, 364, 365, 366, 367, 368, 369, 370, 371, 372, 373, 374, 375, 306, 307, 308, 309, 376, 314, 315, 316, 317, 318, 319, 377, 378, 379, 380, 381, 634, 635, 636, 637, 638, 639, 714, 715, 716, 717, 718, 719, 674, 675, 676, 677, 678, 679, 680, 681, 682, 683, 684, 685, 686, 687, 688, 689, 690, 691, 692, 693, 669, 670, 662, 663, 664, 665, 666, 667, 668, 705, 706, 707, 708, 709, 710, 711, 712, 713] (by decide +kernel) (by decide +kernel)
set_option maxRecDepth 20000 in
theorem gL_law_L_needed : GoodIn wsL_law (va_wsS RL 82 yL_needed wsL_needed) := goodIn_app (goodIn_of _ (by decide +kernel)) ggL_law_L_needed
set_option maxRecDepth 20000 in
theorem ggL_law_X11_needed : GoodIn wsL_law wsX11_needed := goodIn_r _ [581, 436, 231, 232, 233, 5, 234, 235, 236, 237, 238, 181, 239, 240, 241, 242, 207, 565, 566, 567, 568, 175, 173, 496, 497, 498, 499, 468, 469, 470, 471, 472, 473, 474, 475, 208, 480, 481, 482, 483, 484, 485, 486, 487, 177, 488, 489, 490, 491, 458, 459, 460, 461, 183, 182, 640, 641, 642, 643, 644, 645, 646, 647, 648, 649, 650, 651, 652, 653, 654, 655, 656, 657, 658, 659, 660, 661] (by decide +kernel) (by decide +kernel)
set_option maxRecDepth 20000 in
theorem gL_law_X11_needed : GoodIn wsL_law (wsV RL 84 RX11 yX11_needed wsX11_needed) := goodIn_app (goodIn_of _ (by decide +kernel)) ggL_law_X11_needed
set_option maxRecDepth 20000 in
theorem ggL_law_X10_answers : GoodIn wsL_law wsX10_answers := goodIn_r _ [585, 40, 36, 586, 587, 588, 589, 590, 39, 591, 157, 160, 158, 592, 161, 593, 131, 132, 117, 133, 123, 124, 125, 126, 127, 128, 129, 594, 595, 596, 597, 598, 599, 306, 307, 308, 309, 310, 311, 312, 600, 338, 339, 340, 341, 342, 343, 344, 601, 355, 356, 96, 357, 149, 151, 146, 147, 358, 359, 360, 361, 130, 362, 363, 302, 303, 304, 364, 365, 366, 367, 368, 369, 370, 371, 372, 373, 374, 375, 376, 314, 315, 316, 317, 318, 319, 377, 378, 379, 380, 381, 634, 635, 636, 637, 638, 639, 674, 675, 676, 677, 678, 679, 680, 681, 682, 683, 684, 685, 686, 687, 688, 689, 690, 691, 692, 693, 694, 695, 696, 697, 698, 662, 663, 664, 665, 666, 667, 668, 709, 710, 711, 712, 713, 705, 706, 707, 708] (by decide +kernel) (by decide +kernel)
set_option maxRecDepth 20000 in
theorem gL_law_X10_answers : GoodIn wsL_law (wsV RL 85 RX10 yX10_answers wsX10_answers) := goodIn_app (goodIn_of _ (by decide +kernel)) ggL_law_X10_answers
set_option maxRecDepth 20000 in
theorem ggL_law_X11_answers : GoodIn wsL_law wsX11_answers := goodIn_r _ [605, 207, 606, 607, 608, 609, 5, 610, 180, 181, 175, 235, 236, 237, 238, 458, 459, 460, 461, 183, 182, 484, 485, 486, 487, 177, 488, 489, 490, 491, 640, 641, 642, 643, 644, 645, 646, 647, 648, 649, 650, 651, 652, 653, 654, 655, 656, 657, 658, 659, 660, 661] (by decide +kernel) (by decide +kernel)
set_option maxRecDepth 20000 in
theorem gL_law_X11_answers : GoodIn wsL_law (wsV RL 88 RX11 yX11_answers wsX11_answers) := goodIn_app (goodIn_of _ (by decide +kernel)) ggL_law_X11_answers
set_option maxRecDepth 20000 in
theorem ggL_law_X10_unit : GoodIn wsL_law wsX10_unit := goodIn_r _ [614, 40, 615, 616, 617, 39, 618, 157, 161, 634, 635, 636, 637, 638, 639, 694, 695, 696, 697, 698] (by decide +kernel) (by decide +kernel)
set_option maxRecDepth 20000 in
theorem gL_law_X10_unit : GoodIn wsL_law (wsV RL 89 RX10 yX10_unit wsX10_unit) := goodIn_app (goodIn_of _ (by decide +kernel)) ggL_law_X10_unit
set_option maxRecDepth 20000 in
theorem ggL_law_X11_unit : GoodIn wsL_law wsX11_unit := goodIn_r _ [622, 207, 606, 180, 640, 641, 642, 643, 644, 645, 646, 647, 648, 649, 650, 651, 652, 653, 654, 655, 656, 657, 658, 659, 660, 661] (by decide +kernel) (by decide +kernel)
set_option maxRecDepth 20000 in
theorem gL_law_X11_unit : GoodIn wsL_law (wsV RL 92 RX11 yX11_unit wsX11_unit) := goodIn_app (goodIn_of _ (by decide +kernel)) ggL_law_X11_unit
set_option maxRecDepth 20000 in
theorem ggL_law_X10_text : GoodIn wsL_law wsX10_text := goodIn_r _ [626, 36, 523, 21, 524, 223, 224, 225, 20, 226, 46, 627, 628, 39, 629, 634, 635, 636, 637, 638, 639, 674, 675, 676, 677, 678, 679, 680, 681, 682, 683, 684, 685, 686, 687, 688, 689, 690, 691, 692, 693, 662, 663, 664, 665, 666, 667, 668] (by decide +kernel) (by decide +kernel)
set_option maxRecDepth 20000 in
theorem gL_law_X10_text : GoodIn wsL_law (wsV RL 93 RX10 yX10_text wsX10_text) := goodIn_app (goodIn_of _ (by decide +kernel)) ggL_law_X10_text
set_option maxRecDepth 20000 in
theorem ggL_law_X11_text : GoodIn wsL_law wsX11_text := goodIn_r _ [633, 207, 436, 173, 235, 236, 237, 5, 238, 181, 640, 641, 642, 643, 644, 645, 646, 647, 648, 649, 650, 651, 652, 653, 654, 655, 656, 657, 658, 659, 660, 661] (by decide +kernel) (by decide +kernel)
set_option maxRecDepth 20000 in
theorem gL_law_X11_text : GoodIn wsL_law (wsV RL 96 RX11 yX11_text wsX11_text) := goodIn_app (goodIn_of _ (by decide +kernel)) ggL_law_X11_text
theorem dL_law_0 : decode cL_law 0 = .ok (.new 8, 3) := by decide +kernel
theorem dL_law_3 : decode cL_law 3 = .ok (.dup, 1) := by decide +kernel
theorem dL_law_4 : decode cL_law 4 = .ok (.aload_n 0, 1) := by decide +kernel
theorem dL_law_5 : decode cL_law 5 = .ok (.iconst 0, 1) := by decide +kernel
theorem dL_law_6 : decode cL_law 6 = .ok (.invokestatic 32, 3) := by decide +kernel
theorem dL_law_9 : decode cL_law 9 = .ok (.invokespecial 38, 3) := by decide +kernel
theorem dL_law_12 : decode cL_law 12 = .ok (.astore_n 1, 1) := by decide +kernel
theorem dL_law_13 : decode cL_law 13 = .ok (.new 41, 3) := by decide +kernel
theorem dL_law_16 : decode cL_law 16 = .ok (.dup, 1) := by decide +kernel
theorem dL_law_17 : decode cL_law 17 = .ok (.aload_n 0, 1) := by decide +kernel
theorem dL_law_18 : decode cL_law 18 = .ok (.iconst 0, 1) := by decide +kernel
theorem dL_law_19 : decode cL_law 19 = .ok (.invokestatic 32, 3) := by decide +kernel
theorem dL_law_22 : decode cL_law 22 = .ok (.invokespecial 43, 3) := by decide +kernel
theorem dL_law_25 : decode cL_law 25 = .ok (.astore_n 2, 1) := by decide +kernel
theorem dL_law_26 : decode cL_law 26 = .ok (.iconst 1, 1) := by decide +kernel
theorem dL_law_27 : decode cL_law 27 = .ok (.newarray .long, 2) := by decide +kernel
theorem dL_law_29 : decode cL_law 29 = .ok (.astore_n 3, 1) := by decide +kernel
theorem dL_law_30 : decode cL_law 30 = .ok (.iconst 1, 1) := by decide +kernel
theorem dL_law_31 : decode cL_law 31 = .ok (.istore 4, 2) := by decide +kernel
theorem dL_law_33 : decode cL_law 33 = .ok (.iload 4, 2) := by decide +kernel
theorem dL_law_35 : decode cL_law 35 = .ok (.aload_n 0, 1) := by decide +kernel
theorem dL_law_36 : decode cL_law 36 = .ok (.arraylength, 1) := by decide +kernel
theorem dL_law_37 : decode cL_law 37 = .ok (.iconst 4, 1) := by decide +kernel
theorem dL_law_38 : decode cL_law 38 = .ok (.isub, 1) := by decide +kernel
theorem dL_law_39 : decode cL_law 39 = .ok (.if_icmp .gt 557, 3) := by decide +kernel
theorem dL_law_42 : decode cL_law 42 = .ok (.aload_n 0, 1) := by decide +kernel
theorem dL_law_43 : decode cL_law 43 = .ok (.iload 4, 2) := by decide +kernel
theorem dL_law_45 : decode cL_law 45 = .ok (.iaload, 1) := by decide +kernel
theorem dL_law_46 : decode cL_law 46 = .ok (.bipush 15, 2) := by decide +kernel
theorem dL_law_48 : decode cL_law 48 = .ok (.iand, 1) := by decide +kernel
theorem dL_law_49 : decode cL_law 49 = .ok (.tableswitch 541 0 11 #[63, 88, 136, 196, 265, 321, 377, 402, 415, 478, 491, 516], 63) := by decide +kernel
theorem dL_law_112 : decode cL_law 112 = .ok (.aload_n 1, 1) := by decide +kernel
theorem dL_law_113 : decode cL_law 113 = .ok (.aload_n 0, 1) := by decide +kernel
theorem dL_law_114 : decode cL_law 114 = .ok (.iload 4, 2) := by decide +kernel
theorem dL_law_116 : decode cL_law 116 = .ok (.iconst 1, 1) := by decide +kernel
theorem dL_law_117 : decode cL_law 117 = .ok (.iadd, 1) := by decide +kernel
theorem dL_law_118 : decode cL_law 118 = .ok (.iaload, 1) := by decide +kernel
theorem dL_law_119 : decode cL_law 119 = .ok (.invokevirtual 44, 3) := by decide +kernel
theorem dL_law_122 : decode cL_law 122 = .ok (.aload_n 2, 1) := by decide +kernel
theorem dL_law_123 : decode cL_law 123 = .ok (.aload_n 0, 1) := by decide +kernel
theorem dL_law_124 : decode cL_law 124 = .ok (.iload 4, 2) := by decide +kernel
theorem dL_law_126 : decode cL_law 126 = .ok (.iconst 1, 1) := by decide +kernel
theorem dL_law_127 : decode cL_law 127 = .ok (.iadd, 1) := by decide +kernel
theorem dL_law_128 : decode cL_law 128 = .ok (.iaload, 1) := by decide +kernel
theorem dL_law_129 : decode cL_law 129 = .ok (.invokevirtual 47, 3) := by decide +kernel
theorem dL_law_132 : decode cL_law 132 = .ok (.if_icmp .eq 458, 3) := by decide +kernel
theorem dL_law_135 : decode cL_law 135 = .ok (.iconst 0, 1) := by decide +kernel
theorem dL_law_136 : decode cL_law 136 = .ok (.ireturn, 1) := by decide +kernel
theorem dL_law_137 : decode cL_law 137 = .ok (.aload_n 1, 1) := by decide +kernel
theorem dL_law_138 : decode cL_law 138 = .ok (.aload_n 0, 1) := by decide +kernel
theorem dL_law_139 : decode cL_law 139 = .ok (.iload 4, 2) := by decide +kernel
theorem dL_law_141 : decode cL_law 141 = .ok (.iconst 1, 1) := by decide +kernel
theorem dL_law_142 : decode cL_law 142 = .ok (.iadd, 1) := by decide +kernel
theorem dL_law_143 : decode cL_law 143 = .ok (.iaload, 1) := by decide +kernel
theorem dL_law_144 : decode cL_law 144 = .ok (.aload_n 0, 1) := by decide +kernel
theorem dL_law_145 : decode cL_law 145 = .ok (.iload 4, 2) := by decide +kernel
theorem dL_law_147 : decode cL_law 147 = .ok (.iconst 2, 1) := by decide +kernel
theorem dL_law_148 : decode cL_law 148 = .ok (.iadd, 1) := by decide +kernel
theorem dL_law_149 : decode cL_law 149 = .ok (.iaload, 1) := by decide +kernel
theorem dL_law_150 : decode cL_law 150 = .ok (.invokestatic 48, 3) := by decide +kernel
theorem dL_law_153 : decode cL_law 153 = .ok (.istore 5, 2) := by decide +kernel
theorem dL_law_155 : decode cL_law 155 = .ok (.aload_n 2, 1) := by decide +kernel
theorem dL_law_156 : decode cL_law 156 = .ok (.aload_n 0, 1) := by decide +kernel
theorem dL_law_157 : decode cL_law 157 = .ok (.iload 4, 2) := by decide +kernel
theorem dL_law_159 : decode cL_law 159 = .ok (.iconst 1, 1) := by decide +kernel
theorem dL_law_160 : decode cL_law 160 = .ok (.iadd, 1) := by decide +kernel
theorem dL_law_161 : decode cL_law 161 = .ok (.iaload, 1) := by decide +kernel
theorem dL_law_162 : decode cL_law 162 = .ok (.aload_n 0, 1) := by decide +kernel
theorem dL_law_163 : decode cL_law 163 = .ok (.iload 4, 2) := by decide +kernel
theorem dL_law_165 : decode cL_law 165 = .ok (.iconst 2, 1) := by decide +kernel
theorem dL_law_166 : decode cL_law 166 = .ok (.iadd, 1) := by decide +kernel
theorem dL_law_167 : decode cL_law 167 = .ok (.iaload, 1) := by decide +kernel
theorem dL_law_168 : decode cL_law 168 = .ok (.invokevirtual 51, 3) := by decide +kernel
theorem dL_law_171 : decode cL_law 171 = .ok (.aload_n 2, 1) := by decide +kernel
theorem dL_law_172 : decode cL_law 172 = .ok (.invokevirtual 52, 3) := by decide +kernel
theorem dL_law_175 : decode cL_law 175 = .ok (.iload 5, 2) := by decide +kernel
theorem dL_law_177 : decode cL_law 177 = .ok (.if_icmp .eq 5, 3) := by decide +kernel
theorem dL_law_180 : decode cL_law 180 = .ok (.iconst 0, 1) := by decide +kernel
theorem dL_law_181 : decode cL_law 181 = .ok (.ireturn, 1) := by decide +kernel
theorem dL_law_182 : decode cL_law 182 = .ok (.goto 408, 3) := by decide +kernel
theorem dL_law_185 : decode cL_law 185 = .ok (.aload_n 1, 1) := by decide +kernel
theorem dL_law_186 : decode cL_law 186 = .ok (.aload_n 0, 1) := by decide +kernel
theorem dL_law_187 : decode cL_law 187 = .ok (.iload 4, 2) := by decide +kernel
theorem dL_law_189 : decode cL_law 189 = .ok (.iconst 1, 1) := by decide +kernel
theorem dL_law_190 : decode cL_law 190 = .ok (.iadd, 1) := by decide +kernel
theorem dL_law_191 : decode cL_law 191 = .ok (.iaload, 1) := by decide +kernel
theorem dL_law_192 : decode cL_law 192 = .ok (.aload_n 0, 1) := by decide +kernel
theorem dL_law_193 : decode cL_law 193 = .ok (.iload 4, 2) := by decide +kernel
theorem dL_law_195 : decode cL_law 195 = .ok (.iconst 2, 1) := by decide +kernel
theorem dL_law_196 : decode cL_law 196 = .ok (.iadd, 1) := by decide +kernel
theorem dL_law_197 : decode cL_law 197 = .ok (.iaload, 1) := by decide +kernel
theorem dL_law_198 : decode cL_law 198 = .ok (.aload_n 0, 1) := by decide +kernel
theorem dL_law_199 : decode cL_law 199 = .ok (.iload 4, 2) := by decide +kernel
theorem dL_law_201 : decode cL_law 201 = .ok (.iconst 3, 1) := by decide +kernel
theorem dL_law_202 : decode cL_law 202 = .ok (.iadd, 1) := by decide +kernel
theorem dL_law_203 : decode cL_law 203 = .ok (.iaload, 1) := by decide +kernel
theorem dL_law_204 : decode cL_law 204 = .ok (.invokestatic 56, 3) := by decide +kernel
theorem dL_law_207 : decode cL_law 207 = .ok (.istore 5, 2) := by decide +kernel
theorem dL_law_209 : decode cL_law 209 = .ok (.aload_n 2, 1) := by decide +kernel
theorem dL_law_210 : decode cL_law 210 = .ok (.aload_n 0, 1) := by decide +kernel
theorem dL_law_211 : decode cL_law 211 = .ok (.iload 4, 2) := by decide +kernel
theorem dL_law_213 : decode cL_law 213 = .ok (.iconst 1, 1) := by decide +kernel
theorem dL_law_214 : decode cL_law 214 = .ok (.iadd, 1) := by decide +kernel
theorem dL_law_215 : decode cL_law 215 = .ok (.iaload, 1) := by decide +kernel
theorem dL_law_216 : decode cL_law 216 = .ok (.aload_n 0, 1) := by decide +kernel
theorem dL_law_217 : decode cL_law 217 = .ok (.iload 4, 2) := by decide +kernel
theorem dL_law_219 : decode cL_law 219 = .ok (.iconst 2, 1) := by decide +kernel
theorem dL_law_220 : decode cL_law 220 = .ok (.iadd, 1) := by decide +kernel
theorem dL_law_221 : decode cL_law 221 = .ok (.iaload, 1) := by decide +kernel
theorem dL_law_222 : decode cL_law 222 = .ok (.aload_n 0, 1) := by decide +kernel
theorem dL_law_223 : decode cL_law 223 = .ok (.iload 4, 2) := by decide +kernel
theorem dL_law_225 : decode cL_law 225 = .ok (.iconst 3, 1) := by decide +kernel
theorem dL_law_226 : decode cL_law 226 = .ok (.iadd, 1) := by decide +kernel
theorem dL_law_227 : decode cL_law 227 = .ok (.iaload, 1) := by decide +kernel
theorem dL_law_228 : decode cL_law 228 = .ok (.invokevirtual 59, 3) := by decide +kernel
theorem dL_law_231 : decode cL_law 231 = .ok (.aload_n 2, 1) := by decide +kernel
theorem dL_law_232 : decode cL_law 232 = .ok (.invokevirtual 52, 3) := by decide +kernel
theorem dL_law_235 : decode cL_law 235 = .ok (.iload 5, 2) := by decide +kernel
theorem dL_law_237 : decode cL_law 237 = .ok (.if_icmp .eq 5, 3) := by decide +kernel
theorem dL_law_240 : decode cL_law 240 = .ok (.iconst 0, 1) := by decide +kernel
theorem dL_law_241 : decode cL_law 241 = .ok (.ireturn, 1) := by decide +kernel
theorem dL_law_242 : decode cL_law 242 = .ok (.goto 348, 3) := by decide +kernel
theorem dL_law_245 : decode cL_law 245 = .ok (.aload_n 1, 1) := by decide +kernel
theorem dL_law_246 : decode cL_law 246 = .ok (.aload_n 0, 1) := by decide +kernel
theorem dL_law_247 : decode cL_law 247 = .ok (.iload 4, 2) := by decide +kernel
theorem dL_law_249 : decode cL_law 249 = .ok (.iconst 1, 1) := by decide +kernel
theorem dL_law_250 : decode cL_law 250 = .ok (.iadd, 1) := by decide +kernel
theorem dL_law_251 : decode cL_law 251 = .ok (.iaload, 1) := by decide +kernel
theorem dL_law_252 : decode cL_law 252 = .ok (.i2l, 1) := by decide +kernel
theorem dL_law_253 : decode cL_law 253 = .ok (.bipush 32, 2) := by decide +kernel
theorem dL_law_255 : decode cL_law 255 = .ok (.lshl, 1) := by decide +kernel
theorem dL_law_256 : decode cL_law 256 = .ok (.aload_n 0, 1) := by decide +kernel
theorem dL_law_257 : decode cL_law 257 = .ok (.iload 4, 2) := by decide +kernel
theorem dL_law_259 : decode cL_law 259 = .ok (.iconst 2, 1) := by decide +kernel
theorem dL_law_260 : decode cL_law 260 = .ok (.iadd, 1) := by decide +kernel
theorem dL_law_261 : decode cL_law 261 = .ok (.iaload, 1) := by decide +kernel
theorem dL_law_262 : decode cL_law 262 = .ok (.i2l, 1) := by decide +kernel
theorem dL_law_263 : decode cL_law 263 = .ok (.ldc2_w 60, 3) := by decide +kernel
theorem dL_law_266 : decode cL_law 266 = .ok (.land, 1) := by decide +kernel
theorem dL_law_267 : decode cL_law 267 = .ok (.lor, 1) := by decide +kernel
theorem dL_law_268 : decode cL_law 268 = .ok (.aload_n 0, 1) := by decide +kernel
theorem dL_law_269 : decode cL_law 269 = .ok (.iload 4, 2) := by decide +kernel
theorem dL_law_271 : decode cL_law 271 = .ok (.iconst 3, 1) := by decide +kernel
theorem dL_law_272 : decode cL_law 272 = .ok (.iadd, 1) := by decide +kernel
theorem dL_law_273 : decode cL_law 273 = .ok (.iaload, 1) := by decide +kernel
theorem dL_law_274 : decode cL_law 274 = .ok (.invokevirtual 62, 3) := by decide +kernel
theorem dL_law_277 : decode cL_law 277 = .ok (.aload_n 2, 1) := by decide +kernel
theorem dL_law_278 : decode cL_law 278 = .ok (.aload_n 0, 1) := by decide +kernel
theorem dL_law_279 : decode cL_law 279 = .ok (.iload 4, 2) := by decide +kernel
theorem dL_law_281 : decode cL_law 281 = .ok (.iconst 1, 1) := by decide +kernel
theorem dL_law_282 : decode cL_law 282 = .ok (.iadd, 1) := by decide +kernel
theorem dL_law_283 : decode cL_law 283 = .ok (.iaload, 1) := by decide +kernel
theorem dL_law_284 : decode cL_law 284 = .ok (.i2l, 1) := by decide +kernel
theorem dL_law_285 : decode cL_law 285 = .ok (.bipush 32, 2) := by decide +kernel
theorem dL_law_287 : decode cL_law 287 = .ok (.lshl, 1) := by decide +kernel
theorem dL_law_288 : decode cL_law 288 = .ok (.aload_n 0, 1) := by decide +kernel
theorem dL_law_289 : decode cL_law 289 = .ok (.iload 4, 2) := by decide +kernel
theorem dL_law_291 : decode cL_law 291 = .ok (.iconst 2, 1) := by decide +kernel
theorem dL_law_292 : decode cL_law 292 = .ok (.iadd, 1) := by decide +kernel
theorem dL_law_293 : decode cL_law 293 = .ok (.iaload, 1) := by decide +kernel
theorem dL_law_294 : decode cL_law 294 = .ok (.i2l, 1) := by decide +kernel
theorem dL_law_295 : decode cL_law 295 = .ok (.ldc2_w 60, 3) := by decide +kernel
theorem dL_law_298 : decode cL_law 298 = .ok (.land, 1) := by decide +kernel
theorem dL_law_299 : decode cL_law 299 = .ok (.lor, 1) := by decide +kernel
theorem dL_law_300 : decode cL_law 300 = .ok (.aload_n 0, 1) := by decide +kernel
theorem dL_law_301 : decode cL_law 301 = .ok (.iload 4, 2) := by decide +kernel
theorem dL_law_303 : decode cL_law 303 = .ok (.iconst 3, 1) := by decide +kernel
theorem dL_law_304 : decode cL_law 304 = .ok (.iadd, 1) := by decide +kernel
theorem dL_law_305 : decode cL_law 305 = .ok (.iaload, 1) := by decide +kernel
theorem dL_law_306 : decode cL_law 306 = .ok (.invokevirtual 66, 3) := by decide +kernel
theorem dL_law_309 : decode cL_law 309 = .ok (.if_icmp .eq 281, 3) := by decide +kernel
theorem dL_law_312 : decode cL_law 312 = .ok (.iconst 0, 1) := by decide +kernel
theorem dL_law_313 : decode cL_law 313 = .ok (.ireturn, 1) := by decide +kernel
theorem dL_law_314 : decode cL_law 314 = .ok (.aload_n 1, 1) := by decide +kernel
theorem dL_law_315 : decode cL_law 315 = .ok (.aload_n 0, 1) := by decide +kernel
theorem dL_law_316 : decode cL_law 316 = .ok (.iload 4, 2) := by decide +kernel
theorem dL_law_318 : decode cL_law 318 = .ok (.iconst 1, 1) := by decide +kernel
theorem dL_law_319 : decode cL_law 319 = .ok (.iadd, 1) := by decide +kernel
theorem dL_law_320 : decode cL_law 320 = .ok (.iaload, 1) := by decide +kernel
theorem dL_law_321 : decode cL_law 321 = .ok (.aload_n 3, 1) := by decide +kernel
theorem dL_law_322 : decode cL_law 322 = .ok (.invokestatic 67, 3) := by decide +kernel
theorem dL_law_325 : decode cL_law 325 = .ok (.istore 5, 2) := by decide +kernel
theorem dL_law_327 : decode cL_law 327 = .ok (.aload_n 2, 1) := by decide +kernel
theorem dL_law_328 : decode cL_law 328 = .ok (.aload_n 0, 1) := by decide +kernel
theorem dL_law_329 : decode cL_law 329 = .ok (.iload 4, 2) := by decide +kernel
theorem dL_law_331 : decode cL_law 331 = .ok (.iconst 1, 1) := by decide +kernel
theorem dL_law_332 : decode cL_law 332 = .ok (.iadd, 1) := by decide +kernel
theorem dL_law_333 : decode cL_law 333 = .ok (.iaload, 1) := by decide +kernel
theorem dL_law_334 : decode cL_law 334 = .ok (.invokevirtual 70, 3) := by decide +kernel
theorem dL_law_337 : decode cL_law 337 = .ok (.istore 6, 2) := by decide +kernel
theorem dL_law_339 : decode cL_law 339 = .ok (.aload_n 2, 1) := by decide +kernel
theorem dL_law_340 : decode cL_law 340 = .ok (.invokevirtual 52, 3) := by decide +kernel
theorem dL_law_343 : decode cL_law 343 = .ok (.iload 5, 2) := by decide +kernel
theorem dL_law_345 : decode cL_law 345 = .ok (.if_icmp .eq 5, 3) := by decide +kernel
theorem dL_law_348 : decode cL_law 348 = .ok (.iconst 0, 1) := by decide +kernel
theorem dL_law_349 : decode cL_law 349 = .ok (.ireturn, 1) := by decide +kernel
theorem dL_law_350 : decode cL_law 350 = .ok (.iload 5, 2) := by decide +kernel
theorem dL_law_352 : decode cL_law 352 = .ok (.ifCond .ne 15, 3) := by decide +kernel
theorem dL_law_355 : decode cL_law 355 = .ok (.aload_n 3, 1) := by decide +kernel
theorem dL_law_356 : decode cL_law 356 = .ok (.iconst 0, 1) := by decide +kernel
theorem dL_law_357 : decode cL_law 357 = .ok (.laload, 1) := by decide +kernel
theorem dL_law_358 : decode cL_law 358 = .ok (.iload 6, 2) := by decide +kernel
theorem dL_law_360 : decode cL_law 360 = .ok (.i2l, 1) := by decide +kernel
theorem dL_law_361 : decode cL_law 361 = .ok (.lcmp, 1) := by decide +kernel
theorem dL_law_362 : decode cL_law 362 = .ok (.ifCond .eq 5, 3) := by decide +kernel
theorem dL_law_365 : decode cL_law 365 = .ok (.iconst 0, 1) := by decide +kernel
theorem dL_law_366 : decode cL_law 366 = .ok (.ireturn, 1) := by decide +kernel
theorem dL_law_367 : decode cL_law 367 = .ok (.goto 223, 3) := by decide +kernel
theorem dL_law_370 : decode cL_law 370 = .ok (.aload_n 1, 1) := by decide +kernel
theorem dL_law_371 : decode cL_law 371 = .ok (.aload_n 0, 1) := by decide +kernel
theorem dL_law_372 : decode cL_law 372 = .ok (.iload 4, 2) := by decide +kernel
theorem dL_law_374 : decode cL_law 374 = .ok (.iconst 1, 1) := by decide +kernel
theorem dL_law_375 : decode cL_law 375 = .ok (.iadd, 1) := by decide +kernel
theorem dL_law_376 : decode cL_law 376 = .ok (.iaload, 1) := by decide +kernel
theorem dL_law_377 : decode cL_law 377 = .ok (.aload_n 3, 1) := by decide +kernel
theorem dL_law_378 : decode cL_law 378 = .ok (.invokestatic 71, 3) := by decide +kernel
theorem dL_law_381 : decode cL_law 381 = .ok (.istore 5, 2) := by decide +kernel
theorem dL_law_383 : decode cL_law 383 = .ok (.aload_n 2, 1) := by decide +kernel
theorem dL_law_384 : decode cL_law 384 = .ok (.aload_n 0, 1) := by decide +kernel
theorem dL_law_385 : decode cL_law 385 = .ok (.iload 4, 2) := by decide +kernel
theorem dL_law_387 : decode cL_law 387 = .ok (.iconst 1, 1) := by decide +kernel
theorem dL_law_388 : decode cL_law 388 = .ok (.iadd, 1) := by decide +kernel
theorem dL_law_389 : decode cL_law 389 = .ok (.iaload, 1) := by decide +kernel
theorem dL_law_390 : decode cL_law 390 = .ok (.invokevirtual 73, 3) := by decide +kernel
theorem dL_law_393 : decode cL_law 393 = .ok (.istore 6, 2) := by decide +kernel
theorem dL_law_395 : decode cL_law 395 = .ok (.aload_n 2, 1) := by decide +kernel
theorem dL_law_396 : decode cL_law 396 = .ok (.invokevirtual 52, 3) := by decide +kernel
theorem dL_law_399 : decode cL_law 399 = .ok (.iload 5, 2) := by decide +kernel
theorem dL_law_401 : decode cL_law 401 = .ok (.if_icmp .eq 5, 3) := by decide +kernel
theorem dL_law_404 : decode cL_law 404 = .ok (.iconst 0, 1) := by decide +kernel
theorem dL_law_405 : decode cL_law 405 = .ok (.ireturn, 1) := by decide +kernel
theorem dL_law_406 : decode cL_law 406 = .ok (.iload 5, 2) := by decide +kernel
theorem dL_law_408 : decode cL_law 408 = .ok (.ifCond .ne 15, 3) := by decide +kernel
theorem dL_law_411 : decode cL_law 411 = .ok (.aload_n 3, 1) := by decide +kernel
theorem dL_law_412 : decode cL_law 412 = .ok (.iconst 0, 1) := by decide +kernel
theorem dL_law_413 : decode cL_law 413 = .ok (.laload, 1) := by decide +kernel
theorem dL_law_414 : decode cL_law 414 = .ok (.iload 6, 2) := by decide +kernel
theorem dL_law_416 : decode cL_law 416 = .ok (.i2l, 1) := by decide +kernel
theorem dL_law_417 : decode cL_law 417 = .ok (.lcmp, 1) := by decide +kernel
theorem dL_law_418 : decode cL_law 418 = .ok (.ifCond .eq 5, 3) := by decide +kernel
theorem dL_law_421 : decode cL_law 421 = .ok (.iconst 0, 1) := by decide +kernel
theorem dL_law_422 : decode cL_law 422 = .ok (.ireturn, 1) := by decide +kernel
theorem dL_law_423 : decode cL_law 423 = .ok (.goto 167, 3) := by decide +kernel
theorem dL_law_426 : decode cL_law 426 = .ok (.aload_n 1, 1) := by decide +kernel
theorem dL_law_427 : decode cL_law 427 = .ok (.aload_n 0, 1) := by decide +kernel
theorem dL_law_428 : decode cL_law 428 = .ok (.iload 4, 2) := by decide +kernel
theorem dL_law_430 : decode cL_law 430 = .ok (.iconst 1, 1) := by decide +kernel
theorem dL_law_431 : decode cL_law 431 = .ok (.iadd, 1) := by decide +kernel
theorem dL_law_432 : decode cL_law 432 = .ok (.iaload, 1) := by decide +kernel
theorem dL_law_433 : decode cL_law 433 = .ok (.invokevirtual 74, 3) := by decide +kernel
theorem dL_law_436 : decode cL_law 436 = .ok (.aload_n 2, 1) := by decide +kernel
theorem dL_law_437 : decode cL_law 437 = .ok (.aload_n 0, 1) := by decide +kernel
theorem dL_law_438 : decode cL_law 438 = .ok (.iload 4, 2) := by decide +kernel
theorem dL_law_440 : decode cL_law 440 = .ok (.iconst 1, 1) := by decide +kernel
theorem dL_law_441 : decode cL_law 441 = .ok (.iadd, 1) := by decide +kernel
theorem dL_law_442 : decode cL_law 442 = .ok (.iaload, 1) := by decide +kernel
theorem dL_law_443 : decode cL_law 443 = .ok (.invokevirtual 77, 3) := by decide +kernel
theorem dL_law_446 : decode cL_law 446 = .ok (.if_icmp .eq 144, 3) := by decide +kernel
theorem dL_law_449 : decode cL_law 449 = .ok (.iconst 0, 1) := by decide +kernel
theorem dL_law_450 : decode cL_law 450 = .ok (.ireturn, 1) := by decide +kernel
theorem dL_law_451 : decode cL_law 451 = .ok (.aload_n 1, 1) := by decide +kernel
theorem dL_law_452 : decode cL_law 452 = .ok (.invokevirtual 78, 3) := by decide +kernel
theorem dL_law_455 : decode cL_law 455 = .ok (.aload_n 2, 1) := by decide +kernel
theorem dL_law_456 : decode cL_law 456 = .ok (.invokevirtual 81, 3) := by decide +kernel
theorem dL_law_459 : decode cL_law 459 = .ok (.if_icmp .eq 131, 3) := by decide +kernel
theorem dL_law_462 : decode cL_law 462 = .ok (.iconst 0, 1) := by decide +kernel
theorem dL_law_463 : decode cL_law 463 = .ok (.ireturn, 1) := by decide +kernel
theorem dL_law_464 : decode cL_law 464 = .ok (.aload_n 1, 1) := by decide +kernel
theorem dL_law_465 : decode cL_law 465 = .ok (.aload_n 0, 1) := by decide +kernel
theorem dL_law_466 : decode cL_law 466 = .ok (.iload 4, 2) := by decide +kernel
theorem dL_law_468 : decode cL_law 468 = .ok (.iconst 1, 1) := by decide +kernel
theorem dL_law_469 : decode cL_law 469 = .ok (.iadd, 1) := by decide +kernel
theorem dL_law_470 : decode cL_law 470 = .ok (.iaload, 1) := by decide +kernel
theorem dL_law_471 : decode cL_law 471 = .ok (.aload_n 3, 1) := by decide +kernel
theorem dL_law_472 : decode cL_law 472 = .ok (.invokestatic 82, 3) := by decide +kernel
theorem dL_law_475 : decode cL_law 475 = .ok (.istore 5, 2) := by decide +kernel
theorem dL_law_477 : decode cL_law 477 = .ok (.aload_n 2, 1) := by decide +kernel
theorem dL_law_478 : decode cL_law 478 = .ok (.aload_n 0, 1) := by decide +kernel
theorem dL_law_479 : decode cL_law 479 = .ok (.iload 4, 2) := by decide +kernel
theorem dL_law_481 : decode cL_law 481 = .ok (.iconst 1, 1) := by decide +kernel
theorem dL_law_482 : decode cL_law 482 = .ok (.iadd, 1) := by decide +kernel
theorem dL_law_483 : decode cL_law 483 = .ok (.iaload, 1) := by decide +kernel
theorem dL_law_484 : decode cL_law 484 = .ok (.invokevirtual 84, 3) := by decide +kernel
theorem dL_law_487 : decode cL_law 487 = .ok (.istore 6, 2) := by decide +kernel
theorem dL_law_489 : decode cL_law 489 = .ok (.aload_n 2, 1) := by decide +kernel
theorem dL_law_490 : decode cL_law 490 = .ok (.invokevirtual 52, 3) := by decide +kernel
theorem dL_law_493 : decode cL_law 493 = .ok (.iload 5, 2) := by decide +kernel
theorem dL_law_495 : decode cL_law 495 = .ok (.if_icmp .eq 5, 3) := by decide +kernel
theorem dL_law_498 : decode cL_law 498 = .ok (.iconst 0, 1) := by decide +kernel
theorem dL_law_499 : decode cL_law 499 = .ok (.ireturn, 1) := by decide +kernel
theorem dL_law_500 : decode cL_law 500 = .ok (.iload 5, 2) := by decide +kernel
theorem dL_law_502 : decode cL_law 502 = .ok (.ifCond .ne 22, 3) := by decide +kernel
theorem dL_law_505 : decode cL_law 505 = .ok (.aload_n 3, 1) := by decide +kernel
theorem dL_law_506 : decode cL_law 506 = .ok (.iconst 0, 1) := by decide +kernel
theorem dL_law_507 : decode cL_law 507 = .ok (.laload, 1) := by decide +kernel
theorem dL_law_508 : decode cL_law 508 = .ok (.iload 6, 2) := by decide +kernel
theorem dL_law_510 : decode cL_law 510 = .ok (.ifCond .eq 7, 3) := by decide +kernel
theorem dL_law_513 : decode cL_law 513 = .ok (.lconst 1, 1) := by decide +kernel
theorem dL_law_514 : decode cL_law 514 = .ok (.goto 4, 3) := by decide +kernel
theorem dL_law_517 : decode cL_law 517 = .ok (.lconst 0, 1) := by decide +kernel
theorem dL_law_518 : decode cL_law 518 = .ok (.lcmp, 1) := by decide +kernel
theorem dL_law_519 : decode cL_law 519 = .ok (.ifCond .eq 5, 3) := by decide +kernel
theorem dL_law_522 : decode cL_law 522 = .ok (.iconst 0, 1) := by decide +kernel
theorem dL_law_523 : decode cL_law 523 = .ok (.ireturn, 1) := by decide +kernel
theorem dL_law_524 : decode cL_law 524 = .ok (.goto 66, 3) := by decide +kernel
theorem dL_law_527 : decode cL_law 527 = .ok (.aload_n 1, 1) := by decide +kernel
theorem dL_law_528 : decode cL_law 528 = .ok (.invokevirtual 85, 3) := by decide +kernel
theorem dL_law_531 : decode cL_law 531 = .ok (.aload_n 2, 1) := by decide +kernel
theorem dL_law_532 : decode cL_law 532 = .ok (.invokevirtual 88, 3) := by decide +kernel
theorem dL_law_535 : decode cL_law 535 = .ok (.if_icmp .eq 55, 3) := by decide +kernel
theorem dL_law_538 : decode cL_law 538 = .ok (.iconst 0, 1) := by decide +kernel
theorem dL_law_539 : decode cL_law 539 = .ok (.ireturn, 1) := by decide +kernel
theorem dL_law_540 : decode cL_law 540 = .ok (.aload_n 1, 1) := by decide +kernel
theorem dL_law_541 : decode cL_law 541 = .ok (.aload_n 0, 1) := by decide +kernel
theorem dL_law_542 : decode cL_law 542 = .ok (.iload 4, 2) := by decide +kernel
theorem dL_law_544 : decode cL_law 544 = .ok (.iconst 1, 1) := by decide +kernel
theorem dL_law_545 : decode cL_law 545 = .ok (.iadd, 1) := by decide +kernel
theorem dL_law_546 : decode cL_law 546 = .ok (.iaload, 1) := by decide +kernel
theorem dL_law_547 : decode cL_law 547 = .ok (.invokevirtual 89, 3) := by decide +kernel
theorem dL_law_550 : decode cL_law 550 = .ok (.aload_n 2, 1) := by decide +kernel
theorem dL_law_551 : decode cL_law 551 = .ok (.aload_n 0, 1) := by decide +kernel
theorem dL_law_552 : decode cL_law 552 = .ok (.iload 4, 2) := by decide +kernel
theorem dL_law_554 : decode cL_law 554 = .ok (.iconst 1, 1) := by decide +kernel
theorem dL_law_555 : decode cL_law 555 = .ok (.iadd, 1) := by decide +kernel
theorem dL_law_556 : decode cL_law 556 = .ok (.iaload, 1) := by decide +kernel
theorem dL_law_557 : decode cL_law 557 = .ok (.invokevirtual 92, 3) := by decide +kernel
theorem dL_law_560 : decode cL_law 560 = .ok (.if_icmp .eq 30, 3) := by decide +kernel
theorem dL_law_563 : decode cL_law 563 = .ok (.iconst 0, 1) := by decide +kernel
theorem dL_law_564 : decode cL_law 564 = .ok (.ireturn, 1) := by decide +kernel
theorem dL_law_565 : decode cL_law 565 = .ok (.aload_n 1, 1) := by decide +kernel
theorem dL_law_566 : decode cL_law 566 = .ok (.aload_n 0, 1) := by decide +kernel
theorem dL_law_567 : decode cL_law 567 = .ok (.iload 4, 2) := by decide +kernel
theorem dL_law_569 : decode cL_law 569 = .ok (.iconst 1, 1) := by decide +kernel
theorem dL_law_570 : decode cL_law 570 = .ok (.iadd, 1) := by decide +kernel
theorem dL_law_571 : decode cL_law 571 = .ok (.iaload, 1) := by decide +kernel
theorem dL_law_572 : decode cL_law 572 = .ok (.invokevirtual 93, 3) := by decide +kernel
theorem dL_law_575 : decode cL_law 575 = .ok (.aload_n 2, 1) := by decide +kernel
theorem dL_law_576 : decode cL_law 576 = .ok (.aload_n 0, 1) := by decide +kernel
theorem dL_law_577 : decode cL_law 577 = .ok (.iload 4, 2) := by decide +kernel
theorem dL_law_579 : decode cL_law 579 = .ok (.iconst 1, 1) := by decide +kernel
theorem dL_law_580 : decode cL_law 580 = .ok (.iadd, 1) := by decide +kernel
theorem dL_law_581 : decode cL_law 581 = .ok (.iaload, 1) := by decide +kernel
theorem dL_law_582 : decode cL_law 582 = .ok (.invokevirtual 96, 3) := by decide +kernel
theorem dL_law_585 : decode cL_law 585 = .ok (.if_icmp .eq 5, 3) := by decide +kernel
theorem dL_law_588 : decode cL_law 588 = .ok (.iconst 0, 1) := by decide +kernel
theorem dL_law_589 : decode cL_law 589 = .ok (.ireturn, 1) := by decide +kernel
theorem dL_law_590 : decode cL_law 590 = .ok (.iinc 4 4, 3) := by decide +kernel
theorem dL_law_593 : decode cL_law 593 = .ok (.goto (-560), 3) := by decide +kernel
theorem dL_law_596 : decode cL_law 596 = .ok (.iconst 1, 1) := by decide +kernel
theorem dL_law_597 : decode cL_law 597 = .ok (.ireturn, 1) := by decide +kernel
end
section
theorem dX11_init_0 : decode cX11_init 0 = .ok (.aload_n 0, 1) := by decide +kernel
theorem dX11_init_1 : decode cX11_init 1 = .ok (.invokespecial 1, 3) := by decide +kernel
theorem dX11_init_4 : decode cX11_init 4 = .ok (.aload_n 0, 1) := by decide +kernel
theorem dX11_init_5 : decode cX11_init 5 = .ok (.bipush 36, 2) := by decide +kernel
theorem dX11_init_7 : decode cX11_init 7 = .ok (.newarray .int, 2) := by decide +kernel
theorem dX11_init_9 : decode cX11_init 9 = .ok (.putfield 7, 3) := by decide +kernel
theorem dX11_init_12 : decode cX11_init 12 = .ok (.aload_n 0, 1) := by decide +kernel
theorem dX11_init_13 : decode cX11_init 13 = .ok (.ldc 13, 2) := by decide +kernel
theorem dX11_init_15 : decode cX11_init 15 = .ok (.putfield 14, 3) := by decide +kernel
theorem dX11_init_18 : decode cX11_init 18 = .ok (.aload_n 0, 1) := by decide +kernel
theorem dX11_init_19 : decode cX11_init 19 = .ok (.bipush 7, 2) := by decide +kernel
theorem dX11_init_21 : decode cX11_init 21 = .ok (.newarray .int, 2) := by decide +kernel
theorem dX11_init_23 : decode cX11_init 23 = .ok (.putfield 18, 3) := by decide +kernel
theorem dX11_init_26 : decode cX11_init 26 = .ok (.aload_n 0, 1) := by decide +kernel
theorem dX11_init_27 : decode cX11_init 27 = .ok (.bipush 36, 2) := by decide +kernel
theorem dX11_init_29 : decode cX11_init 29 = .ok (.newarray .int, 2) := by decide +kernel
theorem dX11_init_31 : decode cX11_init 31 = .ok (.putfield 21, 3) := by decide +kernel
theorem dX11_init_34 : decode cX11_init 34 = .ok (.aload_n 0, 1) := by decide +kernel
theorem dX11_init_35 : decode cX11_init 35 = .ok (.bipush 36, 2) := by decide +kernel
theorem dX11_init_37 : decode cX11_init 37 = .ok (.newarray .int, 2) := by decide +kernel
theorem dX11_init_39 : decode cX11_init 39 = .ok (.putfield 24, 3) := by decide +kernel
theorem dX11_init_42 : decode cX11_init 42 = .ok (.aload_n 0, 1) := by decide +kernel
theorem dX11_init_43 : decode cX11_init 43 = .ok (.bipush 36, 2) := by decide +kernel
theorem dX11_init_45 : decode cX11_init 45 = .ok (.newarray .int, 2) := by decide +kernel
theorem dX11_init_47 : decode cX11_init 47 = .ok (.putfield 27, 3) := by decide +kernel
theorem dX11_init_50 : decode cX11_init 50 = .ok (.aload_n 0, 1) := by decide +kernel
theorem dX11_init_51 : decode cX11_init 51 = .ok (.bipush 36, 2) := by decide +kernel
theorem dX11_init_53 : decode cX11_init 53 = .ok (.newarray .int, 2) := by decide +kernel
theorem dX11_init_55 : decode cX11_init 55 = .ok (.putfield 30, 3) := by decide +kernel
theorem dX11_init_58 : decode cX11_init 58 = .ok (.aload_n 0, 1) := by decide +kernel
theorem dX11_init_59 : decode cX11_init 59 = .ok (.bipush 36, 2) := by decide +kernel
theorem dX11_init_61 : decode cX11_init 61 = .ok (.newarray .int, 2) := by decide +kernel
theorem dX11_init_63 : decode cX11_init 63 = .ok (.putfield 33, 3) := by decide +kernel
theorem dX11_init_66 : decode cX11_init 66 = .ok (.aload_n 0, 1) := by decide +kernel
theorem dX11_init_67 : decode cX11_init 67 = .ok (.bipush 36, 2) := by decide +kernel
theorem dX11_init_69 : decode cX11_init 69 = .ok (.newarray .int, 2) := by decide +kernel
theorem dX11_init_71 : decode cX11_init 71 = .ok (.putfield 36, 3) := by decide +kernel
theorem dX11_init_74 : decode cX11_init 74 = .ok (.aload_n 0, 1) := by decide +kernel
theorem dX11_init_75 : decode cX11_init 75 = .ok (.bipush 36, 2) := by decide +kernel
theorem dX11_init_77 : decode cX11_init 77 = .ok (.newarray .int, 2) := by decide +kernel
theorem dX11_init_79 : decode cX11_init 79 = .ok (.putfield 39, 3) := by decide +kernel
theorem dX11_init_82 : decode cX11_init 82 = .ok (.aload_n 0, 1) := by decide +kernel
theorem dX11_init_83 : decode cX11_init 83 = .ok (.bipush 60, 2) := by decide +kernel
theorem dX11_init_85 : decode cX11_init 85 = .ok (.newarray .int, 2) := by decide +kernel
theorem dX11_init_87 : decode cX11_init 87 = .ok (.putfield 42, 3) := by decide +kernel
theorem dX11_init_90 : decode cX11_init 90 = .ok (.aload_n 0, 1) := by decide +kernel
theorem dX11_init_91 : decode cX11_init 91 = .ok (.iload_n 1, 1) := by decide +kernel
theorem dX11_init_92 : decode cX11_init 92 = .ok (.iconst 1, 1) := by decide +kernel
theorem dX11_init_93 : decode cX11_init 93 = .ok (.if_icmp .ge 7, 3) := by decide +kernel
theorem dX11_init_96 : decode cX11_init 96 = .ok (.iconst 4, 1) := by decide +kernel
theorem dX11_init_97 : decode cX11_init 97 = .ok (.goto 5, 3) := by decide +kernel
theorem dX11_init_100 : decode cX11_init 100 = .ok (.bipush 6, 2) := by decide +kernel
theorem dX11_init_102 : decode cX11_init 102 = .ok (.putfield 45, 3) := by decide +kernel
theorem dX11_init_105 : decode cX11_init 105 = .ok (.aload_n 0, 1) := by decide +kernel
theorem dX11_init_106 : decode cX11_init 106 = .ok (.iload_n 1, 1) := by decide +kernel
theorem dX11_init_107 : decode cX11_init 107 = .ok (.iconst 1, 1) := by decide +kernel
theorem dX11_init_108 : decode cX11_init 108 = .ok (.if_icmp .ge 7, 3) := by decide +kernel
theorem dX11_init_111 : decode cX11_init 111 = .ok (.iconst 2, 1) := by decide +kernel
theorem dX11_init_112 : decode cX11_init 112 = .ok (.goto 4, 3) := by decide +kernel
theorem dX11_init_115 : decode cX11_init 115 = .ok (.iconst 3, 1) := by decide +kernel
theorem dX11_init_116 : decode cX11_init 116 = .ok (.putfield 48, 3) := by decide +kernel
theorem dX11_init_119 : decode cX11_init 119 = .ok (.aload_n 0, 1) := by decide +kernel
theorem dX11_init_120 : decode cX11_init 120 = .ok (.iconst 2, 1) := by decide +kernel
theorem dX11_init_121 : decode cX11_init 121 = .ok (.putfield 51, 3) := by decide +kernel
theorem dX11_init_124 : decode cX11_init 124 = .ok (.return_, 1) := by decide +kernel
theorem dX11_thrown_0 : decode cX11_thrown 0 = .ok (.aload_n 0, 1) := by decide +kernel
theorem dX11_thrown_1 : decode cX11_thrown 1 = .ok (.getfield 54, 3) := by decide +kernel
theorem dX11_thrown_4 : decode cX11_thrown 4 = .ok (.ireturn, 1) := by decide +kernel
theorem dX11_throwsIf_0 : decode cX11_throwsIf 0 = .ok (.aload_n 0, 1) := by decide +kernel
theorem dX11_throwsIf_1 : decode cX11_throwsIf 1 = .ok (.iload_n 2, 1) := by decide +kernel
theorem dX11_throwsIf_2 : decode cX11_throwsIf 2 = .ok (.ifCond .eq 7, 3) := by decide +kernel
theorem dX11_throwsIf_5 : decode cX11_throwsIf 5 = .ok (.iload_n 1, 1) := by decide +kernel
theorem dX11_throwsIf_6 : decode cX11_throwsIf 6 = .ok (.goto 4, 3) := by decide +kernel
theorem dX11_throwsIf_9 : decode cX11_throwsIf 9 = .ok (.iconst 0, 1) := by decide +kernel
theorem dX11_throwsIf_10 : decode cX11_throwsIf 10 = .ok (.putfield 54, 3) := by decide +kernel
theorem dX11_throwsIf_13 : decode cX11_throwsIf 13 = .ok (.iload_n 2, 1) := by decide +kernel
theorem dX11_throwsIf_14 : decode cX11_throwsIf 14 = .ok (.ireturn, 1) := by decide +kernel
theorem dX11_cells_0 : decode cX11_cells 0 = .ok (.aload_n 0, 1) := by decide +kernel
theorem dX11_cells_1 : decode cX11_cells 1 = .ok (.getfield 45, 3) := by decide +kernel
theorem dX11_cells_4 : decode cX11_cells 4 = .ok (.aload_n 0, 1) := by decide +kernel
theorem dX11_cells_5 : decode cX11_cells 5 = .ok (.getfield 45, 3) := by decide +kernel
theorem dX11_cells_8 : decode cX11_cells 8 = .ok (.imul, 1) := by decide +kernel
theorem dX11_cells_9 : decode cX11_cells 9 = .ok (.ireturn, 1) := by decide +kernel
set_option maxRecDepth 20000 in
theorem ggX11_isCell_X11_cells : GoodIn wsX11_isCell wsX11_cells := goodIn_r _ [5, 6, 7, 8, 9, 10, 11, 12, 13, 14, 15, 16, 17, 18, 19, 20, 21, 22, 23, 24, 25, 26, 27, 28] (by decide +kernel) (by decide +kernel)
set_option maxRecDepth 20000 in
theorem gX11_isCell_X11_cells : GoodIn wsX11_isCell (wsV RX11 57 RX11 yX11_cells wsX11_cells) := goodIn_app (goodIn_of _ (by decide +kernel)) ggX11_isCell_X11_cells
theorem dX11_isCell_0 : decode cX11_isCell 0 = .ok (.iload_n 1, 1) := by decide +kernel
theorem dX11_isCell_1 : decode cX11_isCell 1 = .ok (.ifCond .lt 15, 3) := by decide +kernel
theorem dX11_isCell_4 : decode cX11_isCell 4 = .ok (.iload_n 1, 1) := by decide +kernel
theorem dX11_isCell_5 : decode cX11_isCell 5 = .ok (.aload_n 0, 1) := by decide +kernel
theorem dX11_isCell_6 : decode cX11_isCell 6 = .ok (.invokevirtual 57, 3) := by decide +kernel
theorem dX11_isCell_9 : decode cX11_isCell 9 = .ok (.if_icmp .ge 7, 3) := by decide +kernel
theorem dX11_isCell_12 : decode cX11_isCell 12 = .ok (.iconst 1, 1) := by decide +kernel
theorem dX11_isCell_13 : decode cX11_isCell 13 = .ok (.goto 4, 3) := by decide +kernel
theorem dX11_isCell_16 : decode cX11_isCell 16 = .ok (.iconst 0, 1) := by decide +kernel
theorem dX11_isCell_17 : decode cX11_isCell 17 = .ok (.ireturn, 1) := by decide +kernel
theorem dX11_sees_0 : decode cX11_sees 0 = .ok (.iload_n 1, 1) := by decide +kernel
theorem dX11_sees_1 : decode cX11_sees 1 = .ok (.iload_n 2, 1) := by decide +kernel
theorem dX11_sees_2 : decode cX11_sees 2 = .ok (.if_icmp .ne 5, 3) := by decide +kernel
theorem dX11_sees_5 : decode cX11_sees 5 = .ok (.iconst 0, 1) := by decide +kernel
theorem dX11_sees_6 : decode cX11_sees 6 = .ok (.ireturn, 1) := by decide +kernel
theorem dX11_sees_7 : decode cX11_sees 7 = .ok (.iload_n 1, 1) := by decide +kernel
theorem dX11_sees_8 : decode cX11_sees 8 = .ok (.aload_n 0, 1) := by decide +kernel
theorem dX11_sees_9 : decode cX11_sees 9 = .ok (.getfield 45, 3) := by decide +kernel
theorem dX11_sees_12 : decode cX11_sees 12 = .ok (.idiv, 1) := by decide +kernel
theorem dX11_sees_13 : decode cX11_sees 13 = .ok (.iload_n 2, 1) := by decide +kernel
theorem dX11_sees_14 : decode cX11_sees 14 = .ok (.aload_n 0, 1) := by decide +kernel
theorem dX11_sees_15 : decode cX11_sees 15 = .ok (.getfield 45, 3) := by decide +kernel
theorem dX11_sees_18 : decode cX11_sees 18 = .ok (.idiv, 1) := by decide +kernel
theorem dX11_sees_19 : decode cX11_sees 19 = .ok (.if_icmp .eq 68, 3) := by decide +kernel
theorem dX11_sees_22 : decode cX11_sees 22 = .ok (.iload_n 1, 1) := by decide +kernel
theorem dX11_sees_23 : decode cX11_sees 23 = .ok (.aload_n 0, 1) := by decide +kernel
theorem dX11_sees_24 : decode cX11_sees 24 = .ok (.getfield 45, 3) := by decide +kernel
theorem dX11_sees_27 : decode cX11_sees 27 = .ok (.irem, 1) := by decide +kernel
theorem dX11_sees_28 : decode cX11_sees 28 = .ok (.iload_n 2, 1) := by decide +kernel
theorem dX11_sees_29 : decode cX11_sees 29 = .ok (.aload_n 0, 1) := by decide +kernel
theorem dX11_sees_30 : decode cX11_sees 30 = .ok (.getfield 45, 3) := by decide +kernel
theorem dX11_sees_33 : decode cX11_sees 33 = .ok (.irem, 1) := by decide +kernel
theorem dX11_sees_34 : decode cX11_sees 34 = .ok (.if_icmp .eq 53, 3) := by decide +kernel
theorem dX11_sees_37 : decode cX11_sees 37 = .ok (.iload_n 1, 1) := by decide +kernel
theorem dX11_sees_38 : decode cX11_sees 38 = .ok (.aload_n 0, 1) := by decide +kernel
theorem dX11_sees_39 : decode cX11_sees 39 = .ok (.getfield 45, 3) := by decide +kernel
theorem dX11_sees_42 : decode cX11_sees 42 = .ok (.idiv, 1) := by decide +kernel
theorem dX11_sees_43 : decode cX11_sees 43 = .ok (.aload_n 0, 1) := by decide +kernel
theorem dX11_sees_44 : decode cX11_sees 44 = .ok (.getfield 51, 3) := by decide +kernel
theorem dX11_sees_47 : decode cX11_sees 47 = .ok (.idiv, 1) := by decide +kernel
theorem dX11_sees_48 : decode cX11_sees 48 = .ok (.iload_n 2, 1) := by decide +kernel
theorem dX11_sees_49 : decode cX11_sees 49 = .ok (.aload_n 0, 1) := by decide +kernel
theorem dX11_sees_50 : decode cX11_sees 50 = .ok (.getfield 45, 3) := by decide +kernel
theorem dX11_sees_53 : decode cX11_sees 53 = .ok (.idiv, 1) := by decide +kernel
theorem dX11_sees_54 : decode cX11_sees 54 = .ok (.aload_n 0, 1) := by decide +kernel
theorem dX11_sees_55 : decode cX11_sees 55 = .ok (.getfield 51, 3) := by decide +kernel
theorem dX11_sees_58 : decode cX11_sees 58 = .ok (.idiv, 1) := by decide +kernel
theorem dX11_sees_59 : decode cX11_sees 59 = .ok (.if_icmp .ne 32, 3) := by decide +kernel
theorem dX11_sees_62 : decode cX11_sees 62 = .ok (.iload_n 1, 1) := by decide +kernel
theorem dX11_sees_63 : decode cX11_sees 63 = .ok (.aload_n 0, 1) := by decide +kernel
theorem dX11_sees_64 : decode cX11_sees 64 = .ok (.getfield 45, 3) := by decide +kernel
theorem dX11_sees_67 : decode cX11_sees 67 = .ok (.irem, 1) := by decide +kernel
theorem dX11_sees_68 : decode cX11_sees 68 = .ok (.aload_n 0, 1) := by decide +kernel
theorem dX11_sees_69 : decode cX11_sees 69 = .ok (.getfield 48, 3) := by decide +kernel
theorem dX11_sees_72 : decode cX11_sees 72 = .ok (.idiv, 1) := by decide +kernel
theorem dX11_sees_73 : decode cX11_sees 73 = .ok (.iload_n 2, 1) := by decide +kernel
theorem dX11_sees_74 : decode cX11_sees 74 = .ok (.aload_n 0, 1) := by decide +kernel
theorem dX11_sees_75 : decode cX11_sees 75 = .ok (.getfield 45, 3) := by decide +kernel
theorem dX11_sees_78 : decode cX11_sees 78 = .ok (.irem, 1) := by decide +kernel
theorem dX11_sees_79 : decode cX11_sees 79 = .ok (.aload_n 0, 1) := by decide +kernel
theorem dX11_sees_80 : decode cX11_sees 80 = .ok (.getfield 48, 3) := by decide +kernel
theorem dX11_sees_83 : decode cX11_sees 83 = .ok (.idiv, 1) := by decide +kernel
theorem dX11_sees_84 : decode cX11_sees 84 = .ok (.if_icmp .ne 7, 3) := by decide +kernel
theorem dX11_sees_87 : decode cX11_sees 87 = .ok (.iconst 1, 1) := by decide +kernel
theorem dX11_sees_88 : decode cX11_sees 88 = .ok (.goto 4, 3) := by decide +kernel
theorem dX11_sees_91 : decode cX11_sees 91 = .ok (.iconst 0, 1) := by decide +kernel
theorem dX11_sees_92 : decode cX11_sees 92 = .ok (.ireturn, 1) := by decide +kernel
theorem dX11_symmetry_0 : decode cX11_symmetry 0 = .ok (.aload_n 0, 1) := by decide +kernel
theorem dX11_symmetry_1 : decode cX11_symmetry 1 = .ok (.iconst 0, 1) := by decide +kernel
theorem dX11_symmetry_2 : decode cX11_symmetry 2 = .ok (.putfield 54, 3) := by decide +kernel
theorem dX11_symmetry_5 : decode cX11_symmetry 5 = .ok (.iload_n 1, 1) := by decide +kernel
theorem dX11_symmetry_6 : decode cX11_symmetry 6 = .ok (.ifCond .lt 8, 3) := by decide +kernel
theorem dX11_symmetry_9 : decode cX11_symmetry 9 = .ok (.iload_n 1, 1) := by decide +kernel
theorem dX11_symmetry_10 : decode cX11_symmetry 10 = .ok (.iconst 3, 1) := by decide +kernel
theorem dX11_symmetry_11 : decode cX11_symmetry 11 = .ok (.if_icmp .le 5, 3) := by decide +kernel
theorem dX11_symmetry_14 : decode cX11_symmetry 14 = .ok (.iconst 0, 1) := by decide +kernel
theorem dX11_symmetry_15 : decode cX11_symmetry 15 = .ok (.ireturn, 1) := by decide +kernel
theorem dX11_symmetry_16 : decode cX11_symmetry 16 = .ok (.aload_n 0, 1) := by decide +kernel
theorem dX11_symmetry_17 : decode cX11_symmetry 17 = .ok (.iload_n 1, 1) := by decide +kernel
theorem dX11_symmetry_18 : decode cX11_symmetry 18 = .ok (.putfield 61, 3) := by decide +kernel
theorem dX11_symmetry_21 : decode cX11_symmetry 21 = .ok (.iconst 1, 1) := by decide +kernel
theorem dX11_symmetry_22 : decode cX11_symmetry 22 = .ok (.ireturn, 1) := by decide +kernel
set_option maxRecDepth 20000 in
theorem ggX11_theme_X11_isCell : GoodIn wsX11_theme wsX11_isCell := goodIn_r _ [6, 7, 8, 9, 5, 10, 11, 17, 18, 19, 20, 21, 22, 23, 24, 25, 26, 27, 28, 29, 30, 31, 32, 33, 34, 35, 36, 37, 38] (by decide +kernel) (by decide +kernel)
set_option maxRecDepth 20000 in
theorem gX11_theme_X11_isCell : GoodIn wsX11_theme (wsV RX11 64 RX11 yX11_isCell wsX11_isCell) := goodIn_app (goodIn_of _ (by decide +kernel)) ggX11_theme_X11_isCell
set_option maxRecDepth 20000 in
theorem ggX11_theme_X11_throwsIf : GoodIn wsX11_theme wsX11_throwsIf := goodIn_r _ [15, 16, 17, 18, 19, 20, 21, 22, 23, 24, 25, 26, 27, 28, 29, 30, 31, 32, 33, 34, 35, 36, 37, 38] (by decide +kernel) (by decide +kernel)
set_option maxRecDepth 20000 in
theorem gX11_theme_X11_throwsIf : GoodIn wsX11_theme (wsV RX11 68 RX11 yX11_throwsIf wsX11_throwsIf) := goodIn_app (goodIn_of _ (by decide +kernel)) ggX11_theme_X11_throwsIf
theorem dX11_theme_0 : decode cX11_theme 0 = .ok (.aload_n 0, 1) := by decide +kernel
theorem dX11_theme_1 : decode cX11_theme 1 = .ok (.iconst 1, 1) := by decide +kernel
theorem dX11_theme_2 : decode cX11_theme 2 = .ok (.aload_n 0, 1) := by decide +kernel
theorem dX11_theme_3 : decode cX11_theme 3 = .ok (.iload_n 1, 1) := by decide +kernel
theorem dX11_theme_4 : decode cX11_theme 4 = .ok (.invokevirtual 64, 3) := by decide +kernel
theorem dX11_theme_7 : decode cX11_theme 7 = .ok (.ifCond .ne 7, 3) := by decide +kernel
theorem dX11_theme_10 : decode cX11_theme 10 = .ok (.iconst 1, 1) := by decide +kernel
theorem dX11_theme_11 : decode cX11_theme 11 = .ok (.goto 4, 3) := by decide +kernel
theorem dX11_theme_14 : decode cX11_theme 14 = .ok (.iconst 0, 1) := by decide +kernel
theorem dX11_theme_15 : decode cX11_theme 15 = .ok (.invokevirtual 68, 3) := by decide +kernel
theorem dX11_theme_18 : decode cX11_theme 18 = .ok (.ifCond .ne 25, 3) := by decide +kernel
theorem dX11_theme_21 : decode cX11_theme 21 = .ok (.aload_n 0, 1) := by decide +kernel
theorem dX11_theme_22 : decode cX11_theme 22 = .ok (.iconst 2, 1) := by decide +kernel
theorem dX11_theme_23 : decode cX11_theme 23 = .ok (.iload_n 2, 1) := by decide +kernel
theorem dX11_theme_24 : decode cX11_theme 24 = .ok (.ifCond .lt 8, 3) := by decide +kernel
theorem dX11_theme_27 : decode cX11_theme 27 = .ok (.iload_n 2, 1) := by decide +kernel
theorem dX11_theme_28 : decode cX11_theme 28 = .ok (.iconst 2, 1) := by decide +kernel
theorem dX11_theme_29 : decode cX11_theme 29 = .ok (.if_icmp .le 7, 3) := by decide +kernel
theorem dX11_theme_32 : decode cX11_theme 32 = .ok (.iconst 1, 1) := by decide +kernel
theorem dX11_theme_33 : decode cX11_theme 33 = .ok (.goto 4, 3) := by decide +kernel
theorem dX11_theme_36 : decode cX11_theme 36 = .ok (.iconst 0, 1) := by decide +kernel
theorem dX11_theme_37 : decode cX11_theme 37 = .ok (.invokevirtual 68, 3) := by decide +kernel
theorem dX11_theme_40 : decode cX11_theme 40 = .ok (.ifCond .eq 4, 3) := by decide +kernel
theorem dX11_theme_43 : decode cX11_theme 43 = .ok (.return_, 1) := by decide +kernel
theorem dX11_theme_44 : decode cX11_theme 44 = .ok (.aload_n 0, 1) := by decide +kernel
theorem dX11_theme_45 : decode cX11_theme 45 = .ok (.getfield 7, 3) := by decide +kernel
theorem dX11_theme_48 : decode cX11_theme 48 = .ok (.iload_n 1, 1) := by decide +kernel
theorem dX11_theme_49 : decode cX11_theme 49 = .ok (.iload_n 2, 1) := by decide +kernel
theorem dX11_theme_50 : decode cX11_theme 50 = .ok (.iastore, 1) := by decide +kernel
theorem dX11_theme_51 : decode cX11_theme 51 = .ok (.return_, 1) := by decide +kernel
set_option maxRecDepth 20000 in
theorem ggX11_aim_X11_throwsIf : GoodIn wsX11_aim wsX11_throwsIf := goodIn_r _ [8, 9, 10, 11, 12, 13, 14, 15, 16, 17, 18, 19, 20, 21, 22, 23, 24, 25, 26, 27, 28, 29, 30, 31] (by decide +kernel) (by decide +kernel)
set_option maxRecDepth 20000 in
theorem gX11_aim_X11_throwsIf : GoodIn wsX11_aim (wsV RX11 68 RX11 yX11_throwsIf wsX11_throwsIf) := goodIn_app (goodIn_of _ (by decide +kernel)) ggX11_aim_X11_throwsIf
theorem dX11_aim_0 : decode cX11_aim 0 = .ok (.aload_n 0, 1) := by decide +kernel
theorem dX11_aim_1 : decode cX11_aim 1 = .ok (.iconst 1, 1) := by decide +kernel
theorem dX11_aim_2 : decode cX11_aim 2 = .ok (.iload_n 1, 1) := by decide +kernel
theorem dX11_aim_3 : decode cX11_aim 3 = .ok (.ifCond .lt 17, 3) := by decide +kernel
theorem dX11_aim_6 : decode cX11_aim 6 = .ok (.iload_n 1, 1) := by decide +kernel
theorem dX11_aim_7 : decode cX11_aim 7 = .ok (.iconst 2, 1) := by decide +kernel
theorem dX11_aim_8 : decode cX11_aim 8 = .ok (.if_icmp .gt 12, 3) := by decide +kernel
theorem dX11_aim_11 : decode cX11_aim 11 = .ok (.iload_n 2, 1) := by decide +kernel
theorem dX11_aim_12 : decode cX11_aim 12 = .ok (.ifCond .lt 8, 3) := by decide +kernel
theorem dX11_aim_15 : decode cX11_aim 15 = .ok (.iload_n 2, 1) := by decide +kernel
theorem dX11_aim_16 : decode cX11_aim 16 = .ok (.iload_n 3, 1) := by decide +kernel
theorem dX11_aim_17 : decode cX11_aim 17 = .ok (.if_icmp .le 7, 3) := by decide +kernel
theorem dX11_aim_20 : decode cX11_aim 20 = .ok (.iconst 1, 1) := by decide +kernel
theorem dX11_aim_21 : decode cX11_aim 21 = .ok (.goto 4, 3) := by decide +kernel
theorem dX11_aim_24 : decode cX11_aim 24 = .ok (.iconst 0, 1) := by decide +kernel
theorem dX11_aim_25 : decode cX11_aim 25 = .ok (.invokevirtual 68, 3) := by decide +kernel
theorem dX11_aim_28 : decode cX11_aim 28 = .ok (.ifCond .eq 4, 3) := by decide +kernel
theorem dX11_aim_31 : decode cX11_aim 31 = .ok (.return_, 1) := by decide +kernel
theorem dX11_aim_32 : decode cX11_aim 32 = .ok (.aload_n 0, 1) := by decide +kernel
theorem dX11_aim_33 : decode cX11_aim 33 = .ok (.iload_n 1, 1) := by decide +kernel
theorem dX11_aim_34 : decode cX11_aim 34 = .ok (.putfield 72, 3) := by decide +kernel
theorem dX11_aim_37 : decode cX11_aim 37 = .ok (.aload_n 0, 1) := by decide +kernel
theorem dX11_aim_38 : decode cX11_aim 38 = .ok (.iload_n 2, 1) := by decide +kernel
theorem dX11_aim_39 : decode cX11_aim 39 = .ok (.putfield 75, 3) := by decide +kernel
theorem dX11_aim_42 : decode cX11_aim 42 = .ok (.aload_n 0, 1) := by decide +kernel
theorem dX11_aim_43 : decode cX11_aim 43 = .ok (.iload_n 3, 1) := by decide +kernel
theorem dX11_aim_44 : decode cX11_aim 44 = .ok (.putfield 14, 3) := by decide +kernel
theorem dX11_aim_47 : decode cX11_aim 47 = .ok (.return_, 1) := by decide +kernel
theorem dX11_turned_0 : decode cX11_turned 0 = .ok (.iload_n 1, 1) := by decide +kernel
theorem dX11_turned_1 : decode cX11_turned 1 = .ok (.aload_n 0, 1) := by decide +kernel
theorem dX11_turned_2 : decode cX11_turned 2 = .ok (.getfield 45, 3) := by decide +kernel
theorem dX11_turned_5 : decode cX11_turned 5 = .ok (.irem, 1) := by decide +kernel
theorem dX11_turned_6 : decode cX11_turned 6 = .ok (.istore_n 2, 1) := by decide +kernel
theorem dX11_turned_7 : decode cX11_turned 7 = .ok (.iload_n 1, 1) := by decide +kernel
theorem dX11_turned_8 : decode cX11_turned 8 = .ok (.aload_n 0, 1) := by decide +kernel
theorem dX11_turned_9 : decode cX11_turned 9 = .ok (.getfield 45, 3) := by decide +kernel
theorem dX11_turned_12 : decode cX11_turned 12 = .ok (.idiv, 1) := by decide +kernel
theorem dX11_turned_13 : decode cX11_turned 13 = .ok (.istore_n 3, 1) := by decide +kernel
theorem dX11_turned_14 : decode cX11_turned 14 = .ok (.aload_n 0, 1) := by decide +kernel
theorem dX11_turned_15 : decode cX11_turned 15 = .ok (.getfield 61, 3) := by decide +kernel
theorem dX11_turned_18 : decode cX11_turned 18 = .ok (.tableswitch 81 1 3 #[26, 49, 65], 26) := by decide +kernel
theorem dX11_turned_44 : decode cX11_turned 44 = .ok (.aload_n 0, 1) := by decide +kernel
theorem dX11_turned_45 : decode cX11_turned 45 = .ok (.getfield 45, 3) := by decide +kernel
theorem dX11_turned_48 : decode cX11_turned 48 = .ok (.aload_n 0, 1) := by decide +kernel
theorem dX11_turned_49 : decode cX11_turned 49 = .ok (.getfield 45, 3) := by decide +kernel
theorem dX11_turned_52 : decode cX11_turned 52 = .ok (.iconst 1, 1) := by decide +kernel
theorem dX11_turned_53 : decode cX11_turned 53 = .ok (.isub, 1) := by decide +kernel
theorem dX11_turned_54 : decode cX11_turned 54 = .ok (.iload_n 3, 1) := by decide +kernel
theorem dX11_turned_55 : decode cX11_turned 55 = .ok (.isub, 1) := by decide +kernel
theorem dX11_turned_56 : decode cX11_turned 56 = .ok (.imul, 1) := by decide +kernel
theorem dX11_turned_57 : decode cX11_turned 57 = .ok (.aload_n 0, 1) := by decide +kernel
theorem dX11_turned_58 : decode cX11_turned 58 = .ok (.getfield 45, 3) := by decide +kernel
theorem dX11_turned_61 : decode cX11_turned 61 = .ok (.iadd, 1) := by decide +kernel
theorem dX11_turned_62 : decode cX11_turned 62 = .ok (.iconst 1, 1) := by decide +kernel
theorem dX11_turned_63 : decode cX11_turned 63 = .ok (.isub, 1) := by decide +kernel
theorem dX11_turned_64 : decode cX11_turned 64 = .ok (.iload_n 2, 1) := by decide +kernel
theorem dX11_turned_65 : decode cX11_turned 65 = .ok (.isub, 1) := by decide +kernel
theorem dX11_turned_66 : decode cX11_turned 66 = .ok (.ireturn, 1) := by decide +kernel
theorem dX11_turned_67 : decode cX11_turned 67 = .ok (.aload_n 0, 1) := by decide +kernel
theorem dX11_turned_68 : decode cX11_turned 68 = .ok (.getfield 45, 3) := by decide +kernel
theorem dX11_turned_71 : decode cX11_turned 71 = .ok (.iload_n 3, 1) := by decide +kernel
theorem dX11_turned_72 : decode cX11_turned 72 = .ok (.imul, 1) := by decide +kernel
theorem dX11_turned_73 : decode cX11_turned 73 = .ok (.aload_n 0, 1) := by decide +kernel
theorem dX11_turned_74 : decode cX11_turned 74 = .ok (.getfield 45, 3) := by decide +kernel
theorem dX11_turned_77 : decode cX11_turned 77 = .ok (.iadd, 1) := by decide +kernel
theorem dX11_turned_78 : decode cX11_turned 78 = .ok (.iconst 1, 1) := by decide +kernel
theorem dX11_turned_79 : decode cX11_turned 79 = .ok (.isub, 1) := by decide +kernel
theorem dX11_turned_80 : decode cX11_turned 80 = .ok (.iload_n 2, 1) := by decide +kernel
theorem dX11_turned_81 : decode cX11_turned 81 = .ok (.isub, 1) := by decide +kernel
theorem dX11_turned_82 : decode cX11_turned 82 = .ok (.ireturn, 1) := by decide +kernel
theorem dX11_turned_83 : decode cX11_turned 83 = .ok (.aload_n 0, 1) := by decide +kernel
theorem dX11_turned_84 : decode cX11_turned 84 = .ok (.getfield 45, 3) := by decide +kernel
theorem dX11_turned_87 : decode cX11_turned 87 = .ok (.iload_n 2, 1) := by decide +kernel
theorem dX11_turned_88 : decode cX11_turned 88 = .ok (.imul, 1) := by decide +kernel
theorem dX11_turned_89 : decode cX11_turned 89 = .ok (.aload_n 0, 1) := by decide +kernel
theorem dX11_turned_90 : decode cX11_turned 90 = .ok (.getfield 45, 3) := by decide +kernel
theorem dX11_turned_93 : decode cX11_turned 93 = .ok (.iadd, 1) := by decide +kernel
theorem dX11_turned_94 : decode cX11_turned 94 = .ok (.iconst 1, 1) := by decide +kernel
theorem dX11_turned_95 : decode cX11_turned 95 = .ok (.isub, 1) := by decide +kernel
theorem dX11_turned_96 : decode cX11_turned 96 = .ok (.iload_n 3, 1) := by decide +kernel
theorem dX11_turned_97 : decode cX11_turned 97 = .ok (.isub, 1) := by decide +kernel
theorem dX11_turned_98 : decode cX11_turned 98 = .ok (.ireturn, 1) := by decide +kernel
theorem dX11_turned_99 : decode cX11_turned 99 = .ok (.iload_n 1, 1) := by decide +kernel
theorem dX11_turned_100 : decode cX11_turned 100 = .ok (.ireturn, 1) := by decide +kernel
set_option maxRecDepth 20000 in
theorem ggX11_leastOf_X11_turned : GoodIn wsX11_leastOf wsX11_turned := goodIn_r _ [5, 6, 7, 8, 9, 10, 11, 12, 13, 14, 15, 16, 17, 18, 19, 20, 21, 22, 23, 24, 25, 26, 27, 28, 29] (by decide +kernel) (by decide +kernel)
set_option maxRecDepth 20000 in
theorem gX11_leastOf_X11_turned : GoodIn wsX11_leastOf (wsV RX11 78 RX11 yX11_turned wsX11_turned) := goodIn_app (goodIn_of _ (by decide +kernel)) ggX11_leastOf_X11_turned
theorem dX11_leastOf_0 : decode cX11_leastOf 0 = .ok (.iload_n 1, 1) := by decide +kernel
theorem dX11_leastOf_1 : decode cX11_leastOf 1 = .ok (.istore_n 2, 1) := by decide +kernel
theorem dX11_leastOf_2 : decode cX11_leastOf 2 = .ok (.iload_n 1, 1) := by decide +kernel
theorem dX11_leastOf_3 : decode cX11_leastOf 3 = .ok (.istore_n 3, 1) := by decide +kernel
theorem dX11_leastOf_4 : decode cX11_leastOf 4 = .ok (.iconst 0, 1) := by decide +kernel
theorem dX11_leastOf_5 : decode cX11_leastOf 5 = .ok (.istore 4, 2) := by decide +kernel
theorem dX11_leastOf_7 : decode cX11_leastOf 7 = .ok (.iload 4, 2) := by decide +kernel
theorem dX11_leastOf_9 : decode cX11_leastOf 9 = .ok (.iconst 3, 1) := by decide +kernel
theorem dX11_leastOf_10 : decode cX11_leastOf 10 = .ok (.if_icmp .ge 26, 3) := by decide +kernel
theorem dX11_leastOf_13 : decode cX11_leastOf 13 = .ok (.aload_n 0, 1) := by decide +kernel
theorem dX11_leastOf_14 : decode cX11_leastOf 14 = .ok (.iload_n 3, 1) := by decide +kernel
theorem dX11_leastOf_15 : decode cX11_leastOf 15 = .ok (.invokevirtual 78, 3) := by decide +kernel
theorem dX11_leastOf_18 : decode cX11_leastOf 18 = .ok (.istore_n 3, 1) := by decide +kernel
theorem dX11_leastOf_19 : decode cX11_leastOf 19 = .ok (.iload_n 3, 1) := by decide +kernel
theorem dX11_leastOf_20 : decode cX11_leastOf 20 = .ok (.iload_n 2, 1) := by decide +kernel
theorem dX11_leastOf_21 : decode cX11_leastOf 21 = .ok (.if_icmp .ge 7, 3) := by decide +kernel
theorem dX11_leastOf_24 : decode cX11_leastOf 24 = .ok (.iload_n 3, 1) := by decide +kernel
theorem dX11_leastOf_25 : decode cX11_leastOf 25 = .ok (.goto 4, 3) := by decide +kernel
theorem dX11_leastOf_28 : decode cX11_leastOf 28 = .ok (.iload_n 2, 1) := by decide +kernel
theorem dX11_leastOf_29 : decode cX11_leastOf 29 = .ok (.istore_n 2, 1) := by decide +kernel
theorem dX11_leastOf_30 : decode cX11_leastOf 30 = .ok (.iinc 4 1, 3) := by decide +kernel
theorem dX11_leastOf_33 : decode cX11_leastOf 33 = .ok (.goto (-26), 3) := by decide +kernel
theorem dX11_leastOf_36 : decode cX11_leastOf 36 = .ok (.iload_n 2, 1) := by decide +kernel
theorem dX11_leastOf_37 : decode cX11_leastOf 37 = .ok (.ireturn, 1) := by decide +kernel
set_option maxRecDepth 20000 in
theorem ggX11_hasTheme_X11_cells : GoodIn wsX11_hasTheme wsX11_cells := goodIn_r _ [6, 7, 17, 18, 19, 20, 21, 22, 23, 24, 25, 26, 27, 28, 29, 30, 31, 32, 33, 34, 35, 36, 37, 38] (by decide +kernel) (by decide +kernel)
set_option maxRecDepth 20000 in
theorem gX11_hasTheme_X11_cells : GoodIn wsX11_hasTheme (wsV RX11 57 RX11 yX11_cells wsX11_cells) := goodIn_app (goodIn_of _ (by decide +kernel)) ggX11_hasTheme_X11_cells
set_option maxRecDepth 20000 in
theorem ggX11_hasTheme_X11_leastOf : GoodIn wsX11_hasTheme wsX11_leastOf := goodIn_r _ [11, 12, 13, 14, 5, 15, 7, 16, 17, 18, 19, 20, 21, 22, 23, 24, 25, 26, 27, 28, 29, 30, 31, 32, 33, 34, 35, 36, 37, 38] (by decide +kernel) (by decide +kernel)
set_option maxRecDepth 20000 in
theorem gX11_hasTheme_X11_leastOf : GoodIn wsX11_hasTheme (wsV RX11 82 RX11 yX11_leastOf wsX11_leastOf) := goodIn_app (goodIn_of _ (by decide +kernel)) ggX11_hasTheme_X11_leastOf
theorem dX11_hasTheme_0 : decode cX11_hasTheme 0 = .ok (.iconst 0, 1) := by decide +kernel
theorem dX11_hasTheme_1 : decode cX11_hasTheme 1 = .ok (.istore_n 3, 1) := by decide +kernel
theorem dX11_hasTheme_2 : decode cX11_hasTheme 2 = .ok (.iload_n 3, 1) := by decide +kernel
theorem dX11_hasTheme_3 : decode cX11_hasTheme 3 = .ok (.aload_n 0, 1) := by decide +kernel
theorem dX11_hasTheme_4 : decode cX11_hasTheme 4 = .ok (.invokevirtual 57, 3) := by decide +kernel
theorem dX11_hasTheme_7 : decode cX11_hasTheme 7 = .ok (.if_icmp .ge 30, 3) := by decide +kernel
theorem dX11_hasTheme_10 : decode cX11_hasTheme 10 = .ok (.aload_n 0, 1) := by decide +kernel
theorem dX11_hasTheme_11 : decode cX11_hasTheme 11 = .ok (.iload_n 3, 1) := by decide +kernel
theorem dX11_hasTheme_12 : decode cX11_hasTheme 12 = .ok (.invokevirtual 82, 3) := by decide +kernel
theorem dX11_hasTheme_15 : decode cX11_hasTheme 15 = .ok (.iload_n 1, 1) := by decide +kernel
theorem dX11_hasTheme_16 : decode cX11_hasTheme 16 = .ok (.if_icmp .ne 15, 3) := by decide +kernel
theorem dX11_hasTheme_19 : decode cX11_hasTheme 19 = .ok (.aload_n 0, 1) := by decide +kernel
theorem dX11_hasTheme_20 : decode cX11_hasTheme 20 = .ok (.getfield 7, 3) := by decide +kernel
theorem dX11_hasTheme_23 : decode cX11_hasTheme 23 = .ok (.iload_n 3, 1) := by decide +kernel
theorem dX11_hasTheme_24 : decode cX11_hasTheme 24 = .ok (.iaload, 1) := by decide +kernel
theorem dX11_hasTheme_25 : decode cX11_hasTheme 25 = .ok (.iload_n 2, 1) := by decide +kernel
theorem dX11_hasTheme_26 : decode cX11_hasTheme 26 = .ok (.if_icmp .ne 5, 3) := by decide +kernel
theorem dX11_hasTheme_29 : decode cX11_hasTheme 29 = .ok (.iconst 1, 1) := by decide +kernel
theorem dX11_hasTheme_30 : decode cX11_hasTheme 30 = .ok (.ireturn, 1) := by decide +kernel
theorem dX11_hasTheme_31 : decode cX11_hasTheme 31 = .ok (.iinc 3 1, 3) := by decide +kernel
theorem dX11_hasTheme_34 : decode cX11_hasTheme 34 = .ok (.goto (-32), 3) := by decide +kernel
theorem dX11_hasTheme_37 : decode cX11_hasTheme 37 = .ok (.iconst 0, 1) := by decide +kernel
theorem dX11_hasTheme_38 : decode cX11_hasTheme 38 = .ok (.ireturn, 1) := by decide +kernel
set_option maxRecDepth 20000 in
theorem ggX11_takeOut_X11_cells : GoodIn wsX11_takeOut wsX11_cells := goodIn_r _ [6, 7, 17, 18, 19, 20, 21, 22, 23, 24, 25, 26, 27, 28, 29, 30, 31, 32, 33, 34, 35, 36, 37, 38] (by decide +kernel) (by decide +kernel)
set_option maxRecDepth 20000 in
theorem gX11_takeOut_X11_cells : GoodIn wsX11_takeOut (wsV RX11 57 RX11 yX11_cells wsX11_cells) := goodIn_app (goodIn_of _ (by decide +kernel)) ggX11_takeOut_X11_cells
set_option maxRecDepth 20000 in
theorem ggX11_takeOut_X11_leastOf : GoodIn wsX11_takeOut wsX11_leastOf := goodIn_r _ [11, 12, 13, 14, 5, 15, 7, 16, 17, 18, 19, 20, 21, 22, 23, 24, 25, 26, 27, 28, 29, 30, 31, 32, 33, 34, 35, 36, 37, 38] (by decide +kernel) (by decide +kernel)
set_option maxRecDepth 20000 in
theorem gX11_takeOut_X11_leastOf : GoodIn wsX11_takeOut (wsV RX11 82 RX11 yX11_leastOf wsX11_leastOf) := goodIn_app (goodIn_of _ (by decide +kernel)) ggX11_takeOut_X11_leastOf
theorem dX11_takeOut_0 : decode cX11_takeOut 0 = .ok (.iconst 0, 1) := by decide +kernel
theorem dX11_takeOut_1 : decode cX11_takeOut 1 = .ok (.istore_n 2, 1) := by decide +kernel
theorem dX11_takeOut_2 : decode cX11_takeOut 2 = .ok (.iload_n 2, 1) := by decide +kernel
theorem dX11_takeOut_3 : decode cX11_takeOut 3 = .ok (.aload_n 0, 1) := by decide +kernel
theorem dX11_takeOut_4 : decode cX11_takeOut 4 = .ok (.invokevirtual 57, 3) := by decide +kernel
theorem dX11_takeOut_7 : decode cX11_takeOut 7 = .ok (.if_icmp .ge 25, 3) := by decide +kernel
theorem dX11_takeOut_10 : decode cX11_takeOut 10 = .ok (.aload_n 0, 1) := by decide +kernel
theorem dX11_takeOut_11 : decode cX11_takeOut 11 = .ok (.iload_n 2, 1) := by decide +kernel
theorem dX11_takeOut_12 : decode cX11_takeOut 12 = .ok (.invokevirtual 82, 3) := by decide +kernel
theorem dX11_takeOut_15 : decode cX11_takeOut 15 = .ok (.iload_n 1, 1) := by decide +kernel
theorem dX11_takeOut_16 : decode cX11_takeOut 16 = .ok (.if_icmp .ne 10, 3) := by decide +kernel
theorem dX11_takeOut_19 : decode cX11_takeOut 19 = .ok (.aload_n 0, 1) := by decide +kernel
theorem dX11_takeOut_20 : decode cX11_takeOut 20 = .ok (.getfield 27, 3) := by decide +kernel
theorem dX11_takeOut_23 : decode cX11_takeOut 23 = .ok (.iload_n 2, 1) := by decide +kernel
theorem dX11_takeOut_24 : decode cX11_takeOut 24 = .ok (.iconst (-1), 1) := by decide +kernel
theorem dX11_takeOut_25 : decode cX11_takeOut 25 = .ok (.iastore, 1) := by decide +kernel
theorem dX11_takeOut_26 : decode cX11_takeOut 26 = .ok (.iinc 2 1, 3) := by decide +kernel
theorem dX11_takeOut_29 : decode cX11_takeOut 29 = .ok (.goto (-27), 3) := by decide +kernel
theorem dX11_takeOut_32 : decode cX11_takeOut 32 = .ok (.return_, 1) := by decide +kernel
set_option maxRecDepth 20000 in
theorem ggX11_putBack_X11_cells : GoodIn wsX11_putBack wsX11_cells := goodIn_r _ [7, 8, 18, 19, 20, 21, 22, 23, 24, 25, 26, 27, 28, 29, 30, 31, 32, 33, 34, 35, 36, 37, 38, 39] (by decide +kernel) (by decide +kernel)
set_option maxRecDepth 20000 in
theorem gX11_putBack_X11_cells : GoodIn wsX11_putBack (wsV RX11 57 RX11 yX11_cells wsX11_cells) := goodIn_app (goodIn_of _ (by decide +kernel)) ggX11_putBack_X11_cells
set_option maxRecDepth 20000 in
theorem ggX11_putBack_X11_leastOf : GoodIn wsX11_putBack wsX11_leastOf := goodIn_r _ [12, 13, 14, 15, 6, 16, 8, 17, 18, 19, 20, 21, 22, 23, 24, 25, 26, 27, 28, 29, 30, 31, 32, 33, 34, 35, 36, 37, 38, 39] (by decide +kernel) (by decide +kernel)
set_option maxRecDepth 20000 in
theorem gX11_putBack_X11_leastOf : GoodIn wsX11_putBack (wsV RX11 82 RX11 yX11_leastOf wsX11_leastOf) := goodIn_app (goodIn_of _ (by decide +kernel)) ggX11_putBack_X11_leastOf
theorem dX11_putBack_0 : decode cX11_putBack 0 = .ok (.iconst 0, 1) := by decide +kernel
theorem dX11_putBack_1 : decode cX11_putBack 1 = .ok (.istore_n 2, 1) := by decide +kernel
theorem dX11_putBack_2 : decode cX11_putBack 2 = .ok (.iload_n 2, 1) := by decide +kernel
theorem dX11_putBack_3 : decode cX11_putBack 3 = .ok (.aload_n 0, 1) := by decide +kernel
theorem dX11_putBack_4 : decode cX11_putBack 4 = .ok (.invokevirtual 57, 3) := by decide +kernel
theorem dX11_putBack_7 : decode cX11_putBack 7 = .ok (.if_icmp .ge 30, 3) := by decide +kernel
theorem dX11_putBack_10 : decode cX11_putBack 10 = .ok (.aload_n 0, 1) := by decide +kernel
theorem dX11_putBack_11 : decode cX11_putBack 11 = .ok (.iload_n 2, 1) := by decide +kernel
theorem dX11_putBack_12 : decode cX11_putBack 12 = .ok (.invokevirtual 82, 3) := by decide +kernel
theorem dX11_putBack_15 : decode cX11_putBack 15 = .ok (.iload_n 1, 1) := by decide +kernel
theorem dX11_putBack_16 : decode cX11_putBack 16 = .ok (.if_icmp .ne 15, 3) := by decide +kernel
theorem dX11_putBack_19 : decode cX11_putBack 19 = .ok (.aload_n 0, 1) := by decide +kernel
theorem dX11_putBack_20 : decode cX11_putBack 20 = .ok (.getfield 27, 3) := by decide +kernel
theorem dX11_putBack_23 : decode cX11_putBack 23 = .ok (.iload_n 2, 1) := by decide +kernel
theorem dX11_putBack_24 : decode cX11_putBack 24 = .ok (.aload_n 0, 1) := by decide +kernel
theorem dX11_putBack_25 : decode cX11_putBack 25 = .ok (.getfield 30, 3) := by decide +kernel
theorem dX11_putBack_28 : decode cX11_putBack 28 = .ok (.iload_n 2, 1) := by decide +kernel
theorem dX11_putBack_29 : decode cX11_putBack 29 = .ok (.iaload, 1) := by decide +kernel
theorem dX11_putBack_30 : decode cX11_putBack 30 = .ok (.iastore, 1) := by decide +kernel
theorem dX11_putBack_31 : decode cX11_putBack 31 = .ok (.iinc 2 1, 3) := by decide +kernel
theorem dX11_putBack_34 : decode cX11_putBack 34 = .ok (.goto (-32), 3) := by decide +kernel
theorem dX11_putBack_37 : decode cX11_putBack 37 = .ok (.return_, 1) := by decide +kernel
set_option maxRecDepth 20000 in
theorem ggX11_fits_X11_cells : GoodIn wsX11_fits wsX11_cells := goodIn_r _ [7, 8, 15, 16, 17, 18, 19, 20, 21, 22, 23, 24, 25, 26, 27, 28, 29, 30, 31, 32, 33, 34, 35, 36] (by decide +kernel) (by decide +kernel)
set_option maxRecDepth 20000 in
theorem gX11_fits_X11_cells : GoodIn wsX11_fits (wsV RX11 57 RX11 yX11_cells wsX11_cells) := goodIn_app (goodIn_of _ (by decide +kernel)) ggX11_fits_X11_cells
set_option maxRecDepth 20000 in
theorem ggX11_fits_X11_sees : GoodIn wsX11_fits wsX11_sees := goodIn_r _ [12, 8, 13, 14, 15, 16, 17, 18, 19, 20, 21, 22, 23, 24, 25, 26, 27, 28, 29, 30, 31, 32, 33, 34, 35, 36] (by decide +kernel) (by decide +kernel)
set_option maxRecDepth 20000 in
theorem gX11_fits_X11_sees : GoodIn wsX11_fits (wsV RX11 85 RX11 yX11_sees wsX11_sees) := goodIn_app (goodIn_of _ (by decide +kernel)) ggX11_fits_X11_sees
theorem dX11_fits_0 : decode cX11_fits 0 = .ok (.iconst 0, 1) := by decide +kernel
theorem dX11_fits_1 : decode cX11_fits 1 = .ok (.istore_n 3, 1) := by decide +kernel
theorem dX11_fits_2 : decode cX11_fits 2 = .ok (.iload_n 3, 1) := by decide +kernel
theorem dX11_fits_3 : decode cX11_fits 3 = .ok (.aload_n 0, 1) := by decide +kernel
theorem dX11_fits_4 : decode cX11_fits 4 = .ok (.invokevirtual 57, 3) := by decide +kernel
theorem dX11_fits_7 : decode cX11_fits 7 = .ok (.if_icmp .ge 44, 3) := by decide +kernel
theorem dX11_fits_10 : decode cX11_fits 10 = .ok (.iload_n 3, 1) := by decide +kernel
theorem dX11_fits_11 : decode cX11_fits 11 = .ok (.iload_n 1, 1) := by decide +kernel
theorem dX11_fits_12 : decode cX11_fits 12 = .ok (.if_icmp .ge 12, 3) := by decide +kernel
theorem dX11_fits_15 : decode cX11_fits 15 = .ok (.aload_n 0, 1) := by decide +kernel
theorem dX11_fits_16 : decode cX11_fits 16 = .ok (.getfield 33, 3) := by decide +kernel
theorem dX11_fits_19 : decode cX11_fits 19 = .ok (.iload_n 3, 1) := by decide +kernel
theorem dX11_fits_20 : decode cX11_fits 20 = .ok (.iaload, 1) := by decide +kernel
theorem dX11_fits_21 : decode cX11_fits 21 = .ok (.goto 9, 3) := by decide +kernel
theorem dX11_fits_24 : decode cX11_fits 24 = .ok (.aload_n 0, 1) := by decide +kernel
theorem dX11_fits_25 : decode cX11_fits 25 = .ok (.getfield 27, 3) := by decide +kernel
theorem dX11_fits_28 : decode cX11_fits 28 = .ok (.iload_n 3, 1) := by decide +kernel
theorem dX11_fits_29 : decode cX11_fits 29 = .ok (.iaload, 1) := by decide +kernel
theorem dX11_fits_30 : decode cX11_fits 30 = .ok (.iload_n 2, 1) := by decide +kernel
theorem dX11_fits_31 : decode cX11_fits 31 = .ok (.if_icmp .ne 14, 3) := by decide +kernel
theorem dX11_fits_34 : decode cX11_fits 34 = .ok (.aload_n 0, 1) := by decide +kernel
theorem dX11_fits_35 : decode cX11_fits 35 = .ok (.iload_n 3, 1) := by decide +kernel
theorem dX11_fits_36 : decode cX11_fits 36 = .ok (.iload_n 1, 1) := by decide +kernel
theorem dX11_fits_37 : decode cX11_fits 37 = .ok (.invokevirtual 85, 3) := by decide +kernel
theorem dX11_fits_40 : decode cX11_fits 40 = .ok (.ifCond .eq 5, 3) := by decide +kernel
theorem dX11_fits_43 : decode cX11_fits 43 = .ok (.iconst 0, 1) := by decide +kernel
theorem dX11_fits_44 : decode cX11_fits 44 = .ok (.ireturn, 1) := by decide +kernel
theorem dX11_fits_45 : decode cX11_fits 45 = .ok (.iinc 3 1, 3) := by decide +kernel
theorem dX11_fits_48 : decode cX11_fits 48 = .ok (.goto (-46), 3) := by decide +kernel
theorem dX11_fits_51 : decode cX11_fits 51 = .ok (.iconst 1, 1) := by decide +kernel
theorem dX11_fits_52 : decode cX11_fits 52 = .ok (.ireturn, 1) := by decide +kernel
set_option maxRecDepth 20000 in
theorem ggX11_countUpTo_X11_cells : GoodIn wsX11_countUpTo wsX11_cells := goodIn_r _ [8, 2, 19, 20, 21, 22, 23, 24, 25, 26, 27, 28, 29, 30, 31, 32, 33, 34, 35, 36, 37, 38, 39, 40] (by decide +kernel) (by decide +kernel)
set_option maxRecDepth 20000 in
theorem gX11_countUpTo_X11_cells : GoodIn wsX11_countUpTo (wsV RX11 57 RX11 yX11_cells wsX11_cells) := goodIn_app (goodIn_of _ (by decide +kernel)) ggX11_countUpTo_X11_cells
set_option maxRecDepth 20000 in
theorem ggX11_countUpTo_X11_fits : GoodIn wsX11_countUpTo wsX11_fits := goodIn_r _ [12, 3, 1, 4, 5, 6, 7, 8, 2, 13, 14, 15, 16, 17, 18, 19, 20, 21, 22, 23, 24, 25, 26, 27, 28, 29, 30, 31, 32, 33, 34, 35, 36, 37, 38, 39, 40] (by decide +kernel) (by decide +kernel)
set_option maxRecDepth 20000 in
theorem gX11_countUpTo_X11_fits : GoodIn wsX11_countUpTo (wsV RX11 89 RX11 yX11_fits wsX11_fits) := goodIn_app (goodIn_of _ (by decide +kernel)) ggX11_countUpTo_X11_fits
theorem dX11_countUpTo_0 : decode cX11_countUpTo 0 = .ok (.iconst 0, 1) := by decide +kernel
theorem dX11_countUpTo_1 : decode cX11_countUpTo 1 = .ok (.istore_n 2, 1) := by decide +kernel
theorem dX11_countUpTo_2 : decode cX11_countUpTo 2 = .ok (.iconst 0, 1) := by decide +kernel
theorem dX11_countUpTo_3 : decode cX11_countUpTo 3 = .ok (.istore_n 3, 1) := by decide +kernel
theorem dX11_countUpTo_4 : decode cX11_countUpTo 4 = .ok (.iconst 1, 1) := by decide +kernel
theorem dX11_countUpTo_5 : decode cX11_countUpTo 5 = .ok (.istore 4, 2) := by decide +kernel
theorem dX11_countUpTo_7 : decode cX11_countUpTo 7 = .ok (.iload_n 3, 1) := by decide +kernel
theorem dX11_countUpTo_8 : decode cX11_countUpTo 8 = .ok (.ifCond .lt 173, 3) := by decide +kernel
theorem dX11_countUpTo_11 : decode cX11_countUpTo 11 = .ok (.iload_n 2, 1) := by decide +kernel
theorem dX11_countUpTo_12 : decode cX11_countUpTo 12 = .ok (.iload_n 1, 1) := by decide +kernel
theorem dX11_countUpTo_13 : decode cX11_countUpTo 13 = .ok (.if_icmp .ge 168, 3) := by decide +kernel
theorem dX11_countUpTo_16 : decode cX11_countUpTo 16 = .ok (.iload_n 3, 1) := by decide +kernel
theorem dX11_countUpTo_17 : decode cX11_countUpTo 17 = .ok (.aload_n 0, 1) := by decide +kernel
theorem dX11_countUpTo_18 : decode cX11_countUpTo 18 = .ok (.invokevirtual 57, 3) := by decide +kernel
theorem dX11_countUpTo_21 : decode cX11_countUpTo 21 = .ok (.if_icmp .ne 15, 3) := by decide +kernel
theorem dX11_countUpTo_24 : decode cX11_countUpTo 24 = .ok (.iinc 2 1, 3) := by decide +kernel
theorem dX11_countUpTo_27 : decode cX11_countUpTo 27 = .ok (.iconst 0, 1) := by decide +kernel
theorem dX11_countUpTo_28 : decode cX11_countUpTo 28 = .ok (.istore 4, 2) := by decide +kernel
theorem dX11_countUpTo_30 : decode cX11_countUpTo 30 = .ok (.iinc 3 (-1), 3) := by decide +kernel
theorem dX11_countUpTo_33 : decode cX11_countUpTo 33 = .ok (.goto (-26), 3) := by decide +kernel
theorem dX11_countUpTo_36 : decode cX11_countUpTo 36 = .ok (.aload_n 0, 1) := by decide +kernel
theorem dX11_countUpTo_37 : decode cX11_countUpTo 37 = .ok (.getfield 27, 3) := by decide +kernel
theorem dX11_countUpTo_40 : decode cX11_countUpTo 40 = .ok (.iload_n 3, 1) := by decide +kernel
theorem dX11_countUpTo_41 : decode cX11_countUpTo 41 = .ok (.iaload, 1) := by decide +kernel
theorem dX11_countUpTo_42 : decode cX11_countUpTo 42 = .ok (.ifCond .lt 24, 3) := by decide +kernel
theorem dX11_countUpTo_45 : decode cX11_countUpTo 45 = .ok (.iload 4, 2) := by decide +kernel
theorem dX11_countUpTo_47 : decode cX11_countUpTo 47 = .ok (.ifCond .eq 12, 3) := by decide +kernel
theorem dX11_countUpTo_50 : decode cX11_countUpTo 50 = .ok (.aload_n 0, 1) := by decide +kernel
theorem dX11_countUpTo_51 : decode cX11_countUpTo 51 = .ok (.getfield 27, 3) := by decide +kernel
theorem dX11_countUpTo_54 : decode cX11_countUpTo 54 = .ok (.iload_n 3, 1) := by decide +kernel
theorem dX11_countUpTo_55 : decode cX11_countUpTo 55 = .ok (.iaload, 1) := by decide +kernel
theorem dX11_countUpTo_56 : decode cX11_countUpTo 56 = .ok (.goto 27, 3) := by decide +kernel
theorem dX11_countUpTo_59 : decode cX11_countUpTo 59 = .ok (.aload_n 0, 1) := by decide +kernel
theorem dX11_countUpTo_60 : decode cX11_countUpTo 60 = .ok (.getfield 45, 3) := by decide +kernel
theorem dX11_countUpTo_63 : decode cX11_countUpTo 63 = .ok (.goto 20, 3) := by decide +kernel
theorem dX11_countUpTo_66 : decode cX11_countUpTo 66 = .ok (.iload 4, 2) := by decide +kernel
theorem dX11_countUpTo_68 : decode cX11_countUpTo 68 = .ok (.ifCond .eq 7, 3) := by decide +kernel
theorem dX11_countUpTo_71 : decode cX11_countUpTo 71 = .ok (.iconst 0, 1) := by decide +kernel
theorem dX11_countUpTo_72 : decode cX11_countUpTo 72 = .ok (.goto 11, 3) := by decide +kernel
theorem dX11_countUpTo_75 : decode cX11_countUpTo 75 = .ok (.aload_n 0, 1) := by decide +kernel
theorem dX11_countUpTo_76 : decode cX11_countUpTo 76 = .ok (.getfield 33, 3) := by decide +kernel
theorem dX11_countUpTo_79 : decode cX11_countUpTo 79 = .ok (.iload_n 3, 1) := by decide +kernel
theorem dX11_countUpTo_80 : decode cX11_countUpTo 80 = .ok (.iaload, 1) := by decide +kernel
theorem dX11_countUpTo_81 : decode cX11_countUpTo 81 = .ok (.iconst 1, 1) := by decide +kernel
theorem dX11_countUpTo_82 : decode cX11_countUpTo 82 = .ok (.iadd, 1) := by decide +kernel
theorem dX11_countUpTo_83 : decode cX11_countUpTo 83 = .ok (.istore 5, 2) := by decide +kernel
theorem dX11_countUpTo_85 : decode cX11_countUpTo 85 = .ok (.aload_n 0, 1) := by decide +kernel
theorem dX11_countUpTo_86 : decode cX11_countUpTo 86 = .ok (.getfield 27, 3) := by decide +kernel
theorem dX11_countUpTo_89 : decode cX11_countUpTo 89 = .ok (.iload_n 3, 1) := by decide +kernel
theorem dX11_countUpTo_90 : decode cX11_countUpTo 90 = .ok (.iaload, 1) := by decide +kernel
theorem dX11_countUpTo_91 : decode cX11_countUpTo 91 = .ok (.ifCond .lt 12, 3) := by decide +kernel
theorem dX11_countUpTo_94 : decode cX11_countUpTo 94 = .ok (.aload_n 0, 1) := by decide +kernel
theorem dX11_countUpTo_95 : decode cX11_countUpTo 95 = .ok (.getfield 27, 3) := by decide +kernel
theorem dX11_countUpTo_98 : decode cX11_countUpTo 98 = .ok (.iload_n 3, 1) := by decide +kernel
theorem dX11_countUpTo_99 : decode cX11_countUpTo 99 = .ok (.iaload, 1) := by decide +kernel
theorem dX11_countUpTo_100 : decode cX11_countUpTo 100 = .ok (.goto 9, 3) := by decide +kernel
theorem dX11_countUpTo_103 : decode cX11_countUpTo 103 = .ok (.aload_n 0, 1) := by decide +kernel
theorem dX11_countUpTo_104 : decode cX11_countUpTo 104 = .ok (.getfield 45, 3) := by decide +kernel
theorem dX11_countUpTo_107 : decode cX11_countUpTo 107 = .ok (.iconst 1, 1) := by decide +kernel
theorem dX11_countUpTo_108 : decode cX11_countUpTo 108 = .ok (.isub, 1) := by decide +kernel
theorem dX11_countUpTo_109 : decode cX11_countUpTo 109 = .ok (.istore 6, 2) := by decide +kernel
theorem dX11_countUpTo_111 : decode cX11_countUpTo 111 = .ok (.iload 5, 2) := by decide +kernel
theorem dX11_countUpTo_113 : decode cX11_countUpTo 113 = .ok (.iload 6, 2) := by decide +kernel
theorem dX11_countUpTo_115 : decode cX11_countUpTo 115 = .ok (.if_icmp .gt 19, 3) := by decide +kernel
theorem dX11_countUpTo_118 : decode cX11_countUpTo 118 = .ok (.aload_n 0, 1) := by decide +kernel
theorem dX11_countUpTo_119 : decode cX11_countUpTo 119 = .ok (.iload_n 3, 1) := by decide +kernel
theorem dX11_countUpTo_120 : decode cX11_countUpTo 120 = .ok (.iload 5, 2) := by decide +kernel
theorem dX11_countUpTo_122 : decode cX11_countUpTo 122 = .ok (.invokevirtual 89, 3) := by decide +kernel
theorem dX11_countUpTo_125 : decode cX11_countUpTo 125 = .ok (.ifCond .ne 9, 3) := by decide +kernel
theorem dX11_countUpTo_128 : decode cX11_countUpTo 128 = .ok (.iinc 5 1, 3) := by decide +kernel
theorem dX11_countUpTo_131 : decode cX11_countUpTo 131 = .ok (.goto (-20), 3) := by decide +kernel
theorem dX11_countUpTo_134 : decode cX11_countUpTo 134 = .ok (.iload 5, 2) := by decide +kernel
theorem dX11_countUpTo_136 : decode cX11_countUpTo 136 = .ok (.iload 6, 2) := by decide +kernel
theorem dX11_countUpTo_138 : decode cX11_countUpTo 138 = .ok (.if_icmp .gt 7, 3) := by decide +kernel
theorem dX11_countUpTo_141 : decode cX11_countUpTo 141 = .ok (.iconst 1, 1) := by decide +kernel
theorem dX11_countUpTo_142 : decode cX11_countUpTo 142 = .ok (.goto 4, 3) := by decide +kernel
theorem dX11_countUpTo_145 : decode cX11_countUpTo 145 = .ok (.iconst 0, 1) := by decide +kernel
theorem dX11_countUpTo_146 : decode cX11_countUpTo 146 = .ok (.istore 4, 2) := by decide +kernel
theorem dX11_countUpTo_148 : decode cX11_countUpTo 148 = .ok (.aload_n 0, 1) := by decide +kernel
theorem dX11_countUpTo_149 : decode cX11_countUpTo 149 = .ok (.getfield 33, 3) := by decide +kernel
theorem dX11_countUpTo_152 : decode cX11_countUpTo 152 = .ok (.iload_n 3, 1) := by decide +kernel
theorem dX11_countUpTo_153 : decode cX11_countUpTo 153 = .ok (.iload 4, 2) := by decide +kernel
theorem dX11_countUpTo_155 : decode cX11_countUpTo 155 = .ok (.ifCond .eq 8, 3) := by decide +kernel
theorem dX11_countUpTo_158 : decode cX11_countUpTo 158 = .ok (.iload 5, 2) := by decide +kernel
theorem dX11_countUpTo_160 : decode cX11_countUpTo 160 = .ok (.goto 4, 3) := by decide +kernel
theorem dX11_countUpTo_163 : decode cX11_countUpTo 163 = .ok (.iconst (-1), 1) := by decide +kernel
theorem dX11_countUpTo_164 : decode cX11_countUpTo 164 = .ok (.iastore, 1) := by decide +kernel
theorem dX11_countUpTo_165 : decode cX11_countUpTo 165 = .ok (.iload_n 3, 1) := by decide +kernel
theorem dX11_countUpTo_166 : decode cX11_countUpTo 166 = .ok (.iload 4, 2) := by decide +kernel
theorem dX11_countUpTo_168 : decode cX11_countUpTo 168 = .ok (.ifCond .eq 7, 3) := by decide +kernel
theorem dX11_countUpTo_171 : decode cX11_countUpTo 171 = .ok (.iconst 1, 1) := by decide +kernel
theorem dX11_countUpTo_172 : decode cX11_countUpTo 172 = .ok (.goto 4, 3) := by decide +kernel
theorem dX11_countUpTo_175 : decode cX11_countUpTo 175 = .ok (.iconst (-1), 1) := by decide +kernel
theorem dX11_countUpTo_176 : decode cX11_countUpTo 176 = .ok (.iadd, 1) := by decide +kernel
theorem dX11_countUpTo_177 : decode cX11_countUpTo 177 = .ok (.istore_n 3, 1) := by decide +kernel
theorem dX11_countUpTo_178 : decode cX11_countUpTo 178 = .ok (.goto (-171), 3) := by decide +kernel
theorem dX11_countUpTo_181 : decode cX11_countUpTo 181 = .ok (.iload_n 2, 1) := by decide +kernel
theorem dX11_countUpTo_182 : decode cX11_countUpTo 182 = .ok (.ireturn, 1) := by decide +kernel
set_option maxRecDepth 20000 in
theorem ggX11_may_X11_cells : GoodIn wsX11_may wsX11_cells := goodIn_r _ [6, 7, 14, 15, 16, 17, 18, 19, 20, 21, 22, 23, 24, 25, 26, 27, 28, 29, 30, 31, 32, 33, 34, 35] (by decide +kernel) (by decide +kernel)
set_option maxRecDepth 20000 in
theorem gX11_may_X11_cells : GoodIn wsX11_may (wsV RX11 57 RX11 yX11_cells wsX11_cells) := goodIn_app (goodIn_of _ (by decide +kernel)) ggX11_may_X11_cells
set_option maxRecDepth 20000 in
theorem ggX11_may_X11_sees : GoodIn wsX11_may wsX11_sees := goodIn_r _ [11, 7, 12, 13, 14, 15, 16, 17, 18, 19, 20, 21, 22, 23, 24, 25, 26, 27, 28, 29, 30, 31, 32, 33, 34, 35] (by decide +kernel) (by decide +kernel)
set_option maxRecDepth 20000 in
theorem gX11_may_X11_sees : GoodIn wsX11_may (wsV RX11 85 RX11 yX11_sees wsX11_sees) := goodIn_app (goodIn_of _ (by decide +kernel)) ggX11_may_X11_sees
theorem dX11_may_0 : decode cX11_may 0 = .ok (.aload_n 0, 1) := by decide +kernel
theorem dX11_may_1 : decode cX11_may 1 = .ok (.getfield 36, 3) := by decide +kernel
theorem dX11_may_4 : decode cX11_may 4 = .ok (.iload_n 1, 1) := by decide +kernel
theorem dX11_may_5 : decode cX11_may 5 = .ok (.iaload, 1) := by decide +kernel
theorem dX11_may_6 : decode cX11_may 6 = .ok (.ifCond .lt 5, 3) := by decide +kernel
theorem dX11_may_9 : decode cX11_may 9 = .ok (.iconst 0, 1) := by decide +kernel
theorem dX11_may_10 : decode cX11_may 10 = .ok (.ireturn, 1) := by decide +kernel
theorem dX11_may_11 : decode cX11_may 11 = .ok (.iconst 0, 1) := by decide +kernel
theorem dX11_may_12 : decode cX11_may 12 = .ok (.istore_n 3, 1) := by decide +kernel
theorem dX11_may_13 : decode cX11_may 13 = .ok (.iload_n 3, 1) := by decide +kernel
theorem dX11_may_14 : decode cX11_may 14 = .ok (.aload_n 0, 1) := by decide +kernel
theorem dX11_may_15 : decode cX11_may 15 = .ok (.invokevirtual 57, 3) := by decide +kernel
theorem dX11_may_18 : decode cX11_may 18 = .ok (.if_icmp .ge 30, 3) := by decide +kernel
theorem dX11_may_21 : decode cX11_may 21 = .ok (.aload_n 0, 1) := by decide +kernel
theorem dX11_may_22 : decode cX11_may 22 = .ok (.getfield 36, 3) := by decide +kernel
theorem dX11_may_25 : decode cX11_may 25 = .ok (.iload_n 3, 1) := by decide +kernel
theorem dX11_may_26 : decode cX11_may 26 = .ok (.iaload, 1) := by decide +kernel
theorem dX11_may_27 : decode cX11_may 27 = .ok (.iload_n 2, 1) := by decide +kernel
theorem dX11_may_28 : decode cX11_may 28 = .ok (.if_icmp .ne 14, 3) := by decide +kernel
theorem dX11_may_31 : decode cX11_may 31 = .ok (.aload_n 0, 1) := by decide +kernel
theorem dX11_may_32 : decode cX11_may 32 = .ok (.iload_n 3, 1) := by decide +kernel
theorem dX11_may_33 : decode cX11_may 33 = .ok (.iload_n 1, 1) := by decide +kernel
theorem dX11_may_34 : decode cX11_may 34 = .ok (.invokevirtual 85, 3) := by decide +kernel
theorem dX11_may_37 : decode cX11_may 37 = .ok (.ifCond .eq 5, 3) := by decide +kernel
theorem dX11_may_40 : decode cX11_may 40 = .ok (.iconst 0, 1) := by decide +kernel
theorem dX11_may_41 : decode cX11_may 41 = .ok (.ireturn, 1) := by decide +kernel
theorem dX11_may_42 : decode cX11_may 42 = .ok (.iinc 3 1, 3) := by decide +kernel
theorem dX11_may_45 : decode cX11_may 45 = .ok (.goto (-32), 3) := by decide +kernel
theorem dX11_may_48 : decode cX11_may 48 = .ok (.iconst 1, 1) := by decide +kernel
theorem dX11_may_49 : decode cX11_may 49 = .ok (.ireturn, 1) := by decide +kernel
theorem dX11_isTogether_0 : decode cX11_isTogether 0 = .ok (.iload_n 3, 1) := by decide +kernel
theorem dX11_isTogether_1 : decode cX11_isTogether 1 = .ok (.ifCond .ne 24, 3) := by decide +kernel
theorem dX11_isTogether_4 : decode cX11_isTogether 4 = .ok (.iload_n 1, 1) := by decide +kernel
theorem dX11_isTogether_5 : decode cX11_isTogether 5 = .ok (.aload_n 0, 1) := by decide +kernel
theorem dX11_isTogether_6 : decode cX11_isTogether 6 = .ok (.getfield 45, 3) := by decide +kernel
theorem dX11_isTogether_9 : decode cX11_isTogether 9 = .ok (.idiv, 1) := by decide +kernel
theorem dX11_isTogether_10 : decode cX11_isTogether 10 = .ok (.iload_n 2, 1) := by decide +kernel
theorem dX11_isTogether_11 : decode cX11_isTogether 11 = .ok (.aload_n 0, 1) := by decide +kernel
theorem dX11_isTogether_12 : decode cX11_isTogether 12 = .ok (.getfield 45, 3) := by decide +kernel
theorem dX11_isTogether_15 : decode cX11_isTogether 15 = .ok (.idiv, 1) := by decide +kernel
theorem dX11_isTogether_16 : decode cX11_isTogether 16 = .ok (.if_icmp .ne 7, 3) := by decide +kernel
theorem dX11_isTogether_19 : decode cX11_isTogether 19 = .ok (.iconst 1, 1) := by decide +kernel
theorem dX11_isTogether_20 : decode cX11_isTogether 20 = .ok (.goto 4, 3) := by decide +kernel
theorem dX11_isTogether_23 : decode cX11_isTogether 23 = .ok (.iconst 0, 1) := by decide +kernel
theorem dX11_isTogether_24 : decode cX11_isTogether 24 = .ok (.ireturn, 1) := by decide +kernel
theorem dX11_isTogether_25 : decode cX11_isTogether 25 = .ok (.iload_n 3, 1) := by decide +kernel
theorem dX11_isTogether_26 : decode cX11_isTogether 26 = .ok (.iconst 1, 1) := by decide +kernel
theorem dX11_isTogether_27 : decode cX11_isTogether 27 = .ok (.if_icmp .ne 24, 3) := by decide +kernel
theorem dX11_isTogether_30 : decode cX11_isTogether 30 = .ok (.iload_n 1, 1) := by decide +kernel
theorem dX11_isTogether_31 : decode cX11_isTogether 31 = .ok (.aload_n 0, 1) := by decide +kernel
theorem dX11_isTogether_32 : decode cX11_isTogether 32 = .ok (.getfield 45, 3) := by decide +kernel
theorem dX11_isTogether_35 : decode cX11_isTogether 35 = .ok (.irem, 1) := by decide +kernel
theorem dX11_isTogether_36 : decode cX11_isTogether 36 = .ok (.iload_n 2, 1) := by decide +kernel
theorem dX11_isTogether_37 : decode cX11_isTogether 37 = .ok (.aload_n 0, 1) := by decide +kernel
theorem dX11_isTogether_38 : decode cX11_isTogether 38 = .ok (.getfield 45, 3) := by decide +kernel
theorem dX11_isTogether_41 : decode cX11_isTogether 41 = .ok (.irem, 1) := by decide +kernel
theorem dX11_isTogether_42 : decode cX11_isTogether 42 = .ok (.if_icmp .ne 7, 3) := by decide +kernel
theorem dX11_isTogether_45 : decode cX11_isTogether 45 = .ok (.iconst 1, 1) := by decide +kernel
theorem dX11_isTogether_46 : decode cX11_isTogether 46 = .ok (.goto 4, 3) := by decide +kernel
theorem dX11_isTogether_49 : decode cX11_isTogether 49 = .ok (.iconst 0, 1) := by decide +kernel
theorem dX11_isTogether_50 : decode cX11_isTogether 50 = .ok (.ireturn, 1) := by decide +kernel
theorem dX11_isTogether_51 : decode cX11_isTogether 51 = .ok (.iload_n 1, 1) := by decide +kernel
theorem dX11_isTogether_52 : decode cX11_isTogether 52 = .ok (.aload_n 0, 1) := by decide +kernel
theorem dX11_isTogether_53 : decode cX11_isTogether 53 = .ok (.getfield 45, 3) := by decide +kernel
theorem dX11_isTogether_56 : decode cX11_isTogether 56 = .ok (.idiv, 1) := by decide +kernel
theorem dX11_isTogether_57 : decode cX11_isTogether 57 = .ok (.aload_n 0, 1) := by decide +kernel
theorem dX11_isTogether_58 : decode cX11_isTogether 58 = .ok (.getfield 51, 3) := by decide +kernel
theorem dX11_isTogether_61 : decode cX11_isTogether 61 = .ok (.idiv, 1) := by decide +kernel
theorem dX11_isTogether_62 : decode cX11_isTogether 62 = .ok (.iload_n 2, 1) := by decide +kernel
theorem dX11_isTogether_63 : decode cX11_isTogether 63 = .ok (.aload_n 0, 1) := by decide +kernel
theorem dX11_isTogether_64 : decode cX11_isTogether 64 = .ok (.getfield 45, 3) := by decide +kernel
theorem dX11_isTogether_67 : decode cX11_isTogether 67 = .ok (.idiv, 1) := by decide +kernel
theorem dX11_isTogether_68 : decode cX11_isTogether 68 = .ok (.aload_n 0, 1) := by decide +kernel
theorem dX11_isTogether_69 : decode cX11_isTogether 69 = .ok (.getfield 51, 3) := by decide +kernel
theorem dX11_isTogether_72 : decode cX11_isTogether 72 = .ok (.idiv, 1) := by decide +kernel
theorem dX11_isTogether_73 : decode cX11_isTogether 73 = .ok (.if_icmp .ne 32, 3) := by decide +kernel
theorem dX11_isTogether_76 : decode cX11_isTogether 76 = .ok (.iload_n 1, 1) := by decide +kernel
theorem dX11_isTogether_77 : decode cX11_isTogether 77 = .ok (.aload_n 0, 1) := by decide +kernel
theorem dX11_isTogether_78 : decode cX11_isTogether 78 = .ok (.getfield 45, 3) := by decide +kernel
theorem dX11_isTogether_81 : decode cX11_isTogether 81 = .ok (.irem, 1) := by decide +kernel
theorem dX11_isTogether_82 : decode cX11_isTogether 82 = .ok (.aload_n 0, 1) := by decide +kernel
theorem dX11_isTogether_83 : decode cX11_isTogether 83 = .ok (.getfield 48, 3) := by decide +kernel
theorem dX11_isTogether_86 : decode cX11_isTogether 86 = .ok (.idiv, 1) := by decide +kernel
theorem dX11_isTogether_87 : decode cX11_isTogether 87 = .ok (.iload_n 2, 1) := by decide +kernel
theorem dX11_isTogether_88 : decode cX11_isTogether 88 = .ok (.aload_n 0, 1) := by decide +kernel
theorem dX11_isTogether_89 : decode cX11_isTogether 89 = .ok (.getfield 45, 3) := by decide +kernel
theorem dX11_isTogether_92 : decode cX11_isTogether 92 = .ok (.irem, 1) := by decide +kernel
theorem dX11_isTogether_93 : decode cX11_isTogether 93 = .ok (.aload_n 0, 1) := by decide +kernel
theorem dX11_isTogether_94 : decode cX11_isTogether 94 = .ok (.getfield 48, 3) := by decide +kernel
theorem dX11_isTogether_97 : decode cX11_isTogether 97 = .ok (.idiv, 1) := by decide +kernel
theorem dX11_isTogether_98 : decode cX11_isTogether 98 = .ok (.if_icmp .ne 7, 3) := by decide +kernel
theorem dX11_isTogether_101 : decode cX11_isTogether 101 = .ok (.iconst 1, 1) := by decide +kernel
theorem dX11_isTogether_102 : decode cX11_isTogether 102 = .ok (.goto 4, 3) := by decide +kernel
theorem dX11_isTogether_105 : decode cX11_isTogether 105 = .ok (.iconst 0, 1) := by decide +kernel
theorem dX11_isTogether_106 : decode cX11_isTogether 106 = .ok (.ireturn, 1) := by decide +kernel
set_option maxRecDepth 20000 in
theorem ggX11_isSingle_X11_may : GoodIn wsX11_isSingle wsX11_may := goodIn_r _ [6, 7, 8, 9, 10, 5, 11, 1, 12, 13, 14, 15, 16, 17, 22, 23, 24, 25, 26, 27, 28, 29, 30, 31, 32, 33, 34, 35, 36, 37, 38, 39, 40, 41, 42, 43] (by decide +kernel) (by decide +kernel)
set_option maxRecDepth 20000 in
theorem gX11_isSingle_X11_may : GoodIn wsX11_isSingle (wsV RX11 92 RX11 yX11_may wsX11_may) := goodIn_app (goodIn_of _ (by decide +kernel)) ggX11_isSingle_X11_may
set_option maxRecDepth 20000 in
theorem ggX11_isSingle_X11_cells : GoodIn wsX11_isSingle wsX11_cells := goodIn_r _ [11, 1, 22, 23, 24, 25, 26, 27, 28, 29, 30, 31, 32, 33, 34, 35, 36, 37, 38, 39, 40, 41, 42, 43] (by decide +kernel) (by decide +kernel)
set_option maxRecDepth 20000 in
theorem gX11_isSingle_X11_cells : GoodIn wsX11_isSingle (wsV RX11 57 RX11 yX11_cells wsX11_cells) := goodIn_app (goodIn_of _ (by decide +kernel)) ggX11_isSingle_X11_cells
set_option maxRecDepth 20000 in
theorem ggX11_isSingle_X11_isTogether : GoodIn wsX11_isSingle wsX11_isTogether := goodIn_r _ [21, 1, 16, 17, 22, 23, 24, 25, 26, 27, 28, 29, 30, 31, 32, 33, 34, 35, 36, 37, 38, 39, 40, 41, 42, 43] (by decide +kernel) (by decide +kernel)
set_option maxRecDepth 20000 in
theorem gX11_isSingle_X11_isTogether : GoodIn wsX11_isSingle (wsV RX11 95 RX11 yX11_isTogether wsX11_isTogether) := goodIn_app (goodIn_of _ (by decide +kernel)) ggX11_isSingle_X11_isTogether
theorem dX11_isSingle_0 : decode cX11_isSingle 0 = .ok (.iconst 1, 1) := by decide +kernel
theorem dX11_isSingle_1 : decode cX11_isSingle 1 = .ok (.istore_n 3, 1) := by decide +kernel
theorem dX11_isSingle_2 : decode cX11_isSingle 2 = .ok (.iconst 0, 1) := by decide +kernel
theorem dX11_isSingle_3 : decode cX11_isSingle 3 = .ok (.istore 4, 2) := by decide +kernel
theorem dX11_isSingle_5 : decode cX11_isSingle 5 = .ok (.iload 4, 2) := by decide +kernel
theorem dX11_isSingle_7 : decode cX11_isSingle 7 = .ok (.aload_n 0, 1) := by decide +kernel
theorem dX11_isSingle_8 : decode cX11_isSingle 8 = .ok (.getfield 45, 3) := by decide +kernel
theorem dX11_isSingle_11 : decode cX11_isSingle 11 = .ok (.if_icmp .ge 35, 3) := by decide +kernel
theorem dX11_isSingle_14 : decode cX11_isSingle 14 = .ok (.iload_n 3, 1) := by decide +kernel
theorem dX11_isSingle_15 : decode cX11_isSingle 15 = .ok (.ifCond .eq 23, 3) := by decide +kernel
theorem dX11_isSingle_18 : decode cX11_isSingle 18 = .ok (.iload 4, 2) := by decide +kernel
theorem dX11_isSingle_20 : decode cX11_isSingle 20 = .ok (.iload_n 2, 1) := by decide +kernel
theorem dX11_isSingle_21 : decode cX11_isSingle 21 = .ok (.if_icmp .eq 13, 3) := by decide +kernel
theorem dX11_isSingle_24 : decode cX11_isSingle 24 = .ok (.aload_n 0, 1) := by decide +kernel
theorem dX11_isSingle_25 : decode cX11_isSingle 25 = .ok (.iload_n 1, 1) := by decide +kernel
theorem dX11_isSingle_26 : decode cX11_isSingle 26 = .ok (.iload 4, 2) := by decide +kernel
theorem dX11_isSingle_28 : decode cX11_isSingle 28 = .ok (.invokevirtual 92, 3) := by decide +kernel
theorem dX11_isSingle_31 : decode cX11_isSingle 31 = .ok (.ifCond .ne 7, 3) := by decide +kernel
theorem dX11_isSingle_34 : decode cX11_isSingle 34 = .ok (.iconst 1, 1) := by decide +kernel
theorem dX11_isSingle_35 : decode cX11_isSingle 35 = .ok (.goto 4, 3) := by decide +kernel
theorem dX11_isSingle_38 : decode cX11_isSingle 38 = .ok (.iconst 0, 1) := by decide +kernel
theorem dX11_isSingle_39 : decode cX11_isSingle 39 = .ok (.istore_n 3, 1) := by decide +kernel
theorem dX11_isSingle_40 : decode cX11_isSingle 40 = .ok (.iinc 4 1, 3) := by decide +kernel
theorem dX11_isSingle_43 : decode cX11_isSingle 43 = .ok (.goto (-38), 3) := by decide +kernel
theorem dX11_isSingle_46 : decode cX11_isSingle 46 = .ok (.iconst 0, 1) := by decide +kernel
theorem dX11_isSingle_47 : decode cX11_isSingle 47 = .ok (.istore 4, 2) := by decide +kernel
theorem dX11_isSingle_49 : decode cX11_isSingle 49 = .ok (.iload 4, 2) := by decide +kernel
theorem dX11_isSingle_51 : decode cX11_isSingle 51 = .ok (.iconst 3, 1) := by decide +kernel
theorem dX11_isSingle_52 : decode cX11_isSingle 52 = .ok (.if_icmp .ge 77, 3) := by decide +kernel
theorem dX11_isSingle_55 : decode cX11_isSingle 55 = .ok (.iload_n 3, 1) := by decide +kernel
theorem dX11_isSingle_56 : decode cX11_isSingle 56 = .ok (.ifCond .ne 73, 3) := by decide +kernel
theorem dX11_isSingle_59 : decode cX11_isSingle 59 = .ok (.iconst 1, 1) := by decide +kernel
theorem dX11_isSingle_60 : decode cX11_isSingle 60 = .ok (.istore 5, 2) := by decide +kernel
theorem dX11_isSingle_62 : decode cX11_isSingle 62 = .ok (.iconst 0, 1) := by decide +kernel
theorem dX11_isSingle_63 : decode cX11_isSingle 63 = .ok (.istore 6, 2) := by decide +kernel
theorem dX11_isSingle_65 : decode cX11_isSingle 65 = .ok (.iload 6, 2) := by decide +kernel
theorem dX11_isSingle_67 : decode cX11_isSingle 67 = .ok (.aload_n 0, 1) := by decide +kernel
theorem dX11_isSingle_68 : decode cX11_isSingle 68 = .ok (.invokevirtual 57, 3) := by decide +kernel
theorem dX11_isSingle_71 : decode cX11_isSingle 71 = .ok (.if_icmp .ge 49, 3) := by decide +kernel
theorem dX11_isSingle_74 : decode cX11_isSingle 74 = .ok (.iload 5, 2) := by decide +kernel
theorem dX11_isSingle_76 : decode cX11_isSingle 76 = .ok (.ifCond .eq 35, 3) := by decide +kernel
theorem dX11_isSingle_79 : decode cX11_isSingle 79 = .ok (.iload 6, 2) := by decide +kernel
theorem dX11_isSingle_81 : decode cX11_isSingle 81 = .ok (.iload_n 1, 1) := by decide +kernel
theorem dX11_isSingle_82 : decode cX11_isSingle 82 = .ok (.if_icmp .eq 25, 3) := by decide +kernel
theorem dX11_isSingle_85 : decode cX11_isSingle 85 = .ok (.aload_n 0, 1) := by decide +kernel
theorem dX11_isSingle_86 : decode cX11_isSingle 86 = .ok (.iload 6, 2) := by decide +kernel
theorem dX11_isSingle_88 : decode cX11_isSingle 88 = .ok (.iload_n 1, 1) := by decide +kernel
theorem dX11_isSingle_89 : decode cX11_isSingle 89 = .ok (.iload 4, 2) := by decide +kernel
theorem dX11_isSingle_91 : decode cX11_isSingle 91 = .ok (.invokevirtual 95, 3) := by decide +kernel
theorem dX11_isSingle_94 : decode cX11_isSingle 94 = .ok (.ifCond .eq 13, 3) := by decide +kernel
theorem dX11_isSingle_97 : decode cX11_isSingle 97 = .ok (.aload_n 0, 1) := by decide +kernel
theorem dX11_isSingle_98 : decode cX11_isSingle 98 = .ok (.iload 6, 2) := by decide +kernel
theorem dX11_isSingle_100 : decode cX11_isSingle 100 = .ok (.iload_n 2, 1) := by decide +kernel
theorem dX11_isSingle_101 : decode cX11_isSingle 101 = .ok (.invokevirtual 92, 3) := by decide +kernel
theorem dX11_isSingle_104 : decode cX11_isSingle 104 = .ok (.ifCond .ne 7, 3) := by decide +kernel
theorem dX11_isSingle_107 : decode cX11_isSingle 107 = .ok (.iconst 1, 1) := by decide +kernel
theorem dX11_isSingle_108 : decode cX11_isSingle 108 = .ok (.goto 4, 3) := by decide +kernel
theorem dX11_isSingle_111 : decode cX11_isSingle 111 = .ok (.iconst 0, 1) := by decide +kernel
theorem dX11_isSingle_112 : decode cX11_isSingle 112 = .ok (.istore 5, 2) := by decide +kernel
theorem dX11_isSingle_114 : decode cX11_isSingle 114 = .ok (.iinc 6 1, 3) := by decide +kernel
theorem dX11_isSingle_117 : decode cX11_isSingle 117 = .ok (.goto (-52), 3) := by decide +kernel
theorem dX11_isSingle_120 : decode cX11_isSingle 120 = .ok (.iload 5, 2) := by decide +kernel
theorem dX11_isSingle_122 : decode cX11_isSingle 122 = .ok (.istore_n 3, 1) := by decide +kernel
theorem dX11_isSingle_123 : decode cX11_isSingle 123 = .ok (.iinc 4 1, 3) := by decide +kernel
theorem dX11_isSingle_126 : decode cX11_isSingle 126 = .ok (.goto (-77), 3) := by decide +kernel
theorem dX11_isSingle_129 : decode cX11_isSingle 129 = .ok (.iload_n 3, 1) := by decide +kernel
theorem dX11_isSingle_130 : decode cX11_isSingle 130 = .ok (.ireturn, 1) := by decide +kernel
set_option maxRecDepth 20000 in
theorem ggX11_countLeft_X11_cells : GoodIn wsX11_countLeft wsX11_cells := goodIn_r _ [8, 3, 27, 28, 29, 30, 31, 32, 33, 34, 35, 36, 37, 38, 39, 40, 41, 42, 43, 44, 45, 46, 47, 48] (by decide +kernel) (by decide +kernel)
set_option maxRecDepth 20000 in
theorem gX11_countLeft_X11_cells : GoodIn wsX11_countLeft (wsV RX11 57 RX11 yX11_cells wsX11_cells) := goodIn_app (goodIn_of _ (by decide +kernel)) ggX11_countLeft_X11_cells
set_option maxRecDepth 20000 in
theorem ggX11_countLeft_X11_may : GoodIn wsX11_countLeft wsX11_may := goodIn_r _ [12, 1, 4, 5, 6, 7, 8, 3, 13, 14, 15, 16, 17, 18, 27, 28, 29, 30, 31, 32, 33, 34, 35, 36, 37, 38, 39, 40, 41, 42, 43, 44, 45, 46, 47, 48] (by decide +kernel) (by decide +kernel)
set_option maxRecDepth 20000 in
theorem gX11_countLeft_X11_may : GoodIn wsX11_countLeft (wsV RX11 92 RX11 yX11_may wsX11_may) := goodIn_app (goodIn_of _ (by decide +kernel)) ggX11_countLeft_X11_may
set_option maxRecDepth 20000 in
theorem ggX11_countLeft_X11_isSingle : GoodIn wsX11_countLeft wsX11_isSingle := goodIn_r _ [22, 3, 9, 10, 11, 7, 12, 1, 4, 5, 6, 8, 13, 14, 15, 16, 17, 18, 23, 24, 25, 26, 27, 28, 29, 30, 31, 32, 33, 34, 35, 36, 37, 38, 39, 40, 41, 42, 43, 44, 45, 46, 47, 48] (by decide +kernel) (by decide +kernel)
set_option maxRecDepth 20000 in
theorem gX11_countLeft_X11_isSingle : GoodIn wsX11_countLeft (wsV RX11 99 RX11 yX11_isSingle wsX11_isSingle) := goodIn_app (goodIn_of _ (by decide +kernel)) ggX11_countLeft_X11_isSingle
theorem dX11_countLeft_0 : decode cX11_countLeft 0 = .ok (.iconst 0, 1) := by decide +kernel
theorem dX11_countLeft_1 : decode cX11_countLeft 1 = .ok (.istore_n 1, 1) := by decide +kernel
theorem dX11_countLeft_2 : decode cX11_countLeft 2 = .ok (.iload_n 1, 1) := by decide +kernel
theorem dX11_countLeft_3 : decode cX11_countLeft 3 = .ok (.bipush 36, 2) := by decide +kernel
theorem dX11_countLeft_5 : decode cX11_countLeft 5 = .ok (.if_icmp .ge 33, 3) := by decide +kernel
theorem dX11_countLeft_8 : decode cX11_countLeft 8 = .ok (.aload_n 0, 1) := by decide +kernel
theorem dX11_countLeft_9 : decode cX11_countLeft 9 = .ok (.getfield 36, 3) := by decide +kernel
theorem dX11_countLeft_12 : decode cX11_countLeft 12 = .ok (.iload_n 1, 1) := by decide +kernel
theorem dX11_countLeft_13 : decode cX11_countLeft 13 = .ok (.iload_n 1, 1) := by decide +kernel
theorem dX11_countLeft_14 : decode cX11_countLeft 14 = .ok (.aload_n 0, 1) := by decide +kernel
theorem dX11_countLeft_15 : decode cX11_countLeft 15 = .ok (.invokevirtual 57, 3) := by decide +kernel
theorem dX11_countLeft_18 : decode cX11_countLeft 18 = .ok (.if_icmp .ge 12, 3) := by decide +kernel
theorem dX11_countLeft_21 : decode cX11_countLeft 21 = .ok (.aload_n 0, 1) := by decide +kernel
theorem dX11_countLeft_22 : decode cX11_countLeft 22 = .ok (.getfield 27, 3) := by decide +kernel
theorem dX11_countLeft_25 : decode cX11_countLeft 25 = .ok (.iload_n 1, 1) := by decide +kernel
theorem dX11_countLeft_26 : decode cX11_countLeft 26 = .ok (.iaload, 1) := by decide +kernel
theorem dX11_countLeft_27 : decode cX11_countLeft 27 = .ok (.goto 4, 3) := by decide +kernel
theorem dX11_countLeft_30 : decode cX11_countLeft 30 = .ok (.iconst (-1), 1) := by decide +kernel
theorem dX11_countLeft_31 : decode cX11_countLeft 31 = .ok (.iastore, 1) := by decide +kernel
theorem dX11_countLeft_32 : decode cX11_countLeft 32 = .ok (.iinc 1 1, 3) := by decide +kernel
theorem dX11_countLeft_35 : decode cX11_countLeft 35 = .ok (.goto (-33), 3) := by decide +kernel
theorem dX11_countLeft_38 : decode cX11_countLeft 38 = .ok (.iconst 1, 1) := by decide +kernel
theorem dX11_countLeft_39 : decode cX11_countLeft 39 = .ok (.istore_n 1, 1) := by decide +kernel
theorem dX11_countLeft_40 : decode cX11_countLeft 40 = .ok (.iload_n 1, 1) := by decide +kernel
theorem dX11_countLeft_41 : decode cX11_countLeft 41 = .ok (.ifCond .eq 70, 3) := by decide +kernel
theorem dX11_countLeft_44 : decode cX11_countLeft 44 = .ok (.iconst 0, 1) := by decide +kernel
theorem dX11_countLeft_45 : decode cX11_countLeft 45 = .ok (.istore_n 1, 1) := by decide +kernel
theorem dX11_countLeft_46 : decode cX11_countLeft 46 = .ok (.iconst 0, 1) := by decide +kernel
theorem dX11_countLeft_47 : decode cX11_countLeft 47 = .ok (.istore_n 2, 1) := by decide +kernel
theorem dX11_countLeft_48 : decode cX11_countLeft 48 = .ok (.iload_n 2, 1) := by decide +kernel
theorem dX11_countLeft_49 : decode cX11_countLeft 49 = .ok (.aload_n 0, 1) := by decide +kernel
theorem dX11_countLeft_50 : decode cX11_countLeft 50 = .ok (.invokevirtual 57, 3) := by decide +kernel
theorem dX11_countLeft_53 : decode cX11_countLeft 53 = .ok (.if_icmp .ge 55, 3) := by decide +kernel
theorem dX11_countLeft_56 : decode cX11_countLeft 56 = .ok (.iconst 0, 1) := by decide +kernel
theorem dX11_countLeft_57 : decode cX11_countLeft 57 = .ok (.istore_n 3, 1) := by decide +kernel
theorem dX11_countLeft_58 : decode cX11_countLeft 58 = .ok (.iload_n 3, 1) := by decide +kernel
theorem dX11_countLeft_59 : decode cX11_countLeft 59 = .ok (.aload_n 0, 1) := by decide +kernel
theorem dX11_countLeft_60 : decode cX11_countLeft 60 = .ok (.getfield 45, 3) := by decide +kernel
theorem dX11_countLeft_63 : decode cX11_countLeft 63 = .ok (.if_icmp .ge 39, 3) := by decide +kernel
theorem dX11_countLeft_66 : decode cX11_countLeft 66 = .ok (.aload_n 0, 1) := by decide +kernel
theorem dX11_countLeft_67 : decode cX11_countLeft 67 = .ok (.iload_n 2, 1) := by decide +kernel
theorem dX11_countLeft_68 : decode cX11_countLeft 68 = .ok (.iload_n 3, 1) := by decide +kernel
theorem dX11_countLeft_69 : decode cX11_countLeft 69 = .ok (.invokevirtual 92, 3) := by decide +kernel
theorem dX11_countLeft_72 : decode cX11_countLeft 72 = .ok (.ifCond .eq 24, 3) := by decide +kernel
theorem dX11_countLeft_75 : decode cX11_countLeft 75 = .ok (.aload_n 0, 1) := by decide +kernel
theorem dX11_countLeft_76 : decode cX11_countLeft 76 = .ok (.iload_n 2, 1) := by decide +kernel
theorem dX11_countLeft_77 : decode cX11_countLeft 77 = .ok (.iload_n 3, 1) := by decide +kernel
theorem dX11_countLeft_78 : decode cX11_countLeft 78 = .ok (.invokevirtual 99, 3) := by decide +kernel
theorem dX11_countLeft_81 : decode cX11_countLeft 81 = .ok (.ifCond .ne 6, 3) := by decide +kernel
theorem dX11_countLeft_84 : decode cX11_countLeft 84 = .ok (.goto 12, 3) := by decide +kernel
theorem dX11_countLeft_87 : decode cX11_countLeft 87 = .ok (.aload_n 0, 1) := by decide +kernel
theorem dX11_countLeft_88 : decode cX11_countLeft 88 = .ok (.getfield 36, 3) := by decide +kernel
theorem dX11_countLeft_91 : decode cX11_countLeft 91 = .ok (.iload_n 2, 1) := by decide +kernel
theorem dX11_countLeft_92 : decode cX11_countLeft 92 = .ok (.iload_n 3, 1) := by decide +kernel
theorem dX11_countLeft_93 : decode cX11_countLeft 93 = .ok (.iastore, 1) := by decide +kernel
theorem dX11_countLeft_94 : decode cX11_countLeft 94 = .ok (.iconst 1, 1) := by decide +kernel
theorem dX11_countLeft_95 : decode cX11_countLeft 95 = .ok (.istore_n 1, 1) := by decide +kernel
theorem dX11_countLeft_96 : decode cX11_countLeft 96 = .ok (.iinc 3 1, 3) := by decide +kernel
theorem dX11_countLeft_99 : decode cX11_countLeft 99 = .ok (.goto (-41), 3) := by decide +kernel
theorem dX11_countLeft_102 : decode cX11_countLeft 102 = .ok (.iinc 2 1, 3) := by decide +kernel
theorem dX11_countLeft_105 : decode cX11_countLeft 105 = .ok (.goto (-57), 3) := by decide +kernel
theorem dX11_countLeft_108 : decode cX11_countLeft 108 = .ok (.goto (-68), 3) := by decide +kernel
theorem dX11_countLeft_111 : decode cX11_countLeft 111 = .ok (.iconst 0, 1) := by decide +kernel
theorem dX11_countLeft_112 : decode cX11_countLeft 112 = .ok (.istore_n 2, 1) := by decide +kernel
theorem dX11_countLeft_113 : decode cX11_countLeft 113 = .ok (.iconst 0, 1) := by decide +kernel
theorem dX11_countLeft_114 : decode cX11_countLeft 114 = .ok (.istore_n 3, 1) := by decide +kernel
theorem dX11_countLeft_115 : decode cX11_countLeft 115 = .ok (.iload_n 3, 1) := by decide +kernel
theorem dX11_countLeft_116 : decode cX11_countLeft 116 = .ok (.aload_n 0, 1) := by decide +kernel
theorem dX11_countLeft_117 : decode cX11_countLeft 117 = .ok (.invokevirtual 57, 3) := by decide +kernel
theorem dX11_countLeft_120 : decode cX11_countLeft 120 = .ok (.if_icmp .ge 26, 3) := by decide +kernel
theorem dX11_countLeft_123 : decode cX11_countLeft 123 = .ok (.iload_n 2, 1) := by decide +kernel
theorem dX11_countLeft_124 : decode cX11_countLeft 124 = .ok (.aload_n 0, 1) := by decide +kernel
theorem dX11_countLeft_125 : decode cX11_countLeft 125 = .ok (.getfield 36, 3) := by decide +kernel
theorem dX11_countLeft_128 : decode cX11_countLeft 128 = .ok (.iload_n 3, 1) := by decide +kernel
theorem dX11_countLeft_129 : decode cX11_countLeft 129 = .ok (.iaload, 1) := by decide +kernel
theorem dX11_countLeft_130 : decode cX11_countLeft 130 = .ok (.ifCond .ge 7, 3) := by decide +kernel
theorem dX11_countLeft_133 : decode cX11_countLeft 133 = .ok (.iconst 1, 1) := by decide +kernel
theorem dX11_countLeft_134 : decode cX11_countLeft 134 = .ok (.goto 4, 3) := by decide +kernel
theorem dX11_countLeft_137 : decode cX11_countLeft 137 = .ok (.iconst 0, 1) := by decide +kernel
theorem dX11_countLeft_138 : decode cX11_countLeft 138 = .ok (.iadd, 1) := by decide +kernel
theorem dX11_countLeft_139 : decode cX11_countLeft 139 = .ok (.istore_n 2, 1) := by decide +kernel
theorem dX11_countLeft_140 : decode cX11_countLeft 140 = .ok (.iinc 3 1, 3) := by decide +kernel
theorem dX11_countLeft_143 : decode cX11_countLeft 143 = .ok (.goto (-28), 3) := by decide +kernel
theorem dX11_countLeft_146 : decode cX11_countLeft 146 = .ok (.iload_n 2, 1) := by decide +kernel
theorem dX11_countLeft_147 : decode cX11_countLeft 147 = .ok (.ireturn, 1) := by decide +kernel
theorem dX11_below_0 : decode cX11_below 0 = .ok (.aload_n 0, 1) := by decide +kernel
theorem dX11_below_1 : decode cX11_below 1 = .ok (.aload_n 0, 1) := by decide +kernel
theorem dX11_below_2 : decode cX11_below 2 = .ok (.getfield 102, 3) := by decide +kernel
theorem dX11_below_5 : decode cX11_below 5 = .ok (.ldc2_w 106, 3) := by decide +kernel
theorem dX11_below_8 : decode cX11_below 8 = .ok (.lmul, 1) := by decide +kernel
theorem dX11_below_9 : decode cX11_below 9 = .ok (.ldc2_w 108, 3) := by decide +kernel
theorem dX11_below_12 : decode cX11_below 12 = .ok (.ladd, 1) := by decide +kernel
theorem dX11_below_13 : decode cX11_below 13 = .ok (.putfield 102, 3) := by decide +kernel
theorem dX11_below_16 : decode cX11_below 16 = .ok (.aload_n 0, 1) := by decide +kernel
theorem dX11_below_17 : decode cX11_below 17 = .ok (.getfield 102, 3) := by decide +kernel
theorem dX11_below_20 : decode cX11_below 20 = .ok (.bipush 33, 2) := by decide +kernel
theorem dX11_below_22 : decode cX11_below 22 = .ok (.lushr, 1) := by decide +kernel
theorem dX11_below_23 : decode cX11_below 23 = .ok (.iload_n 1, 1) := by decide +kernel
theorem dX11_below_24 : decode cX11_below 24 = .ok (.i2l, 1) := by decide +kernel
theorem dX11_below_25 : decode cX11_below 25 = .ok (.lrem, 1) := by decide +kernel
theorem dX11_below_26 : decode cX11_below 26 = .ok (.l2i, 1) := by decide +kernel
theorem dX11_below_27 : decode cX11_below 27 = .ok (.ireturn, 1) := by decide +kernel
set_option maxRecDepth 20000 in
theorem ggX11_mayDraw_X11_cells : GoodIn wsX11_mayDraw wsX11_cells := goodIn_r _ [6, 7, 14, 15, 16, 17, 18, 19, 20, 21, 22, 23, 24, 25, 26, 27, 28, 29, 30, 31, 32, 33, 34, 35] (by decide +kernel) (by decide +kernel)
set_option maxRecDepth 20000 in
theorem gX11_mayDraw_X11_cells : GoodIn wsX11_mayDraw (wsV RX11 57 RX11 yX11_cells wsX11_cells) := goodIn_app (goodIn_of _ (by decide +kernel)) ggX11_mayDraw_X11_cells
set_option maxRecDepth 20000 in
theorem ggX11_mayDraw_X11_sees : GoodIn wsX11_mayDraw wsX11_sees := goodIn_r _ [11, 7, 12, 13, 14, 15, 16, 17, 18, 19, 20, 21, 22, 23, 24, 25, 26, 27, 28, 29, 30, 31, 32, 33, 34, 35] (by decide +kernel) (by decide +kernel)
set_option maxRecDepth 20000 in
theorem gX11_mayDraw_X11_sees : GoodIn wsX11_mayDraw (wsV RX11 85 RX11 yX11_sees wsX11_sees) := goodIn_app (goodIn_of _ (by decide +kernel)) ggX11_mayDraw_X11_sees
theorem dX11_mayDraw_0 : decode cX11_mayDraw 0 = .ok (.iconst 0, 1) := by decide +kernel
theorem dX11_mayDraw_1 : decode cX11_mayDraw 1 = .ok (.istore_n 3, 1) := by decide +kernel
theorem dX11_mayDraw_2 : decode cX11_mayDraw 2 = .ok (.iload_n 3, 1) := by decide +kernel
theorem dX11_mayDraw_3 : decode cX11_mayDraw 3 = .ok (.aload_n 0, 1) := by decide +kernel
theorem dX11_mayDraw_4 : decode cX11_mayDraw 4 = .ok (.invokevirtual 57, 3) := by decide +kernel
theorem dX11_mayDraw_7 : decode cX11_mayDraw 7 = .ok (.if_icmp .ge 30, 3) := by decide +kernel
theorem dX11_mayDraw_10 : decode cX11_mayDraw 10 = .ok (.aload_n 0, 1) := by decide +kernel
theorem dX11_mayDraw_11 : decode cX11_mayDraw 11 = .ok (.getfield 30, 3) := by decide +kernel
theorem dX11_mayDraw_14 : decode cX11_mayDraw 14 = .ok (.iload_n 3, 1) := by decide +kernel
theorem dX11_mayDraw_15 : decode cX11_mayDraw 15 = .ok (.iaload, 1) := by decide +kernel
theorem dX11_mayDraw_16 : decode cX11_mayDraw 16 = .ok (.iload_n 2, 1) := by decide +kernel
theorem dX11_mayDraw_17 : decode cX11_mayDraw 17 = .ok (.if_icmp .ne 14, 3) := by decide +kernel
theorem dX11_mayDraw_20 : decode cX11_mayDraw 20 = .ok (.aload_n 0, 1) := by decide +kernel
theorem dX11_mayDraw_21 : decode cX11_mayDraw 21 = .ok (.iload_n 3, 1) := by decide +kernel
theorem dX11_mayDraw_22 : decode cX11_mayDraw 22 = .ok (.iload_n 1, 1) := by decide +kernel
theorem dX11_mayDraw_23 : decode cX11_mayDraw 23 = .ok (.invokevirtual 85, 3) := by decide +kernel
theorem dX11_mayDraw_26 : decode cX11_mayDraw 26 = .ok (.ifCond .eq 5, 3) := by decide +kernel
theorem dX11_mayDraw_29 : decode cX11_mayDraw 29 = .ok (.iconst 0, 1) := by decide +kernel
theorem dX11_mayDraw_30 : decode cX11_mayDraw 30 = .ok (.ireturn, 1) := by decide +kernel
theorem dX11_mayDraw_31 : decode cX11_mayDraw 31 = .ok (.iinc 3 1, 3) := by decide +kernel
theorem dX11_mayDraw_34 : decode cX11_mayDraw 34 = .ok (.goto (-32), 3) := by decide +kernel
theorem dX11_mayDraw_37 : decode cX11_mayDraw 37 = .ok (.iconst 1, 1) := by decide +kernel
theorem dX11_mayDraw_38 : decode cX11_mayDraw 38 = .ok (.ireturn, 1) := by decide +kernel
set_option maxRecDepth 20000 in
theorem ggX11_countDraw_X11_mayDraw : GoodIn wsX11_countDraw wsX11_mayDraw := goodIn_r _ [6, 7, 8, 9, 10, 5, 11, 1, 12, 13, 14, 15, 16, 17, 18, 19, 20, 21, 22, 23, 24, 25, 26, 27, 28, 29, 30, 31, 32, 33, 34, 35, 36, 37, 38, 39] (by decide +kernel) (by decide +kernel)
set_option maxRecDepth 20000 in
theorem gX11_countDraw_X11_mayDraw : GoodIn wsX11_countDraw (wsV RX11 110 RX11 yX11_mayDraw wsX11_mayDraw) := goodIn_app (goodIn_of _ (by decide +kernel)) ggX11_countDraw_X11_mayDraw
theorem dX11_countDraw_0 : decode cX11_countDraw 0 = .ok (.iconst 0, 1) := by decide +kernel
theorem dX11_countDraw_1 : decode cX11_countDraw 1 = .ok (.istore_n 2, 1) := by decide +kernel
theorem dX11_countDraw_2 : decode cX11_countDraw 2 = .ok (.iconst 0, 1) := by decide +kernel
theorem dX11_countDraw_3 : decode cX11_countDraw 3 = .ok (.istore_n 3, 1) := by decide +kernel
theorem dX11_countDraw_4 : decode cX11_countDraw 4 = .ok (.iload_n 3, 1) := by decide +kernel
theorem dX11_countDraw_5 : decode cX11_countDraw 5 = .ok (.aload_n 0, 1) := by decide +kernel
theorem dX11_countDraw_6 : decode cX11_countDraw 6 = .ok (.getfield 45, 3) := by decide +kernel
theorem dX11_countDraw_9 : decode cX11_countDraw 9 = .ok (.if_icmp .ge 26, 3) := by decide +kernel
theorem dX11_countDraw_12 : decode cX11_countDraw 12 = .ok (.iload_n 2, 1) := by decide +kernel
theorem dX11_countDraw_13 : decode cX11_countDraw 13 = .ok (.aload_n 0, 1) := by decide +kernel
theorem dX11_countDraw_14 : decode cX11_countDraw 14 = .ok (.iload_n 1, 1) := by decide +kernel
theorem dX11_countDraw_15 : decode cX11_countDraw 15 = .ok (.iload_n 3, 1) := by decide +kernel
theorem dX11_countDraw_16 : decode cX11_countDraw 16 = .ok (.invokevirtual 110, 3) := by decide +kernel
theorem dX11_countDraw_19 : decode cX11_countDraw 19 = .ok (.ifCond .eq 7, 3) := by decide +kernel
theorem dX11_countDraw_22 : decode cX11_countDraw 22 = .ok (.iconst 1, 1) := by decide +kernel
theorem dX11_countDraw_23 : decode cX11_countDraw 23 = .ok (.goto 4, 3) := by decide +kernel
theorem dX11_countDraw_26 : decode cX11_countDraw 26 = .ok (.iconst 0, 1) := by decide +kernel
theorem dX11_countDraw_27 : decode cX11_countDraw 27 = .ok (.iadd, 1) := by decide +kernel
theorem dX11_countDraw_28 : decode cX11_countDraw 28 = .ok (.istore_n 2, 1) := by decide +kernel
theorem dX11_countDraw_29 : decode cX11_countDraw 29 = .ok (.iinc 3 1, 3) := by decide +kernel
theorem dX11_countDraw_32 : decode cX11_countDraw 32 = .ok (.goto (-28), 3) := by decide +kernel
theorem dX11_countDraw_35 : decode cX11_countDraw 35 = .ok (.iload_n 2, 1) := by decide +kernel
theorem dX11_countDraw_36 : decode cX11_countDraw 36 = .ok (.ireturn, 1) := by decide +kernel
theorem dX11_empty_0 : decode cX11_empty 0 = .ok (.iconst 0, 1) := by decide +kernel
theorem dX11_empty_1 : decode cX11_empty 1 = .ok (.istore_n 1, 1) := by decide +kernel
theorem dX11_empty_2 : decode cX11_empty 2 = .ok (.iload_n 1, 1) := by decide +kernel
theorem dX11_empty_3 : decode cX11_empty 3 = .ok (.bipush 36, 2) := by decide +kernel
theorem dX11_empty_5 : decode cX11_empty 5 = .ok (.if_icmp .ge 16, 3) := by decide +kernel
theorem dX11_empty_8 : decode cX11_empty 8 = .ok (.aload_n 0, 1) := by decide +kernel
theorem dX11_empty_9 : decode cX11_empty 9 = .ok (.getfield 30, 3) := by decide +kernel
theorem dX11_empty_12 : decode cX11_empty 12 = .ok (.iload_n 1, 1) := by decide +kernel
theorem dX11_empty_13 : decode cX11_empty 13 = .ok (.iconst (-1), 1) := by decide +kernel
theorem dX11_empty_14 : decode cX11_empty 14 = .ok (.iastore, 1) := by decide +kernel
theorem dX11_empty_15 : decode cX11_empty 15 = .ok (.iinc 1 1, 3) := by decide +kernel
theorem dX11_empty_18 : decode cX11_empty 18 = .ok (.goto (-16), 3) := by decide +kernel
theorem dX11_empty_21 : decode cX11_empty 21 = .ok (.return_, 1) := by decide +kernel
set_option maxRecDepth 20000 in
theorem ggX11_draw_X11_empty : GoodIn wsX11_draw wsX11_empty := goodIn_r _ [8, 2, 34, 35, 36, 37, 38, 39, 40, 41, 42, 43, 44, 45, 46, 47, 48, 49, 50, 51, 52, 53, 54, 55] (by decide +kernel) (by decide +kernel)
set_option maxRecDepth 20000 in
theorem gX11_draw_X11_empty : GoodIn wsX11_draw (wsV RX11 113 RX11 yX11_empty wsX11_empty) := goodIn_app (goodIn_of _ (by decide +kernel)) ggX11_draw_X11_empty
set_option maxRecDepth 20000 in
theorem ggX11_draw_X11_cells : GoodIn wsX11_draw wsX11_cells := goodIn_r _ [12, 1, 34, 35, 36, 37, 38, 39, 40, 41, 42, 43, 44, 45, 46, 47, 48, 49, 50, 51, 52, 53, 54, 55] (by decide +kernel) (by decide +kernel)
set_option maxRecDepth 20000 in
theorem gX11_draw_X11_cells : GoodIn wsX11_draw (wsV RX11 57 RX11 yX11_cells wsX11_cells) := goodIn_app (goodIn_of _ (by decide +kernel)) ggX11_draw_X11_cells
set_option maxRecDepth 20000 in
theorem ggX11_draw_X11_countDraw : GoodIn wsX11_draw wsX11_countDraw := goodIn_r _ [16, 1, 17, 18, 19, 7, 20, 2, 9, 10, 11, 12, 21, 22, 23, 24, 25, 26, 34, 35, 36, 37, 38, 39, 40, 41, 42, 43, 44, 45, 46, 47, 48, 49, 50, 51, 52, 53, 54, 55] (by decide +kernel) (by decide +kernel)
set_option maxRecDepth 20000 in
theorem gX11_draw_X11_countDraw : GoodIn wsX11_draw (wsV RX11 116 RX11 yX11_countDraw wsX11_countDraw) := goodIn_app (goodIn_of _ (by decide +kernel)) ggX11_draw_X11_countDraw
set_option maxRecDepth 20000 in
theorem ggX11_draw_X11_below : GoodIn wsX11_draw wsX11_below := goodIn_r _ [30, 31, 32, 33, 34, 35, 36, 37, 38, 39, 40, 41, 42, 43, 44, 45, 46, 47, 48, 49, 50, 51, 52, 53, 54, 55] (by decide +kernel) (by decide +kernel)
set_option maxRecDepth 20000 in
theorem gX11_draw_X11_below : GoodIn wsX11_draw (wsV RX11 119 RX11 yX11_below wsX11_below) := goodIn_app (goodIn_of _ (by decide +kernel)) ggX11_draw_X11_below
set_option maxRecDepth 20000 in
theorem ggX11_draw_X11_mayDraw : GoodIn wsX11_draw wsX11_mayDraw := goodIn_r _ [20, 2, 9, 10, 11, 7, 12, 1, 21, 22, 23, 24, 25, 26, 34, 35, 36, 37, 38, 39, 40, 41, 42, 43, 44, 45, 46, 47, 48, 49, 50, 51, 52, 53, 54, 55] (by decide +kernel) (by decide +kernel)
set_option maxRecDepth 20000 in
theorem gX11_draw_X11_mayDraw : GoodIn wsX11_draw (wsV RX11 110 RX11 yX11_mayDraw wsX11_mayDraw) := goodIn_app (goodIn_of _ (by decide +kernel)) ggX11_draw_X11_mayDraw
theorem dX11_draw_0 : decode cX11_draw 0 = .ok (.iconst 0, 1) := by decide +kernel
theorem dX11_draw_1 : decode cX11_draw 1 = .ok (.istore_n 1, 1) := by decide +kernel
theorem dX11_draw_2 : decode cX11_draw 2 = .ok (.iconst 0, 1) := by decide +kernel
theorem dX11_draw_3 : decode cX11_draw 3 = .ok (.istore_n 2, 1) := by decide +kernel
theorem dX11_draw_4 : decode cX11_draw 4 = .ok (.aload_n 0, 1) := by decide +kernel
theorem dX11_draw_5 : decode cX11_draw 5 = .ok (.invokevirtual 113, 3) := by decide +kernel
theorem dX11_draw_8 : decode cX11_draw 8 = .ok (.iload_n 2, 1) := by decide +kernel
theorem dX11_draw_9 : decode cX11_draw 9 = .ok (.aload_n 0, 1) := by decide +kernel
theorem dX11_draw_10 : decode cX11_draw 10 = .ok (.invokevirtual 57, 3) := by decide +kernel
theorem dX11_draw_13 : decode cX11_draw 13 = .ok (.if_icmp .ge 168, 3) := by decide +kernel
theorem dX11_draw_16 : decode cX11_draw 16 = .ok (.iconst (-1), 1) := by decide +kernel
theorem dX11_draw_17 : decode cX11_draw 17 = .ok (.istore_n 3, 1) := by decide +kernel
theorem dX11_draw_18 : decode cX11_draw 18 = .ok (.aload_n 0, 1) := by decide +kernel
theorem dX11_draw_19 : decode cX11_draw 19 = .ok (.getfield 45, 3) := by decide +kernel
theorem dX11_draw_22 : decode cX11_draw 22 = .ok (.iconst 1, 1) := by decide +kernel
theorem dX11_draw_23 : decode cX11_draw 23 = .ok (.iadd, 1) := by decide +kernel
theorem dX11_draw_24 : decode cX11_draw 24 = .ok (.istore 4, 2) := by decide +kernel
theorem dX11_draw_26 : decode cX11_draw 26 = .ok (.iconst 0, 1) := by decide +kernel
theorem dX11_draw_27 : decode cX11_draw 27 = .ok (.istore 5, 2) := by decide +kernel
theorem dX11_draw_29 : decode cX11_draw 29 = .ok (.iload 5, 2) := by decide +kernel
theorem dX11_draw_31 : decode cX11_draw 31 = .ok (.aload_n 0, 1) := by decide +kernel
theorem dX11_draw_32 : decode cX11_draw 32 = .ok (.invokevirtual 57, 3) := by decide +kernel
theorem dX11_draw_35 : decode cX11_draw 35 = .ok (.if_icmp .ge 44, 3) := by decide +kernel
theorem dX11_draw_38 : decode cX11_draw 38 = .ok (.aload_n 0, 1) := by decide +kernel
theorem dX11_draw_39 : decode cX11_draw 39 = .ok (.getfield 30, 3) := by decide +kernel
theorem dX11_draw_42 : decode cX11_draw 42 = .ok (.iload 5, 2) := by decide +kernel
theorem dX11_draw_44 : decode cX11_draw 44 = .ok (.iaload, 1) := by decide +kernel
theorem dX11_draw_45 : decode cX11_draw 45 = .ok (.ifCond .ge 28, 3) := by decide +kernel
theorem dX11_draw_48 : decode cX11_draw 48 = .ok (.aload_n 0, 1) := by decide +kernel
theorem dX11_draw_49 : decode cX11_draw 49 = .ok (.iload 5, 2) := by decide +kernel
theorem dX11_draw_51 : decode cX11_draw 51 = .ok (.invokevirtual 116, 3) := by decide +kernel
theorem dX11_draw_54 : decode cX11_draw 54 = .ok (.iload 4, 2) := by decide +kernel
theorem dX11_draw_56 : decode cX11_draw 56 = .ok (.if_icmp .lt 6, 3) := by decide +kernel
theorem dX11_draw_59 : decode cX11_draw 59 = .ok (.goto 14, 3) := by decide +kernel
theorem dX11_draw_62 : decode cX11_draw 62 = .ok (.iload 5, 2) := by decide +kernel
theorem dX11_draw_64 : decode cX11_draw 64 = .ok (.istore_n 3, 1) := by decide +kernel
theorem dX11_draw_65 : decode cX11_draw 65 = .ok (.aload_n 0, 1) := by decide +kernel
theorem dX11_draw_66 : decode cX11_draw 66 = .ok (.iload 5, 2) := by decide +kernel
theorem dX11_draw_68 : decode cX11_draw 68 = .ok (.invokevirtual 116, 3) := by decide +kernel
theorem dX11_draw_71 : decode cX11_draw 71 = .ok (.istore 4, 2) := by decide +kernel
theorem dX11_draw_73 : decode cX11_draw 73 = .ok (.iinc 5 1, 3) := by decide +kernel
theorem dX11_draw_76 : decode cX11_draw 76 = .ok (.goto (-47), 3) := by decide +kernel
theorem dX11_draw_79 : decode cX11_draw 79 = .ok (.iload 4, 2) := by decide +kernel
theorem dX11_draw_81 : decode cX11_draw 81 = .ok (.ifCond .ne 34, 3) := by decide +kernel
theorem dX11_draw_84 : decode cX11_draw 84 = .ok (.iinc 1 1, 3) := by decide +kernel
theorem dX11_draw_87 : decode cX11_draw 87 = .ok (.aload_n 0, 1) := by decide +kernel
theorem dX11_draw_88 : decode cX11_draw 88 = .ok (.getfield 18, 3) := by decide +kernel
theorem dX11_draw_91 : decode cX11_draw 91 = .ok (.iconst 1, 1) := by decide +kernel
theorem dX11_draw_92 : decode cX11_draw 92 = .ok (.dup2, 1) := by decide +kernel
theorem dX11_draw_93 : decode cX11_draw 93 = .ok (.iaload, 1) := by decide +kernel
theorem dX11_draw_94 : decode cX11_draw 94 = .ok (.iconst 1, 1) := by decide +kernel
theorem dX11_draw_95 : decode cX11_draw 95 = .ok (.iadd, 1) := by decide +kernel
theorem dX11_draw_96 : decode cX11_draw 96 = .ok (.iastore, 1) := by decide +kernel
theorem dX11_draw_97 : decode cX11_draw 97 = .ok (.iload_n 1, 1) := by decide +kernel
theorem dX11_draw_98 : decode cX11_draw 98 = .ok (.sipush 200, 3) := by decide +kernel
theorem dX11_draw_101 : decode cX11_draw 101 = .ok (.if_icmp .ne 5, 3) := by decide +kernel
theorem dX11_draw_104 : decode cX11_draw 104 = .ok (.iconst 0, 1) := by decide +kernel
theorem dX11_draw_105 : decode cX11_draw 105 = .ok (.ireturn, 1) := by decide +kernel
theorem dX11_draw_106 : decode cX11_draw 106 = .ok (.aload_n 0, 1) := by decide +kernel
theorem dX11_draw_107 : decode cX11_draw 107 = .ok (.invokevirtual 113, 3) := by decide +kernel
theorem dX11_draw_110 : decode cX11_draw 110 = .ok (.iconst 0, 1) := by decide +kernel
theorem dX11_draw_111 : decode cX11_draw 111 = .ok (.istore_n 2, 1) := by decide +kernel
theorem dX11_draw_112 : decode cX11_draw 112 = .ok (.goto (-104), 3) := by decide +kernel
theorem dX11_draw_115 : decode cX11_draw 115 = .ok (.aload_n 0, 1) := by decide +kernel
theorem dX11_draw_116 : decode cX11_draw 116 = .ok (.iload 4, 2) := by decide +kernel
theorem dX11_draw_118 : decode cX11_draw 118 = .ok (.invokevirtual 119, 3) := by decide +kernel
theorem dX11_draw_121 : decode cX11_draw 121 = .ok (.istore 5, 2) := by decide +kernel
theorem dX11_draw_123 : decode cX11_draw 123 = .ok (.iconst 0, 1) := by decide +kernel
theorem dX11_draw_124 : decode cX11_draw 124 = .ok (.istore 6, 2) := by decide +kernel
theorem dX11_draw_126 : decode cX11_draw 126 = .ok (.aload_n 0, 1) := by decide +kernel
theorem dX11_draw_127 : decode cX11_draw 127 = .ok (.iload_n 3, 1) := by decide +kernel
theorem dX11_draw_128 : decode cX11_draw 128 = .ok (.iload 6, 2) := by decide +kernel
theorem dX11_draw_130 : decode cX11_draw 130 = .ok (.invokevirtual 110, 3) := by decide +kernel
theorem dX11_draw_133 : decode cX11_draw 133 = .ok (.ifCond .eq 8, 3) := by decide +kernel
theorem dX11_draw_136 : decode cX11_draw 136 = .ok (.iload 5, 2) := by decide +kernel
theorem dX11_draw_138 : decode cX11_draw 138 = .ok (.ifCond .le 29, 3) := by decide +kernel
theorem dX11_draw_141 : decode cX11_draw 141 = .ok (.iload 5, 2) := by decide +kernel
theorem dX11_draw_143 : decode cX11_draw 143 = .ok (.aload_n 0, 1) := by decide +kernel
theorem dX11_draw_144 : decode cX11_draw 144 = .ok (.iload_n 3, 1) := by decide +kernel
theorem dX11_draw_145 : decode cX11_draw 145 = .ok (.iload 6, 2) := by decide +kernel
theorem dX11_draw_147 : decode cX11_draw 147 = .ok (.invokevirtual 110, 3) := by decide +kernel
theorem dX11_draw_150 : decode cX11_draw 150 = .ok (.ifCond .eq 7, 3) := by decide +kernel
theorem dX11_draw_153 : decode cX11_draw 153 = .ok (.iconst 1, 1) := by decide +kernel
theorem dX11_draw_154 : decode cX11_draw 154 = .ok (.goto 4, 3) := by decide +kernel
theorem dX11_draw_157 : decode cX11_draw 157 = .ok (.iconst 0, 1) := by decide +kernel
theorem dX11_draw_158 : decode cX11_draw 158 = .ok (.isub, 1) := by decide +kernel
theorem dX11_draw_159 : decode cX11_draw 159 = .ok (.istore 5, 2) := by decide +kernel
theorem dX11_draw_161 : decode cX11_draw 161 = .ok (.iinc 6 1, 3) := by decide +kernel
theorem dX11_draw_164 : decode cX11_draw 164 = .ok (.goto (-38), 3) := by decide +kernel
theorem dX11_draw_167 : decode cX11_draw 167 = .ok (.aload_n 0, 1) := by decide +kernel
theorem dX11_draw_168 : decode cX11_draw 168 = .ok (.getfield 30, 3) := by decide +kernel
theorem dX11_draw_171 : decode cX11_draw 171 = .ok (.iload_n 3, 1) := by decide +kernel
theorem dX11_draw_172 : decode cX11_draw 172 = .ok (.iload 6, 2) := by decide +kernel
theorem dX11_draw_174 : decode cX11_draw 174 = .ok (.iastore, 1) := by decide +kernel
theorem dX11_draw_175 : decode cX11_draw 175 = .ok (.iinc 2 1, 3) := by decide +kernel
theorem dX11_draw_178 : decode cX11_draw 178 = .ok (.goto (-170), 3) := by decide +kernel
theorem dX11_draw_181 : decode cX11_draw 181 = .ok (.iconst 1, 1) := by decide +kernel
theorem dX11_draw_182 : decode cX11_draw 182 = .ok (.ireturn, 1) := by decide +kernel
set_option maxRecDepth 20000 in
theorem ggX11_countGivens_X11_cells : GoodIn wsX11_countGivens wsX11_cells := goodIn_r _ [6, 7, 8, 9, 10, 11, 12, 13, 14, 15, 16, 17, 18, 19, 20, 21, 22, 23, 24, 25, 26, 27, 28, 29] (by decide +kernel) (by decide +kernel)
set_option maxRecDepth 20000 in
theorem gX11_countGivens_X11_cells : GoodIn wsX11_countGivens (wsV RX11 57 RX11 yX11_cells wsX11_cells) := goodIn_app (goodIn_of _ (by decide +kernel)) ggX11_countGivens_X11_cells
theorem dX11_countGivens_0 : decode cX11_countGivens 0 = .ok (.iconst 0, 1) := by decide +kernel
theorem dX11_countGivens_1 : decode cX11_countGivens 1 = .ok (.istore_n 1, 1) := by decide +kernel
theorem dX11_countGivens_2 : decode cX11_countGivens 2 = .ok (.iconst 0, 1) := by decide +kernel
theorem dX11_countGivens_3 : decode cX11_countGivens 3 = .ok (.istore_n 2, 1) := by decide +kernel
theorem dX11_countGivens_4 : decode cX11_countGivens 4 = .ok (.iload_n 2, 1) := by decide +kernel
theorem dX11_countGivens_5 : decode cX11_countGivens 5 = .ok (.aload_n 0, 1) := by decide +kernel
theorem dX11_countGivens_6 : decode cX11_countGivens 6 = .ok (.invokevirtual 57, 3) := by decide +kernel
theorem dX11_countGivens_9 : decode cX11_countGivens 9 = .ok (.if_icmp .ge 26, 3) := by decide +kernel
theorem dX11_countGivens_12 : decode cX11_countGivens 12 = .ok (.iload_n 1, 1) := by decide +kernel
theorem dX11_countGivens_13 : decode cX11_countGivens 13 = .ok (.aload_n 0, 1) := by decide +kernel
theorem dX11_countGivens_14 : decode cX11_countGivens 14 = .ok (.getfield 27, 3) := by decide +kernel
theorem dX11_countGivens_17 : decode cX11_countGivens 17 = .ok (.iload_n 2, 1) := by decide +kernel
theorem dX11_countGivens_18 : decode cX11_countGivens 18 = .ok (.iaload, 1) := by decide +kernel
theorem dX11_countGivens_19 : decode cX11_countGivens 19 = .ok (.ifCond .lt 7, 3) := by decide +kernel
theorem dX11_countGivens_22 : decode cX11_countGivens 22 = .ok (.iconst 1, 1) := by decide +kernel
theorem dX11_countGivens_23 : decode cX11_countGivens 23 = .ok (.goto 4, 3) := by decide +kernel
theorem dX11_countGivens_26 : decode cX11_countGivens 26 = .ok (.iconst 0, 1) := by decide +kernel
theorem dX11_countGivens_27 : decode cX11_countGivens 27 = .ok (.iadd, 1) := by decide +kernel
theorem dX11_countGivens_28 : decode cX11_countGivens 28 = .ok (.istore_n 1, 1) := by decide +kernel
theorem dX11_countGivens_29 : decode cX11_countGivens 29 = .ok (.iinc 2 1, 3) := by decide +kernel
theorem dX11_countGivens_32 : decode cX11_countGivens 32 = .ok (.goto (-28), 3) := by decide +kernel
theorem dX11_countGivens_35 : decode cX11_countGivens 35 = .ok (.iload_n 1, 1) := by decide +kernel
theorem dX11_countGivens_36 : decode cX11_countGivens 36 = .ok (.ireturn, 1) := by decide +kernel
set_option maxRecDepth 20000 in
theorem ggX11_isGood_X11_draw : GoodIn wsX11_isGood wsX11_draw := goodIn_r _ [13, 14, 2, 5, 15, 16, 17, 12, 18, 19, 20, 21, 22, 23, 24, 25, 26, 27, 28, 29, 30, 31, 32, 33, 34, 35, 36, 37, 38, 39, 40, 41, 42, 43, 96, 97, 98, 99, 100, 101, 102, 103, 104, 105, 106, 107, 108, 109, 110, 111, 112, 113, 114, 115, 116, 117] (by decide +kernel) (by decide +kernel)
set_option maxRecDepth 20000 in
theorem gX11_isGood_X11_draw : GoodIn wsX11_isGood (wsV RX11 122 RX11 yX11_draw wsX11_draw) := goodIn_app (goodIn_of _ (by decide +kernel)) ggX11_isGood_X11_draw
set_option maxRecDepth 20000 in
theorem ggX11_isGood_X11_cells : GoodIn wsX11_isGood wsX11_cells := goodIn_r _ [22, 14, 96, 97, 98, 99, 100, 101, 102, 103, 104, 105, 106, 107, 108, 109, 110, 111, 112, 113, 114, 115, 116, 117] (by decide +kernel) (by decide +kernel)
set_option maxRecDepth 20000 in
theorem gX11_isGood_X11_cells : GoodIn wsX11_isGood (wsV RX11 57 RX11 yX11_cells wsX11_cells) := goodIn_app (goodIn_of _ (by decide +kernel)) ggX11_isGood_X11_cells
set_option maxRecDepth 20000 in
theorem ggX11_isGood_X11_leastOf : GoodIn wsX11_isGood wsX11_leastOf := goodIn_r _ [47, 48, 49, 50, 12, 51, 14, 52, 96, 97, 98, 99, 100, 101, 102, 103, 104, 105, 106, 107, 108, 109, 110, 111, 112, 113, 114, 115, 116, 117] (by decide +kernel) (by decide +kernel)
set_option maxRecDepth 20000 in
theorem gX11_isGood_X11_leastOf : GoodIn wsX11_isGood (wsV RX11 82 RX11 yX11_leastOf wsX11_leastOf) := goodIn_app (goodIn_of _ (by decide +kernel)) ggX11_isGood_X11_leastOf
set_option maxRecDepth 20000 in
theorem ggX11_isGood_X11_hasTheme : GoodIn wsX11_isGood wsX11_hasTheme := goodIn_r _ [56, 57, 19, 20, 21, 12, 22, 14, 44, 45, 46, 47, 48, 49, 50, 51, 52, 96, 97, 98, 99, 100, 101, 102, 103, 104, 105, 106, 107, 108, 109, 110, 111, 112, 113, 114, 115, 116, 117] (by decide +kernel) (by decide +kernel)
set_option maxRecDepth 20000 in
theorem gX11_isGood_X11_hasTheme : GoodIn wsX11_isGood (wsV RX11 129 RX11 yX11_hasTheme wsX11_hasTheme) := goodIn_app (goodIn_of _ (by decide +kernel)) ggX11_isGood_X11_hasTheme
set_option maxRecDepth 20000 in
theorem ggX11_isGood_X11_takeOut : GoodIn wsX11_isGood wsX11_takeOut := goodIn_r _ [61, 1, 19, 20, 21, 12, 22, 14, 44, 45, 46, 47, 48, 49, 50, 51, 52, 96, 97, 98, 99, 100, 101, 102, 103, 104, 105, 106, 107, 108, 109, 110, 111, 112, 113, 114, 115, 116, 117] (by decide +kernel) (by decide +kernel)
set_option maxRecDepth 20000 in
theorem gX11_isGood_X11_takeOut : GoodIn wsX11_isGood (wsV RX11 132 RX11 yX11_takeOut wsX11_takeOut) := goodIn_app (goodIn_of _ (by decide +kernel)) ggX11_isGood_X11_takeOut
set_option maxRecDepth 20000 in
theorem ggX11_isGood_X11_countUpTo : GoodIn wsX11_isGood wsX11_countUpTo := goodIn_r _ [65, 1, 14, 66, 19, 20, 21, 12, 22, 67, 68, 69, 70, 31, 32, 33, 34, 35, 36, 96, 97, 98, 99, 100, 101, 102, 103, 104, 105, 106, 107, 108, 109, 110, 111, 112, 113, 114, 115, 116, 117] (by decide +kernel) (by decide +kernel)
set_option maxRecDepth 20000 in
theorem gX11_isGood_X11_countUpTo : GoodIn wsX11_isGood (wsV RX11 136 RX11 yX11_countUpTo wsX11_countUpTo) := goodIn_app (goodIn_of _ (by decide +kernel)) ggX11_isGood_X11_countUpTo
set_option maxRecDepth 20000 in
theorem ggX11_isGood_X11_below : GoodIn wsX11_isGood wsX11_below := goodIn_r _ [40, 41, 42, 43, 96, 97, 98, 99, 100, 101, 102, 103, 104, 105, 106, 107, 108, 109, 110, 111, 112, 113, 114, 115, 116, 117] (by decide +kernel) (by decide +kernel)
set_option maxRecDepth 20000 in
theorem gX11_isGood_X11_below : GoodIn wsX11_isGood (wsV RX11 119 RX11 yX11_below wsX11_below) := goodIn_app (goodIn_of _ (by decide +kernel)) ggX11_isGood_X11_below
set_option maxRecDepth 20000 in
theorem ggX11_isGood_X11_putBack : GoodIn wsX11_isGood wsX11_putBack := goodIn_r _ [74, 1, 2, 19, 20, 21, 12, 22, 14, 44, 45, 46, 47, 48, 49, 50, 51, 52, 96, 97, 98, 99, 100, 101, 102, 103, 104, 105, 106, 107, 108, 109, 110, 111, 112, 113, 114, 115, 116, 117] (by decide +kernel) (by decide +kernel)
set_option maxRecDepth 20000 in
theorem gX11_isGood_X11_putBack : GoodIn wsX11_isGood (wsV RX11 139 RX11 yX11_putBack wsX11_putBack) := goodIn_app (goodIn_of _ (by decide +kernel)) ggX11_isGood_X11_putBack
set_option maxRecDepth 20000 in
theorem ggX11_isGood_X11_countGivens : GoodIn wsX11_isGood wsX11_countGivens := goodIn_r _ [78, 1, 19, 20, 21, 12, 22, 14, 96, 97, 98, 99, 100, 101, 102, 103, 104, 105, 106, 107, 108, 109, 110, 111, 112, 113, 114, 115, 116, 117] (by decide +kernel) (by decide +kernel)
set_option maxRecDepth 20000 in
theorem gX11_isGood_X11_countGivens : GoodIn wsX11_isGood (wsV RX11 142 RX11 yX11_countGivens wsX11_countGivens) := goodIn_app (goodIn_of _ (by decide +kernel)) ggX11_isGood_X11_countGivens
set_option maxRecDepth 20000 in
theorem ggX11_isGood_X11_countLeft : GoodIn wsX11_isGood wsX11_countLeft := goodIn_r _ [82, 83, 1, 14, 19, 20, 21, 12, 22, 84, 85, 86, 87, 31, 32, 33, 34, 35, 36, 88, 89, 90, 91, 92, 93, 94, 95, 96, 97, 98, 99, 100, 101, 102, 103, 104, 105, 106, 107, 108, 109, 110, 111, 112, 113, 114, 115, 116, 117] (by decide +kernel) (by decide +kernel)
set_option maxRecDepth 20000 in
theorem gX11_isGood_X11_countLeft : GoodIn wsX11_isGood (wsV RX11 145 RX11 yX11_countLeft wsX11_countLeft) := goodIn_app (goodIn_of _ (by decide +kernel)) ggX11_isGood_X11_countLeft
theorem dX11_isGood_0 : decode cX11_isGood 0 = .ok (.aload_n 0, 1) := by decide +kernel
theorem dX11_isGood_1 : decode cX11_isGood 1 = .ok (.invokevirtual 122, 3) := by decide +kernel
theorem dX11_isGood_4 : decode cX11_isGood 4 = .ok (.ifCond .ne 5, 3) := by decide +kernel
theorem dX11_isGood_7 : decode cX11_isGood 7 = .ok (.iconst 0, 1) := by decide +kernel
theorem dX11_isGood_8 : decode cX11_isGood 8 = .ok (.ireturn, 1) := by decide +kernel
theorem dX11_isGood_9 : decode cX11_isGood 9 = .ok (.iconst 0, 1) := by decide +kernel
theorem dX11_isGood_10 : decode cX11_isGood 10 = .ok (.istore_n 1, 1) := by decide +kernel
theorem dX11_isGood_11 : decode cX11_isGood 11 = .ok (.iload_n 1, 1) := by decide +kernel
theorem dX11_isGood_12 : decode cX11_isGood 12 = .ok (.bipush 36, 2) := by decide +kernel
theorem dX11_isGood_14 : decode cX11_isGood 14 = .ok (.if_icmp .ge 21, 3) := by decide +kernel
theorem dX11_isGood_17 : decode cX11_isGood 17 = .ok (.aload_n 0, 1) := by decide +kernel
theorem dX11_isGood_18 : decode cX11_isGood 18 = .ok (.getfield 27, 3) := by decide +kernel
theorem dX11_isGood_21 : decode cX11_isGood 21 = .ok (.iload_n 1, 1) := by decide +kernel
theorem dX11_isGood_22 : decode cX11_isGood 22 = .ok (.aload_n 0, 1) := by decide +kernel
theorem dX11_isGood_23 : decode cX11_isGood 23 = .ok (.getfield 30, 3) := by decide +kernel
theorem dX11_isGood_26 : decode cX11_isGood 26 = .ok (.iload_n 1, 1) := by decide +kernel
theorem dX11_isGood_27 : decode cX11_isGood 27 = .ok (.iaload, 1) := by decide +kernel
theorem dX11_isGood_28 : decode cX11_isGood 28 = .ok (.iastore, 1) := by decide +kernel
theorem dX11_isGood_29 : decode cX11_isGood 29 = .ok (.iinc 1 1, 3) := by decide +kernel
theorem dX11_isGood_32 : decode cX11_isGood 32 = .ok (.goto (-21), 3) := by decide +kernel
theorem dX11_isGood_35 : decode cX11_isGood 35 = .ok (.iconst 0, 1) := by decide +kernel
theorem dX11_isGood_36 : decode cX11_isGood 36 = .ok (.istore_n 1, 1) := by decide +kernel
theorem dX11_isGood_37 : decode cX11_isGood 37 = .ok (.aload_n 0, 1) := by decide +kernel
theorem dX11_isGood_38 : decode cX11_isGood 38 = .ok (.iconst 0, 1) := by decide +kernel
theorem dX11_isGood_39 : decode cX11_isGood 39 = .ok (.putfield 126, 3) := by decide +kernel
theorem dX11_isGood_42 : decode cX11_isGood 42 = .ok (.iconst 0, 1) := by decide +kernel
theorem dX11_isGood_43 : decode cX11_isGood 43 = .ok (.istore_n 2, 1) := by decide +kernel
theorem dX11_isGood_44 : decode cX11_isGood 44 = .ok (.iload_n 2, 1) := by decide +kernel
theorem dX11_isGood_45 : decode cX11_isGood 45 = .ok (.aload_n 0, 1) := by decide +kernel
theorem dX11_isGood_46 : decode cX11_isGood 46 = .ok (.invokevirtual 57, 3) := by decide +kernel
theorem dX11_isGood_49 : decode cX11_isGood 49 = .ok (.if_icmp .ge 83, 3) := by decide +kernel
theorem dX11_isGood_52 : decode cX11_isGood 52 = .ok (.aload_n 0, 1) := by decide +kernel
theorem dX11_isGood_53 : decode cX11_isGood 53 = .ok (.iload_n 2, 1) := by decide +kernel
theorem dX11_isGood_54 : decode cX11_isGood 54 = .ok (.invokevirtual 82, 3) := by decide +kernel
theorem dX11_isGood_57 : decode cX11_isGood 57 = .ok (.iload_n 2, 1) := by decide +kernel
theorem dX11_isGood_58 : decode cX11_isGood 58 = .ok (.if_icmp .eq 6, 3) := by decide +kernel
theorem dX11_isGood_61 : decode cX11_isGood 61 = .ok (.goto 65, 3) := by decide +kernel
theorem dX11_isGood_64 : decode cX11_isGood 64 = .ok (.aload_n 0, 1) := by decide +kernel
theorem dX11_isGood_65 : decode cX11_isGood 65 = .ok (.iload_n 2, 1) := by decide +kernel
theorem dX11_isGood_66 : decode cX11_isGood 66 = .ok (.iconst 1, 1) := by decide +kernel
theorem dX11_isGood_67 : decode cX11_isGood 67 = .ok (.invokevirtual 129, 3) := by decide +kernel
theorem dX11_isGood_70 : decode cX11_isGood 70 = .ok (.istore_n 3, 1) := by decide +kernel
theorem dX11_isGood_71 : decode cX11_isGood 71 = .ok (.aload_n 0, 1) := by decide +kernel
theorem dX11_isGood_72 : decode cX11_isGood 72 = .ok (.iload_n 2, 1) := by decide +kernel
theorem dX11_isGood_73 : decode cX11_isGood 73 = .ok (.iconst 2, 1) := by decide +kernel
theorem dX11_isGood_74 : decode cX11_isGood 74 = .ok (.invokevirtual 129, 3) := by decide +kernel
theorem dX11_isGood_77 : decode cX11_isGood 77 = .ok (.ifCond .eq 25, 3) := by decide +kernel
theorem dX11_isGood_80 : decode cX11_isGood 80 = .ok (.iload_n 1, 1) := by decide +kernel
theorem dX11_isGood_81 : decode cX11_isGood 81 = .ok (.ifCond .ne 7, 3) := by decide +kernel
theorem dX11_isGood_84 : decode cX11_isGood 84 = .ok (.iload_n 3, 1) := by decide +kernel
theorem dX11_isGood_85 : decode cX11_isGood 85 = .ok (.ifCond .eq 7, 3) := by decide +kernel
theorem dX11_isGood_88 : decode cX11_isGood 88 = .ok (.iconst 1, 1) := by decide +kernel
theorem dX11_isGood_89 : decode cX11_isGood 89 = .ok (.goto 4, 3) := by decide +kernel
theorem dX11_isGood_92 : decode cX11_isGood 92 = .ok (.iconst 0, 1) := by decide +kernel
theorem dX11_isGood_93 : decode cX11_isGood 93 = .ok (.istore_n 1, 1) := by decide +kernel
theorem dX11_isGood_94 : decode cX11_isGood 94 = .ok (.aload_n 0, 1) := by decide +kernel
theorem dX11_isGood_95 : decode cX11_isGood 95 = .ok (.iload_n 2, 1) := by decide +kernel
theorem dX11_isGood_96 : decode cX11_isGood 96 = .ok (.invokevirtual 132, 3) := by decide +kernel
theorem dX11_isGood_99 : decode cX11_isGood 99 = .ok (.goto 27, 3) := by decide +kernel
theorem dX11_isGood_102 : decode cX11_isGood 102 = .ok (.iload_n 3, 1) := by decide +kernel
theorem dX11_isGood_103 : decode cX11_isGood 103 = .ok (.ifCond .ne 23, 3) := by decide +kernel
theorem dX11_isGood_106 : decode cX11_isGood 106 = .ok (.aload_n 0, 1) := by decide +kernel
theorem dX11_isGood_107 : decode cX11_isGood 107 = .ok (.getfield 39, 3) := by decide +kernel
theorem dX11_isGood_110 : decode cX11_isGood 110 = .ok (.aload_n 0, 1) := by decide +kernel
theorem dX11_isGood_111 : decode cX11_isGood 111 = .ok (.getfield 126, 3) := by decide +kernel
theorem dX11_isGood_114 : decode cX11_isGood 114 = .ok (.iload_n 2, 1) := by decide +kernel
theorem dX11_isGood_115 : decode cX11_isGood 115 = .ok (.iastore, 1) := by decide +kernel
theorem dX11_isGood_116 : decode cX11_isGood 116 = .ok (.aload_n 0, 1) := by decide +kernel
theorem dX11_isGood_117 : decode cX11_isGood 117 = .ok (.dup, 1) := by decide +kernel
theorem dX11_isGood_118 : decode cX11_isGood 118 = .ok (.getfield 126, 3) := by decide +kernel
theorem dX11_isGood_121 : decode cX11_isGood 121 = .ok (.iconst 1, 1) := by decide +kernel
theorem dX11_isGood_122 : decode cX11_isGood 122 = .ok (.iadd, 1) := by decide +kernel
theorem dX11_isGood_123 : decode cX11_isGood 123 = .ok (.putfield 126, 3) := by decide +kernel
theorem dX11_isGood_126 : decode cX11_isGood 126 = .ok (.iinc 2 1, 3) := by decide +kernel
theorem dX11_isGood_129 : decode cX11_isGood 129 = .ok (.goto (-85), 3) := by decide +kernel
theorem dX11_isGood_132 : decode cX11_isGood 132 = .ok (.iload_n 1, 1) := by decide +kernel
theorem dX11_isGood_133 : decode cX11_isGood 133 = .ok (.ifCond .ne 12, 3) := by decide +kernel
theorem dX11_isGood_136 : decode cX11_isGood 136 = .ok (.aload_n 0, 1) := by decide +kernel
theorem dX11_isGood_137 : decode cX11_isGood 137 = .ok (.iconst 2, 1) := by decide +kernel
theorem dX11_isGood_138 : decode cX11_isGood 138 = .ok (.invokevirtual 136, 3) := by decide +kernel
theorem dX11_isGood_141 : decode cX11_isGood 141 = .ok (.iconst 1, 1) := by decide +kernel
theorem dX11_isGood_142 : decode cX11_isGood 142 = .ok (.if_icmp .le 5, 3) := by decide +kernel
theorem dX11_isGood_145 : decode cX11_isGood 145 = .ok (.iconst 0, 1) := by decide +kernel
theorem dX11_isGood_146 : decode cX11_isGood 146 = .ok (.ireturn, 1) := by decide +kernel
theorem dX11_isGood_147 : decode cX11_isGood 147 = .ok (.aload_n 0, 1) := by decide +kernel
theorem dX11_isGood_148 : decode cX11_isGood 148 = .ok (.getfield 126, 3) := by decide +kernel
theorem dX11_isGood_151 : decode cX11_isGood 151 = .ok (.iconst 1, 1) := by decide +kernel
theorem dX11_isGood_152 : decode cX11_isGood 152 = .ok (.isub, 1) := by decide +kernel
theorem dX11_isGood_153 : decode cX11_isGood 153 = .ok (.istore_n 2, 1) := by decide +kernel
theorem dX11_isGood_154 : decode cX11_isGood 154 = .ok (.iload_n 2, 1) := by decide +kernel
theorem dX11_isGood_155 : decode cX11_isGood 155 = .ok (.ifCond .le 45, 3) := by decide +kernel
theorem dX11_isGood_158 : decode cX11_isGood 158 = .ok (.aload_n 0, 1) := by decide +kernel
theorem dX11_isGood_159 : decode cX11_isGood 159 = .ok (.iload_n 2, 1) := by decide +kernel
theorem dX11_isGood_160 : decode cX11_isGood 160 = .ok (.iconst 1, 1) := by decide +kernel
theorem dX11_isGood_161 : decode cX11_isGood 161 = .ok (.iadd, 1) := by decide +kernel
theorem dX11_isGood_162 : decode cX11_isGood 162 = .ok (.invokevirtual 119, 3) := by decide +kernel
theorem dX11_isGood_165 : decode cX11_isGood 165 = .ok (.istore_n 3, 1) := by decide +kernel
theorem dX11_isGood_166 : decode cX11_isGood 166 = .ok (.aload_n 0, 1) := by decide +kernel
theorem dX11_isGood_167 : decode cX11_isGood 167 = .ok (.getfield 39, 3) := by decide +kernel
theorem dX11_isGood_170 : decode cX11_isGood 170 = .ok (.iload_n 2, 1) := by decide +kernel
theorem dX11_isGood_171 : decode cX11_isGood 171 = .ok (.iaload, 1) := by decide +kernel
theorem dX11_isGood_172 : decode cX11_isGood 172 = .ok (.istore 4, 2) := by decide +kernel
theorem dX11_isGood_174 : decode cX11_isGood 174 = .ok (.aload_n 0, 1) := by decide +kernel
theorem dX11_isGood_175 : decode cX11_isGood 175 = .ok (.getfield 39, 3) := by decide +kernel
theorem dX11_isGood_178 : decode cX11_isGood 178 = .ok (.iload_n 2, 1) := by decide +kernel
theorem dX11_isGood_179 : decode cX11_isGood 179 = .ok (.aload_n 0, 1) := by decide +kernel
theorem dX11_isGood_180 : decode cX11_isGood 180 = .ok (.getfield 39, 3) := by decide +kernel
theorem dX11_isGood_183 : decode cX11_isGood 183 = .ok (.iload_n 3, 1) := by decide +kernel
theorem dX11_isGood_184 : decode cX11_isGood 184 = .ok (.iaload, 1) := by decide +kernel
theorem dX11_isGood_185 : decode cX11_isGood 185 = .ok (.iastore, 1) := by decide +kernel
theorem dX11_isGood_186 : decode cX11_isGood 186 = .ok (.aload_n 0, 1) := by decide +kernel
theorem dX11_isGood_187 : decode cX11_isGood 187 = .ok (.getfield 39, 3) := by decide +kernel
theorem dX11_isGood_190 : decode cX11_isGood 190 = .ok (.iload_n 3, 1) := by decide +kernel
theorem dX11_isGood_191 : decode cX11_isGood 191 = .ok (.iload 4, 2) := by decide +kernel
theorem dX11_isGood_193 : decode cX11_isGood 193 = .ok (.iastore, 1) := by decide +kernel
theorem dX11_isGood_194 : decode cX11_isGood 194 = .ok (.iinc 2 (-1), 3) := by decide +kernel
theorem dX11_isGood_197 : decode cX11_isGood 197 = .ok (.goto (-43), 3) := by decide +kernel
theorem dX11_isGood_200 : decode cX11_isGood 200 = .ok (.iconst 0, 1) := by decide +kernel
theorem dX11_isGood_201 : decode cX11_isGood 201 = .ok (.istore_n 2, 1) := by decide +kernel
theorem dX11_isGood_202 : decode cX11_isGood 202 = .ok (.iload_n 2, 1) := by decide +kernel
theorem dX11_isGood_203 : decode cX11_isGood 203 = .ok (.aload_n 0, 1) := by decide +kernel
theorem dX11_isGood_204 : decode cX11_isGood 204 = .ok (.getfield 126, 3) := by decide +kernel
theorem dX11_isGood_207 : decode cX11_isGood 207 = .ok (.if_icmp .ge 61, 3) := by decide +kernel
theorem dX11_isGood_210 : decode cX11_isGood 210 = .ok (.aload_n 0, 1) := by decide +kernel
theorem dX11_isGood_211 : decode cX11_isGood 211 = .ok (.aload_n 0, 1) := by decide +kernel
theorem dX11_isGood_212 : decode cX11_isGood 212 = .ok (.getfield 39, 3) := by decide +kernel
theorem dX11_isGood_215 : decode cX11_isGood 215 = .ok (.iload_n 2, 1) := by decide +kernel
theorem dX11_isGood_216 : decode cX11_isGood 216 = .ok (.iaload, 1) := by decide +kernel
theorem dX11_isGood_217 : decode cX11_isGood 217 = .ok (.invokevirtual 132, 3) := by decide +kernel
theorem dX11_isGood_220 : decode cX11_isGood 220 = .ok (.aload_n 0, 1) := by decide +kernel
theorem dX11_isGood_221 : decode cX11_isGood 221 = .ok (.getfield 18, 3) := by decide +kernel
theorem dX11_isGood_224 : decode cX11_isGood 224 = .ok (.iconst 2, 1) := by decide +kernel
theorem dX11_isGood_225 : decode cX11_isGood 225 = .ok (.dup2, 1) := by decide +kernel
theorem dX11_isGood_226 : decode cX11_isGood 226 = .ok (.iaload, 1) := by decide +kernel
theorem dX11_isGood_227 : decode cX11_isGood 227 = .ok (.iconst 1, 1) := by decide +kernel
theorem dX11_isGood_228 : decode cX11_isGood 228 = .ok (.iadd, 1) := by decide +kernel
theorem dX11_isGood_229 : decode cX11_isGood 229 = .ok (.iastore, 1) := by decide +kernel
theorem dX11_isGood_230 : decode cX11_isGood 230 = .ok (.aload_n 0, 1) := by decide +kernel
theorem dX11_isGood_231 : decode cX11_isGood 231 = .ok (.iconst 2, 1) := by decide +kernel
theorem dX11_isGood_232 : decode cX11_isGood 232 = .ok (.invokevirtual 136, 3) := by decide +kernel
theorem dX11_isGood_235 : decode cX11_isGood 235 = .ok (.iconst 2, 1) := by decide +kernel
theorem dX11_isGood_236 : decode cX11_isGood 236 = .ok (.if_icmp .ge 6, 3) := by decide +kernel
theorem dX11_isGood_239 : decode cX11_isGood 239 = .ok (.goto 23, 3) := by decide +kernel
theorem dX11_isGood_242 : decode cX11_isGood 242 = .ok (.aload_n 0, 1) := by decide +kernel
theorem dX11_isGood_243 : decode cX11_isGood 243 = .ok (.aload_n 0, 1) := by decide +kernel
theorem dX11_isGood_244 : decode cX11_isGood 244 = .ok (.getfield 39, 3) := by decide +kernel
theorem dX11_isGood_247 : decode cX11_isGood 247 = .ok (.iload_n 2, 1) := by decide +kernel
theorem dX11_isGood_248 : decode cX11_isGood 248 = .ok (.iaload, 1) := by decide +kernel
theorem dX11_isGood_249 : decode cX11_isGood 249 = .ok (.invokevirtual 139, 3) := by decide +kernel
theorem dX11_isGood_252 : decode cX11_isGood 252 = .ok (.aload_n 0, 1) := by decide +kernel
theorem dX11_isGood_253 : decode cX11_isGood 253 = .ok (.getfield 18, 3) := by decide +kernel
theorem dX11_isGood_256 : decode cX11_isGood 256 = .ok (.iconst 3, 1) := by decide +kernel
theorem dX11_isGood_257 : decode cX11_isGood 257 = .ok (.dup2, 1) := by decide +kernel
theorem dX11_isGood_258 : decode cX11_isGood 258 = .ok (.iaload, 1) := by decide +kernel
theorem dX11_isGood_259 : decode cX11_isGood 259 = .ok (.iconst 1, 1) := by decide +kernel
theorem dX11_isGood_260 : decode cX11_isGood 260 = .ok (.iadd, 1) := by decide +kernel
theorem dX11_isGood_261 : decode cX11_isGood 261 = .ok (.iastore, 1) := by decide +kernel
theorem dX11_isGood_262 : decode cX11_isGood 262 = .ok (.iinc 2 1, 3) := by decide +kernel
theorem dX11_isGood_265 : decode cX11_isGood 265 = .ok (.goto (-63), 3) := by decide +kernel
theorem dX11_isGood_268 : decode cX11_isGood 268 = .ok (.aload_n 0, 1) := by decide +kernel
theorem dX11_isGood_269 : decode cX11_isGood 269 = .ok (.invokevirtual 142, 3) := by decide +kernel
theorem dX11_isGood_272 : decode cX11_isGood 272 = .ok (.istore_n 2, 1) := by decide +kernel
theorem dX11_isGood_273 : decode cX11_isGood 273 = .ok (.aload_n 0, 1) := by decide +kernel
theorem dX11_isGood_274 : decode cX11_isGood 274 = .ok (.invokevirtual 145, 3) := by decide +kernel
theorem dX11_isGood_277 : decode cX11_isGood 277 = .ok (.ifCond .ne 7, 3) := by decide +kernel
theorem dX11_isGood_280 : decode cX11_isGood 280 = .ok (.iconst 1, 1) := by decide +kernel
theorem dX11_isGood_281 : decode cX11_isGood 281 = .ok (.goto 4, 3) := by decide +kernel
theorem dX11_isGood_284 : decode cX11_isGood 284 = .ok (.iconst 0, 1) := by decide +kernel
theorem dX11_isGood_285 : decode cX11_isGood 285 = .ok (.istore_n 3, 1) := by decide +kernel
theorem dX11_isGood_286 : decode cX11_isGood 286 = .ok (.iload_n 2, 1) := by decide +kernel
theorem dX11_isGood_287 : decode cX11_isGood 287 = .ok (.aload_n 0, 1) := by decide +kernel
theorem dX11_isGood_288 : decode cX11_isGood 288 = .ok (.getfield 75, 3) := by decide +kernel
theorem dX11_isGood_291 : decode cX11_isGood 291 = .ok (.if_icmp .lt 38, 3) := by decide +kernel
theorem dX11_isGood_294 : decode cX11_isGood 294 = .ok (.iload_n 2, 1) := by decide +kernel
theorem dX11_isGood_295 : decode cX11_isGood 295 = .ok (.aload_n 0, 1) := by decide +kernel
theorem dX11_isGood_296 : decode cX11_isGood 296 = .ok (.getfield 14, 3) := by decide +kernel
theorem dX11_isGood_299 : decode cX11_isGood 299 = .ok (.if_icmp .gt 30, 3) := by decide +kernel
theorem dX11_isGood_302 : decode cX11_isGood 302 = .ok (.aload_n 0, 1) := by decide +kernel
theorem dX11_isGood_303 : decode cX11_isGood 303 = .ok (.getfield 72, 3) := by decide +kernel
theorem dX11_isGood_306 : decode cX11_isGood 306 = .ok (.ifCond .eq 19, 3) := by decide +kernel
theorem dX11_isGood_309 : decode cX11_isGood 309 = .ok (.aload_n 0, 1) := by decide +kernel
theorem dX11_isGood_310 : decode cX11_isGood 310 = .ok (.getfield 72, 3) := by decide +kernel
theorem dX11_isGood_313 : decode cX11_isGood 313 = .ok (.iload_n 3, 1) := by decide +kernel
theorem dX11_isGood_314 : decode cX11_isGood 314 = .ok (.ifCond .eq 7, 3) := by decide +kernel
theorem dX11_isGood_317 : decode cX11_isGood 317 = .ok (.iconst 1, 1) := by decide +kernel
theorem dX11_isGood_318 : decode cX11_isGood 318 = .ok (.goto 4, 3) := by decide +kernel
theorem dX11_isGood_321 : decode cX11_isGood 321 = .ok (.iconst 2, 1) := by decide +kernel
theorem dX11_isGood_322 : decode cX11_isGood 322 = .ok (.if_icmp .ne 7, 3) := by decide +kernel
theorem dX11_isGood_325 : decode cX11_isGood 325 = .ok (.iconst 1, 1) := by decide +kernel
theorem dX11_isGood_326 : decode cX11_isGood 326 = .ok (.goto 4, 3) := by decide +kernel
theorem dX11_isGood_329 : decode cX11_isGood 329 = .ok (.iconst 0, 1) := by decide +kernel
theorem dX11_isGood_330 : decode cX11_isGood 330 = .ok (.ireturn, 1) := by decide +kernel
set_option maxRecDepth 20000 in
theorem ggX11_make_X11_isGood : GoodIn wsX11_make wsX11_isGood := goodIn_r _ [13, 6, 8, 14, 15, 3, 16, 17, 18, 19, 20, 21, 12, 22, 23, 24, 25, 26, 27, 28, 29, 30, 31, 32, 33, 34, 35, 36, 37, 38, 39, 40, 41, 42, 43, 44, 45, 46, 47, 48, 49, 2, 50, 51, 52, 53, 54, 55, 56, 57, 58, 59, 60, 61, 62, 63, 64, 65, 66, 67, 68, 69, 70, 71, 72, 73, 74, 75, 76, 77, 78, 79, 80, 81, 82, 83, 84, 85, 86, 87, 88, 89, 90, 91, 92, 93, 94, 95, 96, 97, 98, 99, 100, 101, 102, 103, 104, 105, 106, 107, 108, 109, 110, 111, 112, 113, 114, 115, 116, 117, 118, 119, 120, 121, 122, 123, 124, 125] (by decide +kernel) (by decide +kernel)
set_option maxRecDepth 20000 in
theorem gX11_make_X11_isGood : GoodIn wsX11_make (wsV RX11 152 RX11 yX11_isGood wsX11_isGood) := goodIn_app (goodIn_of _ (by decide +kernel)) ggX11_make_X11_isGood
set_option maxRecDepth 20000 in
theorem ggX11_make_X11_countGivens : GoodIn wsX11_make wsX11_countGivens := goodIn_r _ [86, 6, 28, 29, 30, 12, 31, 23, 104, 105, 106, 107, 108, 109, 110, 111, 112, 113, 114, 115, 116, 117, 118, 119, 120, 121, 122, 123, 124, 125] (by decide +kernel) (by decide +kernel)
set_option maxRecDepth 20000 in
theorem gX11_make_X11_countGivens : GoodIn wsX11_make (wsV RX11 142 RX11 yX11_countGivens wsX11_countGivens) := goodIn_app (goodIn_of _ (by decide +kernel)) ggX11_make_X11_countGivens
set_option maxRecDepth 20000 in
theorem ggX11_make_X11_countLeft : GoodIn wsX11_make wsX11_countLeft := goodIn_r _ [90, 91, 6, 23, 28, 29, 30, 12, 31, 92, 93, 94, 95, 40, 41, 42, 43, 44, 45, 96, 97, 98, 99, 100, 101, 102, 103, 104, 105, 106, 107, 108, 109, 110, 111, 112, 113, 114, 115, 116, 117, 118, 119, 120, 121, 122, 123, 124, 125] (by decide +kernel) (by decide +kernel)
set_option maxRecDepth 20000 in
theorem gX11_make_X11_countLeft : GoodIn wsX11_make (wsV RX11 145 RX11 yX11_countLeft wsX11_countLeft) := goodIn_app (goodIn_of _ (by decide +kernel)) ggX11_make_X11_countLeft
theorem dX11_make_0 : decode cX11_make 0 = .ok (.aload_n 0, 1) := by decide +kernel
theorem dX11_make_1 : decode cX11_make 1 = .ok (.iconst 0, 1) := by decide +kernel
theorem dX11_make_2 : decode cX11_make 2 = .ok (.putfield 54, 3) := by decide +kernel
theorem dX11_make_5 : decode cX11_make 5 = .ok (.iload_n 3, 1) := by decide +kernel
theorem dX11_make_6 : decode cX11_make 6 = .ok (.iconst 1, 1) := by decide +kernel
theorem dX11_make_7 : decode cX11_make 7 = .ok (.if_icmp .lt 9, 3) := by decide +kernel
theorem dX11_make_10 : decode cX11_make 10 = .ok (.iload_n 3, 1) := by decide +kernel
theorem dX11_make_11 : decode cX11_make 11 = .ok (.bipush 40, 2) := by decide +kernel
theorem dX11_make_13 : decode cX11_make 13 = .ok (.if_icmp .le 6, 3) := by decide +kernel
theorem dX11_make_16 : decode cX11_make 16 = .ok (.bipush (-2), 2) := by decide +kernel
theorem dX11_make_18 : decode cX11_make 18 = .ok (.ireturn, 1) := by decide +kernel
theorem dX11_make_19 : decode cX11_make 19 = .ok (.aload_n 0, 1) := by decide +kernel
theorem dX11_make_20 : decode cX11_make 20 = .ok (.lload_n 1, 1) := by decide +kernel
theorem dX11_make_21 : decode cX11_make 21 = .ok (.putfield 102, 3) := by decide +kernel
theorem dX11_make_24 : decode cX11_make 24 = .ok (.iconst 0, 1) := by decide +kernel
theorem dX11_make_25 : decode cX11_make 25 = .ok (.istore 4, 2) := by decide +kernel
theorem dX11_make_27 : decode cX11_make 27 = .ok (.iload 4, 2) := by decide +kernel
theorem dX11_make_29 : decode cX11_make 29 = .ok (.bipush 7, 2) := by decide +kernel
theorem dX11_make_31 : decode cX11_make 31 = .ok (.if_icmp .ge 17, 3) := by decide +kernel
theorem dX11_make_34 : decode cX11_make 34 = .ok (.aload_n 0, 1) := by decide +kernel
theorem dX11_make_35 : decode cX11_make 35 = .ok (.getfield 18, 3) := by decide +kernel
theorem dX11_make_38 : decode cX11_make 38 = .ok (.iload 4, 2) := by decide +kernel
theorem dX11_make_40 : decode cX11_make 40 = .ok (.iconst 0, 1) := by decide +kernel
theorem dX11_make_41 : decode cX11_make 41 = .ok (.iastore, 1) := by decide +kernel
theorem dX11_make_42 : decode cX11_make 42 = .ok (.iinc 4 1, 3) := by decide +kernel
theorem dX11_make_45 : decode cX11_make 45 = .ok (.goto (-18), 3) := by decide +kernel
theorem dX11_make_48 : decode cX11_make 48 = .ok (.aload_n 0, 1) := by decide +kernel
theorem dX11_make_49 : decode cX11_make 49 = .ok (.iconst 0, 1) := by decide +kernel
theorem dX11_make_50 : decode cX11_make 50 = .ok (.putfield 148, 3) := by decide +kernel
theorem dX11_make_53 : decode cX11_make 53 = .ok (.aload_n 0, 1) := by decide +kernel
theorem dX11_make_54 : decode cX11_make 54 = .ok (.getfield 148, 3) := by decide +kernel
theorem dX11_make_57 : decode cX11_make 57 = .ok (.ifCond .ne 34, 3) := by decide +kernel
theorem dX11_make_60 : decode cX11_make 60 = .ok (.aload_n 0, 1) := by decide +kernel
theorem dX11_make_61 : decode cX11_make 61 = .ok (.getfield 18, 3) := by decide +kernel
theorem dX11_make_64 : decode cX11_make 64 = .ok (.iconst 0, 1) := by decide +kernel
theorem dX11_make_65 : decode cX11_make 65 = .ok (.iaload, 1) := by decide +kernel
theorem dX11_make_66 : decode cX11_make 66 = .ok (.iload_n 3, 1) := by decide +kernel
theorem dX11_make_67 : decode cX11_make 67 = .ok (.if_icmp .ge 24, 3) := by decide +kernel
theorem dX11_make_70 : decode cX11_make 70 = .ok (.aload_n 0, 1) := by decide +kernel
theorem dX11_make_71 : decode cX11_make 71 = .ok (.getfield 18, 3) := by decide +kernel
theorem dX11_make_74 : decode cX11_make 74 = .ok (.iconst 0, 1) := by decide +kernel
theorem dX11_make_75 : decode cX11_make 75 = .ok (.dup2, 1) := by decide +kernel
theorem dX11_make_76 : decode cX11_make 76 = .ok (.iaload, 1) := by decide +kernel
theorem dX11_make_77 : decode cX11_make 77 = .ok (.iconst 1, 1) := by decide +kernel
theorem dX11_make_78 : decode cX11_make 78 = .ok (.iadd, 1) := by decide +kernel
theorem dX11_make_79 : decode cX11_make 79 = .ok (.iastore, 1) := by decide +kernel
theorem dX11_make_80 : decode cX11_make 80 = .ok (.aload_n 0, 1) := by decide +kernel
theorem dX11_make_81 : decode cX11_make 81 = .ok (.aload_n 0, 1) := by decide +kernel
theorem dX11_make_82 : decode cX11_make 82 = .ok (.invokevirtual 152, 3) := by decide +kernel
theorem dX11_make_85 : decode cX11_make 85 = .ok (.putfield 148, 3) := by decide +kernel
theorem dX11_make_88 : decode cX11_make 88 = .ok (.goto (-35), 3) := by decide +kernel
theorem dX11_make_91 : decode cX11_make 91 = .ok (.aload_n 0, 1) := by decide +kernel
theorem dX11_make_92 : decode cX11_make 92 = .ok (.getfield 18, 3) := by decide +kernel
theorem dX11_make_95 : decode cX11_make 95 = .ok (.bipush 6, 2) := by decide +kernel
theorem dX11_make_97 : decode cX11_make 97 = .ok (.aload_n 0, 1) := by decide +kernel
theorem dX11_make_98 : decode cX11_make 98 = .ok (.getfield 102, 3) := by decide +kernel
theorem dX11_make_101 : decode cX11_make 101 = .ok (.bipush 33, 2) := by decide +kernel
theorem dX11_make_103 : decode cX11_make 103 = .ok (.lushr, 1) := by decide +kernel
theorem dX11_make_104 : decode cX11_make 104 = .ok (.l2i, 1) := by decide +kernel
theorem dX11_make_105 : decode cX11_make 105 = .ok (.iastore, 1) := by decide +kernel
theorem dX11_make_106 : decode cX11_make 106 = .ok (.aload_n 0, 1) := by decide +kernel
theorem dX11_make_107 : decode cX11_make 107 = .ok (.getfield 148, 3) := by decide +kernel
theorem dX11_make_110 : decode cX11_make 110 = .ok (.ifCond .ne 5, 3) := by decide +kernel
theorem dX11_make_113 : decode cX11_make 113 = .ok (.iconst (-1), 1) := by decide +kernel
theorem dX11_make_114 : decode cX11_make 114 = .ok (.ireturn, 1) := by decide +kernel
theorem dX11_make_115 : decode cX11_make 115 = .ok (.iconst 0, 1) := by decide +kernel
theorem dX11_make_116 : decode cX11_make 116 = .ok (.istore 4, 2) := by decide +kernel
theorem dX11_make_118 : decode cX11_make 118 = .ok (.iload 4, 2) := by decide +kernel
theorem dX11_make_120 : decode cX11_make 120 = .ok (.bipush 36, 2) := by decide +kernel
theorem dX11_make_122 : decode cX11_make 122 = .ok (.if_icmp .ge 37, 3) := by decide +kernel
theorem dX11_make_125 : decode cX11_make 125 = .ok (.aload_n 0, 1) := by decide +kernel
theorem dX11_make_126 : decode cX11_make 126 = .ok (.getfield 21, 3) := by decide +kernel
theorem dX11_make_129 : decode cX11_make 129 = .ok (.iload 4, 2) := by decide +kernel
theorem dX11_make_131 : decode cX11_make 131 = .ok (.aload_n 0, 1) := by decide +kernel
theorem dX11_make_132 : decode cX11_make 132 = .ok (.getfield 27, 3) := by decide +kernel
theorem dX11_make_135 : decode cX11_make 135 = .ok (.iload 4, 2) := by decide +kernel
theorem dX11_make_137 : decode cX11_make 137 = .ok (.iaload, 1) := by decide +kernel
theorem dX11_make_138 : decode cX11_make 138 = .ok (.iastore, 1) := by decide +kernel
theorem dX11_make_139 : decode cX11_make 139 = .ok (.aload_n 0, 1) := by decide +kernel
theorem dX11_make_140 : decode cX11_make 140 = .ok (.getfield 24, 3) := by decide +kernel
theorem dX11_make_143 : decode cX11_make 143 = .ok (.iload 4, 2) := by decide +kernel
theorem dX11_make_145 : decode cX11_make 145 = .ok (.aload_n 0, 1) := by decide +kernel
theorem dX11_make_146 : decode cX11_make 146 = .ok (.getfield 30, 3) := by decide +kernel
theorem dX11_make_149 : decode cX11_make 149 = .ok (.iload 4, 2) := by decide +kernel
theorem dX11_make_151 : decode cX11_make 151 = .ok (.iaload, 1) := by decide +kernel
theorem dX11_make_152 : decode cX11_make 152 = .ok (.iastore, 1) := by decide +kernel
theorem dX11_make_153 : decode cX11_make 153 = .ok (.iinc 4 1, 3) := by decide +kernel
theorem dX11_make_156 : decode cX11_make 156 = .ok (.goto (-38), 3) := by decide +kernel
theorem dX11_make_159 : decode cX11_make 159 = .ok (.aload_n 0, 1) := by decide +kernel
theorem dX11_make_160 : decode cX11_make 160 = .ok (.getfield 18, 3) := by decide +kernel
theorem dX11_make_163 : decode cX11_make 163 = .ok (.iconst 4, 1) := by decide +kernel
theorem dX11_make_164 : decode cX11_make 164 = .ok (.aload_n 0, 1) := by decide +kernel
theorem dX11_make_165 : decode cX11_make 165 = .ok (.invokevirtual 142, 3) := by decide +kernel
theorem dX11_make_168 : decode cX11_make 168 = .ok (.iastore, 1) := by decide +kernel
theorem dX11_make_169 : decode cX11_make 169 = .ok (.aload_n 0, 1) := by decide +kernel
theorem dX11_make_170 : decode cX11_make 170 = .ok (.getfield 18, 3) := by decide +kernel
theorem dX11_make_173 : decode cX11_make 173 = .ok (.iconst 5, 1) := by decide +kernel
theorem dX11_make_174 : decode cX11_make 174 = .ok (.aload_n 0, 1) := by decide +kernel
theorem dX11_make_175 : decode cX11_make 175 = .ok (.invokevirtual 145, 3) := by decide +kernel
theorem dX11_make_178 : decode cX11_make 178 = .ok (.ifCond .ne 7, 3) := by decide +kernel
theorem dX11_make_181 : decode cX11_make 181 = .ok (.iconst 1, 1) := by decide +kernel
theorem dX11_make_182 : decode cX11_make 182 = .ok (.goto 4, 3) := by decide +kernel
theorem dX11_make_185 : decode cX11_make 185 = .ok (.iconst 0, 1) := by decide +kernel
theorem dX11_make_186 : decode cX11_make 186 = .ok (.iastore, 1) := by decide +kernel
theorem dX11_make_187 : decode cX11_make 187 = .ok (.aload_n 0, 1) := by decide +kernel
theorem dX11_make_188 : decode cX11_make 188 = .ok (.getfield 18, 3) := by decide +kernel
theorem dX11_make_191 : decode cX11_make 191 = .ok (.iconst 0, 1) := by decide +kernel
theorem dX11_make_192 : decode cX11_make 192 = .ok (.iaload, 1) := by decide +kernel
theorem dX11_make_193 : decode cX11_make 193 = .ok (.ireturn, 1) := by decide +kernel
theorem dX11_take_0 : decode cX11_take 0 = .ok (.iconst 0, 1) := by decide +kernel
theorem dX11_take_1 : decode cX11_take 1 = .ok (.istore_n 1, 1) := by decide +kernel
theorem dX11_take_2 : decode cX11_take 2 = .ok (.iload_n 1, 1) := by decide +kernel
theorem dX11_take_3 : decode cX11_take 3 = .ok (.bipush 36, 2) := by decide +kernel
theorem dX11_take_5 : decode cX11_take 5 = .ok (.if_icmp .ge 21, 3) := by decide +kernel
theorem dX11_take_8 : decode cX11_take 8 = .ok (.aload_n 0, 1) := by decide +kernel
theorem dX11_take_9 : decode cX11_take 9 = .ok (.getfield 27, 3) := by decide +kernel
theorem dX11_take_12 : decode cX11_take 12 = .ok (.iload_n 1, 1) := by decide +kernel
theorem dX11_take_13 : decode cX11_take 13 = .ok (.aload_n 0, 1) := by decide +kernel
theorem dX11_take_14 : decode cX11_take 14 = .ok (.getfield 21, 3) := by decide +kernel
theorem dX11_take_17 : decode cX11_take 17 = .ok (.iload_n 1, 1) := by decide +kernel
theorem dX11_take_18 : decode cX11_take 18 = .ok (.iaload, 1) := by decide +kernel
theorem dX11_take_19 : decode cX11_take 19 = .ok (.iastore, 1) := by decide +kernel
theorem dX11_take_20 : decode cX11_take 20 = .ok (.iinc 1 1, 3) := by decide +kernel
theorem dX11_take_23 : decode cX11_take 23 = .ok (.goto (-21), 3) := by decide +kernel
theorem dX11_take_26 : decode cX11_take 26 = .ok (.return_, 1) := by decide +kernel
set_option maxRecDepth 20000 in
theorem ggX11_given_X11_isCell : GoodIn wsX11_given wsX11_isCell := goodIn_r _ [7, 8, 9, 10, 6, 11, 12, 18, 19, 20, 21, 22, 23, 24, 25, 26, 27, 28, 29, 30, 31, 32, 33, 34, 35, 36, 37, 38, 39] (by decide +kernel) (by decide +kernel)
set_option maxRecDepth 20000 in
theorem gX11_given_X11_isCell : GoodIn wsX11_given (wsV RX11 64 RX11 yX11_isCell wsX11_isCell) := goodIn_app (goodIn_of _ (by decide +kernel)) ggX11_given_X11_isCell
set_option maxRecDepth 20000 in
theorem ggX11_given_X11_throwsIf : GoodIn wsX11_given wsX11_throwsIf := goodIn_r _ [16, 17, 18, 19, 20, 21, 22, 23, 24, 25, 26, 27, 28, 29, 30, 31, 32, 33, 34, 35, 36, 37, 38, 39] (by decide +kernel) (by decide +kernel)
set_option maxRecDepth 20000 in
theorem gX11_given_X11_throwsIf : GoodIn wsX11_given (wsV RX11 68 RX11 yX11_throwsIf wsX11_throwsIf) := goodIn_app (goodIn_of _ (by decide +kernel)) ggX11_given_X11_throwsIf
theorem dX11_given_0 : decode cX11_given 0 = .ok (.aload_n 0, 1) := by decide +kernel
theorem dX11_given_1 : decode cX11_given 1 = .ok (.iconst 1, 1) := by decide +kernel
theorem dX11_given_2 : decode cX11_given 2 = .ok (.aload_n 0, 1) := by decide +kernel
theorem dX11_given_3 : decode cX11_given 3 = .ok (.iload_n 1, 1) := by decide +kernel
theorem dX11_given_4 : decode cX11_given 4 = .ok (.invokevirtual 64, 3) := by decide +kernel
theorem dX11_given_7 : decode cX11_given 7 = .ok (.ifCond .ne 7, 3) := by decide +kernel
theorem dX11_given_10 : decode cX11_given 10 = .ok (.iconst 1, 1) := by decide +kernel
theorem dX11_given_11 : decode cX11_given 11 = .ok (.goto 4, 3) := by decide +kernel
theorem dX11_given_14 : decode cX11_given 14 = .ok (.iconst 0, 1) := by decide +kernel
theorem dX11_given_15 : decode cX11_given 15 = .ok (.invokevirtual 68, 3) := by decide +kernel
theorem dX11_given_18 : decode cX11_given 18 = .ok (.ifCond .eq 5, 3) := by decide +kernel
theorem dX11_given_21 : decode cX11_given 21 = .ok (.iconst 0, 1) := by decide +kernel
theorem dX11_given_22 : decode cX11_given 22 = .ok (.ireturn, 1) := by decide +kernel
theorem dX11_given_23 : decode cX11_given 23 = .ok (.aload_n 0, 1) := by decide +kernel
theorem dX11_given_24 : decode cX11_given 24 = .ok (.getfield 148, 3) := by decide +kernel
theorem dX11_given_27 : decode cX11_given 27 = .ok (.ifCond .eq 12, 3) := by decide +kernel
theorem dX11_given_30 : decode cX11_given 30 = .ok (.aload_n 0, 1) := by decide +kernel
theorem dX11_given_31 : decode cX11_given 31 = .ok (.getfield 21, 3) := by decide +kernel
theorem dX11_given_34 : decode cX11_given 34 = .ok (.iload_n 1, 1) := by decide +kernel
theorem dX11_given_35 : decode cX11_given 35 = .ok (.iaload, 1) := by decide +kernel
theorem dX11_given_36 : decode cX11_given 36 = .ok (.goto 4, 3) := by decide +kernel
theorem dX11_given_39 : decode cX11_given 39 = .ok (.iconst (-1), 1) := by decide +kernel
theorem dX11_given_40 : decode cX11_given 40 = .ok (.ireturn, 1) := by decide +kernel
set_option maxRecDepth 20000 in
theorem ggX11_answer_X11_isCell : GoodIn wsX11_answer wsX11_isCell := goodIn_r _ [7, 8, 9, 10, 6, 11, 12, 18, 19, 20, 21, 22, 23, 24, 25, 26, 27, 28, 29, 30, 31, 32, 33, 34, 35, 36, 37, 38, 39] (by decide +kernel) (by decide +kernel)
set_option maxRecDepth 20000 in
theorem gX11_answer_X11_isCell : GoodIn wsX11_answer (wsV RX11 64 RX11 yX11_isCell wsX11_isCell) := goodIn_app (goodIn_of _ (by decide +kernel)) ggX11_answer_X11_isCell
set_option maxRecDepth 20000 in
theorem ggX11_answer_X11_throwsIf : GoodIn wsX11_answer wsX11_throwsIf := goodIn_r _ [16, 17, 18, 19, 20, 21, 22, 23, 24, 25, 26, 27, 28, 29, 30, 31, 32, 33, 34, 35, 36, 37, 38, 39] (by decide +kernel) (by decide +kernel)
set_option maxRecDepth 20000 in
theorem gX11_answer_X11_throwsIf : GoodIn wsX11_answer (wsV RX11 68 RX11 yX11_throwsIf wsX11_throwsIf) := goodIn_app (goodIn_of _ (by decide +kernel)) ggX11_answer_X11_throwsIf
theorem dX11_answer_0 : decode cX11_answer 0 = .ok (.aload_n 0, 1) := by decide +kernel
theorem dX11_answer_1 : decode cX11_answer 1 = .ok (.iconst 1, 1) := by decide +kernel
theorem dX11_answer_2 : decode cX11_answer 2 = .ok (.aload_n 0, 1) := by decide +kernel
theorem dX11_answer_3 : decode cX11_answer 3 = .ok (.iload_n 1, 1) := by decide +kernel
theorem dX11_answer_4 : decode cX11_answer 4 = .ok (.invokevirtual 64, 3) := by decide +kernel
theorem dX11_answer_7 : decode cX11_answer 7 = .ok (.ifCond .ne 7, 3) := by decide +kernel
theorem dX11_answer_10 : decode cX11_answer 10 = .ok (.iconst 1, 1) := by decide +kernel
theorem dX11_answer_11 : decode cX11_answer 11 = .ok (.goto 4, 3) := by decide +kernel
theorem dX11_answer_14 : decode cX11_answer 14 = .ok (.iconst 0, 1) := by decide +kernel
theorem dX11_answer_15 : decode cX11_answer 15 = .ok (.invokevirtual 68, 3) := by decide +kernel
theorem dX11_answer_18 : decode cX11_answer 18 = .ok (.ifCond .eq 5, 3) := by decide +kernel
theorem dX11_answer_21 : decode cX11_answer 21 = .ok (.iconst 0, 1) := by decide +kernel
theorem dX11_answer_22 : decode cX11_answer 22 = .ok (.ireturn, 1) := by decide +kernel
theorem dX11_answer_23 : decode cX11_answer 23 = .ok (.aload_n 0, 1) := by decide +kernel
theorem dX11_answer_24 : decode cX11_answer 24 = .ok (.getfield 148, 3) := by decide +kernel
theorem dX11_answer_27 : decode cX11_answer 27 = .ok (.ifCond .eq 12, 3) := by decide +kernel
theorem dX11_answer_30 : decode cX11_answer 30 = .ok (.aload_n 0, 1) := by decide +kernel
theorem dX11_answer_31 : decode cX11_answer 31 = .ok (.getfield 24, 3) := by decide +kernel
theorem dX11_answer_34 : decode cX11_answer 34 = .ok (.iload_n 1, 1) := by decide +kernel
theorem dX11_answer_35 : decode cX11_answer 35 = .ok (.iaload, 1) := by decide +kernel
theorem dX11_answer_36 : decode cX11_answer 36 = .ok (.goto 4, 3) := by decide +kernel
theorem dX11_answer_39 : decode cX11_answer 39 = .ok (.iconst (-1), 1) := by decide +kernel
theorem dX11_answer_40 : decode cX11_answer 40 = .ok (.ireturn, 1) := by decide +kernel
theorem dX11_told_0 : decode cX11_told 0 = .ok (.aload_n 0, 1) := by decide +kernel
theorem dX11_told_1 : decode cX11_told 1 = .ok (.iconst 0, 1) := by decide +kernel
theorem dX11_told_2 : decode cX11_told 2 = .ok (.putfield 54, 3) := by decide +kernel
theorem dX11_told_5 : decode cX11_told 5 = .ok (.iload_n 1, 1) := by decide +kernel
theorem dX11_told_6 : decode cX11_told 6 = .ok (.ifCond .lt 9, 3) := by decide +kernel
theorem dX11_told_9 : decode cX11_told 9 = .ok (.iload_n 1, 1) := by decide +kernel
theorem dX11_told_10 : decode cX11_told 10 = .ok (.bipush 6, 2) := by decide +kernel
theorem dX11_told_12 : decode cX11_told 12 = .ok (.if_icmp .le 7, 3) := by decide +kernel
theorem dX11_told_15 : decode cX11_told 15 = .ok (.iconst (-1), 1) := by decide +kernel
theorem dX11_told_16 : decode cX11_told 16 = .ok (.goto 9, 3) := by decide +kernel
theorem dX11_told_19 : decode cX11_told 19 = .ok (.aload_n 0, 1) := by decide +kernel
theorem dX11_told_20 : decode cX11_told 20 = .ok (.getfield 18, 3) := by decide +kernel
theorem dX11_told_23 : decode cX11_told 23 = .ok (.iload_n 1, 1) := by decide +kernel
theorem dX11_told_24 : decode cX11_told 24 = .ok (.iaload, 1) := by decide +kernel
theorem dX11_told_25 : decode cX11_told 25 = .ok (.ireturn, 1) := by decide +kernel
set_option maxRecDepth 20000 in
theorem ggX11_left_X11_take : GoodIn wsX11_left wsX11_take := goodIn_r _ [7, 8, 9, 38, 39, 40, 41, 42, 43, 44, 45, 46, 47, 48, 49, 50, 51, 52, 53, 54, 55, 56, 57, 58, 59] (by decide +kernel) (by decide +kernel)
set_option maxRecDepth 20000 in
theorem gX11_left_X11_take : GoodIn wsX11_left (wsV RX11 155 RX11 yX11_take wsX11_take) := goodIn_app (goodIn_of _ (by decide +kernel)) ggX11_left_X11_take
set_option maxRecDepth 20000 in
theorem ggX11_left_X11_countLeft : GoodIn wsX11_left wsX11_countLeft := goodIn_r _ [13, 14, 8, 15, 16, 17, 18, 6, 19, 20, 21, 22, 23, 24, 25, 26, 27, 28, 29, 30, 31, 32, 33, 34, 35, 36, 37, 38, 39, 40, 41, 42, 43, 44, 45, 46, 47, 48, 49, 50, 51, 52, 53, 54, 55, 56, 57, 58, 59] (by decide +kernel) (by decide +kernel)
set_option maxRecDepth 20000 in
theorem gX11_left_X11_countLeft : GoodIn wsX11_left (wsV RX11 145 RX11 yX11_countLeft wsX11_countLeft) := goodIn_app (goodIn_of _ (by decide +kernel)) ggX11_left_X11_countLeft
theorem dX11_left_0 : decode cX11_left 0 = .ok (.aload_n 0, 1) := by decide +kernel
theorem dX11_left_1 : decode cX11_left 1 = .ok (.iconst 0, 1) := by decide +kernel
theorem dX11_left_2 : decode cX11_left 2 = .ok (.putfield 54, 3) := by decide +kernel
theorem dX11_left_5 : decode cX11_left 5 = .ok (.aload_n 0, 1) := by decide +kernel
theorem dX11_left_6 : decode cX11_left 6 = .ok (.getfield 148, 3) := by decide +kernel
theorem dX11_left_9 : decode cX11_left 9 = .ok (.ifCond .ne 5, 3) := by decide +kernel
theorem dX11_left_12 : decode cX11_left 12 = .ok (.iconst (-1), 1) := by decide +kernel
theorem dX11_left_13 : decode cX11_left 13 = .ok (.ireturn, 1) := by decide +kernel
theorem dX11_left_14 : decode cX11_left 14 = .ok (.aload_n 0, 1) := by decide +kernel
theorem dX11_left_15 : decode cX11_left 15 = .ok (.invokevirtual 155, 3) := by decide +kernel
theorem dX11_left_18 : decode cX11_left 18 = .ok (.aload_n 0, 1) := by decide +kernel
theorem dX11_left_19 : decode cX11_left 19 = .ok (.invokevirtual 145, 3) := by decide +kernel
theorem dX11_left_22 : decode cX11_left 22 = .ok (.ireturn, 1) := by decide +kernel
set_option maxRecDepth 20000 in
theorem ggX11_needed_X11_isCell : GoodIn wsX11_needed wsX11_isCell := goodIn_r _ [6, 7, 8, 9, 5, 10, 11, 55, 56, 57, 58, 59, 60, 61, 62, 63, 64, 65, 66, 67, 68, 69, 70, 71, 72, 73, 74, 75, 76] (by decide +kernel) (by decide +kernel)
set_option maxRecDepth 20000 in
theorem gX11_needed_X11_isCell : GoodIn wsX11_needed (wsV RX11 64 RX11 yX11_isCell wsX11_isCell) := goodIn_app (goodIn_of _ (by decide +kernel)) ggX11_needed_X11_isCell
set_option maxRecDepth 20000 in
theorem ggX11_needed_X11_throwsIf : GoodIn wsX11_needed wsX11_throwsIf := goodIn_r _ [15, 16, 55, 56, 57, 58, 59, 60, 61, 62, 63, 64, 65, 66, 67, 68, 69, 70, 71, 72, 73, 74, 75, 76] (by decide +kernel) (by decide +kernel)
set_option maxRecDepth 20000 in
theorem gX11_needed_X11_throwsIf : GoodIn wsX11_needed (wsV RX11 68 RX11 yX11_throwsIf wsX11_throwsIf) := goodIn_app (goodIn_of _ (by decide +kernel)) ggX11_needed_X11_throwsIf
set_option maxRecDepth 20000 in
theorem ggX11_needed_X11_take : GoodIn wsX11_needed wsX11_take := goodIn_r _ [20, 21, 22, 55, 56, 57, 58, 59, 60, 61, 62, 63, 64, 65, 66, 67, 68, 69, 70, 71, 72, 73, 74, 75, 76] (by decide +kernel) (by decide +kernel)
set_option maxRecDepth 20000 in
theorem gX11_needed_X11_take : GoodIn wsX11_needed (wsV RX11 155 RX11 yX11_take wsX11_take) := goodIn_app (goodIn_of _ (by decide +kernel)) ggX11_needed_X11_take
set_option maxRecDepth 20000 in
theorem ggX11_needed_X11_countGivens : GoodIn wsX11_needed wsX11_countGivens := goodIn_r _ [26, 21, 7, 8, 9, 5, 10, 11, 55, 56, 57, 58, 59, 60, 61, 62, 63, 64, 65, 66, 67, 68, 69, 70, 71, 72, 73, 74, 75, 76] (by decide +kernel) (by decide +kernel)
set_option maxRecDepth 20000 in
theorem gX11_needed_X11_countGivens : GoodIn wsX11_needed (wsV RX11 142 RX11 yX11_countGivens wsX11_countGivens) := goodIn_app (goodIn_of _ (by decide +kernel)) ggX11_needed_X11_countGivens
set_option maxRecDepth 20000 in
theorem ggX11_needed_X11_leastOf : GoodIn wsX11_needed wsX11_leastOf := goodIn_r _ [30, 31, 32, 33, 5, 34, 11, 35, 55, 56, 57, 58, 59, 60, 61, 62, 63, 64, 65, 66, 67, 68, 69, 70, 71, 72, 73, 74, 75, 76] (by decide +kernel) (by decide +kernel)
set_option maxRecDepth 20000 in
theorem gX11_needed_X11_leastOf : GoodIn wsX11_needed (wsV RX11 82 RX11 yX11_leastOf wsX11_leastOf) := goodIn_app (goodIn_of _ (by decide +kernel)) ggX11_needed_X11_leastOf
set_option maxRecDepth 20000 in
theorem ggX11_needed_X11_takeOut : GoodIn wsX11_needed wsX11_takeOut := goodIn_r _ [39, 21, 7, 8, 9, 5, 10, 11, 27, 28, 29, 30, 31, 32, 33, 34, 35, 55, 56, 57, 58, 59, 60, 61, 62, 63, 64, 65, 66, 67, 68, 69, 70, 71, 72, 73, 74, 75, 76] (by decide +kernel) (by decide +kernel)
set_option maxRecDepth 20000 in
theorem gX11_needed_X11_takeOut : GoodIn wsX11_needed (wsV RX11 132 RX11 yX11_takeOut wsX11_takeOut) := goodIn_app (goodIn_of _ (by decide +kernel)) ggX11_needed_X11_takeOut
set_option maxRecDepth 20000 in
theorem ggX11_needed_X11_countUpTo : GoodIn wsX11_needed wsX11_countUpTo := goodIn_r _ [43, 21, 11, 44, 7, 8, 9, 5, 10, 45, 46, 47, 48, 49, 50, 51, 52, 53, 54, 55, 56, 57, 58, 59, 60, 61, 62, 63, 64, 65, 66, 67, 68, 69, 70, 71, 72, 73, 74, 75, 76] (by decide +kernel) (by decide +kernel)
set_option maxRecDepth 20000 in
theorem gX11_needed_X11_countUpTo : GoodIn wsX11_needed (wsV RX11 136 RX11 yX11_countUpTo wsX11_countUpTo) := goodIn_app (goodIn_of _ (by decide +kernel)) ggX11_needed_X11_countUpTo
theorem dX11_needed_0 : decode cX11_needed 0 = .ok (.aload_n 0, 1) := by decide +kernel
theorem dX11_needed_1 : decode cX11_needed 1 = .ok (.iconst 1, 1) := by decide +kernel
theorem dX11_needed_2 : decode cX11_needed 2 = .ok (.aload_n 0, 1) := by decide +kernel
theorem dX11_needed_3 : decode cX11_needed 3 = .ok (.iload_n 1, 1) := by decide +kernel
theorem dX11_needed_4 : decode cX11_needed 4 = .ok (.invokevirtual 64, 3) := by decide +kernel
theorem dX11_needed_7 : decode cX11_needed 7 = .ok (.ifCond .ne 7, 3) := by decide +kernel
theorem dX11_needed_10 : decode cX11_needed 10 = .ok (.iconst 1, 1) := by decide +kernel
theorem dX11_needed_11 : decode cX11_needed 11 = .ok (.goto 4, 3) := by decide +kernel
theorem dX11_needed_14 : decode cX11_needed 14 = .ok (.iconst 0, 1) := by decide +kernel
theorem dX11_needed_15 : decode cX11_needed 15 = .ok (.invokevirtual 68, 3) := by decide +kernel
theorem dX11_needed_18 : decode cX11_needed 18 = .ok (.ifCond .ne 10, 3) := by decide +kernel
theorem dX11_needed_21 : decode cX11_needed 21 = .ok (.aload_n 0, 1) := by decide +kernel
theorem dX11_needed_22 : decode cX11_needed 22 = .ok (.getfield 148, 3) := by decide +kernel
theorem dX11_needed_25 : decode cX11_needed 25 = .ok (.ifCond .ne 5, 3) := by decide +kernel
theorem dX11_needed_28 : decode cX11_needed 28 = .ok (.iconst 0, 1) := by decide +kernel
theorem dX11_needed_29 : decode cX11_needed 29 = .ok (.ireturn, 1) := by decide +kernel
theorem dX11_needed_30 : decode cX11_needed 30 = .ok (.aload_n 0, 1) := by decide +kernel
theorem dX11_needed_31 : decode cX11_needed 31 = .ok (.invokevirtual 155, 3) := by decide +kernel
theorem dX11_needed_34 : decode cX11_needed 34 = .ok (.aload_n 0, 1) := by decide +kernel
theorem dX11_needed_35 : decode cX11_needed 35 = .ok (.invokevirtual 142, 3) := by decide +kernel
theorem dX11_needed_38 : decode cX11_needed 38 = .ok (.istore_n 2, 1) := by decide +kernel
theorem dX11_needed_39 : decode cX11_needed 39 = .ok (.aload_n 0, 1) := by decide +kernel
theorem dX11_needed_40 : decode cX11_needed 40 = .ok (.aload_n 0, 1) := by decide +kernel
theorem dX11_needed_41 : decode cX11_needed 41 = .ok (.iload_n 1, 1) := by decide +kernel
theorem dX11_needed_42 : decode cX11_needed 42 = .ok (.invokevirtual 82, 3) := by decide +kernel
theorem dX11_needed_45 : decode cX11_needed 45 = .ok (.invokevirtual 132, 3) := by decide +kernel
theorem dX11_needed_48 : decode cX11_needed 48 = .ok (.aload_n 0, 1) := by decide +kernel
theorem dX11_needed_49 : decode cX11_needed 49 = .ok (.invokevirtual 142, 3) := by decide +kernel
theorem dX11_needed_52 : decode cX11_needed 52 = .ok (.iload_n 2, 1) := by decide +kernel
theorem dX11_needed_53 : decode cX11_needed 53 = .ok (.if_icmp .ge 16, 3) := by decide +kernel
theorem dX11_needed_56 : decode cX11_needed 56 = .ok (.aload_n 0, 1) := by decide +kernel
theorem dX11_needed_57 : decode cX11_needed 57 = .ok (.iconst 2, 1) := by decide +kernel
theorem dX11_needed_58 : decode cX11_needed 58 = .ok (.invokevirtual 136, 3) := by decide +kernel
theorem dX11_needed_61 : decode cX11_needed 61 = .ok (.iconst 1, 1) := by decide +kernel
theorem dX11_needed_62 : decode cX11_needed 62 = .ok (.if_icmp .le 7, 3) := by decide +kernel
theorem dX11_needed_65 : decode cX11_needed 65 = .ok (.iconst 1, 1) := by decide +kernel
theorem dX11_needed_66 : decode cX11_needed 66 = .ok (.goto 4, 3) := by decide +kernel
theorem dX11_needed_69 : decode cX11_needed 69 = .ok (.iconst 0, 1) := by decide +kernel
theorem dX11_needed_70 : decode cX11_needed 70 = .ok (.ireturn, 1) := by decide +kernel
theorem dX11_unit_0 : decode cX11_unit 0 = .ok (.aload_n 0, 1) := by decide +kernel
theorem dX11_unit_1 : decode cX11_unit 1 = .ok (.iconst 0, 1) := by decide +kernel
theorem dX11_unit_2 : decode cX11_unit 2 = .ok (.putfield 54, 3) := by decide +kernel
theorem dX11_unit_5 : decode cX11_unit 5 = .ok (.iload_n 1, 1) := by decide +kernel
theorem dX11_unit_6 : decode cX11_unit 6 = .ok (.ifCond .lt 19, 3) := by decide +kernel
theorem dX11_unit_9 : decode cX11_unit 9 = .ok (.iload_n 1, 1) := by decide +kernel
theorem dX11_unit_10 : decode cX11_unit 10 = .ok (.sipush 255, 3) := by decide +kernel
theorem dX11_unit_13 : decode cX11_unit 13 = .ok (.if_icmp .gt 12, 3) := by decide +kernel
theorem dX11_unit_16 : decode cX11_unit 16 = .ok (.aload_n 0, 1) := by decide +kernel
theorem dX11_unit_17 : decode cX11_unit 17 = .ok (.getfield 158, 3) := by decide +kernel
theorem dX11_unit_20 : decode cX11_unit 20 = .ok (.bipush 60, 2) := by decide +kernel
theorem dX11_unit_22 : decode cX11_unit 22 = .ok (.if_icmp .ne 5, 3) := by decide +kernel
theorem dX11_unit_25 : decode cX11_unit 25 = .ok (.iconst 0, 1) := by decide +kernel
theorem dX11_unit_26 : decode cX11_unit 26 = .ok (.ireturn, 1) := by decide +kernel
theorem dX11_unit_27 : decode cX11_unit 27 = .ok (.aload_n 0, 1) := by decide +kernel
theorem dX11_unit_28 : decode cX11_unit 28 = .ok (.getfield 42, 3) := by decide +kernel
theorem dX11_unit_31 : decode cX11_unit 31 = .ok (.aload_n 0, 1) := by decide +kernel
theorem dX11_unit_32 : decode cX11_unit 32 = .ok (.getfield 158, 3) := by decide +kernel
theorem dX11_unit_35 : decode cX11_unit 35 = .ok (.iload_n 1, 1) := by decide +kernel
theorem dX11_unit_36 : decode cX11_unit 36 = .ok (.iastore, 1) := by decide +kernel
theorem dX11_unit_37 : decode cX11_unit 37 = .ok (.aload_n 0, 1) := by decide +kernel
theorem dX11_unit_38 : decode cX11_unit 38 = .ok (.dup, 1) := by decide +kernel
theorem dX11_unit_39 : decode cX11_unit 39 = .ok (.getfield 158, 3) := by decide +kernel
theorem dX11_unit_42 : decode cX11_unit 42 = .ok (.iconst 1, 1) := by decide +kernel
theorem dX11_unit_43 : decode cX11_unit 43 = .ok (.iadd, 1) := by decide +kernel
theorem dX11_unit_44 : decode cX11_unit 44 = .ok (.putfield 158, 3) := by decide +kernel
theorem dX11_unit_47 : decode cX11_unit 47 = .ok (.iconst 1, 1) := by decide +kernel
theorem dX11_unit_48 : decode cX11_unit 48 = .ok (.ireturn, 1) := by decide +kernel
set_option maxRecDepth 20000 in
theorem ggX11_read_X11_cells : GoodIn wsX11_read wsX11_cells := goodIn_r _ [9, 3, 16, 17, 18, 19, 20, 21, 22, 23, 24, 25, 26, 27, 28, 29, 30, 31, 32, 33, 34, 35, 36, 37] (by decide +kernel) (by decide +kernel)
set_option maxRecDepth 20000 in
theorem gX11_read_X11_cells : GoodIn wsX11_read (wsV RX11 57 RX11 yX11_cells wsX11_cells) := goodIn_app (goodIn_of _ (by decide +kernel)) ggX11_read_X11_cells
set_option maxRecDepth 20000 in
theorem ggX11_read_X11_sees : GoodIn wsX11_read wsX11_sees := goodIn_r _ [13, 3, 14, 15, 16, 17, 18, 19, 20, 21, 22, 23, 24, 25, 26, 27, 28, 29, 30, 31, 32, 33, 34, 35, 36, 37] (by decide +kernel) (by decide +kernel)
set_option maxRecDepth 20000 in
theorem gX11_read_X11_sees : GoodIn wsX11_read (wsV RX11 85 RX11 yX11_sees wsX11_sees) := goodIn_app (goodIn_of _ (by decide +kernel)) ggX11_read_X11_sees
theorem dX11_read_0 : decode cX11_read 0 = .ok (.iconst 0, 1) := by decide +kernel
theorem dX11_read_1 : decode cX11_read 1 = .ok (.istore_n 1, 1) := by decide +kernel
theorem dX11_read_2 : decode cX11_read 2 = .ok (.iload_n 1, 1) := by decide +kernel
theorem dX11_read_3 : decode cX11_read 3 = .ok (.aload_n 0, 1) := by decide +kernel
theorem dX11_read_4 : decode cX11_read 4 = .ok (.invokevirtual 57, 3) := by decide +kernel
theorem dX11_read_7 : decode cX11_read 7 = .ok (.if_icmp .ge 114, 3) := by decide +kernel
theorem dX11_read_10 : decode cX11_read 10 = .ok (.iload_n 1, 1) := by decide +kernel
theorem dX11_read_11 : decode cX11_read 11 = .ok (.aload_n 0, 1) := by decide +kernel
theorem dX11_read_12 : decode cX11_read 12 = .ok (.getfield 158, 3) := by decide +kernel
theorem dX11_read_15 : decode cX11_read 15 = .ok (.if_icmp .lt 5, 3) := by decide +kernel
theorem dX11_read_18 : decode cX11_read 18 = .ok (.iload_n 1, 1) := by decide +kernel
theorem dX11_read_19 : decode cX11_read 19 = .ok (.ireturn, 1) := by decide +kernel
theorem dX11_read_20 : decode cX11_read 20 = .ok (.aload_n 0, 1) := by decide +kernel
theorem dX11_read_21 : decode cX11_read 21 = .ok (.getfield 42, 3) := by decide +kernel
theorem dX11_read_24 : decode cX11_read 24 = .ok (.iload_n 1, 1) := by decide +kernel
theorem dX11_read_25 : decode cX11_read 25 = .ok (.iaload, 1) := by decide +kernel
theorem dX11_read_26 : decode cX11_read 26 = .ok (.bipush 46, 2) := by decide +kernel
theorem dX11_read_28 : decode cX11_read 28 = .ok (.if_icmp .ne 7, 3) := by decide +kernel
theorem dX11_read_31 : decode cX11_read 31 = .ok (.iconst (-1), 1) := by decide +kernel
theorem dX11_read_32 : decode cX11_read 32 = .ok (.goto 12, 3) := by decide +kernel
theorem dX11_read_35 : decode cX11_read 35 = .ok (.aload_n 0, 1) := by decide +kernel
theorem dX11_read_36 : decode cX11_read 36 = .ok (.getfield 42, 3) := by decide +kernel
theorem dX11_read_39 : decode cX11_read 39 = .ok (.iload_n 1, 1) := by decide +kernel
theorem dX11_read_40 : decode cX11_read 40 = .ok (.iaload, 1) := by decide +kernel
theorem dX11_read_41 : decode cX11_read 41 = .ok (.bipush 49, 2) := by decide +kernel
theorem dX11_read_43 : decode cX11_read 43 = .ok (.isub, 1) := by decide +kernel
theorem dX11_read_44 : decode cX11_read 44 = .ok (.istore_n 2, 1) := by decide +kernel
theorem dX11_read_45 : decode cX11_read 45 = .ok (.aload_n 0, 1) := by decide +kernel
theorem dX11_read_46 : decode cX11_read 46 = .ok (.getfield 42, 3) := by decide +kernel
theorem dX11_read_49 : decode cX11_read 49 = .ok (.iload_n 1, 1) := by decide +kernel
theorem dX11_read_50 : decode cX11_read 50 = .ok (.iaload, 1) := by decide +kernel
theorem dX11_read_51 : decode cX11_read 51 = .ok (.bipush 46, 2) := by decide +kernel
theorem dX11_read_53 : decode cX11_read 53 = .ok (.if_icmp .eq 17, 3) := by decide +kernel
theorem dX11_read_56 : decode cX11_read 56 = .ok (.iload_n 2, 1) := by decide +kernel
theorem dX11_read_57 : decode cX11_read 57 = .ok (.ifCond .lt 11, 3) := by decide +kernel
theorem dX11_read_60 : decode cX11_read 60 = .ok (.iload_n 2, 1) := by decide +kernel
theorem dX11_read_61 : decode cX11_read 61 = .ok (.aload_n 0, 1) := by decide +kernel
theorem dX11_read_62 : decode cX11_read 62 = .ok (.getfield 45, 3) := by decide +kernel
theorem dX11_read_65 : decode cX11_read 65 = .ok (.if_icmp .lt 5, 3) := by decide +kernel
theorem dX11_read_68 : decode cX11_read 68 = .ok (.iload_n 1, 1) := by decide +kernel
theorem dX11_read_69 : decode cX11_read 69 = .ok (.ireturn, 1) := by decide +kernel
theorem dX11_read_70 : decode cX11_read 70 = .ok (.iconst 0, 1) := by decide +kernel
theorem dX11_read_71 : decode cX11_read 71 = .ok (.istore_n 3, 1) := by decide +kernel
theorem dX11_read_72 : decode cX11_read 72 = .ok (.iload_n 3, 1) := by decide +kernel
theorem dX11_read_73 : decode cX11_read 73 = .ok (.iload_n 1, 1) := by decide +kernel
theorem dX11_read_74 : decode cX11_read 74 = .ok (.if_icmp .ge 34, 3) := by decide +kernel
theorem dX11_read_77 : decode cX11_read 77 = .ok (.iload_n 2, 1) := by decide +kernel
theorem dX11_read_78 : decode cX11_read 78 = .ok (.ifCond .lt 24, 3) := by decide +kernel
theorem dX11_read_81 : decode cX11_read 81 = .ok (.aload_n 0, 1) := by decide +kernel
theorem dX11_read_82 : decode cX11_read 82 = .ok (.getfield 27, 3) := by decide +kernel
theorem dX11_read_85 : decode cX11_read 85 = .ok (.iload_n 3, 1) := by decide +kernel
theorem dX11_read_86 : decode cX11_read 86 = .ok (.iaload, 1) := by decide +kernel
theorem dX11_read_87 : decode cX11_read 87 = .ok (.iload_n 2, 1) := by decide +kernel
theorem dX11_read_88 : decode cX11_read 88 = .ok (.if_icmp .ne 14, 3) := by decide +kernel
theorem dX11_read_91 : decode cX11_read 91 = .ok (.aload_n 0, 1) := by decide +kernel
theorem dX11_read_92 : decode cX11_read 92 = .ok (.iload_n 3, 1) := by decide +kernel
theorem dX11_read_93 : decode cX11_read 93 = .ok (.iload_n 1, 1) := by decide +kernel
theorem dX11_read_94 : decode cX11_read 94 = .ok (.invokevirtual 85, 3) := by decide +kernel
theorem dX11_read_97 : decode cX11_read 97 = .ok (.ifCond .eq 5, 3) := by decide +kernel
theorem dX11_read_100 : decode cX11_read 100 = .ok (.iload_n 1, 1) := by decide +kernel
theorem dX11_read_101 : decode cX11_read 101 = .ok (.ireturn, 1) := by decide +kernel
theorem dX11_read_102 : decode cX11_read 102 = .ok (.iinc 3 1, 3) := by decide +kernel
theorem dX11_read_105 : decode cX11_read 105 = .ok (.goto (-33), 3) := by decide +kernel
theorem dX11_read_108 : decode cX11_read 108 = .ok (.aload_n 0, 1) := by decide +kernel
theorem dX11_read_109 : decode cX11_read 109 = .ok (.getfield 27, 3) := by decide +kernel
theorem dX11_read_112 : decode cX11_read 112 = .ok (.iload_n 1, 1) := by decide +kernel
theorem dX11_read_113 : decode cX11_read 113 = .ok (.iload_n 2, 1) := by decide +kernel
theorem dX11_read_114 : decode cX11_read 114 = .ok (.iastore, 1) := by decide +kernel
theorem dX11_read_115 : decode cX11_read 115 = .ok (.iinc 1 1, 3) := by decide +kernel
theorem dX11_read_118 : decode cX11_read 118 = .ok (.goto (-116), 3) := by decide +kernel
theorem dX11_read_121 : decode cX11_read 121 = .ok (.aload_n 0, 1) := by decide +kernel
theorem dX11_read_122 : decode cX11_read 122 = .ok (.getfield 158, 3) := by decide +kernel
theorem dX11_read_125 : decode cX11_read 125 = .ok (.aload_n 0, 1) := by decide +kernel
theorem dX11_read_126 : decode cX11_read 126 = .ok (.invokevirtual 57, 3) := by decide +kernel
theorem dX11_read_129 : decode cX11_read 129 = .ok (.if_icmp .le 10, 3) := by decide +kernel
theorem dX11_read_132 : decode cX11_read 132 = .ok (.aload_n 0, 1) := by decide +kernel
theorem dX11_read_133 : decode cX11_read 133 = .ok (.invokevirtual 57, 3) := by decide +kernel
theorem dX11_read_136 : decode cX11_read 136 = .ok (.goto 4, 3) := by decide +kernel
theorem dX11_read_139 : decode cX11_read 139 = .ok (.iconst (-1), 1) := by decide +kernel
theorem dX11_read_140 : decode cX11_read 140 = .ok (.ireturn, 1) := by decide +kernel
set_option maxRecDepth 20000 in
theorem ggX11_answers_X11_read : GoodIn wsX11_answers wsX11_read := goodIn_r _ [7, 2, 8, 9, 10, 11, 12, 13, 6, 14, 15, 16, 17, 18, 19, 20, 30, 31, 32, 33, 34, 35, 36, 37, 38, 39, 40, 41, 42, 43, 44, 45, 46, 47, 48, 49, 50, 51] (by decide +kernel) (by decide +kernel)
set_option maxRecDepth 20000 in
theorem gX11_answers_X11_read : GoodIn wsX11_answers (wsV RX11 161 RX11 yX11_read wsX11_read) := goodIn_app (goodIn_of _ (by decide +kernel)) ggX11_answers_X11_read
set_option maxRecDepth 20000 in
theorem ggX11_answers_X11_countUpTo : GoodIn wsX11_answers wsX11_countUpTo := goodIn_r _ [24, 10, 9, 25, 11, 12, 13, 6, 14, 26, 27, 28, 29, 15, 16, 17, 18, 19, 20, 30, 31, 32, 33, 34, 35, 36, 37, 38, 39, 40, 41, 42, 43, 44, 45, 46, 47, 48, 49, 50, 51] (by decide +kernel) (by decide +kernel)
set_option maxRecDepth 20000 in
theorem gX11_answers_X11_countUpTo : GoodIn wsX11_answers (wsV RX11 136 RX11 yX11_countUpTo wsX11_countUpTo) := goodIn_app (goodIn_of _ (by decide +kernel)) ggX11_answers_X11_countUpTo
theorem dX11_answers_0 : decode cX11_answers 0 = .ok (.aload_n 0, 1) := by decide +kernel
theorem dX11_answers_1 : decode cX11_answers 1 = .ok (.iconst 0, 1) := by decide +kernel
theorem dX11_answers_2 : decode cX11_answers 2 = .ok (.putfield 54, 3) := by decide +kernel
theorem dX11_answers_5 : decode cX11_answers 5 = .ok (.aload_n 0, 1) := by decide +kernel
theorem dX11_answers_6 : decode cX11_answers 6 = .ok (.invokevirtual 161, 3) := by decide +kernel
theorem dX11_answers_9 : decode cX11_answers 9 = .ok (.istore_n 1, 1) := by decide +kernel
theorem dX11_answers_10 : decode cX11_answers 10 = .ok (.aload_n 0, 1) := by decide +kernel
theorem dX11_answers_11 : decode cX11_answers 11 = .ok (.iconst 0, 1) := by decide +kernel
theorem dX11_answers_12 : decode cX11_answers 12 = .ok (.putfield 158, 3) := by decide +kernel
theorem dX11_answers_15 : decode cX11_answers 15 = .ok (.iload_n 1, 1) := by decide +kernel
theorem dX11_answers_16 : decode cX11_answers 16 = .ok (.ifCond .lt 9, 3) := by decide +kernel
theorem dX11_answers_19 : decode cX11_answers 19 = .ok (.iconst (-1), 1) := by decide +kernel
theorem dX11_answers_20 : decode cX11_answers 20 = .ok (.iload_n 1, 1) := by decide +kernel
theorem dX11_answers_21 : decode cX11_answers 21 = .ok (.isub, 1) := by decide +kernel
theorem dX11_answers_22 : decode cX11_answers 22 = .ok (.goto 9, 3) := by decide +kernel
theorem dX11_answers_25 : decode cX11_answers 25 = .ok (.aload_n 0, 1) := by decide +kernel
theorem dX11_answers_26 : decode cX11_answers 26 = .ok (.bipush 100, 2) := by decide +kernel
theorem dX11_answers_28 : decode cX11_answers 28 = .ok (.invokevirtual 136, 3) := by decide +kernel
theorem dX11_answers_31 : decode cX11_answers 31 = .ok (.ireturn, 1) := by decide +kernel
set_option maxRecDepth 20000 in
theorem ggX11_text_X11_cells : GoodIn wsX11_text wsX11_cells := goodIn_r _ [8, 9, 10, 11, 12, 13, 14, 15, 16, 17, 18, 19, 20, 21, 22, 23, 24, 25, 26, 27, 28, 29, 30, 31] (by decide +kernel) (by decide +kernel)
set_option maxRecDepth 20000 in
theorem gX11_text_X11_cells : GoodIn wsX11_text (wsV RX11 57 RX11 yX11_cells wsX11_cells) := goodIn_app (goodIn_of _ (by decide +kernel)) ggX11_text_X11_cells
theorem dX11_text_0 : decode cX11_text 0 = .ok (.aload_n 0, 1) := by decide +kernel
theorem dX11_text_1 : decode cX11_text 1 = .ok (.iconst 0, 1) := by decide +kernel
theorem dX11_text_2 : decode cX11_text 2 = .ok (.putfield 54, 3) := by decide +kernel
theorem dX11_text_5 : decode cX11_text 5 = .ok (.aload_n 0, 1) := by decide +kernel
theorem dX11_text_6 : decode cX11_text 6 = .ok (.getfield 148, 3) := by decide +kernel
theorem dX11_text_9 : decode cX11_text 9 = .ok (.ifCond .eq 15, 3) := by decide +kernel
theorem dX11_text_12 : decode cX11_text 12 = .ok (.iload_n 1, 1) := by decide +kernel
theorem dX11_text_13 : decode cX11_text 13 = .ok (.ifCond .lt 11, 3) := by decide +kernel
theorem dX11_text_16 : decode cX11_text 16 = .ok (.iload_n 1, 1) := by decide +kernel
theorem dX11_text_17 : decode cX11_text 17 = .ok (.aload_n 0, 1) := by decide +kernel
theorem dX11_text_18 : decode cX11_text 18 = .ok (.invokevirtual 57, 3) := by decide +kernel
theorem dX11_text_21 : decode cX11_text 21 = .ok (.if_icmp .lt 5, 3) := by decide +kernel
theorem dX11_text_24 : decode cX11_text 24 = .ok (.iconst (-1), 1) := by decide +kernel
theorem dX11_text_25 : decode cX11_text 25 = .ok (.ireturn, 1) := by decide +kernel
theorem dX11_text_26 : decode cX11_text 26 = .ok (.aload_n 0, 1) := by decide +kernel
theorem dX11_text_27 : decode cX11_text 27 = .ok (.getfield 21, 3) := by decide +kernel
theorem dX11_text_30 : decode cX11_text 30 = .ok (.iload_n 1, 1) := by decide +kernel
theorem dX11_text_31 : decode cX11_text 31 = .ok (.iaload, 1) := by decide +kernel
theorem dX11_text_32 : decode cX11_text 32 = .ok (.ifCond .ge 8, 3) := by decide +kernel
theorem dX11_text_35 : decode cX11_text 35 = .ok (.bipush 46, 2) := by decide +kernel
theorem dX11_text_37 : decode cX11_text 37 = .ok (.goto 12, 3) := by decide +kernel
theorem dX11_text_40 : decode cX11_text 40 = .ok (.bipush 49, 2) := by decide +kernel
theorem dX11_text_42 : decode cX11_text 42 = .ok (.aload_n 0, 1) := by decide +kernel
theorem dX11_text_43 : decode cX11_text 43 = .ok (.getfield 21, 3) := by decide +kernel
theorem dX11_text_46 : decode cX11_text 46 = .ok (.iload_n 1, 1) := by decide +kernel
theorem dX11_text_47 : decode cX11_text 47 = .ok (.iaload, 1) := by decide +kernel
theorem dX11_text_48 : decode cX11_text 48 = .ok (.iadd, 1) := by decide +kernel
theorem dX11_text_49 : decode cX11_text 49 = .ok (.ireturn, 1) := by decide +kernel
end
section
/-! The run predicate over pictures: X holds all that stays fixed in a method's run -/
abbrev ww_G : Type := va_G × (ClassId × ClassId × ClassId × ClassId)
abbrev ww_t (g : ww_G) : List (ClassId × FieldType) := [(g.2.1, .int), (g.2.2.1, .boolean), (g.2.2.2.1, .array .int), (g.2.2.2.2, .long)]
abbrev ww_X : Type := ww_G × Program × Launch × Env × Room × State × MethodId × Array Value × List Frame × Method × Code × (Nat → Prop) × Heap × Nat × (State → Prop)
def RW (X : ww_X) (kc ks pc : Nat) (lv : List (Nat × Value)) (st : List Value) (ws : va_W) : Prop := match X with
  | (g, p, l, e, R, s, m, args, below, meth, c, A, H0, nL, Q) => ∀ (H : Heap) (locs : List Loc) (ls : Array Slot), va_P g.1 vwCl ws H → va_D A ws → va_S A H0 H locs → lv_has ls nL lv → W p l e R s m args below meth c H locs kc ks Q (F0 m pc ls st)
def ww_C (X : ww_X) (cc : ByteArray) (n0 : Nat) (own : String) (Ts : List Cond) (rm : Room) : Prop := match X with
  | (g, p, _, _, R, s, m, args, _, meth, c, A, H0, nL, _) => p.tables.exec = Jvm.exec ∧ c.code = cc ∧ c.maxLocals = n0 ∧ nL = n0 ∧ s.vm.findClass own = some m.cls ∧ (∀ w ∈ Ts, w.before args s = true) ∧ va_K g.1 vwCl (ww_t g) s ∧ (∀ q, H0.size ≤ q → A q) ∧ meth.locks = false ∧ R = rm
section
variable {X : ww_X} {cc : ByteArray} {n0 : Nat} {own : String} {Ts : List Cond} {rm : Room} {kc ks pc : Nat} {lv lv' : List (Nat × Value)} {st : List Value} {ws ws' : va_W}
theorem r_iadd {x y v : Int32} (C : ww_C X cc n0 own Ts rm) (hd : decode cc pc = .ok (.iadd, 1)) (hv : x + y = v) (k : RW X kc ks (pc + 1) lv (.int v :: st) ws) : RW X kc ks pc lv (.int y :: .int x :: st) ws := by
  obtain ⟨g, p, l, e, R, s, m, args, below, meth, c, A, H0, nL, Q⟩ := X
  obtain ⟨hx, hb, hml, rfl, hown, hts, hK, hA, hlocks, rfl⟩ := C
  intro H locs ls hP hD hS hl
  subst hv
  exact lv_iadd hx hb hd (k H locs ls hP hD hS hl)
theorem r_isub {x y v : Int32} (C : ww_C X cc n0 own Ts rm) (hd : decode cc pc = .ok (.isub, 1)) (hv : x - y = v) (k : RW X kc ks (pc + 1) lv (.int v :: st) ws) : RW X kc ks pc lv (.int y :: .int x :: st) ws := by
  obtain ⟨g, p, l, e, R, s, m, args, below, meth, c, A, H0, nL, Q⟩ := X
  obtain ⟨hx, hb, hml, rfl, hown, hts, hK, hA, hlocks, rfl⟩ := C
  intro H locs ls hP hD hS hl
  subst hv
  exact lv_isub hx hb hd (k H locs ls hP hD hS hl)
theorem r_imul {x y v : Int32} (C : ww_C X cc n0 own Ts rm) (hd : decode cc pc = .ok (.imul, 1)) (hv : x * y = v) (k : RW X kc ks (pc + 1) lv (.int v :: st) ws) : RW X kc ks pc lv (.int y :: .int x :: st) ws := by
  obtain ⟨g, p, l, e, R, s, m, args, below, meth, c, A, H0, nL, Q⟩ := X
  obtain ⟨hx, hb, hml, rfl, hown, hts, hK, hA, hlocks, rfl⟩ := C
  intro H locs ls hP hD hS hl
  subst hv
  exact lv_imul hx hb hd (k H locs ls hP hD hS hl)
theorem r_iand {x y v : Int32} (C : ww_C X cc n0 own Ts rm) (hd : decode cc pc = .ok (.iand, 1)) (hv : x &&& y = v) (k : RW X kc ks (pc + 1) lv (.int v :: st) ws) : RW X kc ks pc lv (.int y :: .int x :: st) ws := by
  obtain ⟨g, p, l, e, R, s, m, args, below, meth, c, A, H0, nL, Q⟩ := X
  obtain ⟨hx, hb, hml, rfl, hown, hts, hK, hA, hlocks, rfl⟩ := C
  intro H locs ls hP hD hS hl
  subst hv
  exact lv_iand hx hb hd (k H locs ls hP hD hS hl)
theorem r_ior {x y v : Int32} (C : ww_C X cc n0 own Ts rm) (hd : decode cc pc = .ok (.ior, 1)) (hv : x ||| y = v) (k : RW X kc ks (pc + 1) lv (.int v :: st) ws) : RW X kc ks pc lv (.int y :: .int x :: st) ws := by
  obtain ⟨g, p, l, e, R, s, m, args, below, meth, c, A, H0, nL, Q⟩ := X
  obtain ⟨hx, hb, hml, rfl, hown, hts, hK, hA, hlocks, rfl⟩ := C
  intro H locs ls hP hD hS hl
  subst hv
  exact lv_ior hx hb hd (k H locs ls hP hD hS hl)
theorem r_ixor {x y v : Int32} (C : ww_C X cc n0 own Ts rm) (hd : decode cc pc = .ok (.ixor, 1)) (hv : x ^^^ y = v) (k : RW X kc ks (pc + 1) lv (.int v :: st) ws) : RW X kc ks pc lv (.int y :: .int x :: st) ws := by
  obtain ⟨g, p, l, e, R, s, m, args, below, meth, c, A, H0, nL, Q⟩ := X
  obtain ⟨hx, hb, hml, rfl, hown, hts, hK, hA, hlocks, rfl⟩ := C
  intro H locs ls hP hD hS hl
  subst hv
  exact lv_ixor hx hb hd (k H locs ls hP hD hS hl)
theorem r_ishl {x y v : Int32} (C : ww_C X cc n0 own Ts rm) (hd : decode cc pc = .ok (.ishl, 1)) (hv : x <<< (y &&& 31) = v) (k : RW X kc ks (pc + 1) lv (.int v :: st) ws) : RW X kc ks pc lv (.int y :: .int x :: st) ws := by
  obtain ⟨g, p, l, e, R, s, m, args, below, meth, c, A, H0, nL, Q⟩ := X
  obtain ⟨hx, hb, hml, rfl, hown, hts, hK, hA, hlocks, rfl⟩ := C
  intro H locs ls hP hD hS hl
  subst hv
  exact lv_ishl hx hb hd (k H locs ls hP hD hS hl)
theorem r_ishr {x y v : Int32} (C : ww_C X cc n0 own Ts rm) (hd : decode cc pc = .ok (.ishr, 1)) (hv : x >>> (y &&& 31) = v) (k : RW X kc ks (pc + 1) lv (.int v :: st) ws) : RW X kc ks pc lv (.int y :: .int x :: st) ws := by
  obtain ⟨g, p, l, e, R, s, m, args, below, meth, c, A, H0, nL, Q⟩ := X
  obtain ⟨hx, hb, hml, rfl, hown, hts, hK, hA, hlocks, rfl⟩ := C
  intro H locs ls hP hD hS hl
  subst hv
  exact lv_ishr hx hb hd (k H locs ls hP hD hS hl)
theorem r_idiv {x y v : Int32} (C : ww_C X cc n0 own Ts rm) (hd : decode cc pc = .ok (.idiv, 1)) (hne : ¬ y = 0) (hv : x / y = v) (k : RW X kc ks (pc + 1) lv (.int v :: st) ws) : RW X kc ks pc lv (.int y :: .int x :: st) ws := by
  obtain ⟨g, p, l, e, R, s, m, args, below, meth, c, A, H0, nL, Q⟩ := X
  obtain ⟨hx, hb, hml, rfl, hown, hts, hK, hA, hlocks, rfl⟩ := C
  intro H locs ls hP hD hS hl
  subst hv
  exact lv_idiv hx hb hd hne (k H locs ls hP hD hS hl)
theorem r_irem {x y v : Int32} (C : ww_C X cc n0 own Ts rm) (hd : decode cc pc = .ok (.irem, 1)) (hne : ¬ y = 0) (hv : x - x / y * y = v) (k : RW X kc ks (pc + 1) lv (.int v :: st) ws) : RW X kc ks pc lv (.int y :: .int x :: st) ws := by
  obtain ⟨g, p, l, e, R, s, m, args, below, meth, c, A, H0, nL, Q⟩ := X
  obtain ⟨hx, hb, hml, rfl, hown, hts, hK, hA, hlocks, rfl⟩ := C
  intro H locs ls hP hD hS hl
  subst hv
  exact lv_irem hx hb hd hne (k H locs ls hP hD hS hl)
theorem r_iushr {x y v : Int32} (C : ww_C X cc n0 own Ts rm) (hd : decode cc pc = .ok (.iushr, 1)) (hv : (x.toUInt32 >>> (y.toUInt32 &&& Int32.toUInt32 31)).toInt32 = v) (k : RW X kc ks (pc + 1) lv (.int v :: st) ws) : RW X kc ks pc lv (.int y :: .int x :: st) ws := by
  obtain ⟨g, p, l, e, R, s, m, args, below, meth, c, A, H0, nL, Q⟩ := X
  obtain ⟨hx, hb, hml, rfl, hown, hts, hK, hA, hlocks, rfl⟩ := C
  intro H locs ls hP hD hS hl
  exact lv_iushr hx hb hd hv (k H locs ls hP hD hS hl)
theorem r_ladd {x y v : Int64} (C : ww_C X cc n0 own Ts rm) (hd : decode cc pc = .ok (.ladd, 1)) (hv : x + y = v) (k : RW X kc ks (pc + 1) lv (.long v :: st) ws) : RW X kc ks pc lv (.long y :: .long x :: st) ws := by
  obtain ⟨g, p, l, e, R, s, m, args, below, meth, c, A, H0, nL, Q⟩ := X
  obtain ⟨hx, hb, hml, rfl, hown, hts, hK, hA, hlocks, rfl⟩ := C
  intro H locs ls hP hD hS hl
  subst hv
  exact lv_ladd hx hb hd (k H locs ls hP hD hS hl)
theorem r_lmul {x y v : Int64} (C : ww_C X cc n0 own Ts rm) (hd : decode cc pc = .ok (.lmul, 1)) (hv : x * y = v) (k : RW X kc ks (pc + 1) lv (.long v :: st) ws) : RW X kc ks pc lv (.long y :: .long x :: st) ws := by
  obtain ⟨g, p, l, e, R, s, m, args, below, meth, c, A, H0, nL, Q⟩ := X
  obtain ⟨hx, hb, hml, rfl, hown, hts, hK, hA, hlocks, rfl⟩ := C
  intro H locs ls hP hD hS hl
  subst hv
  exact lv_lmul hx hb hd (k H locs ls hP hD hS hl)
theorem r_land {x y v : Int64} (C : ww_C X cc n0 own Ts rm) (hd : decode cc pc = .ok (.land, 1)) (hv : x &&& y = v) (k : RW X kc ks (pc + 1) lv (.long v :: st) ws) : RW X kc ks pc lv (.long y :: .long x :: st) ws := by
  obtain ⟨g, p, l, e, R, s, m, args, below, meth, c, A, H0, nL, Q⟩ := X
  obtain ⟨hx, hb, hml, rfl, hown, hts, hK, hA, hlocks, rfl⟩ := C
  intro H locs ls hP hD hS hl
  subst hv
  exact lv_land hx hb hd (k H locs ls hP hD hS hl)
theorem r_lor {x y v : Int64} (C : ww_C X cc n0 own Ts rm) (hd : decode cc pc = .ok (.lor, 1)) (hv : x ||| y = v) (k : RW X kc ks (pc + 1) lv (.long v :: st) ws) : RW X kc ks pc lv (.long y :: .long x :: st) ws := by
  obtain ⟨g, p, l, e, R, s, m, args, below, meth, c, A, H0, nL, Q⟩ := X
  obtain ⟨hx, hb, hml, rfl, hown, hts, hK, hA, hlocks, rfl⟩ := C
  intro H locs ls hP hD hS hl
  subst hv
  exact lv_lor hx hb hd (k H locs ls hP hD hS hl)
theorem r_lrem {x y v : Int64} (C : ww_C X cc n0 own Ts rm) (hd : decode cc pc = .ok (.lrem, 1)) (hne : ¬ y = 0) (hv : x - x / y * y = v) (k : RW X kc ks (pc + 1) lv (.long v :: st) ws) : RW X kc ks pc lv (.long y :: .long x :: st) ws := by
  obtain ⟨g, p, l, e, R, s, m, args, below, meth, c, A, H0, nL, Q⟩ := X
  obtain ⟨hx, hb, hml, rfl, hown, hts, hK, hA, hlocks, rfl⟩ := C
  intro H locs ls hP hD hS hl
  subst hv
  exact lv_lrem hx hb hd hne (k H locs ls hP hD hS hl)
theorem r_lshl {x v : Int64} {y : Int32} (C : ww_C X cc n0 own Ts rm) (hd : decode cc pc = .ok (.lshl, 1)) (hv : x <<< (y.toInt64 &&& 63) = v) (k : RW X kc ks (pc + 1) lv (.long v :: st) ws) : RW X kc ks pc lv (.int y :: .long x :: st) ws := by
  obtain ⟨g, p, l, e, R, s, m, args, below, meth, c, A, H0, nL, Q⟩ := X
  obtain ⟨hx, hb, hml, rfl, hown, hts, hK, hA, hlocks, rfl⟩ := C
  intro H locs ls hP hD hS hl
  exact lv_lshl hx hb hd hv (k H locs ls hP hD hS hl)
theorem r_lushr {x v : Int64} {y : Int32} (C : ww_C X cc n0 own Ts rm) (hd : decode cc pc = .ok (.lushr, 1)) (hv : (x.toUInt64 >>> (y.toInt64.toUInt64 &&& Int64.toUInt64 63)).toInt64 = v) (k : RW X kc ks (pc + 1) lv (.long v :: st) ws) : RW X kc ks pc lv (.int y :: .long x :: st) ws := by
  obtain ⟨g, p, l, e, R, s, m, args, below, meth, c, A, H0, nL, Q⟩ := X
  obtain ⟨hx, hb, hml, rfl, hown, hts, hK, hA, hlocks, rfl⟩ := C
  intro H locs ls hP hD hS hl
  exact lv_lushr hx hb hd hv (k H locs ls hP hD hS hl)
theorem r_lcmp {x y : Int64} {v : Int32} (C : ww_C X cc n0 own Ts rm) (hd : decode cc pc = .ok (.lcmp, 1)) (hv : lg_cmp x y = v) (k : RW X kc ks (pc + 1) lv (.int v :: st) ws) : RW X kc ks pc lv (.long y :: .long x :: st) ws := by
  obtain ⟨g, p, l, e, R, s, m, args, below, meth, c, A, H0, nL, Q⟩ := X
  obtain ⟨hx, hb, hml, rfl, hown, hts, hK, hA, hlocks, rfl⟩ := C
  intro H locs ls hP hD hS hl
  subst hv
  exact W.lcmp hx hb hd (k H locs ls hP hD hS hl)
theorem r_ineg {x v : Int32} (C : ww_C X cc n0 own Ts rm) (hd : decode cc pc = .ok (.ineg, 1)) (hv : -x = v) (k : RW X kc ks (pc + 1) lv (.int v :: st) ws) : RW X kc ks pc lv (.int x :: st) ws := by
  obtain ⟨g, p, l, e, R, s, m, args, below, meth, c, A, H0, nL, Q⟩ := X
  obtain ⟨hx, hb, hml, rfl, hown, hts, hK, hA, hlocks, rfl⟩ := C
  intro H locs ls hP hD hS hl
  subst hv
  exact lv_ineg hx hb hd (k H locs ls hP hD hS hl)
theorem r_l2i {x : Int64} {v : Int32} (C : ww_C X cc n0 own Ts rm) (hd : decode cc pc = .ok (.l2i, 1)) (hv : x.toInt32 = v) (k : RW X kc ks (pc + 1) lv (.int v :: st) ws) : RW X kc ks pc lv (.long x :: st) ws := by
  obtain ⟨g, p, l, e, R, s, m, args, below, meth, c, A, H0, nL, Q⟩ := X
  obtain ⟨hx, hb, hml, rfl, hown, hts, hK, hA, hlocks, rfl⟩ := C
  intro H locs ls hP hD hS hl
  exact lv_l2i hx hb hd hv (k H locs ls hP hD hS hl)
theorem r_i2l {x : Int32} {v : Int64} (C : ww_C X cc n0 own Ts rm) (hd : decode cc pc = .ok (.i2l, 1)) (hv : x.toInt64 = v) (k : RW X kc ks (pc + 1) lv (.long v :: st) ws) : RW X kc ks pc lv (.int x :: st) ws := by
  obtain ⟨g, p, l, e, R, s, m, args, below, meth, c, A, H0, nL, Q⟩ := X
  obtain ⟨hx, hb, hml, rfl, hown, hts, hK, hA, hlocks, rfl⟩ := C
  intro H locs ls hP hD hS hl
  exact lv_i2l hx hb hd hv (k H locs ls hP hD hS hl)
theorem r_dup {a : Value} (C : ww_C X cc n0 own Ts rm) (hd : decode cc pc = .ok (.dup, 1)) (ha : a.category = 1) (k : RW X kc ks (pc + 1) lv (a :: a :: st) ws) : RW X kc ks pc lv (a :: st) ws := by
  obtain ⟨g, p, l, e, R, s, m, args, below, meth, c, A, H0, nL, Q⟩ := X
  obtain ⟨hx, hb, hml, rfl, hown, hts, hK, hA, hlocks, rfl⟩ := C
  intro H locs ls hP hD hS hl
  exact lv_dup hx hb hd ha (k H locs ls hP hD hS hl)
theorem r_dup2 {a b : Value} (C : ww_C X cc n0 own Ts rm) (hd : decode cc pc = .ok (.dup2, 1)) (ha : a.category = 1) (hb2 : b.category = 1) (k : RW X kc ks (pc + 1) lv (a :: b :: a :: b :: st) ws) : RW X kc ks pc lv (a :: b :: st) ws := by
  obtain ⟨g, p, l, e, R, s, m, args, below, meth, c, A, H0, nL, Q⟩ := X
  obtain ⟨hx, hb, hml, rfl, hown, hts, hK, hA, hlocks, rfl⟩ := C
  intro H locs ls hP hD hS hl
  exact lv_dup2_11 hx hb hd ha hb2 (k H locs ls hP hD hS hl)
theorem r_dup2L {a : Value} (C : ww_C X cc n0 own Ts rm) (hd : decode cc pc = .ok (.dup2, 1)) (ha : a.category = 2) (k : RW X kc ks (pc + 1) lv (a :: a :: st) ws) : RW X kc ks pc lv (a :: st) ws := by
  obtain ⟨g, p, l, e, R, s, m, args, below, meth, c, A, H0, nL, Q⟩ := X
  obtain ⟨hx, hb, hml, rfl, hown, hts, hK, hA, hlocks, rfl⟩ := C
  intro H locs ls hP hD hS hl
  exact lv_dup2_2 hx hb hd ha (k H locs ls hP hD hS hl)
theorem r_dup_x1 {a b : Value} (C : ww_C X cc n0 own Ts rm) (hd : decode cc pc = .ok (.dup_x1, 1)) (ha : a.category = 1) (hb2 : b.category = 1) (k : RW X kc ks (pc + 1) lv (a :: b :: a :: st) ws) : RW X kc ks pc lv (a :: b :: st) ws := by
  obtain ⟨g, p, l, e, R, s, m, args, below, meth, c, A, H0, nL, Q⟩ := X
  obtain ⟨hx, hb, hml, rfl, hown, hts, hK, hA, hlocks, rfl⟩ := C
  intro H locs ls hP hD hS hl
  exact lv_dup_x1 hx hb hd ha hb2 (k H locs ls hP hD hS hl)
theorem r_dup_x2 {a b d : Value} (C : ww_C X cc n0 own Ts rm) (hd : decode cc pc = .ok (.dup_x2, 1)) (ha : a.category = 1) (hb2 : b.category = 1) (hd2 : d.category = 1) (k : RW X kc ks (pc + 1) lv (a :: b :: d :: a :: st) ws) : RW X kc ks pc lv (a :: b :: d :: st) ws := by
  obtain ⟨g, p, l, e, R, s, m, args, below, meth, c, A, H0, nL, Q⟩ := X
  obtain ⟨hx, hb, hml, rfl, hown, hts, hK, hA, hlocks, rfl⟩ := C
  intro H locs ls hP hD hS hl
  exact lv_dup_x2 hx hb hd ha hb2 hd2 (k H locs ls hP hD hS hl)
theorem r_pop {a : Value} (C : ww_C X cc n0 own Ts rm) (hd : decode cc pc = .ok (.pop, 1)) (ha : a.category = 1) (k : RW X kc ks (pc + 1) lv st ws) : RW X kc ks pc lv (a :: st) ws := by
  obtain ⟨g, p, l, e, R, s, m, args, below, meth, c, A, H0, nL, Q⟩ := X
  obtain ⟨hx, hb, hml, rfl, hown, hts, hK, hA, hlocks, rfl⟩ := C
  intro H locs ls hP hD hS hl
  exact lv_pop hx hb hd ha (k H locs ls hP hD hS hl)
theorem r_if_eq {x : Int32} {off : Int} {tgt : Nat} (C : ww_C X cc n0 own Ts rm) (hd : decode cc pc = .ok (.ifCond .eq off, 3)) (ht : (pc : Int) + off = (tgt : Int)) (kt : x = 0 → RW X kc ks tgt lv st ws) (kf : ¬ x = 0 → RW X kc ks (pc + 3) lv st ws) : RW X kc ks pc lv (.int x :: st) ws := by
  obtain ⟨g, p, l, e, R, s, m, args, below, meth, c, A, H0, nL, Q⟩ := X
  obtain ⟨hx, hb, hml, rfl, hown, hts, hK, hA, hlocks, rfl⟩ := C
  intro H locs ls hP hD hS hl
  exact lv_if_eq hx hb hd ht (fun h => kt h H locs ls hP hD hS hl) (fun h => kf h H locs ls hP hD hS hl)
theorem r_if_ne {x : Int32} {off : Int} {tgt : Nat} (C : ww_C X cc n0 own Ts rm) (hd : decode cc pc = .ok (.ifCond .ne off, 3)) (ht : (pc : Int) + off = (tgt : Int)) (kt : ¬ x = 0 → RW X kc ks tgt lv st ws) (kf : x = 0 → RW X kc ks (pc + 3) lv st ws) : RW X kc ks pc lv (.int x :: st) ws := by
  obtain ⟨g, p, l, e, R, s, m, args, below, meth, c, A, H0, nL, Q⟩ := X
  obtain ⟨hx, hb, hml, rfl, hown, hts, hK, hA, hlocks, rfl⟩ := C
  intro H locs ls hP hD hS hl
  exact lv_if_ne hx hb hd ht (fun h => kt h H locs ls hP hD hS hl) (fun h => kf h H locs ls hP hD hS hl)
theorem r_if_lt {x : Int32} {off : Int} {tgt : Nat} (C : ww_C X cc n0 own Ts rm) (hd : decode cc pc = .ok (.ifCond .lt off, 3)) (ht : (pc : Int) + off = (tgt : Int)) (kt : x < 0 → RW X kc ks tgt lv st ws) (kf : ¬ x < 0 → RW X kc ks (pc + 3) lv st ws) : RW X kc ks pc lv (.int x :: st) ws := by
  obtain ⟨g, p, l, e, R, s, m, args, below, meth, c, A, H0, nL, Q⟩ := X
  obtain ⟨hx, hb, hml, rfl, hown, hts, hK, hA, hlocks, rfl⟩ := C
  intro H locs ls hP hD hS hl
  exact lv_if_lt hx hb hd ht (fun h => kt h H locs ls hP hD hS hl) (fun h => kf h H locs ls hP hD hS hl)
theorem r_if_ge {x : Int32} {off : Int} {tgt : Nat} (C : ww_C X cc n0 own Ts rm) (hd : decode cc pc = .ok (.ifCond .ge off, 3)) (ht : (pc : Int) + off = (tgt : Int)) (kt : 0 ≤ x → RW X kc ks tgt lv st ws) (kf : ¬ 0 ≤ x → RW X kc ks (pc + 3) lv st ws) : RW X kc ks pc lv (.int x :: st) ws := by
  obtain ⟨g, p, l, e, R, s, m, args, below, meth, c, A, H0, nL, Q⟩ := X
  obtain ⟨hx, hb, hml, rfl, hown, hts, hK, hA, hlocks, rfl⟩ := C
  intro H locs ls hP hD hS hl
  exact lv_if_ge hx hb hd ht (fun h => kt h H locs ls hP hD hS hl) (fun h => kf h H locs ls hP hD hS hl)
theorem r_if_gt {x : Int32} {off : Int} {tgt : Nat} (C : ww_C X cc n0 own Ts rm) (hd : decode cc pc = .ok (.ifCond .gt off, 3)) (ht : (pc : Int) + off = (tgt : Int)) (kt : 0 < x → RW X kc ks tgt lv st ws) (kf : ¬ 0 < x → RW X kc ks (pc + 3) lv st ws) : RW X kc ks pc lv (.int x :: st) ws := by
  obtain ⟨g, p, l, e, R, s, m, args, below, meth, c, A, H0, nL, Q⟩ := X
  obtain ⟨hx, hb, hml, rfl, hown, hts, hK, hA, hlocks, rfl⟩ := C
  intro H locs ls hP hD hS hl
  exact lv_if_gt hx hb hd ht (fun h => kt h H locs ls hP hD hS hl) (fun h => kf h H locs ls hP hD hS hl)
theorem r_if_le {x : Int32} {off : Int} {tgt : Nat} (C : ww_C X cc n0 own Ts rm) (hd : decode cc pc = .ok (.ifCond .le off, 3)) (ht : (pc : Int) + off = (tgt : Int)) (kt : x ≤ 0 → RW X kc ks tgt lv st ws) (kf : ¬ x ≤ 0 → RW X kc ks (pc + 3) lv st ws) : RW X kc ks pc lv (.int x :: st) ws := by
  obtain ⟨g, p, l, e, R, s, m, args, below, meth, c, A, H0, nL, Q⟩ := X
  obtain ⟨hx, hb, hml, rfl, hown, hts, hK, hA, hlocks, rfl⟩ := C
  intro H locs ls hP hD hS hl
  exact lv_if_le hx hb hd ht (fun h => kt h H locs ls hP hD hS hl) (fun h => kf h H locs ls hP hD hS hl)
theorem r_icmp_eq {x y : Int32} {off : Int} {tgt : Nat} (C : ww_C X cc n0 own Ts rm) (hd : decode cc pc = .ok (.if_icmp .eq off, 3)) (ht : (pc : Int) + off = (tgt : Int)) (kt : x = y → RW X kc ks tgt lv st ws) (kf : ¬ x = y → RW X kc ks (pc + 3) lv st ws) : RW X kc ks pc lv (.int y :: .int x :: st) ws := by
  obtain ⟨g, p, l, e, R, s, m, args, below, meth, c, A, H0, nL, Q⟩ := X
  obtain ⟨hx, hb, hml, rfl, hown, hts, hK, hA, hlocks, rfl⟩ := C
  intro H locs ls hP hD hS hl
  exact lv_icmp_eq hx hb hd ht (fun h => kt h H locs ls hP hD hS hl) (fun h => kf h H locs ls hP hD hS hl)
theorem r_icmp_ne {x y : Int32} {off : Int} {tgt : Nat} (C : ww_C X cc n0 own Ts rm) (hd : decode cc pc = .ok (.if_icmp .ne off, 3)) (ht : (pc : Int) + off = (tgt : Int)) (kt : ¬ x = y → RW X kc ks tgt lv st ws) (kf : x = y → RW X kc ks (pc + 3) lv st ws) : RW X kc ks pc lv (.int y :: .int x :: st) ws := by
  obtain ⟨g, p, l, e, R, s, m, args, below, meth, c, A, H0, nL, Q⟩ := X
  obtain ⟨hx, hb, hml, rfl, hown, hts, hK, hA, hlocks, rfl⟩ := C
  intro H locs ls hP hD hS hl
  exact lv_icmp_ne hx hb hd ht (fun h => kt h H locs ls hP hD hS hl) (fun h => kf h H locs ls hP hD hS hl)
theorem r_icmp_lt {x y : Int32} {off : Int} {tgt : Nat} (C : ww_C X cc n0 own Ts rm) (hd : decode cc pc = .ok (.if_icmp .lt off, 3)) (ht : (pc : Int) + off = (tgt : Int)) (kt : x < y → RW X kc ks tgt lv st ws) (kf : ¬ x < y → RW X kc ks (pc + 3) lv st ws) : RW X kc ks pc lv (.int y :: .int x :: st) ws := by
  obtain ⟨g, p, l, e, R, s, m, args, below, meth, c, A, H0, nL, Q⟩ := X
  obtain ⟨hx, hb, hml, rfl, hown, hts, hK, hA, hlocks, rfl⟩ := C
  intro H locs ls hP hD hS hl
  exact lv_icmp_lt hx hb hd ht (fun h => kt h H locs ls hP hD hS hl) (fun h => kf h H locs ls hP hD hS hl)
theorem r_icmp_ge {x y : Int32} {off : Int} {tgt : Nat} (C : ww_C X cc n0 own Ts rm) (hd : decode cc pc = .ok (.if_icmp .ge off, 3)) (ht : (pc : Int) + off = (tgt : Int)) (kt : y ≤ x → RW X kc ks tgt lv st ws) (kf : ¬ y ≤ x → RW X kc ks (pc + 3) lv st ws) : RW X kc ks pc lv (.int y :: .int x :: st) ws := by
  obtain ⟨g, p, l, e, R, s, m, args, below, meth, c, A, H0, nL, Q⟩ := X
  obtain ⟨hx, hb, hml, rfl, hown, hts, hK, hA, hlocks, rfl⟩ := C
  intro H locs ls hP hD hS hl
  exact lv_icmp_ge hx hb hd ht (fun h => kt h H locs ls hP hD hS hl) (fun h => kf h H locs ls hP hD hS hl)
theorem r_icmp_gt {x y : Int32} {off : Int} {tgt : Nat} (C : ww_C X cc n0 own Ts rm) (hd : decode cc pc = .ok (.if_icmp .gt off, 3)) (ht : (pc : Int) + off = (tgt : Int)) (kt : y < x → RW X kc ks tgt lv st ws) (kf : ¬ y < x → RW X kc ks (pc + 3) lv st ws) : RW X kc ks pc lv (.int y :: .int x :: st) ws := by
  obtain ⟨g, p, l, e, R, s, m, args, below, meth, c, A, H0, nL, Q⟩ := X
  obtain ⟨hx, hb, hml, rfl, hown, hts, hK, hA, hlocks, rfl⟩ := C
  intro H locs ls hP hD hS hl
  exact lv_icmp_gt hx hb hd ht (fun h => kt h H locs ls hP hD hS hl) (fun h => kf h H locs ls hP hD hS hl)
theorem r_icmp_le {x y : Int32} {off : Int} {tgt : Nat} (C : ww_C X cc n0 own Ts rm) (hd : decode cc pc = .ok (.if_icmp .le off, 3)) (ht : (pc : Int) + off = (tgt : Int)) (kt : x ≤ y → RW X kc ks tgt lv st ws) (kf : ¬ x ≤ y → RW X kc ks (pc + 3) lv st ws) : RW X kc ks pc lv (.int y :: .int x :: st) ws := by
  obtain ⟨g, p, l, e, R, s, m, args, below, meth, c, A, H0, nL, Q⟩ := X
  obtain ⟨hx, hb, hml, rfl, hown, hts, hK, hA, hlocks, rfl⟩ := C
  intro H locs ls hP hD hS hl
  exact lv_icmp_le hx hb hd ht (fun h => kt h H locs ls hP hD hS hl) (fun h => kf h H locs ls hP hD hS hl)
theorem r_goto {off : Int} {tgt : Nat} (C : ww_C X cc n0 own Ts rm) (hd : decode cc pc = .ok (.goto off, 3)) (ht : (pc : Int) + off = (tgt : Int)) (k : RW X kc ks tgt lv st ws) : RW X kc ks pc lv st ws := by
  obtain ⟨g, p, l, e, R, s, m, args, below, meth, c, A, H0, nL, Q⟩ := X
  obtain ⟨hx, hb, hml, rfl, hown, hts, hK, hA, hlocks, rfl⟩ := C
  intro H locs ls hP hD hS hl
  exact lv_goto hx hb hd ht (k H locs ls hP hD hS hl)
theorem r_iconst {n : Int} {v : Int32} (C : ww_C X cc n0 own Ts rm) (hd : decode cc pc = .ok (.iconst n, 1)) (hv : Int32.ofInt n = v) (k : RW X kc ks (pc + 1) lv (.int v :: st) ws) : RW X kc ks pc lv st ws := by
  obtain ⟨g, p, l, e, R, s, m, args, below, meth, c, A, H0, nL, Q⟩ := X
  obtain ⟨hx, hb, hml, rfl, hown, hts, hK, hA, hlocks, rfl⟩ := C
  intro H locs ls hP hD hS hl
  exact lv_iconst hx hb hd hv (k H locs ls hP hD hS hl)
theorem r_bipush {n : Int} {v : Int32} (C : ww_C X cc n0 own Ts rm) (hd : decode cc pc = .ok (.bipush n, 2)) (hv : (Int8.ofInt n).toInt32 = v) (k : RW X kc ks (pc + 2) lv (.int v :: st) ws) : RW X kc ks pc lv st ws := by
  obtain ⟨g, p, l, e, R, s, m, args, below, meth, c, A, H0, nL, Q⟩ := X
  obtain ⟨hx, hb, hml, rfl, hown, hts, hK, hA, hlocks, rfl⟩ := C
  intro H locs ls hP hD hS hl
  exact lv_bipush hx hb hd hv (k H locs ls hP hD hS hl)
theorem r_sipush {n : Int} {v : Int32} (C : ww_C X cc n0 own Ts rm) (hd : decode cc pc = .ok (.sipush n, 3)) (hv : (Int16.ofInt n).toInt32 = v) (k : RW X kc ks (pc + 3) lv (.int v :: st) ws) : RW X kc ks pc lv st ws := by
  obtain ⟨g, p, l, e, R, s, m, args, below, meth, c, A, H0, nL, Q⟩ := X
  obtain ⟨hx, hb, hml, rfl, hown, hts, hK, hA, hlocks, rfl⟩ := C
  intro H locs ls hP hD hS hl
  exact lv_sipush hx hb hd hv (k H locs ls hP hD hS hl)
theorem r_lconst {n : Fin 2} {v : Int64} (C : ww_C X cc n0 own Ts rm) (hd : decode cc pc = .ok (.lconst n, 1)) (hv : Int64.ofNat (n : Nat) = v) (k : RW X kc ks (pc + 1) lv (.long v :: st) ws) : RW X kc ks pc lv st ws := by
  obtain ⟨g, p, l, e, R, s, m, args, below, meth, c, A, H0, nL, Q⟩ := X
  obtain ⟨hx, hb, hml, rfl, hown, hts, hK, hA, hlocks, rfl⟩ := C
  intro H locs ls hP hD hS hl
  exact lv_lconst hx hb hd hv (k H locs ls hP hD hS hl)
theorem r_ldc {index : Nat} {v : Int32} (C : ww_C X cc n0 own Ts rm) (hd : decode cc pc = .ok (.ldc index, 2)) (hm : Cond.constant own index v ∈ Ts) (k : RW X kc ks (pc + 2) lv (.int v :: st) ws) : RW X kc ks pc lv st ws := by
  obtain ⟨g, p, l, e, R, s, m, args, below, meth, c, A, H0, nL, Q⟩ := X
  obtain ⟨hx, hb, hml, rfl, hown, hts, hK, hA, hlocks, rfl⟩ := C
  intro H locs ls hP hD hS hl
  exact lv_ldc hx hb hown (hts _ hm) hd (k H locs ls hP hD hS hl)
theorem r_ldcw {index : Nat} {v : Int32} (C : ww_C X cc n0 own Ts rm) (hd : decode cc pc = .ok (.ldc_w index, 3)) (hm : Cond.constant own index v ∈ Ts) (k : RW X kc ks (pc + 3) lv (.int v :: st) ws) : RW X kc ks pc lv st ws := by
  obtain ⟨g, p, l, e, R, s, m, args, below, meth, c, A, H0, nL, Q⟩ := X
  obtain ⟨hx, hb, hml, rfl, hown, hts, hK, hA, hlocks, rfl⟩ := C
  intro H locs ls hP hD hS hl
  exact lv_ldcw hx hb hown (hts _ hm) hd (k H locs ls hP hD hS hl)
theorem r_ldc2 {index : Nat} {v : Int64} (C : ww_C X cc n0 own Ts rm) (hd : decode cc pc = .ok (.ldc2_w index, 3)) (hm : Cond.constantLong own index v ∈ Ts) (k : RW X kc ks (pc + 3) lv (.long v :: st) ws) : RW X kc ks pc lv st ws := by
  obtain ⟨g, p, l, e, R, s, m, args, below, meth, c, A, H0, nL, Q⟩ := X
  obtain ⟨hx, hb, hml, rfl, hown, hts, hK, hA, hlocks, rfl⟩ := C
  intro H locs ls hP hD hS hl
  exact lv_ldc2 hx hb hown (hts _ hm) hd (k H locs ls hP hD hS hl)
theorem r_iload_n {k0 : Fin 4} {i : Nat} {x : Int32} (C : ww_C X cc n0 own Ts rm) (hd : decode cc pc = .ok (.iload_n k0, 1)) (j : Nat) (hi : (k0 : Nat) = i) (hj : lv[j]? = some (i, .int x)) (k : RW X kc ks (pc + 1) lv (.int x :: st) ws) : RW X kc ks pc lv st ws := by
  obtain ⟨g, p, l, e, R, s, m, args, below, meth, c, A, H0, nL, Q⟩ := X
  obtain ⟨hx, hb, hml, rfl, hown, hts, hK, hA, hlocks, rfl⟩ := C
  intro H locs ls hP hD hS hl
  exact lv_iload_n hx hb hd hi (lv_at hl j hj) (k H locs ls hP hD hS hl)
theorem r_iload {i : Nat} {x : Int32} (C : ww_C X cc n0 own Ts rm) (hd : decode cc pc = .ok (.iload i, 2)) (j : Nat) (hj : lv[j]? = some (i, .int x)) (k : RW X kc ks (pc + 2) lv (.int x :: st) ws) : RW X kc ks pc lv st ws := by
  obtain ⟨g, p, l, e, R, s, m, args, below, meth, c, A, H0, nL, Q⟩ := X
  obtain ⟨hx, hb, hml, rfl, hown, hts, hK, hA, hlocks, rfl⟩ := C
  intro H locs ls hP hD hS hl
  exact lv_iload hx hb hd (lv_at hl j hj) (k H locs ls hP hD hS hl)
theorem r_lload_n {k0 : Fin 4} {i : Nat} {x : Int64} (C : ww_C X cc n0 own Ts rm) (hd : decode cc pc = .ok (.lload_n k0, 1)) (j : Nat) (hi : (k0 : Nat) = i) (hj : lv[j]? = some (i, .long x)) (k : RW X kc ks (pc + 1) lv (.long x :: st) ws) : RW X kc ks pc lv st ws := by
  obtain ⟨g, p, l, e, R, s, m, args, below, meth, c, A, H0, nL, Q⟩ := X
  obtain ⟨hx, hb, hml, rfl, hown, hts, hK, hA, hlocks, rfl⟩ := C
  intro H locs ls hP hD hS hl
  exact lv_lload_n hx hb hd hi (lv_at hl j hj) (k H locs ls hP hD hS hl)
theorem r_lload {i : Nat} {x : Int64} (C : ww_C X cc n0 own Ts rm) (hd : decode cc pc = .ok (.lload i, 2)) (j : Nat) (hj : lv[j]? = some (i, .long x)) (k : RW X kc ks (pc + 2) lv (.long x :: st) ws) : RW X kc ks pc lv st ws := by
  obtain ⟨g, p, l, e, R, s, m, args, below, meth, c, A, H0, nL, Q⟩ := X
  obtain ⟨hx, hb, hml, rfl, hown, hts, hK, hA, hlocks, rfl⟩ := C
  intro H locs ls hP hD hS hl
  exact lv_lload hx hb hd (lv_at hl j hj) (k H locs ls hP hD hS hl)
theorem r_aload_n {k0 : Fin 4} {i : Nat} {x : Nat} (C : ww_C X cc n0 own Ts rm) (hd : decode cc pc = .ok (.aload_n k0, 1)) (j : Nat) (hi : (k0 : Nat) = i) (hj : lv[j]? = some (i, .ref x)) (k : RW X kc ks (pc + 1) lv (.ref x :: st) ws) : RW X kc ks pc lv st ws := by
  obtain ⟨g, p, l, e, R, s, m, args, below, meth, c, A, H0, nL, Q⟩ := X
  obtain ⟨hx, hb, hml, rfl, hown, hts, hK, hA, hlocks, rfl⟩ := C
  intro H locs ls hP hD hS hl
  exact lv_aload_n hx hb hd hi (lv_at hl j hj) (k H locs ls hP hD hS hl)
theorem r_aload {i : Nat} {x : Nat} (C : ww_C X cc n0 own Ts rm) (hd : decode cc pc = .ok (.aload i, 2)) (j : Nat) (hj : lv[j]? = some (i, .ref x)) (k : RW X kc ks (pc + 2) lv (.ref x :: st) ws) : RW X kc ks pc lv st ws := by
  obtain ⟨g, p, l, e, R, s, m, args, below, meth, c, A, H0, nL, Q⟩ := X
  obtain ⟨hx, hb, hml, rfl, hown, hts, hK, hA, hlocks, rfl⟩ := C
  intro H locs ls hP hD hS hl
  exact lv_aload hx hb hd (lv_at hl j hj) (k H locs ls hP hD hS hl)
theorem r_istore_n {k0 : Fin 4} {i : Nat} {x : Int32} (C : ww_C X cc n0 own Ts rm) (hd : decode cc pc = .ok (.istore_n k0, 1)) (hi : (k0 : Nat) = i) (hn : i < n0) (ps : List Nat) (hl9 : lv_pick ((i, Value.int x) :: lv.filter (fun q => !(q.1 == i) && !(q.1 + 1 == i && q.2.category == 2))) ps = lv') (k : RW X kc ks (pc + 1) lv' st ws) : RW X kc ks pc lv (Value.int x :: st) ws := by
  obtain ⟨g, p, l, e, R, s, m, args, below, meth, c, A, H0, nL, Q⟩ := X
  obtain ⟨hx, hb, hml, rfl, hown, hts, hK, hA, hlocks, rfl⟩ := C
  intro H locs ls hP hD hS hl
  exact lv_istore_n hx hb hd hi hl hn rfl (fun ls2 hl2 => k H locs ls2 hP hD hS (lv_sub hl2 ps hl9))
theorem r_istore {i : Nat} {x : Int32} (C : ww_C X cc n0 own Ts rm) (hd : decode cc pc = .ok (.istore i, 2)) (hn : i < n0) (ps : List Nat) (hl9 : lv_pick ((i, Value.int x) :: lv.filter (fun q => !(q.1 == i) && !(q.1 + 1 == i && q.2.category == 2))) ps = lv') (k : RW X kc ks (pc + 2) lv' st ws) : RW X kc ks pc lv (Value.int x :: st) ws := by
  obtain ⟨g, p, l, e, R, s, m, args, below, meth, c, A, H0, nL, Q⟩ := X
  obtain ⟨hx, hb, hml, rfl, hown, hts, hK, hA, hlocks, rfl⟩ := C
  intro H locs ls hP hD hS hl
  exact lv_istore hx hb hd hl hn rfl (fun ls2 hl2 => k H locs ls2 hP hD hS (lv_sub hl2 ps hl9))
theorem r_lstore_n {k0 : Fin 4} {i : Nat} {x : Int64} (C : ww_C X cc n0 own Ts rm) (hd : decode cc pc = .ok (.lstore_n k0, 1)) (hi : (k0 : Nat) = i) (hn : i + 1 < n0) (ps : List Nat) (hl9 : lv_pick ((i, Value.long x) :: lv.filter (fun q => !(q.1 == i) && (!(q.1 == i + 1) && !(q.1 + 1 == i && q.2.category == 2)))) ps = lv') (k : RW X kc ks (pc + 1) lv' st ws) : RW X kc ks pc lv (Value.long x :: st) ws := by
  obtain ⟨g, p, l, e, R, s, m, args, below, meth, c, A, H0, nL, Q⟩ := X
  obtain ⟨hx, hb, hml, rfl, hown, hts, hK, hA, hlocks, rfl⟩ := C
  intro H locs ls hP hD hS hl
  exact lv_lstore_n hx hb hd hi hl hn rfl (fun ls2 hl2 => k H locs ls2 hP hD hS (lv_sub hl2 ps hl9))
theorem r_lstore {i : Nat} {x : Int64} (C : ww_C X cc n0 own Ts rm) (hd : decode cc pc = .ok (.lstore i, 2)) (hn : i + 1 < n0) (ps : List Nat) (hl9 : lv_pick ((i, Value.long x) :: lv.filter (fun q => !(q.1 == i) && (!(q.1 == i + 1) && !(q.1 + 1 == i && q.2.category == 2)))) ps = lv') (k : RW X kc ks (pc + 2) lv' st ws) : RW X kc ks pc lv (Value.long x :: st) ws := by
  obtain ⟨g, p, l, e, R, s, m, args, below, meth, c, A, H0, nL, Q⟩ := X
  obtain ⟨hx, hb, hml, rfl, hown, hts, hK, hA, hlocks, rfl⟩ := C
  intro H locs ls hP hD hS hl
  exact lv_lstore hx hb hd hl hn rfl (fun ls2 hl2 => k H locs ls2 hP hD hS (lv_sub hl2 ps hl9))
theorem r_astore_n {k0 : Fin 4} {i : Nat} {x : Nat} (C : ww_C X cc n0 own Ts rm) (hd : decode cc pc = .ok (.astore_n k0, 1)) (hi : (k0 : Nat) = i) (hn : i < n0) (ps : List Nat) (hl9 : lv_pick ((i, Value.ref x) :: lv.filter (fun q => !(q.1 == i) && !(q.1 + 1 == i && q.2.category == 2))) ps = lv') (k : RW X kc ks (pc + 1) lv' st ws) : RW X kc ks pc lv (Value.ref x :: st) ws := by
  obtain ⟨g, p, l, e, R, s, m, args, below, meth, c, A, H0, nL, Q⟩ := X
  obtain ⟨hx, hb, hml, rfl, hown, hts, hK, hA, hlocks, rfl⟩ := C
  intro H locs ls hP hD hS hl
  exact lv_astore_n hx hb hd hi hl hn rfl (fun ls2 hl2 => k H locs ls2 hP hD hS (lv_sub hl2 ps hl9))
theorem r_astore {i : Nat} {x : Nat} (C : ww_C X cc n0 own Ts rm) (hd : decode cc pc = .ok (.astore i, 2)) (hn : i < n0) (ps : List Nat) (hl9 : lv_pick ((i, Value.ref x) :: lv.filter (fun q => !(q.1 == i) && !(q.1 + 1 == i && q.2.category == 2))) ps = lv') (k : RW X kc ks (pc + 2) lv' st ws) : RW X kc ks pc lv (Value.ref x :: st) ws := by
  obtain ⟨g, p, l, e, R, s, m, args, below, meth, c, A, H0, nL, Q⟩ := X
  obtain ⟨hx, hb, hml, rfl, hown, hts, hK, hA, hlocks, rfl⟩ := C
  intro H locs ls hP hD hS hl
  exact lv_astore hx hb hd hl hn rfl (fun ls2 hl2 => k H locs ls2 hP hD hS (lv_sub hl2 ps hl9))
theorem r_iinc {i : Nat} {n : Int} {x v : Int32} (C : ww_C X cc n0 own Ts rm) (hd : decode cc pc = .ok (.iinc i n, 3)) (j : Nat) (hj : lv[j]? = some (i, .int x)) (hv : x + Int32.ofInt n = v) (hn : i < n0) (ps : List Nat) (hl9 : lv_pick ((i, Value.int v) :: lv.filter (fun q => !(q.1 == i) && !(q.1 + 1 == i && q.2.category == 2))) ps = lv') (k : RW X kc ks (pc + 3) lv' st ws) : RW X kc ks pc lv st ws := by
  obtain ⟨g, p, l, e, R, s, m, args, below, meth, c, A, H0, nL, Q⟩ := X
  obtain ⟨hx, hb, hml, rfl, hown, hts, hK, hA, hlocks, rfl⟩ := C
  intro H locs ls hP hD hS hl
  exact lv_iinc hx hb hd hl hj hv hn rfl (fun ls2 hl2 => k H locs ls2 hP hD hS (lv_sub hl2 ps hl9))
theorem r_top {x y : Int32} (h : x = y) (k : RW X kc ks pc lv (.int y :: st) ws) : RW X kc ks pc lv (.int x :: st) ws := h ▸ k
theorem r_lv (ps : List Nat) (h : lv_pick lv ps = lv') (k : RW X kc ks pc lv' st ws) : RW X kc ks pc lv st ws := by
  obtain ⟨g, p, l, e, R, s, m, args, below, meth, c, A, H0, nL, Q⟩ := X
  intro H locs ls hP hD hS hl
  exact k H locs ls hP hD hS (lv_sub hl ps h)
theorem r_widen {kc2 ks2 : Nat} (h1 : kc ≤ kc2) (h2 : ks ≤ ks2) (k : RW X kc2 ks2 pc lv st ws) : RW X kc ks pc lv st ws := by
  obtain ⟨g, p, l, e, R, s, m, args, below, meth, c, A, H0, nL, Q⟩ := X
  intro H locs ls hP hD hS hl
  exact W.widen h1 h2 (k H locs ls hP hD hS hl)
/-- two pictures of one heap: the same addresses, and what the second says holds where the first does -/
theorem r_ws (ha : ws'.map Prod.fst = ws.map Prod.fst) (h : ∀ (g : ww_G) (H : Heap), va_P g.1 vwCl ws H → va_P g.1 vwCl ws' H) (k : RW X kc ks pc lv st ws') : RW X kc ks pc lv st ws := by
  obtain ⟨g, p, l, e, R, s, m, args, below, meth, c, A, H0, nL, Q⟩ := X
  intro H locs ls hP hD hS hl
  refine k H locs ls (h g H hP) ?_ hS hl
  have hadr : ∀ (i : Nat) (q : Nat × va_E), ws'[i]? = some q → ∃ q2, ws[i]? = some q2 ∧ q2.1 = q.1 := by
    intro i q hq
    have h1 : (ws'.map Prod.fst)[i]? = some q.1 := by rw [List.getElem?_map, hq]; rfl
    rw [ha, List.getElem?_map] at h1
    cases h2 : ws[i]? with
    | none => rw [h2] at h1; cases h1
    | some q2 => rw [h2] at h1; exact ⟨q2, rfl, Option.some.inj h1⟩
  refine ⟨fun i j p q hi hj e => ?_, fun i q hi => ?_⟩
  · obtain ⟨p2, hp2, ep⟩ := hadr i p hi
    obtain ⟨q2, hq2, eq⟩ := hadr j q hj
    exact hD.1 i j p2 q2 hp2 hq2 (by rw [ep, eq, e])
  · obtain ⟨q2, hq2, eq⟩ := hadr i q hi
    rw [← eq]
    exact hD.2 i q2 hq2
theorem r_get {C0 : String} {T : u_T} {N ci index a : Nat} {fs : List Value} {v : Value} (C : ww_C X cc n0 own Ts rm) (hd : decode cc pc = .ok (.getfield index, 3)) (hin : ∀ w ∈ u_ws C0 T N, w ∈ Ts) (k : Nat) (hm : Cond.fieldLink own index (T k).1 (T k).2.1 (T k).2.2.1 ∈ Ts) (q0 : Nat) (he : ws[q0]? = some (a, .inr (ci, fs))) (hc : vwCl[ci]? = some (C0, T, N)) (hk : k < N) (hv : fs[k]? = some v) (kk : RW X kc ks (pc + 3) lv (v :: st) ws) : RW X kc ks pc lv (.ref a :: st) ws := by
  obtain ⟨g, p, l, e, R, s, m, args, below, meth, c, A, H0, nL, Q⟩ := X
  obtain ⟨hx, hb, hml, rfl, hown, hts, hK, hA, hlocks, rfl⟩ := C
  intro H locs ls hP hD hS hl
  exact va_get hx hb hts hin hown hK hP q0 he hc k hk (hts _ hm) (fun _ h9 => h9) hv hd (kk H locs ls hP hD hS hl)
theorem r_put {C0 : String} {T : u_T} {N ci index a : Nat} {fs : List Value} {v : Value} {ty : FieldType} (C : ww_C X cc n0 own Ts rm) (hd : decode cc pc = .ok (.putfield index, 3)) (hin : ∀ w ∈ u_ws C0 T N, w ∈ Ts) (ty0 : Nat → FieldType) (hty : ∀ k, k < N → parseFieldDescriptor (T k).2.2.1 = some (ty0 k)) (hnm : ∀ a, a < N → ∀ b, b < N → a ≠ b → (T a).2.1 ≠ (T b).2.1) (k : Nat) (hm : Cond.fieldLink own index (T k).1 (T k).2.1 (T k).2.2.1 ∈ Ts) (q0 : Nat) (he : ws[q0]? = some (a, .inr (ci, fs))) (hc : vwCl[ci]? = some (C0, T, N)) (hk : k < N) (hfin : (T k).2.2.2 = false) (hd2 : ty0 k = ty) (hn : narrow ty v = v) (hfit : fits ty v = true) (hl0 : k < fs.length) (hws : ws.set q0 (a, .inr (ci, fs.set k v)) = ws') (kk : RW X kc ks (pc + 3) lv st ws') : RW X kc ks pc lv (v :: .ref a :: st) ws := by
  obtain ⟨g, p, l, e, R, s, m, args, below, meth, c, A, H0, nL, Q⟩ := X
  obtain ⟨hx, hb, hml, rfl, hown, hts, hK, hA, hlocks, rfl⟩ := C
  intro H locs ls hP hD hS hl
  subst hws
  subst hd2
  exact va_put hx hb hts hin ty0 hty hnm hown hK hP hD hS q0 he hc k hk (hts _ hm) (fun _ h9 => h9) hfin (hty k hk) hn hfit hl0 hd (fun H1 locs1 hP1 hD1 hS1 => kk H1 locs1 ls hP1 hD1 hS1 hl)
theorem r_iald {a n i : Nat} {f : Nat → Int32} (C : ww_C X cc n0 own Ts rm) (hd : decode cc pc = .ok (.iaload, 1)) (q0 : Nat) (ha : ws[q0]? = some (a, .inl (X.1.2.1, n, .inl f))) (hi : i < n) (hn : n < 2147483648) (k : RW X kc ks (pc + 1) lv (.int (f i) :: st) ws) : RW X kc ks pc lv (.int (nI i) :: .ref a :: st) ws := by
  obtain ⟨g, p, l, e, R, s, m, args, below, meth, c, A, H0, nL, Q⟩ := X
  obtain ⟨hx, hb, hml, rfl, hown, hts, hK, hA, hlocks, rfl⟩ := C
  intro H locs ls hP hD hS hl
  have hk9 := k H locs ls hP hD hS hl
  have e9 : (nI i).toNatClampNeg = i := nI_clamp (by omega)
  refine va_iald hx hb hK hP q0 0 ha rfl (vp_in_nI hi hn) hd ?_
  rw [e9]
  exact hk9
theorem r_zald {a n i : Nat} {f : Nat → Int32} (C : ww_C X cc n0 own Ts rm) (hd : decode cc pc = .ok (.baload, 1)) (q0 : Nat) (ha : ws[q0]? = some (a, .inl (X.1.2.2.1, n, .inl f))) (hi : i < n) (hn : n < 2147483648) (k : RW X kc ks (pc + 1) lv (.int (f i) :: st) ws) : RW X kc ks pc lv (.int (nI i) :: .ref a :: st) ws := by
  obtain ⟨g, p, l, e, R, s, m, args, below, meth, c, A, H0, nL, Q⟩ := X
  obtain ⟨hx, hb, hml, rfl, hown, hts, hK, hA, hlocks, rfl⟩ := C
  intro H locs ls hP hD hS hl
  have hk9 := k H locs ls hP hD hS hl
  have e9 : (nI i).toNatClampNeg = i := nI_clamp (by omega)
  refine va_zald hx hb hK hP q0 1 ha rfl (vp_in_nI hi hn) hd ?_
  rw [e9]
  exact hk9
theorem r_iast {a n i : Nat} {f : Nat → Int32} {x : Int32} (C : ww_C X cc n0 own Ts rm) (hd : decode cc pc = .ok (.iastore, 1)) (q0 : Nat) (ha : ws[q0]? = some (a, .inl (X.1.2.1, n, .inl f))) (hi : i < n) (hn : n < 2147483648) (hws : ws.set q0 (a, .inl (X.1.2.1, n, .inl (upd f i (x)))) = ws') (k : RW X kc ks (pc + 1) lv st ws') : RW X kc ks pc lv (.int x :: .int (nI i) :: .ref a :: st) ws := by
  obtain ⟨g, p, l, e, R, s, m, args, below, meth, c, A, H0, nL, Q⟩ := X
  obtain ⟨hx, hb, hml, rfl, hown, hts, hK, hA, hlocks, rfl⟩ := C
  intro H locs ls hP hD hS hl
  subst hws
  have e9 : (nI i).toNatClampNeg = i := nI_clamp (by omega)
  refine va_iast hx hb hK hP hD hS q0 0 ha rfl (vp_in_nI hi hn) hd (fun H1 locs1 hP1 hD1 hS1 => ?_)
  rw [e9] at hP1 hD1
  exact k H1 locs1 ls hP1 hD1 hS1 hl
theorem r_zast {a n i : Nat} {f : Nat → Int32} {x : Int32} (C : ww_C X cc n0 own Ts rm) (hd : decode cc pc = .ok (.bastore, 1)) (q0 : Nat) (ha : ws[q0]? = some (a, .inl (X.1.2.2.1, n, .inl f))) (hi : i < n) (hn : n < 2147483648) (hws : ws.set q0 (a, .inl (X.1.2.2.1, n, .inl (upd f i (vp_nar .boolean x)))) = ws') (k : RW X kc ks (pc + 1) lv st ws') : RW X kc ks pc lv (.int x :: .int (nI i) :: .ref a :: st) ws := by
  obtain ⟨g, p, l, e, R, s, m, args, below, meth, c, A, H0, nL, Q⟩ := X
  obtain ⟨hx, hb, hml, rfl, hown, hts, hK, hA, hlocks, rfl⟩ := C
  intro H locs ls hP hD hS hl
  subst hws
  have e9 : (nI i).toNatClampNeg = i := nI_clamp (by omega)
  refine va_zast hx hb hK hP hD hS q0 1 ha rfl (vp_in_nI hi hn) hd (fun H1 locs1 hP1 hD1 hS1 => ?_)
  rw [e9] at hP1 hD1
  exact k H1 locs1 ls hP1 hD1 hS1 hl
theorem r_alen {a : Nat} {x : vp_A} {v : Int32} (C : ww_C X cc n0 own Ts rm) (hd : decode cc pc = .ok (.arraylength, 1)) (q0 t0 : Nat) {cA : ClassId} (ha : ws[q0]? = some (a, .inl (cA, x))) {ty : FieldType} (ht : (ww_t X.1)[t0]? = some (cA, ty)) (hv : Int32.ofNat x.1 = v) (k : RW X kc ks (pc + 1) lv (.int v :: st) ws) : RW X kc ks pc lv (.ref a :: st) ws := by
  obtain ⟨g, p, l, e, R, s, m, args, below, meth, c, A, H0, nL, Q⟩ := X
  obtain ⟨hx, hb, hml, rfl, hown, hts, hK, hA, hlocks, rfl⟩ := C
  intro H locs ls hP hD hS hl
  exact va_alen hx hb hK hP q0 t0 ha ht hv hd (k H locs ls hP hD hS hl)
theorem r_lald {a n i : Nat} {f : Nat → Int64} (C : ww_C X cc n0 own Ts rm) (hd : decode cc pc = .ok (.laload, 1)) (q0 : Nat) (ha : ws[q0]? = some (a, .inl (X.1.2.2.2.2, n, .inr (.inl f)))) (hi : i < n) (hn : n < 2147483648) (k : RW X kc ks (pc + 1) lv (.long (f i) :: st) ws) : RW X kc ks pc lv (.int (nI i) :: .ref a :: st) ws := by
  obtain ⟨g, p, l, e, R, s, m, args, below, meth, c, A, H0, nL, Q⟩ := X
  obtain ⟨hx, hb, hml, rfl, hown, hts, hK, hA, hlocks, rfl⟩ := C
  intro H locs ls hP hD hS hl
  have hk9 := k H locs ls hP hD hS hl
  have e9 : (nI i).toNatClampNeg = i := nI_clamp (by omega)
  refine va_lald hx hb hK hP q0 3 ha rfl (vp_in_nI hi hn) hd ?_
  rw [e9]
  exact hk9
theorem r_last {a n i : Nat} {f : Nat → Int64} {x : Int64} (C : ww_C X cc n0 own Ts rm) (hd : decode cc pc = .ok (.lastore, 1)) (q0 : Nat) (ha : ws[q0]? = some (a, .inl (X.1.2.2.2.2, n, .inr (.inl f)))) (hi : i < n) (hn : n < 2147483648) (hws : ws.set q0 (a, .inl (X.1.2.2.2.2, n, .inr (.inl (vp_updL f i x)))) = ws') (k : RW X kc ks (pc + 1) lv st ws') : RW X kc ks pc lv (.long x :: .int (nI i) :: .ref a :: st) ws := by
  obtain ⟨g, p, l, e, R, s, m, args, below, meth, c, A, H0, nL, Q⟩ := X
  obtain ⟨hx, hb, hml, rfl, hown, hts, hK, hA, hlocks, rfl⟩ := C
  intro H locs ls hP hD hS hl
  subst hws
  have e9 : (nI i).toNatClampNeg = i := nI_clamp (by omega)
  refine va_last hx hb hK hP hD hS q0 3 ha rfl (vp_in_nI hi hn) hd (fun H1 locs1 hP1 hD1 hS1 => ?_)
  rw [e9] at hP1 hD1
  exact k H1 locs1 ls hP1 hD1 hS1 hl
end
end
section
/-! Contracts over pictures, and calls -/
def ww_put : va_W → List Nat → va_W → va_W
  | ws, i :: is, x :: xs => ww_put (ws.set i x) is xs
  | ws, [], _ => ws
  | ws, _ :: _, [] => ws
theorem ww_put_get : ∀ (is : List Nat) (xs ws : va_W) (k : Nat) (q : Nat × va_E), (ww_put ws is xs)[k]? = some q → (∃ j : Nat, is[j]? = some k ∧ xs[j]? = some q) ∨ (ws[k]? = some q ∧ ∀ (j : Nat) (x : Nat × va_E), is[j]? = some k → xs[j]? = some x → False) := by
  intro is
  induction is with
  | nil =>
    intro xs ws k q h
    exact Or.inr ⟨by simpa [ww_put] using h, fun j x h1 => by simp at h1⟩
  | cons i is ih =>
    intro xs ws k q h
    cases xs with
    | nil => exact Or.inr ⟨by simpa [ww_put] using h, fun j x _ h2 => by simp at h2⟩
    | cons x xs =>
      rcases ih xs (ws.set i x) k q h with ⟨j, h1, h2⟩ | ⟨h1, h2⟩
      · exact Or.inl ⟨j + 1, by simpa using h1, by simpa using h2⟩
      · by_cases hki : i = k
        · subst hki
          rw [List.getElem?_set] at h1
          simp only [if_true] at h1
          by_cases hl : i < ws.length
          · rw [if_pos hl] at h1
            exact Or.inl ⟨0, by simp, by simpa using h1⟩
          · rw [if_neg hl] at h1; cases h1
        · rw [List.getElem?_set_ne hki] at h1
          refine Or.inr ⟨h1, fun j y g1 g2 => ?_⟩
          cases j with
          | zero => simp at g1; exact hki g1
          | succ j => exact h2 j y (by simpa using g1) (by simpa using g2)
theorem ww_put_fst : ∀ (is : List Nat) (xs ws : va_W), (∀ (j i : Nat) (x : Nat × va_E), is[j]? = some i → xs[j]? = some x → ∃ q, ws[i]? = some q ∧ q.1 = x.1) → (ww_put ws is xs).map Prod.fst = ws.map Prod.fst := by
  intro is
  induction is with
  | nil => intro xs ws _; simp [ww_put]
  | cons i is ih =>
    intro xs ws h
    cases xs with
    | nil => simp [ww_put]
    | cons x xs =>
      obtain ⟨q, hq, e⟩ := h 0 i x (by simp) (by simp)
      have hs : (ws.set i x).map Prod.fst = ws.map Prod.fst := by
        apply List.ext_getElem?
        intro k
        rw [List.getElem?_map, List.getElem?_map, List.getElem?_set]
        by_cases hk : i = k
        · subst hk
          have hl : i < ws.length := (List.getElem?_eq_some_iff.mp hq).1
          simp [hl, hq, e]
          have h9 := List.getElem?_eq_some_iff.mp hq
          obtain ⟨h91, h92⟩ := h9
          rw [h92, e]
        · simp [hk]
      show (ww_put (ws.set i x) is xs).map Prod.fst = _
      rw [ih xs (ws.set i x) (fun j i2 y g1 g2 => ?_), hs]
      obtain ⟨q2, hq2, e2⟩ := h (j + 1) i2 y (by simpa using g1) (by simpa using g2)
      have h3 : ((ws.set i x).map Prod.fst)[i2]? = some q2.1 := by rw [hs, List.getElem?_map, hq2]; rfl
      rw [List.getElem?_map] at h3
      cases h4 : (ws.set i x)[i2]? with
      | none => rw [h4] at h3; cases h3
      | some q3 => rw [h4] at h3; exact ⟨q3, rfl, (Option.some.inj h3).trans e2⟩
theorem ww_Dof {A : Nat → Prop} {ws ws' : va_W} (ha : ws'.map Prod.fst = ws.map Prod.fst) (hD : va_D A ws) : va_D A ws' := by
  have hadr : ∀ (i : Nat) (q : Nat × va_E), ws'[i]? = some q → ∃ q2, ws[i]? = some q2 ∧ q2.1 = q.1 := by
    intro i q hq
    have h1 : (ws'.map Prod.fst)[i]? = some q.1 := by rw [List.getElem?_map, hq]; rfl
    rw [ha, List.getElem?_map] at h1
    cases h2 : ws[i]? with
    | none => rw [h2] at h1; cases h1
    | some q2 => rw [h2] at h1; exact ⟨q2, rfl, Option.some.inj h1⟩
  refine ⟨fun i j p q hi hj e => ?_, fun i q hi => ?_⟩
  · obtain ⟨p2, hp2, ep⟩ := hadr i p hi
    obtain ⟨q2, hq2, eq⟩ := hadr j q hj
    exact hD.1 i j p2 q2 hp2 hq2 (by rw [ep, eq, e])
  · obtain ⟨q2, hq2, eq⟩ := hadr i q hi
    rw [← eq]
    exact hD.2 i q2 hq2
theorem ww_pos {ws wc : va_W} {is : List Nat} (hs : is.map (fun i => ws[i]?) = wc.map some) (k : Nat) (q : Nat × va_E) (hq : wc[k]? = some q) : ∃ i, is[k]? = some i ∧ ws[i]? = some q := by
  have h1 : (is.map (fun i => ws[i]?))[k]? = some (some q) := by rw [hs, List.getElem?_map, hq]; rfl
  rw [List.getElem?_map] at h1
  cases hi : is[k]? with
  | none => rw [hi] at h1; cases h1
  | some i => rw [hi] at h1; exact ⟨i, rfl, Option.some.inj h1⟩
theorem ww_pos2 {ws wc : va_W} {is : List Nat} (hs : is.map (fun i => ws[i]?) = wc.map some) (k i : Nat) (hi : is[k]? = some i) : ∃ q, wc[k]? = some q ∧ ws[i]? = some q := by
  have h1 : (wc.map some)[k]? = some (ws[i]?) := by rw [← hs, List.getElem?_map, hi]; rfl
  rw [List.getElem?_map] at h1
  cases hq : wc[k]? with
  | none => rw [hq] at h1; cases h1
  | some q => rw [hq] at h1; exact ⟨q, rfl, (Option.some.inj h1).symm⟩
theorem ww_fstAt {a b : va_W} (h : a.map Prod.fst = b.map Prod.fst) {k : Nat} {q : Nat × va_E} (hq : b[k]? = some q) : ∃ x, a[k]? = some x ∧ x.1 = q.1 := by
  have h1 : (a.map Prod.fst)[k]? = some q.1 := by rw [h, List.getElem?_map, hq]; rfl
  rw [List.getElem?_map] at h1
  cases h2 : a[k]? with
  | none => rw [h2] at h1; cases h1
  | some x => rw [h2] at h1; exact ⟨x, rfl, Option.some.inj h1⟩
theorem ww_join {A0 : Nat → Prop} {D : va_G} {cl : List vw_C} {ws wc wo wn : va_W} {H H1 : Heap} (hP : va_P D cl ws H) (hD : va_D A0 ws) (is : List Nat) (hC : is.map (fun i => ws[i]?) = wc.map some) (hadr : wo.map Prod.fst = wc.map Prod.fst)
    (hk : ∀ q : Nat, q < H.size → ¬ va_A wc H.size q → H1[q]? = H[q]?) (hF : ∀ q, va_A wc H.size q → A0 q) (hP1 : va_P D cl (wo ++ wn) H1) (hD1 : va_D (va_A wc H.size) (wo ++ wn)) : va_P D cl (ww_put ws is wo ++ wn) H1 ∧ va_D A0 (ww_put ws is wo ++ wn) := by
  have hfst : (ww_put ws is wo).map Prod.fst = ws.map Prod.fst := by
    refine ww_put_fst is wo ws (fun j i x h1 h2 => ?_)
    obtain ⟨q, g1, g2⟩ := ww_pos2 hC j i h1
    obtain ⟨x2, g3, g4⟩ := ww_fstAt hadr g1
    cases Option.some.inj (h2.symm.trans g3)
    exact ⟨q, g2, g4.symm⟩
  have hn : va_P D cl wn H1 := fun k q hq => hP1 (wo.length + k) q (by rw [List.getElem?_append_right (by omega)]; simpa using hq)
  have hlt : ∀ (k : Nat) (q : Nat × va_E), (ww_put ws is wo)[k]? = some q → q.1 < H.size := by
    intro k q hq
    obtain ⟨x, h1, h2⟩ := ww_fstAt hfst.symm hq
    rw [← h2]
    exact (hP k x h1).lt
  refine ⟨va_P.app (fun k q hq => ?_) hn, va_D.app (ww_Dof hfst hD) ?_ ?_⟩
  · rcases ww_put_get is wo ws k q hq with ⟨j, h1, h2⟩ | ⟨h1, h2⟩
    · exact hP1 j q (by rw [List.getElem?_append_left (List.getElem?_eq_some_iff.mp h2).1]; exact h2)
    · have hl := (hP k q h1).lt
      refine (hP k q h1).kept (hk q.1 hl (fun h => ?_))
      rcases h with ⟨k2, e, h⟩ | h
      · obtain ⟨i, g1, g2⟩ := ww_pos hC k2 _ h
        have hij := hD.1 k i q (q.1, e) h1 g2 rfl
        subst hij
        obtain ⟨x, g3, -⟩ := ww_fstAt hadr h
        exact h2 k2 x g1 g3
      · omega
  · refine ⟨fun i j p q hi hj e => ?_, fun k q hq => ?_⟩
    · have := hD1.1 (wo.length + i) (wo.length + j) p q (by rw [List.getElem?_append_right (by omega)]; simpa using hi) (by rw [List.getElem?_append_right (by omega)]; simpa using hj) e
      omega
    · exact hF _ (hD1.2 (wo.length + k) q (by rw [List.getElem?_append_right (by omega)]; simpa using hq))
  · intro i j x y hx hy hxy
    have h1 := hlt i x hx
    have h2 := hD1.2 (wo.length + j) y (by rw [List.getElem?_append_right (by omega)]; simpa using hy)
    rcases h2 with ⟨k2, e, h⟩ | h
    · obtain ⟨z, g3, g4⟩ := ww_fstAt hadr h
      have hlz : k2 < wo.length := (List.getElem?_eq_some_iff.mp g3).1
      have := hD1.1 k2 (wo.length + j) z y (by rw [List.getElem?_append_left hlz]; exact g3) (by rw [List.getElem?_append_right (by omega)]; simpa using hy) g4
      omega
    · omega
/-- a method's contract: from any heap that holds the picture wc it returns v with 'post v u', and the heap holds w1 u -/
def CT (g : ww_G) (l : Launch) (y : MethodName) (wd : List Cond) (rm : Room) (av : List Value) (wc : va_W) {S : Type} (post : Option Value → S → Prop) (w1 : S → va_W) : Prop :=
  ∀ sz : Nat, Met l y wd rm (va_Pc av (fun U => U.heap.size = sz ∧ va_P g.1 vwCl wc U.heap ∧ va_K g.1 vwCl (ww_t g) U ∧ va_D (fun _ => True) wc))
    (fun _ st oc t => (∃ (v : Option Value) (u : S), oc = .returned v ∧ post v u ∧ va_P g.1 vwCl (w1 u) t.heap ∧ va_D (va_A wc sz) (w1 u)) ∧ va_F (va_A wc sz) st t) rm.cells rm.slots (va_A wc sz)
def ww_ret (cc : ByteArray) (pc : Nat) (ret : Option FieldType) (v : Option Value) : Prop :=
  (v = none ∧ ret = none ∧ decode cc pc = .ok (.return_, 1)) ∨ ∃ x : Int32, v = some (.int x) ∧ decode cc pc = .ok (.ireturn, 1) ∧ (ret = some .int ∨ (ret = some .boolean ∧ (x = 0 ∨ x = 1)))
theorem CT.of {g : ww_G} {l : Launch} {y : MethodName} {wd wd' : List Cond} {rm : Room} {av : List Value} {wc : va_W} {S : Type} {post : Option Value → S → Prop} {w1 : S → va_W} (cc : ByteArray) (n0 : Nat) (ret : Option FieldType) (own : String)
    (hy : plainName y.cls = true) (hw : wd = Cond.code y cc n0 ret :: wd') (hown0 : y.cls = own) (hav : (lg_sl av).length ≤ n0)
    (body : ∀ X : ww_X, X.1 = g → X.2.2.1 = l → ww_C X cc n0 own wd rm → (∀ (pc : Nat) (lv : List (Nat × Value)) (v : Option Value) (u : S), post v u → ww_ret cc pc ret v → RW X rm.cells rm.slots pc lv v.toList (w1 u)) → RW X 0 0 0 (lv_args 0 av) [] wc) :
    CT g l y wd rm av wc post w1 := by
  intro sz
  refine Met.ofW (cc := cc) (maxL := n0) (ret := ret) hy hw ?_
  intro p e s m args below meth c s₁ B hml hv
  obtain ⟨rfl, hsz, hP, hK, hD0⟩ := hv
  have hts := atoms_spec (ws := wd) B.pre
  have hown : s.vm.findClass own = some m.cls := by rw [← hown0]; exact findClass_of_methodNamed B.named
  have hlocks := B.notSynchronized
  subst hsz
  have hD := hD0.self (sz := s.heap.size)
  have hl := lv_entry av (n := n0) hav
  rw [lg_entry_eq]
  generalize hAe : va_A wc s.heap.size = A at hD ⊢
  have hA : ∀ q : Nat, s.heap.size ≤ q → A q := fun q h => by rw [← hAe]; exact Or.inr h
  refine body (g, p, l, e, rm, s, m, av.toArray, below, meth, c, A, s.heap, n0, _) rfl rfl ⟨B.exec, B.bytes, hml, rfl, hown, hts, hK, hA, hlocks, rfl⟩ ?_ s.heap [] _ hP hD va_S.rf hl
  intro pc lv v u hpost hret H locs ls hP1 hD1 hS1 hl1
  rcases hret with ⟨rfl, hr0, hd⟩ | ⟨x, rfl, hd, hr0⟩
  · exact W.vret B.exec B.bytes (B.returns.trans hr0) (fun t ht hW => ⟨⟨none, u, rfl, hpost, by rw [ht]; exact hP1, hD1⟩, hS1.F ht⟩) hS1.2.2 hd
  · rcases hr0 with hr0 | ⟨hr0, hx⟩
    · exact W.iret B.exec B.bytes (B.returns.trans hr0) (fun t ht hW => ⟨⟨_, u, rfl, hpost, by rw [ht]; exact hP1, hD1⟩, hS1.F ht⟩) hS1.2.2 hd
    · exact W.zret B.exec B.bytes (B.returns.trans hr0) (by rcases hx with rfl | rfl <;> rfl) (fun t ht hW => ⟨⟨_, u, rfl, hpost, by rw [ht]; exact hP1, hD1⟩, hS1.F ht⟩) hS1.2.2 hd
section
variable {p : Program} {l : Launch} {e : Env} {R : Room} {s : State} {m : MethodId} {args : Array Value} {below : List Frame} {meth : Method} {c : Code} {H : Heap} {locs : List Loc} {cells slots : Nat} {Q : State → Prop}
theorem ww_callg {D : va_G} {wc : va_W} {S : Type} {post : Option Value → S → Prop} {w1 : S → va_W} {A0 : Nat → Prop} {H0 : Heap} {mc ms pc : Nat} {ls : Array Slot} {st0 rest : List Value}
    (hr : va_Run p l e R s m args below meth c H locs cells slots mc ms (F0 m pc ls st0) rest (fun st oc t => (∃ (v : Option Value) (u : S), oc = .returned v ∧ post v u ∧ va_P D vwCl (w1 u) t.heap ∧ va_D (va_A wc H.size) (w1 u)) ∧ va_F (va_A wc H.size) st t) (va_A wc H.size))
    (hS : va_S A0 H0 H locs) (hF : ∀ q, va_A wc H.size q → A0 q)
    (kk : ∀ (v : Option Value) (u : S) (H1 : Heap) (locs1 : List Loc), post v u → va_P D vwCl (w1 u) H1 → va_D (va_A wc H.size) (w1 u) → (∀ q : Nat, q < H.size → ¬ va_A wc H.size q → H1[q]? = H[q]?) → va_S A0 H0 H1 locs1 → W p l e R s m args below meth c H1 locs1 (cells + mc) (slots + ms) Q (F0 m (pc + 3) ls (v.toList ++ rest))) : W p l e R s m args below meth c H locs cells slots Q (F0 m pc ls st0) := by
  intro T hT X
  obtain ⟨v, st₀, t, T', L, h0, X', hL, e1, e2, ⟨⟨v2, u, hv, hp, hP1, hD1⟩, hz, hk⟩, st⟩ := hr T hT X
  cases hv
  rw [h0] at hz hk
  obtain ⟨t2, a1, b1⟩ := kk v u T'.heap (locs ++ L) hp (by rw [e1]; exact hP1) hD1 (fun q h1 h2 => by rw [e1]; exact hk q h1 h2)
    ⟨Nat.le_trans hS.1 (by rw [e1]; exact hz), fun q h1 h2 => by rw [e1, hk q (Nat.lt_of_lt_of_le h1 hS.1) (fun z => h2 (hF q z))]; exact hS.2.1 q h1 h2, fun q hq => by
      rcases List.mem_append.mp hq with h | h
      · exact hS.2.2 q h
      · exact hF _ (hL q h)⟩ T' rfl X'
  exact ⟨t2, st t2 a1, b1⟩
end
section
variable {X : ww_X} {cc : ByteArray} {n0 : Nat} {own : String} {Ts : List Cond} {rm : Room} {kc ks pc : Nat} {lv : List (Nat × Value)} {st : List Value} {ws : va_W}
variable {y : MethodName} {wd wd' : List Cond} {rmY : Room} {b : Nat} {As : List Value} {wc : va_W} {S : Type} {post : Option Value → S → Prop} {w1 : S → va_W} {index n maxL : Nat} {bytes : ByteArray} {ret : Option FieldType} {rest : List Value} {ws' : S → va_W}
theorem ww_pre {g : ww_G} {s : State} {H : Heap} {A : Nat → Prop} {av : List Value} (hP : va_P g.1 vwCl wc H) (hK : va_K g.1 vwCl (ww_t g) s) (hD : va_D A wc) : FrameBlind (va_Pc av (fun U => U.heap.size = H.size ∧ va_P g.1 vwCl wc U.heap ∧ va_K g.1 vwCl (ww_t g) U ∧ va_D (fun _ => True) wc)) ∧ ∀ U : State, U.heap = H → s.WarmedH U.vm → va_Pc av (fun U => U.heap.size = H.size ∧ va_P g.1 vwCl wc U.heap ∧ va_K g.1 vwCl (ww_t g) U ∧ va_D (fun _ => True) wc) av.toArray U :=
  ⟨fun a U g0 mk q => by obtain ⟨q0, q1, qP, qK, qD⟩ := q; exact ⟨q0, q1, qP, va_K.moved (u := U) (U := U.calling g0 mk a) (Vm.Alike.refl U.vm) qK, qD⟩, fun U hU hW => ⟨rfl, by rw [hU], by rw [hU]; exact hP, va_K.moved hW.alike hK, hD.weaken (fun _ _ _ _ => trivial)⟩⟩
theorem ww_subP {D : va_G} {H : Heap} {is : List Nat} (hP : va_P D vwCl ws H) (hC : is.map (fun i => ws[i]?) = wc.map some) : va_P D vwCl wc H := fun k q hq => by
  obtain ⟨i, -, h2⟩ := ww_pos hC k q hq
  exact hP i q h2
theorem ww_subD {A : Nat → Prop} {is : List Nat} (hD : va_D A ws) (hn : va_nd is = true) (hC : is.map (fun i => ws[i]?) = wc.map some) : va_D A wc := hD.sub is hn hC
theorem r_callV {CC : String} {ci N : Nat} {T : u_T} {fs : List Value} (C : ww_C X cc n0 own Ts rm) (hd : decode cc pc = .ok (.invokevirtual index, 3)) (hM : CT X.1 X.2.2.1 y wd rmY (.ref b :: As) wc post w1) (hg : GoodIn Ts (wsV own index CC y wd)) (hw : wd = Cond.code y bytes maxL ret :: wd')
    (hdesc : y.cls = CC ∧ y.cls ≠ "java/lang/invoke/MethodHandle" ∧ y.cls ≠ "java/lang/invoke/VarHandle" ∧ (parseMethodDescriptor y.desc).map (fun d => d.parameters.length) = some n) (hn : As.length = n) (hR : rmY.frames + 1 ≤ rm.frames ∧ 8 + (maxL + 11) + rmY.locals ≤ rm.locals) (hcs : kc + rmY.cells ≤ rm.cells ∧ ks + rmY.slots ≤ rm.slots)
    (hst : st = As.reverse ++ .ref b :: rest) (hsum : (rest.map fun v => v.category).sum ≤ 8) (q0 : Nat) (hq : wc[q0]? = some (b, .inr (ci, fs))) (hci : vwCl[ci]? = some (CC, T, N)) (is : List Nat) (hnd : va_nd is = true) (hC : is.map (fun i => ws[i]?) = wc.map some) (wo wn : S → va_W) (hw1 : ∀ u, w1 u = wo u ++ wn u) (hadr : ∀ u, (wo u).map Prod.fst = wc.map Prod.fst) (hws : ∀ u, ww_put ws is (wo u) ++ wn u = ws' u)
    (kk : ∀ (v : Option Value) (u : S), post v u → RW X (kc + rmY.cells) (ks + rmY.slots) (pc + 3) lv (v.toList ++ rest) (ws' u)) : RW X kc ks pc lv st ws := by
  obtain ⟨g, p, l, e, R, s, m, args, below, meth, c, A, H0, nL, Q⟩ := X
  obtain ⟨hx, hb, hml, rfl, hown, hts, hK, hA, hlocks, rfl⟩ := C
  intro H locs ls hP hD hS hl
  subst hst
  have hPc := ww_subP (ws := ws) hP hC
  have hDc := ww_subD (ws := ws) hD hnd hC
  have hFc := va_free (wc := wc) hD hS hA is hC
  obtain ⟨hbl, hpre⟩ := ww_pre (av := .ref b :: As) hPc hK hDc
  refine ww_callg (va_runV (As := As) (rest := rest) ⟨hx, hb, hml, hown, hts⟩ (hM H.size) (cwV n hts hg hw rfl rfl hdesc hR) ⟨hbl, va_recv hK hPc hci hq, hpre⟩ rfl hn hl.1 rfl (lv_room hsum) hd hcs) hS hFc (fun v u H1 locs1 hp hP1 hD1 hk hS1 => ?_)
  rw [hw1 u] at hP1 hD1
  obtain ⟨hP2, hD2⟩ := ww_join hP hD is hC (hadr u) hk hFc hP1 hD1
  rw [hws u] at hP2 hD2
  exact kk v u hp H1 locs1 ls hP2 hD2 hS1 hl
theorem r_callS (C : ww_C X cc n0 own Ts rm) (hd : decode cc pc = .ok (.invokestatic index, 3)) (hM : CT X.1 X.2.2.1 y wd rmY As wc post w1) (hg : GoodIn Ts (va_wsS own index y wd)) (hw : wd = Cond.code y bytes maxL ret :: wd')
    (hdesc : y.cls ≠ "java/lang/invoke/MethodHandle" ∧ y.cls ≠ "java/lang/invoke/VarHandle" ∧ (parseMethodDescriptor y.desc).map (fun d => d.parameters.length) = some n) (hn : As.length = n) (hR : rmY.frames + 1 ≤ rm.frames ∧ 8 + (maxL + 11) + rmY.locals ≤ rm.locals) (hcs : kc + rmY.cells ≤ rm.cells ∧ ks + rmY.slots ≤ rm.slots)
    (hst : st = As.reverse ++ rest) (hsum : (rest.map fun v => v.category).sum ≤ 8) (is : List Nat) (hnd : va_nd is = true) (hC : is.map (fun i => ws[i]?) = wc.map some) (wo wn : S → va_W) (hw1 : ∀ u, w1 u = wo u ++ wn u) (hadr : ∀ u, (wo u).map Prod.fst = wc.map Prod.fst) (hws : ∀ u, ww_put ws is (wo u) ++ wn u = ws' u)
    (kk : ∀ (v : Option Value) (u : S), post v u → RW X (kc + rmY.cells) (ks + rmY.slots) (pc + 3) lv (v.toList ++ rest) (ws' u)) : RW X kc ks pc lv st ws := by
  obtain ⟨g, p, l, e, R, s, m, args, below, meth, c, A, H0, nL, Q⟩ := X
  obtain ⟨hx, hb, hml, rfl, hown, hts, hK, hA, hlocks, rfl⟩ := C
  intro H locs ls hP hD hS hl
  subst hst
  have hPc := ww_subP (ws := ws) hP hC
  have hDc := ww_subD (ws := ws) hD hnd hC
  have hFc := va_free (wc := wc) hD hS hA is hC
  obtain ⟨hbl, hpre⟩ := ww_pre (av := As) hPc hK hDc
  refine ww_callg (va_runS (As := As) (rest := rest) ⟨hx, hb, hml, hown, hts⟩ (hM H.size) (va_cwS n hts hg hw rfl rfl hdesc hR) ⟨hbl, hpre⟩ rfl hn hl.1 rfl (lv_room hsum) hd hcs) hS hFc (fun v u H1 locs1 hp hP1 hD1 hk hS1 => ?_)
  rw [hw1 u] at hP1 hD1
  obtain ⟨hP2, hD2⟩ := ww_join hP hD is hC (hadr u) hk hFc hP1 hD1
  rw [hws u] at hP2 hD2
  exact kk v u hp H1 locs1 ls hP2 hD2 hS1 hl
theorem r_callI (C : ww_C X cc n0 own Ts rm) (hd : decode cc pc = .ok (.invokespecial index, 3)) (hM : CT X.1 X.2.2.1 y wd rmY (.ref b :: As) wc post w1) (hg : GoodIn Ts wd) (hw : wd = Cond.code y bytes maxL none :: wd')
    (hi1 : Cond.initialized y.cls ∈ Ts) (hi2 : Cond.methodLink own index y ∈ Ts) (hi3 : Cond.instanceMethod y ∈ Ts) (hnm : y.name = "<init>")
    (hdesc : y.cls ≠ "java/lang/invoke/MethodHandle" ∧ y.cls ≠ "java/lang/invoke/VarHandle" ∧ (parseMethodDescriptor y.desc).map (fun d => d.parameters.length) = some n) (hn : As.length = n) (hR : rmY.frames + 1 ≤ rm.frames ∧ 8 + (maxL + 11) + rmY.locals ≤ rm.locals) (hcs : kc + rmY.cells ≤ rm.cells ∧ ks + rmY.slots ≤ rm.slots)
    (hst : st = As.reverse ++ .ref b :: rest) (hsum : (rest.map fun v => v.category).sum ≤ 8) (is : List Nat) (hnd : va_nd is = true) (hC : is.map (fun i => ws[i]?) = wc.map some) (wo wn : S → va_W) (hw1 : ∀ u, w1 u = wo u ++ wn u) (hadr : ∀ u, (wo u).map Prod.fst = wc.map Prod.fst) (hws : ∀ u, ww_put ws is (wo u) ++ wn u = ws' u)
    (kk : ∀ (v : Option Value) (u : S), post v u → RW X (kc + rmY.cells) (ks + rmY.slots) (pc + 3) lv (v.toList ++ rest) (ws' u)) : RW X kc ks pc lv st ws := by
  obtain ⟨g, p, l, e, R, s, m, args, below, meth, c, A, H0, nL, Q⟩ := X
  obtain ⟨hx, hb, hml, rfl, hown, hts, hK, hA, hlocks, rfl⟩ := C
  intro H locs ls hP hD hS hl
  subst hst
  have hPc := ww_subP (ws := ws) hP hC
  have hDc := ww_subD (ws := ws) hD hnd hC
  have hFc := va_free (wc := wc) hD hS hA is hC
  obtain ⟨hbl, hpre⟩ := ww_pre (av := .ref b :: As) hPc hK hDc
  refine ww_callg (va_runI (As := As) (rest := rest) ⟨hx, hb, hml, hown, hts⟩ (hM H.size) (cwI n hts hg hw rfl rfl (hts _ hi1) (hts _ hi2) (hts _ hi3) hnm hdesc hR) ⟨hbl, hpre⟩ rfl hn hl.1 rfl (lv_room hsum) hd hcs) hS hFc (fun v u H1 locs1 hp hP1 hD1 hk hS1 => ?_)
  rw [hw1 u] at hP1 hD1
  obtain ⟨hP2, hD2⟩ := ww_join hP hD is hC (hadr u) hk hFc hP1 hD1
  rw [hws u] at hP2 hD2
  exact kk v u hp H1 locs1 ls hP2 hD2 hS1 hl
/-- calls that make nothing -/
theorem r_callV0 {CC : String} {ci N : Nat} {T : u_T} {fs : List Value} (C : ww_C X cc n0 own Ts rm) (hd : decode cc pc = .ok (.invokevirtual index, 3)) (hM : CT X.1 X.2.2.1 y wd rmY (.ref b :: As) wc post w1) (hg : GoodIn Ts (wsV own index CC y wd)) (hw : wd = Cond.code y bytes maxL ret :: wd')
    (hdesc : y.cls = CC ∧ y.cls ≠ "java/lang/invoke/MethodHandle" ∧ y.cls ≠ "java/lang/invoke/VarHandle" ∧ (parseMethodDescriptor y.desc).map (fun d => d.parameters.length) = some n) (hn : As.length = n) (hR : rmY.frames + 1 ≤ rm.frames ∧ 8 + (maxL + 11) + rmY.locals ≤ rm.locals) (hz : rmY.cells = 0 ∧ rmY.slots = 0) (hcs : kc ≤ rm.cells ∧ ks ≤ rm.slots)
    (hst : st = As.reverse ++ .ref b :: rest) (hsum : (rest.map fun v => v.category).sum ≤ 8) (q0 : Nat) (hq : wc[q0]? = some (b, .inr (ci, fs))) (hci : vwCl[ci]? = some (CC, T, N)) (is : List Nat) (hnd : va_nd is = true) (hC : is.map (fun i => ws[i]?) = wc.map some) (hadr : ∀ u, (w1 u).map Prod.fst = wc.map Prod.fst) (hws : ∀ u, ww_put ws is (w1 u) = ws' u)
    (kk : ∀ (v : Option Value) (u : S), post v u → RW X kc ks (pc + 3) lv (v.toList ++ rest) (ws' u)) : RW X kc ks pc lv st ws :=
  r_callV C hd hM hg hw hdesc hn hR (by rw [hz.1, hz.2]; exact hcs) hst hsum q0 hq hci is hnd hC w1 (fun _ => []) (fun u => (List.append_nil _).symm) hadr (fun u => (List.append_nil _).trans (hws u)) (fun v u h => by rw [hz.1, hz.2]; exact kk v u h)
theorem r_callS0 (C : ww_C X cc n0 own Ts rm) (hd : decode cc pc = .ok (.invokestatic index, 3)) (hM : CT X.1 X.2.2.1 y wd rmY As wc post w1) (hg : GoodIn Ts (va_wsS own index y wd)) (hw : wd = Cond.code y bytes maxL ret :: wd')
    (hdesc : y.cls ≠ "java/lang/invoke/MethodHandle" ∧ y.cls ≠ "java/lang/invoke/VarHandle" ∧ (parseMethodDescriptor y.desc).map (fun d => d.parameters.length) = some n) (hn : As.length = n) (hR : rmY.frames + 1 ≤ rm.frames ∧ 8 + (maxL + 11) + rmY.locals ≤ rm.locals) (hz : rmY.cells = 0 ∧ rmY.slots = 0) (hcs : kc ≤ rm.cells ∧ ks ≤ rm.slots)
    (hst : st = As.reverse ++ rest) (hsum : (rest.map fun v => v.category).sum ≤ 8) (is : List Nat) (hnd : va_nd is = true) (hC : is.map (fun i => ws[i]?) = wc.map some) (hadr : ∀ u, (w1 u).map Prod.fst = wc.map Prod.fst) (hws : ∀ u, ww_put ws is (w1 u) = ws' u)
    (kk : ∀ (v : Option Value) (u : S), post v u → RW X kc ks (pc + 3) lv (v.toList ++ rest) (ws' u)) : RW X kc ks pc lv st ws :=
  r_callS C hd hM hg hw hdesc hn hR (by rw [hz.1, hz.2]; exact hcs) hst hsum is hnd hC w1 (fun _ => []) (fun u => (List.append_nil _).symm) hadr (fun u => (List.append_nil _).trans (hws u)) (fun v u h => by rw [hz.1, hz.2]; exact kk v u h)
end
abbrev ww_rm (n : Nat) : Room := { frames := n, cells := 0, slots := 0, locals := 40 * n }
end
section
/-! small rows: truth values, an array's other writing, constructors -/
noncomputable def bz (P : Prop) : Int32 := @ite _ P (Classical.propDecidable P) 1 0
theorem bz_t {P : Prop} (h : P) : bz P = 1 := by unfold bz; exact if_pos h
theorem bz_f {P : Prop} (h : ¬ P) : bz P = 0 := by unfold bz; exact if_neg h
theorem bz_0 {P : Prop} : bz P = 0 ↔ ¬ P := by
  constructor
  · intro h hP
    rw [bz_t hP] at h
    exact absurd h (by decide)
  · exact bz_f
theorem bz_n0 {P : Prop} : ¬ bz P = 0 ↔ P := by
  constructor
  · intro h
    exact Classical.byContradiction (fun hP => h (bz_f hP))
  · intro h e
    exact bz_0.mp e h
theorem bz_01 (P : Prop) : bz P = 0 ∨ bz P = 1 := by
  by_cases h : P
  · exact Or.inr (bz_t h)
  · exact Or.inl (bz_f h)
theorem bz_iff {P Q : Prop} (h : P ↔ Q) : bz P = bz Q := by rw [propext h]
theorem bz_nar (P : Prop) : narrow .boolean (.int (bz P)) = .int (bz P) := by rcases bz_01 P with h | h <;> rw [h] <;> rfl
theorem bz_fit (P : Prop) : fits .boolean (.int (bz P)) = true := by rcases bz_01 P with h | h <;> rw [h] <;> rfl
theorem bz_vp (P : Prop) : vp_nar .boolean (bz P) = bz P := by rcases bz_01 P with h | h <;> rw [h] <;> rfl
theorem ww_arrV {cA : ClassId} {n : Nat} {f f' : Nat → Value} (h : ∀ j, j < n → f j = f' j) : arrV cA n f = arrV cA n f' := by
  unfold arrV
  congr 1
  apply Array.ext
  · simp
  · intro i h1 h2
    simp at h1
    simp [h i h1]
section
variable {X : ww_X} {cc : ByteArray} {n0 : Nat} {own : String} {Ts : List Cond} {rm : Room} {kc ks pc : Nat} {lv lv' : List (Nat × Value)} {st : List Value} {ws ws' : va_W}
theorem r_arrI {a n : Nat} {cA : ClassId} {f f' : Nat → Int32} (q0 : Nat) (ha : ws[q0]? = some (a, .inl (cA, n, .inl f))) (h : ∀ j, j < n → f j = f' j) (hws : ws.set q0 (a, .inl (cA, n, .inl f')) = ws') (k : RW X kc ks pc lv st ws') : RW X kc ks pc lv st ws := by
  obtain ⟨g, p, l, e, R, s, m, args, below, meth, c, A, H0, nL, Q⟩ := X
  subst hws
  intro H locs ls hP hD hS hl
  refine k H locs ls ?_ (hD.set ha) hS hl
  refine hP.set hD ha ?_ (fun q _ => rfl)
  have h0 : H[a]? = some (vp_cell cA (n, .inl f)) := hP q0 _ ha
  show H[a]? = some (vp_cell cA (n, .inl f'))
  rw [h0, vp_cell_i, vp_cell_i, ww_arrV (f' := fun j => .int (f' j)) (fun j hj => by rw [h j hj])]
theorem r_arrZ {a n : Nat} {cA : ClassId} {f f' : Nat → Int32} (q0 : Nat) (ha : ws[q0]? = some (a, .inl (cA, n, .inl f))) (h : ∀ j, j < n → f j = f' j) (hws : ws.set q0 (a, .inl (cA, n, .inl f')) = ws') (k : RW X kc ks pc lv st ws') : RW X kc ks pc lv st ws := r_arrI q0 ha h hws k
theorem r_objInit {index a : Nat} (C : ww_C X cc n0 own Ts rm) (hd : decode cc pc = .ok (.invokespecial index, 3)) (hm : Cond.methodLink own index objectInit ∈ Ts ∧ Cond.instanceMethod objectInit ∈ Ts ∧ Cond.code objectInit ⟨#[0xb1]⟩ 1 none ∈ Ts) (hf : 1 ≤ rm.frames) (hlo : 20 ≤ rm.locals) (hsum : (st.map fun v => v.category).sum ≤ 8) (k : RW X kc ks (pc + 3) lv st ws) : RW X kc ks pc lv (.ref a :: st) ws := by
  obtain ⟨g, p, l, e, R, s, m, args, below, meth, c, A, H0, nL, Q⟩ := X
  obtain ⟨hx, hb, hml, rfl, hown, hts, hK, hA, hlocks, rfl⟩ := C
  intro H locs ls hP hD hS hl
  refine W.objInit hx hb hown (hts _ hm.1) (hts _ hm.2.1) (hts _ hm.2.2) rfl (by rw [hml]; exact hl.1) rfl hd hf ?_ ?_
  · have := lv_room (m := m) (pc := pc) (ls := ls) (rest := .ref a :: st) hsum
    show 2 * (F0 m pc ls (.ref a :: st)).monitorRoom + _ + 12 ≤ _
    omega
  · exact k H locs ls hP hD hS hl
end
end
section
/-! Boards and masks as mathematics -/
def bx (n c : Nat) : Nat := c / n / 2 * 2 + (if n / 2 ≤ c % n then 1 else 0)
abbrev gR (n : Nat) : Nat → Int32 := fun c => nI (c / n)
abbrev gC (n : Nat) : Nat → Int32 := fun c => nI (c % n)
abbrev gB (n : Nat) : Nat → Int32 := fun c => nI (bx n c)
theorem dv_lt {n N c : Nat} (hn : (n = 4 ∧ N = 16) ∨ (n = 6 ∧ N = 36)) (h : c < N) : c / n < n := by rcases hn with ⟨rfl, rfl⟩ | ⟨rfl, rfl⟩ <;> omega
theorem md_lt {n N c : Nat} (hn : (n = 4 ∧ N = 16) ∨ (n = 6 ∧ N = 36)) : c % n < n := by rcases hn with ⟨rfl, rfl⟩ | ⟨rfl, rfl⟩ <;> omega
theorem bx_lt {n N c : Nat} (hn : (n = 4 ∧ N = 16) ∨ (n = 6 ∧ N = 36)) (h : c < N) : bx n c < n := by unfold bx; rcases hn with ⟨rfl, rfl⟩ | ⟨rfl, rfl⟩ <;> split <;> omega
/-- two cells share a row, a column or a box (a cell with itself too) -/
def tog (n c d : Nat) : Prop := c / n = d / n ∨ c % n = d % n ∨ bx n c = bx n d
theorem tog_sym {n c d : Nat} (h : tog n c d) : tog n d c := by
  rcases h with h | h | h
  · exact Or.inl h.symm
  · exact Or.inr (Or.inl h.symm)
  · exact Or.inr (Or.inr h.symm)
def eo (o : Option Nat) : Int32 := match o with
  | none => -1
  | some v => nI v
abbrev eb (b : Nat → Option Nat) : Nat → Int32 := fun c => eo (b c)
def ub (b : Nat → Option Nat) (c : Nat) (o : Option Nat) : Nat → Option Nat := fun d => if d = c then o else b d
theorem ub_s {b : Nat → Option Nat} {c : Nat} {o : Option Nat} : ub b c o c = o := by simp [ub]
theorem ub_n {b : Nat → Option Nat} {c d : Nat} {o : Option Nat} (h : d ≠ c) : ub b c o d = b d := by simp [ub, h]
theorem ub_ub {b : Nat → Option Nat} {c : Nat} {o : Option Nat} (h : b c = none) : ub (ub b c o) c none = b := by
  funext d
  by_cases e : d = c
  · subst e; simp [ub, h]
  · simp [ub, e]
theorem eb_s {b : Nat → Option Nat} {c v : Nat} : upd (eb b) c (nI v) = eb (ub b c (some v)) := by
  funext d
  by_cases e : d = c
  · subst e; simp [upd, eb, ub, eo]
  · simp [upd, eb, ub, e]
theorem eb_0 {b : Nat → Option Nat} {c : Nat} : upd (eb b) c (-1) = eb (ub b c none) := by
  funext d
  by_cases e : d = c
  · subst e; simp [upd, eb, ub, eo]
  · simp [upd, eb, ub, e]
theorem eo_neg {o : Option Nat} (h : ∀ v, o = some v → v < 2147483648) : eo o < 0 ↔ o = none := by
  cases o with
  | none => simp [eo]
  | some v => simp only [eo]; constructor
              · intro q; exact absurd q (nI_pos (h v rfl))
              · intro q; cases q
theorem eo_ge {o : Option Nat} (h : ∀ v, o = some v → v < 2147483648) : 0 ≤ eo o ↔ o ≠ none := by
  cases o with
  | none => simp [eo]
  | some v => simp only [eo]; constructor
              · intro _ q; cases q
              · intro _; exact nI_pos' (h v rfl)
theorem eo_eq {o : Option Nat} {v : Nat} (hv : v < 2147483648) (h : ∀ u, o = some u → u < 2147483648) : eo o = nI v ↔ o = some v := by
  cases o with
  | none =>
    simp only [eo]; constructor
    · intro q
      have h1 := nI_pos' hv
      rw [← q] at h1
      exact absurd h1 (by decide)
    · intro q; cases q
  | some u =>
    simp only [eo]
    rw [nI_eq (h u rfl) hv]
    simp
/-! masks of six bits -/
def mkB (p : Nat → Bool) : Nat := (p 0).toNat + 2 * (p 1).toNat + 4 * (p 2).toNat + 8 * (p 3).toNat + 16 * (p 4).toNat + 32 * (p 5).toNat
theorem mkB_lt (p : Nat → Bool) : mkB p < 64 := by
  unfold mkB
  have h : ∀ b : Bool, b.toNat ≤ 1 := by intro b; cases b <;> decide
  have := h (p 0); have := h (p 1); have := h (p 2); have := h (p 3); have := h (p 4); have := h (p 5)
  omega
theorem mkB_tb6 : ∀ a b c d e f : Bool, (a.toNat + 2 * b.toNat + 4 * c.toNat + 8 * d.toNat + 16 * e.toNat + 32 * f.toNat).testBit 0 = a ∧ (a.toNat + 2 * b.toNat + 4 * c.toNat + 8 * d.toNat + 16 * e.toNat + 32 * f.toNat).testBit 1 = b ∧ (a.toNat + 2 * b.toNat + 4 * c.toNat + 8 * d.toNat + 16 * e.toNat + 32 * f.toNat).testBit 2 = c ∧ (a.toNat + 2 * b.toNat + 4 * c.toNat + 8 * d.toNat + 16 * e.toNat + 32 * f.toNat).testBit 3 = d ∧ (a.toNat + 2 * b.toNat + 4 * c.toNat + 8 * d.toNat + 16 * e.toNat + 32 * f.toNat).testBit 4 = e ∧ (a.toNat + 2 * b.toNat + 4 * c.toNat + 8 * d.toNat + 16 * e.toNat + 32 * f.toNat).testBit 5 = f := by
  intro a b c d e f
  cases a <;> cases b <;> cases c <;> cases d <;> cases e <;> cases f <;> decide
theorem mkB_tb (p : Nat → Bool) {i : Nat} (hi : i < 6) : (mkB p).testBit i = p i := by
  obtain ⟨h0, h1, h2, h3, h4, h5⟩ := mkB_tb6 (p 0) (p 1) (p 2) (p 3) (p 4) (p 5)
  match i, hi with
  | 0, _ => exact h0
  | 1, _ => exact h1
  | 2, _ => exact h2
  | 3, _ => exact h3
  | 4, _ => exact h4
  | 5, _ => exact h5
theorem tb_big {m i : Nat} (hm : m < 64) (hi : 6 ≤ i) : m.testBit i = false := by
  apply Nat.testBit_lt_two_pow
  have : (2 : Nat) ^ 6 ≤ 2 ^ i := Nat.pow_le_pow_right (by omega) hi
  omega
noncomputable def mkN (P : Nat → Prop) : Nat := mkB (fun v => @decide (P v) (Classical.propDecidable _))
theorem mkN_lt (P : Nat → Prop) : mkN P < 64 := mkB_lt _
theorem mkN_tb (P : Nat → Prop) {i : Nat} (hi : i < 6) : (mkN P).testBit i = true ↔ P i := by
  unfold mkN
  rw [mkB_tb _ hi]
  simp
theorem mkN_of {m : Nat} {P : Nat → Prop} (hm : m < 64) (h : ∀ i, i < 6 → (m.testBit i = true ↔ P i)) : m = mkN P := by
  apply Nat.eq_of_testBit_eq
  intro i
  by_cases hi : i < 6
  · have h1 := h i hi
    have h2 := mkN_tb P hi
    cases hb : m.testBit i
    · cases hc : (mkN P).testBit i
      · rfl
      · exact absurd (h1.mpr (h2.mp hc)) (by rw [hb]; decide)
    · rw [h2.mpr (h1.mp hb)]
  · rw [tb_big hm (by omega), tb_big (mkN_lt P) (by omega)]
theorem mkN_ext {P Q : Nat → Prop} (h : ∀ i, i < 6 → (P i ↔ Q i)) : mkN P = mkN Q := mkN_of (mkN_lt P) (fun i hi => (mkN_tb P hi).trans (h i hi))
theorem pow_lt64 {v : Nat} (h : v < 6) : 2 ^ v < 64 := by
  have : (2 : Nat) ^ (v + 1) ≤ 2 ^ 6 := Nat.pow_le_pow_right (by omega) (by omega)
  have e : (2 : Nat) ^ (v + 1) = 2 ^ v * 2 := Nat.pow_succ 2 v
  omega
theorem xor_lt64 {a b : Nat} (ha : a < 64) (hb : b < 64) : a ^^^ b < 64 := Nat.xor_lt_two_pow (n := 6) ha hb
theorem or_lt64 {a b : Nat} (ha : a < 64) (hb : b < 64) : a ||| b < 64 := Nat.or_lt_two_pow (n := 6) ha hb
theorem mkN_in {P : Nat → Prop} {v : Nat} (hv : v < 6) (h : ¬ P v) : mkN P ^^^ 2 ^ v = mkN (fun u => u = v ∨ P u) := by
  refine mkN_of (xor_lt64 (mkN_lt P) (pow_lt64 hv)) (fun i hi => ?_)
  rw [Nat.testBit_xor, Nat.testBit_two_pow]
  by_cases e : v = i
  · subst e
    have : (mkN P).testBit v = false := by
      cases hc : (mkN P).testBit v
      · rfl
      · exact absurd ((mkN_tb P hv).mp hc) h
    simp [this]
  · have h2 := mkN_tb P hi
    simp only [e, decide_false, Bool.xor_false]
    rw [h2]
    constructor
    · exact Or.inr
    · rintro (q | q)
      · exact absurd q.symm e
      · exact q
theorem mkN_out {P : Nat → Prop} {v : Nat} (hv : v < 6) (h : P v) : mkN P ^^^ 2 ^ v = mkN (fun u => u ≠ v ∧ P u) := by
  refine mkN_of (xor_lt64 (mkN_lt P) (pow_lt64 hv)) (fun i hi => ?_)
  rw [Nat.testBit_xor, Nat.testBit_two_pow]
  by_cases e : v = i
  · subst e
    simp [(mkN_tb P hv).mpr h]
  · have h2 := mkN_tb P hi
    simp only [e, decide_false, Bool.xor_false]
    rw [h2]
    constructor
    · intro q; exact ⟨fun w => e w.symm, q⟩
    · exact And.right
theorem nx_and (a b : Nat) : nI a &&& nI b = nI (a &&& b) := by
  apply Int32.toBitVec_inj.1
  show BitVec.ofNat 32 a &&& BitVec.ofNat 32 b = BitVec.ofNat 32 (a &&& b)
  apply BitVec.eq_of_getLsbD_eq
  intro i hi
  simp [hi]
theorem nx_xor (a b : Nat) : nI a ^^^ nI b = nI (a ^^^ b) := by
  apply Int32.toBitVec_inj.1
  show BitVec.ofNat 32 a ^^^ BitVec.ofNat 32 b = BitVec.ofNat 32 (a ^^^ b)
  apply BitVec.eq_of_getLsbD_eq
  intro i hi
  simp [hi]
theorem nx_or (a b : Nat) : nI a ||| nI b = nI (a ||| b) := by
  apply Int32.toBitVec_inj.1
  show BitVec.ofNat 32 a ||| BitVec.ofNat 32 b = BitVec.ofNat 32 (a ||| b)
  apply BitVec.eq_of_getLsbD_eq
  intro i hi
  simp [hi]
theorem sh1 : ∀ v, v < 6 → nI 1 <<< (nI v &&& 31) = nI (2 ^ v) := by decide +kernel
theorem cpl4 : ∀ m, m < 64 → nI 15 &&& (nI m ^^^ (-1)) = nI (15 &&& (63 - m)) := by decide +kernel
theorem cpl6 : ∀ m, m < 64 → nI 63 &&& (nI m ^^^ (-1)) = nI (63 &&& (63 - m)) := by decide +kernel
theorem cplt4 : ∀ m, m < 64 → ∀ i, i < 6 → ((15 &&& (63 - m)).testBit i = true ↔ i < 4 ∧ m.testBit i = false) := by decide +kernel
theorem cplt6 : ∀ m, m < 64 → ∀ i, i < 6 → ((63 &&& (63 - m)).testBit i = true ↔ i < 6 ∧ m.testBit i = false) := by decide +kernel
theorem cpl {n N m : Nat} (hn : (n = 4 ∧ N = 16) ∨ (n = 6 ∧ N = 36)) (hm : m < 64) {P : Nat → Prop} (h : ∀ i, i < 6 → (P i ↔ i < n ∧ m.testBit i = false)) : nI (2 ^ n - 1) &&& (nI m ^^^ (-1)) = nI (mkN P) := by
  rcases hn with ⟨rfl, rfl⟩ | ⟨rfl, rfl⟩
  · show nI 15 &&& _ = _
    rw [cpl4 m hm]
    exact congrArg nI (mkN_of (Nat.lt_of_le_of_lt Nat.and_le_left (by decide)) (fun i hi => (cplt4 m hm i hi).trans (h i hi).symm))
  · show nI 63 &&& _ = _
    rw [cpl6 m hm]
    exact congrArg nI (mkN_of (Nat.lt_of_le_of_lt Nat.and_le_left (by decide)) (fun i hi => (cplt6 m hm i hi).trans (h i hi).symm))
/-! a board's masks -/
noncomputable abbrev mR (n N : Nat) (b : Nat → Option Nat) : Nat → Int32 := fun y => nI (mkN (fun v => ∃ d, d < N ∧ d / n = y ∧ b d = some v))
noncomputable abbrev mC (n N : Nat) (b : Nat → Option Nat) : Nat → Int32 := fun y => nI (mkN (fun v => ∃ d, d < N ∧ d % n = y ∧ b d = some v))
noncomputable abbrev mB (n N : Nat) (b : Nat → Option Nat) : Nat → Int32 := fun y => nI (mkN (fun v => ∃ d, d < N ∧ bx n d = y ∧ b d = some v))
/-- the symbol v may be in the cell c, by what the board has -/
def mayP (n N : Nat) (b : Nat → Option Nat) (c v : Nat) : Prop := v < n ∧ ∀ d, d < N → tog n c d → b d ≠ some v
theorem may_mask {n N : Nat} {b : Nat → Option Nat} {c : Nat} (hn : (n = 4 ∧ N = 16) ∨ (n = 6 ∧ N = 36)) : nI (2 ^ n - 1) &&& (((mR n N b (c / n) ||| mC n N b (c % n)) ||| mB n N b (bx n c)) ^^^ (-1)) = nI (mkN (mayP n N b c)) := by
  rw [nx_or, nx_or]
  refine cpl hn (or_lt64 (or_lt64 (mkN_lt _) (mkN_lt _)) (mkN_lt _)) (fun i hi => ?_)
  rw [Nat.testBit_or, Nat.testBit_or]
  constructor
  · rintro ⟨h1, h2⟩
    refine ⟨h1, ?_⟩
    cases h3 : (mkN (fun v => ∃ d, d < N ∧ d / n = c / n ∧ b d = some v)).testBit i
    · cases h4 : (mkN (fun v => ∃ d, d < N ∧ d % n = c % n ∧ b d = some v)).testBit i
      · cases h5 : (mkN (fun v => ∃ d, d < N ∧ bx n d = bx n c ∧ b d = some v)).testBit i
        · rfl
        · obtain ⟨d, q1, q2, q3⟩ := (mkN_tb _ hi).mp h5
          exact absurd q3 (h2 d q1 (Or.inr (Or.inr q2.symm)))
      · obtain ⟨d, q1, q2, q3⟩ := (mkN_tb _ hi).mp h4
        exact absurd q3 (h2 d q1 (Or.inr (Or.inl q2.symm)))
    · obtain ⟨d, q1, q2, q3⟩ := (mkN_tb _ hi).mp h3
      exact absurd q3 (h2 d q1 (Or.inl q2.symm))
  · rintro ⟨h1, h2⟩
    refine ⟨h1, fun d q1 q2 q3 => ?_⟩
    rw [Bool.or_eq_false_iff, Bool.or_eq_false_iff] at h2
    rcases q2 with q2 | q2 | q2
    · exact absurd ((mkN_tb (fun v => ∃ d, d < N ∧ d / n = c / n ∧ b d = some v) hi).mpr ⟨d, q1, q2.symm, q3⟩) (by rw [h2.1.1]; decide)
    · exact absurd ((mkN_tb (fun v => ∃ d, d < N ∧ d % n = c % n ∧ b d = some v) hi).mpr ⟨d, q1, q2.symm, q3⟩) (by rw [h2.1.2]; decide)
    · exact absurd ((mkN_tb (fun v => ∃ d, d < N ∧ bx n d = bx n c ∧ b d = some v) hi).mpr ⟨d, q1, q2.symm, q3⟩) (by rw [h2.2]; decide)
theorem mask_put {n N c v : Nat} {b : Nat → Option Nat} (p : Nat → Nat) (hc : c < N) (hv : v < 6) (h0 : b c = none) (hm : ∀ d, d < N → p d = p c → b d ≠ some v) :
    upd (fun y => nI (mkN (fun v => ∃ d, d < N ∧ p d = y ∧ b d = some v))) (p c) ((fun y => nI (mkN (fun v => ∃ d, d < N ∧ p d = y ∧ b d = some v))) (p c) ^^^ nI (2 ^ v)) = fun y => nI (mkN (fun u => ∃ d, d < N ∧ p d = y ∧ ub b c (some v) d = some u)) := by
  funext y
  by_cases e : y = p c
  · subst e
    simp only [upd, if_true]
    rw [nx_xor, mkN_in hv (fun ⟨d, q1, q2, q3⟩ => hm d q1 q2 q3)]
    refine congrArg nI (mkN_ext (fun i _ => ?_))
    constructor
    · rintro (q | ⟨d, q1, q2, q3⟩)
      · exact ⟨c, hc, rfl, by rw [ub_s, q]⟩
      · exact ⟨d, q1, q2, by rw [ub_n (fun e => by rw [e, h0] at q3; cases q3)]; exact q3⟩
    · rintro ⟨d, q1, q2, q3⟩
      by_cases e : d = c
      · subst e; rw [ub_s] at q3; exact Or.inl (Option.some.inj q3).symm
      · rw [ub_n e] at q3; exact Or.inr ⟨d, q1, q2, q3⟩
  · simp only [upd, e, if_false]
    refine congrArg nI (mkN_ext (fun i _ => ?_))
    constructor
    · rintro ⟨d, q1, q2, q3⟩
      exact ⟨d, q1, q2, by rw [ub_n (fun e => by rw [e, h0] at q3; cases q3)]; exact q3⟩
    · rintro ⟨d, q1, q2, q3⟩
      by_cases e2 : d = c
      · subst e2; exact absurd q2.symm e
      · rw [ub_n e2] at q3; exact ⟨d, q1, q2, q3⟩
theorem mask_out {n N c v : Nat} {b : Nat → Option Nat} (p : Nat → Nat) (hc : c < N) (hv : v < 6) (h0 : b c = some v) (hm : ∀ d, d < N → d ≠ c → p d = p c → b d ≠ some v) :
    upd (fun y => nI (mkN (fun v => ∃ d, d < N ∧ p d = y ∧ b d = some v))) (p c) ((fun y => nI (mkN (fun v => ∃ d, d < N ∧ p d = y ∧ b d = some v))) (p c) ^^^ nI (2 ^ v)) = fun y => nI (mkN (fun u => ∃ d, d < N ∧ p d = y ∧ ub b c none d = some u)) := by
  funext y
  by_cases e : y = p c
  · subst e
    simp only [upd, if_true]
    rw [nx_xor, mkN_out hv ⟨c, hc, rfl, h0⟩]
    refine congrArg nI (mkN_ext (fun i _ => ?_))
    constructor
    · rintro ⟨q, d, q1, q2, q3⟩
      exact ⟨d, q1, q2, by rw [ub_n (fun e => by rw [e, h0] at q3; exact q (Option.some.inj q3).symm)]; exact q3⟩
    · rintro ⟨d, q1, q2, q3⟩
      by_cases e : d = c
      · subst e; rw [ub_s] at q3; cases q3
      · rw [ub_n e] at q3
        exact ⟨fun w => hm d q1 e q2 (w ▸ q3), d, q1, q2, q3⟩
  · simp only [upd, e, if_false]
    refine congrArg nI (mkN_ext (fun i _ => ?_))
    constructor
    · rintro ⟨d, q1, q2, q3⟩
      have hdc : d ≠ c := fun w => by subst w; exact e q2.symm
      exact ⟨d, q1, q2, by rw [ub_n hdc]; exact q3⟩
    · rintro ⟨d, q1, q2, q3⟩
      by_cases e2 : d = c
      · subst e2; exact absurd q2.symm e
      · rw [ub_n e2] at q3; exact ⟨d, q1, q2, q3⟩
/-- symbols are in range, and no two cells that see each other are alike -/
def okB (n N : Nat) (b : Nat → Option Nat) : Prop := (∀ c v, b c = some v → v < n) ∧ ∀ c d v, c < N → d < N → c ≠ d → tog n c d → b c = some v → b d ≠ some v
theorem up_S {i : Nat} {f : Nat → Int32} {x : Int32} {Q : Nat → Int32 → Prop} (h : ∀ c, c < i → Q c (f c)) (hx : Q i x) : ∀ c, c < i + 1 → Q c (upd f i x c) := by
  intro c q
  by_cases e : c = i
  · subst e; rw [pk_us]; exact hx
  · rw [pk_un e]; exact h c (by omega)
end
section
theorem fX1_flip_26 : Cond.fieldLink RX1 26 (TX1 2).1 (TX1 2).2.1 (TX1 2).2.2.1 ∈ wsX1_flip := List.mem_of_getElem? (i := 1) rfl
theorem iX1_flip_X1 : ∀ w ∈ wsX10, w ∈ wsX1_flip := by decide +kernel
theorem fX1_flip_7 : Cond.fieldLink RX1 7 (TX1 0).1 (TX1 0).2.1 (TX1 0).2.2.1 ∈ wsX1_flip := List.mem_of_getElem? (i := 2) rfl
theorem fX1_flip_45 : Cond.fieldLink RX1 45 (TX4 3).1 (TX4 3).2.1 (TX4 3).2.2.1 ∈ wsX1_flip := List.mem_of_getElem? (i := 3) rfl
theorem iX1_flip_X4 : ∀ w ∈ wsX40, w ∈ wsX1_flip := by decide +kernel
theorem fX1_flip_29 : Cond.fieldLink RX1 29 (TX1 3).1 (TX1 3).2.1 (TX1 3).2.2.1 ∈ wsX1_flip := List.mem_of_getElem? (i := 4) rfl
theorem fX1_flip_48 : Cond.fieldLink RX1 48 (TX4 4).1 (TX4 4).2.1 (TX4 4).2.2.1 ∈ wsX1_flip := List.mem_of_getElem? (i := 5) rfl
theorem fX1_flip_32 : Cond.fieldLink RX1 32 (TX1 4).1 (TX1 4).2.1 (TX1 4).2.2.1 ∈ wsX1_flip := List.mem_of_getElem? (i := 6) rfl
theorem fX1_flip_51 : Cond.fieldLink RX1 51 (TX4 5).1 (TX4 5).2.1 (TX4 5).2.2.1 ∈ wsX1_flip := List.mem_of_getElem? (i := 7) rfl
set_option maxHeartbeats 4000000 in
set_option maxRecDepth 100000 in
theorem c_X1_flip {g : ww_G} {l : Launch} {n : Nat} {N : Nat} {aG : Nat} {gr : Nat} {gc : Nat} {gb : Nat} {gu : Nat} {aB : Nat} {aS : Nat} {aR : Nat} {aC : Nat} {aX : Nat} {f : Nat → Int32} {fR : Nat → Int32} {fC : Nat → Int32} {fB : Nat → Int32} {c : Nat} {x : Int32} (hn : (n = 4 ∧ N = 16) ∨ (n = 6 ∧ N = 36)) (hc : c < N) : CT g l yX1_flip wsX1_flip (ww_rm 1) [.ref aB, .int (nI c), .int x] ([(aG, .inr (5, [.int (nI n), .int (nI N), .int (nI (2 ^ n - 1)), .ref gr, .ref gc, .ref gb, .ref gu])), (gr, .inl (g.2.1, N, .inl (gR n))), (gc, .inl (g.2.1, N, .inl (gC n))), (gb, .inl (g.2.1, N, .inl (gB n))), (aB, .inr (2, [.ref aG, .ref aS, .ref aR, .ref aC, .ref aX])), (aS, .inl (g.2.1, N, .inl f)), (aR, .inl (g.2.1, n, .inl fR)), (aC, .inl (g.2.1, n, .inl fC)), (aX, .inl (g.2.1, n, .inl fB))]) (S := Unit) (fun v u => v = none) (fun u => [(aG, .inr (5, [.int (nI n), .int (nI N), .int (nI (2 ^ n - 1)), .ref gr, .ref gc, .ref gb, .ref gu])), (gr, .inl (g.2.1, N, .inl (gR n))), (gc, .inl (g.2.1, N, .inl (gC n))), (gb, .inl (g.2.1, N, .inl (gB n))), (aB, .inr (2, [.ref aG, .ref aS, .ref aR, .ref aC, .ref aX])), (aS, .inl (g.2.1, N, .inl f)), (aR, .inl (g.2.1, n, .inl (upd fR (c / n) (fR (c / n) ^^^ x)))), (aC, .inl (g.2.1, n, .inl (upd fC (c % n) (fC (c % n) ^^^ x)))), (aX, .inl (g.2.1, n, .inl (upd fB (bx n c) (fB (bx n c) ^^^ x))))]) := by
  refine CT.of cX1_flip 3 none RX1 (by decide +kernel) rfl rfl (Nat.le_of_ble_eq_true rfl) ?_
  intro X hg hl C hret
  subst hg; subst hl
  show RW X 0 0 0 [(0, .ref aB), (1, .int (nI c)), (2, .int x)] [] [(aG, .inr (5, [.int (nI n), .int (nI N), .int (nI (2 ^ n - 1)), .ref gr, .ref gc, .ref gb, .ref gu])), (gr, .inl (X.1.2.1, N, .inl (gR n))), (gc, .inl (X.1.2.1, N, .inl (gC n))), (gb, .inl (X.1.2.1, N, .inl (gB n))), (aB, .inr (2, [.ref aG, .ref aS, .ref aR, .ref aC, .ref aX])), (aS, .inl (X.1.2.1, N, .inl f)), (aR, .inl (X.1.2.1, n, .inl fR)), (aC, .inl (X.1.2.1, n, .inl fC)), (aX, .inl (X.1.2.1, n, .inl fB))]
  refine r_aload_n C dX1_flip_0 0 rfl rfl ?_
  refine r_get C dX1_flip_1 iX1_flip_X1 2 fX1_flip_26 4 rfl rfl (by decide) rfl ?_
  refine r_aload_n C dX1_flip_4 0 rfl rfl ?_
  refine r_get C dX1_flip_5 iX1_flip_X1 0 fX1_flip_7 4 rfl rfl (by decide) rfl ?_
  refine r_get C dX1_flip_8 iX1_flip_X4 3 fX1_flip_45 0 rfl rfl (by decide) rfl ?_
  refine r_iload_n C dX1_flip_11 1 rfl rfl ?_
  refine r_iald C dX1_flip_12 1 rfl (by omega) (by omega) ?_
  show RW X 0 0 13 [(0, .ref aB), (1, .int (nI c)), (2, .int x)] [.int (nI (c / n)), .ref aR] [(aG, .inr (5, [.int (nI n), .int (nI N), .int (nI (2 ^ n - 1)), .ref gr, .ref gc, .ref gb, .ref gu])), (gr, .inl (X.1.2.1, N, .inl (gR n))), (gc, .inl (X.1.2.1, N, .inl (gC n))), (gb, .inl (X.1.2.1, N, .inl (gB n))), (aB, .inr (2, [.ref aG, .ref aS, .ref aR, .ref aC, .ref aX])), (aS, .inl (X.1.2.1, N, .inl f)), (aR, .inl (X.1.2.1, n, .inl fR)), (aC, .inl (X.1.2.1, n, .inl fC)), (aX, .inl (X.1.2.1, n, .inl fB))]
  refine r_dup2 C dX1_flip_13 rfl rfl ?_
  refine r_iald C dX1_flip_14 6 rfl (dv_lt hn hc) (by omega) ?_
  refine r_iload_n C dX1_flip_15 2 rfl rfl ?_
  refine r_ixor C dX1_flip_16 (v := (fR (c / n)) ^^^ x) rfl ?_
  refine r_iast C dX1_flip_17 6 rfl (dv_lt hn hc) (by omega) (ws' := [(aG, .inr (5, [.int (nI n), .int (nI N), .int (nI (2 ^ n - 1)), .ref gr, .ref gc, .ref gb, .ref gu])), (gr, .inl (X.1.2.1, N, .inl (gR n))), (gc, .inl (X.1.2.1, N, .inl (gC n))), (gb, .inl (X.1.2.1, N, .inl (gB n))), (aB, .inr (2, [.ref aG, .ref aS, .ref aR, .ref aC, .ref aX])), (aS, .inl (X.1.2.1, N, .inl f)), (aR, .inl (X.1.2.1, n, .inl (upd fR (c / n) ((fR (c / n)) ^^^ x)))), (aC, .inl (X.1.2.1, n, .inl fC)), (aX, .inl (X.1.2.1, n, .inl fB))]) rfl ?_
  refine r_aload_n C dX1_flip_18 0 rfl rfl ?_
  refine r_get C dX1_flip_19 iX1_flip_X1 3 fX1_flip_29 4 rfl rfl (by decide) rfl ?_
  refine r_aload_n C dX1_flip_22 0 rfl rfl ?_
  refine r_get C dX1_flip_23 iX1_flip_X1 0 fX1_flip_7 4 rfl rfl (by decide) rfl ?_
  refine r_get C dX1_flip_26 iX1_flip_X4 4 fX1_flip_48 0 rfl rfl (by decide) rfl ?_
  refine r_iload_n C dX1_flip_29 1 rfl rfl ?_
  refine r_iald C dX1_flip_30 2 rfl (by omega) (by omega) ?_
  show RW X 0 0 31 [(0, .ref aB), (1, .int (nI c)), (2, .int x)] [.int (nI (c % n)), .ref aC] [(aG, .inr (5, [.int (nI n), .int (nI N), .int (nI (2 ^ n - 1)), .ref gr, .ref gc, .ref gb, .ref gu])), (gr, .inl (X.1.2.1, N, .inl (gR n))), (gc, .inl (X.1.2.1, N, .inl (gC n))), (gb, .inl (X.1.2.1, N, .inl (gB n))), (aB, .inr (2, [.ref aG, .ref aS, .ref aR, .ref aC, .ref aX])), (aS, .inl (X.1.2.1, N, .inl f)), (aR, .inl (X.1.2.1, n, .inl (upd fR (c / n) ((fR (c / n)) ^^^ x)))), (aC, .inl (X.1.2.1, n, .inl fC)), (aX, .inl (X.1.2.1, n, .inl fB))]
  refine r_dup2 C dX1_flip_31 rfl rfl ?_
  refine r_iald C dX1_flip_32 7 rfl (md_lt hn) (by omega) ?_
  refine r_iload_n C dX1_flip_33 2 rfl rfl ?_
  refine r_ixor C dX1_flip_34 (v := (fC (c % n)) ^^^ x) rfl ?_
  refine r_iast C dX1_flip_35 7 rfl (md_lt hn) (by omega) (ws' := [(aG, .inr (5, [.int (nI n), .int (nI N), .int (nI (2 ^ n - 1)), .ref gr, .ref gc, .ref gb, .ref gu])), (gr, .inl (X.1.2.1, N, .inl (gR n))), (gc, .inl (X.1.2.1, N, .inl (gC n))), (gb, .inl (X.1.2.1, N, .inl (gB n))), (aB, .inr (2, [.ref aG, .ref aS, .ref aR, .ref aC, .ref aX])), (aS, .inl (X.1.2.1, N, .inl f)), (aR, .inl (X.1.2.1, n, .inl (upd fR (c / n) ((fR (c / n)) ^^^ x)))), (aC, .inl (X.1.2.1, n, .inl (upd fC (c % n) ((fC (c % n)) ^^^ x)))), (aX, .inl (X.1.2.1, n, .inl fB))]) rfl ?_
  refine r_aload_n C dX1_flip_36 0 rfl rfl ?_
  refine r_get C dX1_flip_37 iX1_flip_X1 4 fX1_flip_32 4 rfl rfl (by decide) rfl ?_
  refine r_aload_n C dX1_flip_40 0 rfl rfl ?_
  refine r_get C dX1_flip_41 iX1_flip_X1 0 fX1_flip_7 4 rfl rfl (by decide) rfl ?_
  refine r_get C dX1_flip_44 iX1_flip_X4 5 fX1_flip_51 0 rfl rfl (by decide) rfl ?_
  refine r_iload_n C dX1_flip_47 1 rfl rfl ?_
  refine r_iald C dX1_flip_48 3 rfl (by omega) (by omega) ?_
  show RW X 0 0 49 [(0, .ref aB), (1, .int (nI c)), (2, .int x)] [.int (nI (bx n c)), .ref aX] [(aG, .inr (5, [.int (nI n), .int (nI N), .int (nI (2 ^ n - 1)), .ref gr, .ref gc, .ref gb, .ref gu])), (gr, .inl (X.1.2.1, N, .inl (gR n))), (gc, .inl (X.1.2.1, N, .inl (gC n))), (gb, .inl (X.1.2.1, N, .inl (gB n))), (aB, .inr (2, [.ref aG, .ref aS, .ref aR, .ref aC, .ref aX])), (aS, .inl (X.1.2.1, N, .inl f)), (aR, .inl (X.1.2.1, n, .inl (upd fR (c / n) ((fR (c / n)) ^^^ x)))), (aC, .inl (X.1.2.1, n, .inl (upd fC (c % n) ((fC (c % n)) ^^^ x)))), (aX, .inl (X.1.2.1, n, .inl fB))]
  refine r_dup2 C dX1_flip_49 rfl rfl ?_
  refine r_iald C dX1_flip_50 8 rfl (bx_lt hn hc) (by omega) ?_
  refine r_iload_n C dX1_flip_51 2 rfl rfl ?_
  refine r_ixor C dX1_flip_52 (v := (fB (bx n c)) ^^^ x) rfl ?_
  refine r_iast C dX1_flip_53 8 rfl (bx_lt hn hc) (by omega) (ws' := [(aG, .inr (5, [.int (nI n), .int (nI N), .int (nI (2 ^ n - 1)), .ref gr, .ref gc, .ref gb, .ref gu])), (gr, .inl (X.1.2.1, N, .inl (gR n))), (gc, .inl (X.1.2.1, N, .inl (gC n))), (gb, .inl (X.1.2.1, N, .inl (gB n))), (aB, .inr (2, [.ref aG, .ref aS, .ref aR, .ref aC, .ref aX])), (aS, .inl (X.1.2.1, N, .inl f)), (aR, .inl (X.1.2.1, n, .inl (upd fR (c / n) ((fR (c / n)) ^^^ x)))), (aC, .inl (X.1.2.1, n, .inl (upd fC (c % n) ((fC (c % n)) ^^^ x)))), (aX, .inl (X.1.2.1, n, .inl (upd fB (bx n c) ((fB (bx n c)) ^^^ x))))]) rfl ?_
  exact hret _ _ _ () rfl (Or.inl ⟨rfl, rfl, dX1_flip_54⟩)
theorem fX1_isEmpty_19 : Cond.fieldLink RX1 19 (TX1 1).1 (TX1 1).2.1 (TX1 1).2.2.1 ∈ wsX1_isEmpty := List.mem_of_getElem? (i := 1) rfl
theorem iX1_isEmpty_X1 : ∀ w ∈ wsX10, w ∈ wsX1_isEmpty := by decide +kernel
set_option maxHeartbeats 4000000 in
set_option maxRecDepth 100000 in
theorem c_X1_isEmpty {g : ww_G} {l : Launch} {N : Nat} {aG : Nat} {aB : Nat} {aS : Nat} {aR : Nat} {aC : Nat} {aX : Nat} {f : Nat → Int32} {c : Nat} (hN : N < 2147483648) (hc : c < N) : CT g l yX1_isEmpty wsX1_isEmpty (ww_rm 1) [.ref aB, .int (nI c)] ([(aB, .inr (2, [.ref aG, .ref aS, .ref aR, .ref aC, .ref aX])), (aS, .inl (g.2.1, N, .inl f))]) (S := Unit) (fun v u => v = some (.int (bz (f c < 0)))) (fun u => [(aB, .inr (2, [.ref aG, .ref aS, .ref aR, .ref aC, .ref aX])), (aS, .inl (g.2.1, N, .inl f))]) := by
  refine CT.of cX1_isEmpty 2 (some .boolean) RX1 (by decide +kernel) rfl rfl (Nat.le_of_ble_eq_true rfl) ?_
  intro X hg hl C hret
  subst hg; subst hl
  show RW X 0 0 0 [(0, .ref aB), (1, .int (nI c))] [] [(aB, .inr (2, [.ref aG, .ref aS, .ref aR, .ref aC, .ref aX])), (aS, .inl (X.1.2.1, N, .inl f))]
  refine r_aload_n C dX1_isEmpty_0 0 rfl rfl ?_
  refine r_get C dX1_isEmpty_1 iX1_isEmpty_X1 1 fX1_isEmpty_19 0 rfl rfl (by decide) rfl ?_
  refine r_iload_n C dX1_isEmpty_4 1 rfl rfl ?_
  refine r_iald C dX1_isEmpty_5 1 rfl (by omega) (by omega) ?_
  refine r_if_ge (tgt := 13) C dX1_isEmpty_6 (by decide) (fun h6 => ?_) (fun h6 => ?_)
  · refine r_iconst C dX1_isEmpty_13 (v := nI 0) (by decide) ?_
    refine r_top (y := bz (f c < 0)) ((bz_f (Int32.not_lt.mpr h6)).symm) ?_
    exact hret _ _ _ () rfl (Or.inr ⟨_, rfl, dX1_isEmpty_14, Or.inr ⟨rfl, bz_01 _⟩⟩)
  · refine r_iconst C dX1_isEmpty_9 (v := nI 1) (by decide) ?_
    refine r_goto (tgt := 14) C dX1_isEmpty_10 (by decide) ?_
    refine r_top (y := bz (f c < 0)) ((bz_t (Int32.not_le.mp h6)).symm) ?_
    exact hret _ _ _ () rfl (Or.inr ⟨_, rfl, dX1_isEmpty_14, Or.inr ⟨rfl, bz_01 _⟩⟩)
theorem fX1_may_7 : Cond.fieldLink RX1 7 (TX1 0).1 (TX1 0).2.1 (TX1 0).2.2.1 ∈ wsX1_may := List.mem_of_getElem? (i := 1) rfl
theorem iX1_may_X1 : ∀ w ∈ wsX10, w ∈ wsX1_may := by decide +kernel
theorem fX1_may_42 : Cond.fieldLink RX1 42 (TX4 2).1 (TX4 2).2.1 (TX4 2).2.2.1 ∈ wsX1_may := List.mem_of_getElem? (i := 2) rfl
theorem iX1_may_X4 : ∀ w ∈ wsX40, w ∈ wsX1_may := by decide +kernel
theorem fX1_may_26 : Cond.fieldLink RX1 26 (TX1 2).1 (TX1 2).2.1 (TX1 2).2.2.1 ∈ wsX1_may := List.mem_of_getElem? (i := 3) rfl
theorem fX1_may_45 : Cond.fieldLink RX1 45 (TX4 3).1 (TX4 3).2.1 (TX4 3).2.2.1 ∈ wsX1_may := List.mem_of_getElem? (i := 4) rfl
theorem fX1_may_29 : Cond.fieldLink RX1 29 (TX1 3).1 (TX1 3).2.1 (TX1 3).2.2.1 ∈ wsX1_may := List.mem_of_getElem? (i := 5) rfl
theorem fX1_may_48 : Cond.fieldLink RX1 48 (TX4 4).1 (TX4 4).2.1 (TX4 4).2.2.1 ∈ wsX1_may := List.mem_of_getElem? (i := 6) rfl
theorem fX1_may_32 : Cond.fieldLink RX1 32 (TX1 4).1 (TX1 4).2.1 (TX1 4).2.2.1 ∈ wsX1_may := List.mem_of_getElem? (i := 7) rfl
theorem fX1_may_51 : Cond.fieldLink RX1 51 (TX4 5).1 (TX4 5).2.1 (TX4 5).2.2.1 ∈ wsX1_may := List.mem_of_getElem? (i := 8) rfl
set_option maxHeartbeats 4000000 in
set_option maxRecDepth 100000 in
theorem c_X1_may {g : ww_G} {l : Launch} {n : Nat} {N : Nat} {aG : Nat} {gr : Nat} {gc : Nat} {gb : Nat} {gu : Nat} {aB : Nat} {aS : Nat} {aR : Nat} {aC : Nat} {aX : Nat} {b : Nat → Option Nat} {c : Nat} (hn : (n = 4 ∧ N = 16) ∨ (n = 6 ∧ N = 36)) (hc : c < N) : CT g l yX1_may wsX1_may (ww_rm 1) [.ref aB, .int (nI c)] ([(aG, .inr (5, [.int (nI n), .int (nI N), .int (nI (2 ^ n - 1)), .ref gr, .ref gc, .ref gb, .ref gu])), (gr, .inl (g.2.1, N, .inl (gR n))), (gc, .inl (g.2.1, N, .inl (gC n))), (gb, .inl (g.2.1, N, .inl (gB n))), (aB, .inr (2, [.ref aG, .ref aS, .ref aR, .ref aC, .ref aX])), (aS, .inl (g.2.1, N, .inl (eb b))), (aR, .inl (g.2.1, n, .inl (mR n N b))), (aC, .inl (g.2.1, n, .inl (mC n N b))), (aX, .inl (g.2.1, n, .inl (mB n N b)))]) (S := Unit) (fun v u => v = some (.int (nI (mkN (mayP n N b c))))) (fun u => [(aG, .inr (5, [.int (nI n), .int (nI N), .int (nI (2 ^ n - 1)), .ref gr, .ref gc, .ref gb, .ref gu])), (gr, .inl (g.2.1, N, .inl (gR n))), (gc, .inl (g.2.1, N, .inl (gC n))), (gb, .inl (g.2.1, N, .inl (gB n))), (aB, .inr (2, [.ref aG, .ref aS, .ref aR, .ref aC, .ref aX])), (aS, .inl (g.2.1, N, .inl (eb b))), (aR, .inl (g.2.1, n, .inl (mR n N b))), (aC, .inl (g.2.1, n, .inl (mC n N b))), (aX, .inl (g.2.1, n, .inl (mB n N b)))]) := by
  refine CT.of cX1_may 2 (some .int) RX1 (by decide +kernel) rfl rfl (Nat.le_of_ble_eq_true rfl) ?_
  intro X hg hl C hret
  subst hg; subst hl
  show RW X 0 0 0 [(0, .ref aB), (1, .int (nI c))] [] [(aG, .inr (5, [.int (nI n), .int (nI N), .int (nI (2 ^ n - 1)), .ref gr, .ref gc, .ref gb, .ref gu])), (gr, .inl (X.1.2.1, N, .inl (gR n))), (gc, .inl (X.1.2.1, N, .inl (gC n))), (gb, .inl (X.1.2.1, N, .inl (gB n))), (aB, .inr (2, [.ref aG, .ref aS, .ref aR, .ref aC, .ref aX])), (aS, .inl (X.1.2.1, N, .inl (eb b))), (aR, .inl (X.1.2.1, n, .inl (mR n N b))), (aC, .inl (X.1.2.1, n, .inl (mC n N b))), (aX, .inl (X.1.2.1, n, .inl (mB n N b)))]
  refine r_aload_n C dX1_may_0 0 rfl rfl ?_
  refine r_get C dX1_may_1 iX1_may_X1 0 fX1_may_7 4 rfl rfl (by decide) rfl ?_
  refine r_get C dX1_may_4 iX1_may_X4 2 fX1_may_42 0 rfl rfl (by decide) rfl ?_
  refine r_aload_n C dX1_may_7 0 rfl rfl ?_
  refine r_get C dX1_may_8 iX1_may_X1 2 fX1_may_26 4 rfl rfl (by decide) rfl ?_
  refine r_aload_n C dX1_may_11 0 rfl rfl ?_
  refine r_get C dX1_may_12 iX1_may_X1 0 fX1_may_7 4 rfl rfl (by decide) rfl ?_
  refine r_get C dX1_may_15 iX1_may_X4 3 fX1_may_45 0 rfl rfl (by decide) rfl ?_
  refine r_iload_n C dX1_may_18 1 rfl rfl ?_
  refine r_iald C dX1_may_19 1 rfl (by omega) (by omega) ?_
  show RW X 0 0 20 [(0, .ref aB), (1, .int (nI c))] [.int (nI (c / n)), .ref aR, .int (nI (2 ^ n - 1))] [(aG, .inr (5, [.int (nI n), .int (nI N), .int (nI (2 ^ n - 1)), .ref gr, .ref gc, .ref gb, .ref gu])), (gr, .inl (X.1.2.1, N, .inl (gR n))), (gc, .inl (X.1.2.1, N, .inl (gC n))), (gb, .inl (X.1.2.1, N, .inl (gB n))), (aB, .inr (2, [.ref aG, .ref aS, .ref aR, .ref aC, .ref aX])), (aS, .inl (X.1.2.1, N, .inl (eb b))), (aR, .inl (X.1.2.1, n, .inl (mR n N b))), (aC, .inl (X.1.2.1, n, .inl (mC n N b))), (aX, .inl (X.1.2.1, n, .inl (mB n N b)))]
  refine r_iald C dX1_may_20 6 rfl (dv_lt hn hc) (by omega) ?_
  refine r_aload_n C dX1_may_21 0 rfl rfl ?_
  refine r_get C dX1_may_22 iX1_may_X1 3 fX1_may_29 4 rfl rfl (by decide) rfl ?_
  refine r_aload_n C dX1_may_25 0 rfl rfl ?_
  refine r_get C dX1_may_26 iX1_may_X1 0 fX1_may_7 4 rfl rfl (by decide) rfl ?_
  refine r_get C dX1_may_29 iX1_may_X4 4 fX1_may_48 0 rfl rfl (by decide) rfl ?_
  refine r_iload_n C dX1_may_32 1 rfl rfl ?_
  refine r_iald C dX1_may_33 2 rfl (by omega) (by omega) ?_
  show RW X 0 0 34 [(0, .ref aB), (1, .int (nI c))] [.int (nI (c % n)), .ref aC, .int ((mR n N b) (c / n)), .int (nI (2 ^ n - 1))] [(aG, .inr (5, [.int (nI n), .int (nI N), .int (nI (2 ^ n - 1)), .ref gr, .ref gc, .ref gb, .ref gu])), (gr, .inl (X.1.2.1, N, .inl (gR n))), (gc, .inl (X.1.2.1, N, .inl (gC n))), (gb, .inl (X.1.2.1, N, .inl (gB n))), (aB, .inr (2, [.ref aG, .ref aS, .ref aR, .ref aC, .ref aX])), (aS, .inl (X.1.2.1, N, .inl (eb b))), (aR, .inl (X.1.2.1, n, .inl (mR n N b))), (aC, .inl (X.1.2.1, n, .inl (mC n N b))), (aX, .inl (X.1.2.1, n, .inl (mB n N b)))]
  refine r_iald C dX1_may_34 7 rfl (md_lt hn) (by omega) ?_
  refine r_ior C dX1_may_35 (v := ((mR n N b) (c / n)) ||| ((mC n N b) (c % n))) rfl ?_
  refine r_aload_n C dX1_may_36 0 rfl rfl ?_
  refine r_get C dX1_may_37 iX1_may_X1 4 fX1_may_32 4 rfl rfl (by decide) rfl ?_
  refine r_aload_n C dX1_may_40 0 rfl rfl ?_
  refine r_get C dX1_may_41 iX1_may_X1 0 fX1_may_7 4 rfl rfl (by decide) rfl ?_
  refine r_get C dX1_may_44 iX1_may_X4 5 fX1_may_51 0 rfl rfl (by decide) rfl ?_
  refine r_iload_n C dX1_may_47 1 rfl rfl ?_
  refine r_iald C dX1_may_48 3 rfl (by omega) (by omega) ?_
  show RW X 0 0 49 [(0, .ref aB), (1, .int (nI c))] [.int (nI (bx n c)), .ref aX, .int (((mR n N b) (c / n)) ||| ((mC n N b) (c % n))), .int (nI (2 ^ n - 1))] [(aG, .inr (5, [.int (nI n), .int (nI N), .int (nI (2 ^ n - 1)), .ref gr, .ref gc, .ref gb, .ref gu])), (gr, .inl (X.1.2.1, N, .inl (gR n))), (gc, .inl (X.1.2.1, N, .inl (gC n))), (gb, .inl (X.1.2.1, N, .inl (gB n))), (aB, .inr (2, [.ref aG, .ref aS, .ref aR, .ref aC, .ref aX])), (aS, .inl (X.1.2.1, N, .inl (eb b))), (aR, .inl (X.1.2.1, n, .inl (mR n N b))), (aC, .inl (X.1.2.1, n, .inl (mC n N b))), (aX, .inl (X.1.2.1, n, .inl (mB n N b)))]
  refine r_iald C dX1_may_49 8 rfl (bx_lt hn hc) (by omega) ?_
  refine r_ior C dX1_may_50 (v := (((mR n N b) (c / n)) ||| ((mC n N b) (c % n))) ||| ((mB n N b) (bx n c))) rfl ?_
  refine r_iconst C dX1_may_51 (v := (-1)) (by decide) ?_
  refine r_ixor C dX1_may_52 (v := ((((mR n N b) (c / n)) ||| ((mC n N b) (c % n))) ||| ((mB n N b) (bx n c))) ^^^ (-1)) rfl ?_
  refine r_iand C dX1_may_53 (v := (nI (2 ^ n - 1)) &&& (((((mR n N b) (c / n)) ||| ((mC n N b) (c % n))) ||| ((mB n N b) (bx n c))) ^^^ (-1))) rfl ?_
  refine r_top (y := nI (mkN (mayP n N b c))) (may_mask hn) ?_
  exact hret _ _ _ () rfl (Or.inr ⟨_, rfl, dX1_may_54, Or.inl rfl⟩)
theorem fX1_put_19 : Cond.fieldLink RX1 19 (TX1 1).1 (TX1 1).2.1 (TX1 1).2.2.1 ∈ wsX1_put := List.mem_of_getElem? (i := 1) rfl
theorem iX1_put_X1 : ∀ w ∈ wsX10, w ∈ wsX1_put := by decide +kernel
set_option maxHeartbeats 4000000 in
set_option maxRecDepth 100000 in
theorem c_X1_put {g : ww_G} {l : Launch} {n : Nat} {N : Nat} {aG : Nat} {gr : Nat} {gc : Nat} {gb : Nat} {gu : Nat} {aB : Nat} {aS : Nat} {aR : Nat} {aC : Nat} {aX : Nat} {b : Nat → Option Nat} {c : Nat} {v : Nat} (hn : (n = 4 ∧ N = 16) ∨ (n = 6 ∧ N = 36)) (hc : c < N) (h0 : b c = none) (hm : mayP n N b c v) : CT g l yX1_put wsX1_put (ww_rm 2) [.ref aB, .int (nI c), .int (nI v)] ([(aG, .inr (5, [.int (nI n), .int (nI N), .int (nI (2 ^ n - 1)), .ref gr, .ref gc, .ref gb, .ref gu])), (gr, .inl (g.2.1, N, .inl (gR n))), (gc, .inl (g.2.1, N, .inl (gC n))), (gb, .inl (g.2.1, N, .inl (gB n))), (aB, .inr (2, [.ref aG, .ref aS, .ref aR, .ref aC, .ref aX])), (aS, .inl (g.2.1, N, .inl (eb b))), (aR, .inl (g.2.1, n, .inl (mR n N b))), (aC, .inl (g.2.1, n, .inl (mC n N b))), (aX, .inl (g.2.1, n, .inl (mB n N b)))]) (S := Unit) (fun v u => v = none) (fun u => [(aG, .inr (5, [.int (nI n), .int (nI N), .int (nI (2 ^ n - 1)), .ref gr, .ref gc, .ref gb, .ref gu])), (gr, .inl (g.2.1, N, .inl (gR n))), (gc, .inl (g.2.1, N, .inl (gC n))), (gb, .inl (g.2.1, N, .inl (gB n))), (aB, .inr (2, [.ref aG, .ref aS, .ref aR, .ref aC, .ref aX])), (aS, .inl (g.2.1, N, .inl (eb (ub b c (some v))))), (aR, .inl (g.2.1, n, .inl (mR n N (ub b c (some v))))), (aC, .inl (g.2.1, n, .inl (mC n N (ub b c (some v))))), (aX, .inl (g.2.1, n, .inl (mB n N (ub b c (some v)))))]) := by
  refine CT.of cX1_put 3 none RX1 (by decide +kernel) rfl rfl (Nat.le_of_ble_eq_true rfl) ?_
  intro X hg hl C hret
  subst hg; subst hl
  show RW X 0 0 0 [(0, .ref aB), (1, .int (nI c)), (2, .int (nI v))] [] [(aG, .inr (5, [.int (nI n), .int (nI N), .int (nI (2 ^ n - 1)), .ref gr, .ref gc, .ref gb, .ref gu])), (gr, .inl (X.1.2.1, N, .inl (gR n))), (gc, .inl (X.1.2.1, N, .inl (gC n))), (gb, .inl (X.1.2.1, N, .inl (gB n))), (aB, .inr (2, [.ref aG, .ref aS, .ref aR, .ref aC, .ref aX])), (aS, .inl (X.1.2.1, N, .inl (eb b))), (aR, .inl (X.1.2.1, n, .inl (mR n N b))), (aC, .inl (X.1.2.1, n, .inl (mC n N b))), (aX, .inl (X.1.2.1, n, .inl (mB n N b)))]
  have hv6 : v < 6 := by have := hm.1; omega
  refine r_aload_n C dX1_put_0 0 rfl rfl ?_
  refine r_get C dX1_put_1 iX1_put_X1 1 fX1_put_19 4 rfl rfl (by decide) rfl ?_
  refine r_iload_n C dX1_put_4 1 rfl rfl ?_
  refine r_iload_n C dX1_put_5 2 rfl rfl ?_
  refine r_iast C dX1_put_6 5 rfl (by omega) (by omega) (ws' := [(aG, .inr (5, [.int (nI n), .int (nI N), .int (nI (2 ^ n - 1)), .ref gr, .ref gc, .ref gb, .ref gu])), (gr, .inl (X.1.2.1, N, .inl (gR n))), (gc, .inl (X.1.2.1, N, .inl (gC n))), (gb, .inl (X.1.2.1, N, .inl (gB n))), (aB, .inr (2, [.ref aG, .ref aS, .ref aR, .ref aC, .ref aX])), (aS, .inl (X.1.2.1, N, .inl (upd (eb b) c (nI v)))), (aR, .inl (X.1.2.1, n, .inl (mR n N b))), (aC, .inl (X.1.2.1, n, .inl (mC n N b))), (aX, .inl (X.1.2.1, n, .inl (mB n N b)))]) rfl ?_
  refine r_aload_n C dX1_put_7 0 rfl rfl ?_
  refine r_iload_n C dX1_put_8 1 rfl rfl ?_
  refine r_iconst C dX1_put_9 (v := nI 1) (by decide) ?_
  refine r_iload_n C dX1_put_10 2 rfl rfl ?_
  refine r_ishl C dX1_put_11 (v := nI (2 ^ v)) (sh1 v hv6) ?_
  refine r_callV0 (n := 2) (ws' := fun u => [(aG, .inr (5, [.int (nI n), .int (nI N), .int (nI (2 ^ n - 1)), .ref gr, .ref gc, .ref gb, .ref gu])), (gr, .inl (X.1.2.1, N, .inl (gR n))), (gc, .inl (X.1.2.1, N, .inl (gC n))), (gb, .inl (X.1.2.1, N, .inl (gB n))), (aB, .inr (2, [.ref aG, .ref aS, .ref aR, .ref aC, .ref aX])), (aS, .inl (X.1.2.1, N, .inl (upd (eb b) c (nI v)))), (aR, .inl (X.1.2.1, n, .inl (upd (mR n N b) (c / n) ((mR n N b) (c / n) ^^^ (nI (2 ^ v)))))), (aC, .inl (X.1.2.1, n, .inl (upd (mC n N b) (c % n) ((mC n N b) (c % n) ^^^ (nI (2 ^ v)))))), (aX, .inl (X.1.2.1, n, .inl (upd (mB n N b) (bx n c) ((mB n N b) (bx n c) ^^^ (nI (2 ^ v))))))]) C dX1_put_12 (c_X1_flip (g := X.1) (l := X.2.2.1) (n := n) (N := N) (aG := aG) (gr := gr) (gc := gc) (gb := gb) (gu := gu) (aB := aB) (aS := aS) (aR := aR) (aC := aC) (aX := aX) (f := upd (eb b) c (nI v)) (fR := mR n N b) (fC := mC n N b) (fB := mB n N b) (c := c) (x := nI (2 ^ v)) (hn := (by first | assumption | omega)) (hc := (by first | assumption | omega))) gX1_put_X1_flip rfl (by decide +kernel) rfl ⟨Nat.le_of_ble_eq_true rfl, Nat.le_of_ble_eq_true rfl⟩ ⟨rfl, rfl⟩ ⟨Nat.zero_le _, Nat.zero_le _⟩ (rest := []) rfl (by decide) 4 rfl rfl [0, 1, 2, 3, 4, 5, 6, 7, 8] (by decide) rfl (fun u => rfl) (fun u => rfl) (fun v u hp => ?_)
  obtain rfl := hp
  show RW X 0 0 15 [(0, .ref aB), (1, .int (nI c)), (2, .int (nI v))] [] [(aG, .inr (5, [.int (nI n), .int (nI N), .int (nI (2 ^ n - 1)), .ref gr, .ref gc, .ref gb, .ref gu])), (gr, .inl (X.1.2.1, N, .inl (gR n))), (gc, .inl (X.1.2.1, N, .inl (gC n))), (gb, .inl (X.1.2.1, N, .inl (gB n))), (aB, .inr (2, [.ref aG, .ref aS, .ref aR, .ref aC, .ref aX])), (aS, .inl (X.1.2.1, N, .inl (upd (eb b) c (nI v)))), (aR, .inl (X.1.2.1, n, .inl (upd (mR n N b) (c / n) ((mR n N b) (c / n) ^^^ (nI (2 ^ v)))))), (aC, .inl (X.1.2.1, n, .inl (upd (mC n N b) (c % n) ((mC n N b) (c % n) ^^^ (nI (2 ^ v)))))), (aX, .inl (X.1.2.1, n, .inl (upd (mB n N b) (bx n c) ((mB n N b) (bx n c) ^^^ (nI (2 ^ v))))))]
  refine r_arrI 5 rfl (fun j _ => by rw [eb_s]) (ws' := [(aG, .inr (5, [.int (nI n), .int (nI N), .int (nI (2 ^ n - 1)), .ref gr, .ref gc, .ref gb, .ref gu])), (gr, .inl (X.1.2.1, N, .inl (gR n))), (gc, .inl (X.1.2.1, N, .inl (gC n))), (gb, .inl (X.1.2.1, N, .inl (gB n))), (aB, .inr (2, [.ref aG, .ref aS, .ref aR, .ref aC, .ref aX])), (aS, .inl (X.1.2.1, N, .inl (eb (ub b c (some v))))), (aR, .inl (X.1.2.1, n, .inl (upd (mR n N b) (c / n) ((mR n N b) (c / n) ^^^ (nI (2 ^ v)))))), (aC, .inl (X.1.2.1, n, .inl (upd (mC n N b) (c % n) ((mC n N b) (c % n) ^^^ (nI (2 ^ v)))))), (aX, .inl (X.1.2.1, n, .inl (upd (mB n N b) (bx n c) ((mB n N b) (bx n c) ^^^ (nI (2 ^ v))))))]) rfl ?_
  refine r_arrI 6 rfl (fun j _ => congrFun (mask_put (n := n) (fun d => d / n) hc hv6 h0 (fun d q1 q2 => hm.2 d q1 (Or.inl q2.symm))) j) (ws' := [(aG, .inr (5, [.int (nI n), .int (nI N), .int (nI (2 ^ n - 1)), .ref gr, .ref gc, .ref gb, .ref gu])), (gr, .inl (X.1.2.1, N, .inl (gR n))), (gc, .inl (X.1.2.1, N, .inl (gC n))), (gb, .inl (X.1.2.1, N, .inl (gB n))), (aB, .inr (2, [.ref aG, .ref aS, .ref aR, .ref aC, .ref aX])), (aS, .inl (X.1.2.1, N, .inl (eb (ub b c (some v))))), (aR, .inl (X.1.2.1, n, .inl (mR n N (ub b c (some v))))), (aC, .inl (X.1.2.1, n, .inl (upd (mC n N b) (c % n) ((mC n N b) (c % n) ^^^ (nI (2 ^ v)))))), (aX, .inl (X.1.2.1, n, .inl (upd (mB n N b) (bx n c) ((mB n N b) (bx n c) ^^^ (nI (2 ^ v))))))]) rfl ?_
  refine r_arrI 7 rfl (fun j _ => congrFun (mask_put (n := n) (fun d => d % n) hc hv6 h0 (fun d q1 q2 => hm.2 d q1 (Or.inr (Or.inl q2.symm)))) j) (ws' := [(aG, .inr (5, [.int (nI n), .int (nI N), .int (nI (2 ^ n - 1)), .ref gr, .ref gc, .ref gb, .ref gu])), (gr, .inl (X.1.2.1, N, .inl (gR n))), (gc, .inl (X.1.2.1, N, .inl (gC n))), (gb, .inl (X.1.2.1, N, .inl (gB n))), (aB, .inr (2, [.ref aG, .ref aS, .ref aR, .ref aC, .ref aX])), (aS, .inl (X.1.2.1, N, .inl (eb (ub b c (some v))))), (aR, .inl (X.1.2.1, n, .inl (mR n N (ub b c (some v))))), (aC, .inl (X.1.2.1, n, .inl (mC n N (ub b c (some v))))), (aX, .inl (X.1.2.1, n, .inl (upd (mB n N b) (bx n c) ((mB n N b) (bx n c) ^^^ (nI (2 ^ v))))))]) rfl ?_
  refine r_arrI 8 rfl (fun j _ => congrFun (mask_put (n := n) (fun d => bx n d) hc hv6 h0 (fun d q1 q2 => hm.2 d q1 (Or.inr (Or.inr q2.symm)))) j) (ws' := [(aG, .inr (5, [.int (nI n), .int (nI N), .int (nI (2 ^ n - 1)), .ref gr, .ref gc, .ref gb, .ref gu])), (gr, .inl (X.1.2.1, N, .inl (gR n))), (gc, .inl (X.1.2.1, N, .inl (gC n))), (gb, .inl (X.1.2.1, N, .inl (gB n))), (aB, .inr (2, [.ref aG, .ref aS, .ref aR, .ref aC, .ref aX])), (aS, .inl (X.1.2.1, N, .inl (eb (ub b c (some v))))), (aR, .inl (X.1.2.1, n, .inl (mR n N (ub b c (some v))))), (aC, .inl (X.1.2.1, n, .inl (mC n N (ub b c (some v))))), (aX, .inl (X.1.2.1, n, .inl (mB n N (ub b c (some v)))))]) rfl ?_
  exact hret _ _ _ () rfl (Or.inl ⟨rfl, rfl, dX1_put_15⟩)
theorem fX1_takeOut_19 : Cond.fieldLink RX1 19 (TX1 1).1 (TX1 1).2.1 (TX1 1).2.2.1 ∈ wsX1_takeOut := List.mem_of_getElem? (i := 1) rfl
theorem iX1_takeOut_X1 : ∀ w ∈ wsX10, w ∈ wsX1_takeOut := by decide +kernel
set_option maxHeartbeats 4000000 in
set_option maxRecDepth 100000 in
theorem c_X1_takeOut {g : ww_G} {l : Launch} {n : Nat} {N : Nat} {aG : Nat} {gr : Nat} {gc : Nat} {gb : Nat} {gu : Nat} {aB : Nat} {aS : Nat} {aR : Nat} {aC : Nat} {aX : Nat} {b : Nat → Option Nat} {c : Nat} {v : Nat} (hn : (n = 4 ∧ N = 16) ∨ (n = 6 ∧ N = 36)) (hc : c < N) (hv6 : v < 6) (h0 : b c = some v) (hm : ∀ d, d < N → d ≠ c → tog n c d → b d ≠ some v) : CT g l yX1_takeOut wsX1_takeOut (ww_rm 2) [.ref aB, .int (nI c)] ([(aG, .inr (5, [.int (nI n), .int (nI N), .int (nI (2 ^ n - 1)), .ref gr, .ref gc, .ref gb, .ref gu])), (gr, .inl (g.2.1, N, .inl (gR n))), (gc, .inl (g.2.1, N, .inl (gC n))), (gb, .inl (g.2.1, N, .inl (gB n))), (aB, .inr (2, [.ref aG, .ref aS, .ref aR, .ref aC, .ref aX])), (aS, .inl (g.2.1, N, .inl (eb b))), (aR, .inl (g.2.1, n, .inl (mR n N b))), (aC, .inl (g.2.1, n, .inl (mC n N b))), (aX, .inl (g.2.1, n, .inl (mB n N b)))]) (S := Unit) (fun v u => v = none) (fun u => [(aG, .inr (5, [.int (nI n), .int (nI N), .int (nI (2 ^ n - 1)), .ref gr, .ref gc, .ref gb, .ref gu])), (gr, .inl (g.2.1, N, .inl (gR n))), (gc, .inl (g.2.1, N, .inl (gC n))), (gb, .inl (g.2.1, N, .inl (gB n))), (aB, .inr (2, [.ref aG, .ref aS, .ref aR, .ref aC, .ref aX])), (aS, .inl (g.2.1, N, .inl (eb (ub b c none)))), (aR, .inl (g.2.1, n, .inl (mR n N (ub b c none)))), (aC, .inl (g.2.1, n, .inl (mC n N (ub b c none)))), (aX, .inl (g.2.1, n, .inl (mB n N (ub b c none))))]) := by
  refine CT.of cX1_takeOut 3 none RX1 (by decide +kernel) rfl rfl (Nat.le_of_ble_eq_true rfl) ?_
  intro X hg hl C hret
  subst hg; subst hl
  show RW X 0 0 0 [(0, .ref aB), (1, .int (nI c))] [] [(aG, .inr (5, [.int (nI n), .int (nI N), .int (nI (2 ^ n - 1)), .ref gr, .ref gc, .ref gb, .ref gu])), (gr, .inl (X.1.2.1, N, .inl (gR n))), (gc, .inl (X.1.2.1, N, .inl (gC n))), (gb, .inl (X.1.2.1, N, .inl (gB n))), (aB, .inr (2, [.ref aG, .ref aS, .ref aR, .ref aC, .ref aX])), (aS, .inl (X.1.2.1, N, .inl (eb b))), (aR, .inl (X.1.2.1, n, .inl (mR n N b))), (aC, .inl (X.1.2.1, n, .inl (mC n N b))), (aX, .inl (X.1.2.1, n, .inl (mB n N b)))]
  refine r_aload_n C dX1_takeOut_0 0 rfl rfl ?_
  refine r_get C dX1_takeOut_1 iX1_takeOut_X1 1 fX1_takeOut_19 4 rfl rfl (by decide) rfl ?_
  refine r_iload_n C dX1_takeOut_4 1 rfl rfl ?_
  refine r_iald C dX1_takeOut_5 5 rfl (by omega) (by omega) ?_
  refine r_top (y := nI v) (by show eo (b c) = nI v; rw [h0]; rfl) ?_
  refine r_istore_n C dX1_takeOut_6 rfl (by decide) [1, 2, 0] (lv' := [(0, .ref aB), (1, .int (nI c)), (2, .int (nI v))]) rfl ?_
  refine r_iload_n C dX1_takeOut_7 2 rfl rfl ?_
  refine r_if_lt (tgt := 26) C dX1_takeOut_8 (by decide) (fun h8 => ?_) (fun h8 => ?_)
  · exact absurd h8 (nI_pos (by omega))
  · refine r_aload_n C dX1_takeOut_11 0 rfl rfl ?_
    refine r_get C dX1_takeOut_12 iX1_takeOut_X1 1 fX1_takeOut_19 4 rfl rfl (by decide) rfl ?_
    refine r_iload_n C dX1_takeOut_15 1 rfl rfl ?_
    refine r_iconst C dX1_takeOut_16 (v := (-1)) (by decide) ?_
    refine r_iast C dX1_takeOut_17 5 rfl (by omega) (by omega) (ws' := [(aG, .inr (5, [.int (nI n), .int (nI N), .int (nI (2 ^ n - 1)), .ref gr, .ref gc, .ref gb, .ref gu])), (gr, .inl (X.1.2.1, N, .inl (gR n))), (gc, .inl (X.1.2.1, N, .inl (gC n))), (gb, .inl (X.1.2.1, N, .inl (gB n))), (aB, .inr (2, [.ref aG, .ref aS, .ref aR, .ref aC, .ref aX])), (aS, .inl (X.1.2.1, N, .inl (upd (eb b) c (-1)))), (aR, .inl (X.1.2.1, n, .inl (mR n N b))), (aC, .inl (X.1.2.1, n, .inl (mC n N b))), (aX, .inl (X.1.2.1, n, .inl (mB n N b)))]) rfl ?_
    refine r_aload_n C dX1_takeOut_18 0 rfl rfl ?_
    refine r_iload_n C dX1_takeOut_19 1 rfl rfl ?_
    refine r_iconst C dX1_takeOut_20 (v := nI 1) (by decide) ?_
    refine r_iload_n C dX1_takeOut_21 2 rfl rfl ?_
    refine r_ishl C dX1_takeOut_22 (v := nI (2 ^ v)) (sh1 v hv6) ?_
    refine r_callV0 (n := 2) (ws' := fun u => [(aG, .inr (5, [.int (nI n), .int (nI N), .int (nI (2 ^ n - 1)), .ref gr, .ref gc, .ref gb, .ref gu])), (gr, .inl (X.1.2.1, N, .inl (gR n))), (gc, .inl (X.1.2.1, N, .inl (gC n))), (gb, .inl (X.1.2.1, N, .inl (gB n))), (aB, .inr (2, [.ref aG, .ref aS, .ref aR, .ref aC, .ref aX])), (aS, .inl (X.1.2.1, N, .inl (upd (eb b) c (-1)))), (aR, .inl (X.1.2.1, n, .inl (upd (mR n N b) (c / n) ((mR n N b) (c / n) ^^^ (nI (2 ^ v)))))), (aC, .inl (X.1.2.1, n, .inl (upd (mC n N b) (c % n) ((mC n N b) (c % n) ^^^ (nI (2 ^ v)))))), (aX, .inl (X.1.2.1, n, .inl (upd (mB n N b) (bx n c) ((mB n N b) (bx n c) ^^^ (nI (2 ^ v))))))]) C dX1_takeOut_23 (c_X1_flip (g := X.1) (l := X.2.2.1) (n := n) (N := N) (aG := aG) (gr := gr) (gc := gc) (gb := gb) (gu := gu) (aB := aB) (aS := aS) (aR := aR) (aC := aC) (aX := aX) (f := upd (eb b) c (-1)) (fR := mR n N b) (fC := mC n N b) (fB := mB n N b) (c := c) (x := nI (2 ^ v)) (hn := (by first | assumption | omega)) (hc := (by first | assumption | omega))) gX1_takeOut_X1_flip rfl (by decide +kernel) rfl ⟨Nat.le_of_ble_eq_true rfl, Nat.le_of_ble_eq_true rfl⟩ ⟨rfl, rfl⟩ ⟨Nat.zero_le _, Nat.zero_le _⟩ (rest := []) rfl (by decide) 4 rfl rfl [0, 1, 2, 3, 4, 5, 6, 7, 8] (by decide) rfl (fun u => rfl) (fun u => rfl) (fun v u hp => ?_)
    obtain rfl := hp
    show RW X 0 0 26 [(0, .ref aB), (1, .int (nI c)), (2, .int (nI v))] [] [(aG, .inr (5, [.int (nI n), .int (nI N), .int (nI (2 ^ n - 1)), .ref gr, .ref gc, .ref gb, .ref gu])), (gr, .inl (X.1.2.1, N, .inl (gR n))), (gc, .inl (X.1.2.1, N, .inl (gC n))), (gb, .inl (X.1.2.1, N, .inl (gB n))), (aB, .inr (2, [.ref aG, .ref aS, .ref aR, .ref aC, .ref aX])), (aS, .inl (X.1.2.1, N, .inl (upd (eb b) c (-1)))), (aR, .inl (X.1.2.1, n, .inl (upd (mR n N b) (c / n) ((mR n N b) (c / n) ^^^ (nI (2 ^ v)))))), (aC, .inl (X.1.2.1, n, .inl (upd (mC n N b) (c % n) ((mC n N b) (c % n) ^^^ (nI (2 ^ v)))))), (aX, .inl (X.1.2.1, n, .inl (upd (mB n N b) (bx n c) ((mB n N b) (bx n c) ^^^ (nI (2 ^ v))))))]
    refine r_arrI 5 rfl (fun j _ => by rw [eb_0]) (ws' := [(aG, .inr (5, [.int (nI n), .int (nI N), .int (nI (2 ^ n - 1)), .ref gr, .ref gc, .ref gb, .ref gu])), (gr, .inl (X.1.2.1, N, .inl (gR n))), (gc, .inl (X.1.2.1, N, .inl (gC n))), (gb, .inl (X.1.2.1, N, .inl (gB n))), (aB, .inr (2, [.ref aG, .ref aS, .ref aR, .ref aC, .ref aX])), (aS, .inl (X.1.2.1, N, .inl (eb (ub b c none)))), (aR, .inl (X.1.2.1, n, .inl (upd (mR n N b) (c / n) ((mR n N b) (c / n) ^^^ (nI (2 ^ v)))))), (aC, .inl (X.1.2.1, n, .inl (upd (mC n N b) (c % n) ((mC n N b) (c % n) ^^^ (nI (2 ^ v)))))), (aX, .inl (X.1.2.1, n, .inl (upd (mB n N b) (bx n c) ((mB n N b) (bx n c) ^^^ (nI (2 ^ v))))))]) rfl ?_
    refine r_arrI 6 rfl (fun j _ => congrFun (mask_out (n := n) (fun d => d / n) hc hv6 h0 (fun d q1 q0 q2 => hm d q1 q0 (Or.inl q2.symm))) j) (ws' := [(aG, .inr (5, [.int (nI n), .int (nI N), .int (nI (2 ^ n - 1)), .ref gr, .ref gc, .ref gb, .ref gu])), (gr, .inl (X.1.2.1, N, .inl (gR n))), (gc, .inl (X.1.2.1, N, .inl (gC n))), (gb, .inl (X.1.2.1, N, .inl (gB n))), (aB, .inr (2, [.ref aG, .ref aS, .ref aR, .ref aC, .ref aX])), (aS, .inl (X.1.2.1, N, .inl (eb (ub b c none)))), (aR, .inl (X.1.2.1, n, .inl (mR n N (ub b c none)))), (aC, .inl (X.1.2.1, n, .inl (upd (mC n N b) (c % n) ((mC n N b) (c % n) ^^^ (nI (2 ^ v)))))), (aX, .inl (X.1.2.1, n, .inl (upd (mB n N b) (bx n c) ((mB n N b) (bx n c) ^^^ (nI (2 ^ v))))))]) rfl ?_
    refine r_arrI 7 rfl (fun j _ => congrFun (mask_out (n := n) (fun d => d % n) hc hv6 h0 (fun d q1 q0 q2 => hm d q1 q0 (Or.inr (Or.inl q2.symm)))) j) (ws' := [(aG, .inr (5, [.int (nI n), .int (nI N), .int (nI (2 ^ n - 1)), .ref gr, .ref gc, .ref gb, .ref gu])), (gr, .inl (X.1.2.1, N, .inl (gR n))), (gc, .inl (X.1.2.1, N, .inl (gC n))), (gb, .inl (X.1.2.1, N, .inl (gB n))), (aB, .inr (2, [.ref aG, .ref aS, .ref aR, .ref aC, .ref aX])), (aS, .inl (X.1.2.1, N, .inl (eb (ub b c none)))), (aR, .inl (X.1.2.1, n, .inl (mR n N (ub b c none)))), (aC, .inl (X.1.2.1, n, .inl (mC n N (ub b c none)))), (aX, .inl (X.1.2.1, n, .inl (upd (mB n N b) (bx n c) ((mB n N b) (bx n c) ^^^ (nI (2 ^ v))))))]) rfl ?_
    refine r_arrI 8 rfl (fun j _ => congrFun (mask_out (n := n) (fun d => bx n d) hc hv6 h0 (fun d q1 q0 q2 => hm d q1 q0 (Or.inr (Or.inr q2.symm)))) j) (ws' := [(aG, .inr (5, [.int (nI n), .int (nI N), .int (nI (2 ^ n - 1)), .ref gr, .ref gc, .ref gb, .ref gu])), (gr, .inl (X.1.2.1, N, .inl (gR n))), (gc, .inl (X.1.2.1, N, .inl (gC n))), (gb, .inl (X.1.2.1, N, .inl (gB n))), (aB, .inr (2, [.ref aG, .ref aS, .ref aR, .ref aC, .ref aX])), (aS, .inl (X.1.2.1, N, .inl (eb (ub b c none)))), (aR, .inl (X.1.2.1, n, .inl (mR n N (ub b c none)))), (aC, .inl (X.1.2.1, n, .inl (mC n N (ub b c none)))), (aX, .inl (X.1.2.1, n, .inl (mB n N (ub b c none))))]) rfl ?_
    exact hret _ _ _ () rfl (Or.inl ⟨rfl, rfl, dX1_takeOut_26⟩)
theorem fX1_clear_7 : Cond.fieldLink RX1 7 (TX1 0).1 (TX1 0).2.1 (TX1 0).2.2.1 ∈ wsX1_clear := List.mem_of_getElem? (i := 1) rfl
theorem iX1_clear_X1 : ∀ w ∈ wsX10, w ∈ wsX1_clear := by decide +kernel
theorem fX1_clear_13 : Cond.fieldLink RX1 13 (TX4 1).1 (TX4 1).2.1 (TX4 1).2.2.1 ∈ wsX1_clear := List.mem_of_getElem? (i := 2) rfl
theorem iX1_clear_X4 : ∀ w ∈ wsX40, w ∈ wsX1_clear := by decide +kernel
theorem fX1_clear_23 : Cond.fieldLink RX1 23 (TX4 0).1 (TX4 0).2.1 (TX4 0).2.2.1 ∈ wsX1_clear := List.mem_of_getElem? (i := 4) rfl
theorem fX1_clear_26 : Cond.fieldLink RX1 26 (TX1 2).1 (TX1 2).2.1 (TX1 2).2.2.1 ∈ wsX1_clear := List.mem_of_getElem? (i := 5) rfl
theorem fX1_clear_29 : Cond.fieldLink RX1 29 (TX1 3).1 (TX1 3).2.1 (TX1 3).2.2.1 ∈ wsX1_clear := List.mem_of_getElem? (i := 6) rfl
theorem fX1_clear_32 : Cond.fieldLink RX1 32 (TX1 4).1 (TX1 4).2.1 (TX1 4).2.2.1 ∈ wsX1_clear := List.mem_of_getElem? (i := 7) rfl
theorem fX1_clear_19 : Cond.fieldLink RX1 19 (TX1 1).1 (TX1 1).2.1 (TX1 1).2.2.1 ∈ wsX1_clear := List.mem_of_getElem? (i := 3) rfl
set_option maxHeartbeats 4000000 in
set_option maxRecDepth 100000 in
theorem c_X1_clear {g : ww_G} {l : Launch} {n : Nat} {N : Nat} {aG : Nat} {gr : Nat} {gc : Nat} {gb : Nat} {gu : Nat} {aB : Nat} {aS : Nat} {aR : Nat} {aC : Nat} {aX : Nat} {f : Nat → Int32} {fR : Nat → Int32} {fC : Nat → Int32} {fB : Nat → Int32} (hn : (n = 4 ∧ N = 16) ∨ (n = 6 ∧ N = 36)) : CT g l yX1_clear wsX1_clear (ww_rm 1) [.ref aB] ([(aG, .inr (5, [.int (nI n), .int (nI N), .int (nI (2 ^ n - 1)), .ref gr, .ref gc, .ref gb, .ref gu])), (gr, .inl (g.2.1, N, .inl (gR n))), (gc, .inl (g.2.1, N, .inl (gC n))), (gb, .inl (g.2.1, N, .inl (gB n))), (aB, .inr (2, [.ref aG, .ref aS, .ref aR, .ref aC, .ref aX])), (aS, .inl (g.2.1, N, .inl f)), (aR, .inl (g.2.1, n, .inl fR)), (aC, .inl (g.2.1, n, .inl fC)), (aX, .inl (g.2.1, n, .inl fB))]) (S := Unit) (fun v u => v = none) (fun u => [(aG, .inr (5, [.int (nI n), .int (nI N), .int (nI (2 ^ n - 1)), .ref gr, .ref gc, .ref gb, .ref gu])), (gr, .inl (g.2.1, N, .inl (gR n))), (gc, .inl (g.2.1, N, .inl (gC n))), (gb, .inl (g.2.1, N, .inl (gB n))), (aB, .inr (2, [.ref aG, .ref aS, .ref aR, .ref aC, .ref aX])), (aS, .inl (g.2.1, N, .inl (eb (fun _ => none)))), (aR, .inl (g.2.1, n, .inl (mR n N (fun _ => none)))), (aC, .inl (g.2.1, n, .inl (mC n N (fun _ => none)))), (aX, .inl (g.2.1, n, .inl (mB n N (fun _ => none))))]) := by
  refine CT.of cX1_clear 2 none RX1 (by decide +kernel) rfl rfl (Nat.le_of_ble_eq_true rfl) ?_
  intro X hg hl C hret
  subst hg; subst hl
  show RW X 0 0 0 [(0, .ref aB)] [] [(aG, .inr (5, [.int (nI n), .int (nI N), .int (nI (2 ^ n - 1)), .ref gr, .ref gc, .ref gb, .ref gu])), (gr, .inl (X.1.2.1, N, .inl (gR n))), (gc, .inl (X.1.2.1, N, .inl (gC n))), (gb, .inl (X.1.2.1, N, .inl (gB n))), (aB, .inr (2, [.ref aG, .ref aS, .ref aR, .ref aC, .ref aX])), (aS, .inl (X.1.2.1, N, .inl f)), (aR, .inl (X.1.2.1, n, .inl fR)), (aC, .inl (X.1.2.1, n, .inl fC)), (aX, .inl (X.1.2.1, n, .inl fB))]
  refine r_iconst C dX1_clear_0 (v := nI 0) (by decide) ?_
  refine r_istore_n C dX1_clear_1 rfl (by decide) [1, 0] (lv' := [(0, .ref aB), (1, .int (nI 0))]) rfl ?_
  have L2 : ∀ (d2 : Nat) (i : Nat) (f1 : Nat → Int32), (N - i) < d2 → (i ≤ N) → (∀ c, c < i → f1 c = -1) → RW X 0 0 2 [(0, .ref aB), (1, .int (nI i))] [] [(aG, .inr (5, [.int (nI n), .int (nI N), .int (nI (2 ^ n - 1)), .ref gr, .ref gc, .ref gb, .ref gu])), (gr, .inl (X.1.2.1, N, .inl (gR n))), (gc, .inl (X.1.2.1, N, .inl (gC n))), (gb, .inl (X.1.2.1, N, .inl (gB n))), (aB, .inr (2, [.ref aG, .ref aS, .ref aR, .ref aC, .ref aX])), (aS, .inl (X.1.2.1, N, .inl f1)), (aR, .inl (X.1.2.1, n, .inl fR)), (aC, .inl (X.1.2.1, n, .inl fC)), (aX, .inl (X.1.2.1, n, .inl fB))] := by
    intro d2
    induction d2 with
    | zero => intro i f1 hd2; exact absurd hd2 (Nat.not_lt_zero _)
    | succ d2 ih2 =>
      intro i f1 hd2 hi hf
      refine r_iload_n C dX1_clear_2 1 rfl rfl ?_
      refine r_aload_n C dX1_clear_3 0 rfl rfl ?_
      refine r_get C dX1_clear_4 iX1_clear_X1 0 fX1_clear_7 4 rfl rfl (by decide) rfl ?_
      refine r_get C dX1_clear_7 iX1_clear_X4 1 fX1_clear_13 0 rfl rfl (by decide) rfl ?_
      refine r_icmp_ge (tgt := 26) C dX1_clear_10 (by decide) (fun h10 => ?_) (fun h10 => ?_)
      · have h10 : N ≤ i := (nI_leI (by omega) (by omega)).mp h10
        refine r_iconst C dX1_clear_26 (v := nI 0) (by decide) ?_
        refine r_istore_n C dX1_clear_27 rfl (by decide) [1, 0] (lv' := [(0, .ref aB), (1, .int (nI 0))]) rfl ?_
        have L28 : ∀ (d28 : Nat) (k : Nat) (f2 : Nat → Int32) (f3 : Nat → Int32) (f4 : Nat → Int32), (n - k) < d28 → (k ≤ n) → (∀ c, c < k → f2 c = 0 ∧ f3 c = 0 ∧ f4 c = 0) → RW X 0 0 28 [(0, .ref aB), (1, .int (nI k))] [] [(aG, .inr (5, [.int (nI n), .int (nI N), .int (nI (2 ^ n - 1)), .ref gr, .ref gc, .ref gb, .ref gu])), (gr, .inl (X.1.2.1, N, .inl (gR n))), (gc, .inl (X.1.2.1, N, .inl (gC n))), (gb, .inl (X.1.2.1, N, .inl (gB n))), (aB, .inr (2, [.ref aG, .ref aS, .ref aR, .ref aC, .ref aX])), (aS, .inl (X.1.2.1, N, .inl f1)), (aR, .inl (X.1.2.1, n, .inl f2)), (aC, .inl (X.1.2.1, n, .inl f3)), (aX, .inl (X.1.2.1, n, .inl f4))] := by
          intro d28
          induction d28 with
          | zero => intro k f2 f3 f4 hd28; exact absurd hd28 (Nat.not_lt_zero _)
          | succ d28 ih28 =>
            intro k f2 f3 f4 hd28 hk hf2
            refine r_iload_n C dX1_clear_28 1 rfl rfl ?_
            refine r_aload_n C dX1_clear_29 0 rfl rfl ?_
            refine r_get C dX1_clear_30 iX1_clear_X1 0 fX1_clear_7 4 rfl rfl (by decide) rfl ?_
            refine r_get C dX1_clear_33 iX1_clear_X4 0 fX1_clear_23 0 rfl rfl (by decide) rfl ?_
            refine r_icmp_ge (tgt := 66) C dX1_clear_36 (by decide) (fun h36 => ?_) (fun h36 => ?_)
            · have h36 : n ≤ k := (nI_leI (by omega) (by omega)).mp h36
              have hz : nI (mkN (fun _ => False)) = 0 := by rw [← mkN_of (m := 0) (by omega) (fun i _ => by simp)]; rfl
              have hr : ∀ (p : Nat → Nat) (j : Nat), nI (mkN (fun v => ∃ d, d < N ∧ p d = j ∧ (none : Option Nat) = some v)) = 0 := fun p j => by rw [← hz]; exact congrArg nI (mkN_ext (fun i _ => by simp))
              refine r_arrI 5 rfl (fun j q => hf j (by omega)) (ws' := [(aG, .inr (5, [.int (nI n), .int (nI N), .int (nI (2 ^ n - 1)), .ref gr, .ref gc, .ref gb, .ref gu])), (gr, .inl (X.1.2.1, N, .inl (gR n))), (gc, .inl (X.1.2.1, N, .inl (gC n))), (gb, .inl (X.1.2.1, N, .inl (gB n))), (aB, .inr (2, [.ref aG, .ref aS, .ref aR, .ref aC, .ref aX])), (aS, .inl (X.1.2.1, N, .inl (eb (fun _ => none)))), (aR, .inl (X.1.2.1, n, .inl f2)), (aC, .inl (X.1.2.1, n, .inl f3)), (aX, .inl (X.1.2.1, n, .inl f4))]) rfl ?_
              refine r_arrI 6 rfl (fun j q => (hf2 j (by omega)).1.trans (hr (fun d => d / n) j).symm) (ws' := [(aG, .inr (5, [.int (nI n), .int (nI N), .int (nI (2 ^ n - 1)), .ref gr, .ref gc, .ref gb, .ref gu])), (gr, .inl (X.1.2.1, N, .inl (gR n))), (gc, .inl (X.1.2.1, N, .inl (gC n))), (gb, .inl (X.1.2.1, N, .inl (gB n))), (aB, .inr (2, [.ref aG, .ref aS, .ref aR, .ref aC, .ref aX])), (aS, .inl (X.1.2.1, N, .inl (eb (fun _ => none)))), (aR, .inl (X.1.2.1, n, .inl (mR n N (fun _ => none)))), (aC, .inl (X.1.2.1, n, .inl f3)), (aX, .inl (X.1.2.1, n, .inl f4))]) rfl ?_
              refine r_arrI 7 rfl (fun j q => (hf2 j (by omega)).2.1.trans (hr (fun d => d % n) j).symm) (ws' := [(aG, .inr (5, [.int (nI n), .int (nI N), .int (nI (2 ^ n - 1)), .ref gr, .ref gc, .ref gb, .ref gu])), (gr, .inl (X.1.2.1, N, .inl (gR n))), (gc, .inl (X.1.2.1, N, .inl (gC n))), (gb, .inl (X.1.2.1, N, .inl (gB n))), (aB, .inr (2, [.ref aG, .ref aS, .ref aR, .ref aC, .ref aX])), (aS, .inl (X.1.2.1, N, .inl (eb (fun _ => none)))), (aR, .inl (X.1.2.1, n, .inl (mR n N (fun _ => none)))), (aC, .inl (X.1.2.1, n, .inl (mC n N (fun _ => none)))), (aX, .inl (X.1.2.1, n, .inl f4))]) rfl ?_
              refine r_arrI 8 rfl (fun j q => (hf2 j (by omega)).2.2.trans (hr (fun d => bx n d) j).symm) (ws' := [(aG, .inr (5, [.int (nI n), .int (nI N), .int (nI (2 ^ n - 1)), .ref gr, .ref gc, .ref gb, .ref gu])), (gr, .inl (X.1.2.1, N, .inl (gR n))), (gc, .inl (X.1.2.1, N, .inl (gC n))), (gb, .inl (X.1.2.1, N, .inl (gB n))), (aB, .inr (2, [.ref aG, .ref aS, .ref aR, .ref aC, .ref aX])), (aS, .inl (X.1.2.1, N, .inl (eb (fun _ => none)))), (aR, .inl (X.1.2.1, n, .inl (mR n N (fun _ => none)))), (aC, .inl (X.1.2.1, n, .inl (mC n N (fun _ => none)))), (aX, .inl (X.1.2.1, n, .inl (mB n N (fun _ => none))))]) rfl ?_
              exact hret _ _ _ () rfl (Or.inl ⟨rfl, rfl, dX1_clear_66⟩)
            · have h36 : ¬ (n ≤ k) := fun e9 => h36 ((nI_leI (by omega) (by omega)).mpr e9)
              refine r_aload_n C dX1_clear_39 0 rfl rfl ?_
              refine r_get C dX1_clear_40 iX1_clear_X1 2 fX1_clear_26 4 rfl rfl (by decide) rfl ?_
              refine r_iload_n C dX1_clear_43 1 rfl rfl ?_
              refine r_iconst C dX1_clear_44 (v := nI 0) (by decide) ?_
              refine r_iast C dX1_clear_45 6 rfl (by omega) (by omega) (ws' := [(aG, .inr (5, [.int (nI n), .int (nI N), .int (nI (2 ^ n - 1)), .ref gr, .ref gc, .ref gb, .ref gu])), (gr, .inl (X.1.2.1, N, .inl (gR n))), (gc, .inl (X.1.2.1, N, .inl (gC n))), (gb, .inl (X.1.2.1, N, .inl (gB n))), (aB, .inr (2, [.ref aG, .ref aS, .ref aR, .ref aC, .ref aX])), (aS, .inl (X.1.2.1, N, .inl f1)), (aR, .inl (X.1.2.1, n, .inl (upd f2 k (nI 0)))), (aC, .inl (X.1.2.1, n, .inl f3)), (aX, .inl (X.1.2.1, n, .inl f4))]) rfl ?_
              refine r_aload_n C dX1_clear_46 0 rfl rfl ?_
              refine r_get C dX1_clear_47 iX1_clear_X1 3 fX1_clear_29 4 rfl rfl (by decide) rfl ?_
              refine r_iload_n C dX1_clear_50 1 rfl rfl ?_
              refine r_iconst C dX1_clear_51 (v := nI 0) (by decide) ?_
              refine r_iast C dX1_clear_52 7 rfl (by omega) (by omega) (ws' := [(aG, .inr (5, [.int (nI n), .int (nI N), .int (nI (2 ^ n - 1)), .ref gr, .ref gc, .ref gb, .ref gu])), (gr, .inl (X.1.2.1, N, .inl (gR n))), (gc, .inl (X.1.2.1, N, .inl (gC n))), (gb, .inl (X.1.2.1, N, .inl (gB n))), (aB, .inr (2, [.ref aG, .ref aS, .ref aR, .ref aC, .ref aX])), (aS, .inl (X.1.2.1, N, .inl f1)), (aR, .inl (X.1.2.1, n, .inl (upd f2 k (nI 0)))), (aC, .inl (X.1.2.1, n, .inl (upd f3 k (nI 0)))), (aX, .inl (X.1.2.1, n, .inl f4))]) rfl ?_
              refine r_aload_n C dX1_clear_53 0 rfl rfl ?_
              refine r_get C dX1_clear_54 iX1_clear_X1 4 fX1_clear_32 4 rfl rfl (by decide) rfl ?_
              refine r_iload_n C dX1_clear_57 1 rfl rfl ?_
              refine r_iconst C dX1_clear_58 (v := nI 0) (by decide) ?_
              refine r_iast C dX1_clear_59 8 rfl (by omega) (by omega) (ws' := [(aG, .inr (5, [.int (nI n), .int (nI N), .int (nI (2 ^ n - 1)), .ref gr, .ref gc, .ref gb, .ref gu])), (gr, .inl (X.1.2.1, N, .inl (gR n))), (gc, .inl (X.1.2.1, N, .inl (gC n))), (gb, .inl (X.1.2.1, N, .inl (gB n))), (aB, .inr (2, [.ref aG, .ref aS, .ref aR, .ref aC, .ref aX])), (aS, .inl (X.1.2.1, N, .inl f1)), (aR, .inl (X.1.2.1, n, .inl (upd f2 k (nI 0)))), (aC, .inl (X.1.2.1, n, .inl (upd f3 k (nI 0)))), (aX, .inl (X.1.2.1, n, .inl (upd f4 k (nI 0))))]) rfl ?_
              refine r_iinc C dX1_clear_60 1 rfl (v := nI (k + 1)) (nI_add _ _) (by decide) [1, 0] (lv' := [(0, .ref aB), (1, .int (nI (k + 1)))]) rfl ?_
              refine r_goto (tgt := 28) C dX1_clear_63 (by decide) ?_
              exact ih28 (k + 1) (upd f2 k (nI 0)) (upd f3 k (nI 0)) (upd f4 k (nI 0)) (by omega) (by omega) (fun c q => ⟨up_S (Q := fun _ y => y = 0) (fun c q => (hf2 c q).1) rfl c q, up_S (Q := fun _ y => y = 0) (fun c q => (hf2 c q).2.1) rfl c q, up_S (Q := fun _ y => y = 0) (fun c q => (hf2 c q).2.2) rfl c q⟩)
        exact L28 ((n - 0) + 1) 0 fR fC fB (Nat.lt_succ_self _) (Nat.zero_le _) (fun c q => absurd q (Nat.not_lt_zero c))
      · have h10 : ¬ (N ≤ i) := fun e9 => h10 ((nI_leI (by omega) (by omega)).mpr e9)
        refine r_aload_n C dX1_clear_13 0 rfl rfl ?_
        refine r_get C dX1_clear_14 iX1_clear_X1 1 fX1_clear_19 4 rfl rfl (by decide) rfl ?_
        refine r_iload_n C dX1_clear_17 1 rfl rfl ?_
        refine r_iconst C dX1_clear_18 (v := (-1)) (by decide) ?_
        refine r_iast C dX1_clear_19 5 rfl (by omega) (by omega) (ws' := [(aG, .inr (5, [.int (nI n), .int (nI N), .int (nI (2 ^ n - 1)), .ref gr, .ref gc, .ref gb, .ref gu])), (gr, .inl (X.1.2.1, N, .inl (gR n))), (gc, .inl (X.1.2.1, N, .inl (gC n))), (gb, .inl (X.1.2.1, N, .inl (gB n))), (aB, .inr (2, [.ref aG, .ref aS, .ref aR, .ref aC, .ref aX])), (aS, .inl (X.1.2.1, N, .inl (upd f1 i (-1)))), (aR, .inl (X.1.2.1, n, .inl fR)), (aC, .inl (X.1.2.1, n, .inl fC)), (aX, .inl (X.1.2.1, n, .inl fB))]) rfl ?_
        refine r_iinc C dX1_clear_20 1 rfl (v := nI (i + 1)) (nI_add _ _) (by decide) [1, 0] (lv' := [(0, .ref aB), (1, .int (nI (i + 1)))]) rfl ?_
        refine r_goto (tgt := 2) C dX1_clear_23 (by decide) ?_
        exact ih2 (i + 1) (upd f1 i (-1)) (by omega) (by omega) (up_S (Q := fun _ y => y = -1) hf rfl)
  exact L2 ((N - 0) + 1) 0 f (Nat.lt_succ_self _) (Nat.zero_le _) (fun c q => absurd q (Nat.not_lt_zero c))
end
section
/-! counting answers -/
noncomputable def dI (P : Prop) : Nat := @ite _ P (Classical.propDecidable P) 1 0
theorem dI_t {P : Prop} (h : P) : dI P = 1 := by unfold dI; exact if_pos h
theorem dI_f {P : Prop} (h : ¬ P) : dI P = 0 := by unfold dI; exact if_neg h
theorem dI_iff {P Q : Prop} (h : P ↔ Q) : dI P = dI Q := by rw [propext h]
def sumV : Nat → (Nat → Nat) → Nat
  | 0, _ => 0
  | k + 1, f => sumV k f + f k
theorem sumV_congr {f g : Nat → Nat} : ∀ {n : Nat}, (∀ v, v < n → f v = g v) → sumV n f = sumV n g
  | 0, _ => rfl
  | n + 1, h => by
    show sumV n f + f n = sumV n g + g n
    rw [sumV_congr (fun v q => h v (by omega)), h n (by omega)]
theorem sumV_add {f g : Nat → Nat} : ∀ (n : Nat), sumV n (fun v => f v + g v) = sumV n f + sumV n g
  | 0 => rfl
  | n + 1 => by
    show sumV n (fun v => f v + g v) + (f n + g n) = (sumV n f + f n) + (sumV n g + g n)
    rw [sumV_add n]; omega
theorem sumV_0 {f : Nat → Nat} {n : Nat} (h : ∀ v, v < n → f v = 0) : sumV n f = 0 := by
  rw [sumV_congr (g := fun _ => 0) h]
  clear h
  induction n with
  | zero => rfl
  | succ n ih => show sumV n _ + 0 = 0; rw [ih]
theorem sumV_1 {f : Nat → Nat} {n k : Nat} (hk : k < n) (h : ∀ v, v < n → v ≠ k → f v = 0) : sumV n f = f k := by
  induction n with
  | zero => omega
  | succ n ih =>
    show sumV n f + f n = f k
    by_cases e : k = n
    · subst e
      rw [sumV_0 (fun v q => h v (by omega) (by omega))]; omega
    · rw [ih (by omega) (fun v q => h v (by omega)), h n (by omega) (fun w => e w.symm)]; omega
theorem sumV_swap {f : Nat → Nat → Nat} (n : Nat) : ∀ (m : Nat), sumV n (fun a => sumV m (fun b => f a b)) = sumV m (fun b => sumV n (fun a => f a b))
  | 0 => sumV_0 (fun _ _ => rfl)
  | m + 1 => by
    show sumV n (fun a => sumV m (fun b => f a b) + f a m) = sumV m (fun b => sumV n (fun a => f a b)) + sumV n (fun a => f a m)
    rw [sumV_add, sumV_swap n m]
theorem sumV_le {f : Nat → Nat} {a b : Nat} (h : a ≤ b) : sumV a f ≤ sumV b f := by
  induction b with
  | zero => rw [show a = 0 by omega]; exact Nat.le_refl _
  | succ b ih =>
    by_cases e : a = b + 1
    · rw [e]; exact Nat.le_refl _
    · have := ih (by omega)
      show sumV a f ≤ sumV b f + f b
      omega
def upA (A : Nat → Nat) (i v : Nat) : Nat → Nat := fun j => if j = i then v else A j
/-- the sum of w over all ways to give the cells below i symbols below n -/
def sumA (n : Nat) (w : (Nat → Nat) → Nat) : Nat → (Nat → Nat) → Nat
  | 0, A => w A
  | i + 1, A => sumV n (fun v => sumA n w i (upA A i v))
theorem sumA_congr {n : Nat} {w w' : (Nat → Nat) → Nat} (N : Nat) : ∀ (i : Nat) (A : Nat → Nat), i ≤ N → (∀ j, i ≤ j → j < N → A j < n) → (∀ B, (∀ j, j < N → B j < n) → w B = w' B) → sumA n w i A = sumA n w' i A
  | 0, A, _, hA, h => h A (fun j q => hA j (Nat.zero_le j) q)
  | i + 1, A, hi, hA, h => sumV_congr (fun v q => sumA_congr N i (upA A i v) (by omega) (fun j q1 q2 => by
      unfold upA
      by_cases e : j = i
      · rw [if_pos e]; exact q
      · rw [if_neg e]; exact hA j (by omega) q2) h)
theorem sumA_sum {n m : Nat} {w : Nat → (Nat → Nat) → Nat} : ∀ (i : Nat) (A : Nat → Nat), sumA n (fun B => sumV m (fun v => w v B)) i A = sumV m (fun v => sumA n (w v) i A)
  | 0, _ => rfl
  | i + 1, A => by
    show sumV n (fun u => sumA n _ i (upA A i u)) = sumV m (fun v => sumV n (fun u => sumA n (w v) i (upA A i u)))
    rw [sumV_congr (fun u _ => sumA_sum i (upA A i u))]
    exact sumV_swap n m
theorem sumA_0 {n : Nat} {w : (Nat → Nat) → Nat} (h : ∀ B, w B = 0) : ∀ (i : Nat) (A : Nat → Nat), sumA n w i A = 0
  | 0, A => h A
  | i + 1, A => sumV_0 (fun v _ => sumA_0 h i (upA A i v))
theorem sumA_one {n M : Nat} {L : Nat → Nat} (hL : ∀ j, j < M → L j < n) : ∀ (i : Nat) (A : Nat → Nat), i ≤ M → sumA n (fun B => dI (∀ j, j < M → B j = L j)) i A = dI (∀ j, i ≤ j → j < M → A j = L j)
  | 0, A, _ => dI_iff ⟨fun h j _ q => h j q, fun h j q => h j (Nat.zero_le j) q⟩
  | i + 1, A, hi => by
    show sumV n (fun v => sumA n _ i (upA A i v)) = _
    rw [sumV_congr (fun v _ => sumA_one hL i (upA A i v) (by omega)), sumV_1 (k := L i) (hL i (by omega))]
    · refine dI_iff ⟨fun h j q1 q2 => ?_, fun h j q1 q2 => ?_⟩
      · have := h j (by omega) q2
        unfold upA at this
        rw [if_neg (by omega)] at this
        exact this
      · unfold upA
        by_cases e : j = i
        · rw [if_pos e, e]
        · rw [if_neg e]; exact h j (by omega) q2
    · intro v _ hv
      refine dI_f (fun h => hv ?_)
      have := h i (Nat.le_refl i) (by omega)
      unfold upA at this
      rw [if_pos rfl] at this
      exact this
/-- A is an answer of the givens b -/
def ansP (n N : Nat) (b : Nat → Option Nat) (A : Nat → Nat) : Prop := (∀ c v, c < N → b c = some v → A c = v) ∧ ∀ c d, c < N → d < N → c ≠ d → tog n c d → A c ≠ A d
/-- how many answers of b have Q -/
noncomputable def cntQ (n N : Nat) (b : Nat → Option Nat) (Q : (Nat → Nat) → Prop) : Nat := sumA n (fun A => dI (ansP n N b A ∧ Q A)) N (fun _ => 0)
noncomputable def cntS (n N : Nat) (b : Nat → Option Nat) : Nat := cntQ n N b (fun _ => True)
theorem cntQ_congr {n N : Nat} {b b' : Nat → Option Nat} {Q Q' : (Nat → Nat) → Prop} (h : ∀ A, (∀ j, j < N → A j < n) → (ansP n N b A ∧ Q A ↔ ansP n N b' A ∧ Q' A)) : cntQ n N b Q = cntQ n N b' Q' :=
  sumA_congr N N _ (Nat.le_refl N) (fun j q1 q2 => absurd q2 (by omega)) (fun B hB => dI_iff (h B hB))
theorem cntQ_split {n N : Nat} {b : Nat → Option Nat} {Q : (Nat → Nat) → Prop} {c : Nat} (hc : c < N) : cntQ n N b Q = sumV n (fun v => cntQ n N b (fun A => Q A ∧ A c = v)) := by
  unfold cntQ
  rw [← sumA_sum]
  refine sumA_congr N N _ (Nat.le_refl N) (fun j q1 q2 => absurd q2 (by omega)) (fun B hB => ?_)
  rw [sumV_1 (k := B c) (hB c hc) (fun v _ hv => dI_f (fun h => hv h.2.2.symm))]
  exact dI_iff ⟨fun h => ⟨h.1, h.2, rfl⟩, fun h => ⟨h.1, h.2.1⟩⟩
theorem cntQ_0 {n N : Nat} {b : Nat → Option Nat} {Q : (Nat → Nat) → Prop} (h : ∀ A, ¬ (ansP n N b A ∧ Q A)) : cntQ n N b Q = 0 := sumA_0 (fun B => dI_f (h B)) _ _
theorem cntS_split {n N : Nat} {b : Nat → Option Nat} {c : Nat} (hc : c < N) (h0 : b c = none) : cntS n N b = sumV n (fun v => cntS n N (ub b c (some v)) * dI (mayP n N b c v)) := by
  unfold cntS
  rw [cntQ_split hc]
  refine sumV_congr (fun v hv => ?_)
  by_cases hm : mayP n N b c v
  · rw [dI_t hm, Nat.mul_one]
    refine cntQ_congr (fun A _ => ?_)
    constructor
    · rintro ⟨⟨h1, h2⟩, -, h3⟩
      refine ⟨⟨fun d u hd e => ?_, h2⟩, trivial⟩
      by_cases ed : d = c
      · subst ed; rw [ub_s] at e; rw [h3]; exact Option.some.inj e
      · rw [ub_n ed] at e; exact h1 d u hd e
    · rintro ⟨⟨h1, h2⟩, -⟩
      refine ⟨⟨fun d u hd e => h1 d u hd ?_, h2⟩, trivial, h1 c v hc ub_s⟩
      rw [ub_n (fun w => by rw [w, h0] at e; cases e)]; exact e
  · rw [dI_f hm, Nat.mul_zero]
    refine cntQ_0 (fun A hA => hm ⟨hv, fun d hd ht hb => ?_⟩)
    obtain ⟨⟨h1, h2⟩, -, h3⟩ := hA
    have hdc : c ≠ d := fun w => by rw [← w, h0] at hb; cases hb
    exact h2 c d hc hd hdc ht (by rw [h3, h1 d v hd hb])
theorem cntS_full {n N : Nat} {b : Nat → Option Nat} (hok : okB n N b) (hf : ∀ c, c < N → b c ≠ none) : cntS n N b = 1 := by
  have hL : ∀ j, j < N → (b j).getD 0 < n := fun j q => by
    cases e : b j with
    | none => exact absurd e (hf j q)
    | some v => exact hok.1 j v e
  have h1 := sumA_one (n := n) (M := N) (L := fun j => (b j).getD 0) hL N (fun _ => 0) (Nat.le_refl N)
  rw [dI_t (fun j q1 q2 => absurd q2 (by omega))] at h1
  rw [← h1]
  refine sumA_congr N N _ (Nat.le_refl N) (fun j q1 q2 => absurd q2 (by omega)) (fun B hB => dI_iff ?_)
  constructor
  · rintro ⟨⟨h1, h2⟩, -⟩ j q
    cases e : b j with
    | none => exact absurd e (hf j q)
    | some v => rw [h1 j v q e]; rfl
  · intro h
    refine ⟨⟨fun c v hc e => by rw [h c hc, e]; rfl, fun c d hc hd hne ht e => ?_⟩, trivial⟩
    rw [h c hc, h d hd] at e
    cases e1 : b c with
    | none => exact hf c hc e1
    | some v =>
      cases e2 : b d with
      | none => exact hf d hd e2
      | some u =>
        rw [e1, e2] at e
        have : v = u := e
        subst this
        exact hok.2 c d v hc hd hne ht e1 e2
theorem okB_put {n N : Nat} {b : Nat → Option Nat} {c v : Nat} (hok : okB n N b) (hm : mayP n N b c v) : okB n N (ub b c (some v)) := by
  refine ⟨fun d u e => ?_, fun d e' u hd he hne ht e1 e2 => ?_⟩
  · by_cases q : d = c
    · subst q; rw [ub_s] at e; cases e; exact hm.1
    · rw [ub_n q] at e; exact hok.1 d u e
  · by_cases q1 : d = c
    · subst q1
      rw [ub_s] at e1; cases e1
      rw [ub_n (fun w => hne w.symm)] at e2
      exact hm.2 e' he ht e2
    · rw [ub_n q1] at e1
      by_cases q2 : e' = c
      · subst q2
        rw [ub_s] at e2; cases e2
        exact hm.2 d hd (tog_sym ht) e1
      · rw [ub_n q2] at e2
        exact hok.2 d e' u hd he hne ht e1 e2
end
section
/-! the JDK's bit functions on six bits; numbers of 64 bits -/
def pcb (m : Nat) : Nat → Nat
  | 0 => 0
  | t + 1 => pcb m t + (m.testBit t).toNat
noncomputable def cn (P : Nat → Prop) : Nat → Nat
  | 0 => 0
  | t + 1 => cn P t + dI (P t)
theorem cn_pcb {P : Nat → Prop} : ∀ {t : Nat}, t ≤ 6 → pcb (mkN P) t = cn P t
  | 0, _ => rfl
  | t + 1, h => by
    show pcb (mkN P) t + ((mkN P).testBit t).toNat = cn P t + dI (P t)
    rw [cn_pcb (by omega)]
    by_cases q : P t
    · rw [dI_t q, (mkN_tb P (by omega)).mpr q]; rfl
    · rw [dI_f q]
      cases e : (mkN P).testBit t
      · rfl
      · exact absurd ((mkN_tb P (by omega)).mp e) q
theorem cn_cut {P : Nat → Prop} {n : Nat} (h : ∀ v, P v → v < n) : ∀ {k : Nat}, n ≤ k → cn P k = cn P n := by
  intro k
  induction k with
  | zero => intro q; rw [show n = 0 by omega]
  | succ k ih =>
    intro q
    by_cases e : n = k + 1
    · rw [e]
    · show cn P k + dI (P k) = _
      rw [ih (by omega), dI_f (fun w => by have := h k w; omega)]; omega
theorem cn_le {P : Nat → Prop} : ∀ (k : Nat), cn P k ≤ k
  | 0 => Nat.le_refl 0
  | k + 1 => by
    have := cn_le (P := P) k
    have h : dI (P k) ≤ 1 := by
      by_cases q : P k
      · rw [dI_t q]; exact Nat.le_refl 1
      · rw [dI_f q]; exact Nat.zero_le 1
    show cn P k + dI (P k) ≤ k + 1
    omega
theorem cn_mono {P : Nat → Prop} {a b : Nat} (h : a ≤ b) : cn P a ≤ cn P b := by
  induction b with
  | zero => rw [show a = 0 by omega]; exact Nat.le_refl _
  | succ b ih =>
    by_cases e : a = b + 1
    · rw [e]; exact Nat.le_refl _
    · have := ih (by omega)
      show cn P a ≤ cn P b + dI (P b)
      omega
theorem cn_inj {P : Nat → Prop} {a b : Nat} (ha : P a) (hb : P b) (e : cn P a = cn P b) : a = b := by
  have key : ∀ x y, P x → x < y → cn P x < cn P y := fun x y hx q => by
    have h1 := cn_mono (P := P) (show x + 1 ≤ y from q)
    have h2 : cn P (x + 1) = cn P x + 1 := by show cn P x + dI (P x) = _; rw [dI_t hx]
    omega
  rcases Nat.lt_trichotomy a b with q | q | q
  · have := key a b ha q; omega
  · exact q
  · have := key b a hb q; omega
def drB (m : Nat) : Nat := m &&& (m - 1)
def drK (m : Nat) : Nat → Nat
  | 0 => m
  | k + 1 => drB (drK m k)
theorem drB_lt {m : Nat} (h : m < 64) : drB m < 64 := Nat.lt_of_le_of_lt Nat.and_le_left h
theorem drK_lt {m : Nat} (h : m < 64) : ∀ k, drK m k < 64
  | 0 => h
  | k + 1 => drB_lt (drK_lt h k)
theorem drB_i : ∀ m, m < 64 → nI m &&& (nI m - nI 1) = nI (drB m) := by decide +kernel
def ntz (m : Nat) : Nat := if m.testBit 0 then 0 else if m.testBit 1 then 1 else if m.testBit 2 then 2 else if m.testBit 3 then 3 else if m.testBit 4 then 4 else if m.testBit 5 then 5 else 32
theorem kth_m : ∀ m, m < 64 → ∀ j, j < 6 → j < pcb m 6 → (0 < drK m j ∧ ntz (drK m j) < 6 ∧ m.testBit (ntz (drK m j)) = true ∧ pcb m (ntz (drK m j)) = j) := by decide +kernel
theorem ntz_1 : ∀ m, m < 64 → 0 < m → pcb m 6 = 1 → (ntz m < 6 ∧ m.testBit (ntz m) = true) := by decide +kernel
theorem ntz_tb : ∀ m, m < 64 → 0 < m → (ntz m < 6 ∧ m.testBit (ntz m) = true ∧ ∀ i, i < 6 → m.testBit i = true → ntz m ≤ i) := by decide +kernel
def uN (x : Int64) : Nat := x.toBitVec.toNat
/-- the upper 31 bits -/
def hb (x : Int64) : Nat := uN x / 8589934592
theorem hb_lt (x : Int64) : hb x < 2147483648 := by
  have : uN x < 18446744073709551616 := x.toBitVec.isLt
  unfold hb
  omega
def nx (x : Int64) : Int64 := 6364136223846793005 * x + 1442695040888963407
theorem uN_shr (x : Int64) (s : UInt64) : uN (x.toUInt64 >>> s).toInt64 = uN x / 2 ^ (s.toNat % 64) := by
  show (x.toUInt64 >>> s).toNat = _
  rw [UInt64.toNat_shiftRight, Nat.shiftRight_eq_div_pow]
  rfl
theorem hb_ushr (x : Int64) : uN (x.toUInt64 >>> ((nI 33).toInt64.toUInt64 &&& Int64.toUInt64 63)).toInt64 = hb x := by
  have h : ((nI 33).toInt64.toUInt64 &&& Int64.toUInt64 63).toNat % 64 = 33 := by decide +kernel
  rw [uN_shr, h]
  rfl
theorem uN_lN (x : Int64) : x = lN (uN x) := by
  apply Int64.toBitVec_inj.1
  show x.toBitVec = BitVec.ofNat 64 x.toBitVec.toNat
  apply BitVec.eq_of_toNat_eq
  simp
theorem uN_i32 (x : Int64) : x.toInt32 = nI (uN x) := by
  have h := lN_i (uN x)
  rw [← uN_lN] at h
  exact h
theorem hb_i (x : Int64) : ((x.toUInt64 >>> ((nI 33).toInt64.toUInt64 &&& Int64.toUInt64 63)).toInt64).toInt32 = nI (hb x) := by rw [uN_i32, hb_ushr]
end
section
theorem ntz_z : ∀ m, m < 64 → 0 < m → (nI m ^^^ (-1)) &&& (nI m - nI 1) = nI (2 ^ ntz m - 1) := by decide +kernel
theorem ntz_c : ∀ m, m < 64 → 0 < m → (ntz m = 0 ∨ ntz m = 1 ∨ ntz m = 2 ∨ ntz m = 3 ∨ ntz m = 4 ∨ ntz m = 5) := by decide +kernel
theorem nz_u1 : ∀ z, z < 64 → ((nI z).toUInt32 >>> ((nI 1).toUInt32 &&& Int32.toUInt32 31)).toInt32 = nI (z / 2) := by decide +kernel
theorem nz_u2 : ∀ z, z < 64 → ((nI z).toUInt32 >>> ((nI 2).toUInt32 &&& Int32.toUInt32 31)).toInt32 = nI (z / 4) := by decide +kernel
theorem nz_u4 : ∀ z, z < 64 → ((nI z).toUInt32 >>> ((nI 4).toUInt32 &&& Int32.toUInt32 31)).toInt32 = nI (z / 16) := by decide +kernel
theorem kJ6_bitCount_0f7a4_265 : Cond.constant RJ6 265 (1431655765) ∈ wsJ6_bitCount_0f7a4 := List.mem_of_getElem? (i := 1) rfl
theorem kJ6_bitCount_0f7a4_266 : Cond.constant RJ6 266 (858993459) ∈ wsJ6_bitCount_0f7a4 := List.mem_of_getElem? (i := 2) rfl
theorem kJ6_bitCount_0f7a4_267 : Cond.constant RJ6 267 (252645135) ∈ wsJ6_bitCount_0f7a4 := List.mem_of_getElem? (i := 3) rfl
set_option maxHeartbeats 4000000 in
set_option maxRecDepth 100000 in
theorem c_J6_bitCount_0f7a4 {g : ww_G} {l : Launch} {m : Nat} (hm : m < 64) : CT g l yJ6_bitCount_0f7a4 wsJ6_bitCount_0f7a4 (ww_rm 1) [.int (nI m)] ([]) (S := Unit) (fun v u => v = some (.int (nI (pcb m 6)))) (fun u => []) := by
  refine CT.of cJ6_bitCount_0f7a4 1 (some .int) RJ6 (by decide +kernel) rfl rfl (Nat.le_of_ble_eq_true rfl) ?_
  intro X hg hl C hret
  subst hg; subst hl
  show RW X 0 0 0 [(0, .int (nI m))] [] []
  refine r_iload_n C dJ6_bitCount_0f7a4_0 0 rfl rfl ?_
  refine r_iload_n C dJ6_bitCount_0f7a4_1 0 rfl rfl ?_
  refine r_iconst C dJ6_bitCount_0f7a4_2 (v := nI 1) (by decide) ?_
  refine r_iushr C dJ6_bitCount_0f7a4_3 (v := ((nI m).toUInt32 >>> ((nI 1).toUInt32 &&& Int32.toUInt32 31)).toInt32) rfl ?_
  refine r_ldcw C dJ6_bitCount_0f7a4_4 kJ6_bitCount_0f7a4_265 ?_
  refine r_iand C dJ6_bitCount_0f7a4_7 (v := (((nI m).toUInt32 >>> ((nI 1).toUInt32 &&& Int32.toUInt32 31)).toInt32) &&& (1431655765)) rfl ?_
  refine r_isub C dJ6_bitCount_0f7a4_8 (v := (nI m) - ((((nI m).toUInt32 >>> ((nI 1).toUInt32 &&& Int32.toUInt32 31)).toInt32) &&& (1431655765))) rfl ?_
  refine r_istore_n C dJ6_bitCount_0f7a4_9 rfl (by decide) [0] (lv' := [(0, .int ((nI m) - ((((nI m).toUInt32 >>> ((nI 1).toUInt32 &&& Int32.toUInt32 31)).toInt32) &&& (1431655765))))]) rfl ?_
  refine r_iload_n C dJ6_bitCount_0f7a4_10 0 rfl rfl ?_
  refine r_ldcw C dJ6_bitCount_0f7a4_11 kJ6_bitCount_0f7a4_266 ?_
  refine r_iand C dJ6_bitCount_0f7a4_14 (v := ((nI m) - ((((nI m).toUInt32 >>> ((nI 1).toUInt32 &&& Int32.toUInt32 31)).toInt32) &&& (1431655765))) &&& (858993459)) rfl ?_
  refine r_iload_n C dJ6_bitCount_0f7a4_15 0 rfl rfl ?_
  refine r_iconst C dJ6_bitCount_0f7a4_16 (v := nI 2) (by decide) ?_
  refine r_iushr C dJ6_bitCount_0f7a4_17 (v := (((nI m) - ((((nI m).toUInt32 >>> ((nI 1).toUInt32 &&& Int32.toUInt32 31)).toInt32) &&& (1431655765))).toUInt32 >>> ((nI 2).toUInt32 &&& Int32.toUInt32 31)).toInt32) rfl ?_
  refine r_ldcw C dJ6_bitCount_0f7a4_18 kJ6_bitCount_0f7a4_266 ?_
  refine r_iand C dJ6_bitCount_0f7a4_21 (v := ((((nI m) - ((((nI m).toUInt32 >>> ((nI 1).toUInt32 &&& Int32.toUInt32 31)).toInt32) &&& (1431655765))).toUInt32 >>> ((nI 2).toUInt32 &&& Int32.toUInt32 31)).toInt32) &&& (858993459)) rfl ?_
  refine r_iadd C dJ6_bitCount_0f7a4_22 (v := (((nI m) - ((((nI m).toUInt32 >>> ((nI 1).toUInt32 &&& Int32.toUInt32 31)).toInt32) &&& (1431655765))) &&& (858993459)) + (((((nI m) - ((((nI m).toUInt32 >>> ((nI 1).toUInt32 &&& Int32.toUInt32 31)).toInt32) &&& (1431655765))).toUInt32 >>> ((nI 2).toUInt32 &&& Int32.toUInt32 31)).toInt32) &&& (858993459))) rfl ?_
  refine r_istore_n C dJ6_bitCount_0f7a4_23 rfl (by decide) [0] (lv' := [(0, .int ((((nI m) - ((((nI m).toUInt32 >>> ((nI 1).toUInt32 &&& Int32.toUInt32 31)).toInt32) &&& (1431655765))) &&& (858993459)) + (((((nI m) - ((((nI m).toUInt32 >>> ((nI 1).toUInt32 &&& Int32.toUInt32 31)).toInt32) &&& (1431655765))).toUInt32 >>> ((nI 2).toUInt32 &&& Int32.toUInt32 31)).toInt32) &&& (858993459))))]) rfl ?_
  refine r_iload_n C dJ6_bitCount_0f7a4_24 0 rfl rfl ?_
  refine r_iload_n C dJ6_bitCount_0f7a4_25 0 rfl rfl ?_
  refine r_iconst C dJ6_bitCount_0f7a4_26 (v := nI 4) (by decide) ?_
  refine r_iushr C dJ6_bitCount_0f7a4_27 (v := (((((nI m) - ((((nI m).toUInt32 >>> ((nI 1).toUInt32 &&& Int32.toUInt32 31)).toInt32) &&& (1431655765))) &&& (858993459)) + (((((nI m) - ((((nI m).toUInt32 >>> ((nI 1).toUInt32 &&& Int32.toUInt32 31)).toInt32) &&& (1431655765))).toUInt32 >>> ((nI 2).toUInt32 &&& Int32.toUInt32 31)).toInt32) &&& (858993459))).toUInt32 >>> ((nI 4).toUInt32 &&& Int32.toUInt32 31)).toInt32) rfl ?_
  refine r_iadd C dJ6_bitCount_0f7a4_28 (v := ((((nI m) - ((((nI m).toUInt32 >>> ((nI 1).toUInt32 &&& Int32.toUInt32 31)).toInt32) &&& (1431655765))) &&& (858993459)) + (((((nI m) - ((((nI m).toUInt32 >>> ((nI 1).toUInt32 &&& Int32.toUInt32 31)).toInt32) &&& (1431655765))).toUInt32 >>> ((nI 2).toUInt32 &&& Int32.toUInt32 31)).toInt32) &&& (858993459))) + ((((((nI m) - ((((nI m).toUInt32 >>> ((nI 1).toUInt32 &&& Int32.toUInt32 31)).toInt32) &&& (1431655765))) &&& (858993459)) + (((((nI m) - ((((nI m).toUInt32 >>> ((nI 1).toUInt32 &&& Int32.toUInt32 31)).toInt32) &&& (1431655765))).toUInt32 >>> ((nI 2).toUInt32 &&& Int32.toUInt32 31)).toInt32) &&& (858993459))).toUInt32 >>> ((nI 4).toUInt32 &&& Int32.toUInt32 31)).toInt32)) rfl ?_
  refine r_ldcw C dJ6_bitCount_0f7a4_29 kJ6_bitCount_0f7a4_267 ?_
  refine r_iand C dJ6_bitCount_0f7a4_32 (v := (((((nI m) - ((((nI m).toUInt32 >>> ((nI 1).toUInt32 &&& Int32.toUInt32 31)).toInt32) &&& (1431655765))) &&& (858993459)) + (((((nI m) - ((((nI m).toUInt32 >>> ((nI 1).toUInt32 &&& Int32.toUInt32 31)).toInt32) &&& (1431655765))).toUInt32 >>> ((nI 2).toUInt32 &&& Int32.toUInt32 31)).toInt32) &&& (858993459))) + ((((((nI m) - ((((nI m).toUInt32 >>> ((nI 1).toUInt32 &&& Int32.toUInt32 31)).toInt32) &&& (1431655765))) &&& (858993459)) + (((((nI m) - ((((nI m).toUInt32 >>> ((nI 1).toUInt32 &&& Int32.toUInt32 31)).toInt32) &&& (1431655765))).toUInt32 >>> ((nI 2).toUInt32 &&& Int32.toUInt32 31)).toInt32) &&& (858993459))).toUInt32 >>> ((nI 4).toUInt32 &&& Int32.toUInt32 31)).toInt32)) &&& (252645135)) rfl ?_
  refine r_istore_n C dJ6_bitCount_0f7a4_33 rfl (by decide) [0] (lv' := [(0, .int ((((((nI m) - ((((nI m).toUInt32 >>> ((nI 1).toUInt32 &&& Int32.toUInt32 31)).toInt32) &&& (1431655765))) &&& (858993459)) + (((((nI m) - ((((nI m).toUInt32 >>> ((nI 1).toUInt32 &&& Int32.toUInt32 31)).toInt32) &&& (1431655765))).toUInt32 >>> ((nI 2).toUInt32 &&& Int32.toUInt32 31)).toInt32) &&& (858993459))) + ((((((nI m) - ((((nI m).toUInt32 >>> ((nI 1).toUInt32 &&& Int32.toUInt32 31)).toInt32) &&& (1431655765))) &&& (858993459)) + (((((nI m) - ((((nI m).toUInt32 >>> ((nI 1).toUInt32 &&& Int32.toUInt32 31)).toInt32) &&& (1431655765))).toUInt32 >>> ((nI 2).toUInt32 &&& Int32.toUInt32 31)).toInt32) &&& (858993459))).toUInt32 >>> ((nI 4).toUInt32 &&& Int32.toUInt32 31)).toInt32)) &&& (252645135)))]) rfl ?_
  refine r_iload_n C dJ6_bitCount_0f7a4_34 0 rfl rfl ?_
  refine r_iload_n C dJ6_bitCount_0f7a4_35 0 rfl rfl ?_
  refine r_bipush C dJ6_bitCount_0f7a4_36 (v := nI 8) (by decide) ?_
  refine r_iushr C dJ6_bitCount_0f7a4_38 (v := (((((((nI m) - ((((nI m).toUInt32 >>> ((nI 1).toUInt32 &&& Int32.toUInt32 31)).toInt32) &&& (1431655765))) &&& (858993459)) + (((((nI m) - ((((nI m).toUInt32 >>> ((nI 1).toUInt32 &&& Int32.toUInt32 31)).toInt32) &&& (1431655765))).toUInt32 >>> ((nI 2).toUInt32 &&& Int32.toUInt32 31)).toInt32) &&& (858993459))) + ((((((nI m) - ((((nI m).toUInt32 >>> ((nI 1).toUInt32 &&& Int32.toUInt32 31)).toInt32) &&& (1431655765))) &&& (858993459)) + (((((nI m) - ((((nI m).toUInt32 >>> ((nI 1).toUInt32 &&& Int32.toUInt32 31)).toInt32) &&& (1431655765))).toUInt32 >>> ((nI 2).toUInt32 &&& Int32.toUInt32 31)).toInt32) &&& (858993459))).toUInt32 >>> ((nI 4).toUInt32 &&& Int32.toUInt32 31)).toInt32)) &&& (252645135)).toUInt32 >>> ((nI 8).toUInt32 &&& Int32.toUInt32 31)).toInt32) rfl ?_
  refine r_iadd C dJ6_bitCount_0f7a4_39 (v := ((((((nI m) - ((((nI m).toUInt32 >>> ((nI 1).toUInt32 &&& Int32.toUInt32 31)).toInt32) &&& (1431655765))) &&& (858993459)) + (((((nI m) - ((((nI m).toUInt32 >>> ((nI 1).toUInt32 &&& Int32.toUInt32 31)).toInt32) &&& (1431655765))).toUInt32 >>> ((nI 2).toUInt32 &&& Int32.toUInt32 31)).toInt32) &&& (858993459))) + ((((((nI m) - ((((nI m).toUInt32 >>> ((nI 1).toUInt32 &&& Int32.toUInt32 31)).toInt32) &&& (1431655765))) &&& (858993459)) + (((((nI m) - ((((nI m).toUInt32 >>> ((nI 1).toUInt32 &&& Int32.toUInt32 31)).toInt32) &&& (1431655765))).toUInt32 >>> ((nI 2).toUInt32 &&& Int32.toUInt32 31)).toInt32) &&& (858993459))).toUInt32 >>> ((nI 4).toUInt32 &&& Int32.toUInt32 31)).toInt32)) &&& (252645135)) + ((((((((nI m) - ((((nI m).toUInt32 >>> ((nI 1).toUInt32 &&& Int32.toUInt32 31)).toInt32) &&& (1431655765))) &&& (858993459)) + (((((nI m) - ((((nI m).toUInt32 >>> ((nI 1).toUInt32 &&& Int32.toUInt32 31)).toInt32) &&& (1431655765))).toUInt32 >>> ((nI 2).toUInt32 &&& Int32.toUInt32 31)).toInt32) &&& (858993459))) + ((((((nI m) - ((((nI m).toUInt32 >>> ((nI 1).toUInt32 &&& Int32.toUInt32 31)).toInt32) &&& (1431655765))) &&& (858993459)) + (((((nI m) - ((((nI m).toUInt32 >>> ((nI 1).toUInt32 &&& Int32.toUInt32 31)).toInt32) &&& (1431655765))).toUInt32 >>> ((nI 2).toUInt32 &&& Int32.toUInt32 31)).toInt32) &&& (858993459))).toUInt32 >>> ((nI 4).toUInt32 &&& Int32.toUInt32 31)).toInt32)) &&& (252645135)).toUInt32 >>> ((nI 8).toUInt32 &&& Int32.toUInt32 31)).toInt32)) rfl ?_
  refine r_istore_n C dJ6_bitCount_0f7a4_40 rfl (by decide) [0] (lv' := [(0, .int (((((((nI m) - ((((nI m).toUInt32 >>> ((nI 1).toUInt32 &&& Int32.toUInt32 31)).toInt32) &&& (1431655765))) &&& (858993459)) + (((((nI m) - ((((nI m).toUInt32 >>> ((nI 1).toUInt32 &&& Int32.toUInt32 31)).toInt32) &&& (1431655765))).toUInt32 >>> ((nI 2).toUInt32 &&& Int32.toUInt32 31)).toInt32) &&& (858993459))) + ((((((nI m) - ((((nI m).toUInt32 >>> ((nI 1).toUInt32 &&& Int32.toUInt32 31)).toInt32) &&& (1431655765))) &&& (858993459)) + (((((nI m) - ((((nI m).toUInt32 >>> ((nI 1).toUInt32 &&& Int32.toUInt32 31)).toInt32) &&& (1431655765))).toUInt32 >>> ((nI 2).toUInt32 &&& Int32.toUInt32 31)).toInt32) &&& (858993459))).toUInt32 >>> ((nI 4).toUInt32 &&& Int32.toUInt32 31)).toInt32)) &&& (252645135)) + ((((((((nI m) - ((((nI m).toUInt32 >>> ((nI 1).toUInt32 &&& Int32.toUInt32 31)).toInt32) &&& (1431655765))) &&& (858993459)) + (((((nI m) - ((((nI m).toUInt32 >>> ((nI 1).toUInt32 &&& Int32.toUInt32 31)).toInt32) &&& (1431655765))).toUInt32 >>> ((nI 2).toUInt32 &&& Int32.toUInt32 31)).toInt32) &&& (858993459))) + ((((((nI m) - ((((nI m).toUInt32 >>> ((nI 1).toUInt32 &&& Int32.toUInt32 31)).toInt32) &&& (1431655765))) &&& (858993459)) + (((((nI m) - ((((nI m).toUInt32 >>> ((nI 1).toUInt32 &&& Int32.toUInt32 31)).toInt32) &&& (1431655765))).toUInt32 >>> ((nI 2).toUInt32 &&& Int32.toUInt32 31)).toInt32) &&& (858993459))).toUInt32 >>> ((nI 4).toUInt32 &&& Int32.toUInt32 31)).toInt32)) &&& (252645135)).toUInt32 >>> ((nI 8).toUInt32 &&& Int32.toUInt32 31)).toInt32)))]) rfl ?_
  refine r_iload_n C dJ6_bitCount_0f7a4_41 0 rfl rfl ?_
  refine r_iload_n C dJ6_bitCount_0f7a4_42 0 rfl rfl ?_
  refine r_bipush C dJ6_bitCount_0f7a4_43 (v := nI 16) (by decide) ?_
  refine r_iushr C dJ6_bitCount_0f7a4_45 (v := ((((((((nI m) - ((((nI m).toUInt32 >>> ((nI 1).toUInt32 &&& Int32.toUInt32 31)).toInt32) &&& (1431655765))) &&& (858993459)) + (((((nI m) - ((((nI m).toUInt32 >>> ((nI 1).toUInt32 &&& Int32.toUInt32 31)).toInt32) &&& (1431655765))).toUInt32 >>> ((nI 2).toUInt32 &&& Int32.toUInt32 31)).toInt32) &&& (858993459))) + ((((((nI m) - ((((nI m).toUInt32 >>> ((nI 1).toUInt32 &&& Int32.toUInt32 31)).toInt32) &&& (1431655765))) &&& (858993459)) + (((((nI m) - ((((nI m).toUInt32 >>> ((nI 1).toUInt32 &&& Int32.toUInt32 31)).toInt32) &&& (1431655765))).toUInt32 >>> ((nI 2).toUInt32 &&& Int32.toUInt32 31)).toInt32) &&& (858993459))).toUInt32 >>> ((nI 4).toUInt32 &&& Int32.toUInt32 31)).toInt32)) &&& (252645135)) + ((((((((nI m) - ((((nI m).toUInt32 >>> ((nI 1).toUInt32 &&& Int32.toUInt32 31)).toInt32) &&& (1431655765))) &&& (858993459)) + (((((nI m) - ((((nI m).toUInt32 >>> ((nI 1).toUInt32 &&& Int32.toUInt32 31)).toInt32) &&& (1431655765))).toUInt32 >>> ((nI 2).toUInt32 &&& Int32.toUInt32 31)).toInt32) &&& (858993459))) + ((((((nI m) - ((((nI m).toUInt32 >>> ((nI 1).toUInt32 &&& Int32.toUInt32 31)).toInt32) &&& (1431655765))) &&& (858993459)) + (((((nI m) - ((((nI m).toUInt32 >>> ((nI 1).toUInt32 &&& Int32.toUInt32 31)).toInt32) &&& (1431655765))).toUInt32 >>> ((nI 2).toUInt32 &&& Int32.toUInt32 31)).toInt32) &&& (858993459))).toUInt32 >>> ((nI 4).toUInt32 &&& Int32.toUInt32 31)).toInt32)) &&& (252645135)).toUInt32 >>> ((nI 8).toUInt32 &&& Int32.toUInt32 31)).toInt32)).toUInt32 >>> ((nI 16).toUInt32 &&& Int32.toUInt32 31)).toInt32) rfl ?_
  refine r_iadd C dJ6_bitCount_0f7a4_46 (v := (((((((nI m) - ((((nI m).toUInt32 >>> ((nI 1).toUInt32 &&& Int32.toUInt32 31)).toInt32) &&& (1431655765))) &&& (858993459)) + (((((nI m) - ((((nI m).toUInt32 >>> ((nI 1).toUInt32 &&& Int32.toUInt32 31)).toInt32) &&& (1431655765))).toUInt32 >>> ((nI 2).toUInt32 &&& Int32.toUInt32 31)).toInt32) &&& (858993459))) + ((((((nI m) - ((((nI m).toUInt32 >>> ((nI 1).toUInt32 &&& Int32.toUInt32 31)).toInt32) &&& (1431655765))) &&& (858993459)) + (((((nI m) - ((((nI m).toUInt32 >>> ((nI 1).toUInt32 &&& Int32.toUInt32 31)).toInt32) &&& (1431655765))).toUInt32 >>> ((nI 2).toUInt32 &&& Int32.toUInt32 31)).toInt32) &&& (858993459))).toUInt32 >>> ((nI 4).toUInt32 &&& Int32.toUInt32 31)).toInt32)) &&& (252645135)) + ((((((((nI m) - ((((nI m).toUInt32 >>> ((nI 1).toUInt32 &&& Int32.toUInt32 31)).toInt32) &&& (1431655765))) &&& (858993459)) + (((((nI m) - ((((nI m).toUInt32 >>> ((nI 1).toUInt32 &&& Int32.toUInt32 31)).toInt32) &&& (1431655765))).toUInt32 >>> ((nI 2).toUInt32 &&& Int32.toUInt32 31)).toInt32) &&& (858993459))) + ((((((nI m) - ((((nI m).toUInt32 >>> ((nI 1).toUInt32 &&& Int32.toUInt32 31)).toInt32) &&& (1431655765))) &&& (858993459)) + (((((nI m) - ((((nI m).toUInt32 >>> ((nI 1).toUInt32 &&& Int32.toUInt32 31)).toInt32) &&& (1431655765))).toUInt32 >>> ((nI 2).toUInt32 &&& Int32.toUInt32 31)).toInt32) &&& (858993459))).toUInt32 >>> ((nI 4).toUInt32 &&& Int32.toUInt32 31)).toInt32)) &&& (252645135)).toUInt32 >>> ((nI 8).toUInt32 &&& Int32.toUInt32 31)).toInt32)) + (((((((((nI m) - ((((nI m).toUInt32 >>> ((nI 1).toUInt32 &&& Int32.toUInt32 31)).toInt32) &&& (1431655765))) &&& (858993459)) + (((((nI m) - ((((nI m).toUInt32 >>> ((nI 1).toUInt32 &&& Int32.toUInt32 31)).toInt32) &&& (1431655765))).toUInt32 >>> ((nI 2).toUInt32 &&& Int32.toUInt32 31)).toInt32) &&& (858993459))) + ((((((nI m) - ((((nI m).toUInt32 >>> ((nI 1).toUInt32 &&& Int32.toUInt32 31)).toInt32) &&& (1431655765))) &&& (858993459)) + (((((nI m) - ((((nI m).toUInt32 >>> ((nI 1).toUInt32 &&& Int32.toUInt32 31)).toInt32) &&& (1431655765))).toUInt32 >>> ((nI 2).toUInt32 &&& Int32.toUInt32 31)).toInt32) &&& (858993459))).toUInt32 >>> ((nI 4).toUInt32 &&& Int32.toUInt32 31)).toInt32)) &&& (252645135)) + ((((((((nI m) - ((((nI m).toUInt32 >>> ((nI 1).toUInt32 &&& Int32.toUInt32 31)).toInt32) &&& (1431655765))) &&& (858993459)) + (((((nI m) - ((((nI m).toUInt32 >>> ((nI 1).toUInt32 &&& Int32.toUInt32 31)).toInt32) &&& (1431655765))).toUInt32 >>> ((nI 2).toUInt32 &&& Int32.toUInt32 31)).toInt32) &&& (858993459))) + ((((((nI m) - ((((nI m).toUInt32 >>> ((nI 1).toUInt32 &&& Int32.toUInt32 31)).toInt32) &&& (1431655765))) &&& (858993459)) + (((((nI m) - ((((nI m).toUInt32 >>> ((nI 1).toUInt32 &&& Int32.toUInt32 31)).toInt32) &&& (1431655765))).toUInt32 >>> ((nI 2).toUInt32 &&& Int32.toUInt32 31)).toInt32) &&& (858993459))).toUInt32 >>> ((nI 4).toUInt32 &&& Int32.toUInt32 31)).toInt32)) &&& (252645135)).toUInt32 >>> ((nI 8).toUInt32 &&& Int32.toUInt32 31)).toInt32)).toUInt32 >>> ((nI 16).toUInt32 &&& Int32.toUInt32 31)).toInt32)) rfl ?_
  refine r_istore_n C dJ6_bitCount_0f7a4_47 rfl (by decide) [0] (lv' := [(0, .int ((((((((nI m) - ((((nI m).toUInt32 >>> ((nI 1).toUInt32 &&& Int32.toUInt32 31)).toInt32) &&& (1431655765))) &&& (858993459)) + (((((nI m) - ((((nI m).toUInt32 >>> ((nI 1).toUInt32 &&& Int32.toUInt32 31)).toInt32) &&& (1431655765))).toUInt32 >>> ((nI 2).toUInt32 &&& Int32.toUInt32 31)).toInt32) &&& (858993459))) + ((((((nI m) - ((((nI m).toUInt32 >>> ((nI 1).toUInt32 &&& Int32.toUInt32 31)).toInt32) &&& (1431655765))) &&& (858993459)) + (((((nI m) - ((((nI m).toUInt32 >>> ((nI 1).toUInt32 &&& Int32.toUInt32 31)).toInt32) &&& (1431655765))).toUInt32 >>> ((nI 2).toUInt32 &&& Int32.toUInt32 31)).toInt32) &&& (858993459))).toUInt32 >>> ((nI 4).toUInt32 &&& Int32.toUInt32 31)).toInt32)) &&& (252645135)) + ((((((((nI m) - ((((nI m).toUInt32 >>> ((nI 1).toUInt32 &&& Int32.toUInt32 31)).toInt32) &&& (1431655765))) &&& (858993459)) + (((((nI m) - ((((nI m).toUInt32 >>> ((nI 1).toUInt32 &&& Int32.toUInt32 31)).toInt32) &&& (1431655765))).toUInt32 >>> ((nI 2).toUInt32 &&& Int32.toUInt32 31)).toInt32) &&& (858993459))) + ((((((nI m) - ((((nI m).toUInt32 >>> ((nI 1).toUInt32 &&& Int32.toUInt32 31)).toInt32) &&& (1431655765))) &&& (858993459)) + (((((nI m) - ((((nI m).toUInt32 >>> ((nI 1).toUInt32 &&& Int32.toUInt32 31)).toInt32) &&& (1431655765))).toUInt32 >>> ((nI 2).toUInt32 &&& Int32.toUInt32 31)).toInt32) &&& (858993459))).toUInt32 >>> ((nI 4).toUInt32 &&& Int32.toUInt32 31)).toInt32)) &&& (252645135)).toUInt32 >>> ((nI 8).toUInt32 &&& Int32.toUInt32 31)).toInt32)) + (((((((((nI m) - ((((nI m).toUInt32 >>> ((nI 1).toUInt32 &&& Int32.toUInt32 31)).toInt32) &&& (1431655765))) &&& (858993459)) + (((((nI m) - ((((nI m).toUInt32 >>> ((nI 1).toUInt32 &&& Int32.toUInt32 31)).toInt32) &&& (1431655765))).toUInt32 >>> ((nI 2).toUInt32 &&& Int32.toUInt32 31)).toInt32) &&& (858993459))) + ((((((nI m) - ((((nI m).toUInt32 >>> ((nI 1).toUInt32 &&& Int32.toUInt32 31)).toInt32) &&& (1431655765))) &&& (858993459)) + (((((nI m) - ((((nI m).toUInt32 >>> ((nI 1).toUInt32 &&& Int32.toUInt32 31)).toInt32) &&& (1431655765))).toUInt32 >>> ((nI 2).toUInt32 &&& Int32.toUInt32 31)).toInt32) &&& (858993459))).toUInt32 >>> ((nI 4).toUInt32 &&& Int32.toUInt32 31)).toInt32)) &&& (252645135)) + ((((((((nI m) - ((((nI m).toUInt32 >>> ((nI 1).toUInt32 &&& Int32.toUInt32 31)).toInt32) &&& (1431655765))) &&& (858993459)) + (((((nI m) - ((((nI m).toUInt32 >>> ((nI 1).toUInt32 &&& Int32.toUInt32 31)).toInt32) &&& (1431655765))).toUInt32 >>> ((nI 2).toUInt32 &&& Int32.toUInt32 31)).toInt32) &&& (858993459))) + ((((((nI m) - ((((nI m).toUInt32 >>> ((nI 1).toUInt32 &&& Int32.toUInt32 31)).toInt32) &&& (1431655765))) &&& (858993459)) + (((((nI m) - ((((nI m).toUInt32 >>> ((nI 1).toUInt32 &&& Int32.toUInt32 31)).toInt32) &&& (1431655765))).toUInt32 >>> ((nI 2).toUInt32 &&& Int32.toUInt32 31)).toInt32) &&& (858993459))).toUInt32 >>> ((nI 4).toUInt32 &&& Int32.toUInt32 31)).toInt32)) &&& (252645135)).toUInt32 >>> ((nI 8).toUInt32 &&& Int32.toUInt32 31)).toInt32)).toUInt32 >>> ((nI 16).toUInt32 &&& Int32.toUInt32 31)).toInt32)))]) rfl ?_
  refine r_iload_n C dJ6_bitCount_0f7a4_48 0 rfl rfl ?_
  refine r_bipush C dJ6_bitCount_0f7a4_49 (v := nI 63) (by decide) ?_
  refine r_iand C dJ6_bitCount_0f7a4_51 (v := ((((((((nI m) - ((((nI m).toUInt32 >>> ((nI 1).toUInt32 &&& Int32.toUInt32 31)).toInt32) &&& (1431655765))) &&& (858993459)) + (((((nI m) - ((((nI m).toUInt32 >>> ((nI 1).toUInt32 &&& Int32.toUInt32 31)).toInt32) &&& (1431655765))).toUInt32 >>> ((nI 2).toUInt32 &&& Int32.toUInt32 31)).toInt32) &&& (858993459))) + ((((((nI m) - ((((nI m).toUInt32 >>> ((nI 1).toUInt32 &&& Int32.toUInt32 31)).toInt32) &&& (1431655765))) &&& (858993459)) + (((((nI m) - ((((nI m).toUInt32 >>> ((nI 1).toUInt32 &&& Int32.toUInt32 31)).toInt32) &&& (1431655765))).toUInt32 >>> ((nI 2).toUInt32 &&& Int32.toUInt32 31)).toInt32) &&& (858993459))).toUInt32 >>> ((nI 4).toUInt32 &&& Int32.toUInt32 31)).toInt32)) &&& (252645135)) + ((((((((nI m) - ((((nI m).toUInt32 >>> ((nI 1).toUInt32 &&& Int32.toUInt32 31)).toInt32) &&& (1431655765))) &&& (858993459)) + (((((nI m) - ((((nI m).toUInt32 >>> ((nI 1).toUInt32 &&& Int32.toUInt32 31)).toInt32) &&& (1431655765))).toUInt32 >>> ((nI 2).toUInt32 &&& Int32.toUInt32 31)).toInt32) &&& (858993459))) + ((((((nI m) - ((((nI m).toUInt32 >>> ((nI 1).toUInt32 &&& Int32.toUInt32 31)).toInt32) &&& (1431655765))) &&& (858993459)) + (((((nI m) - ((((nI m).toUInt32 >>> ((nI 1).toUInt32 &&& Int32.toUInt32 31)).toInt32) &&& (1431655765))).toUInt32 >>> ((nI 2).toUInt32 &&& Int32.toUInt32 31)).toInt32) &&& (858993459))).toUInt32 >>> ((nI 4).toUInt32 &&& Int32.toUInt32 31)).toInt32)) &&& (252645135)).toUInt32 >>> ((nI 8).toUInt32 &&& Int32.toUInt32 31)).toInt32)) + (((((((((nI m) - ((((nI m).toUInt32 >>> ((nI 1).toUInt32 &&& Int32.toUInt32 31)).toInt32) &&& (1431655765))) &&& (858993459)) + (((((nI m) - ((((nI m).toUInt32 >>> ((nI 1).toUInt32 &&& Int32.toUInt32 31)).toInt32) &&& (1431655765))).toUInt32 >>> ((nI 2).toUInt32 &&& Int32.toUInt32 31)).toInt32) &&& (858993459))) + ((((((nI m) - ((((nI m).toUInt32 >>> ((nI 1).toUInt32 &&& Int32.toUInt32 31)).toInt32) &&& (1431655765))) &&& (858993459)) + (((((nI m) - ((((nI m).toUInt32 >>> ((nI 1).toUInt32 &&& Int32.toUInt32 31)).toInt32) &&& (1431655765))).toUInt32 >>> ((nI 2).toUInt32 &&& Int32.toUInt32 31)).toInt32) &&& (858993459))).toUInt32 >>> ((nI 4).toUInt32 &&& Int32.toUInt32 31)).toInt32)) &&& (252645135)) + ((((((((nI m) - ((((nI m).toUInt32 >>> ((nI 1).toUInt32 &&& Int32.toUInt32 31)).toInt32) &&& (1431655765))) &&& (858993459)) + (((((nI m) - ((((nI m).toUInt32 >>> ((nI 1).toUInt32 &&& Int32.toUInt32 31)).toInt32) &&& (1431655765))).toUInt32 >>> ((nI 2).toUInt32 &&& Int32.toUInt32 31)).toInt32) &&& (858993459))) + ((((((nI m) - ((((nI m).toUInt32 >>> ((nI 1).toUInt32 &&& Int32.toUInt32 31)).toInt32) &&& (1431655765))) &&& (858993459)) + (((((nI m) - ((((nI m).toUInt32 >>> ((nI 1).toUInt32 &&& Int32.toUInt32 31)).toInt32) &&& (1431655765))).toUInt32 >>> ((nI 2).toUInt32 &&& Int32.toUInt32 31)).toInt32) &&& (858993459))).toUInt32 >>> ((nI 4).toUInt32 &&& Int32.toUInt32 31)).toInt32)) &&& (252645135)).toUInt32 >>> ((nI 8).toUInt32 &&& Int32.toUInt32 31)).toInt32)).toUInt32 >>> ((nI 16).toUInt32 &&& Int32.toUInt32 31)).toInt32)) &&& (nI 63)) rfl ?_
  refine r_top (y := nI (pcb m 6)) ((by decide +kernel : ∀ m, m < 64 → ((((((((nI m) - ((((nI m).toUInt32 >>> ((nI 1).toUInt32 &&& Int32.toUInt32 31)).toInt32) &&& (1431655765))) &&& (858993459)) + (((((nI m) - ((((nI m).toUInt32 >>> ((nI 1).toUInt32 &&& Int32.toUInt32 31)).toInt32) &&& (1431655765))).toUInt32 >>> ((nI 2).toUInt32 &&& Int32.toUInt32 31)).toInt32) &&& (858993459))) + ((((((nI m) - ((((nI m).toUInt32 >>> ((nI 1).toUInt32 &&& Int32.toUInt32 31)).toInt32) &&& (1431655765))) &&& (858993459)) + (((((nI m) - ((((nI m).toUInt32 >>> ((nI 1).toUInt32 &&& Int32.toUInt32 31)).toInt32) &&& (1431655765))).toUInt32 >>> ((nI 2).toUInt32 &&& Int32.toUInt32 31)).toInt32) &&& (858993459))).toUInt32 >>> ((nI 4).toUInt32 &&& Int32.toUInt32 31)).toInt32)) &&& (252645135)) + ((((((((nI m) - ((((nI m).toUInt32 >>> ((nI 1).toUInt32 &&& Int32.toUInt32 31)).toInt32) &&& (1431655765))) &&& (858993459)) + (((((nI m) - ((((nI m).toUInt32 >>> ((nI 1).toUInt32 &&& Int32.toUInt32 31)).toInt32) &&& (1431655765))).toUInt32 >>> ((nI 2).toUInt32 &&& Int32.toUInt32 31)).toInt32) &&& (858993459))) + ((((((nI m) - ((((nI m).toUInt32 >>> ((nI 1).toUInt32 &&& Int32.toUInt32 31)).toInt32) &&& (1431655765))) &&& (858993459)) + (((((nI m) - ((((nI m).toUInt32 >>> ((nI 1).toUInt32 &&& Int32.toUInt32 31)).toInt32) &&& (1431655765))).toUInt32 >>> ((nI 2).toUInt32 &&& Int32.toUInt32 31)).toInt32) &&& (858993459))).toUInt32 >>> ((nI 4).toUInt32 &&& Int32.toUInt32 31)).toInt32)) &&& (252645135)).toUInt32 >>> ((nI 8).toUInt32 &&& Int32.toUInt32 31)).toInt32)) + (((((((((nI m) - ((((nI m).toUInt32 >>> ((nI 1).toUInt32 &&& Int32.toUInt32 31)).toInt32) &&& (1431655765))) &&& (858993459)) + (((((nI m) - ((((nI m).toUInt32 >>> ((nI 1).toUInt32 &&& Int32.toUInt32 31)).toInt32) &&& (1431655765))).toUInt32 >>> ((nI 2).toUInt32 &&& Int32.toUInt32 31)).toInt32) &&& (858993459))) + ((((((nI m) - ((((nI m).toUInt32 >>> ((nI 1).toUInt32 &&& Int32.toUInt32 31)).toInt32) &&& (1431655765))) &&& (858993459)) + (((((nI m) - ((((nI m).toUInt32 >>> ((nI 1).toUInt32 &&& Int32.toUInt32 31)).toInt32) &&& (1431655765))).toUInt32 >>> ((nI 2).toUInt32 &&& Int32.toUInt32 31)).toInt32) &&& (858993459))).toUInt32 >>> ((nI 4).toUInt32 &&& Int32.toUInt32 31)).toInt32)) &&& (252645135)) + ((((((((nI m) - ((((nI m).toUInt32 >>> ((nI 1).toUInt32 &&& Int32.toUInt32 31)).toInt32) &&& (1431655765))) &&& (858993459)) + (((((nI m) - ((((nI m).toUInt32 >>> ((nI 1).toUInt32 &&& Int32.toUInt32 31)).toInt32) &&& (1431655765))).toUInt32 >>> ((nI 2).toUInt32 &&& Int32.toUInt32 31)).toInt32) &&& (858993459))) + ((((((nI m) - ((((nI m).toUInt32 >>> ((nI 1).toUInt32 &&& Int32.toUInt32 31)).toInt32) &&& (1431655765))) &&& (858993459)) + (((((nI m) - ((((nI m).toUInt32 >>> ((nI 1).toUInt32 &&& Int32.toUInt32 31)).toInt32) &&& (1431655765))).toUInt32 >>> ((nI 2).toUInt32 &&& Int32.toUInt32 31)).toInt32) &&& (858993459))).toUInt32 >>> ((nI 4).toUInt32 &&& Int32.toUInt32 31)).toInt32)) &&& (252645135)).toUInt32 >>> ((nI 8).toUInt32 &&& Int32.toUInt32 31)).toInt32)).toUInt32 >>> ((nI 16).toUInt32 &&& Int32.toUInt32 31)).toInt32)) &&& (nI 63) = nI (pcb m 6)) m hm) ?_
  exact hret _ _ _ () rfl (Or.inr ⟨_, rfl, dJ6_bitCount_0f7a4_52, Or.inl rfl⟩)
theorem kJ6_numberOfTrailingZeros_0f7a4_264 : Cond.constant RJ6 264 (65536) ∈ wsJ6_numberOfTrailingZeros_0f7a4 := List.mem_of_getElem? (i := 1) rfl
set_option maxHeartbeats 4000000 in
set_option maxRecDepth 100000 in
theorem c_J6_numberOfTrailingZeros_0f7a4 {g : ww_G} {l : Launch} {m : Nat} (hm : m < 64) (h0m : 0 < m) : CT g l yJ6_numberOfTrailingZeros_0f7a4 wsJ6_numberOfTrailingZeros_0f7a4 (ww_rm 1) [.int (nI m)] ([]) (S := Unit) (fun v u => v = some (.int (nI (ntz m)))) (fun u => []) := by
  refine CT.of cJ6_numberOfTrailingZeros_0f7a4 2 (some .int) RJ6 (by decide +kernel) rfl rfl (Nat.le_of_ble_eq_true rfl) ?_
  intro X hg hl C hret
  subst hg; subst hl
  show RW X 0 0 0 [(0, .int (nI m))] [] []
  obtain ⟨z, ez, hz⟩ : ∃ z, (nI m ^^^ (-1)) &&& (nI m - nI 1) = nI z ∧ ((z = 0 ∧ ntz m = 0) ∨ (z = 1 ∧ ntz m = 1) ∨ (z = 3 ∧ ntz m = 2) ∨ (z = 7 ∧ ntz m = 3) ∨ (z = 15 ∧ ntz m = 4) ∨ (z = 31 ∧ ntz m = 5)) := ⟨2 ^ ntz m - 1, ntz_z m hm h0m, by rcases ntz_c m hm h0m with e | e | e | e | e | e <;> rw [e] <;> decide⟩
  refine r_iload_n C dJ6_numberOfTrailingZeros_0f7a4_0 0 rfl rfl ?_
  refine r_iconst C dJ6_numberOfTrailingZeros_0f7a4_1 (v := (-1)) (by decide) ?_
  refine r_ixor C dJ6_numberOfTrailingZeros_0f7a4_2 (v := (nI m) ^^^ (-1)) rfl ?_
  refine r_iload_n C dJ6_numberOfTrailingZeros_0f7a4_3 0 rfl rfl ?_
  refine r_iconst C dJ6_numberOfTrailingZeros_0f7a4_4 (v := nI 1) (by decide) ?_
  refine r_isub C dJ6_numberOfTrailingZeros_0f7a4_5 (v := (nI m) - (nI 1)) rfl ?_
  refine r_iand C dJ6_numberOfTrailingZeros_0f7a4_6 (v := nI z) ez ?_
  refine r_istore_n C dJ6_numberOfTrailingZeros_0f7a4_7 rfl (by decide) [0] (lv' := [(0, .int (nI z))]) rfl ?_
  refine r_iload_n C dJ6_numberOfTrailingZeros_0f7a4_8 0 rfl rfl ?_
  refine r_if_gt (tgt := 17) C dJ6_numberOfTrailingZeros_0f7a4_9 (by decide) (fun h9 => ?_) (fun h9 => ?_)
  · have h9 : 0 < z := (nI_ltI (a := 0) (by omega) (by omega)).mp h9
    refine r_iconst C dJ6_numberOfTrailingZeros_0f7a4_17 (v := nI 1) (by decide) ?_
    refine r_istore_n C dJ6_numberOfTrailingZeros_0f7a4_18 rfl (by decide) [1, 0] (lv' := [(0, .int (nI z)), (1, .int (nI 1))]) rfl ?_
    refine r_iload_n C dJ6_numberOfTrailingZeros_0f7a4_19 0 rfl rfl ?_
    refine r_ldcw C dJ6_numberOfTrailingZeros_0f7a4_20 kJ6_numberOfTrailingZeros_0f7a4_264 ?_
    refine r_top (y := nI 65536) (by decide) ?_
    refine r_icmp_le (tgt := 34) C dJ6_numberOfTrailingZeros_0f7a4_23 (by decide) (fun h23 => ?_) (fun h23 => ?_)
    · have h23 : z ≤ 65536 := (nI_leI (by omega) (by omega)).mp h23
      refine r_iload_n C dJ6_numberOfTrailingZeros_0f7a4_34 0 rfl rfl ?_
      refine r_sipush C dJ6_numberOfTrailingZeros_0f7a4_35 (v := nI 256) (by decide) ?_
      refine r_icmp_le (tgt := 49) C dJ6_numberOfTrailingZeros_0f7a4_38 (by decide) (fun h38 => ?_) (fun h38 => ?_)
      · have h38 : z ≤ 256 := (nI_leI (by omega) (by omega)).mp h38
        refine r_iload_n C dJ6_numberOfTrailingZeros_0f7a4_49 0 rfl rfl ?_
        refine r_bipush C dJ6_numberOfTrailingZeros_0f7a4_50 (v := nI 16) (by decide) ?_
        refine r_icmp_le (tgt := 62) C dJ6_numberOfTrailingZeros_0f7a4_52 (by decide) (fun h52 => ?_) (fun h52 => ?_)
        · have h52 : z ≤ 16 := (nI_leI (by omega) (by omega)).mp h52
          refine r_iload_n C dJ6_numberOfTrailingZeros_0f7a4_62 0 rfl rfl ?_
          refine r_iconst C dJ6_numberOfTrailingZeros_0f7a4_63 (v := nI 4) (by decide) ?_
          refine r_icmp_le (tgt := 74) C dJ6_numberOfTrailingZeros_0f7a4_64 (by decide) (fun h64 => ?_) (fun h64 => ?_)
          · have h64 : z ≤ 4 := (nI_leI (by omega) (by omega)).mp h64
            refine r_iload_n C dJ6_numberOfTrailingZeros_0f7a4_74 1 rfl rfl ?_
            refine r_iload_n C dJ6_numberOfTrailingZeros_0f7a4_75 0 rfl rfl ?_
            refine r_iconst C dJ6_numberOfTrailingZeros_0f7a4_76 (v := nI 1) (by decide) ?_
            refine r_iushr C dJ6_numberOfTrailingZeros_0f7a4_77 (v := nI (z / 2)) (nz_u1 _ (by omega)) ?_
            refine r_iadd C dJ6_numberOfTrailingZeros_0f7a4_78 (v := nI (1 + (z / 2))) (nI_add _ _) ?_
            refine r_top (y := nI (ntz m)) (congrArg nI (by omega)) ?_
            exact hret _ _ _ () rfl (Or.inr ⟨_, rfl, dJ6_numberOfTrailingZeros_0f7a4_79, Or.inl rfl⟩)
          · have h64 : ¬ (z ≤ 4) := fun e9 => h64 ((nI_leI (by omega) (by omega)).mpr e9)
            refine r_iinc C dJ6_numberOfTrailingZeros_0f7a4_67 1 rfl (v := nI (1 + 2)) (nI_add _ _) (by decide) [1, 0] (lv' := [(0, .int (nI z)), (1, .int (nI (1 + 2)))]) rfl ?_
            refine r_iload_n C dJ6_numberOfTrailingZeros_0f7a4_70 0 rfl rfl ?_
            refine r_iconst C dJ6_numberOfTrailingZeros_0f7a4_71 (v := nI 2) (by decide) ?_
            refine r_iushr C dJ6_numberOfTrailingZeros_0f7a4_72 (v := nI (z / 4)) (nz_u2 _ (by omega)) ?_
            refine r_istore_n C dJ6_numberOfTrailingZeros_0f7a4_73 rfl (by decide) [0, 1] (lv' := [(0, .int (nI (z / 4))), (1, .int (nI (1 + 2)))]) rfl ?_
            refine r_iload_n C dJ6_numberOfTrailingZeros_0f7a4_74 1 rfl rfl ?_
            refine r_iload_n C dJ6_numberOfTrailingZeros_0f7a4_75 0 rfl rfl ?_
            refine r_iconst C dJ6_numberOfTrailingZeros_0f7a4_76 (v := nI 1) (by decide) ?_
            refine r_iushr C dJ6_numberOfTrailingZeros_0f7a4_77 (v := nI ((z / 4) / 2)) (nz_u1 _ (by omega)) ?_
            refine r_iadd C dJ6_numberOfTrailingZeros_0f7a4_78 (v := nI ((1 + 2) + ((z / 4) / 2))) (nI_add _ _) ?_
            refine r_top (y := nI (ntz m)) (congrArg nI (by omega)) ?_
            exact hret _ _ _ () rfl (Or.inr ⟨_, rfl, dJ6_numberOfTrailingZeros_0f7a4_79, Or.inl rfl⟩)
        · have h52 : ¬ (z ≤ 16) := fun e9 => h52 ((nI_leI (by omega) (by omega)).mpr e9)
          refine r_iinc C dJ6_numberOfTrailingZeros_0f7a4_55 1 rfl (v := nI (1 + 4)) (nI_add _ _) (by decide) [1, 0] (lv' := [(0, .int (nI z)), (1, .int (nI (1 + 4)))]) rfl ?_
          refine r_iload_n C dJ6_numberOfTrailingZeros_0f7a4_58 0 rfl rfl ?_
          refine r_iconst C dJ6_numberOfTrailingZeros_0f7a4_59 (v := nI 4) (by decide) ?_
          refine r_iushr C dJ6_numberOfTrailingZeros_0f7a4_60 (v := nI (z / 16)) (nz_u4 _ (by omega)) ?_
          refine r_istore_n C dJ6_numberOfTrailingZeros_0f7a4_61 rfl (by decide) [0, 1] (lv' := [(0, .int (nI (z / 16))), (1, .int (nI (1 + 4)))]) rfl ?_
          refine r_iload_n C dJ6_numberOfTrailingZeros_0f7a4_62 0 rfl rfl ?_
          refine r_iconst C dJ6_numberOfTrailingZeros_0f7a4_63 (v := nI 4) (by decide) ?_
          refine r_icmp_le (tgt := 74) C dJ6_numberOfTrailingZeros_0f7a4_64 (by decide) (fun h64 => ?_) (fun h64 => ?_)
          · have h64 : (z / 16) ≤ 4 := (nI_leI (by omega) (by omega)).mp h64
            refine r_iload_n C dJ6_numberOfTrailingZeros_0f7a4_74 1 rfl rfl ?_
            refine r_iload_n C dJ6_numberOfTrailingZeros_0f7a4_75 0 rfl rfl ?_
            refine r_iconst C dJ6_numberOfTrailingZeros_0f7a4_76 (v := nI 1) (by decide) ?_
            refine r_iushr C dJ6_numberOfTrailingZeros_0f7a4_77 (v := nI ((z / 16) / 2)) (nz_u1 _ (by omega)) ?_
            refine r_iadd C dJ6_numberOfTrailingZeros_0f7a4_78 (v := nI ((1 + 4) + ((z / 16) / 2))) (nI_add _ _) ?_
            refine r_top (y := nI (ntz m)) (congrArg nI (by omega)) ?_
            exact hret _ _ _ () rfl (Or.inr ⟨_, rfl, dJ6_numberOfTrailingZeros_0f7a4_79, Or.inl rfl⟩)
          · have h64 : ¬ ((z / 16) ≤ 4) := fun e9 => h64 ((nI_leI (by omega) (by omega)).mpr e9)
            refine r_iinc C dJ6_numberOfTrailingZeros_0f7a4_67 1 rfl (v := nI ((1 + 4) + 2)) (nI_add _ _) (by decide) [1, 0] (lv' := [(0, .int (nI (z / 16))), (1, .int (nI ((1 + 4) + 2)))]) rfl ?_
            refine r_iload_n C dJ6_numberOfTrailingZeros_0f7a4_70 0 rfl rfl ?_
            refine r_iconst C dJ6_numberOfTrailingZeros_0f7a4_71 (v := nI 2) (by decide) ?_
            refine r_iushr C dJ6_numberOfTrailingZeros_0f7a4_72 (v := nI ((z / 16) / 4)) (nz_u2 _ (by omega)) ?_
            refine r_istore_n C dJ6_numberOfTrailingZeros_0f7a4_73 rfl (by decide) [0, 1] (lv' := [(0, .int (nI ((z / 16) / 4))), (1, .int (nI ((1 + 4) + 2)))]) rfl ?_
            refine r_iload_n C dJ6_numberOfTrailingZeros_0f7a4_74 1 rfl rfl ?_
            refine r_iload_n C dJ6_numberOfTrailingZeros_0f7a4_75 0 rfl rfl ?_
            refine r_iconst C dJ6_numberOfTrailingZeros_0f7a4_76 (v := nI 1) (by decide) ?_
            refine r_iushr C dJ6_numberOfTrailingZeros_0f7a4_77 (v := nI (((z / 16) / 4) / 2)) (nz_u1 _ (by omega)) ?_
            refine r_iadd C dJ6_numberOfTrailingZeros_0f7a4_78 (v := nI (((1 + 4) + 2) + (((z / 16) / 4) / 2))) (nI_add _ _) ?_
            refine r_top (y := nI (ntz m)) (congrArg nI (by omega)) ?_
            exact hret _ _ _ () rfl (Or.inr ⟨_, rfl, dJ6_numberOfTrailingZeros_0f7a4_79, Or.inl rfl⟩)
      · have h38 : ¬ (z ≤ 256) := fun e9 => h38 ((nI_leI (by omega) (by omega)).mpr e9)
        exact absurd h38 (by omega)
    · have h23 : ¬ (z ≤ 65536) := fun e9 => h23 ((nI_leI (by omega) (by omega)).mpr e9)
      exact absurd h23 (by omega)
  · have h9 : ¬ (0 < z) := fun e9 => h9 ((nI_ltI (a := 0) (by omega) (by omega)).mpr e9)
    refine r_iload_n C dJ6_numberOfTrailingZeros_0f7a4_12 0 rfl rfl ?_
    refine r_bipush C dJ6_numberOfTrailingZeros_0f7a4_13 (v := nI 32) (by decide) ?_
    refine r_iand C dJ6_numberOfTrailingZeros_0f7a4_15 (v := nI 0) (by rcases hz with ⟨rfl, _⟩ | ⟨rfl, _⟩ | ⟨rfl, _⟩ | ⟨rfl, _⟩ | ⟨rfl, _⟩ | ⟨rfl, _⟩ <;> rfl) ?_
    refine r_top (y := nI (ntz m)) (congrArg nI (by omega)) ?_
    exact hret _ _ _ () rfl (Or.inr ⟨_, rfl, dJ6_numberOfTrailingZeros_0f7a4_16, Or.inl rfl⟩)
theorem fX2_upperBits_7 : Cond.fieldLink RX2 7 (TX2 0).1 (TX2 0).2.1 (TX2 0).2.2.1 ∈ wsX2_upperBits := List.mem_of_getElem? (i := 1) rfl
theorem iX2_upperBits_X2 : ∀ w ∈ wsX20, w ∈ wsX2_upperBits := by decide +kernel
set_option maxHeartbeats 4000000 in
set_option maxRecDepth 100000 in
theorem c_X2_upperBits {g : ww_G} {l : Launch} {aH : Nat} {x : Int64}  : CT g l yX2_upperBits wsX2_upperBits (ww_rm 1) [.ref aH] ([(aH, .inr (3, [.long x]))]) (S := Unit) (fun v u => v = some (.int (nI (hb x)))) (fun u => [(aH, .inr (3, [.long x]))]) := by
  refine CT.of cX2_upperBits 1 (some .int) RX2 (by decide +kernel) rfl rfl (Nat.le_of_ble_eq_true rfl) ?_
  intro X hg hl C hret
  subst hg; subst hl
  show RW X 0 0 0 [(0, .ref aH)] [] [(aH, .inr (3, [.long x]))]
  refine r_aload_n C dX2_upperBits_0 0 rfl rfl ?_
  refine r_get C dX2_upperBits_1 iX2_upperBits_X2 0 fX2_upperBits_7 0 rfl rfl (by decide) rfl ?_
  refine r_bipush C dX2_upperBits_4 (v := nI 33) (by decide) ?_
  refine r_lushr C dX2_upperBits_6 (v := (x.toUInt64 >>> ((nI 33).toInt64.toUInt64 &&& Int64.toUInt64 63)).toInt64) rfl ?_
  refine r_l2i C dX2_upperBits_7 (v := nI (hb x)) (hb_i x) ?_
  exact hret _ _ _ () rfl (Or.inr ⟨_, rfl, dX2_upperBits_8, Or.inl rfl⟩)
theorem fX2_startAt_7 : Cond.fieldLink RX2 7 (TX2 0).1 (TX2 0).2.1 (TX2 0).2.2.1 ∈ wsX2_startAt := List.mem_of_getElem? (i := 1) rfl
theorem iX2_startAt_X2 : ∀ w ∈ wsX20, w ∈ wsX2_startAt := by decide +kernel
set_option maxHeartbeats 4000000 in
set_option maxRecDepth 100000 in
theorem c_X2_startAt {g : ww_G} {l : Launch} {aH : Nat} {x : Int64} {y : Int64}  : CT g l yX2_startAt wsX2_startAt (ww_rm 1) [.ref aH, .long y] ([(aH, .inr (3, [.long x]))]) (S := Unit) (fun v u => v = none) (fun u => [(aH, .inr (3, [.long y]))]) := by
  refine CT.of cX2_startAt 3 none RX2 (by decide +kernel) rfl rfl (Nat.le_of_ble_eq_true rfl) ?_
  intro X hg hl C hret
  subst hg; subst hl
  show RW X 0 0 0 [(0, .ref aH), (1, .long y)] [] [(aH, .inr (3, [.long x]))]
  refine r_aload_n C dX2_startAt_0 0 rfl rfl ?_
  refine r_lload_n C dX2_startAt_1 1 rfl rfl ?_
  refine r_put C dX2_startAt_2 iX2_startAt_X2 tyX2 tyX2_ok nmX2 0 fX2_startAt_7 0 rfl rfl (by decide) rfl rfl rfl rfl (Nat.le_of_ble_eq_true rfl) (ws' := [(aH, .inr (3, [.long y]))]) rfl ?_
  exact hret _ _ _ () rfl (Or.inl ⟨rfl, rfl, dX2_startAt_5⟩)
theorem kX2_below_13 : Cond.constantLong RX2 13 (6364136223846793005) ∈ wsX2_below := List.mem_of_getElem? (i := 1) rfl
theorem fX2_below_7 : Cond.fieldLink RX2 7 (TX2 0).1 (TX2 0).2.1 (TX2 0).2.2.1 ∈ wsX2_below := List.mem_of_getElem? (i := 2) rfl
theorem iX2_below_X2 : ∀ w ∈ wsX20, w ∈ wsX2_below := by decide +kernel
theorem kX2_below_15 : Cond.constantLong RX2 15 (1442695040888963407) ∈ wsX2_below := List.mem_of_getElem? (i := 3) rfl
set_option maxHeartbeats 4000000 in
set_option maxRecDepth 100000 in
theorem c_X2_below {g : ww_G} {l : Launch} {aH : Nat} {x : Int64} {k : Nat} (hk : 1 ≤ k) (hk2 : k < 2147483648) : CT g l yX2_below wsX2_below (ww_rm 2) [.ref aH, .int (nI k)] ([(aH, .inr (3, [.long x]))]) (S := Unit) (fun v u => v = some (.int (nI (hb (nx x) % k)))) (fun u => [(aH, .inr (3, [.long (nx x)]))]) := by
  refine CT.of cX2_below 2 (some .int) RX2 (by decide +kernel) rfl rfl (Nat.le_of_ble_eq_true rfl) ?_
  intro X hg hl C hret
  subst hg; subst hl
  show RW X 0 0 0 [(0, .ref aH), (1, .int (nI k))] [] [(aH, .inr (3, [.long x]))]
  refine r_aload_n C dX2_below_0 0 rfl rfl ?_
  refine r_ldc2 C dX2_below_1 kX2_below_13 ?_
  refine r_aload_n C dX2_below_4 0 rfl rfl ?_
  refine r_get C dX2_below_5 iX2_below_X2 0 fX2_below_7 0 rfl rfl (by decide) rfl ?_
  refine r_lmul C dX2_below_8 (v := 6364136223846793005 * x) rfl ?_
  refine r_ldc2 C dX2_below_9 kX2_below_15 ?_
  refine r_ladd C dX2_below_12 (v := nx x) rfl ?_
  refine r_put C dX2_below_13 iX2_below_X2 tyX2 tyX2_ok nmX2 0 fX2_below_7 0 rfl rfl (by decide) rfl rfl rfl rfl (Nat.le_of_ble_eq_true rfl) (ws' := [(aH, .inr (3, [.long (nx x)]))]) rfl ?_
  refine r_iload_n C dX2_below_16 1 rfl rfl ?_
  refine r_iconst C dX2_below_17 (v := nI 1) (by decide) ?_
  refine r_icmp_ge (tgt := 25) C dX2_below_18 (by decide) (fun h18 => ?_) (fun h18 => ?_)
  · have h18 : 1 ≤ k := (nI_leI (by omega) (by omega)).mp h18
    refine r_aload_n C dX2_below_25 0 rfl rfl ?_
    refine r_callV0 (n := 0) (ws' := fun u => [(aH, .inr (3, [.long (nx x)]))]) C dX2_below_26 (c_X2_upperBits (g := X.1) (l := X.2.2.1) (aH := aH) (x := nx x) ) gX2_below_X2_upperBits rfl (by decide +kernel) rfl ⟨Nat.le_of_ble_eq_true rfl, Nat.le_of_ble_eq_true rfl⟩ ⟨rfl, rfl⟩ ⟨Nat.zero_le _, Nat.zero_le _⟩ (rest := []) rfl (by decide) 0 rfl rfl [0] (by decide) rfl (fun u => rfl) (fun u => rfl) (fun v u hp => ?_)
    obtain rfl := hp
    show RW X 0 0 29 [(0, .ref aH), (1, .int (nI k))] [.int (nI (hb (nx x)))] [(aH, .inr (3, [.long (nx x)]))]
    refine r_iload_n C dX2_below_29 1 rfl rfl ?_
    refine r_irem C dX2_below_30 (nI_ne0 (by omega) (by omega)) (v := nI (hb (nx x) % k)) (pk_rem (hb_lt _) (by omega) (by omega)) ?_
    exact hret _ _ _ () rfl (Or.inr ⟨_, rfl, dX2_below_31, Or.inl rfl⟩)
  · have h18 : ¬ (1 ≤ k) := fun e9 => h18 ((nI_leI (by omega) (by omega)).mpr e9)
    exact absurd hk h18
end
section
theorem zz_last : True := trivial
end
