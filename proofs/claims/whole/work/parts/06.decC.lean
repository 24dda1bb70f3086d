set_option maxRecDepth 20000 in
theorem ggX10_init_X4_init : GoodIn wsX10_init wsX4_init := goodIn_r _ [29, 30, 2, 3, 31, 32, 33, 13, 34, 35, 36, 37, 38, 151, 152, 153, 154, 155, 156, 157] (by decide +kernel) (by decide +kernel)
set_option maxRecDepth 20000 in
theorem gX10_init_X4_init : GoodIn wsX10_init (wsX4_init) := ggX10_init_X4_init
set_option maxRecDepth 20000 in
theorem ggX10_init_X6_init : GoodIn wsX10_init wsX6_init := goodIn_r _ [41, 42, 2, 3, 43, 44, 13, 45, 164, 165, 151, 152, 153, 154, 155, 156, 157] (by decide +kernel) (by decide +kernel)
set_option maxRecDepth 20000 in
theorem gX10_init_X6_init : GoodIn wsX10_init (wsX6_init) := ggX10_init_X6_init
set_option maxRecDepth 20000 in
theorem ggX10_init_X0_init : GoodIn wsX10_init wsX0_init := goodIn_r _ [47, 48, 2, 3, 49, 50, 51, 52, 166, 167, 168] (by decide +kernel) (by decide +kernel)
set_option maxRecDepth 20000 in
theorem gX10_init_X0_init_n37 : GoodIn wsX10_init (wsX0_init) := ggX10_init_X0_init
set_option maxRecDepth 20000 in
theorem ggX10_init_X5_init : GoodIn wsX10_init wsX5_init := goodIn_r _ [55, 56, 2, 3, 57, 58, 59, 60, 61, 62, 63, 64, 65, 66, 67, 68, 69, 70, 71, 72, 73, 74, 75, 76, 77, 78, 79, 80, 81, 82, 83, 84, 13, 85, 86, 87, 88, 89, 90, 91, 92, 93, 94, 95, 96, 97, 98, 99, 100, 101, 102, 103, 104, 105, 106, 107, 108, 109, 110, 111, 112, 113, 114, 115, 116, 117, 118, 119, 120, 121, 122, 123, 124, 125, 126, 127, 128, 129, 130, 131, 132, 133, 134, 135, 136, 137, 138, 169, 170, 171, 172, 173, 174, 175, 176, 177, 178, 179, 180, 181, 182, 183, 184, 185, 186, 187, 188, 194, 195, 196, 197, 198, 199, 200, 201, 202, 203, 151, 152, 153, 154, 155, 156, 157, 204, 205, 206, 207, 208] (by decide +kernel) (by decide +kernel)
set_option maxRecDepth 20000 in
theorem gX10_init_X5_init : GoodIn wsX10_init (wsX5_init) := ggX10_init_X5_init
set_option maxRecDepth 20000 in
theorem ggX10_init_X9_init : GoodIn wsX10_init wsX9_init := goodIn_r _ [141, 142, 2, 3, 143, 144, 145, 102, 103, 146, 13, 147, 148, 149, 150, 106, 107, 108, 109, 110, 111, 112, 113, 114, 115, 116, 117, 118, 119, 189, 190, 191, 192, 193, 204, 205, 206, 207, 208, 151, 152, 153, 154, 155, 156, 157] (by decide +kernel) (by decide +kernel)
set_option maxRecDepth 20000 in
theorem gX10_init_X9_init : GoodIn wsX10_init (wsX9_init) := ggX10_init_X9_init
theorem dX10_init_0 : decode cX10_init 0 = .ok (.aload_n 0, 1) := by decide +kernel
theorem dX10_init_1 : decode cX10_init 1 = .ok (.invokespecial 1, 3) := by decide +kernel
theorem dX10_init_4 : decode cX10_init 4 = .ok (.aload_n 0, 1) := by decide +kernel
theorem dX10_init_5 : decode cX10_init 5 = .ok (.new 7, 3) := by decide +kernel
theorem dX10_init_8 : decode cX10_init 8 = .ok (.dup, 1) := by decide +kernel
theorem dX10_init_9 : decode cX10_init 9 = .ok (.iload_n 1, 1) := by decide +kernel
theorem dX10_init_10 : decode cX10_init 10 = .ok (.ifCond .gt 7, 3) := by decide +kernel
theorem dX10_init_13 : decode cX10_init 13 = .ok (.iconst 4, 1) := by decide +kernel
theorem dX10_init_14 : decode cX10_init 14 = .ok (.goto 5, 3) := by decide +kernel
theorem dX10_init_17 : decode cX10_init 17 = .ok (.bipush 6, 2) := by decide +kernel
theorem dX10_init_19 : decode cX10_init 19 = .ok (.invokespecial 9, 3) := by decide +kernel
theorem dX10_init_22 : decode cX10_init 22 = .ok (.putfield 12, 3) := by decide +kernel
theorem dX10_init_25 : decode cX10_init 25 = .ok (.aload_n 0, 1) := by decide +kernel
theorem dX10_init_26 : decode cX10_init 26 = .ok (.new 18, 3) := by decide +kernel
theorem dX10_init_29 : decode cX10_init 29 = .ok (.dup, 1) := by decide +kernel
theorem dX10_init_30 : decode cX10_init 30 = .ok (.aload_n 0, 1) := by decide +kernel
theorem dX10_init_31 : decode cX10_init 31 = .ok (.getfield 12, 3) := by decide +kernel
theorem dX10_init_34 : decode cX10_init 34 = .ok (.invokespecial 20, 3) := by decide +kernel
theorem dX10_init_37 : decode cX10_init 37 = .ok (.putfield 23, 3) := by decide +kernel
theorem dX10_init_40 : decode cX10_init 40 = .ok (.aload_n 0, 1) := by decide +kernel
theorem dX10_init_41 : decode cX10_init 41 = .ok (.aload_n 0, 1) := by decide +kernel
theorem dX10_init_42 : decode cX10_init 42 = .ok (.getfield 12, 3) := by decide +kernel
theorem dX10_init_45 : decode cX10_init 45 = .ok (.getfield 27, 3) := by decide +kernel
theorem dX10_init_48 : decode cX10_init 48 = .ok (.newarray .int, 2) := by decide +kernel
theorem dX10_init_50 : decode cX10_init 50 = .ok (.putfield 31, 3) := by decide +kernel
theorem dX10_init_53 : decode cX10_init 53 = .ok (.aload_n 0, 1) := by decide +kernel
theorem dX10_init_54 : decode cX10_init 54 = .ok (.new 35, 3) := by decide +kernel
theorem dX10_init_57 : decode cX10_init 57 = .ok (.dup, 1) := by decide +kernel
theorem dX10_init_58 : decode cX10_init 58 = .ok (.invokespecial 37, 3) := by decide +kernel
theorem dX10_init_61 : decode cX10_init 61 = .ok (.putfield 38, 3) := by decide +kernel
theorem dX10_init_64 : decode cX10_init 64 = .ok (.aload_n 0, 1) := by decide +kernel
theorem dX10_init_65 : decode cX10_init 65 = .ok (.new 42, 3) := by decide +kernel
theorem dX10_init_68 : decode cX10_init 68 = .ok (.dup, 1) := by decide +kernel
theorem dX10_init_69 : decode cX10_init 69 = .ok (.aload_n 0, 1) := by decide +kernel
theorem dX10_init_70 : decode cX10_init 70 = .ok (.getfield 12, 3) := by decide +kernel
theorem dX10_init_73 : decode cX10_init 73 = .ok (.aload_n 0, 1) := by decide +kernel
theorem dX10_init_74 : decode cX10_init 74 = .ok (.getfield 23, 3) := by decide +kernel
theorem dX10_init_77 : decode cX10_init 77 = .ok (.aload_n 0, 1) := by decide +kernel
theorem dX10_init_78 : decode cX10_init 78 = .ok (.getfield 31, 3) := by decide +kernel
theorem dX10_init_81 : decode cX10_init 81 = .ok (.aload_n 0, 1) := by decide +kernel
theorem dX10_init_82 : decode cX10_init 82 = .ok (.getfield 38, 3) := by decide +kernel
theorem dX10_init_85 : decode cX10_init 85 = .ok (.invokespecial 44, 3) := by decide +kernel
theorem dX10_init_88 : decode cX10_init 88 = .ok (.putfield 47, 3) := by decide +kernel
theorem dX10_init_91 : decode cX10_init 91 = .ok (.aload_n 0, 1) := by decide +kernel
theorem dX10_init_92 : decode cX10_init 92 = .ok (.new 51, 3) := by decide +kernel
theorem dX10_init_95 : decode cX10_init 95 = .ok (.dup, 1) := by decide +kernel
theorem dX10_init_96 : decode cX10_init 96 = .ok (.aload_n 0, 1) := by decide +kernel
theorem dX10_init_97 : decode cX10_init 97 = .ok (.getfield 12, 3) := by decide +kernel
theorem dX10_init_100 : decode cX10_init 100 = .ok (.invokespecial 53, 3) := by decide +kernel
theorem dX10_init_103 : decode cX10_init 103 = .ok (.putfield 54, 3) := by decide +kernel
theorem dX10_init_106 : decode cX10_init 106 = .ok (.return_, 1) := by decide +kernel
set_option maxRecDepth 20000 in
theorem ggX10_symmetry_X6_joinBy : GoodIn wsX10_symmetry wsX6_joinBy := goodIn_r _ [6, 7, 8, 9, 10, 11, 12, 13, 14, 15, 16, 5, 17, 18, 19, 20, 27, 28, 29, 30, 31, 32, 33, 34, 35] (by decide +kernel) (by decide +kernel)
set_option maxRecDepth 20000 in
theorem gX10_symmetry_X6_joinBy : GoodIn wsX10_symmetry (wsV RX10 58 RX6 yX6_joinBy wsX6_joinBy) := goodIn_app (goodIn_of _ (by decide +kernel)) ggX10_symmetry_X6_joinBy
theorem dX10_symmetry_0 : decode cX10_symmetry 0 = .ok (.iload_n 1, 1) := by decide +kernel
theorem dX10_symmetry_1 : decode cX10_symmetry 1 = .ok (.ifCond .lt 8, 3) := by decide +kernel
theorem dX10_symmetry_4 : decode cX10_symmetry 4 = .ok (.iload_n 1, 1) := by decide +kernel
theorem dX10_symmetry_5 : decode cX10_symmetry 5 = .ok (.iconst 4, 1) := by decide +kernel
theorem dX10_symmetry_6 : decode cX10_symmetry 6 = .ok (.if_icmp .lt 5, 3) := by decide +kernel
theorem dX10_symmetry_9 : decode cX10_symmetry 9 = .ok (.iconst 0, 1) := by decide +kernel
theorem dX10_symmetry_10 : decode cX10_symmetry 10 = .ok (.ireturn, 1) := by decide +kernel
theorem dX10_symmetry_11 : decode cX10_symmetry 11 = .ok (.aload_n 0, 1) := by decide +kernel
theorem dX10_symmetry_12 : decode cX10_symmetry 12 = .ok (.getfield 23, 3) := by decide +kernel
theorem dX10_symmetry_15 : decode cX10_symmetry 15 = .ok (.iload_n 1, 1) := by decide +kernel
theorem dX10_symmetry_16 : decode cX10_symmetry 16 = .ok (.invokevirtual 58, 3) := by decide +kernel
theorem dX10_symmetry_19 : decode cX10_symmetry 19 = .ok (.iconst 1, 1) := by decide +kernel
theorem dX10_symmetry_20 : decode cX10_symmetry 20 = .ok (.ireturn, 1) := by decide +kernel
set_option maxRecDepth 20000 in
theorem ggX10_theme_X4_has : GoodIn wsX10_theme wsX4_has := goodIn_r _ [12, 13, 26, 27, 28, 29, 30, 31, 32] (by decide +kernel) (by decide +kernel)
set_option maxRecDepth 20000 in
theorem gX10_theme_X4_has : GoodIn wsX10_theme (wsV RX10 61 RX4 yX4_has wsX4_has) := goodIn_app (goodIn_of _ (by decide +kernel)) ggX10_theme_X4_has
theorem dX10_theme_0 : decode cX10_theme 0 = .ok (.aload_n 0, 1) := by decide +kernel
theorem dX10_theme_1 : decode cX10_theme 1 = .ok (.getfield 12, 3) := by decide +kernel
theorem dX10_theme_4 : decode cX10_theme 4 = .ok (.iload_n 1, 1) := by decide +kernel
theorem dX10_theme_5 : decode cX10_theme 5 = .ok (.invokevirtual 61, 3) := by decide +kernel
theorem dX10_theme_8 : decode cX10_theme 8 = .ok (.ifCond .ne 13, 3) := by decide +kernel
theorem dX10_theme_11 : decode cX10_theme 11 = .ok (.new 65, 3) := by decide +kernel
theorem dX10_theme_14 : decode cX10_theme 14 = .ok (.dup, 1) := by decide +kernel
theorem dX10_theme_15 : decode cX10_theme 15 = .ok (.ldc 67, 2) := by decide +kernel
theorem dX10_theme_17 : decode cX10_theme 17 = .ok (.invokespecial 69, 3) := by decide +kernel
theorem dX10_theme_20 : decode cX10_theme 20 = .ok (.athrow, 1) := by decide +kernel
theorem dX10_theme_21 : decode cX10_theme 21 = .ok (.iload_n 2, 1) := by decide +kernel
theorem dX10_theme_22 : decode cX10_theme 22 = .ok (.ifCond .lt 8, 3) := by decide +kernel
theorem dX10_theme_25 : decode cX10_theme 25 = .ok (.iload_n 2, 1) := by decide +kernel
theorem dX10_theme_26 : decode cX10_theme 26 = .ok (.iconst 3, 1) := by decide +kernel
theorem dX10_theme_27 : decode cX10_theme 27 = .ok (.if_icmp .lt 13, 3) := by decide +kernel
theorem dX10_theme_30 : decode cX10_theme 30 = .ok (.new 72, 3) := by decide +kernel
theorem dX10_theme_33 : decode cX10_theme 33 = .ok (.dup, 1) := by decide +kernel
theorem dX10_theme_34 : decode cX10_theme 34 = .ok (.ldc 74, 2) := by decide +kernel
theorem dX10_theme_36 : decode cX10_theme 36 = .ok (.invokespecial 76, 3) := by decide +kernel
theorem dX10_theme_39 : decode cX10_theme 39 = .ok (.athrow, 1) := by decide +kernel
theorem dX10_theme_40 : decode cX10_theme 40 = .ok (.aload_n 0, 1) := by decide +kernel
theorem dX10_theme_41 : decode cX10_theme 41 = .ok (.getfield 31, 3) := by decide +kernel
theorem dX10_theme_44 : decode cX10_theme 44 = .ok (.iload_n 1, 1) := by decide +kernel
theorem dX10_theme_45 : decode cX10_theme 45 = .ok (.iload_n 2, 1) := by decide +kernel
theorem dX10_theme_46 : decode cX10_theme 46 = .ok (.iastore, 1) := by decide +kernel
theorem dX10_theme_47 : decode cX10_theme 47 = .ok (.return_, 1) := by decide +kernel
set_option maxRecDepth 20000 in
theorem ggX10_aim_X0_set : GoodIn wsX10_aim wsX0_set := goodIn_r _ [8, 9, 10, 11, 18, 19, 20] (by decide +kernel) (by decide +kernel)
set_option maxRecDepth 20000 in
theorem gX10_aim_X0_set : GoodIn wsX10_aim (wsV RX10 81 RX0 yX0_set wsX0_set) := goodIn_app (goodIn_of _ (by decide +kernel)) ggX10_aim_X0_set
theorem dX10_aim_0 : decode cX10_aim 0 = .ok (.iload_n 1, 1) := by decide +kernel
theorem dX10_aim_1 : decode cX10_aim 1 = .ok (.ifCond .lt 8, 3) := by decide +kernel
theorem dX10_aim_4 : decode cX10_aim 4 = .ok (.iload_n 1, 1) := by decide +kernel
theorem dX10_aim_5 : decode cX10_aim 5 = .ok (.iconst 3, 1) := by decide +kernel
theorem dX10_aim_6 : decode cX10_aim 6 = .ok (.if_icmp .lt 13, 3) := by decide +kernel
theorem dX10_aim_9 : decode cX10_aim 9 = .ok (.new 72, 3) := by decide +kernel
theorem dX10_aim_12 : decode cX10_aim 12 = .ok (.dup, 1) := by decide +kernel
theorem dX10_aim_13 : decode cX10_aim 13 = .ok (.ldc 77, 2) := by decide +kernel
theorem dX10_aim_15 : decode cX10_aim 15 = .ok (.invokespecial 76, 3) := by decide +kernel
theorem dX10_aim_18 : decode cX10_aim 18 = .ok (.athrow, 1) := by decide +kernel
theorem dX10_aim_19 : decode cX10_aim 19 = .ok (.iload_n 2, 1) := by decide +kernel
theorem dX10_aim_20 : decode cX10_aim 20 = .ok (.ifCond .lt 8, 3) := by decide +kernel
theorem dX10_aim_23 : decode cX10_aim 23 = .ok (.iload_n 2, 1) := by decide +kernel
theorem dX10_aim_24 : decode cX10_aim 24 = .ok (.iload_n 3, 1) := by decide +kernel
theorem dX10_aim_25 : decode cX10_aim 25 = .ok (.if_icmp .le 13, 3) := by decide +kernel
theorem dX10_aim_28 : decode cX10_aim 28 = .ok (.new 72, 3) := by decide +kernel
theorem dX10_aim_31 : decode cX10_aim 31 = .ok (.dup, 1) := by decide +kernel
theorem dX10_aim_32 : decode cX10_aim 32 = .ok (.ldc 79, 2) := by decide +kernel
theorem dX10_aim_34 : decode cX10_aim 34 = .ok (.invokespecial 76, 3) := by decide +kernel
theorem dX10_aim_37 : decode cX10_aim 37 = .ok (.athrow, 1) := by decide +kernel
theorem dX10_aim_38 : decode cX10_aim 38 = .ok (.aload_n 0, 1) := by decide +kernel
theorem dX10_aim_39 : decode cX10_aim 39 = .ok (.getfield 38, 3) := by decide +kernel
theorem dX10_aim_42 : decode cX10_aim 42 = .ok (.iload_n 1, 1) := by decide +kernel
theorem dX10_aim_43 : decode cX10_aim 43 = .ok (.iload_n 2, 1) := by decide +kernel
theorem dX10_aim_44 : decode cX10_aim 44 = .ok (.iload_n 3, 1) := by decide +kernel
theorem dX10_aim_45 : decode cX10_aim 45 = .ok (.invokevirtual 81, 3) := by decide +kernel
theorem dX10_aim_48 : decode cX10_aim 48 = .ok (.return_, 1) := by decide +kernel
set_option maxRecDepth 20000 in
theorem ggX10_make_X5_startAt : GoodIn wsX10_make wsX5_startAt := goodIn_r _ [6, 7, 8, 9, 10, 11, 12, 13, 14, 15, 16, 17, 18, 223, 224, 225, 226, 227, 228, 229, 230, 231, 232, 233, 234, 235, 236, 237, 238, 239, 240, 241, 242, 243] (by decide +kernel) (by decide +kernel)
set_option maxRecDepth 20000 in
theorem gX10_make_X5_startAt : GoodIn wsX10_make (wsV RX10 85 RX5 yX5_startAt wsX5_startAt) := goodIn_app (goodIn_of _ (by decide +kernel)) ggX10_make_X5_startAt
set_option maxRecDepth 20000 in
theorem ggX10_make_X5_tryOnce : GoodIn wsX10_make wsX5_tryOnce := goodIn_r _ [22, 8, 10, 23, 11, 24, 25, 26, 27, 28, 29, 30, 31, 32, 33, 7, 34, 35, 36, 5, 37, 38, 9, 39, 40, 41, 42, 43, 44, 45, 46, 47, 48, 49, 50, 51, 52, 53, 54, 55, 56, 57, 58, 59, 60, 61, 62, 63, 64, 65, 66, 67, 68, 69, 70, 71, 72, 73, 74, 75, 76, 77, 78, 79, 80, 81, 82, 83, 84, 85, 86, 87, 88, 89, 16, 90, 91, 18, 92, 93, 94, 95, 96, 97, 98, 99, 100, 101, 102, 103, 104, 105, 106, 107, 108, 109, 110, 111, 112, 113, 114, 115, 116, 117, 118, 119, 120, 121, 122, 123, 124, 125, 126, 127, 128, 129, 130, 131, 132, 133, 134, 135, 136, 137, 138, 139, 140, 141, 142, 143, 144, 145, 146, 147, 148, 149, 150, 151, 152, 153, 154, 155, 156, 157, 158, 159, 160, 161, 162, 163, 164, 165, 166, 167, 168, 12, 169, 170, 171, 172, 173, 174, 175, 176, 177, 178, 179, 180, 181, 182, 183, 184, 185, 186, 187, 188, 189, 190, 191, 192, 193, 194, 195, 196, 197, 198, 199, 200, 201, 202, 203, 204, 205, 206, 207, 208, 209, 210, 211, 212, 213, 214, 215, 216, 223, 224, 225, 226, 227, 228, 229, 230, 231, 232, 233, 234, 235, 236, 237, 238, 239, 240, 241, 242, 244, 245, 246, 247, 248, 249, 250, 251, 252, 253, 254, 255, 256, 257, 258, 243, 259, 260, 261, 262, 263, 264, 265, 266, 267, 268, 269] (by decide +kernel) (by decide +kernel)
set_option maxRecDepth 20000 in
theorem gX10_make_X5_tryOnce : GoodIn wsX10_make (wsV RX10 89 RX5 yX5_tryOnce wsX5_tryOnce) := goodIn_app (goodIn_of _ (by decide +kernel)) ggX10_make_X5_tryOnce
theorem dX10_make_0 : decode cX10_make 0 = .ok (.iload_n 3, 1) := by decide +kernel
theorem dX10_make_1 : decode cX10_make 1 = .ok (.iconst 1, 1) := by decide +kernel
theorem dX10_make_2 : decode cX10_make 2 = .ok (.if_icmp .lt 9, 3) := by decide +kernel
theorem dX10_make_5 : decode cX10_make 5 = .ok (.iload_n 3, 1) := by decide +kernel
theorem dX10_make_6 : decode cX10_make 6 = .ok (.bipush 40, 2) := by decide +kernel
theorem dX10_make_8 : decode cX10_make 8 = .ok (.if_icmp .le 6, 3) := by decide +kernel
theorem dX10_make_11 : decode cX10_make 11 = .ok (.bipush (-2), 2) := by decide +kernel
theorem dX10_make_13 : decode cX10_make 13 = .ok (.ireturn, 1) := by decide +kernel
theorem dX10_make_14 : decode cX10_make 14 = .ok (.aload_n 0, 1) := by decide +kernel
theorem dX10_make_15 : decode cX10_make 15 = .ok (.getfield 47, 3) := by decide +kernel
theorem dX10_make_18 : decode cX10_make 18 = .ok (.lload_n 1, 1) := by decide +kernel
theorem dX10_make_19 : decode cX10_make 19 = .ok (.invokevirtual 85, 3) := by decide +kernel
theorem dX10_make_22 : decode cX10_make 22 = .ok (.iconst 1, 1) := by decide +kernel
theorem dX10_make_23 : decode cX10_make 23 = .ok (.istore 4, 2) := by decide +kernel
theorem dX10_make_25 : decode cX10_make 25 = .ok (.iload 4, 2) := by decide +kernel
theorem dX10_make_27 : decode cX10_make 27 = .ok (.iload_n 3, 1) := by decide +kernel
theorem dX10_make_28 : decode cX10_make 28 = .ok (.if_icmp .gt 22, 3) := by decide +kernel
theorem dX10_make_31 : decode cX10_make 31 = .ok (.aload_n 0, 1) := by decide +kernel
theorem dX10_make_32 : decode cX10_make 32 = .ok (.getfield 47, 3) := by decide +kernel
theorem dX10_make_35 : decode cX10_make 35 = .ok (.invokevirtual 89, 3) := by decide +kernel
theorem dX10_make_38 : decode cX10_make 38 = .ok (.ifCond .eq 6, 3) := by decide +kernel
theorem dX10_make_41 : decode cX10_make 41 = .ok (.iload 4, 2) := by decide +kernel
theorem dX10_make_43 : decode cX10_make 43 = .ok (.ireturn, 1) := by decide +kernel
theorem dX10_make_44 : decode cX10_make 44 = .ok (.iinc 4 1, 3) := by decide +kernel
theorem dX10_make_47 : decode cX10_make 47 = .ok (.goto (-22), 3) := by decide +kernel
theorem dX10_make_50 : decode cX10_make 50 = .ok (.iconst (-1), 1) := by decide +kernel
theorem dX10_make_51 : decode cX10_make 51 = .ok (.ireturn, 1) := by decide +kernel
set_option maxRecDepth 20000 in
theorem ggX10_given_X4_has : GoodIn wsX10_given wsX4_has := goodIn_r _ [12, 13, 46, 47, 48, 49, 50, 51, 52] (by decide +kernel) (by decide +kernel)
set_option maxRecDepth 20000 in
theorem gX10_given_X4_has : GoodIn wsX10_given (wsV RX10 61 RX4 yX4_has wsX4_has) := goodIn_app (goodIn_of _ (by decide +kernel)) ggX10_given_X4_has
theorem dX10_given_0 : decode cX10_given 0 = .ok (.aload_n 0, 1) := by decide +kernel
theorem dX10_given_1 : decode cX10_given 1 = .ok (.getfield 12, 3) := by decide +kernel
theorem dX10_given_4 : decode cX10_given 4 = .ok (.iload_n 1, 1) := by decide +kernel
theorem dX10_given_5 : decode cX10_given 5 = .ok (.invokevirtual 61, 3) := by decide +kernel
theorem dX10_given_8 : decode cX10_given 8 = .ok (.ifCond .ne 13, 3) := by decide +kernel
theorem dX10_given_11 : decode cX10_given 11 = .ok (.new 65, 3) := by decide +kernel
theorem dX10_given_14 : decode cX10_given 14 = .ok (.dup, 1) := by decide +kernel
theorem dX10_given_15 : decode cX10_given 15 = .ok (.ldc 67, 2) := by decide +kernel
theorem dX10_given_17 : decode cX10_given 17 = .ok (.invokespecial 69, 3) := by decide +kernel
theorem dX10_given_20 : decode cX10_given 20 = .ok (.athrow, 1) := by decide +kernel
theorem dX10_given_21 : decode cX10_given 21 = .ok (.aload_n 0, 1) := by decide +kernel
theorem dX10_given_22 : decode cX10_given 22 = .ok (.getfield 47, 3) := by decide +kernel
theorem dX10_given_25 : decode cX10_given 25 = .ok (.getfield 93, 3) := by decide +kernel
theorem dX10_given_28 : decode cX10_given 28 = .ok (.ifCond .eq 15, 3) := by decide +kernel
theorem dX10_given_31 : decode cX10_given 31 = .ok (.aload_n 0, 1) := by decide +kernel
theorem dX10_given_32 : decode cX10_given 32 = .ok (.getfield 47, 3) := by decide +kernel
theorem dX10_given_35 : decode cX10_given 35 = .ok (.getfield 97, 3) := by decide +kernel
theorem dX10_given_38 : decode cX10_given 38 = .ok (.iload_n 1, 1) := by decide +kernel
theorem dX10_given_39 : decode cX10_given 39 = .ok (.iaload, 1) := by decide +kernel
theorem dX10_given_40 : decode cX10_given 40 = .ok (.goto 4, 3) := by decide +kernel
theorem dX10_given_43 : decode cX10_given 43 = .ok (.iconst (-1), 1) := by decide +kernel
theorem dX10_given_44 : decode cX10_given 44 = .ok (.ireturn, 1) := by decide +kernel
set_option maxRecDepth 20000 in
theorem ggX10_answer_X4_has : GoodIn wsX10_answer wsX4_has := goodIn_r _ [12, 13, 46, 47, 48, 49, 50, 51, 52] (by decide +kernel) (by decide +kernel)
set_option maxRecDepth 20000 in
theorem gX10_answer_X4_has : GoodIn wsX10_answer (wsV RX10 61 RX4 yX4_has wsX4_has) := goodIn_app (goodIn_of _ (by decide +kernel)) ggX10_answer_X4_has
theorem dX10_answer_0 : decode cX10_answer 0 = .ok (.aload_n 0, 1) := by decide +kernel
theorem dX10_answer_1 : decode cX10_answer 1 = .ok (.getfield 12, 3) := by decide +kernel
theorem dX10_answer_4 : decode cX10_answer 4 = .ok (.iload_n 1, 1) := by decide +kernel
theorem dX10_answer_5 : decode cX10_answer 5 = .ok (.invokevirtual 61, 3) := by decide +kernel
theorem dX10_answer_8 : decode cX10_answer 8 = .ok (.ifCond .ne 13, 3) := by decide +kernel
theorem dX10_answer_11 : decode cX10_answer 11 = .ok (.new 65, 3) := by decide +kernel
theorem dX10_answer_14 : decode cX10_answer 14 = .ok (.dup, 1) := by decide +kernel
theorem dX10_answer_15 : decode cX10_answer 15 = .ok (.ldc 67, 2) := by decide +kernel
theorem dX10_answer_17 : decode cX10_answer 17 = .ok (.invokespecial 69, 3) := by decide +kernel
theorem dX10_answer_20 : decode cX10_answer 20 = .ok (.athrow, 1) := by decide +kernel
theorem dX10_answer_21 : decode cX10_answer 21 = .ok (.aload_n 0, 1) := by decide +kernel
theorem dX10_answer_22 : decode cX10_answer 22 = .ok (.getfield 47, 3) := by decide +kernel
theorem dX10_answer_25 : decode cX10_answer 25 = .ok (.getfield 93, 3) := by decide +kernel
theorem dX10_answer_28 : decode cX10_answer 28 = .ok (.ifCond .eq 15, 3) := by decide +kernel
theorem dX10_answer_31 : decode cX10_answer 31 = .ok (.aload_n 0, 1) := by decide +kernel
theorem dX10_answer_32 : decode cX10_answer 32 = .ok (.getfield 47, 3) := by decide +kernel
theorem dX10_answer_35 : decode cX10_answer 35 = .ok (.getfield 100, 3) := by decide +kernel
theorem dX10_answer_38 : decode cX10_answer 38 = .ok (.iload_n 1, 1) := by decide +kernel
theorem dX10_answer_39 : decode cX10_answer 39 = .ok (.iaload, 1) := by decide +kernel
theorem dX10_answer_40 : decode cX10_answer 40 = .ok (.goto 4, 3) := by decide +kernel
theorem dX10_answer_43 : decode cX10_answer 43 = .ok (.iconst (-1), 1) := by decide +kernel
theorem dX10_answer_44 : decode cX10_answer 44 = .ok (.ireturn, 1) := by decide +kernel
set_option maxRecDepth 20000 in
theorem ggX10_told_X2_upperBits : GoodIn wsX10_told wsX2_upperBits := goodIn_r _ [14, 15, 42] (by decide +kernel) (by decide +kernel)
set_option maxRecDepth 20000 in
theorem gX10_told_X2_upperBits : GoodIn wsX10_told (wsV RX10 125 RX2 yX2_upperBits wsX2_upperBits) := goodIn_app (goodIn_of _ (by decide +kernel)) ggX10_told_X2_upperBits
theorem dX10_told_0 : decode cX10_told 0 = .ok (.iload_n 1, 1) := by decide +kernel
theorem dX10_told_1 : decode cX10_told 1 = .ok (.tableswitch 134 0 6 #[43, 51, 59, 67, 75, 97, 123], 43) := by decide +kernel
theorem dX10_told_44 : decode cX10_told 44 = .ok (.aload_n 0, 1) := by decide +kernel
theorem dX10_told_45 : decode cX10_told 45 = .ok (.getfield 47, 3) := by decide +kernel
theorem dX10_told_48 : decode cX10_told 48 = .ok (.getfield 103, 3) := by decide +kernel
theorem dX10_told_51 : decode cX10_told 51 = .ok (.ireturn, 1) := by decide +kernel
theorem dX10_told_52 : decode cX10_told 52 = .ok (.aload_n 0, 1) := by decide +kernel
theorem dX10_told_53 : decode cX10_told 53 = .ok (.getfield 47, 3) := by decide +kernel
theorem dX10_told_56 : decode cX10_told 56 = .ok (.getfield 106, 3) := by decide +kernel
theorem dX10_told_59 : decode cX10_told 59 = .ok (.ireturn, 1) := by decide +kernel
theorem dX10_told_60 : decode cX10_told 60 = .ok (.aload_n 0, 1) := by decide +kernel
theorem dX10_told_61 : decode cX10_told 61 = .ok (.getfield 47, 3) := by decide +kernel
theorem dX10_told_64 : decode cX10_told 64 = .ok (.getfield 109, 3) := by decide +kernel
theorem dX10_told_67 : decode cX10_told 67 = .ok (.ireturn, 1) := by decide +kernel
theorem dX10_told_68 : decode cX10_told 68 = .ok (.aload_n 0, 1) := by decide +kernel
theorem dX10_told_69 : decode cX10_told 69 = .ok (.getfield 47, 3) := by decide +kernel
theorem dX10_told_72 : decode cX10_told 72 = .ok (.getfield 112, 3) := by decide +kernel
theorem dX10_told_75 : decode cX10_told 75 = .ok (.ireturn, 1) := by decide +kernel
theorem dX10_told_76 : decode cX10_told 76 = .ok (.aload_n 0, 1) := by decide +kernel
theorem dX10_told_77 : decode cX10_told 77 = .ok (.getfield 47, 3) := by decide +kernel
theorem dX10_told_80 : decode cX10_told 80 = .ok (.getfield 93, 3) := by decide +kernel
theorem dX10_told_83 : decode cX10_told 83 = .ok (.ifCond .eq 13, 3) := by decide +kernel
theorem dX10_told_86 : decode cX10_told 86 = .ok (.aload_n 0, 1) := by decide +kernel
theorem dX10_told_87 : decode cX10_told 87 = .ok (.getfield 47, 3) := by decide +kernel
theorem dX10_told_90 : decode cX10_told 90 = .ok (.getfield 115, 3) := by decide +kernel
theorem dX10_told_93 : decode cX10_told 93 = .ok (.goto 4, 3) := by decide +kernel
theorem dX10_told_96 : decode cX10_told 96 = .ok (.iconst 0, 1) := by decide +kernel
theorem dX10_told_97 : decode cX10_told 97 = .ok (.ireturn, 1) := by decide +kernel
theorem dX10_told_98 : decode cX10_told 98 = .ok (.aload_n 0, 1) := by decide +kernel
theorem dX10_told_99 : decode cX10_told 99 = .ok (.getfield 47, 3) := by decide +kernel
theorem dX10_told_102 : decode cX10_told 102 = .ok (.getfield 93, 3) := by decide +kernel
theorem dX10_told_105 : decode cX10_told 105 = .ok (.ifCond .eq 17, 3) := by decide +kernel
theorem dX10_told_108 : decode cX10_told 108 = .ok (.aload_n 0, 1) := by decide +kernel
theorem dX10_told_109 : decode cX10_told 109 = .ok (.getfield 47, 3) := by decide +kernel
theorem dX10_told_112 : decode cX10_told 112 = .ok (.getfield 118, 3) := by decide +kernel
theorem dX10_told_115 : decode cX10_told 115 = .ok (.ifCond .ne 7, 3) := by decide +kernel
theorem dX10_told_118 : decode cX10_told 118 = .ok (.iconst 1, 1) := by decide +kernel
theorem dX10_told_119 : decode cX10_told 119 = .ok (.goto 4, 3) := by decide +kernel
theorem dX10_told_122 : decode cX10_told 122 = .ok (.iconst 0, 1) := by decide +kernel
theorem dX10_told_123 : decode cX10_told 123 = .ok (.ireturn, 1) := by decide +kernel
theorem dX10_told_124 : decode cX10_told 124 = .ok (.aload_n 0, 1) := by decide +kernel
theorem dX10_told_125 : decode cX10_told 125 = .ok (.getfield 47, 3) := by decide +kernel
theorem dX10_told_128 : decode cX10_told 128 = .ok (.getfield 121, 3) := by decide +kernel
theorem dX10_told_131 : decode cX10_told 131 = .ok (.invokevirtual 125, 3) := by decide +kernel
theorem dX10_told_134 : decode cX10_told 134 = .ok (.ireturn, 1) := by decide +kernel
theorem dX10_told_135 : decode cX10_told 135 = .ok (.iconst (-1), 1) := by decide +kernel
theorem dX10_told_136 : decode cX10_told 136 = .ok (.ireturn, 1) := by decide +kernel
theorem dX10_left_0 : decode cX10_left 0 = .ok (.aload_n 0, 1) := by decide +kernel
theorem dX10_left_1 : decode cX10_left 1 = .ok (.getfield 47, 3) := by decide +kernel
theorem dX10_left_4 : decode cX10_left 4 = .ok (.getfield 93, 3) := by decide +kernel
theorem dX10_left_7 : decode cX10_left 7 = .ok (.ifCond .eq 13, 3) := by decide +kernel
theorem dX10_left_10 : decode cX10_left 10 = .ok (.aload_n 0, 1) := by decide +kernel
theorem dX10_left_11 : decode cX10_left 11 = .ok (.getfield 47, 3) := by decide +kernel
theorem dX10_left_14 : decode cX10_left 14 = .ok (.getfield 118, 3) := by decide +kernel
theorem dX10_left_17 : decode cX10_left 17 = .ok (.goto 4, 3) := by decide +kernel
theorem dX10_left_20 : decode cX10_left 20 = .ok (.iconst (-1), 1) := by decide +kernel
theorem dX10_left_21 : decode cX10_left 21 = .ok (.ireturn, 1) := by decide +kernel
set_option maxRecDepth 20000 in
theorem ggX10_needed_X4_has : GoodIn wsX10_needed wsX4_has := goodIn_r _ [13, 14, 129, 130, 131, 132, 133, 134, 135] (by decide +kernel) (by decide +kernel)
set_option maxRecDepth 20000 in
theorem gX10_needed_X4_has : GoodIn wsX10_needed (wsV RX10 61 RX4 yX4_has wsX4_has) := goodIn_app (goodIn_of _ (by decide +kernel)) ggX10_needed_X4_has
set_option maxRecDepth 20000 in
theorem ggX10_needed_X5_needsSet : GoodIn wsX10_needed wsX5_needsSet := goodIn_r _ [19, 20, 21, 22, 23, 24, 25, 26, 27, 28, 29, 30, 31, 32, 33, 34, 35, 36, 37, 38, 39, 40, 41, 42, 43, 44, 45, 46, 47, 48, 49, 50, 51, 52, 53, 54, 55, 56, 57, 58, 59, 60, 61, 62, 63, 64, 65, 66, 67, 68, 69, 70, 71, 72, 73, 74, 75, 76, 77, 78, 79, 80, 81, 82, 83, 84, 85, 86, 87, 88, 89, 90, 91, 92, 93, 94, 107, 108, 109, 110, 111, 112, 113, 114, 115, 116, 117, 118, 119, 120, 121, 122, 123, 124, 125, 126, 129, 130, 131, 132, 133, 134, 135, 127, 128, 136, 137, 138, 139, 140, 141, 142, 143, 144] (by decide +kernel) (by decide +kernel)
set_option maxRecDepth 20000 in
theorem gX10_needed_X5_needsSet : GoodIn wsX10_needed (wsV RX10 134 RX5 yX5_needsSet wsX5_needsSet) := goodIn_app (goodIn_of _ (by decide +kernel)) ggX10_needed_X5_needsSet
theorem dX10_needed_0 : decode cX10_needed 0 = .ok (.aload_n 0, 1) := by decide +kernel
theorem dX10_needed_1 : decode cX10_needed 1 = .ok (.getfield 12, 3) := by decide +kernel
theorem dX10_needed_4 : decode cX10_needed 4 = .ok (.iload_n 1, 1) := by decide +kernel
theorem dX10_needed_5 : decode cX10_needed 5 = .ok (.invokevirtual 61, 3) := by decide +kernel
theorem dX10_needed_8 : decode cX10_needed 8 = .ok (.ifCond .ne 13, 3) := by decide +kernel
theorem dX10_needed_11 : decode cX10_needed 11 = .ok (.new 65, 3) := by decide +kernel
theorem dX10_needed_14 : decode cX10_needed 14 = .ok (.dup, 1) := by decide +kernel
theorem dX10_needed_15 : decode cX10_needed 15 = .ok (.ldc 67, 2) := by decide +kernel
theorem dX10_needed_17 : decode cX10_needed 17 = .ok (.invokespecial 69, 3) := by decide +kernel
theorem dX10_needed_20 : decode cX10_needed 20 = .ok (.athrow, 1) := by decide +kernel
theorem dX10_needed_21 : decode cX10_needed 21 = .ok (.aload_n 0, 1) := by decide +kernel
theorem dX10_needed_22 : decode cX10_needed 22 = .ok (.getfield 47, 3) := by decide +kernel
theorem dX10_needed_25 : decode cX10_needed 25 = .ok (.getfield 93, 3) := by decide +kernel
theorem dX10_needed_28 : decode cX10_needed 28 = .ok (.ifCond .eq 26, 3) := by decide +kernel
theorem dX10_needed_31 : decode cX10_needed 31 = .ok (.aload_n 0, 1) := by decide +kernel
theorem dX10_needed_32 : decode cX10_needed 32 = .ok (.getfield 47, 3) := by decide +kernel
theorem dX10_needed_35 : decode cX10_needed 35 = .ok (.aload_n 0, 1) := by decide +kernel
theorem dX10_needed_36 : decode cX10_needed 36 = .ok (.getfield 23, 3) := by decide +kernel
theorem dX10_needed_39 : decode cX10_needed 39 = .ok (.getfield 131, 3) := by decide +kernel
theorem dX10_needed_42 : decode cX10_needed 42 = .ok (.iload_n 1, 1) := by decide +kernel
theorem dX10_needed_43 : decode cX10_needed 43 = .ok (.iaload, 1) := by decide +kernel
theorem dX10_needed_44 : decode cX10_needed 44 = .ok (.invokevirtual 134, 3) := by decide +kernel
theorem dX10_needed_47 : decode cX10_needed 47 = .ok (.ifCond .eq 7, 3) := by decide +kernel
theorem dX10_needed_50 : decode cX10_needed 50 = .ok (.iconst 1, 1) := by decide +kernel
theorem dX10_needed_51 : decode cX10_needed 51 = .ok (.goto 4, 3) := by decide +kernel
theorem dX10_needed_54 : decode cX10_needed 54 = .ok (.iconst 0, 1) := by decide +kernel
theorem dX10_needed_55 : decode cX10_needed 55 = .ok (.ireturn, 1) := by decide +kernel
set_option maxRecDepth 20000 in
theorem ggX10_answers_X9_read : GoodIn wsX10_answers wsX9_read := goodIn_r _ [9, 10, 11, 12, 13, 14, 15, 16, 17, 18, 19, 20, 21, 22, 23, 24, 25, 26, 27, 28, 29, 8, 30, 31, 32, 33, 34, 35, 36, 37, 38, 39, 40, 41, 42, 43, 44, 45, 46, 47, 117, 118, 119, 120, 121, 122, 123, 124, 125, 126, 127, 128, 129, 130, 131, 132, 133] (by decide +kernel) (by decide +kernel)
set_option maxRecDepth 20000 in
theorem gX10_answers_X9_read : GoodIn wsX10_answers (wsV RX10 137 RX9 yX9_read wsX9_read) := goodIn_app (goodIn_of _ (by decide +kernel)) ggX10_answers_X9_read
set_option maxRecDepth 20000 in
theorem ggX10_answers_X8_count : GoodIn wsX10_answers wsX8_count := goodIn_r _ [52, 53, 54, 55, 56, 57, 58, 59, 18, 60, 20, 21, 61, 16, 17, 19, 22, 23, 24, 25, 26, 62, 41, 42, 43, 44, 45, 46, 47, 37, 38, 39, 63, 64, 65, 66, 67, 68, 69, 51, 70, 71, 72, 73, 74, 75, 76, 77, 78, 33, 34, 35, 36, 79, 80, 81, 82, 83, 84, 85, 86, 87, 88, 89, 90, 134, 135, 136, 137, 129, 130, 131, 132, 133, 122, 123, 124, 125, 126, 127, 128] (by decide +kernel) (by decide +kernel)
set_option maxRecDepth 20000 in
theorem gX10_answers_X8_count : GoodIn wsX10_answers (wsV RX10 147 RX8 yX8_count wsX8_count) := goodIn_app (goodIn_of _ (by decide +kernel)) ggX10_answers_X8_count
theorem dX10_answers_0 : decode cX10_answers 0 = .ok (.aload_n 0, 1) := by decide +kernel
theorem dX10_answers_1 : decode cX10_answers 1 = .ok (.getfield 54, 3) := by decide +kernel
theorem dX10_answers_4 : decode cX10_answers 4 = .ok (.invokevirtual 137, 3) := by decide +kernel
theorem dX10_answers_7 : decode cX10_answers 7 = .ok (.istore_n 1, 1) := by decide +kernel
theorem dX10_answers_8 : decode cX10_answers 8 = .ok (.iload_n 1, 1) := by decide +kernel
theorem dX10_answers_9 : decode cX10_answers 9 = .ok (.ifCond .lt 7, 3) := by decide +kernel
theorem dX10_answers_12 : decode cX10_answers 12 = .ok (.iconst (-1), 1) := by decide +kernel
theorem dX10_answers_13 : decode cX10_answers 13 = .ok (.iload_n 1, 1) := by decide +kernel
theorem dX10_answers_14 : decode cX10_answers 14 = .ok (.isub, 1) := by decide +kernel
theorem dX10_answers_15 : decode cX10_answers 15 = .ok (.ireturn, 1) := by decide +kernel
theorem dX10_answers_16 : decode cX10_answers 16 = .ok (.aload_n 0, 1) := by decide +kernel
theorem dX10_answers_17 : decode cX10_answers 17 = .ok (.getfield 47, 3) := by decide +kernel
theorem dX10_answers_20 : decode cX10_answers 20 = .ok (.getfield 140, 3) := by decide +kernel
theorem dX10_answers_23 : decode cX10_answers 23 = .ok (.aload_n 0, 1) := by decide +kernel
theorem dX10_answers_24 : decode cX10_answers 24 = .ok (.getfield 54, 3) := by decide +kernel
theorem dX10_answers_27 : decode cX10_answers 27 = .ok (.getfield 144, 3) := by decide +kernel
theorem dX10_answers_30 : decode cX10_answers 30 = .ok (.bipush 100, 2) := by decide +kernel
theorem dX10_answers_32 : decode cX10_answers 32 = .ok (.invokevirtual 147, 3) := by decide +kernel
theorem dX10_answers_35 : decode cX10_answers 35 = .ok (.ireturn, 1) := by decide +kernel
set_option maxRecDepth 20000 in
theorem ggX10_unit_X9_add : GoodIn wsX10_unit wsX9_add := goodIn_r _ [6, 7, 8, 15, 16, 17, 18, 19] (by decide +kernel) (by decide +kernel)
set_option maxRecDepth 20000 in
theorem gX10_unit_X9_add : GoodIn wsX10_unit (wsV RX10 153 RX9 yX9_add wsX9_add) := goodIn_app (goodIn_of _ (by decide +kernel)) ggX10_unit_X9_add
theorem dX10_unit_0 : decode cX10_unit 0 = .ok (.aload_n 0, 1) := by decide +kernel
theorem dX10_unit_1 : decode cX10_unit 1 = .ok (.getfield 54, 3) := by decide +kernel
theorem dX10_unit_4 : decode cX10_unit 4 = .ok (.iload_n 1, 1) := by decide +kernel
theorem dX10_unit_5 : decode cX10_unit 5 = .ok (.invokevirtual 153, 3) := by decide +kernel
theorem dX10_unit_8 : decode cX10_unit 8 = .ok (.ireturn, 1) := by decide +kernel
set_option maxRecDepth 20000 in
theorem ggX10_text_X4_has : GoodIn wsX10_text wsX4_has := goodIn_r _ [9, 10, 41, 42, 43, 44, 45, 46, 47] (by decide +kernel) (by decide +kernel)
set_option maxRecDepth 20000 in
theorem gX10_text_X4_has : GoodIn wsX10_text (wsV RX10 61 RX4 yX4_has wsX4_has) := goodIn_app (goodIn_of _ (by decide +kernel)) ggX10_text_X4_has
set_option maxRecDepth 20000 in
theorem ggX10_text_X9_byteOf : GoodIn wsX10_text wsX9_byteOf := goodIn_r _ [14] (by decide +kernel) (by decide +kernel)
set_option maxRecDepth 20000 in
theorem gX10_text_X9_byteOf : GoodIn wsX10_text (va_wsS RX10 156 yX9_byteOf wsX9_byteOf) := goodIn_app (goodIn_of _ (by decide +kernel)) ggX10_text_X9_byteOf
theorem dX10_text_0 : decode cX10_text 0 = .ok (.aload_n 0, 1) := by decide +kernel
theorem dX10_text_1 : decode cX10_text 1 = .ok (.getfield 47, 3) := by decide +kernel
theorem dX10_text_4 : decode cX10_text 4 = .ok (.getfield 93, 3) := by decide +kernel
theorem dX10_text_7 : decode cX10_text 7 = .ok (.ifCond .eq 14, 3) := by decide +kernel
theorem dX10_text_10 : decode cX10_text 10 = .ok (.aload_n 0, 1) := by decide +kernel
theorem dX10_text_11 : decode cX10_text 11 = .ok (.getfield 12, 3) := by decide +kernel
theorem dX10_text_14 : decode cX10_text 14 = .ok (.iload_n 1, 1) := by decide +kernel
theorem dX10_text_15 : decode cX10_text 15 = .ok (.invokevirtual 61, 3) := by decide +kernel
theorem dX10_text_18 : decode cX10_text 18 = .ok (.ifCond .ne 5, 3) := by decide +kernel
theorem dX10_text_21 : decode cX10_text 21 = .ok (.iconst (-1), 1) := by decide +kernel
theorem dX10_text_22 : decode cX10_text 22 = .ok (.ireturn, 1) := by decide +kernel
theorem dX10_text_23 : decode cX10_text 23 = .ok (.aload_n 0, 1) := by decide +kernel
theorem dX10_text_24 : decode cX10_text 24 = .ok (.getfield 47, 3) := by decide +kernel
theorem dX10_text_27 : decode cX10_text 27 = .ok (.getfield 97, 3) := by decide +kernel
theorem dX10_text_30 : decode cX10_text 30 = .ok (.iload_n 1, 1) := by decide +kernel
theorem dX10_text_31 : decode cX10_text 31 = .ok (.iaload, 1) := by decide +kernel
theorem dX10_text_32 : decode cX10_text 32 = .ok (.invokestatic 156, 3) := by decide +kernel
theorem dX10_text_35 : decode cX10_text 35 = .ok (.ireturn, 1) := by decide +kernel
theorem dL_cell_0 : decode cL_cell 0 = .ok (.iload_n 1, 1) := by decide +kernel
theorem dL_cell_1 : decode cL_cell 1 = .ok (.aload_n 0, 1) := by decide +kernel
theorem dL_cell_2 : decode cL_cell 2 = .ok (.arraylength, 1) := by decide +kernel
theorem dL_cell_3 : decode cL_cell 3 = .ok (.if_icmp .ge 9, 3) := by decide +kernel
theorem dL_cell_6 : decode cL_cell 6 = .ok (.aload_n 0, 1) := by decide +kernel
theorem dL_cell_7 : decode cL_cell 7 = .ok (.iload_n 1, 1) := by decide +kernel
theorem dL_cell_8 : decode cL_cell 8 = .ok (.iaload, 1) := by decide +kernel
theorem dL_cell_9 : decode cL_cell 9 = .ok (.goto 4, 3) := by decide +kernel
theorem dL_cell_12 : decode cL_cell 12 = .ok (.iconst 0, 1) := by decide +kernel
theorem dL_cell_13 : decode cL_cell 13 = .ok (.ireturn, 1) := by decide +kernel
set_option maxRecDepth 20000 in
theorem ggL_theme_X10_theme : GoodIn wsL_theme wsX10_theme := goodIn_ca (goodIn_r _ [7, 8, 9, 10, 11, 12, 13, 14, 15, 16, 17, 18, 19, 20, 21, 22, 23, 24, 25, 26, 27, 28, 29, 30, 31, 32, 33, 34, 35, 36, 37, 38, 39] (by decide +kernel) (by decide +kernel)) (goodIn_sub (fun _ h => List.mem_cons_of_mem _ (List.mem_append_right _ h)) (by decide +kernel))
set_option maxRecDepth 20000 in
theorem gL_theme_X10_theme : GoodIn wsL_theme (wsV RL 7 RX10 yX10_theme wsX10_theme) := goodIn_app (goodIn_of _ (by decide +kernel)) ggL_theme_X10_theme
theorem dL_theme_0 : decode cL_theme 0 = .ok (.aload_n 0, 1) := by decide +kernel
theorem dL_theme_1 : decode cL_theme 1 = .ok (.iload_n 1, 1) := by decide +kernel
theorem dL_theme_2 : decode cL_theme 2 = .ok (.iload_n 2, 1) := by decide +kernel
theorem dL_theme_3 : decode cL_theme 3 = .ok (.invokevirtual 7, 3) := by decide +kernel
theorem dL_theme_6 : decode cL_theme 6 = .ok (.goto 9, 3) := by decide +kernel
theorem dL_theme_9 : decode cL_theme 9 = .ok (.astore_n 3, 1) := by decide +kernel
theorem dL_theme_10 : decode cL_theme 10 = .ok (.iconst 1, 1) := by decide +kernel
theorem dL_theme_11 : decode cL_theme 11 = .ok (.ireturn, 1) := by decide +kernel
theorem dL_theme_12 : decode cL_theme 12 = .ok (.astore_n 3, 1) := by decide +kernel
theorem dL_theme_13 : decode cL_theme 13 = .ok (.iconst 2, 1) := by decide +kernel
theorem dL_theme_14 : decode cL_theme 14 = .ok (.ireturn, 1) := by decide +kernel
theorem dL_theme_15 : decode cL_theme 15 = .ok (.iconst 0, 1) := by decide +kernel
theorem dL_theme_16 : decode cL_theme 16 = .ok (.ireturn, 1) := by decide +kernel
set_option maxRecDepth 20000 in
theorem ggL_aim_X10_aim : GoodIn wsL_aim wsX10_aim := goodIn_ca (goodIn_r _ [6, 7, 8, 9, 10, 11, 12, 13, 14, 15, 16, 17, 18, 19, 20, 21, 22, 23, 24, 25, 26] (by decide +kernel) (by decide +kernel)) (goodIn_sub (fun _ h => List.mem_cons_of_mem _ (List.mem_append_right _ h)) (by decide +kernel))
set_option maxRecDepth 20000 in
theorem gL_aim_X10_aim : GoodIn wsL_aim (wsV RL 17 RX10 yX10_aim wsX10_aim) := goodIn_app (goodIn_of _ (by decide +kernel)) ggL_aim_X10_aim
theorem dL_aim_0 : decode cL_aim 0 = .ok (.aload_n 0, 1) := by decide +kernel
theorem dL_aim_1 : decode cL_aim 1 = .ok (.iload_n 1, 1) := by decide +kernel
theorem dL_aim_2 : decode cL_aim 2 = .ok (.iload_n 2, 1) := by decide +kernel
theorem dL_aim_3 : decode cL_aim 3 = .ok (.iload_n 3, 1) := by decide +kernel
theorem dL_aim_4 : decode cL_aim 4 = .ok (.invokevirtual 17, 3) := by decide +kernel
theorem dL_aim_7 : decode cL_aim 7 = .ok (.goto 7, 3) := by decide +kernel
theorem dL_aim_10 : decode cL_aim 10 = .ok (.astore 4, 2) := by decide +kernel
theorem dL_aim_12 : decode cL_aim 12 = .ok (.iconst 1, 1) := by decide +kernel
theorem dL_aim_13 : decode cL_aim 13 = .ok (.ireturn, 1) := by decide +kernel
theorem dL_aim_14 : decode cL_aim 14 = .ok (.iconst 0, 1) := by decide +kernel
theorem dL_aim_15 : decode cL_aim 15 = .ok (.ireturn, 1) := by decide +kernel
set_option maxRecDepth 20000 in
theorem ggL_given_X10_given : GoodIn wsL_given wsX10_given := goodIn_r _ [5, 6, 7, 8, 9, 10, 11, 12, 13, 14, 15, 16, 17, 18, 19, 20, 21, 22, 23, 24, 25, 26, 27, 28, 29, 30, 31, 32, 33, 34, 35, 36, 37, 38, 39, 40, 41, 42, 43, 44, 45, 46, 47, 48, 49, 50, 51, 52, 53, 54, 55, 56, 57] (by decide +kernel) (by decide +kernel)
set_option maxRecDepth 20000 in
theorem gL_given_X10_given : GoodIn wsL_given (wsV RL 21 RX10 yX10_given wsX10_given) := goodIn_app (goodIn_of _ (by decide +kernel)) ggL_given_X10_given
theorem dL_given_0 : decode cL_given 0 = .ok (.aload_n 2, 1) := by decide +kernel
theorem dL_given_1 : decode cL_given 1 = .ok (.iconst 0, 1) := by decide +kernel
theorem dL_given_2 : decode cL_given 2 = .ok (.aload_n 0, 1) := by decide +kernel
theorem dL_given_3 : decode cL_given 3 = .ok (.iload_n 1, 1) := by decide +kernel
theorem dL_given_4 : decode cL_given 4 = .ok (.invokevirtual 21, 3) := by decide +kernel
theorem dL_given_7 : decode cL_given 7 = .ok (.i2l, 1) := by decide +kernel
theorem dL_given_8 : decode cL_given 8 = .ok (.lastore, 1) := by decide +kernel
theorem dL_given_9 : decode cL_given 9 = .ok (.goto 6, 3) := by decide +kernel
theorem dL_given_12 : decode cL_given 12 = .ok (.astore_n 3, 1) := by decide +kernel
theorem dL_given_13 : decode cL_given 13 = .ok (.iconst 1, 1) := by decide +kernel
theorem dL_given_14 : decode cL_given 14 = .ok (.ireturn, 1) := by decide +kernel
theorem dL_given_15 : decode cL_given 15 = .ok (.iconst 0, 1) := by decide +kernel
theorem dL_given_16 : decode cL_given 16 = .ok (.ireturn, 1) := by decide +kernel
set_option maxRecDepth 20000 in
theorem ggL_answer_X10_answer : GoodIn wsL_answer wsX10_answer := goodIn_r _ [5, 6, 7, 8, 9, 10, 11, 12, 13, 14, 15, 16, 17, 18, 19, 20, 21, 22, 23, 24, 25, 26, 27, 28, 29, 30, 31, 32, 33, 34, 35, 36, 37, 38, 39, 40, 41, 42, 43, 44, 45, 46, 47, 48, 49, 50, 51, 52, 53, 54, 55, 56, 57] (by decide +kernel) (by decide +kernel)
set_option maxRecDepth 20000 in
theorem gL_answer_X10_answer : GoodIn wsL_answer (wsV RL 25 RX10 yX10_answer wsX10_answer) := goodIn_app (goodIn_of _ (by decide +kernel)) ggL_answer_X10_answer
theorem dL_answer_0 : decode cL_answer 0 = .ok (.aload_n 2, 1) := by decide +kernel
theorem dL_answer_1 : decode cL_answer 1 = .ok (.iconst 0, 1) := by decide +kernel
theorem dL_answer_2 : decode cL_answer 2 = .ok (.aload_n 0, 1) := by decide +kernel
theorem dL_answer_3 : decode cL_answer 3 = .ok (.iload_n 1, 1) := by decide +kernel
theorem dL_answer_4 : decode cL_answer 4 = .ok (.invokevirtual 25, 3) := by decide +kernel
theorem dL_answer_7 : decode cL_answer 7 = .ok (.i2l, 1) := by decide +kernel
theorem dL_answer_8 : decode cL_answer 8 = .ok (.lastore, 1) := by decide +kernel
theorem dL_answer_9 : decode cL_answer 9 = .ok (.goto 6, 3) := by decide +kernel
theorem dL_answer_12 : decode cL_answer 12 = .ok (.astore_n 3, 1) := by decide +kernel
theorem dL_answer_13 : decode cL_answer 13 = .ok (.iconst 1, 1) := by decide +kernel
theorem dL_answer_14 : decode cL_answer 14 = .ok (.ireturn, 1) := by decide +kernel
theorem dL_answer_15 : decode cL_answer 15 = .ok (.iconst 0, 1) := by decide +kernel
theorem dL_answer_16 : decode cL_answer 16 = .ok (.ireturn, 1) := by decide +kernel
set_option maxRecDepth 20000 in
theorem ggL_needed_X10_needed : GoodIn wsL_needed wsX10_needed := goodIn_r _ [5, 6, 7, 8, 9, 10, 11, 12, 13, 14, 15, 16, 17, 18, 19, 20, 21, 22, 23, 24, 25, 26, 27, 28, 29, 30, 31, 32, 33, 34, 35, 36, 37, 38, 39, 40, 41, 42, 43, 44, 45, 46, 47, 48, 49, 50, 51, 52, 53, 54, 55, 56, 57, 58, 59, 60, 61, 62, 63, 64, 65, 66, 67, 68, 69, 70, 71, 72, 73, 74, 75, 76, 77, 78, 79, 80, 81, 82, 83, 84, 85, 86, 87, 88, 89, 90, 91, 92, 93, 94, 95, 96, 97, 98, 99, 100, 101, 102, 103, 104, 105, 106, 107, 108, 109, 110, 111, 112, 113, 114, 115, 116, 117, 118, 119, 120, 121, 122, 123, 124, 125, 126, 127, 128, 129, 130, 131, 132, 133, 134, 135, 136, 137, 138, 139, 140, 141, 142, 143, 144, 145, 146, 147, 148, 149] (by decide +kernel) (by decide +kernel)
set_option maxRecDepth 20000 in
theorem gL_needed_X10_needed : GoodIn wsL_needed (wsV RL 28 RX10 yX10_needed wsX10_needed) := goodIn_app (goodIn_of _ (by decide +kernel)) ggL_needed_X10_needed
theorem dL_needed_0 : decode cL_needed 0 = .ok (.aload_n 2, 1) := by decide +kernel
theorem dL_needed_1 : decode cL_needed 1 = .ok (.iconst 0, 1) := by decide +kernel
theorem dL_needed_2 : decode cL_needed 2 = .ok (.aload_n 0, 1) := by decide +kernel
theorem dL_needed_3 : decode cL_needed 3 = .ok (.iload_n 1, 1) := by decide +kernel
theorem dL_needed_4 : decode cL_needed 4 = .ok (.invokevirtual 28, 3) := by decide +kernel
theorem dL_needed_7 : decode cL_needed 7 = .ok (.ifCond .eq 7, 3) := by decide +kernel
theorem dL_needed_10 : decode cL_needed 10 = .ok (.lconst 1, 1) := by decide +kernel
theorem dL_needed_11 : decode cL_needed 11 = .ok (.goto 4, 3) := by decide +kernel
theorem dL_needed_14 : decode cL_needed 14 = .ok (.lconst 0, 1) := by decide +kernel
theorem dL_needed_15 : decode cL_needed 15 = .ok (.lastore, 1) := by decide +kernel
theorem dL_needed_16 : decode cL_needed 16 = .ok (.goto 6, 3) := by decide +kernel
theorem dL_needed_19 : decode cL_needed 19 = .ok (.astore_n 3, 1) := by decide +kernel
theorem dL_needed_20 : decode cL_needed 20 = .ok (.iconst 1, 1) := by decide +kernel
theorem dL_needed_21 : decode cL_needed 21 = .ok (.ireturn, 1) := by decide +kernel
theorem dL_needed_22 : decode cL_needed 22 = .ok (.iconst 0, 1) := by decide +kernel
theorem dL_needed_23 : decode cL_needed 23 = .ok (.ireturn, 1) := by decide +kernel
set_option maxRecDepth 20000 in
theorem ggL_law_L_cell : GoodIn wsL_law wsL_cell := goodIn_r _ [11] (by decide +kernel) (by decide +kernel)
set_option maxRecDepth 20000 in
theorem gL_law_L_cell : GoodIn wsL_law (va_wsS RL 32 yL_cell wsL_cell) := goodIn_app (goodIn_of _ (by decide +kernel)) ggL_law_L_cell
set_option maxRecDepth 20000 in
theorem ggL_law_X10_init : GoodIn wsL_law wsX10_init := goodIn_r _ [14, 15, 16, 17, 18, 19, 20, 21, 22, 23, 24, 25, 26, 27, 28, 29, 30, 31, 32, 33, 34, 35, 36, 37, 38, 39, 40, 41, 42, 43, 44, 45, 46, 47, 48, 49, 50, 51, 52, 53, 54, 55, 56, 57, 58, 59, 60, 61, 62, 63, 64, 65, 66, 67, 68, 69, 70, 71, 72, 73, 74, 75, 76, 77, 78, 79, 80, 81, 82, 83, 84, 85, 86, 87, 88, 89, 90, 91, 92, 93, 94, 95, 96, 97, 98, 99, 100, 101, 102, 103, 104, 105, 106, 107, 108, 109, 110, 111, 112, 113, 114, 115, 116, 117, 118, 119, 120, 121, 122, 123, 124, 125, 126, 127, 128, 129, 130, 131, 132, 133, 134, 135, 136, 137, 138, 139, 140, 141, 142, 143, 144, 145, 146, 147, 148, 149, 150, 151, 152, 153, 154, 155, 156, 157, 158, 159, 160, 161, 162, 163, 164, 662, 663, 664, 665, 666, 667, 668, 634, 635, 636, 637, 638, 639, 669, 670, 671, 672, 673, 674, 675, 676, 677, 678, 679, 680, 681, 682, 683, 684, 685, 686, 687, 688, 689, 690, 691, 692, 693, 694, 695, 696, 697, 698, 699, 700, 701, 702, 703, 704, 705, 706, 707, 708, 709, 710, 711, 712, 713] (by decide +kernel) (by decide +kernel)
set_option maxRecDepth 20000 in
theorem gL_law_X10_init : GoodIn wsL_law (wsX10_init) := ggL_law_X10_init
set_option maxRecDepth 20000 in
theorem ggL_law_X11_init : GoodIn wsL_law wsX11_init := goodIn_r _ [167, 168, 16, 17, 27, 169, 170, 171, 172, 173, 174, 175, 176, 177, 178, 179, 180, 181, 182, 183, 640, 641, 642, 643, 644, 645, 646, 647, 648, 649, 650, 651, 652, 653, 654, 655, 656, 657, 658, 659, 660, 661] (by decide +kernel) (by decide +kernel)
set_option maxRecDepth 20000 in
theorem gL_law_X11_init : GoodIn wsL_law (wsX11_init) := ggL_law_X11_init
set_option maxRecDepth 20000 in
theorem ggL_law_X10_symmetry : GoodIn wsL_law wsX10_symmetry := goodIn_r _ [187, 25, 188, 189, 190, 24, 191, 57, 58, 192, 193, 194, 195, 59, 196, 197, 198, 199, 200, 201, 202, 634, 635, 636, 637, 638, 639, 669, 670, 662, 663, 664, 665, 666, 667, 668] (by decide +kernel) (by decide +kernel)
set_option maxRecDepth 20000 in
theorem gL_law_X10_symmetry : GoodIn wsL_law (wsV RL 44 RX10 yX10_symmetry wsX10_symmetry) := goodIn_app (goodIn_of _ (by decide +kernel)) ggL_law_X10_symmetry
set_option maxRecDepth 20000 in
theorem ggL_law_X11_symmetry : GoodIn wsL_law wsX11_symmetry := goodIn_r _ [206, 207, 208, 640, 641, 642, 643, 644, 645, 646, 647, 648, 649, 650, 651, 652, 653, 654, 655, 656, 657, 658, 659, 660, 661] (by decide +kernel) (by decide +kernel)
set_option maxRecDepth 20000 in
theorem gL_law_X11_symmetry : GoodIn wsL_law (wsV RL 47 RX11 yX11_symmetry wsX11_symmetry) := goodIn_app (goodIn_of _ (by decide +kernel)) ggL_law_X11_symmetry
set_option maxRecDepth 20000 in
theorem ggL_law_L_theme : GoodIn wsL_law wsL_theme := goodIn_ca (goodIn_r _ [211, 212, 213, 214, 215, 216, 2, 217, 218, 219, 21, 220, 221, 222, 28, 223, 224, 225, 20, 226, 46, 634, 635, 636, 637, 638, 639, 714, 715, 716, 717, 718, 719, 662, 663, 664, 665, 666, 667, 668] (by decide +kernel) (by decide +kernel)) (goodIn_sub (fun _ h => List.mem_append_right _ h) (by decide +kernel))
set_option maxRecDepth 20000 in
theorem gL_law_L_theme : GoodIn wsL_law (va_wsS RL 48 yL_theme wsL_theme) := goodIn_app (goodIn_of _ (by decide +kernel)) ggL_law_L_theme
set_option maxRecDepth 20000 in
theorem ggL_law_X11_theme : GoodIn wsL_law wsX11_theme := goodIn_r _ [230, 169, 231, 232, 233, 5, 234, 235, 236, 237, 238, 181, 239, 240, 241, 242, 207, 640, 641, 642, 643, 644, 645, 646, 647, 648, 649, 650, 651, 652, 653, 654, 655, 656, 657, 658, 659, 660, 661] (by decide +kernel) (by decide +kernel)
set_option maxRecDepth 20000 in
theorem gL_law_X11_theme : GoodIn wsL_law (wsV RL 51 RX11 yX11_theme wsX11_theme) := goodIn_app (goodIn_of _ (by decide +kernel)) ggL_law_X11_theme
set_option maxRecDepth 20000 in
theorem ggL_law_X11_thrown : GoodIn wsL_law wsX11_thrown := goodIn_r _ [246, 207, 640, 641, 642, 643, 644, 645, 646, 647, 648, 649, 650, 651, 652, 653, 654, 655, 656, 657, 658, 659, 660, 661] (by decide +kernel) (by decide +kernel)
set_option maxRecDepth 20000 in
theorem gL_law_X11_thrown : GoodIn wsL_law (wsV RL 52 RX11 yX11_thrown wsX11_thrown) := goodIn_app (goodIn_of _ (by decide +kernel)) ggL_law_X11_thrown
set_option maxRecDepth 20000 in
theorem ggL_law_L_aim : GoodIn wsL_law wsL_aim := goodIn_ca (goodIn_r _ [249, 213, 250, 251, 252, 2, 253, 218, 219, 32, 254, 255, 256, 31, 257, 63, 64, 66, 634, 635, 636, 637, 638, 639, 671, 672, 673] (by decide +kernel) (by decide +kernel)) (goodIn_sub (fun _ h => List.mem_append_right _ h) (by decide +kernel))
set_option maxRecDepth 20000 in
theorem gL_law_L_aim : GoodIn wsL_law (va_wsS RL 56 yL_aim wsL_aim) := goodIn_app (goodIn_of _ (by decide +kernel)) ggL_law_L_aim
set_option maxRecDepth 20000 in
theorem ggL_law_X11_aim : GoodIn wsL_law wsX11_aim := goodIn_r _ [261, 262, 263, 171, 239, 240, 241, 5, 242, 207, 640, 641, 642, 643, 644, 645, 646, 647, 648, 649, 650, 651, 652, 653, 654, 655, 656, 657, 658, 659, 660, 661] (by decide +kernel) (by decide +kernel)
set_option maxRecDepth 20000 in
theorem gL_law_X11_aim : GoodIn wsL_law (wsV RL 59 RX11 yX11_aim wsX11_aim) := goodIn_app (goodIn_of _ (by decide +kernel)) ggL_law_X11_aim
set_option maxRecDepth 20000 in
theorem ggL_law_X10_make : GoodIn wsL_law wsX10_make := goodIn_r _ [267, 36, 268, 269, 270, 35, 271, 71, 72, 73, 74, 75, 85, 272, 273, 274, 84, 275, 108, 276, 277, 278, 279, 103, 104, 100, 280, 281, 282, 283, 76, 93, 77, 81, 284, 285, 286, 287, 89, 288, 289, 99, 290, 291, 292, 88, 293, 118, 113, 294, 114, 295, 131, 132, 117, 133, 123, 124, 125, 126, 127, 128, 129, 296, 297, 298, 299, 300, 301, 302, 303, 304, 305, 306, 307, 308, 309, 310, 311, 312, 313, 314, 315, 316, 317, 318, 319, 320, 321, 322, 323, 324, 325, 326, 327, 328, 329, 330, 331, 332, 333, 334, 335, 336, 337, 338, 339, 340, 341, 342, 343, 344, 345, 346, 347, 348, 78, 98, 102, 79, 349, 80, 97, 350, 351, 352, 353, 354, 355, 356, 96, 357, 149, 151, 146, 147, 358, 359, 360, 361, 130, 362, 363, 364, 365, 366, 367, 368, 369, 370, 371, 372, 373, 374, 375, 376, 377, 378, 379, 380, 381, 382, 383, 384, 385, 386, 387, 388, 389, 390, 391, 392, 393, 394, 395, 396, 397, 398, 399, 400, 401, 92, 402, 140, 138, 403, 404, 405, 406, 407, 408, 409, 410, 411, 412, 413, 414, 415, 416, 417, 418, 419, 420, 421, 422, 423, 424, 425, 426, 427, 428, 429, 31, 430, 64, 66, 63, 634, 635, 636, 637, 638, 639, 674, 675, 676, 677, 678, 679, 680, 681, 682, 683, 684, 685, 686, 687, 688, 689, 690, 691, 692, 693, 699, 700, 701, 702, 709, 710, 711, 712, 713, 662, 663, 664, 665, 666, 667, 668, 669, 670, 705, 706, 707, 708, 703, 704, 671, 672, 673] (by decide +kernel) (by decide +kernel)
set_option maxRecDepth 20000 in
theorem gL_law_X10_make : GoodIn wsL_law (wsV RL 62 RX10 yX10_make wsX10_make) := goodIn_app (goodIn_of _ (by decide +kernel)) ggL_law_X10_make
set_option maxRecDepth 20000 in
theorem ggL_law_X11_make : GoodIn wsL_law wsX11_make := goodIn_r _ [434, 207, 435, 172, 436, 173, 175, 174, 176, 437, 438, 439, 5, 440, 441, 179, 263, 171, 262, 442, 443, 444, 445, 181, 446, 447, 448, 449, 235, 236, 237, 238, 450, 451, 452, 453, 454, 455, 456, 457, 458, 459, 460, 461, 183, 182, 462, 463, 464, 465, 466, 467, 468, 469, 470, 471, 472, 473, 474, 475, 208, 476, 477, 478, 479, 169, 480, 481, 482, 483, 484, 485, 486, 487, 177, 488, 489, 490, 491, 492, 493, 494, 495, 496, 497, 498, 499, 500, 501, 502, 503, 178, 504, 505, 506, 507, 508, 509, 510, 511, 512, 513, 514, 515, 640, 641, 642, 643, 644, 645, 646, 647, 648, 649, 650, 651, 652, 653, 654, 655, 656, 657, 658, 659, 660, 661] (by decide +kernel) (by decide +kernel)
set_option maxRecDepth 20000 in
theorem gL_law_X11_make : GoodIn wsL_law (wsV RL 66 RX11 yX11_make wsX11_make) := goodIn_app (goodIn_of _ (by decide +kernel)) ggL_law_X11_make
set_option maxRecDepth 20000 in
theorem ggL_law_L_given : GoodIn wsL_law wsL_given := goodIn_r _ [518, 519, 520, 521, 2, 522, 21, 220, 221, 222, 36, 523, 524, 223, 224, 225, 20, 226, 46, 634, 635, 636, 637, 638, 639, 714, 715, 716, 717, 718, 719, 674, 675, 676, 677, 678, 679, 680, 681, 682, 683, 684, 685, 686, 687, 688, 689, 690, 691, 692, 693, 662, 663, 664, 665, 666, 667, 668] (by decide +kernel) (by decide +kernel)
set_option maxRecDepth 20000 in
theorem gL_law_L_given : GoodIn wsL_law (va_wsS RL 67 yL_given wsL_given) := goodIn_app (goodIn_of _ (by decide +kernel)) ggL_law_L_given
set_option maxRecDepth 20000 in
theorem ggL_law_X11_given : GoodIn wsL_law wsX11_given := goodIn_r _ [528, 436, 173, 231, 232, 233, 5, 234, 235, 236, 237, 238, 181, 239, 240, 241, 242, 207, 640, 641, 642, 643, 644, 645, 646, 647, 648, 649, 650, 651, 652, 653, 654, 655, 656, 657, 658, 659, 660, 661] (by decide +kernel) (by decide +kernel)
set_option maxRecDepth 20000 in
theorem gL_law_X11_given : GoodIn wsL_law (wsV RL 70 RX11 yX11_given wsX11_given) := goodIn_app (goodIn_of _ (by decide +kernel)) ggL_law_X11_given
set_option maxRecDepth 20000 in
theorem ggL_law_L_answer : GoodIn wsL_law wsL_answer := goodIn_r _ [531, 532, 533, 534, 2, 535, 21, 220, 221, 222, 36, 523, 536, 223, 224, 225, 20, 226, 46, 634, 635, 636, 637, 638, 639, 714, 715, 716, 717, 718, 719, 674, 675, 676, 677, 678, 679, 680, 681, 682, 683, 684, 685, 686, 687, 688, 689, 690, 691, 692, 693, 662, 663, 664, 665, 666, 667, 668] (by decide +kernel) (by decide +kernel)
set_option maxRecDepth 20000 in
theorem gL_law_L_answer : GoodIn wsL_law (va_wsS RL 71 yL_answer wsL_answer) := goodIn_app (goodIn_of _ (by decide +kernel)) ggL_law_L_answer
set_option maxRecDepth 20000 in
theorem ggL_law_X11_answer : GoodIn wsL_law wsX11_answer := goodIn_r _ [540, 436, 174, 231, 232, 233, 5, 234, 235, 236, 237, 238, 181, 239, 240, 241, 242, 207, 640, 641, 642, 643, 644, 645, 646, 647, 648, 649, 650, 651, 652, 653, 654, 655, 656, 657, 658, 659, 660, 661] (by decide +kernel) (by decide +kernel)
set_option maxRecDepth 20000 in
theorem gL_law_X11_answer : GoodIn wsL_law (wsV RL 73 RX11 yX11_answer wsX11_answer) := goodIn_app (goodIn_of _ (by decide +kernel)) ggL_law_X11_answer
set_option maxRecDepth 20000 in
theorem ggL_law_X10_told : GoodIn wsL_law wsX10_told := goodIn_r _ [544, 36, 545, 546, 547, 548, 523, 549, 550, 551, 552, 327, 328, 84, 329, 108, 634, 635, 636, 637, 638, 639, 674, 675, 676, 677, 678, 679, 680, 681, 682, 683, 684, 685, 686, 687, 688, 689, 690, 691, 692, 693, 699] (by decide +kernel) (by decide +kernel)
set_option maxRecDepth 20000 in
theorem gL_law_X10_told : GoodIn wsL_law (wsV RL 74 RX10 yX10_told wsX10_told) := goodIn_app (goodIn_of _ (by decide +kernel)) ggL_law_X10_told
set_option maxRecDepth 20000 in
theorem ggL_law_X11_told : GoodIn wsL_law wsX11_told := goodIn_r _ [556, 207, 172, 640, 641, 642, 643, 644, 645, 646, 647, 648, 649, 650, 651, 652, 653, 654, 655, 656, 657, 658, 659, 660, 661] (by decide +kernel) (by decide +kernel)
set_option maxRecDepth 20000 in
theorem gL_law_X11_told : GoodIn wsL_law (wsV RL 77 RX11 yX11_told wsX11_told) := goodIn_app (goodIn_of _ (by decide +kernel)) ggL_law_X11_told
set_option maxRecDepth 20000 in
theorem ggL_law_X10_left : GoodIn wsL_law wsX10_left := goodIn_r _ [560, 36, 523, 550, 634, 635, 636, 637, 638, 639, 674, 675, 676, 677, 678, 679, 680, 681, 682, 683, 684, 685, 686, 687, 688, 689, 690, 691, 692, 693] (by decide +kernel) (by decide +kernel)
set_option maxRecDepth 20000 in
theorem gL_law_X10_left : GoodIn wsL_law (wsV RL 78 RX10 yX10_left wsX10_left) := goodIn_app (goodIn_of _ (by decide +kernel)) ggL_law_X10_left
set_option maxRecDepth 20000 in
theorem ggL_law_X11_left : GoodIn wsL_law wsX11_left := goodIn_r _ [564, 207, 436, 565, 566, 567, 5, 568, 175, 173, 500, 501, 502, 503, 178, 181, 235, 236, 237, 238, 504, 505, 506, 507, 458, 459, 460, 461, 183, 182, 508, 509, 510, 511, 512, 513, 514, 515, 640, 641, 642, 643, 644, 645, 646, 647, 648, 649, 650, 651, 652, 653, 654, 655, 656, 657, 658, 659, 660, 661] (by decide +kernel) (by decide +kernel)
set_option maxRecDepth 20000 in
theorem gL_law_X11_left : GoodIn wsL_law (wsV RL 81 RX11 yX11_left wsX11_left) := goodIn_app (goodIn_of _ (by decide +kernel)) ggL_law_X11_left
set_option maxRecDepth 20000 in
theorem ggL_law_L_needed : GoodIn wsL_law wsL_needed := goodIn_r _ [571, 572, 573, 574, 2, 575, 21, 220, 221, 222, 36, 523, 25, 576, 223, 224, 225, 20, 226, 46, 577, 392, 393, 35, 394, 78, 98, 79, 349, 100, 104, 97, 354, 355, 356, 96, 357, 149, 151, 146, 147, 358, 359, 360, 117, 361, 123, 124, 130, 131, 132, 133, 125, 126, 127, 128, 129, 362, 338, 339, 340, 341, 342, 343, 344, 310, 311, 312, 363, 302, 303, 304, 364, 365, 366, 367, 368, 369, 370, 371, 372, 373, 374, 375, 306, 307, 308, 309, 376, 314, 315, 316, 317, 318, 319, 377, 378, 379, 380, 381, 634, 635, 636, 637, 638, 639, 714, 715, 716, 717, 718, 719, 674, 675, 676, 677, 678, 679, 680, 681, 682, 683, 684, 685, 686, 687, 688, 689, 690, 691, 692, 693, 669, 670, 662, 663, 664, 665, 666, 667, 668, 705, 706, 707, 708, 709, 710, 711, 712, 713] (by decide +kernel) (by decide +kernel)
set_option maxRecDepth 20000 in
theorem gL_law_L_needed : GoodIn wsL_law (va_wsS RL 82 yL_needed wsL_needed) := goodIn_app (goodIn_of _ (by decide +kernel)) ggL_law_L_needed
set_option maxRecDepth 20000 in
theorem ggL_law_X11_needed : GoodIn wsL_law wsX11_needed := goodIn_r _ [581, 436, 231, 232, 233, 5, 234, 235, 236, 237, 238, 181, 239, 240, 241, 242, 207, 565, 566, 567, 568, 175, 173, 496, 497, 498, 499, 468, 469, 470, 471, 472, 473, 474, 475, 208, 480, 481, 482, 483, 484, 485, 486, 487, 177, 488, 489, 490, 491, 458, 459, 460, 461, 183, 182, 640, 641, 642, 643, 644, 645, 646, 647, 648, 649, 650, 651, 652, 653, 654, 655, 656, 657, 658, 659, 660, 661] (by decide +kernel) (by decide +kernel)
set_option maxRecDepth 20000 in
theorem gL_law_X11_needed : GoodIn wsL_law (wsV RL 84 RX11 yX11_needed wsX11_needed) := goodIn_app (goodIn_of _ (by decide +kernel)) ggL_law_X11_needed
set_option maxRecDepth 20000 in
theorem ggL_law_X10_answers : GoodIn wsL_law wsX10_answers := goodIn_r _ [585, 40, 36, 586, 587, 588, 589, 590, 39, 591, 157, 160, 158, 592, 161, 593, 131, 132, 117, 133, 123, 124, 125, 126, 127, 128, 129, 594, 595, 596, 597, 598, 599, 306, 307, 308, 309, 310, 311, 312, 600, 338, 339, 340, 341, 342, 343, 344, 601, 355, 356, 96, 357, 149, 151, 146, 147, 358, 359, 360, 361, 130, 362, 363, 302, 303, 304, 364, 365, 366, 367, 368, 369, 370, 371, 372, 373, 374, 375, 376, 314, 315, 316, 317, 318, 319, 377, 378, 379, 380, 381, 634, 635, 636, 637, 638, 639, 674, 675, 676, 677, 678, 679, 680, 681, 682, 683, 684, 685, 686, 687, 688, 689, 690, 691, 692, 693, 694, 695, 696, 697, 698, 662, 663, 664, 665, 666, 667, 668, 709, 710, 711, 712, 713, 705, 706, 707, 708] (by decide +kernel) (by decide +kernel)
set_option maxRecDepth 20000 in
theorem gL_law_X10_answers : GoodIn wsL_law (wsV RL 85 RX10 yX10_answers wsX10_answers) := goodIn_app (goodIn_of _ (by decide +kernel)) ggL_law_X10_answers
set_option maxRecDepth 20000 in
theorem ggL_law_X11_answers : GoodIn wsL_law wsX11_answers := goodIn_r _ [605, 207, 606, 607, 608, 609, 5, 610, 180, 181, 175, 235, 236, 237, 238, 458, 459, 460, 461, 183, 182, 484, 485, 486, 487, 177, 488, 489, 490, 491, 640, 641, 642, 643, 644, 645, 646, 647, 648, 649, 650, 651, 652, 653, 654, 655, 656, 657, 658, 659, 660, 661] (by decide +kernel) (by decide +kernel)
set_option maxRecDepth 20000 in
theorem gL_law_X11_answers : GoodIn wsL_law (wsV RL 88 RX11 yX11_answers wsX11_answers) := goodIn_app (goodIn_of _ (by decide +kernel)) ggL_law_X11_answers
set_option maxRecDepth 20000 in
theorem ggL_law_X10_unit : GoodIn wsL_law wsX10_unit := goodIn_r _ [614, 40, 615, 616, 617, 39, 618, 157, 161, 634, 635, 636, 637, 638, 639, 694, 695, 696, 697, 698] (by decide +kernel) (by decide +kernel)
set_option maxRecDepth 20000 in
theorem gL_law_X10_unit : GoodIn wsL_law (wsV RL 89 RX10 yX10_unit wsX10_unit) := goodIn_app (goodIn_of _ (by decide +kernel)) ggL_law_X10_unit
set_option maxRecDepth 20000 in
theorem ggL_law_X11_unit : GoodIn wsL_law wsX11_unit := goodIn_r _ [622, 207, 606, 180, 640, 641, 642, 643, 644, 645, 646, 647, 648, 649, 650, 651, 652, 653, 654, 655, 656, 657, 658, 659, 660, 661] (by decide +kernel) (by decide +kernel)
set_option maxRecDepth 20000 in
theorem gL_law_X11_unit : GoodIn wsL_law (wsV RL 92 RX11 yX11_unit wsX11_unit) := goodIn_app (goodIn_of _ (by decide +kernel)) ggL_law_X11_unit
set_option maxRecDepth 20000 in
theorem ggL_law_X10_text : GoodIn wsL_law wsX10_text := goodIn_r _ [626, 36, 523, 21, 524, 223, 224, 225, 20, 226, 46, 627, 628, 39, 629, 634, 635, 636, 637, 638, 639, 674, 675, 676, 677, 678, 679, 680, 681, 682, 683, 684, 685, 686, 687, 688, 689, 690, 691, 692, 693, 662, 663, 664, 665, 666, 667, 668] (by decide +kernel) (by decide +kernel)
set_option maxRecDepth 20000 in
theorem gL_law_X10_text : GoodIn wsL_law (wsV RL 93 RX10 yX10_text wsX10_text) := goodIn_app (goodIn_of _ (by decide +kernel)) ggL_law_X10_text
set_option maxRecDepth 20000 in
theorem ggL_law_X11_text : GoodIn wsL_law wsX11_text := goodIn_r _ [633, 207, 436, 173, 235, 236, 237, 5, 238, 181, 640, 641, 642, 643, 644, 645, 646, 647, 648, 649, 650, 651, 652, 653, 654, 655, 656, 657, 658, 659, 660, 661] (by decide +kernel) (by decide +kernel)
set_option maxRecDepth 20000 in
theorem gL_law_X11_text : GoodIn wsL_law (wsV RL 96 RX11 yX11_text wsX11_text) := goodIn_app (goodIn_of _ (by decide +kernel)) ggL_law_X11_text
theorem dL_law_0 : decode cL_law 0 = .ok (.new 8, 3) := by decide +kernel
theorem dL_law_3 : decode cL_law 3 = .ok (.dup, 1) := by decide +kernel
theorem dL_law_4 : decode cL_law 4 = .ok (.aload_n 0, 1) := by decide +kernel
theorem dL_law_5 : decode cL_law 5 = .ok (.iconst 0, 1) := by decide +kernel
theorem dL_law_6 : decode cL_law 6 = .ok (.invokestatic 32, 3) := by decide +kernel
theorem dL_law_9 : decode cL_law 9 = .ok (.invokespecial 38, 3) := by decide +kernel
theorem dL_law_12 : decode cL_law 12 = .ok (.astore_n 1, 1) := by decide +kernel
theorem dL_law_13 : decode cL_law 13 = .ok (.new 41, 3) := by decide +kernel
theorem dL_law_16 : decode cL_law 16 = .ok (.dup, 1) := by decide +kernel
theorem dL_law_17 : decode cL_law 17 = .ok (.aload_n 0, 1) := by decide +kernel
theorem dL_law_18 : decode cL_law 18 = .ok (.iconst 0, 1) := by decide +kernel
theorem dL_law_19 : decode cL_law 19 = .ok (.invokestatic 32, 3) := by decide +kernel
theorem dL_law_22 : decode cL_law 22 = .ok (.invokespecial 43, 3) := by decide +kernel
theorem dL_law_25 : decode cL_law 25 = .ok (.astore_n 2, 1) := by decide +kernel
theorem dL_law_26 : decode cL_law 26 = .ok (.iconst 1, 1) := by decide +kernel
theorem dL_law_27 : decode cL_law 27 = .ok (.newarray .long, 2) := by decide +kernel
theorem dL_law_29 : decode cL_law 29 = .ok (.astore_n 3, 1) := by decide +kernel
theorem dL_law_30 : decode cL_law 30 = .ok (.iconst 1, 1) := by decide +kernel
theorem dL_law_31 : decode cL_law 31 = .ok (.istore 4, 2) := by decide +kernel
theorem dL_law_33 : decode cL_law 33 = .ok (.iload 4, 2) := by decide +kernel
theorem dL_law_35 : decode cL_law 35 = .ok (.aload_n 0, 1) := by decide +kernel
theorem dL_law_36 : decode cL_law 36 = .ok (.arraylength, 1) := by decide +kernel
theorem dL_law_37 : decode cL_law 37 = .ok (.iconst 4, 1) := by decide +kernel
theorem dL_law_38 : decode cL_law 38 = .ok (.isub, 1) := by decide +kernel
theorem dL_law_39 : decode cL_law 39 = .ok (.if_icmp .gt 557, 3) := by decide +kernel
theorem dL_law_42 : decode cL_law 42 = .ok (.aload_n 0, 1) := by decide +kernel
theorem dL_law_43 : decode cL_law 43 = .ok (.iload 4, 2) := by decide +kernel
theorem dL_law_45 : decode cL_law 45 = .ok (.iaload, 1) := by decide +kernel
theorem dL_law_46 : decode cL_law 46 = .ok (.bipush 15, 2) := by decide +kernel
theorem dL_law_48 : decode cL_law 48 = .ok (.iand, 1) := by decide +kernel
theorem dL_law_49 : decode cL_law 49 = .ok (.tableswitch 541 0 11 #[63, 88, 136, 196, 265, 321, 377, 402, 415, 478, 491, 516], 63) := by decide +kernel
theorem dL_law_112 : decode cL_law 112 = .ok (.aload_n 1, 1) := by decide +kernel
theorem dL_law_113 : decode cL_law 113 = .ok (.aload_n 0, 1) := by decide +kernel
theorem dL_law_114 : decode cL_law 114 = .ok (.iload 4, 2) := by decide +kernel
theorem dL_law_116 : decode cL_law 116 = .ok (.iconst 1, 1) := by decide +kernel
theorem dL_law_117 : decode cL_law 117 = .ok (.iadd, 1) := by decide +kernel
theorem dL_law_118 : decode cL_law 118 = .ok (.iaload, 1) := by decide +kernel
theorem dL_law_119 : decode cL_law 119 = .ok (.invokevirtual 44, 3) := by decide +kernel
theorem dL_law_122 : decode cL_law 122 = .ok (.aload_n 2, 1) := by decide +kernel
theorem dL_law_123 : decode cL_law 123 = .ok (.aload_n 0, 1) := by decide +kernel
theorem dL_law_124 : decode cL_law 124 = .ok (.iload 4, 2) := by decide +kernel
theorem dL_law_126 : decode cL_law 126 = .ok (.iconst 1, 1) := by decide +kernel
theorem dL_law_127 : decode cL_law 127 = .ok (.iadd, 1) := by decide +kernel
theorem dL_law_128 : decode cL_law 128 = .ok (.iaload, 1) := by decide +kernel
theorem dL_law_129 : decode cL_law 129 = .ok (.invokevirtual 47, 3) := by decide +kernel
theorem dL_law_132 : decode cL_law 132 = .ok (.if_icmp .eq 458, 3) := by decide +kernel
theorem dL_law_135 : decode cL_law 135 = .ok (.iconst 0, 1) := by decide +kernel
theorem dL_law_136 : decode cL_law 136 = .ok (.ireturn, 1) := by decide +kernel
theorem dL_law_137 : decode cL_law 137 = .ok (.aload_n 1, 1) := by decide +kernel
theorem dL_law_138 : decode cL_law 138 = .ok (.aload_n 0, 1) := by decide +kernel
theorem dL_law_139 : decode cL_law 139 = .ok (.iload 4, 2) := by decide +kernel
theorem dL_law_141 : decode cL_law 141 = .ok (.iconst 1, 1) := by decide +kernel
theorem dL_law_142 : decode cL_law 142 = .ok (.iadd, 1) := by decide +kernel
theorem dL_law_143 : decode cL_law 143 = .ok (.iaload, 1) := by decide +kernel
theorem dL_law_144 : decode cL_law 144 = .ok (.aload_n 0, 1) := by decide +kernel
theorem dL_law_145 : decode cL_law 145 = .ok (.iload 4, 2) := by decide +kernel
theorem dL_law_147 : decode cL_law 147 = .ok (.iconst 2, 1) := by decide +kernel
theorem dL_law_148 : decode cL_law 148 = .ok (.iadd, 1) := by decide +kernel
theorem dL_law_149 : decode cL_law 149 = .ok (.iaload, 1) := by decide +kernel
theorem dL_law_150 : decode cL_law 150 = .ok (.invokestatic 48, 3) := by decide +kernel
theorem dL_law_153 : decode cL_law 153 = .ok (.istore 5, 2) := by decide +kernel
theorem dL_law_155 : decode cL_law 155 = .ok (.aload_n 2, 1) := by decide +kernel
theorem dL_law_156 : decode cL_law 156 = .ok (.aload_n 0, 1) := by decide +kernel
theorem dL_law_157 : decode cL_law 157 = .ok (.iload 4, 2) := by decide +kernel
theorem dL_law_159 : decode cL_law 159 = .ok (.iconst 1, 1) := by decide +kernel
theorem dL_law_160 : decode cL_law 160 = .ok (.iadd, 1) := by decide +kernel
theorem dL_law_161 : decode cL_law 161 = .ok (.iaload, 1) := by decide +kernel
theorem dL_law_162 : decode cL_law 162 = .ok (.aload_n 0, 1) := by decide +kernel
theorem dL_law_163 : decode cL_law 163 = .ok (.iload 4, 2) := by decide +kernel
theorem dL_law_165 : decode cL_law 165 = .ok (.iconst 2, 1) := by decide +kernel
theorem dL_law_166 : decode cL_law 166 = .ok (.iadd, 1) := by decide +kernel
theorem dL_law_167 : decode cL_law 167 = .ok (.iaload, 1) := by decide +kernel
theorem dL_law_168 : decode cL_law 168 = .ok (.invokevirtual 51, 3) := by decide +kernel
theorem dL_law_171 : decode cL_law 171 = .ok (.aload_n 2, 1) := by decide +kernel
theorem dL_law_172 : decode cL_law 172 = .ok (.invokevirtual 52, 3) := by decide +kernel
theorem dL_law_175 : decode cL_law 175 = .ok (.iload 5, 2) := by decide +kernel
theorem dL_law_177 : decode cL_law 177 = .ok (.if_icmp .eq 5, 3) := by decide +kernel
theorem dL_law_180 : decode cL_law 180 = .ok (.iconst 0, 1) := by decide +kernel
theorem dL_law_181 : decode cL_law 181 = .ok (.ireturn, 1) := by decide +kernel
theorem dL_law_182 : decode cL_law 182 = .ok (.goto 408, 3) := by decide +kernel
theorem dL_law_185 : decode cL_law 185 = .ok (.aload_n 1, 1) := by decide +kernel
theorem dL_law_186 : decode cL_law 186 = .ok (.aload_n 0, 1) := by decide +kernel
theorem dL_law_187 : decode cL_law 187 = .ok (.iload 4, 2) := by decide +kernel
theorem dL_law_189 : decode cL_law 189 = .ok (.iconst 1, 1) := by decide +kernel
theorem dL_law_190 : decode cL_law 190 = .ok (.iadd, 1) := by decide +kernel
theorem dL_law_191 : decode cL_law 191 = .ok (.iaload, 1) := by decide +kernel
theorem dL_law_192 : decode cL_law 192 = .ok (.aload_n 0, 1) := by decide +kernel
theorem dL_law_193 : decode cL_law 193 = .ok (.iload 4, 2) := by decide +kernel
theorem dL_law_195 : decode cL_law 195 = .ok (.iconst 2, 1) := by decide +kernel
theorem dL_law_196 : decode cL_law 196 = .ok (.iadd, 1) := by decide +kernel
theorem dL_law_197 : decode cL_law 197 = .ok (.iaload, 1) := by decide +kernel
theorem dL_law_198 : decode cL_law 198 = .ok (.aload_n 0, 1) := by decide +kernel
theorem dL_law_199 : decode cL_law 199 = .ok (.iload 4, 2) := by decide +kernel
theorem dL_law_201 : decode cL_law 201 = .ok (.iconst 3, 1) := by decide +kernel
theorem dL_law_202 : decode cL_law 202 = .ok (.iadd, 1) := by decide +kernel
theorem dL_law_203 : decode cL_law 203 = .ok (.iaload, 1) := by decide +kernel
theorem dL_law_204 : decode cL_law 204 = .ok (.invokestatic 56, 3) := by decide +kernel
theorem dL_law_207 : decode cL_law 207 = .ok (.istore 5, 2) := by decide +kernel
theorem dL_law_209 : decode cL_law 209 = .ok (.aload_n 2, 1) := by decide +kernel
theorem dL_law_210 : decode cL_law 210 = .ok (.aload_n 0, 1) := by decide +kernel
theorem dL_law_211 : decode cL_law 211 = .ok (.iload 4, 2) := by decide +kernel
theorem dL_law_213 : decode cL_law 213 = .ok (.iconst 1, 1) := by decide +kernel
theorem dL_law_214 : decode cL_law 214 = .ok (.iadd, 1) := by decide +kernel
theorem dL_law_215 : decode cL_law 215 = .ok (.iaload, 1) := by decide +kernel
theorem dL_law_216 : decode cL_law 216 = .ok (.aload_n 0, 1) := by decide +kernel
theorem dL_law_217 : decode cL_law 217 = .ok (.iload 4, 2) := by decide +kernel
theorem dL_law_219 : decode cL_law 219 = .ok (.iconst 2, 1) := by decide +kernel
theorem dL_law_220 : decode cL_law 220 = .ok (.iadd, 1) := by decide +kernel
theorem dL_law_221 : decode cL_law 221 = .ok (.iaload, 1) := by decide +kernel
theorem dL_law_222 : decode cL_law 222 = .ok (.aload_n 0, 1) := by decide +kernel
theorem dL_law_223 : decode cL_law 223 = .ok (.iload 4, 2) := by decide +kernel
theorem dL_law_225 : decode cL_law 225 = .ok (.iconst 3, 1) := by decide +kernel
theorem dL_law_226 : decode cL_law 226 = .ok (.iadd, 1) := by decide +kernel
theorem dL_law_227 : decode cL_law 227 = .ok (.iaload, 1) := by decide +kernel
theorem dL_law_228 : decode cL_law 228 = .ok (.invokevirtual 59, 3) := by decide +kernel
theorem dL_law_231 : decode cL_law 231 = .ok (.aload_n 2, 1) := by decide +kernel
theorem dL_law_232 : decode cL_law 232 = .ok (.invokevirtual 52, 3) := by decide +kernel
theorem dL_law_235 : decode cL_law 235 = .ok (.iload 5, 2) := by decide +kernel
theorem dL_law_237 : decode cL_law 237 = .ok (.if_icmp .eq 5, 3) := by decide +kernel
theorem dL_law_240 : decode cL_law 240 = .ok (.iconst 0, 1) := by decide +kernel
theorem dL_law_241 : decode cL_law 241 = .ok (.ireturn, 1) := by decide +kernel
theorem dL_law_242 : decode cL_law 242 = .ok (.goto 348, 3) := by decide +kernel
theorem dL_law_245 : decode cL_law 245 = .ok (.aload_n 1, 1) := by decide +kernel
theorem dL_law_246 : decode cL_law 246 = .ok (.aload_n 0, 1) := by decide +kernel
theorem dL_law_247 : decode cL_law 247 = .ok (.iload 4, 2) := by decide +kernel
theorem dL_law_249 : decode cL_law 249 = .ok (.iconst 1, 1) := by decide +kernel
theorem dL_law_250 : decode cL_law 250 = .ok (.iadd, 1) := by decide +kernel
theorem dL_law_251 : decode cL_law 251 = .ok (.iaload, 1) := by decide +kernel
theorem dL_law_252 : decode cL_law 252 = .ok (.i2l, 1) := by decide +kernel
theorem dL_law_253 : decode cL_law 253 = .ok (.bipush 32, 2) := by decide +kernel
theorem dL_law_255 : decode cL_law 255 = .ok (.lshl, 1) := by decide +kernel
theorem dL_law_256 : decode cL_law 256 = .ok (.aload_n 0, 1) := by decide +kernel
theorem dL_law_257 : decode cL_law 257 = .ok (.iload 4, 2) := by decide +kernel
theorem dL_law_259 : decode cL_law 259 = .ok (.iconst 2, 1) := by decide +kernel
theorem dL_law_260 : decode cL_law 260 = .ok (.iadd, 1) := by decide +kernel
theorem dL_law_261 : decode cL_law 261 = .ok (.iaload, 1) := by decide +kernel
theorem dL_law_262 : decode cL_law 262 = .ok (.i2l, 1) := by decide +kernel
theorem dL_law_263 : decode cL_law 263 = .ok (.ldc2_w 60, 3) := by decide +kernel
theorem dL_law_266 : decode cL_law 266 = .ok (.land, 1) := by decide +kernel
theorem dL_law_267 : decode cL_law 267 = .ok (.lor, 1) := by decide +kernel
theorem dL_law_268 : decode cL_law 268 = .ok (.aload_n 0, 1) := by decide +kernel
theorem dL_law_269 : decode cL_law 269 = .ok (.iload 4, 2) := by decide +kernel
theorem dL_law_271 : decode cL_law 271 = .ok (.iconst 3, 1) := by decide +kernel
theorem dL_law_272 : decode cL_law 272 = .ok (.iadd, 1) := by decide +kernel
theorem dL_law_273 : decode cL_law 273 = .ok (.iaload, 1) := by decide +kernel
theorem dL_law_274 : decode cL_law 274 = .ok (.invokevirtual 62, 3) := by decide +kernel
theorem dL_law_277 : decode cL_law 277 = .ok (.aload_n 2, 1) := by decide +kernel
theorem dL_law_278 : decode cL_law 278 = .ok (.aload_n 0, 1) := by decide +kernel
theorem dL_law_279 : decode cL_law 279 = .ok (.iload 4, 2) := by decide +kernel
theorem dL_law_281 : decode cL_law 281 = .ok (.iconst 1, 1) := by decide +kernel
theorem dL_law_282 : decode cL_law 282 = .ok (.iadd, 1) := by decide +kernel
theorem dL_law_283 : decode cL_law 283 = .ok (.iaload, 1) := by decide +kernel
theorem dL_law_284 : decode cL_law 284 = .ok (.i2l, 1) := by decide +kernel
theorem dL_law_285 : decode cL_law 285 = .ok (.bipush 32, 2) := by decide +kernel
theorem dL_law_287 : decode cL_law 287 = .ok (.lshl, 1) := by decide +kernel
theorem dL_law_288 : decode cL_law 288 = .ok (.aload_n 0, 1) := by decide +kernel
theorem dL_law_289 : decode cL_law 289 = .ok (.iload 4, 2) := by decide +kernel
theorem dL_law_291 : decode cL_law 291 = .ok (.iconst 2, 1) := by decide +kernel
theorem dL_law_292 : decode cL_law 292 = .ok (.iadd, 1) := by decide +kernel
theorem dL_law_293 : decode cL_law 293 = .ok (.iaload, 1) := by decide +kernel
theorem dL_law_294 : decode cL_law 294 = .ok (.i2l, 1) := by decide +kernel
theorem dL_law_295 : decode cL_law 295 = .ok (.ldc2_w 60, 3) := by decide +kernel
theorem dL_law_298 : decode cL_law 298 = .ok (.land, 1) := by decide +kernel
theorem dL_law_299 : decode cL_law 299 = .ok (.lor, 1) := by decide +kernel
theorem dL_law_300 : decode cL_law 300 = .ok (.aload_n 0, 1) := by decide +kernel
theorem dL_law_301 : decode cL_law 301 = .ok (.iload 4, 2) := by decide +kernel
theorem dL_law_303 : decode cL_law 303 = .ok (.iconst 3, 1) := by decide +kernel
theorem dL_law_304 : decode cL_law 304 = .ok (.iadd, 1) := by decide +kernel
theorem dL_law_305 : decode cL_law 305 = .ok (.iaload, 1) := by decide +kernel
theorem dL_law_306 : decode cL_law 306 = .ok (.invokevirtual 66, 3) := by decide +kernel
theorem dL_law_309 : decode cL_law 309 = .ok (.if_icmp .eq 281, 3) := by decide +kernel
theorem dL_law_312 : decode cL_law 312 = .ok (.iconst 0, 1) := by decide +kernel
theorem dL_law_313 : decode cL_law 313 = .ok (.ireturn, 1) := by decide +kernel
theorem dL_law_314 : decode cL_law 314 = .ok (.aload_n 1, 1) := by decide +kernel
theorem dL_law_315 : decode cL_law 315 = .ok (.aload_n 0, 1) := by decide +kernel
theorem dL_law_316 : decode cL_law 316 = .ok (.iload 4, 2) := by decide +kernel
theorem dL_law_318 : decode cL_law 318 = .ok (.iconst 1, 1) := by decide +kernel
theorem dL_law_319 : decode cL_law 319 = .ok (.iadd, 1) := by decide +kernel
theorem dL_law_320 : decode cL_law 320 = .ok (.iaload, 1) := by decide +kernel
theorem dL_law_321 : decode cL_law 321 = .ok (.aload_n 3, 1) := by decide +kernel
theorem dL_law_322 : decode cL_law 322 = .ok (.invokestatic 67, 3) := by decide +kernel
theorem dL_law_325 : decode cL_law 325 = .ok (.istore 5, 2) := by decide +kernel
theorem dL_law_327 : decode cL_law 327 = .ok (.aload_n 2, 1) := by decide +kernel
theorem dL_law_328 : decode cL_law 328 = .ok (.aload_n 0, 1) := by decide +kernel
theorem dL_law_329 : decode cL_law 329 = .ok (.iload 4, 2) := by decide +kernel
theorem dL_law_331 : decode cL_law 331 = .ok (.iconst 1, 1) := by decide +kernel
theorem dL_law_332 : decode cL_law 332 = .ok (.iadd, 1) := by decide +kernel
theorem dL_law_333 : decode cL_law 333 = .ok (.iaload, 1) := by decide +kernel
theorem dL_law_334 : decode cL_law 334 = .ok (.invokevirtual 70, 3) := by decide +kernel
theorem dL_law_337 : decode cL_law 337 = .ok (.istore 6, 2) := by decide +kernel
theorem dL_law_339 : decode cL_law 339 = .ok (.aload_n 2, 1) := by decide +kernel
theorem dL_law_340 : decode cL_law 340 = .ok (.invokevirtual 52, 3) := by decide +kernel
theorem dL_law_343 : decode cL_law 343 = .ok (.iload 5, 2) := by decide +kernel
theorem dL_law_345 : decode cL_law 345 = .ok (.if_icmp .eq 5, 3) := by decide +kernel
theorem dL_law_348 : decode cL_law 348 = .ok (.iconst 0, 1) := by decide +kernel
theorem dL_law_349 : decode cL_law 349 = .ok (.ireturn, 1) := by decide +kernel
theorem dL_law_350 : decode cL_law 350 = .ok (.iload 5, 2) := by decide +kernel
theorem dL_law_352 : decode cL_law 352 = .ok (.ifCond .ne 15, 3) := by decide +kernel
theorem dL_law_355 : decode cL_law 355 = .ok (.aload_n 3, 1) := by decide +kernel
theorem dL_law_356 : decode cL_law 356 = .ok (.iconst 0, 1) := by decide +kernel
theorem dL_law_357 : decode cL_law 357 = .ok (.laload, 1) := by decide +kernel
theorem dL_law_358 : decode cL_law 358 = .ok (.iload 6, 2) := by decide +kernel
theorem dL_law_360 : decode cL_law 360 = .ok (.i2l, 1) := by decide +kernel
theorem dL_law_361 : decode cL_law 361 = .ok (.lcmp, 1) := by decide +kernel
theorem dL_law_362 : decode cL_law 362 = .ok (.ifCond .eq 5, 3) := by decide +kernel
theorem dL_law_365 : decode cL_law 365 = .ok (.iconst 0, 1) := by decide +kernel
theorem dL_law_366 : decode cL_law 366 = .ok (.ireturn, 1) := by decide +kernel
theorem dL_law_367 : decode cL_law 367 = .ok (.goto 223, 3) := by decide +kernel
theorem dL_law_370 : decode cL_law 370 = .ok (.aload_n 1, 1) := by decide +kernel
theorem dL_law_371 : decode cL_law 371 = .ok (.aload_n 0, 1) := by decide +kernel
theorem dL_law_372 : decode cL_law 372 = .ok (.iload 4, 2) := by decide +kernel
theorem dL_law_374 : decode cL_law 374 = .ok (.iconst 1, 1) := by decide +kernel
theorem dL_law_375 : decode cL_law 375 = .ok (.iadd, 1) := by decide +kernel
theorem dL_law_376 : decode cL_law 376 = .ok (.iaload, 1) := by decide +kernel
theorem dL_law_377 : decode cL_law 377 = .ok (.aload_n 3, 1) := by decide +kernel
theorem dL_law_378 : decode cL_law 378 = .ok (.invokestatic 71, 3) := by decide +kernel
theorem dL_law_381 : decode cL_law 381 = .ok (.istore 5, 2) := by decide +kernel
theorem dL_law_383 : decode cL_law 383 = .ok (.aload_n 2, 1) := by decide +kernel
theorem dL_law_384 : decode cL_law 384 = .ok (.aload_n 0, 1) := by decide +kernel
theorem dL_law_385 : decode cL_law 385 = .ok (.iload 4, 2) := by decide +kernel
theorem dL_law_387 : decode cL_law 387 = .ok (.iconst 1, 1) := by decide +kernel
theorem dL_law_388 : decode cL_law 388 = .ok (.iadd, 1) := by decide +kernel
theorem dL_law_389 : decode cL_law 389 = .ok (.iaload, 1) := by decide +kernel
theorem dL_law_390 : decode cL_law 390 = .ok (.invokevirtual 73, 3) := by decide +kernel
theorem dL_law_393 : decode cL_law 393 = .ok (.istore 6, 2) := by decide +kernel
theorem dL_law_395 : decode cL_law 395 = .ok (.aload_n 2, 1) := by decide +kernel
theorem dL_law_396 : decode cL_law 396 = .ok (.invokevirtual 52, 3) := by decide +kernel
theorem dL_law_399 : decode cL_law 399 = .ok (.iload 5, 2) := by decide +kernel
theorem dL_law_401 : decode cL_law 401 = .ok (.if_icmp .eq 5, 3) := by decide +kernel
theorem dL_law_404 : decode cL_law 404 = .ok (.iconst 0, 1) := by decide +kernel
theorem dL_law_405 : decode cL_law 405 = .ok (.ireturn, 1) := by decide +kernel
theorem dL_law_406 : decode cL_law 406 = .ok (.iload 5, 2) := by decide +kernel
theorem dL_law_408 : decode cL_law 408 = .ok (.ifCond .ne 15, 3) := by decide +kernel
theorem dL_law_411 : decode cL_law 411 = .ok (.aload_n 3, 1) := by decide +kernel
theorem dL_law_412 : decode cL_law 412 = .ok (.iconst 0, 1) := by decide +kernel
theorem dL_law_413 : decode cL_law 413 = .ok (.laload, 1) := by decide +kernel
theorem dL_law_414 : decode cL_law 414 = .ok (.iload 6, 2) := by decide +kernel
theorem dL_law_416 : decode cL_law 416 = .ok (.i2l, 1) := by decide +kernel
theorem dL_law_417 : decode cL_law 417 = .ok (.lcmp, 1) := by decide +kernel
theorem dL_law_418 : decode cL_law 418 = .ok (.ifCond .eq 5, 3) := by decide +kernel
theorem dL_law_421 : decode cL_law 421 = .ok (.iconst 0, 1) := by decide +kernel
theorem dL_law_422 : decode cL_law 422 = .ok (.ireturn, 1) := by decide +kernel
theorem dL_law_423 : decode cL_law 423 = .ok (.goto 167, 3) := by decide +kernel
theorem dL_law_426 : decode cL_law 426 = .ok (.aload_n 1, 1) := by decide +kernel
theorem dL_law_427 : decode cL_law 427 = .ok (.aload_n 0, 1) := by decide +kernel
theorem dL_law_428 : decode cL_law 428 = .ok (.iload 4, 2) := by decide +kernel
theorem dL_law_430 : decode cL_law 430 = .ok (.iconst 1, 1) := by decide +kernel
theorem dL_law_431 : decode cL_law 431 = .ok (.iadd, 1) := by decide +kernel
theorem dL_law_432 : decode cL_law 432 = .ok (.iaload, 1) := by decide +kernel
theorem dL_law_433 : decode cL_law 433 = .ok (.invokevirtual 74, 3) := by decide +kernel
theorem dL_law_436 : decode cL_law 436 = .ok (.aload_n 2, 1) := by decide +kernel
theorem dL_law_437 : decode cL_law 437 = .ok (.aload_n 0, 1) := by decide +kernel
theorem dL_law_438 : decode cL_law 438 = .ok (.iload 4, 2) := by decide +kernel
theorem dL_law_440 : decode cL_law 440 = .ok (.iconst 1, 1) := by decide +kernel
theorem dL_law_441 : decode cL_law 441 = .ok (.iadd, 1) := by decide +kernel
theorem dL_law_442 : decode cL_law 442 = .ok (.iaload, 1) := by decide +kernel
theorem dL_law_443 : decode cL_law 443 = .ok (.invokevirtual 77, 3) := by decide +kernel
theorem dL_law_446 : decode cL_law 446 = .ok (.if_icmp .eq 144, 3) := by decide +kernel
theorem dL_law_449 : decode cL_law 449 = .ok (.iconst 0, 1) := by decide +kernel
theorem dL_law_450 : decode cL_law 450 = .ok (.ireturn, 1) := by decide +kernel
theorem dL_law_451 : decode cL_law 451 = .ok (.aload_n 1, 1) := by decide +kernel
theorem dL_law_452 : decode cL_law 452 = .ok (.invokevirtual 78, 3) := by decide +kernel
theorem dL_law_455 : decode cL_law 455 = .ok (.aload_n 2, 1) := by decide +kernel
theorem dL_law_456 : decode cL_law 456 = .ok (.invokevirtual 81, 3) := by decide +kernel
theorem dL_law_459 : decode cL_law 459 = .ok (.if_icmp .eq 131, 3) := by decide +kernel
theorem dL_law_462 : decode cL_law 462 = .ok (.iconst 0, 1) := by decide +kernel
theorem dL_law_463 : decode cL_law 463 = .ok (.ireturn, 1) := by decide +kernel
theorem dL_law_464 : decode cL_law 464 = .ok (.aload_n 1, 1) := by decide +kernel
theorem dL_law_465 : decode cL_law 465 = .ok (.aload_n 0, 1) := by decide +kernel
theorem dL_law_466 : decode cL_law 466 = .ok (.iload 4, 2) := by decide +kernel
theorem dL_law_468 : decode cL_law 468 = .ok (.iconst 1, 1) := by decide +kernel
theorem dL_law_469 : decode cL_law 469 = .ok (.iadd, 1) := by decide +kernel
theorem dL_law_470 : decode cL_law 470 = .ok (.iaload, 1) := by decide +kernel
theorem dL_law_471 : decode cL_law 471 = .ok (.aload_n 3, 1) := by decide +kernel
theorem dL_law_472 : decode cL_law 472 = .ok (.invokestatic 82, 3) := by decide +kernel
theorem dL_law_475 : decode cL_law 475 = .ok (.istore 5, 2) := by decide +kernel
theorem dL_law_477 : decode cL_law 477 = .ok (.aload_n 2, 1) := by decide +kernel
theorem dL_law_478 : decode cL_law 478 = .ok (.aload_n 0, 1) := by decide +kernel
theorem dL_law_479 : decode cL_law 479 = .ok (.iload 4, 2) := by decide +kernel
theorem dL_law_481 : decode cL_law 481 = .ok (.iconst 1, 1) := by decide +kernel
theorem dL_law_482 : decode cL_law 482 = .ok (.iadd, 1) := by decide +kernel
theorem dL_law_483 : decode cL_law 483 = .ok (.iaload, 1) := by decide +kernel
theorem dL_law_484 : decode cL_law 484 = .ok (.invokevirtual 84, 3) := by decide +kernel
theorem dL_law_487 : decode cL_law 487 = .ok (.istore 6, 2) := by decide +kernel
theorem dL_law_489 : decode cL_law 489 = .ok (.aload_n 2, 1) := by decide +kernel
theorem dL_law_490 : decode cL_law 490 = .ok (.invokevirtual 52, 3) := by decide +kernel
theorem dL_law_493 : decode cL_law 493 = .ok (.iload 5, 2) := by decide +kernel
theorem dL_law_495 : decode cL_law 495 = .ok (.if_icmp .eq 5, 3) := by decide +kernel
theorem dL_law_498 : decode cL_law 498 = .ok (.iconst 0, 1) := by decide +kernel
theorem dL_law_499 : decode cL_law 499 = .ok (.ireturn, 1) := by decide +kernel
theorem dL_law_500 : decode cL_law 500 = .ok (.iload 5, 2) := by decide +kernel
theorem dL_law_502 : decode cL_law 502 = .ok (.ifCond .ne 22, 3) := by decide +kernel
theorem dL_law_505 : decode cL_law 505 = .ok (.aload_n 3, 1) := by decide +kernel
theorem dL_law_506 : decode cL_law 506 = .ok (.iconst 0, 1) := by decide +kernel
theorem dL_law_507 : decode cL_law 507 = .ok (.laload, 1) := by decide +kernel
theorem dL_law_508 : decode cL_law 508 = .ok (.iload 6, 2) := by decide +kernel
theorem dL_law_510 : decode cL_law 510 = .ok (.ifCond .eq 7, 3) := by decide +kernel
theorem dL_law_513 : decode cL_law 513 = .ok (.lconst 1, 1) := by decide +kernel
theorem dL_law_514 : decode cL_law 514 = .ok (.goto 4, 3) := by decide +kernel
theorem dL_law_517 : decode cL_law 517 = .ok (.lconst 0, 1) := by decide +kernel
theorem dL_law_518 : decode cL_law 518 = .ok (.lcmp, 1) := by decide +kernel
theorem dL_law_519 : decode cL_law 519 = .ok (.ifCond .eq 5, 3) := by decide +kernel
theorem dL_law_522 : decode cL_law 522 = .ok (.iconst 0, 1) := by decide +kernel
theorem dL_law_523 : decode cL_law 523 = .ok (.ireturn, 1) := by decide +kernel
theorem dL_law_524 : decode cL_law 524 = .ok (.goto 66, 3) := by decide +kernel
theorem dL_law_527 : decode cL_law 527 = .ok (.aload_n 1, 1) := by decide +kernel
theorem dL_law_528 : decode cL_law 528 = .ok (.invokevirtual 85, 3) := by decide +kernel
theorem dL_law_531 : decode cL_law 531 = .ok (.aload_n 2, 1) := by decide +kernel
theorem dL_law_532 : decode cL_law 532 = .ok (.invokevirtual 88, 3) := by decide +kernel
theorem dL_law_535 : decode cL_law 535 = .ok (.if_icmp .eq 55, 3) := by decide +kernel
theorem dL_law_538 : decode cL_law 538 = .ok (.iconst 0, 1) := by decide +kernel
theorem dL_law_539 : decode cL_law 539 = .ok (.ireturn, 1) := by decide +kernel
theorem dL_law_540 : decode cL_law 540 = .ok (.aload_n 1, 1) := by decide +kernel
theorem dL_law_541 : decode cL_law 541 = .ok (.aload_n 0, 1) := by decide +kernel
theorem dL_law_542 : decode cL_law 542 = .ok (.iload 4, 2) := by decide +kernel
theorem dL_law_544 : decode cL_law 544 = .ok (.iconst 1, 1) := by decide +kernel
theorem dL_law_545 : decode cL_law 545 = .ok (.iadd, 1) := by decide +kernel
theorem dL_law_546 : decode cL_law 546 = .ok (.iaload, 1) := by decide +kernel
theorem dL_law_547 : decode cL_law 547 = .ok (.invokevirtual 89, 3) := by decide +kernel
theorem dL_law_550 : decode cL_law 550 = .ok (.aload_n 2, 1) := by decide +kernel
theorem dL_law_551 : decode cL_law 551 = .ok (.aload_n 0, 1) := by decide +kernel
theorem dL_law_552 : decode cL_law 552 = .ok (.iload 4, 2) := by decide +kernel
theorem dL_law_554 : decode cL_law 554 = .ok (.iconst 1, 1) := by decide +kernel
theorem dL_law_555 : decode cL_law 555 = .ok (.iadd, 1) := by decide +kernel
theorem dL_law_556 : decode cL_law 556 = .ok (.iaload, 1) := by decide +kernel
theorem dL_law_557 : decode cL_law 557 = .ok (.invokevirtual 92, 3) := by decide +kernel
theorem dL_law_560 : decode cL_law 560 = .ok (.if_icmp .eq 30, 3) := by decide +kernel
theorem dL_law_563 : decode cL_law 563 = .ok (.iconst 0, 1) := by decide +kernel
theorem dL_law_564 : decode cL_law 564 = .ok (.ireturn, 1) := by decide +kernel
theorem dL_law_565 : decode cL_law 565 = .ok (.aload_n 1, 1) := by decide +kernel
theorem dL_law_566 : decode cL_law 566 = .ok (.aload_n 0, 1) := by decide +kernel
theorem dL_law_567 : decode cL_law 567 = .ok (.iload 4, 2) := by decide +kernel
theorem dL_law_569 : decode cL_law 569 = .ok (.iconst 1, 1) := by decide +kernel
theorem dL_law_570 : decode cL_law 570 = .ok (.iadd, 1) := by decide +kernel
theorem dL_law_571 : decode cL_law 571 = .ok (.iaload, 1) := by decide +kernel
theorem dL_law_572 : decode cL_law 572 = .ok (.invokevirtual 93, 3) := by decide +kernel
theorem dL_law_575 : decode cL_law 575 = .ok (.aload_n 2, 1) := by decide +kernel
theorem dL_law_576 : decode cL_law 576 = .ok (.aload_n 0, 1) := by decide +kernel
theorem dL_law_577 : decode cL_law 577 = .ok (.iload 4, 2) := by decide +kernel
theorem dL_law_579 : decode cL_law 579 = .ok (.iconst 1, 1) := by decide +kernel
theorem dL_law_580 : decode cL_law 580 = .ok (.iadd, 1) := by decide +kernel
theorem dL_law_581 : decode cL_law 581 = .ok (.iaload, 1) := by decide +kernel
theorem dL_law_582 : decode cL_law 582 = .ok (.invokevirtual 96, 3) := by decide +kernel
theorem dL_law_585 : decode cL_law 585 = .ok (.if_icmp .eq 5, 3) := by decide +kernel
theorem dL_law_588 : decode cL_law 588 = .ok (.iconst 0, 1) := by decide +kernel
theorem dL_law_589 : decode cL_law 589 = .ok (.ireturn, 1) := by decide +kernel
theorem dL_law_590 : decode cL_law 590 = .ok (.iinc 4 4, 3) := by decide +kernel
theorem dL_law_593 : decode cL_law 593 = .ok (.goto (-560), 3) := by decide +kernel
theorem dL_law_596 : decode cL_law 596 = .ok (.iconst 1, 1) := by decide +kernel
theorem dL_law_597 : decode cL_law 597 = .ok (.ireturn, 1) := by decide +kernel
