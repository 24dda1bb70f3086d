set_option maxRecDepth 20000 in
theorem ggX5_init_X2_init : GoodIn wsX5_init wsX2_init := goodIn_r _ [40, 41, 2, 3, 42, 107] (by decide +kernel) (by decide +kernel)
set_option maxRecDepth 20000 in
theorem gX5_init_X2_init_n50 : GoodIn wsX5_init (wsX2_init) := ggX5_init_X2_init
set_option maxRecDepth 20000 in
theorem ggX5_init_X3_init : GoodIn wsX5_init wsX3_init := goodIn_r _ [45, 46, 2, 3, 47, 48, 49, 50, 51, 52, 53, 54, 55, 56, 57, 58, 32, 59, 60, 61, 62, 63, 64, 65, 66, 67, 108, 109, 110, 124, 125, 126, 127, 128, 117, 118, 119, 120, 121, 122, 123] (by decide +kernel) (by decide +kernel)
set_option maxRecDepth 20000 in
theorem gX5_init_X3_init : GoodIn wsX5_init (wsX3_init) := ggX5_init_X3_init
set_option maxRecDepth 20000 in
theorem ggX5_init_X7_init : GoodIn wsX5_init wsX7_init := goodIn_r _ [70, 71, 2, 3, 72, 73, 50, 51, 74, 75, 54, 55, 56, 57, 58, 32, 59, 60, 61, 62, 63, 64, 65, 66, 67, 111, 112, 124, 125, 126, 127, 128, 117, 118, 119, 120, 121, 122, 123] (by decide +kernel) (by decide +kernel)
set_option maxRecDepth 20000 in
theorem gX5_init_X7_init : GoodIn wsX5_init (wsX7_init) := ggX5_init_X7_init
set_option maxRecDepth 20000 in
theorem ggX5_init_X8_init : GoodIn wsX5_init wsX8_init := goodIn_r _ [78, 79, 2, 3, 80, 81, 82, 50, 51, 83, 84, 32, 85, 86, 54, 55, 56, 57, 58, 59, 60, 61, 62, 63, 64, 65, 66, 67, 113, 114, 115, 116, 124, 125, 126, 127, 128, 117, 118, 119, 120, 121, 122, 123] (by decide +kernel) (by decide +kernel)
set_option maxRecDepth 20000 in
theorem gX5_init_X8_init : GoodIn wsX5_init (wsX8_init) := ggX5_init_X8_init
theorem dX5_init_0 : decode cX5_init 0 = .ok (.aload_n 0, 1) := by decide +kernel
theorem dX5_init_1 : decode cX5_init 1 = .ok (.invokespecial 1, 3) := by decide +kernel
theorem dX5_init_4 : decode cX5_init 4 = .ok (.aload_n 0, 1) := by decide +kernel
theorem dX5_init_5 : decode cX5_init 5 = .ok (.iconst 0, 1) := by decide +kernel
theorem dX5_init_6 : decode cX5_init 6 = .ok (.putfield 7, 3) := by decide +kernel
theorem dX5_init_9 : decode cX5_init 9 = .ok (.aload_n 0, 1) := by decide +kernel
theorem dX5_init_10 : decode cX5_init 10 = .ok (.iconst 0, 1) := by decide +kernel
theorem dX5_init_11 : decode cX5_init 11 = .ok (.putfield 13, 3) := by decide +kernel
theorem dX5_init_14 : decode cX5_init 14 = .ok (.aload_n 0, 1) := by decide +kernel
theorem dX5_init_15 : decode cX5_init 15 = .ok (.iconst 0, 1) := by decide +kernel
theorem dX5_init_16 : decode cX5_init 16 = .ok (.putfield 17, 3) := by decide +kernel
theorem dX5_init_19 : decode cX5_init 19 = .ok (.aload_n 0, 1) := by decide +kernel
theorem dX5_init_20 : decode cX5_init 20 = .ok (.iconst 0, 1) := by decide +kernel
theorem dX5_init_21 : decode cX5_init 21 = .ok (.putfield 20, 3) := by decide +kernel
theorem dX5_init_24 : decode cX5_init 24 = .ok (.aload_n 0, 1) := by decide +kernel
theorem dX5_init_25 : decode cX5_init 25 = .ok (.iconst 0, 1) := by decide +kernel
theorem dX5_init_26 : decode cX5_init 26 = .ok (.putfield 23, 3) := by decide +kernel
theorem dX5_init_29 : decode cX5_init 29 = .ok (.aload_n 0, 1) := by decide +kernel
theorem dX5_init_30 : decode cX5_init 30 = .ok (.iconst 0, 1) := by decide +kernel
theorem dX5_init_31 : decode cX5_init 31 = .ok (.putfield 26, 3) := by decide +kernel
theorem dX5_init_34 : decode cX5_init 34 = .ok (.aload_n 0, 1) := by decide +kernel
theorem dX5_init_35 : decode cX5_init 35 = .ok (.iconst 0, 1) := by decide +kernel
theorem dX5_init_36 : decode cX5_init 36 = .ok (.putfield 29, 3) := by decide +kernel
theorem dX5_init_39 : decode cX5_init 39 = .ok (.aload_n 0, 1) := by decide +kernel
theorem dX5_init_40 : decode cX5_init 40 = .ok (.aload_n 1, 1) := by decide +kernel
theorem dX5_init_41 : decode cX5_init 41 = .ok (.putfield 32, 3) := by decide +kernel
theorem dX5_init_44 : decode cX5_init 44 = .ok (.aload_n 0, 1) := by decide +kernel
theorem dX5_init_45 : decode cX5_init 45 = .ok (.aload_n 2, 1) := by decide +kernel
theorem dX5_init_46 : decode cX5_init 46 = .ok (.putfield 36, 3) := by decide +kernel
theorem dX5_init_49 : decode cX5_init 49 = .ok (.aload_n 0, 1) := by decide +kernel
theorem dX5_init_50 : decode cX5_init 50 = .ok (.aload_n 3, 1) := by decide +kernel
theorem dX5_init_51 : decode cX5_init 51 = .ok (.putfield 40, 3) := by decide +kernel
theorem dX5_init_54 : decode cX5_init 54 = .ok (.aload_n 0, 1) := by decide +kernel
theorem dX5_init_55 : decode cX5_init 55 = .ok (.aload 4, 2) := by decide +kernel
theorem dX5_init_57 : decode cX5_init 57 = .ok (.putfield 44, 3) := by decide +kernel
theorem dX5_init_60 : decode cX5_init 60 = .ok (.aload_n 0, 1) := by decide +kernel
theorem dX5_init_61 : decode cX5_init 61 = .ok (.new 48, 3) := by decide +kernel
theorem dX5_init_64 : decode cX5_init 64 = .ok (.dup, 1) := by decide +kernel
theorem dX5_init_65 : decode cX5_init 65 = .ok (.invokespecial 50, 3) := by decide +kernel
theorem dX5_init_68 : decode cX5_init 68 = .ok (.putfield 51, 3) := by decide +kernel
theorem dX5_init_71 : decode cX5_init 71 = .ok (.aload_n 0, 1) := by decide +kernel
theorem dX5_init_72 : decode cX5_init 72 = .ok (.new 55, 3) := by decide +kernel
theorem dX5_init_75 : decode cX5_init 75 = .ok (.dup, 1) := by decide +kernel
theorem dX5_init_76 : decode cX5_init 76 = .ok (.aload_n 1, 1) := by decide +kernel
theorem dX5_init_77 : decode cX5_init 77 = .ok (.aload_n 0, 1) := by decide +kernel
theorem dX5_init_78 : decode cX5_init 78 = .ok (.getfield 51, 3) := by decide +kernel
theorem dX5_init_81 : decode cX5_init 81 = .ok (.invokespecial 57, 3) := by decide +kernel
theorem dX5_init_84 : decode cX5_init 84 = .ok (.putfield 60, 3) := by decide +kernel
theorem dX5_init_87 : decode cX5_init 87 = .ok (.aload_n 0, 1) := by decide +kernel
theorem dX5_init_88 : decode cX5_init 88 = .ok (.new 64, 3) := by decide +kernel
theorem dX5_init_91 : decode cX5_init 91 = .ok (.dup, 1) := by decide +kernel
theorem dX5_init_92 : decode cX5_init 92 = .ok (.aload_n 1, 1) := by decide +kernel
theorem dX5_init_93 : decode cX5_init 93 = .ok (.invokespecial 66, 3) := by decide +kernel
theorem dX5_init_96 : decode cX5_init 96 = .ok (.putfield 69, 3) := by decide +kernel
theorem dX5_init_99 : decode cX5_init 99 = .ok (.aload_n 0, 1) := by decide +kernel
theorem dX5_init_100 : decode cX5_init 100 = .ok (.new 73, 3) := by decide +kernel
theorem dX5_init_103 : decode cX5_init 103 = .ok (.dup, 1) := by decide +kernel
theorem dX5_init_104 : decode cX5_init 104 = .ok (.aload_n 1, 1) := by decide +kernel
theorem dX5_init_105 : decode cX5_init 105 = .ok (.invokespecial 75, 3) := by decide +kernel
theorem dX5_init_108 : decode cX5_init 108 = .ok (.putfield 76, 3) := by decide +kernel
theorem dX5_init_111 : decode cX5_init 111 = .ok (.aload_n 0, 1) := by decide +kernel
theorem dX5_init_112 : decode cX5_init 112 = .ok (.aload_n 1, 1) := by decide +kernel
theorem dX5_init_113 : decode cX5_init 113 = .ok (.getfield 80, 3) := by decide +kernel
theorem dX5_init_116 : decode cX5_init 116 = .ok (.newarray .int, 2) := by decide +kernel
theorem dX5_init_118 : decode cX5_init 118 = .ok (.putfield 85, 3) := by decide +kernel
theorem dX5_init_121 : decode cX5_init 121 = .ok (.aload_n 0, 1) := by decide +kernel
theorem dX5_init_122 : decode cX5_init 122 = .ok (.aload_n 1, 1) := by decide +kernel
theorem dX5_init_123 : decode cX5_init 123 = .ok (.getfield 80, 3) := by decide +kernel
theorem dX5_init_126 : decode cX5_init 126 = .ok (.newarray .int, 2) := by decide +kernel
theorem dX5_init_128 : decode cX5_init 128 = .ok (.putfield 88, 3) := by decide +kernel
theorem dX5_init_131 : decode cX5_init 131 = .ok (.aload_n 0, 1) := by decide +kernel
theorem dX5_init_132 : decode cX5_init 132 = .ok (.aload_n 1, 1) := by decide +kernel
theorem dX5_init_133 : decode cX5_init 133 = .ok (.getfield 80, 3) := by decide +kernel
theorem dX5_init_136 : decode cX5_init 136 = .ok (.newarray .boolean, 2) := by decide +kernel
theorem dX5_init_138 : decode cX5_init 138 = .ok (.putfield 91, 3) := by decide +kernel
theorem dX5_init_141 : decode cX5_init 141 = .ok (.aload_n 0, 1) := by decide +kernel
theorem dX5_init_142 : decode cX5_init 142 = .ok (.aload_n 1, 1) := by decide +kernel
theorem dX5_init_143 : decode cX5_init 143 = .ok (.getfield 80, 3) := by decide +kernel
theorem dX5_init_146 : decode cX5_init 146 = .ok (.newarray .int, 2) := by decide +kernel
theorem dX5_init_148 : decode cX5_init 148 = .ok (.putfield 95, 3) := by decide +kernel
theorem dX5_init_151 : decode cX5_init 151 = .ok (.aload_n 0, 1) := by decide +kernel
theorem dX5_init_152 : decode cX5_init 152 = .ok (.aload_n 1, 1) := by decide +kernel
theorem dX5_init_153 : decode cX5_init 153 = .ok (.getfield 80, 3) := by decide +kernel
theorem dX5_init_156 : decode cX5_init 156 = .ok (.newarray .int, 2) := by decide +kernel
theorem dX5_init_158 : decode cX5_init 158 = .ok (.putfield 98, 3) := by decide +kernel
theorem dX5_init_161 : decode cX5_init 161 = .ok (.return_, 1) := by decide +kernel
set_option maxRecDepth 20000 in
theorem ggX5_startAt_X2_startAt : GoodIn wsX5_startAt wsX2_startAt := goodIn_r _ [11, 12, 33] (by decide +kernel) (by decide +kernel)
set_option maxRecDepth 20000 in
theorem gX5_startAt_X2_startAt : GoodIn wsX5_startAt (wsV RX5 101 RX2 yX2_startAt wsX2_startAt) := goodIn_app (goodIn_of _ (by decide +kernel)) ggX5_startAt_X2_startAt
theorem dX5_startAt_0 : decode cX5_startAt 0 = .ok (.aload_n 0, 1) := by decide +kernel
theorem dX5_startAt_1 : decode cX5_startAt 1 = .ok (.iconst 0, 1) := by decide +kernel
theorem dX5_startAt_2 : decode cX5_startAt 2 = .ok (.putfield 7, 3) := by decide +kernel
theorem dX5_startAt_5 : decode cX5_startAt 5 = .ok (.aload_n 0, 1) := by decide +kernel
theorem dX5_startAt_6 : decode cX5_startAt 6 = .ok (.iconst 0, 1) := by decide +kernel
theorem dX5_startAt_7 : decode cX5_startAt 7 = .ok (.putfield 13, 3) := by decide +kernel
theorem dX5_startAt_10 : decode cX5_startAt 10 = .ok (.aload_n 0, 1) := by decide +kernel
theorem dX5_startAt_11 : decode cX5_startAt 11 = .ok (.iconst 0, 1) := by decide +kernel
theorem dX5_startAt_12 : decode cX5_startAt 12 = .ok (.putfield 17, 3) := by decide +kernel
theorem dX5_startAt_15 : decode cX5_startAt 15 = .ok (.aload_n 0, 1) := by decide +kernel
theorem dX5_startAt_16 : decode cX5_startAt 16 = .ok (.iconst 0, 1) := by decide +kernel
theorem dX5_startAt_17 : decode cX5_startAt 17 = .ok (.putfield 20, 3) := by decide +kernel
theorem dX5_startAt_20 : decode cX5_startAt 20 = .ok (.aload_n 0, 1) := by decide +kernel
theorem dX5_startAt_21 : decode cX5_startAt 21 = .ok (.iconst 0, 1) := by decide +kernel
theorem dX5_startAt_22 : decode cX5_startAt 22 = .ok (.putfield 23, 3) := by decide +kernel
theorem dX5_startAt_25 : decode cX5_startAt 25 = .ok (.aload_n 0, 1) := by decide +kernel
theorem dX5_startAt_26 : decode cX5_startAt 26 = .ok (.getfield 51, 3) := by decide +kernel
theorem dX5_startAt_29 : decode cX5_startAt 29 = .ok (.lload_n 1, 1) := by decide +kernel
theorem dX5_startAt_30 : decode cX5_startAt 30 = .ok (.invokevirtual 101, 3) := by decide +kernel
theorem dX5_startAt_33 : decode cX5_startAt 33 = .ok (.return_, 1) := by decide +kernel
set_option maxRecDepth 20000 in
theorem ggX5_tryOnce_X5_drawWhole : GoodIn wsX5_tryOnce wsX5_drawWhole := goodIn_r _ [20, 21, 22, 23, 24, 25, 7, 8, 9, 10, 6, 26, 27, 28, 29, 30, 31, 32, 33, 34, 35, 36, 37, 38, 39, 40, 41, 42, 43, 44, 45, 46, 47, 48, 49, 50, 51, 52, 53, 54, 55, 56, 57, 58, 59, 60, 61, 62, 63, 64, 65, 66, 67, 68, 69, 70, 71, 72, 73, 74, 75, 76, 77, 78, 79, 80, 81, 82, 83, 84, 85, 86, 87, 88, 89, 90, 91, 92, 93, 94, 95, 96, 97, 204, 205, 206, 207, 208, 209, 210, 211, 212, 213, 214, 215, 216, 217, 218, 219, 220, 221, 222, 223, 224, 225, 226, 227, 228, 229, 230, 231, 232, 233, 234, 235, 236, 237, 238, 239] (by decide +kernel) (by decide +kernel)
set_option maxRecDepth 20000 in
theorem gX5_tryOnce_X5_drawWhole : GoodIn wsX5_tryOnce (wsV RX5 105 RX5 yX5_drawWhole wsX5_drawWhole) := goodIn_app (goodIn_of _ (by decide +kernel)) ggX5_tryOnce_X5_drawWhole
set_option maxRecDepth 20000 in
theorem ggX5_tryOnce_X5_takeOutEmptySets : GoodIn wsX5_tryOnce wsX5_takeOutEmptySets := goodIn_r _ [101, 102, 103, 104, 105, 106, 107, 6, 108, 109, 110, 111, 19, 112, 113, 114, 115, 116, 117, 118, 119, 120, 121, 122, 123, 124, 38, 125, 40, 41, 126, 36, 37, 39, 42, 43, 44, 45, 46, 127, 91, 92, 93, 94, 95, 96, 97, 61, 62, 63, 128, 53, 54, 55, 129, 130, 131, 132, 133, 134, 135, 136, 137, 138, 139, 140, 57, 58, 59, 60, 141, 65, 66, 67, 68, 69, 70, 142, 143, 144, 145, 146, 204, 205, 206, 207, 208, 209, 210, 211, 212, 213, 214, 215, 216, 217, 218, 219, 220, 221, 222, 223, 232, 233, 234, 235, 236, 237, 238, 240, 241, 242, 243, 244, 245, 227, 228, 229, 230, 231] (by decide +kernel) (by decide +kernel)
set_option maxRecDepth 20000 in
theorem gX5_tryOnce_X5_takeOutEmptySets : GoodIn wsX5_tryOnce (wsV RX5 109 RX5 yX5_takeOutEmptySets wsX5_takeOutEmptySets) := goodIn_app (goodIn_of _ (by decide +kernel)) ggX5_tryOnce_X5_takeOutEmptySets
set_option maxRecDepth 20000 in
theorem ggX5_tryOnce_X5_layRow : GoodIn wsX5_tryOnce wsX5_layRow := goodIn_r _ [150, 102, 103, 105, 106, 6, 104, 3, 109, 110, 111, 19, 112, 107, 204, 205, 206, 207, 208, 209, 210, 211, 212, 213, 214, 215, 216, 217, 218, 219, 220, 221, 222, 223, 232, 233, 234, 235, 236, 237, 238, 240, 241] (by decide +kernel) (by decide +kernel)
set_option maxRecDepth 20000 in
theorem gX5_tryOnce_X5_layRow : GoodIn wsX5_tryOnce (wsV RX5 112 RX5 yX5_layRow wsX5_layRow) := goodIn_app (goodIn_of _ (by decide +kernel)) ggX5_tryOnce_X5_layRow
set_option maxRecDepth 20000 in
theorem ggX5_tryOnce_X5_mixRow : GoodIn wsX5_tryOnce wsX5_mixRow := goodIn_r _ [154, 155, 3, 156, 72, 73, 74, 75, 76, 77, 78, 79, 80, 81, 82, 204, 205, 206, 207, 208, 209, 210, 211, 212, 213, 214, 215, 216, 217, 218, 219, 220, 221, 222, 223, 239] (by decide +kernel) (by decide +kernel)
set_option maxRecDepth 20000 in
theorem gX5_tryOnce_X5_mixRow : GoodIn wsX5_tryOnce (wsV RX5 116 RX5 yX5_mixRow wsX5_mixRow) := goodIn_app (goodIn_of _ (by decide +kernel)) ggX5_tryOnce_X5_mixRow
set_option maxRecDepth 20000 in
theorem ggX5_tryOnce_X5_needsSet : GoodIn wsX5_tryOnce wsX5_needsSet := goodIn_r _ [160, 102, 103, 105, 106, 6, 5, 108, 113, 114, 115, 116, 117, 118, 119, 120, 121, 122, 123, 124, 38, 125, 40, 41, 126, 36, 37, 39, 42, 43, 44, 45, 46, 127, 91, 92, 93, 94, 95, 96, 97, 61, 62, 63, 128, 53, 54, 55, 129, 130, 131, 132, 133, 134, 135, 136, 137, 138, 139, 140, 57, 58, 59, 60, 141, 65, 66, 67, 68, 69, 70, 142, 143, 144, 145, 146, 204, 205, 206, 207, 208, 209, 210, 211, 212, 213, 214, 215, 216, 217, 218, 219, 220, 221, 222, 223, 232, 233, 234, 235, 236, 237, 238, 240, 241, 242, 243, 244, 245, 227, 228, 229, 230, 231] (by decide +kernel) (by decide +kernel)
set_option maxRecDepth 20000 in
theorem gX5_tryOnce_X5_needsSet : GoodIn wsX5_tryOnce (wsV RX5 120 RX5 yX5_needsSet wsX5_needsSet) := goodIn_app (goodIn_of _ (by decide +kernel)) ggX5_tryOnce_X5_needsSet
set_option maxRecDepth 20000 in
theorem ggX5_tryOnce_X5_countGivens : GoodIn wsX5_tryOnce wsX5_countGivens := goodIn_r _ [164, 102, 103, 6, 204, 205, 206, 207, 208, 209, 210, 211, 212, 213, 214, 215, 216, 217, 218, 219, 220, 221, 222, 223, 232, 233, 234, 235, 236, 237, 238] (by decide +kernel) (by decide +kernel)
set_option maxRecDepth 20000 in
theorem gX5_tryOnce_X5_countGivens : GoodIn wsX5_tryOnce (wsV RX5 130 RX5 yX5_countGivens wsX5_countGivens) := goodIn_app (goodIn_of _ (by decide +kernel)) ggX5_tryOnce_X5_countGivens
set_option maxRecDepth 20000 in
theorem ggX5_tryOnce_X7_countUnknown : GoodIn wsX5_tryOnce wsX7_countUnknown := goodIn_r _ [169, 170, 171, 172, 173, 123, 124, 38, 125, 40, 41, 126, 36, 37, 39, 42, 43, 44, 45, 46, 127, 91, 92, 93, 94, 95, 96, 97, 61, 62, 63, 174, 175, 176, 168, 177, 178, 53, 54, 55, 179, 57, 58, 59, 60, 180, 65, 66, 67, 68, 69, 70, 181, 87, 88, 89, 182, 183, 184, 185, 186, 187, 188, 189, 190, 191, 192, 193, 194, 195, 246, 247, 232, 233, 234, 235, 236, 237, 238, 227, 228, 229, 230, 231] (by decide +kernel) (by decide +kernel)
set_option maxRecDepth 20000 in
theorem gX5_tryOnce_X7_countUnknown : GoodIn wsX5_tryOnce (wsV RX5 133 RX7 yX7_countUnknown wsX7_countUnknown) := goodIn_app (goodIn_of _ (by decide +kernel)) ggX5_tryOnce_X7_countUnknown
set_option maxRecDepth 20000 in
theorem ggX5_tryOnce_X0_isMet : GoodIn wsX5_tryOnce wsX0_isMet := goodIn_r _ [200, 201, 202, 203, 248, 249, 250] (by decide +kernel) (by decide +kernel)
set_option maxRecDepth 20000 in
theorem gX5_tryOnce_X0_isMet : GoodIn wsX5_tryOnce (wsV RX5 137 RX0 yX0_isMet wsX0_isMet) := goodIn_app (goodIn_of _ (by decide +kernel)) ggX5_tryOnce_X0_isMet
theorem dX5_tryOnce_0 : decode cX5_tryOnce 0 = .ok (.aload_n 0, 1) := by decide +kernel
theorem dX5_tryOnce_1 : decode cX5_tryOnce 1 = .ok (.dup, 1) := by decide +kernel
theorem dX5_tryOnce_2 : decode cX5_tryOnce 2 = .ok (.getfield 13, 3) := by decide +kernel
theorem dX5_tryOnce_5 : decode cX5_tryOnce 5 = .ok (.iconst 1, 1) := by decide +kernel
theorem dX5_tryOnce_6 : decode cX5_tryOnce 6 = .ok (.iadd, 1) := by decide +kernel
theorem dX5_tryOnce_7 : decode cX5_tryOnce 7 = .ok (.putfield 13, 3) := by decide +kernel
theorem dX5_tryOnce_10 : decode cX5_tryOnce 10 = .ok (.aload_n 0, 1) := by decide +kernel
theorem dX5_tryOnce_11 : decode cX5_tryOnce 11 = .ok (.invokevirtual 105, 3) := by decide +kernel
theorem dX5_tryOnce_14 : decode cX5_tryOnce 14 = .ok (.ifCond .eq 10, 3) := by decide +kernel
theorem dX5_tryOnce_17 : decode cX5_tryOnce 17 = .ok (.aload_n 0, 1) := by decide +kernel
theorem dX5_tryOnce_18 : decode cX5_tryOnce 18 = .ok (.invokevirtual 109, 3) := by decide +kernel
theorem dX5_tryOnce_21 : decode cX5_tryOnce 21 = .ok (.ifCond .ne 5, 3) := by decide +kernel
theorem dX5_tryOnce_24 : decode cX5_tryOnce 24 = .ok (.iconst 0, 1) := by decide +kernel
theorem dX5_tryOnce_25 : decode cX5_tryOnce 25 = .ok (.ireturn, 1) := by decide +kernel
theorem dX5_tryOnce_26 : decode cX5_tryOnce 26 = .ok (.aload_n 0, 1) := by decide +kernel
theorem dX5_tryOnce_27 : decode cX5_tryOnce 27 = .ok (.invokevirtual 112, 3) := by decide +kernel
theorem dX5_tryOnce_30 : decode cX5_tryOnce 30 = .ok (.istore_n 1, 1) := by decide +kernel
theorem dX5_tryOnce_31 : decode cX5_tryOnce 31 = .ok (.aload_n 0, 1) := by decide +kernel
theorem dX5_tryOnce_32 : decode cX5_tryOnce 32 = .ok (.iload_n 1, 1) := by decide +kernel
theorem dX5_tryOnce_33 : decode cX5_tryOnce 33 = .ok (.invokevirtual 116, 3) := by decide +kernel
theorem dX5_tryOnce_36 : decode cX5_tryOnce 36 = .ok (.iconst 0, 1) := by decide +kernel
theorem dX5_tryOnce_37 : decode cX5_tryOnce 37 = .ok (.istore_n 2, 1) := by decide +kernel
theorem dX5_tryOnce_38 : decode cX5_tryOnce 38 = .ok (.iload_n 2, 1) := by decide +kernel
theorem dX5_tryOnce_39 : decode cX5_tryOnce 39 = .ok (.iload_n 1, 1) := by decide +kernel
theorem dX5_tryOnce_40 : decode cX5_tryOnce 40 = .ok (.if_icmp .ge 63, 3) := by decide +kernel
theorem dX5_tryOnce_43 : decode cX5_tryOnce 43 = .ok (.aload_n 0, 1) := by decide +kernel
theorem dX5_tryOnce_44 : decode cX5_tryOnce 44 = .ok (.dup, 1) := by decide +kernel
theorem dX5_tryOnce_45 : decode cX5_tryOnce 45 = .ok (.getfield 20, 3) := by decide +kernel
theorem dX5_tryOnce_48 : decode cX5_tryOnce 48 = .ok (.iconst 1, 1) := by decide +kernel
theorem dX5_tryOnce_49 : decode cX5_tryOnce 49 = .ok (.iadd, 1) := by decide +kernel
theorem dX5_tryOnce_50 : decode cX5_tryOnce 50 = .ok (.putfield 20, 3) := by decide +kernel
theorem dX5_tryOnce_53 : decode cX5_tryOnce 53 = .ok (.aload_n 0, 1) := by decide +kernel
theorem dX5_tryOnce_54 : decode cX5_tryOnce 54 = .ok (.aload_n 0, 1) := by decide +kernel
theorem dX5_tryOnce_55 : decode cX5_tryOnce 55 = .ok (.getfield 95, 3) := by decide +kernel
theorem dX5_tryOnce_58 : decode cX5_tryOnce 58 = .ok (.iload_n 2, 1) := by decide +kernel
theorem dX5_tryOnce_59 : decode cX5_tryOnce 59 = .ok (.iaload, 1) := by decide +kernel
theorem dX5_tryOnce_60 : decode cX5_tryOnce 60 = .ok (.invokevirtual 120, 3) := by decide +kernel
theorem dX5_tryOnce_63 : decode cX5_tryOnce 63 = .ok (.ifCond .eq 16, 3) := by decide +kernel
theorem dX5_tryOnce_66 : decode cX5_tryOnce 66 = .ok (.aload_n 0, 1) := by decide +kernel
theorem dX5_tryOnce_67 : decode cX5_tryOnce 67 = .ok (.dup, 1) := by decide +kernel
theorem dX5_tryOnce_68 : decode cX5_tryOnce 68 = .ok (.getfield 23, 3) := by decide +kernel
theorem dX5_tryOnce_71 : decode cX5_tryOnce 71 = .ok (.iconst 1, 1) := by decide +kernel
theorem dX5_tryOnce_72 : decode cX5_tryOnce 72 = .ok (.iadd, 1) := by decide +kernel
theorem dX5_tryOnce_73 : decode cX5_tryOnce 73 = .ok (.putfield 23, 3) := by decide +kernel
theorem dX5_tryOnce_76 : decode cX5_tryOnce 76 = .ok (.goto 21, 3) := by decide +kernel
theorem dX5_tryOnce_79 : decode cX5_tryOnce 79 = .ok (.aload_n 0, 1) := by decide +kernel
theorem dX5_tryOnce_80 : decode cX5_tryOnce 80 = .ok (.getfield 98, 3) := by decide +kernel
theorem dX5_tryOnce_83 : decode cX5_tryOnce 83 = .ok (.iconst 0, 1) := by decide +kernel
theorem dX5_tryOnce_84 : decode cX5_tryOnce 84 = .ok (.aload_n 0, 1) := by decide +kernel
theorem dX5_tryOnce_85 : decode cX5_tryOnce 85 = .ok (.getfield 88, 3) := by decide +kernel
theorem dX5_tryOnce_88 : decode cX5_tryOnce 88 = .ok (.iconst 0, 1) := by decide +kernel
theorem dX5_tryOnce_89 : decode cX5_tryOnce 89 = .ok (.aload_n 0, 1) := by decide +kernel
theorem dX5_tryOnce_90 : decode cX5_tryOnce 90 = .ok (.getfield 88, 3) := by decide +kernel
theorem dX5_tryOnce_93 : decode cX5_tryOnce 93 = .ok (.arraylength, 1) := by decide +kernel
theorem dX5_tryOnce_94 : decode cX5_tryOnce 94 = .ok (.invokestatic 124, 3) := by decide +kernel
theorem dX5_tryOnce_97 : decode cX5_tryOnce 97 = .ok (.iinc 2 1, 3) := by decide +kernel
theorem dX5_tryOnce_100 : decode cX5_tryOnce 100 = .ok (.goto (-62), 3) := by decide +kernel
theorem dX5_tryOnce_103 : decode cX5_tryOnce 103 = .ok (.aload_n 0, 1) := by decide +kernel
theorem dX5_tryOnce_104 : decode cX5_tryOnce 104 = .ok (.aload_n 0, 1) := by decide +kernel
theorem dX5_tryOnce_105 : decode cX5_tryOnce 105 = .ok (.invokevirtual 130, 3) := by decide +kernel
theorem dX5_tryOnce_108 : decode cX5_tryOnce 108 = .ok (.putfield 26, 3) := by decide +kernel
theorem dX5_tryOnce_111 : decode cX5_tryOnce 111 = .ok (.aload_n 0, 1) := by decide +kernel
theorem dX5_tryOnce_112 : decode cX5_tryOnce 112 = .ok (.aload_n 0, 1) := by decide +kernel
theorem dX5_tryOnce_113 : decode cX5_tryOnce 113 = .ok (.getfield 69, 3) := by decide +kernel
theorem dX5_tryOnce_116 : decode cX5_tryOnce 116 = .ok (.aload_n 0, 1) := by decide +kernel
theorem dX5_tryOnce_117 : decode cX5_tryOnce 117 = .ok (.getfield 88, 3) := by decide +kernel
theorem dX5_tryOnce_120 : decode cX5_tryOnce 120 = .ok (.invokevirtual 133, 3) := by decide +kernel
theorem dX5_tryOnce_123 : decode cX5_tryOnce 123 = .ok (.putfield 29, 3) := by decide +kernel
theorem dX5_tryOnce_126 : decode cX5_tryOnce 126 = .ok (.aload_n 0, 1) := by decide +kernel
theorem dX5_tryOnce_127 : decode cX5_tryOnce 127 = .ok (.aload_n 0, 1) := by decide +kernel
theorem dX5_tryOnce_128 : decode cX5_tryOnce 128 = .ok (.getfield 44, 3) := by decide +kernel
theorem dX5_tryOnce_131 : decode cX5_tryOnce 131 = .ok (.aload_n 0, 1) := by decide +kernel
theorem dX5_tryOnce_132 : decode cX5_tryOnce 132 = .ok (.getfield 26, 3) := by decide +kernel
theorem dX5_tryOnce_135 : decode cX5_tryOnce 135 = .ok (.aload_n 0, 1) := by decide +kernel
theorem dX5_tryOnce_136 : decode cX5_tryOnce 136 = .ok (.getfield 29, 3) := by decide +kernel
theorem dX5_tryOnce_139 : decode cX5_tryOnce 139 = .ok (.ifCond .ne 7, 3) := by decide +kernel
theorem dX5_tryOnce_142 : decode cX5_tryOnce 142 = .ok (.iconst 1, 1) := by decide +kernel
theorem dX5_tryOnce_143 : decode cX5_tryOnce 143 = .ok (.goto 4, 3) := by decide +kernel
theorem dX5_tryOnce_146 : decode cX5_tryOnce 146 = .ok (.iconst 0, 1) := by decide +kernel
theorem dX5_tryOnce_147 : decode cX5_tryOnce 147 = .ok (.invokevirtual 137, 3) := by decide +kernel
theorem dX5_tryOnce_150 : decode cX5_tryOnce 150 = .ok (.putfield 7, 3) := by decide +kernel
theorem dX5_tryOnce_153 : decode cX5_tryOnce 153 = .ok (.aload_n 0, 1) := by decide +kernel
theorem dX5_tryOnce_154 : decode cX5_tryOnce 154 = .ok (.getfield 7, 3) := by decide +kernel
theorem dX5_tryOnce_157 : decode cX5_tryOnce 157 = .ok (.ireturn, 1) := by decide +kernel
set_option maxRecDepth 20000 in
theorem ggX5_drawWhole_X3_fill : GoodIn wsX5_drawWhole wsX3_fill := goodIn_r _ [15, 16, 17, 18, 19, 20, 21, 22, 23, 24, 25, 26, 27, 28, 29, 30, 31, 32, 33, 34, 14, 35, 36, 37, 38, 39, 40, 41, 42, 43, 44, 45, 46, 47, 48, 49, 50, 51, 52, 53, 54, 55, 56, 57, 58, 59, 60, 61, 62, 63, 64, 65, 66, 67, 68, 69, 70, 71, 72, 73, 74, 75, 76, 77, 78, 79, 80, 81, 82, 103, 104, 105, 111, 112, 113, 114, 115, 116, 117, 106, 107, 108, 109, 110, 118] (by decide +kernel) (by decide +kernel)
set_option maxRecDepth 20000 in
theorem gX5_drawWhole_X3_fill : GoodIn wsX5_drawWhole (wsV RX5 143 RX3 yX3_fill wsX3_fill) := goodIn_app (goodIn_of _ (by decide +kernel)) ggX5_drawWhole_X3_fill
theorem dX5_drawWhole_0 : decode cX5_drawWhole 0 = .ok (.iconst 0, 1) := by decide +kernel
theorem dX5_drawWhole_1 : decode cX5_drawWhole 1 = .ok (.istore_n 1, 1) := by decide +kernel
theorem dX5_drawWhole_2 : decode cX5_drawWhole 2 = .ok (.iconst 0, 1) := by decide +kernel
theorem dX5_drawWhole_3 : decode cX5_drawWhole 3 = .ok (.istore_n 2, 1) := by decide +kernel
theorem dX5_drawWhole_4 : decode cX5_drawWhole 4 = .ok (.iload_n 2, 1) := by decide +kernel
theorem dX5_drawWhole_5 : decode cX5_drawWhole 5 = .ok (.sipush 200, 3) := by decide +kernel
theorem dX5_drawWhole_8 : decode cX5_drawWhole 8 = .ok (.if_icmp .ge 35, 3) := by decide +kernel
theorem dX5_drawWhole_11 : decode cX5_drawWhole 11 = .ok (.iload_n 1, 1) := by decide +kernel
theorem dX5_drawWhole_12 : decode cX5_drawWhole 12 = .ok (.ifCond .ne 31, 3) := by decide +kernel
theorem dX5_drawWhole_15 : decode cX5_drawWhole 15 = .ok (.aload_n 0, 1) := by decide +kernel
theorem dX5_drawWhole_16 : decode cX5_drawWhole 16 = .ok (.getfield 60, 3) := by decide +kernel
theorem dX5_drawWhole_19 : decode cX5_drawWhole 19 = .ok (.invokevirtual 143, 3) := by decide +kernel
theorem dX5_drawWhole_22 : decode cX5_drawWhole 22 = .ok (.istore_n 1, 1) := by decide +kernel
theorem dX5_drawWhole_23 : decode cX5_drawWhole 23 = .ok (.iload_n 1, 1) := by decide +kernel
theorem dX5_drawWhole_24 : decode cX5_drawWhole 24 = .ok (.ifCond .ne 13, 3) := by decide +kernel
theorem dX5_drawWhole_27 : decode cX5_drawWhole 27 = .ok (.aload_n 0, 1) := by decide +kernel
theorem dX5_drawWhole_28 : decode cX5_drawWhole 28 = .ok (.dup, 1) := by decide +kernel
theorem dX5_drawWhole_29 : decode cX5_drawWhole 29 = .ok (.getfield 17, 3) := by decide +kernel
theorem dX5_drawWhole_32 : decode cX5_drawWhole 32 = .ok (.iconst 1, 1) := by decide +kernel
theorem dX5_drawWhole_33 : decode cX5_drawWhole 33 = .ok (.iadd, 1) := by decide +kernel
theorem dX5_drawWhole_34 : decode cX5_drawWhole 34 = .ok (.putfield 17, 3) := by decide +kernel
theorem dX5_drawWhole_37 : decode cX5_drawWhole 37 = .ok (.iinc 2 1, 3) := by decide +kernel
theorem dX5_drawWhole_40 : decode cX5_drawWhole 40 = .ok (.goto (-36), 3) := by decide +kernel
theorem dX5_drawWhole_43 : decode cX5_drawWhole 43 = .ok (.iload_n 1, 1) := by decide +kernel
theorem dX5_drawWhole_44 : decode cX5_drawWhole 44 = .ok (.ifCond .eq 45, 3) := by decide +kernel
theorem dX5_drawWhole_47 : decode cX5_drawWhole 47 = .ok (.aload_n 0, 1) := by decide +kernel
theorem dX5_drawWhole_48 : decode cX5_drawWhole 48 = .ok (.getfield 60, 3) := by decide +kernel
theorem dX5_drawWhole_51 : decode cX5_drawWhole 51 = .ok (.getfield 146, 3) := by decide +kernel
theorem dX5_drawWhole_54 : decode cX5_drawWhole 54 = .ok (.getfield 150, 3) := by decide +kernel
theorem dX5_drawWhole_57 : decode cX5_drawWhole 57 = .ok (.iconst 0, 1) := by decide +kernel
theorem dX5_drawWhole_58 : decode cX5_drawWhole 58 = .ok (.aload_n 0, 1) := by decide +kernel
theorem dX5_drawWhole_59 : decode cX5_drawWhole 59 = .ok (.getfield 85, 3) := by decide +kernel
theorem dX5_drawWhole_62 : decode cX5_drawWhole 62 = .ok (.iconst 0, 1) := by decide +kernel
theorem dX5_drawWhole_63 : decode cX5_drawWhole 63 = .ok (.aload_n 0, 1) := by decide +kernel
theorem dX5_drawWhole_64 : decode cX5_drawWhole 64 = .ok (.getfield 85, 3) := by decide +kernel
theorem dX5_drawWhole_67 : decode cX5_drawWhole 67 = .ok (.arraylength, 1) := by decide +kernel
theorem dX5_drawWhole_68 : decode cX5_drawWhole 68 = .ok (.invokestatic 124, 3) := by decide +kernel
theorem dX5_drawWhole_71 : decode cX5_drawWhole 71 = .ok (.aload_n 0, 1) := by decide +kernel
theorem dX5_drawWhole_72 : decode cX5_drawWhole 72 = .ok (.getfield 85, 3) := by decide +kernel
theorem dX5_drawWhole_75 : decode cX5_drawWhole 75 = .ok (.iconst 0, 1) := by decide +kernel
theorem dX5_drawWhole_76 : decode cX5_drawWhole 76 = .ok (.aload_n 0, 1) := by decide +kernel
theorem dX5_drawWhole_77 : decode cX5_drawWhole 77 = .ok (.getfield 88, 3) := by decide +kernel
theorem dX5_drawWhole_80 : decode cX5_drawWhole 80 = .ok (.iconst 0, 1) := by decide +kernel
theorem dX5_drawWhole_81 : decode cX5_drawWhole 81 = .ok (.aload_n 0, 1) := by decide +kernel
theorem dX5_drawWhole_82 : decode cX5_drawWhole 82 = .ok (.getfield 88, 3) := by decide +kernel
theorem dX5_drawWhole_85 : decode cX5_drawWhole 85 = .ok (.arraylength, 1) := by decide +kernel
theorem dX5_drawWhole_86 : decode cX5_drawWhole 86 = .ok (.invokestatic 124, 3) := by decide +kernel
theorem dX5_drawWhole_89 : decode cX5_drawWhole 89 = .ok (.iload_n 1, 1) := by decide +kernel
theorem dX5_drawWhole_90 : decode cX5_drawWhole 90 = .ok (.ireturn, 1) := by decide +kernel
set_option maxRecDepth 20000 in
theorem ggX5_takeOutEmptySets_X5_markSetsWith : GoodIn wsX5_takeOutEmptySets wsX5_markSetsWith := goodIn_r _ [13, 1, 2, 3, 6, 4, 5, 82, 83, 84, 85, 86, 87, 88, 89, 90, 91, 92, 93, 94, 95, 96, 97, 98, 99, 100, 101, 102, 103, 104, 105, 106, 107, 108, 109, 110] (by decide +kernel) (by decide +kernel)
set_option maxRecDepth 20000 in
theorem gX5_takeOutEmptySets_X5_markSetsWith : GoodIn wsX5_takeOutEmptySets (wsV RX5 155 RX5 yX5_markSetsWith wsX5_markSetsWith) := goodIn_app (goodIn_of _ (by decide +kernel)) ggX5_takeOutEmptySets_X5_markSetsWith
set_option maxRecDepth 20000 in
theorem ggX5_takeOutEmptySets_X8_count : GoodIn wsX5_takeOutEmptySets wsX8_count := goodIn_r _ [18, 19, 20, 21, 22, 23, 24, 25, 26, 27, 28, 29, 30, 31, 32, 33, 34, 35, 36, 37, 38, 39, 40, 41, 42, 43, 44, 45, 46, 47, 48, 49, 50, 51, 52, 53, 54, 55, 56, 17, 57, 58, 59, 60, 61, 62, 63, 64, 65, 66, 67, 68, 69, 70, 71, 72, 73, 74, 75, 76, 77, 78, 79, 80, 81, 111, 112, 113, 114, 115, 116, 117, 118, 119, 102, 103, 104, 105, 106, 107, 108] (by decide +kernel) (by decide +kernel)
set_option maxRecDepth 20000 in
theorem gX5_takeOutEmptySets_X8_count : GoodIn wsX5_takeOutEmptySets (wsV RX5 163 RX8 yX8_count wsX8_count) := goodIn_app (goodIn_of _ (by decide +kernel)) ggX5_takeOutEmptySets_X8_count
theorem dX5_takeOutEmptySets_0 : decode cX5_takeOutEmptySets 0 = .ok (.aload_n 0, 1) := by decide +kernel
theorem dX5_takeOutEmptySets_1 : decode cX5_takeOutEmptySets 1 = .ok (.iconst 2, 1) := by decide +kernel
theorem dX5_takeOutEmptySets_2 : decode cX5_takeOutEmptySets 2 = .ok (.invokevirtual 155, 3) := by decide +kernel
theorem dX5_takeOutEmptySets_5 : decode cX5_takeOutEmptySets 5 = .ok (.iconst 0, 1) := by decide +kernel
theorem dX5_takeOutEmptySets_6 : decode cX5_takeOutEmptySets 6 = .ok (.istore_n 1, 1) := by decide +kernel
theorem dX5_takeOutEmptySets_7 : decode cX5_takeOutEmptySets 7 = .ok (.iload_n 1, 1) := by decide +kernel
theorem dX5_takeOutEmptySets_8 : decode cX5_takeOutEmptySets 8 = .ok (.aload_n 0, 1) := by decide +kernel
theorem dX5_takeOutEmptySets_9 : decode cX5_takeOutEmptySets 9 = .ok (.getfield 32, 3) := by decide +kernel
theorem dX5_takeOutEmptySets_12 : decode cX5_takeOutEmptySets 12 = .ok (.getfield 80, 3) := by decide +kernel
theorem dX5_takeOutEmptySets_15 : decode cX5_takeOutEmptySets 15 = .ok (.if_icmp .ge 45, 3) := by decide +kernel
theorem dX5_takeOutEmptySets_18 : decode cX5_takeOutEmptySets 18 = .ok (.aload_n 0, 1) := by decide +kernel
theorem dX5_takeOutEmptySets_19 : decode cX5_takeOutEmptySets 19 = .ok (.getfield 91, 3) := by decide +kernel
theorem dX5_takeOutEmptySets_22 : decode cX5_takeOutEmptySets 22 = .ok (.aload_n 0, 1) := by decide +kernel
theorem dX5_takeOutEmptySets_23 : decode cX5_takeOutEmptySets 23 = .ok (.getfield 36, 3) := by decide +kernel
theorem dX5_takeOutEmptySets_26 : decode cX5_takeOutEmptySets 26 = .ok (.getfield 158, 3) := by decide +kernel
theorem dX5_takeOutEmptySets_29 : decode cX5_takeOutEmptySets 29 = .ok (.iload_n 1, 1) := by decide +kernel
theorem dX5_takeOutEmptySets_30 : decode cX5_takeOutEmptySets 30 = .ok (.iaload, 1) := by decide +kernel
theorem dX5_takeOutEmptySets_31 : decode cX5_takeOutEmptySets 31 = .ok (.baload, 1) := by decide +kernel
theorem dX5_takeOutEmptySets_32 : decode cX5_takeOutEmptySets 32 = .ok (.ifCond .eq 22, 3) := by decide +kernel
theorem dX5_takeOutEmptySets_35 : decode cX5_takeOutEmptySets 35 = .ok (.aload_n 0, 1) := by decide +kernel
theorem dX5_takeOutEmptySets_36 : decode cX5_takeOutEmptySets 36 = .ok (.getfield 40, 3) := by decide +kernel
theorem dX5_takeOutEmptySets_39 : decode cX5_takeOutEmptySets 39 = .ok (.iload_n 1, 1) := by decide +kernel
theorem dX5_takeOutEmptySets_40 : decode cX5_takeOutEmptySets 40 = .ok (.iaload, 1) := by decide +kernel
theorem dX5_takeOutEmptySets_41 : decode cX5_takeOutEmptySets 41 = .ok (.iconst 1, 1) := by decide +kernel
theorem dX5_takeOutEmptySets_42 : decode cX5_takeOutEmptySets 42 = .ok (.if_icmp .ne 5, 3) := by decide +kernel
theorem dX5_takeOutEmptySets_45 : decode cX5_takeOutEmptySets 45 = .ok (.iconst 0, 1) := by decide +kernel
theorem dX5_takeOutEmptySets_46 : decode cX5_takeOutEmptySets 46 = .ok (.ireturn, 1) := by decide +kernel
theorem dX5_takeOutEmptySets_47 : decode cX5_takeOutEmptySets 47 = .ok (.aload_n 0, 1) := by decide +kernel
theorem dX5_takeOutEmptySets_48 : decode cX5_takeOutEmptySets 48 = .ok (.getfield 88, 3) := by decide +kernel
theorem dX5_takeOutEmptySets_51 : decode cX5_takeOutEmptySets 51 = .ok (.iload_n 1, 1) := by decide +kernel
theorem dX5_takeOutEmptySets_52 : decode cX5_takeOutEmptySets 52 = .ok (.iconst (-1), 1) := by decide +kernel
theorem dX5_takeOutEmptySets_53 : decode cX5_takeOutEmptySets 53 = .ok (.iastore, 1) := by decide +kernel
theorem dX5_takeOutEmptySets_54 : decode cX5_takeOutEmptySets 54 = .ok (.iinc 1 1, 3) := by decide +kernel
theorem dX5_takeOutEmptySets_57 : decode cX5_takeOutEmptySets 57 = .ok (.goto (-50), 3) := by decide +kernel
theorem dX5_takeOutEmptySets_60 : decode cX5_takeOutEmptySets 60 = .ok (.aload_n 0, 1) := by decide +kernel
theorem dX5_takeOutEmptySets_61 : decode cX5_takeOutEmptySets 61 = .ok (.getfield 76, 3) := by decide +kernel
theorem dX5_takeOutEmptySets_64 : decode cX5_takeOutEmptySets 64 = .ok (.aload_n 0, 1) := by decide +kernel
theorem dX5_takeOutEmptySets_65 : decode cX5_takeOutEmptySets 65 = .ok (.getfield 88, 3) := by decide +kernel
theorem dX5_takeOutEmptySets_68 : decode cX5_takeOutEmptySets 68 = .ok (.iconst 2, 1) := by decide +kernel
theorem dX5_takeOutEmptySets_69 : decode cX5_takeOutEmptySets 69 = .ok (.invokevirtual 163, 3) := by decide +kernel
theorem dX5_takeOutEmptySets_72 : decode cX5_takeOutEmptySets 72 = .ok (.iconst 2, 1) := by decide +kernel
theorem dX5_takeOutEmptySets_73 : decode cX5_takeOutEmptySets 73 = .ok (.if_icmp .ge 7, 3) := by decide +kernel
theorem dX5_takeOutEmptySets_76 : decode cX5_takeOutEmptySets 76 = .ok (.iconst 1, 1) := by decide +kernel
theorem dX5_takeOutEmptySets_77 : decode cX5_takeOutEmptySets 77 = .ok (.goto 4, 3) := by decide +kernel
theorem dX5_takeOutEmptySets_80 : decode cX5_takeOutEmptySets 80 = .ok (.iconst 0, 1) := by decide +kernel
theorem dX5_takeOutEmptySets_81 : decode cX5_takeOutEmptySets 81 = .ok (.ireturn, 1) := by decide +kernel
theorem dX5_markSetsWith_0 : decode cX5_markSetsWith 0 = .ok (.iconst 0, 1) := by decide +kernel
theorem dX5_markSetsWith_1 : decode cX5_markSetsWith 1 = .ok (.istore_n 2, 1) := by decide +kernel
theorem dX5_markSetsWith_2 : decode cX5_markSetsWith 2 = .ok (.iload_n 2, 1) := by decide +kernel
theorem dX5_markSetsWith_3 : decode cX5_markSetsWith 3 = .ok (.aload_n 0, 1) := by decide +kernel
theorem dX5_markSetsWith_4 : decode cX5_markSetsWith 4 = .ok (.getfield 32, 3) := by decide +kernel
theorem dX5_markSetsWith_7 : decode cX5_markSetsWith 7 = .ok (.getfield 80, 3) := by decide +kernel
theorem dX5_markSetsWith_10 : decode cX5_markSetsWith 10 = .ok (.if_icmp .ge 16, 3) := by decide +kernel
theorem dX5_markSetsWith_13 : decode cX5_markSetsWith 13 = .ok (.aload_n 0, 1) := by decide +kernel
theorem dX5_markSetsWith_14 : decode cX5_markSetsWith 14 = .ok (.getfield 91, 3) := by decide +kernel
theorem dX5_markSetsWith_17 : decode cX5_markSetsWith 17 = .ok (.iload_n 2, 1) := by decide +kernel
theorem dX5_markSetsWith_18 : decode cX5_markSetsWith 18 = .ok (.iconst 0, 1) := by decide +kernel
theorem dX5_markSetsWith_19 : decode cX5_markSetsWith 19 = .ok (.bastore, 1) := by decide +kernel
theorem dX5_markSetsWith_20 : decode cX5_markSetsWith 20 = .ok (.iinc 2 1, 3) := by decide +kernel
theorem dX5_markSetsWith_23 : decode cX5_markSetsWith 23 = .ok (.goto (-21), 3) := by decide +kernel
theorem dX5_markSetsWith_26 : decode cX5_markSetsWith 26 = .ok (.iconst 0, 1) := by decide +kernel
theorem dX5_markSetsWith_27 : decode cX5_markSetsWith 27 = .ok (.istore_n 2, 1) := by decide +kernel
theorem dX5_markSetsWith_28 : decode cX5_markSetsWith 28 = .ok (.iload_n 2, 1) := by decide +kernel
theorem dX5_markSetsWith_29 : decode cX5_markSetsWith 29 = .ok (.aload_n 0, 1) := by decide +kernel
theorem dX5_markSetsWith_30 : decode cX5_markSetsWith 30 = .ok (.getfield 32, 3) := by decide +kernel
theorem dX5_markSetsWith_33 : decode cX5_markSetsWith 33 = .ok (.getfield 80, 3) := by decide +kernel
theorem dX5_markSetsWith_36 : decode cX5_markSetsWith 36 = .ok (.if_icmp .ge 34, 3) := by decide +kernel
theorem dX5_markSetsWith_39 : decode cX5_markSetsWith 39 = .ok (.aload_n 0, 1) := by decide +kernel
theorem dX5_markSetsWith_40 : decode cX5_markSetsWith 40 = .ok (.getfield 40, 3) := by decide +kernel
theorem dX5_markSetsWith_43 : decode cX5_markSetsWith 43 = .ok (.iload_n 2, 1) := by decide +kernel
theorem dX5_markSetsWith_44 : decode cX5_markSetsWith 44 = .ok (.iaload, 1) := by decide +kernel
theorem dX5_markSetsWith_45 : decode cX5_markSetsWith 45 = .ok (.iload_n 1, 1) := by decide +kernel
theorem dX5_markSetsWith_46 : decode cX5_markSetsWith 46 = .ok (.if_icmp .ne 18, 3) := by decide +kernel
theorem dX5_markSetsWith_49 : decode cX5_markSetsWith 49 = .ok (.aload_n 0, 1) := by decide +kernel
theorem dX5_markSetsWith_50 : decode cX5_markSetsWith 50 = .ok (.getfield 91, 3) := by decide +kernel
theorem dX5_markSetsWith_53 : decode cX5_markSetsWith 53 = .ok (.aload_n 0, 1) := by decide +kernel
theorem dX5_markSetsWith_54 : decode cX5_markSetsWith 54 = .ok (.getfield 36, 3) := by decide +kernel
theorem dX5_markSetsWith_57 : decode cX5_markSetsWith 57 = .ok (.getfield 158, 3) := by decide +kernel
theorem dX5_markSetsWith_60 : decode cX5_markSetsWith 60 = .ok (.iload_n 2, 1) := by decide +kernel
theorem dX5_markSetsWith_61 : decode cX5_markSetsWith 61 = .ok (.iaload, 1) := by decide +kernel
theorem dX5_markSetsWith_62 : decode cX5_markSetsWith 62 = .ok (.iconst 1, 1) := by decide +kernel
theorem dX5_markSetsWith_63 : decode cX5_markSetsWith 63 = .ok (.bastore, 1) := by decide +kernel
theorem dX5_markSetsWith_64 : decode cX5_markSetsWith 64 = .ok (.iinc 2 1, 3) := by decide +kernel
theorem dX5_markSetsWith_67 : decode cX5_markSetsWith 67 = .ok (.goto (-39), 3) := by decide +kernel
theorem dX5_markSetsWith_70 : decode cX5_markSetsWith 70 = .ok (.return_, 1) := by decide +kernel
set_option maxRecDepth 20000 in
theorem ggX5_layRow_X5_markSetsWith : GoodIn wsX5_layRow wsX5_markSetsWith := goodIn_r _ [12, 1, 2, 6, 13, 3, 4, 14, 15, 16, 17, 18, 19, 20, 21, 22, 23, 24, 25, 26, 27, 28, 29, 30, 31, 32, 33, 34, 35, 36, 37, 38, 39, 40, 41, 42] (by decide +kernel) (by decide +kernel)
set_option maxRecDepth 20000 in
theorem gX5_layRow_X5_markSetsWith : GoodIn wsX5_layRow (wsV RX5 155 RX5 yX5_markSetsWith wsX5_markSetsWith) := goodIn_app (goodIn_of _ (by decide +kernel)) ggX5_layRow_X5_markSetsWith
theorem dX5_layRow_0 : decode cX5_layRow 0 = .ok (.aload_n 0, 1) := by decide +kernel
theorem dX5_layRow_1 : decode cX5_layRow 1 = .ok (.iconst 1, 1) := by decide +kernel
theorem dX5_layRow_2 : decode cX5_layRow 2 = .ok (.invokevirtual 155, 3) := by decide +kernel
theorem dX5_layRow_5 : decode cX5_layRow 5 = .ok (.iconst 0, 1) := by decide +kernel
theorem dX5_layRow_6 : decode cX5_layRow 6 = .ok (.istore_n 1, 1) := by decide +kernel
theorem dX5_layRow_7 : decode cX5_layRow 7 = .ok (.iconst 0, 1) := by decide +kernel
theorem dX5_layRow_8 : decode cX5_layRow 8 = .ok (.istore_n 2, 1) := by decide +kernel
theorem dX5_layRow_9 : decode cX5_layRow 9 = .ok (.iload_n 2, 1) := by decide +kernel
theorem dX5_layRow_10 : decode cX5_layRow 10 = .ok (.aload_n 0, 1) := by decide +kernel
theorem dX5_layRow_11 : decode cX5_layRow 11 = .ok (.getfield 32, 3) := by decide +kernel
theorem dX5_layRow_14 : decode cX5_layRow 14 = .ok (.getfield 80, 3) := by decide +kernel
theorem dX5_layRow_17 : decode cX5_layRow 17 = .ok (.if_icmp .ge 50, 3) := by decide +kernel
theorem dX5_layRow_20 : decode cX5_layRow 20 = .ok (.aload_n 0, 1) := by decide +kernel
theorem dX5_layRow_21 : decode cX5_layRow 21 = .ok (.getfield 36, 3) := by decide +kernel
theorem dX5_layRow_24 : decode cX5_layRow 24 = .ok (.getfield 158, 3) := by decide +kernel
theorem dX5_layRow_27 : decode cX5_layRow 27 = .ok (.iload_n 2, 1) := by decide +kernel
theorem dX5_layRow_28 : decode cX5_layRow 28 = .ok (.iaload, 1) := by decide +kernel
theorem dX5_layRow_29 : decode cX5_layRow 29 = .ok (.iload_n 2, 1) := by decide +kernel
theorem dX5_layRow_30 : decode cX5_layRow 30 = .ok (.if_icmp .ne 31, 3) := by decide +kernel
theorem dX5_layRow_33 : decode cX5_layRow 33 = .ok (.aload_n 0, 1) := by decide +kernel
theorem dX5_layRow_34 : decode cX5_layRow 34 = .ok (.getfield 88, 3) := by decide +kernel
theorem dX5_layRow_37 : decode cX5_layRow 37 = .ok (.iload_n 2, 1) := by decide +kernel
theorem dX5_layRow_38 : decode cX5_layRow 38 = .ok (.iaload, 1) := by decide +kernel
theorem dX5_layRow_39 : decode cX5_layRow 39 = .ok (.ifCond .lt 22, 3) := by decide +kernel
theorem dX5_layRow_42 : decode cX5_layRow 42 = .ok (.aload_n 0, 1) := by decide +kernel
theorem dX5_layRow_43 : decode cX5_layRow 43 = .ok (.getfield 91, 3) := by decide +kernel
theorem dX5_layRow_46 : decode cX5_layRow 46 = .ok (.iload_n 2, 1) := by decide +kernel
theorem dX5_layRow_47 : decode cX5_layRow 47 = .ok (.baload, 1) := by decide +kernel
theorem dX5_layRow_48 : decode cX5_layRow 48 = .ok (.ifCond .ne 13, 3) := by decide +kernel
theorem dX5_layRow_51 : decode cX5_layRow 51 = .ok (.aload_n 0, 1) := by decide +kernel
theorem dX5_layRow_52 : decode cX5_layRow 52 = .ok (.getfield 95, 3) := by decide +kernel
theorem dX5_layRow_55 : decode cX5_layRow 55 = .ok (.iload_n 1, 1) := by decide +kernel
theorem dX5_layRow_56 : decode cX5_layRow 56 = .ok (.iload_n 2, 1) := by decide +kernel
theorem dX5_layRow_57 : decode cX5_layRow 57 = .ok (.iastore, 1) := by decide +kernel
theorem dX5_layRow_58 : decode cX5_layRow 58 = .ok (.iinc 1 1, 3) := by decide +kernel
theorem dX5_layRow_61 : decode cX5_layRow 61 = .ok (.iinc 2 1, 3) := by decide +kernel
theorem dX5_layRow_64 : decode cX5_layRow 64 = .ok (.goto (-55), 3) := by decide +kernel
theorem dX5_layRow_67 : decode cX5_layRow 67 = .ok (.iload_n 1, 1) := by decide +kernel
theorem dX5_layRow_68 : decode cX5_layRow 68 = .ok (.ireturn, 1) := by decide +kernel
set_option maxRecDepth 20000 in
theorem ggX5_mixRow_X2_below : GoodIn wsX5_mixRow wsX2_below := goodIn_r _ [7, 8, 9, 10, 11, 12, 13, 6, 14, 35] (by decide +kernel) (by decide +kernel)
set_option maxRecDepth 20000 in
theorem gX5_mixRow_X2_below : GoodIn wsX5_mixRow (wsV RX5 167 RX2 yX2_below wsX2_below) := goodIn_app (goodIn_of _ (by decide +kernel)) ggX5_mixRow_X2_below
theorem dX5_mixRow_0 : decode cX5_mixRow 0 = .ok (.iload_n 1, 1) := by decide +kernel
theorem dX5_mixRow_1 : decode cX5_mixRow 1 = .ok (.iconst 1, 1) := by decide +kernel
theorem dX5_mixRow_2 : decode cX5_mixRow 2 = .ok (.isub, 1) := by decide +kernel
theorem dX5_mixRow_3 : decode cX5_mixRow 3 = .ok (.istore_n 2, 1) := by decide +kernel
theorem dX5_mixRow_4 : decode cX5_mixRow 4 = .ok (.iload_n 2, 1) := by decide +kernel
theorem dX5_mixRow_5 : decode cX5_mixRow 5 = .ok (.iconst 1, 1) := by decide +kernel
theorem dX5_mixRow_6 : decode cX5_mixRow 6 = .ok (.if_icmp .lt 48, 3) := by decide +kernel
theorem dX5_mixRow_9 : decode cX5_mixRow 9 = .ok (.aload_n 0, 1) := by decide +kernel
theorem dX5_mixRow_10 : decode cX5_mixRow 10 = .ok (.getfield 51, 3) := by decide +kernel
theorem dX5_mixRow_13 : decode cX5_mixRow 13 = .ok (.iload_n 2, 1) := by decide +kernel
theorem dX5_mixRow_14 : decode cX5_mixRow 14 = .ok (.iconst 1, 1) := by decide +kernel
theorem dX5_mixRow_15 : decode cX5_mixRow 15 = .ok (.iadd, 1) := by decide +kernel
theorem dX5_mixRow_16 : decode cX5_mixRow 16 = .ok (.invokevirtual 167, 3) := by decide +kernel
theorem dX5_mixRow_19 : decode cX5_mixRow 19 = .ok (.istore_n 3, 1) := by decide +kernel
theorem dX5_mixRow_20 : decode cX5_mixRow 20 = .ok (.aload_n 0, 1) := by decide +kernel
theorem dX5_mixRow_21 : decode cX5_mixRow 21 = .ok (.getfield 95, 3) := by decide +kernel
theorem dX5_mixRow_24 : decode cX5_mixRow 24 = .ok (.iload_n 2, 1) := by decide +kernel
theorem dX5_mixRow_25 : decode cX5_mixRow 25 = .ok (.iaload, 1) := by decide +kernel
theorem dX5_mixRow_26 : decode cX5_mixRow 26 = .ok (.istore 4, 2) := by decide +kernel
theorem dX5_mixRow_28 : decode cX5_mixRow 28 = .ok (.aload_n 0, 1) := by decide +kernel
theorem dX5_mixRow_29 : decode cX5_mixRow 29 = .ok (.getfield 95, 3) := by decide +kernel
theorem dX5_mixRow_32 : decode cX5_mixRow 32 = .ok (.iload_n 2, 1) := by decide +kernel
theorem dX5_mixRow_33 : decode cX5_mixRow 33 = .ok (.aload_n 0, 1) := by decide +kernel
theorem dX5_mixRow_34 : decode cX5_mixRow 34 = .ok (.getfield 95, 3) := by decide +kernel
theorem dX5_mixRow_37 : decode cX5_mixRow 37 = .ok (.iload_n 3, 1) := by decide +kernel
theorem dX5_mixRow_38 : decode cX5_mixRow 38 = .ok (.iaload, 1) := by decide +kernel
theorem dX5_mixRow_39 : decode cX5_mixRow 39 = .ok (.iastore, 1) := by decide +kernel
theorem dX5_mixRow_40 : decode cX5_mixRow 40 = .ok (.aload_n 0, 1) := by decide +kernel
theorem dX5_mixRow_41 : decode cX5_mixRow 41 = .ok (.getfield 95, 3) := by decide +kernel
theorem dX5_mixRow_44 : decode cX5_mixRow 44 = .ok (.iload_n 3, 1) := by decide +kernel
theorem dX5_mixRow_45 : decode cX5_mixRow 45 = .ok (.iload 4, 2) := by decide +kernel
theorem dX5_mixRow_47 : decode cX5_mixRow 47 = .ok (.iastore, 1) := by decide +kernel
theorem dX5_mixRow_48 : decode cX5_mixRow 48 = .ok (.iinc 2 (-1), 3) := by decide +kernel
theorem dX5_mixRow_51 : decode cX5_mixRow 51 = .ok (.goto (-47), 3) := by decide +kernel
theorem dX5_mixRow_54 : decode cX5_mixRow 54 = .ok (.return_, 1) := by decide +kernel
set_option maxRecDepth 20000 in
theorem ggX5_needsSet_X8_count : GoodIn wsX5_needsSet wsX8_count := goodIn_r _ [12, 13, 14, 15, 16, 17, 18, 19, 20, 21, 22, 23, 24, 25, 26, 27, 28, 29, 30, 31, 32, 33, 34, 35, 36, 37, 38, 39, 40, 41, 42, 43, 44, 45, 46, 47, 48, 49, 50, 11, 51, 52, 53, 54, 55, 56, 57, 58, 59, 60, 61, 62, 63, 64, 65, 66, 67, 68, 69, 70, 71, 72, 73, 74, 75, 105, 106, 107, 108, 109, 110, 111, 112, 113, 96, 97, 98, 99, 100, 101, 102] (by decide +kernel) (by decide +kernel)
set_option maxRecDepth 20000 in
theorem gX5_needsSet_X8_count : GoodIn wsX5_needsSet (wsV RX5 163 RX8 yX8_count wsX8_count) := goodIn_app (goodIn_of _ (by decide +kernel)) ggX5_needsSet_X8_count
theorem dX5_needsSet_0 : decode cX5_needsSet 0 = .ok (.iconst 0, 1) := by decide +kernel
theorem dX5_needsSet_1 : decode cX5_needsSet 1 = .ok (.istore_n 2, 1) := by decide +kernel
theorem dX5_needsSet_2 : decode cX5_needsSet 2 = .ok (.iconst 0, 1) := by decide +kernel
theorem dX5_needsSet_3 : decode cX5_needsSet 3 = .ok (.istore_n 3, 1) := by decide +kernel
theorem dX5_needsSet_4 : decode cX5_needsSet 4 = .ok (.iload_n 3, 1) := by decide +kernel
theorem dX5_needsSet_5 : decode cX5_needsSet 5 = .ok (.aload_n 0, 1) := by decide +kernel
theorem dX5_needsSet_6 : decode cX5_needsSet 6 = .ok (.getfield 32, 3) := by decide +kernel
theorem dX5_needsSet_9 : decode cX5_needsSet 9 = .ok (.getfield 80, 3) := by decide +kernel
theorem dX5_needsSet_12 : decode cX5_needsSet 12 = .ok (.if_icmp .ge 74, 3) := by decide +kernel
theorem dX5_needsSet_15 : decode cX5_needsSet 15 = .ok (.aload_n 0, 1) := by decide +kernel
theorem dX5_needsSet_16 : decode cX5_needsSet 16 = .ok (.getfield 36, 3) := by decide +kernel
theorem dX5_needsSet_19 : decode cX5_needsSet 19 = .ok (.getfield 158, 3) := by decide +kernel
theorem dX5_needsSet_22 : decode cX5_needsSet 22 = .ok (.iload_n 3, 1) := by decide +kernel
theorem dX5_needsSet_23 : decode cX5_needsSet 23 = .ok (.iaload, 1) := by decide +kernel
theorem dX5_needsSet_24 : decode cX5_needsSet 24 = .ok (.iload_n 1, 1) := by decide +kernel
theorem dX5_needsSet_25 : decode cX5_needsSet 25 = .ok (.if_icmp .ne 7, 3) := by decide +kernel
theorem dX5_needsSet_28 : decode cX5_needsSet 28 = .ok (.iconst 1, 1) := by decide +kernel
theorem dX5_needsSet_29 : decode cX5_needsSet 29 = .ok (.goto 4, 3) := by decide +kernel
theorem dX5_needsSet_32 : decode cX5_needsSet 32 = .ok (.iconst 0, 1) := by decide +kernel
theorem dX5_needsSet_33 : decode cX5_needsSet 33 = .ok (.istore 4, 2) := by decide +kernel
theorem dX5_needsSet_35 : decode cX5_needsSet 35 = .ok (.iload_n 2, 1) := by decide +kernel
theorem dX5_needsSet_36 : decode cX5_needsSet 36 = .ok (.ifCond .ne 17, 3) := by decide +kernel
theorem dX5_needsSet_39 : decode cX5_needsSet 39 = .ok (.iload 4, 2) := by decide +kernel
theorem dX5_needsSet_41 : decode cX5_needsSet 41 = .ok (.ifCond .eq 16, 3) := by decide +kernel
theorem dX5_needsSet_44 : decode cX5_needsSet 44 = .ok (.aload_n 0, 1) := by decide +kernel
theorem dX5_needsSet_45 : decode cX5_needsSet 45 = .ok (.getfield 88, 3) := by decide +kernel
theorem dX5_needsSet_48 : decode cX5_needsSet 48 = .ok (.iload_n 3, 1) := by decide +kernel
theorem dX5_needsSet_49 : decode cX5_needsSet 49 = .ok (.iaload, 1) := by decide +kernel
theorem dX5_needsSet_50 : decode cX5_needsSet 50 = .ok (.ifCond .lt 7, 3) := by decide +kernel
theorem dX5_needsSet_53 : decode cX5_needsSet 53 = .ok (.iconst 1, 1) := by decide +kernel
theorem dX5_needsSet_54 : decode cX5_needsSet 54 = .ok (.goto 4, 3) := by decide +kernel
theorem dX5_needsSet_57 : decode cX5_needsSet 57 = .ok (.iconst 0, 1) := by decide +kernel
theorem dX5_needsSet_58 : decode cX5_needsSet 58 = .ok (.istore_n 2, 1) := by decide +kernel
theorem dX5_needsSet_59 : decode cX5_needsSet 59 = .ok (.aload_n 0, 1) := by decide +kernel
theorem dX5_needsSet_60 : decode cX5_needsSet 60 = .ok (.getfield 98, 3) := by decide +kernel
theorem dX5_needsSet_63 : decode cX5_needsSet 63 = .ok (.iload_n 3, 1) := by decide +kernel
theorem dX5_needsSet_64 : decode cX5_needsSet 64 = .ok (.iload 4, 2) := by decide +kernel
theorem dX5_needsSet_66 : decode cX5_needsSet 66 = .ok (.ifCond .eq 7, 3) := by decide +kernel
theorem dX5_needsSet_69 : decode cX5_needsSet 69 = .ok (.iconst (-1), 1) := by decide +kernel
theorem dX5_needsSet_70 : decode cX5_needsSet 70 = .ok (.goto 9, 3) := by decide +kernel
theorem dX5_needsSet_73 : decode cX5_needsSet 73 = .ok (.aload_n 0, 1) := by decide +kernel
theorem dX5_needsSet_74 : decode cX5_needsSet 74 = .ok (.getfield 88, 3) := by decide +kernel
theorem dX5_needsSet_77 : decode cX5_needsSet 77 = .ok (.iload_n 3, 1) := by decide +kernel
theorem dX5_needsSet_78 : decode cX5_needsSet 78 = .ok (.iaload, 1) := by decide +kernel
theorem dX5_needsSet_79 : decode cX5_needsSet 79 = .ok (.iastore, 1) := by decide +kernel
theorem dX5_needsSet_80 : decode cX5_needsSet 80 = .ok (.iinc 3 1, 3) := by decide +kernel
theorem dX5_needsSet_83 : decode cX5_needsSet 83 = .ok (.goto (-79), 3) := by decide +kernel
theorem dX5_needsSet_86 : decode cX5_needsSet 86 = .ok (.iload_n 2, 1) := by decide +kernel
theorem dX5_needsSet_87 : decode cX5_needsSet 87 = .ok (.ifCond .eq 23, 3) := by decide +kernel
theorem dX5_needsSet_90 : decode cX5_needsSet 90 = .ok (.aload_n 0, 1) := by decide +kernel
theorem dX5_needsSet_91 : decode cX5_needsSet 91 = .ok (.getfield 76, 3) := by decide +kernel
theorem dX5_needsSet_94 : decode cX5_needsSet 94 = .ok (.aload_n 0, 1) := by decide +kernel
theorem dX5_needsSet_95 : decode cX5_needsSet 95 = .ok (.getfield 98, 3) := by decide +kernel
theorem dX5_needsSet_98 : decode cX5_needsSet 98 = .ok (.iconst 2, 1) := by decide +kernel
theorem dX5_needsSet_99 : decode cX5_needsSet 99 = .ok (.invokevirtual 163, 3) := by decide +kernel
theorem dX5_needsSet_102 : decode cX5_needsSet 102 = .ok (.iconst 1, 1) := by decide +kernel
theorem dX5_needsSet_103 : decode cX5_needsSet 103 = .ok (.if_icmp .le 7, 3) := by decide +kernel
theorem dX5_needsSet_106 : decode cX5_needsSet 106 = .ok (.iconst 1, 1) := by decide +kernel
theorem dX5_needsSet_107 : decode cX5_needsSet 107 = .ok (.goto 4, 3) := by decide +kernel
theorem dX5_needsSet_110 : decode cX5_needsSet 110 = .ok (.iconst 0, 1) := by decide +kernel
theorem dX5_needsSet_111 : decode cX5_needsSet 111 = .ok (.ireturn, 1) := by decide +kernel
theorem dX5_countGivens_0 : decode cX5_countGivens 0 = .ok (.iconst 0, 1) := by decide +kernel
theorem dX5_countGivens_1 : decode cX5_countGivens 1 = .ok (.istore_n 1, 1) := by decide +kernel
theorem dX5_countGivens_2 : decode cX5_countGivens 2 = .ok (.iconst 0, 1) := by decide +kernel
theorem dX5_countGivens_3 : decode cX5_countGivens 3 = .ok (.istore_n 2, 1) := by decide +kernel
theorem dX5_countGivens_4 : decode cX5_countGivens 4 = .ok (.iload_n 2, 1) := by decide +kernel
theorem dX5_countGivens_5 : decode cX5_countGivens 5 = .ok (.aload_n 0, 1) := by decide +kernel
theorem dX5_countGivens_6 : decode cX5_countGivens 6 = .ok (.getfield 32, 3) := by decide +kernel
theorem dX5_countGivens_9 : decode cX5_countGivens 9 = .ok (.getfield 80, 3) := by decide +kernel
theorem dX5_countGivens_12 : decode cX5_countGivens 12 = .ok (.if_icmp .ge 21, 3) := by decide +kernel
theorem dX5_countGivens_15 : decode cX5_countGivens 15 = .ok (.aload_n 0, 1) := by decide +kernel
theorem dX5_countGivens_16 : decode cX5_countGivens 16 = .ok (.getfield 88, 3) := by decide +kernel
theorem dX5_countGivens_19 : decode cX5_countGivens 19 = .ok (.iload_n 2, 1) := by decide +kernel
theorem dX5_countGivens_20 : decode cX5_countGivens 20 = .ok (.iaload, 1) := by decide +kernel
theorem dX5_countGivens_21 : decode cX5_countGivens 21 = .ok (.ifCond .lt 6, 3) := by decide +kernel
theorem dX5_countGivens_24 : decode cX5_countGivens 24 = .ok (.iinc 1 1, 3) := by decide +kernel
theorem dX5_countGivens_27 : decode cX5_countGivens 27 = .ok (.iinc 2 1, 3) := by decide +kernel
theorem dX5_countGivens_30 : decode cX5_countGivens 30 = .ok (.goto (-26), 3) := by decide +kernel
theorem dX5_countGivens_33 : decode cX5_countGivens 33 = .ok (.iload_n 1, 1) := by decide +kernel
theorem dX5_countGivens_34 : decode cX5_countGivens 34 = .ok (.ireturn, 1) := by decide +kernel
theorem dX6_init_0 : decode cX6_init 0 = .ok (.aload_n 0, 1) := by decide +kernel
theorem dX6_init_1 : decode cX6_init 1 = .ok (.invokespecial 1, 3) := by decide +kernel
theorem dX6_init_4 : decode cX6_init 4 = .ok (.aload_n 0, 1) := by decide +kernel
theorem dX6_init_5 : decode cX6_init 5 = .ok (.aload_n 1, 1) := by decide +kernel
theorem dX6_init_6 : decode cX6_init 6 = .ok (.putfield 7, 3) := by decide +kernel
theorem dX6_init_9 : decode cX6_init 9 = .ok (.aload_n 0, 1) := by decide +kernel
theorem dX6_init_10 : decode cX6_init 10 = .ok (.aload_n 1, 1) := by decide +kernel
theorem dX6_init_11 : decode cX6_init 11 = .ok (.getfield 13, 3) := by decide +kernel
theorem dX6_init_14 : decode cX6_init 14 = .ok (.newarray .int, 2) := by decide +kernel
theorem dX6_init_16 : decode cX6_init 16 = .ok (.putfield 19, 3) := by decide +kernel
theorem dX6_init_19 : decode cX6_init 19 = .ok (.iconst 0, 1) := by decide +kernel
theorem dX6_init_20 : decode cX6_init 20 = .ok (.istore_n 2, 1) := by decide +kernel
theorem dX6_init_21 : decode cX6_init 21 = .ok (.iload_n 2, 1) := by decide +kernel
theorem dX6_init_22 : decode cX6_init 22 = .ok (.aload_n 1, 1) := by decide +kernel
theorem dX6_init_23 : decode cX6_init 23 = .ok (.getfield 13, 3) := by decide +kernel
theorem dX6_init_26 : decode cX6_init 26 = .ok (.if_icmp .ge 16, 3) := by decide +kernel
theorem dX6_init_29 : decode cX6_init 29 = .ok (.aload_n 0, 1) := by decide +kernel
theorem dX6_init_30 : decode cX6_init 30 = .ok (.getfield 19, 3) := by decide +kernel
theorem dX6_init_33 : decode cX6_init 33 = .ok (.iload_n 2, 1) := by decide +kernel
theorem dX6_init_34 : decode cX6_init 34 = .ok (.iload_n 2, 1) := by decide +kernel
theorem dX6_init_35 : decode cX6_init 35 = .ok (.iastore, 1) := by decide +kernel
theorem dX6_init_36 : decode cX6_init 36 = .ok (.iinc 2 1, 3) := by decide +kernel
theorem dX6_init_39 : decode cX6_init 39 = .ok (.goto (-18), 3) := by decide +kernel
theorem dX6_init_42 : decode cX6_init 42 = .ok (.return_, 1) := by decide +kernel
set_option maxRecDepth 20000 in
theorem ggX6_joinBy_X6_moved : GoodIn wsX6_joinBy wsX6_moved := goodIn_r _ [12, 1, 13, 14, 15, 16, 17, 18, 19, 20, 21, 22, 23, 24] (by decide +kernel) (by decide +kernel)
set_option maxRecDepth 20000 in
theorem gX6_joinBy_X6_moved : GoodIn wsX6_joinBy (wsV RX6 23 RX6 yX6_moved wsX6_moved) := goodIn_app (goodIn_of _ (by decide +kernel)) ggX6_joinBy_X6_moved
theorem dX6_joinBy_0 : decode cX6_joinBy 0 = .ok (.iconst 0, 1) := by decide +kernel
theorem dX6_joinBy_1 : decode cX6_joinBy 1 = .ok (.istore_n 2, 1) := by decide +kernel
theorem dX6_joinBy_2 : decode cX6_joinBy 2 = .ok (.iload_n 2, 1) := by decide +kernel
theorem dX6_joinBy_3 : decode cX6_joinBy 3 = .ok (.aload_n 0, 1) := by decide +kernel
theorem dX6_joinBy_4 : decode cX6_joinBy 4 = .ok (.getfield 7, 3) := by decide +kernel
theorem dX6_joinBy_7 : decode cX6_joinBy 7 = .ok (.getfield 13, 3) := by decide +kernel
theorem dX6_joinBy_10 : decode cX6_joinBy 10 = .ok (.if_icmp .ge 52, 3) := by decide +kernel
theorem dX6_joinBy_13 : decode cX6_joinBy 13 = .ok (.iload_n 2, 1) := by decide +kernel
theorem dX6_joinBy_14 : decode cX6_joinBy 14 = .ok (.istore_n 3, 1) := by decide +kernel
theorem dX6_joinBy_15 : decode cX6_joinBy 15 = .ok (.iload_n 2, 1) := by decide +kernel
theorem dX6_joinBy_16 : decode cX6_joinBy 16 = .ok (.istore 4, 2) := by decide +kernel
theorem dX6_joinBy_18 : decode cX6_joinBy 18 = .ok (.iconst 0, 1) := by decide +kernel
theorem dX6_joinBy_19 : decode cX6_joinBy 19 = .ok (.istore 5, 2) := by decide +kernel
theorem dX6_joinBy_21 : decode cX6_joinBy 21 = .ok (.iload 5, 2) := by decide +kernel
theorem dX6_joinBy_23 : decode cX6_joinBy 23 = .ok (.iconst 4, 1) := by decide +kernel
theorem dX6_joinBy_24 : decode cX6_joinBy 24 = .ok (.if_icmp .ge 25, 3) := by decide +kernel
theorem dX6_joinBy_27 : decode cX6_joinBy 27 = .ok (.aload_n 0, 1) := by decide +kernel
theorem dX6_joinBy_28 : decode cX6_joinBy 28 = .ok (.iload 4, 2) := by decide +kernel
theorem dX6_joinBy_30 : decode cX6_joinBy 30 = .ok (.iload_n 1, 1) := by decide +kernel
theorem dX6_joinBy_31 : decode cX6_joinBy 31 = .ok (.invokevirtual 23, 3) := by decide +kernel
theorem dX6_joinBy_34 : decode cX6_joinBy 34 = .ok (.istore 4, 2) := by decide +kernel
theorem dX6_joinBy_36 : decode cX6_joinBy 36 = .ok (.iload_n 3, 1) := by decide +kernel
theorem dX6_joinBy_37 : decode cX6_joinBy 37 = .ok (.iload 4, 2) := by decide +kernel
theorem dX6_joinBy_39 : decode cX6_joinBy 39 = .ok (.invokestatic 27, 3) := by decide +kernel
theorem dX6_joinBy_42 : decode cX6_joinBy 42 = .ok (.istore_n 3, 1) := by decide +kernel
theorem dX6_joinBy_43 : decode cX6_joinBy 43 = .ok (.iinc 5 1, 3) := by decide +kernel
theorem dX6_joinBy_46 : decode cX6_joinBy 46 = .ok (.goto (-25), 3) := by decide +kernel
theorem dX6_joinBy_49 : decode cX6_joinBy 49 = .ok (.aload_n 0, 1) := by decide +kernel
theorem dX6_joinBy_50 : decode cX6_joinBy 50 = .ok (.getfield 19, 3) := by decide +kernel
theorem dX6_joinBy_53 : decode cX6_joinBy 53 = .ok (.iload_n 2, 1) := by decide +kernel
theorem dX6_joinBy_54 : decode cX6_joinBy 54 = .ok (.iload_n 3, 1) := by decide +kernel
theorem dX6_joinBy_55 : decode cX6_joinBy 55 = .ok (.iastore, 1) := by decide +kernel
theorem dX6_joinBy_56 : decode cX6_joinBy 56 = .ok (.iinc 2 1, 3) := by decide +kernel
theorem dX6_joinBy_59 : decode cX6_joinBy 59 = .ok (.goto (-57), 3) := by decide +kernel
theorem dX6_joinBy_62 : decode cX6_joinBy 62 = .ok (.return_, 1) := by decide +kernel
theorem dX6_moved_0 : decode cX6_moved 0 = .ok (.aload_n 0, 1) := by decide +kernel
theorem dX6_moved_1 : decode cX6_moved 1 = .ok (.getfield 7, 3) := by decide +kernel
theorem dX6_moved_4 : decode cX6_moved 4 = .ok (.getfield 32, 3) := by decide +kernel
theorem dX6_moved_7 : decode cX6_moved 7 = .ok (.iconst 1, 1) := by decide +kernel
theorem dX6_moved_8 : decode cX6_moved 8 = .ok (.isub, 1) := by decide +kernel
theorem dX6_moved_9 : decode cX6_moved 9 = .ok (.istore_n 3, 1) := by decide +kernel
theorem dX6_moved_10 : decode cX6_moved 10 = .ok (.aload_n 0, 1) := by decide +kernel
theorem dX6_moved_11 : decode cX6_moved 11 = .ok (.getfield 7, 3) := by decide +kernel
theorem dX6_moved_14 : decode cX6_moved 14 = .ok (.getfield 35, 3) := by decide +kernel
theorem dX6_moved_17 : decode cX6_moved 17 = .ok (.iload_n 1, 1) := by decide +kernel
theorem dX6_moved_18 : decode cX6_moved 18 = .ok (.iaload, 1) := by decide +kernel
theorem dX6_moved_19 : decode cX6_moved 19 = .ok (.istore 4, 2) := by decide +kernel
theorem dX6_moved_21 : decode cX6_moved 21 = .ok (.aload_n 0, 1) := by decide +kernel
theorem dX6_moved_22 : decode cX6_moved 22 = .ok (.getfield 7, 3) := by decide +kernel
theorem dX6_moved_25 : decode cX6_moved 25 = .ok (.getfield 38, 3) := by decide +kernel
theorem dX6_moved_28 : decode cX6_moved 28 = .ok (.iload_n 1, 1) := by decide +kernel
theorem dX6_moved_29 : decode cX6_moved 29 = .ok (.iaload, 1) := by decide +kernel
theorem dX6_moved_30 : decode cX6_moved 30 = .ok (.istore 5, 2) := by decide +kernel
theorem dX6_moved_32 : decode cX6_moved 32 = .ok (.iload_n 2, 1) := by decide +kernel
theorem dX6_moved_33 : decode cX6_moved 33 = .ok (.tableswitch 77 1 3 #[27, 45, 61], 27) := by decide +kernel
theorem dX6_moved_60 : decode cX6_moved 60 = .ok (.aload_n 0, 1) := by decide +kernel
theorem dX6_moved_61 : decode cX6_moved 61 = .ok (.getfield 7, 3) := by decide +kernel
theorem dX6_moved_64 : decode cX6_moved 64 = .ok (.getfield 32, 3) := by decide +kernel
theorem dX6_moved_67 : decode cX6_moved 67 = .ok (.iload_n 3, 1) := by decide +kernel
theorem dX6_moved_68 : decode cX6_moved 68 = .ok (.iload 5, 2) := by decide +kernel
theorem dX6_moved_70 : decode cX6_moved 70 = .ok (.isub, 1) := by decide +kernel
theorem dX6_moved_71 : decode cX6_moved 71 = .ok (.imul, 1) := by decide +kernel
theorem dX6_moved_72 : decode cX6_moved 72 = .ok (.iload_n 3, 1) := by decide +kernel
theorem dX6_moved_73 : decode cX6_moved 73 = .ok (.iadd, 1) := by decide +kernel
theorem dX6_moved_74 : decode cX6_moved 74 = .ok (.iload 4, 2) := by decide +kernel
theorem dX6_moved_76 : decode cX6_moved 76 = .ok (.isub, 1) := by decide +kernel
theorem dX6_moved_77 : decode cX6_moved 77 = .ok (.ireturn, 1) := by decide +kernel
theorem dX6_moved_78 : decode cX6_moved 78 = .ok (.aload_n 0, 1) := by decide +kernel
theorem dX6_moved_79 : decode cX6_moved 79 = .ok (.getfield 7, 3) := by decide +kernel
theorem dX6_moved_82 : decode cX6_moved 82 = .ok (.getfield 32, 3) := by decide +kernel
theorem dX6_moved_85 : decode cX6_moved 85 = .ok (.iload 5, 2) := by decide +kernel
theorem dX6_moved_87 : decode cX6_moved 87 = .ok (.imul, 1) := by decide +kernel
theorem dX6_moved_88 : decode cX6_moved 88 = .ok (.iload_n 3, 1) := by decide +kernel
theorem dX6_moved_89 : decode cX6_moved 89 = .ok (.iadd, 1) := by decide +kernel
theorem dX6_moved_90 : decode cX6_moved 90 = .ok (.iload 4, 2) := by decide +kernel
theorem dX6_moved_92 : decode cX6_moved 92 = .ok (.isub, 1) := by decide +kernel
theorem dX6_moved_93 : decode cX6_moved 93 = .ok (.ireturn, 1) := by decide +kernel
theorem dX6_moved_94 : decode cX6_moved 94 = .ok (.aload_n 0, 1) := by decide +kernel
theorem dX6_moved_95 : decode cX6_moved 95 = .ok (.getfield 7, 3) := by decide +kernel
theorem dX6_moved_98 : decode cX6_moved 98 = .ok (.getfield 32, 3) := by decide +kernel
theorem dX6_moved_101 : decode cX6_moved 101 = .ok (.iload 4, 2) := by decide +kernel
theorem dX6_moved_103 : decode cX6_moved 103 = .ok (.imul, 1) := by decide +kernel
theorem dX6_moved_104 : decode cX6_moved 104 = .ok (.iload_n 3, 1) := by decide +kernel
theorem dX6_moved_105 : decode cX6_moved 105 = .ok (.iadd, 1) := by decide +kernel
theorem dX6_moved_106 : decode cX6_moved 106 = .ok (.iload 5, 2) := by decide +kernel
theorem dX6_moved_108 : decode cX6_moved 108 = .ok (.isub, 1) := by decide +kernel
theorem dX6_moved_109 : decode cX6_moved 109 = .ok (.ireturn, 1) := by decide +kernel
theorem dX6_moved_110 : decode cX6_moved 110 = .ok (.iload_n 1, 1) := by decide +kernel
theorem dX6_moved_111 : decode cX6_moved 111 = .ok (.ireturn, 1) := by decide +kernel
set_option maxRecDepth 20000 in
theorem ggX7_init_X1_init : GoodIn wsX7_init wsX1_init := goodIn_r _ [11, 12, 2, 3, 13, 14, 15, 16, 17, 18, 19, 20, 21, 22, 23, 7, 24, 27, 28, 29, 30, 31, 32, 33, 34, 35, 36, 37, 38] (by decide +kernel) (by decide +kernel)
set_option maxRecDepth 20000 in
theorem gX7_init_X1_init : GoodIn wsX7_init (wsX1_init) := ggX7_init_X1_init
theorem dX7_init_0 : decode cX7_init 0 = .ok (.aload_n 0, 1) := by decide +kernel
theorem dX7_init_1 : decode cX7_init 1 = .ok (.invokespecial 1, 3) := by decide +kernel
theorem dX7_init_4 : decode cX7_init 4 = .ok (.aload_n 0, 1) := by decide +kernel
theorem dX7_init_5 : decode cX7_init 5 = .ok (.aload_n 1, 1) := by decide +kernel
theorem dX7_init_6 : decode cX7_init 6 = .ok (.putfield 7, 3) := by decide +kernel
theorem dX7_init_9 : decode cX7_init 9 = .ok (.aload_n 0, 1) := by decide +kernel
theorem dX7_init_10 : decode cX7_init 10 = .ok (.new 13, 3) := by decide +kernel
theorem dX7_init_13 : decode cX7_init 13 = .ok (.dup, 1) := by decide +kernel
theorem dX7_init_14 : decode cX7_init 14 = .ok (.aload_n 1, 1) := by decide +kernel
theorem dX7_init_15 : decode cX7_init 15 = .ok (.invokespecial 15, 3) := by decide +kernel
theorem dX7_init_18 : decode cX7_init 18 = .ok (.putfield 18, 3) := by decide +kernel
theorem dX7_init_21 : decode cX7_init 21 = .ok (.return_, 1) := by decide +kernel
set_option maxRecDepth 20000 in
theorem ggX7_countUnknown_X1_putAll : GoodIn wsX7_countUnknown wsX1_putAll := goodIn_r _ [8, 9, 10, 11, 12, 13, 7, 14, 15, 16, 17, 18, 19, 20, 21, 22, 23, 24, 25, 26, 27, 28, 29, 30, 79, 80, 81, 82, 83, 72, 73, 74, 75, 76, 77, 78] (by decide +kernel) (by decide +kernel)
set_option maxRecDepth 20000 in
theorem gX7_countUnknown_X1_putAll : GoodIn wsX7_countUnknown (wsV RX7 22 RX1 yX1_putAll wsX1_putAll) := goodIn_app (goodIn_of _ (by decide +kernel)) ggX7_countUnknown_X1_putAll
set_option maxRecDepth 20000 in
theorem ggX7_countUnknown_X7_fillLoneSymbols : GoodIn wsX7_countUnknown wsX7_fillLoneSymbols := goodIn_r _ [35, 2, 3, 1, 36, 37, 38, 7, 39, 15, 40, 41, 42, 43, 9, 44, 17, 28, 18, 29, 19, 30, 45, 46, 47, 48, 49, 50, 51, 52, 53, 54, 55, 56, 21, 22, 23, 24, 25, 26, 27, 70, 71, 72, 73, 74, 75, 76, 77, 78, 79, 80, 81, 82, 83] (by decide +kernel) (by decide +kernel)
set_option maxRecDepth 20000 in
theorem gX7_countUnknown_X7_fillLoneSymbols : GoodIn wsX7_countUnknown (wsV RX7 32 RX7 yX7_fillLoneSymbols wsX7_fillLoneSymbols) := goodIn_app (goodIn_of _ (by decide +kernel)) ggX7_countUnknown_X7_fillLoneSymbols
set_option maxRecDepth 20000 in
theorem ggX7_countUnknown_X7_fillLoneCells : GoodIn wsX7_countUnknown wsX7_fillLoneCells := goodIn_r _ [60, 2, 61, 62, 63, 64, 34, 65, 1, 36, 37, 38, 7, 39, 15, 40, 41, 42, 43, 9, 44, 17, 28, 18, 29, 19, 30, 66, 67, 68, 69, 52, 53, 47, 54, 55, 56, 21, 22, 23, 24, 25, 26, 27, 70, 71, 72, 73, 74, 75, 76, 77, 78, 79, 80, 81, 82, 83] (by decide +kernel) (by decide +kernel)
set_option maxRecDepth 20000 in
theorem gX7_countUnknown_X7_fillLoneCells : GoodIn wsX7_countUnknown (wsV RX7 36 RX7 yX7_fillLoneCells wsX7_fillLoneCells) := goodIn_app (goodIn_of _ (by decide +kernel)) ggX7_countUnknown_X7_fillLoneCells
set_option maxRecDepth 20000 in
theorem ggX7_countUnknown_X1_isEmpty : GoodIn wsX7_countUnknown wsX1_isEmpty := goodIn_r _ [39, 15, 79, 80, 81, 82, 83] (by decide +kernel) (by decide +kernel)
set_option maxRecDepth 20000 in
theorem gX7_countUnknown_X1_isEmpty : GoodIn wsX7_countUnknown (wsV RX7 39 RX1 yX1_isEmpty wsX1_isEmpty) := goodIn_app (goodIn_of _ (by decide +kernel)) ggX7_countUnknown_X1_isEmpty
theorem dX7_countUnknown_0 : decode cX7_countUnknown 0 = .ok (.aload_n 0, 1) := by decide +kernel
theorem dX7_countUnknown_1 : decode cX7_countUnknown 1 = .ok (.getfield 18, 3) := by decide +kernel
theorem dX7_countUnknown_4 : decode cX7_countUnknown 4 = .ok (.aload_n 1, 1) := by decide +kernel
theorem dX7_countUnknown_5 : decode cX7_countUnknown 5 = .ok (.invokevirtual 22, 3) := by decide +kernel
theorem dX7_countUnknown_8 : decode cX7_countUnknown 8 = .ok (.iconst 1, 1) := by decide +kernel
theorem dX7_countUnknown_9 : decode cX7_countUnknown 9 = .ok (.istore_n 2, 1) := by decide +kernel
theorem dX7_countUnknown_10 : decode cX7_countUnknown 10 = .ok (.iconst 0, 1) := by decide +kernel
theorem dX7_countUnknown_11 : decode cX7_countUnknown 11 = .ok (.istore_n 3, 1) := by decide +kernel
theorem dX7_countUnknown_12 : decode cX7_countUnknown 12 = .ok (.iload_n 3, 1) := by decide +kernel
theorem dX7_countUnknown_13 : decode cX7_countUnknown 13 = .ok (.aload_n 0, 1) := by decide +kernel
theorem dX7_countUnknown_14 : decode cX7_countUnknown 14 = .ok (.getfield 7, 3) := by decide +kernel
theorem dX7_countUnknown_17 : decode cX7_countUnknown 17 = .ok (.getfield 26, 3) := by decide +kernel
theorem dX7_countUnknown_20 : decode cX7_countUnknown 20 = .ok (.if_icmp .gt 41, 3) := by decide +kernel
theorem dX7_countUnknown_23 : decode cX7_countUnknown 23 = .ok (.iload_n 2, 1) := by decide +kernel
theorem dX7_countUnknown_24 : decode cX7_countUnknown 24 = .ok (.ifCond .eq 37, 3) := by decide +kernel
theorem dX7_countUnknown_27 : decode cX7_countUnknown 27 = .ok (.aload_n 0, 1) := by decide +kernel
theorem dX7_countUnknown_28 : decode cX7_countUnknown 28 = .ok (.invokevirtual 32, 3) := by decide +kernel
theorem dX7_countUnknown_31 : decode cX7_countUnknown 31 = .ok (.istore 4, 2) := by decide +kernel
theorem dX7_countUnknown_33 : decode cX7_countUnknown 33 = .ok (.aload_n 0, 1) := by decide +kernel
theorem dX7_countUnknown_34 : decode cX7_countUnknown 34 = .ok (.invokevirtual 36, 3) := by decide +kernel
theorem dX7_countUnknown_37 : decode cX7_countUnknown 37 = .ok (.istore 5, 2) := by decide +kernel
theorem dX7_countUnknown_39 : decode cX7_countUnknown 39 = .ok (.iload 4, 2) := by decide +kernel
theorem dX7_countUnknown_41 : decode cX7_countUnknown 41 = .ok (.ifCond .ne 8, 3) := by decide +kernel
theorem dX7_countUnknown_44 : decode cX7_countUnknown 44 = .ok (.iload 5, 2) := by decide +kernel
theorem dX7_countUnknown_46 : decode cX7_countUnknown 46 = .ok (.ifCond .eq 7, 3) := by decide +kernel
theorem dX7_countUnknown_49 : decode cX7_countUnknown 49 = .ok (.iconst 1, 1) := by decide +kernel
theorem dX7_countUnknown_50 : decode cX7_countUnknown 50 = .ok (.goto 4, 3) := by decide +kernel
theorem dX7_countUnknown_53 : decode cX7_countUnknown 53 = .ok (.iconst 0, 1) := by decide +kernel
theorem dX7_countUnknown_54 : decode cX7_countUnknown 54 = .ok (.istore_n 2, 1) := by decide +kernel
theorem dX7_countUnknown_55 : decode cX7_countUnknown 55 = .ok (.iinc 3 1, 3) := by decide +kernel
theorem dX7_countUnknown_58 : decode cX7_countUnknown 58 = .ok (.goto (-46), 3) := by decide +kernel
theorem dX7_countUnknown_61 : decode cX7_countUnknown 61 = .ok (.iconst 0, 1) := by decide +kernel
theorem dX7_countUnknown_62 : decode cX7_countUnknown 62 = .ok (.istore_n 3, 1) := by decide +kernel
theorem dX7_countUnknown_63 : decode cX7_countUnknown 63 = .ok (.iconst 0, 1) := by decide +kernel
theorem dX7_countUnknown_64 : decode cX7_countUnknown 64 = .ok (.istore 4, 2) := by decide +kernel
theorem dX7_countUnknown_66 : decode cX7_countUnknown 66 = .ok (.iload 4, 2) := by decide +kernel
theorem dX7_countUnknown_68 : decode cX7_countUnknown 68 = .ok (.aload_n 0, 1) := by decide +kernel
theorem dX7_countUnknown_69 : decode cX7_countUnknown 69 = .ok (.getfield 7, 3) := by decide +kernel
theorem dX7_countUnknown_72 : decode cX7_countUnknown 72 = .ok (.getfield 26, 3) := by decide +kernel
theorem dX7_countUnknown_75 : decode cX7_countUnknown 75 = .ok (.if_icmp .ge 24, 3) := by decide +kernel
theorem dX7_countUnknown_78 : decode cX7_countUnknown 78 = .ok (.aload_n 0, 1) := by decide +kernel
theorem dX7_countUnknown_79 : decode cX7_countUnknown 79 = .ok (.getfield 18, 3) := by decide +kernel
theorem dX7_countUnknown_82 : decode cX7_countUnknown 82 = .ok (.iload 4, 2) := by decide +kernel
theorem dX7_countUnknown_84 : decode cX7_countUnknown 84 = .ok (.invokevirtual 39, 3) := by decide +kernel
theorem dX7_countUnknown_87 : decode cX7_countUnknown 87 = .ok (.ifCond .eq 6, 3) := by decide +kernel
theorem dX7_countUnknown_90 : decode cX7_countUnknown 90 = .ok (.iinc 3 1, 3) := by decide +kernel
theorem dX7_countUnknown_93 : decode cX7_countUnknown 93 = .ok (.iinc 4 1, 3) := by decide +kernel
theorem dX7_countUnknown_96 : decode cX7_countUnknown 96 = .ok (.goto (-30), 3) := by decide +kernel
theorem dX7_countUnknown_99 : decode cX7_countUnknown 99 = .ok (.iload_n 3, 1) := by decide +kernel
theorem dX7_countUnknown_100 : decode cX7_countUnknown 100 = .ok (.ireturn, 1) := by decide +kernel
set_option maxRecDepth 20000 in
theorem ggX7_fillLoneSymbols_X1_isEmpty : GoodIn wsX7_fillLoneSymbols wsX1_isEmpty := goodIn_r _ [8, 9, 50, 51, 52, 53, 54] (by decide +kernel) (by decide +kernel)
set_option maxRecDepth 20000 in
theorem gX7_fillLoneSymbols_X1_isEmpty : GoodIn wsX7_fillLoneSymbols (wsV RX7 39 RX1 yX1_isEmpty wsX1_isEmpty) := goodIn_app (goodIn_of _ (by decide +kernel)) ggX7_fillLoneSymbols_X1_isEmpty
set_option maxRecDepth 20000 in
theorem ggX7_fillLoneSymbols_X1_may : GoodIn wsX7_fillLoneSymbols wsX1_may := goodIn_r _ [13, 14, 15, 16, 17, 18, 19, 20, 21, 50, 51, 52, 53, 54, 43, 44, 45, 46, 47, 48, 49] (by decide +kernel) (by decide +kernel)
set_option maxRecDepth 20000 in
theorem gX7_fillLoneSymbols_X1_may : GoodIn wsX7_fillLoneSymbols (wsV RX7 43 RX1 yX1_may wsX1_may) := goodIn_app (goodIn_of _ (by decide +kernel)) ggX7_fillLoneSymbols_X1_may
set_option maxRecDepth 20000 in
theorem ggX7_fillLoneSymbols_J6_bitCount_0f7a4 : GoodIn wsX7_fillLoneSymbols wsJ6_bitCount_0f7a4 := goodIn_r _ [25, 26, 27, 28] (by decide +kernel) (by decide +kernel)
set_option maxRecDepth 20000 in
theorem gX7_fillLoneSymbols_J6_bitCount_0f7a4 : GoodIn wsX7_fillLoneSymbols (va_wsS RX7 47 yJ6_bitCount_0f7a4 wsJ6_bitCount_0f7a4) := goodIn_app (goodIn_of _ (by decide +kernel)) ggX7_fillLoneSymbols_J6_bitCount_0f7a4
set_option maxRecDepth 20000 in
theorem ggX7_fillLoneSymbols_J6_numberOfTrailingZeros_0f7a4 : GoodIn wsX7_fillLoneSymbols wsJ6_numberOfTrailingZeros_0f7a4 := goodIn_r _ [31, 32] (by decide +kernel) (by decide +kernel)
set_option maxRecDepth 20000 in
theorem gX7_fillLoneSymbols_J6_numberOfTrailingZeros_0f7a4 : GoodIn wsX7_fillLoneSymbols (va_wsS RX7 52 yJ6_numberOfTrailingZeros_0f7a4 wsJ6_numberOfTrailingZeros_0f7a4) := goodIn_app (goodIn_of _ (by decide +kernel)) ggX7_fillLoneSymbols_J6_numberOfTrailingZeros_0f7a4
set_option maxRecDepth 20000 in
theorem ggX7_fillLoneSymbols_X1_put : GoodIn wsX7_fillLoneSymbols wsX1_put := goodIn_r _ [36, 9, 37, 38, 39, 7, 40, 16, 14, 17, 18, 19, 20, 21, 50, 51, 52, 53, 54, 43, 44, 45, 46, 47, 48, 49] (by decide +kernel) (by decide +kernel)
set_option maxRecDepth 20000 in
theorem gX7_fillLoneSymbols_X1_put : GoodIn wsX7_fillLoneSymbols (wsV RX7 55 RX1 yX1_put wsX1_put) := goodIn_app (goodIn_of _ (by decide +kernel)) ggX7_fillLoneSymbols_X1_put
theorem dX7_fillLoneSymbols_0 : decode cX7_fillLoneSymbols 0 = .ok (.iconst 0, 1) := by decide +kernel
theorem dX7_fillLoneSymbols_1 : decode cX7_fillLoneSymbols 1 = .ok (.istore_n 1, 1) := by decide +kernel
theorem dX7_fillLoneSymbols_2 : decode cX7_fillLoneSymbols 2 = .ok (.iconst 0, 1) := by decide +kernel
theorem dX7_fillLoneSymbols_3 : decode cX7_fillLoneSymbols 3 = .ok (.istore_n 2, 1) := by decide +kernel
theorem dX7_fillLoneSymbols_4 : decode cX7_fillLoneSymbols 4 = .ok (.iload_n 2, 1) := by decide +kernel
theorem dX7_fillLoneSymbols_5 : decode cX7_fillLoneSymbols 5 = .ok (.aload_n 0, 1) := by decide +kernel
theorem dX7_fillLoneSymbols_6 : decode cX7_fillLoneSymbols 6 = .ok (.getfield 7, 3) := by decide +kernel
theorem dX7_fillLoneSymbols_9 : decode cX7_fillLoneSymbols 9 = .ok (.getfield 26, 3) := by decide +kernel
theorem dX7_fillLoneSymbols_12 : decode cX7_fillLoneSymbols 12 = .ok (.if_icmp .ge 51, 3) := by decide +kernel
theorem dX7_fillLoneSymbols_15 : decode cX7_fillLoneSymbols 15 = .ok (.aload_n 0, 1) := by decide +kernel
theorem dX7_fillLoneSymbols_16 : decode cX7_fillLoneSymbols 16 = .ok (.getfield 18, 3) := by decide +kernel
theorem dX7_fillLoneSymbols_19 : decode cX7_fillLoneSymbols 19 = .ok (.iload_n 2, 1) := by decide +kernel
theorem dX7_fillLoneSymbols_20 : decode cX7_fillLoneSymbols 20 = .ok (.invokevirtual 39, 3) := by decide +kernel
theorem dX7_fillLoneSymbols_23 : decode cX7_fillLoneSymbols 23 = .ok (.ifCond .eq 34, 3) := by decide +kernel
theorem dX7_fillLoneSymbols_26 : decode cX7_fillLoneSymbols 26 = .ok (.aload_n 0, 1) := by decide +kernel
theorem dX7_fillLoneSymbols_27 : decode cX7_fillLoneSymbols 27 = .ok (.getfield 18, 3) := by decide +kernel
theorem dX7_fillLoneSymbols_30 : decode cX7_fillLoneSymbols 30 = .ok (.iload_n 2, 1) := by decide +kernel
theorem dX7_fillLoneSymbols_31 : decode cX7_fillLoneSymbols 31 = .ok (.invokevirtual 43, 3) := by decide +kernel
theorem dX7_fillLoneSymbols_34 : decode cX7_fillLoneSymbols 34 = .ok (.istore_n 3, 1) := by decide +kernel
theorem dX7_fillLoneSymbols_35 : decode cX7_fillLoneSymbols 35 = .ok (.iload_n 3, 1) := by decide +kernel
theorem dX7_fillLoneSymbols_36 : decode cX7_fillLoneSymbols 36 = .ok (.invokestatic 47, 3) := by decide +kernel
theorem dX7_fillLoneSymbols_39 : decode cX7_fillLoneSymbols 39 = .ok (.iconst 1, 1) := by decide +kernel
theorem dX7_fillLoneSymbols_40 : decode cX7_fillLoneSymbols 40 = .ok (.if_icmp .ne 17, 3) := by decide +kernel
theorem dX7_fillLoneSymbols_43 : decode cX7_fillLoneSymbols 43 = .ok (.aload_n 0, 1) := by decide +kernel
theorem dX7_fillLoneSymbols_44 : decode cX7_fillLoneSymbols 44 = .ok (.getfield 18, 3) := by decide +kernel
theorem dX7_fillLoneSymbols_47 : decode cX7_fillLoneSymbols 47 = .ok (.iload_n 2, 1) := by decide +kernel
theorem dX7_fillLoneSymbols_48 : decode cX7_fillLoneSymbols 48 = .ok (.iload_n 3, 1) := by decide +kernel
theorem dX7_fillLoneSymbols_49 : decode cX7_fillLoneSymbols 49 = .ok (.invokestatic 52, 3) := by decide +kernel
theorem dX7_fillLoneSymbols_52 : decode cX7_fillLoneSymbols 52 = .ok (.invokevirtual 55, 3) := by decide +kernel
theorem dX7_fillLoneSymbols_55 : decode cX7_fillLoneSymbols 55 = .ok (.iconst 1, 1) := by decide +kernel
theorem dX7_fillLoneSymbols_56 : decode cX7_fillLoneSymbols 56 = .ok (.istore_n 1, 1) := by decide +kernel
theorem dX7_fillLoneSymbols_57 : decode cX7_fillLoneSymbols 57 = .ok (.iinc 2 1, 3) := by decide +kernel
theorem dX7_fillLoneSymbols_60 : decode cX7_fillLoneSymbols 60 = .ok (.goto (-56), 3) := by decide +kernel
theorem dX7_fillLoneSymbols_63 : decode cX7_fillLoneSymbols 63 = .ok (.iload_n 1, 1) := by decide +kernel
theorem dX7_fillLoneSymbols_64 : decode cX7_fillLoneSymbols 64 = .ok (.ireturn, 1) := by decide +kernel
set_option maxRecDepth 20000 in
theorem ggX7_fillLoneCells_X7_symbolsOfOneCell : GoodIn wsX7_fillLoneCells wsX7_symbolsOfOneCell := goodIn_r _ [7, 8, 9, 10, 11, 12, 13, 14, 15, 16, 17, 18, 19, 20, 21, 22, 23, 24, 25, 26, 44, 45, 53, 54, 55, 56, 57, 46, 47, 48, 49, 50, 51, 52] (by decide +kernel) (by decide +kernel)
set_option maxRecDepth 20000 in
theorem gX7_fillLoneCells_X7_symbolsOfOneCell : GoodIn wsX7_fillLoneCells (wsV RX7 63 RX7 yX7_symbolsOfOneCell wsX7_symbolsOfOneCell) := goodIn_app (goodIn_of _ (by decide +kernel)) ggX7_fillLoneCells_X7_symbolsOfOneCell
set_option maxRecDepth 20000 in
theorem ggX7_fillLoneCells_X7_fillFrom : GoodIn wsX7_fillLoneCells wsX7_fillFrom := goodIn_r _ [30, 8, 9, 10, 11, 12, 13, 14, 15, 16, 17, 18, 19, 20, 21, 22, 23, 24, 25, 26, 31, 32, 33, 34, 35, 36, 37, 38, 39, 40, 41, 42, 43, 44, 45, 53, 54, 55, 56, 57, 46, 47, 48, 49, 50, 51, 52] (by decide +kernel) (by decide +kernel)
set_option maxRecDepth 20000 in
theorem gX7_fillLoneCells_X7_fillFrom : GoodIn wsX7_fillLoneCells (wsV RX7 67 RX7 yX7_fillFrom wsX7_fillFrom) := goodIn_app (goodIn_of _ (by decide +kernel)) ggX7_fillLoneCells_X7_fillFrom
theorem dX7_fillLoneCells_0 : decode cX7_fillLoneCells 0 = .ok (.iconst 0, 1) := by decide +kernel
theorem dX7_fillLoneCells_1 : decode cX7_fillLoneCells 1 = .ok (.istore_n 1, 1) := by decide +kernel
theorem dX7_fillLoneCells_2 : decode cX7_fillLoneCells 2 = .ok (.iconst 0, 1) := by decide +kernel
theorem dX7_fillLoneCells_3 : decode cX7_fillLoneCells 3 = .ok (.istore_n 2, 1) := by decide +kernel
theorem dX7_fillLoneCells_4 : decode cX7_fillLoneCells 4 = .ok (.iload_n 2, 1) := by decide +kernel
theorem dX7_fillLoneCells_5 : decode cX7_fillLoneCells 5 = .ok (.aload_n 0, 1) := by decide +kernel
theorem dX7_fillLoneCells_6 : decode cX7_fillLoneCells 6 = .ok (.getfield 7, 3) := by decide +kernel
theorem dX7_fillLoneCells_9 : decode cX7_fillLoneCells 9 = .ok (.getfield 59, 3) := by decide +kernel
theorem dX7_fillLoneCells_12 : decode cX7_fillLoneCells 12 = .ok (.arraylength, 1) := by decide +kernel
theorem dX7_fillLoneCells_13 : decode cX7_fillLoneCells 13 = .ok (.if_icmp .ge 46, 3) := by decide +kernel
theorem dX7_fillLoneCells_16 : decode cX7_fillLoneCells 16 = .ok (.aload_n 0, 1) := by decide +kernel
theorem dX7_fillLoneCells_17 : decode cX7_fillLoneCells 17 = .ok (.aload_n 0, 1) := by decide +kernel
theorem dX7_fillLoneCells_18 : decode cX7_fillLoneCells 18 = .ok (.getfield 7, 3) := by decide +kernel
theorem dX7_fillLoneCells_21 : decode cX7_fillLoneCells 21 = .ok (.getfield 59, 3) := by decide +kernel
theorem dX7_fillLoneCells_24 : decode cX7_fillLoneCells 24 = .ok (.iload_n 2, 1) := by decide +kernel
theorem dX7_fillLoneCells_25 : decode cX7_fillLoneCells 25 = .ok (.aaload, 1) := by decide +kernel
theorem dX7_fillLoneCells_26 : decode cX7_fillLoneCells 26 = .ok (.invokevirtual 63, 3) := by decide +kernel
theorem dX7_fillLoneCells_29 : decode cX7_fillLoneCells 29 = .ok (.istore_n 3, 1) := by decide +kernel
theorem dX7_fillLoneCells_30 : decode cX7_fillLoneCells 30 = .ok (.iload_n 3, 1) := by decide +kernel
theorem dX7_fillLoneCells_31 : decode cX7_fillLoneCells 31 = .ok (.ifCond .eq 22, 3) := by decide +kernel
theorem dX7_fillLoneCells_34 : decode cX7_fillLoneCells 34 = .ok (.aload_n 0, 1) := by decide +kernel
theorem dX7_fillLoneCells_35 : decode cX7_fillLoneCells 35 = .ok (.aload_n 0, 1) := by decide +kernel
theorem dX7_fillLoneCells_36 : decode cX7_fillLoneCells 36 = .ok (.getfield 7, 3) := by decide +kernel
theorem dX7_fillLoneCells_39 : decode cX7_fillLoneCells 39 = .ok (.getfield 59, 3) := by decide +kernel
theorem dX7_fillLoneCells_42 : decode cX7_fillLoneCells 42 = .ok (.iload_n 2, 1) := by decide +kernel
theorem dX7_fillLoneCells_43 : decode cX7_fillLoneCells 43 = .ok (.aaload, 1) := by decide +kernel
theorem dX7_fillLoneCells_44 : decode cX7_fillLoneCells 44 = .ok (.iload_n 3, 1) := by decide +kernel
theorem dX7_fillLoneCells_45 : decode cX7_fillLoneCells 45 = .ok (.invokevirtual 67, 3) := by decide +kernel
theorem dX7_fillLoneCells_48 : decode cX7_fillLoneCells 48 = .ok (.ifCond .eq 5, 3) := by decide +kernel
theorem dX7_fillLoneCells_51 : decode cX7_fillLoneCells 51 = .ok (.iconst 1, 1) := by decide +kernel
theorem dX7_fillLoneCells_52 : decode cX7_fillLoneCells 52 = .ok (.istore_n 1, 1) := by decide +kernel
theorem dX7_fillLoneCells_53 : decode cX7_fillLoneCells 53 = .ok (.iinc 2 1, 3) := by decide +kernel
theorem dX7_fillLoneCells_56 : decode cX7_fillLoneCells 56 = .ok (.goto (-52), 3) := by decide +kernel
theorem dX7_fillLoneCells_59 : decode cX7_fillLoneCells 59 = .ok (.iload_n 1, 1) := by decide +kernel
theorem dX7_fillLoneCells_60 : decode cX7_fillLoneCells 60 = .ok (.ireturn, 1) := by decide +kernel
set_option maxRecDepth 20000 in
theorem ggX7_symbolsOfOneCell_X1_isEmpty : GoodIn wsX7_symbolsOfOneCell wsX1_isEmpty := goodIn_r _ [6, 7, 22, 23, 24, 25, 26] (by decide +kernel) (by decide +kernel)
set_option maxRecDepth 20000 in
theorem gX7_symbolsOfOneCell_X1_isEmpty : GoodIn wsX7_symbolsOfOneCell (wsV RX7 39 RX1 yX1_isEmpty wsX1_isEmpty) := goodIn_app (goodIn_of _ (by decide +kernel)) ggX7_symbolsOfOneCell_X1_isEmpty
set_option maxRecDepth 20000 in
theorem ggX7_symbolsOfOneCell_X1_may : GoodIn wsX7_symbolsOfOneCell wsX1_may := goodIn_r _ [11, 12, 13, 14, 15, 16, 17, 18, 19, 22, 23, 24, 25, 26, 27, 28, 29, 30, 31, 32, 33] (by decide +kernel) (by decide +kernel)
set_option maxRecDepth 20000 in
theorem gX7_symbolsOfOneCell_X1_may : GoodIn wsX7_symbolsOfOneCell (wsV RX7 43 RX1 yX1_may wsX1_may) := goodIn_app (goodIn_of _ (by decide +kernel)) ggX7_symbolsOfOneCell_X1_may
theorem dX7_symbolsOfOneCell_0 : decode cX7_symbolsOfOneCell 0 = .ok (.iconst 0, 1) := by decide +kernel
theorem dX7_symbolsOfOneCell_1 : decode cX7_symbolsOfOneCell 1 = .ok (.istore_n 2, 1) := by decide +kernel
theorem dX7_symbolsOfOneCell_2 : decode cX7_symbolsOfOneCell 2 = .ok (.iconst 0, 1) := by decide +kernel
theorem dX7_symbolsOfOneCell_3 : decode cX7_symbolsOfOneCell 3 = .ok (.istore_n 3, 1) := by decide +kernel
theorem dX7_symbolsOfOneCell_4 : decode cX7_symbolsOfOneCell 4 = .ok (.iconst 0, 1) := by decide +kernel
theorem dX7_symbolsOfOneCell_5 : decode cX7_symbolsOfOneCell 5 = .ok (.istore 4, 2) := by decide +kernel
theorem dX7_symbolsOfOneCell_7 : decode cX7_symbolsOfOneCell 7 = .ok (.iload 4, 2) := by decide +kernel
theorem dX7_symbolsOfOneCell_9 : decode cX7_symbolsOfOneCell 9 = .ok (.aload_n 1, 1) := by decide +kernel
theorem dX7_symbolsOfOneCell_10 : decode cX7_symbolsOfOneCell 10 = .ok (.arraylength, 1) := by decide +kernel
theorem dX7_symbolsOfOneCell_11 : decode cX7_symbolsOfOneCell 11 = .ok (.if_icmp .ge 48, 3) := by decide +kernel
theorem dX7_symbolsOfOneCell_14 : decode cX7_symbolsOfOneCell 14 = .ok (.aload_n 0, 1) := by decide +kernel
theorem dX7_symbolsOfOneCell_15 : decode cX7_symbolsOfOneCell 15 = .ok (.getfield 18, 3) := by decide +kernel
theorem dX7_symbolsOfOneCell_18 : decode cX7_symbolsOfOneCell 18 = .ok (.aload_n 1, 1) := by decide +kernel
theorem dX7_symbolsOfOneCell_19 : decode cX7_symbolsOfOneCell 19 = .ok (.iload 4, 2) := by decide +kernel
theorem dX7_symbolsOfOneCell_21 : decode cX7_symbolsOfOneCell 21 = .ok (.iaload, 1) := by decide +kernel
theorem dX7_symbolsOfOneCell_22 : decode cX7_symbolsOfOneCell 22 = .ok (.invokevirtual 39, 3) := by decide +kernel
theorem dX7_symbolsOfOneCell_25 : decode cX7_symbolsOfOneCell 25 = .ok (.ifCond .eq 28, 3) := by decide +kernel
theorem dX7_symbolsOfOneCell_28 : decode cX7_symbolsOfOneCell 28 = .ok (.aload_n 0, 1) := by decide +kernel
theorem dX7_symbolsOfOneCell_29 : decode cX7_symbolsOfOneCell 29 = .ok (.getfield 18, 3) := by decide +kernel
theorem dX7_symbolsOfOneCell_32 : decode cX7_symbolsOfOneCell 32 = .ok (.aload_n 1, 1) := by decide +kernel
theorem dX7_symbolsOfOneCell_33 : decode cX7_symbolsOfOneCell 33 = .ok (.iload 4, 2) := by decide +kernel
theorem dX7_symbolsOfOneCell_35 : decode cX7_symbolsOfOneCell 35 = .ok (.iaload, 1) := by decide +kernel
theorem dX7_symbolsOfOneCell_36 : decode cX7_symbolsOfOneCell 36 = .ok (.invokevirtual 43, 3) := by decide +kernel
theorem dX7_symbolsOfOneCell_39 : decode cX7_symbolsOfOneCell 39 = .ok (.istore 5, 2) := by decide +kernel
theorem dX7_symbolsOfOneCell_41 : decode cX7_symbolsOfOneCell 41 = .ok (.iload_n 3, 1) := by decide +kernel
theorem dX7_symbolsOfOneCell_42 : decode cX7_symbolsOfOneCell 42 = .ok (.iload_n 2, 1) := by decide +kernel
theorem dX7_symbolsOfOneCell_43 : decode cX7_symbolsOfOneCell 43 = .ok (.iload 5, 2) := by decide +kernel
theorem dX7_symbolsOfOneCell_45 : decode cX7_symbolsOfOneCell 45 = .ok (.iand, 1) := by decide +kernel
theorem dX7_symbolsOfOneCell_46 : decode cX7_symbolsOfOneCell 46 = .ok (.ior, 1) := by decide +kernel
theorem dX7_symbolsOfOneCell_47 : decode cX7_symbolsOfOneCell 47 = .ok (.istore_n 3, 1) := by decide +kernel
theorem dX7_symbolsOfOneCell_48 : decode cX7_symbolsOfOneCell 48 = .ok (.iload_n 2, 1) := by decide +kernel
theorem dX7_symbolsOfOneCell_49 : decode cX7_symbolsOfOneCell 49 = .ok (.iload 5, 2) := by decide +kernel
theorem dX7_symbolsOfOneCell_51 : decode cX7_symbolsOfOneCell 51 = .ok (.ior, 1) := by decide +kernel
theorem dX7_symbolsOfOneCell_52 : decode cX7_symbolsOfOneCell 52 = .ok (.istore_n 2, 1) := by decide +kernel
theorem dX7_symbolsOfOneCell_53 : decode cX7_symbolsOfOneCell 53 = .ok (.iinc 4 1, 3) := by decide +kernel
theorem dX7_symbolsOfOneCell_56 : decode cX7_symbolsOfOneCell 56 = .ok (.goto (-49), 3) := by decide +kernel
theorem dX7_symbolsOfOneCell_59 : decode cX7_symbolsOfOneCell 59 = .ok (.iload_n 2, 1) := by decide +kernel
theorem dX7_symbolsOfOneCell_60 : decode cX7_symbolsOfOneCell 60 = .ok (.iload_n 3, 1) := by decide +kernel
theorem dX7_symbolsOfOneCell_61 : decode cX7_symbolsOfOneCell 61 = .ok (.iconst (-1), 1) := by decide +kernel
theorem dX7_symbolsOfOneCell_62 : decode cX7_symbolsOfOneCell 62 = .ok (.ixor, 1) := by decide +kernel
theorem dX7_symbolsOfOneCell_63 : decode cX7_symbolsOfOneCell 63 = .ok (.iand, 1) := by decide +kernel
theorem dX7_symbolsOfOneCell_64 : decode cX7_symbolsOfOneCell 64 = .ok (.ireturn, 1) := by decide +kernel
set_option maxRecDepth 20000 in
theorem ggX7_fillFrom_X1_isEmpty : GoodIn wsX7_fillFrom wsX1_isEmpty := goodIn_r _ [6, 7, 35, 36, 37, 38, 39] (by decide +kernel) (by decide +kernel)
set_option maxRecDepth 20000 in
theorem gX7_fillFrom_X1_isEmpty : GoodIn wsX7_fillFrom (wsV RX7 39 RX1 yX1_isEmpty wsX1_isEmpty) := goodIn_app (goodIn_of _ (by decide +kernel)) ggX7_fillFrom_X1_isEmpty
set_option maxRecDepth 20000 in
theorem ggX7_fillFrom_X1_may : GoodIn wsX7_fillFrom wsX1_may := goodIn_r _ [11, 12, 13, 14, 15, 16, 17, 18, 19, 35, 36, 37, 38, 39, 40, 41, 42, 43, 44, 45, 46] (by decide +kernel) (by decide +kernel)
set_option maxRecDepth 20000 in
theorem gX7_fillFrom_X1_may : GoodIn wsX7_fillFrom (wsV RX7 43 RX1 yX1_may wsX1_may) := goodIn_app (goodIn_of _ (by decide +kernel)) ggX7_fillFrom_X1_may
set_option maxRecDepth 20000 in
theorem ggX7_fillFrom_J6_numberOfTrailingZeros_0f7a4 : GoodIn wsX7_fillFrom wsJ6_numberOfTrailingZeros_0f7a4 := goodIn_r _ [23, 24] (by decide +kernel) (by decide +kernel)
set_option maxRecDepth 20000 in
theorem gX7_fillFrom_J6_numberOfTrailingZeros_0f7a4 : GoodIn wsX7_fillFrom (va_wsS RX7 52 yJ6_numberOfTrailingZeros_0f7a4 wsJ6_numberOfTrailingZeros_0f7a4) := goodIn_app (goodIn_of _ (by decide +kernel)) ggX7_fillFrom_J6_numberOfTrailingZeros_0f7a4
set_option maxRecDepth 20000 in
theorem ggX7_fillFrom_X1_put : GoodIn wsX7_fillFrom wsX1_put := goodIn_r _ [28, 7, 29, 30, 31, 5, 32, 14, 12, 15, 16, 17, 18, 19, 35, 36, 37, 38, 39, 40, 41, 42, 43, 44, 45, 46] (by decide +kernel) (by decide +kernel)
set_option maxRecDepth 20000 in
theorem gX7_fillFrom_X1_put : GoodIn wsX7_fillFrom (wsV RX7 55 RX1 yX1_put wsX1_put) := goodIn_app (goodIn_of _ (by decide +kernel)) ggX7_fillFrom_X1_put
theorem dX7_fillFrom_0 : decode cX7_fillFrom 0 = .ok (.iconst 0, 1) := by decide +kernel
theorem dX7_fillFrom_1 : decode cX7_fillFrom 1 = .ok (.istore_n 3, 1) := by decide +kernel
theorem dX7_fillFrom_2 : decode cX7_fillFrom 2 = .ok (.iconst 0, 1) := by decide +kernel
theorem dX7_fillFrom_3 : decode cX7_fillFrom 3 = .ok (.istore 4, 2) := by decide +kernel
theorem dX7_fillFrom_5 : decode cX7_fillFrom 5 = .ok (.iload 4, 2) := by decide +kernel
theorem dX7_fillFrom_7 : decode cX7_fillFrom 7 = .ok (.aload_n 1, 1) := by decide +kernel
theorem dX7_fillFrom_8 : decode cX7_fillFrom 8 = .ok (.arraylength, 1) := by decide +kernel
theorem dX7_fillFrom_9 : decode cX7_fillFrom 9 = .ok (.if_icmp .ge 61, 3) := by decide +kernel
theorem dX7_fillFrom_12 : decode cX7_fillFrom 12 = .ok (.aload_n 0, 1) := by decide +kernel
theorem dX7_fillFrom_13 : decode cX7_fillFrom 13 = .ok (.getfield 18, 3) := by decide +kernel
theorem dX7_fillFrom_16 : decode cX7_fillFrom 16 = .ok (.aload_n 1, 1) := by decide +kernel
theorem dX7_fillFrom_17 : decode cX7_fillFrom 17 = .ok (.iload 4, 2) := by decide +kernel
theorem dX7_fillFrom_19 : decode cX7_fillFrom 19 = .ok (.iaload, 1) := by decide +kernel
theorem dX7_fillFrom_20 : decode cX7_fillFrom 20 = .ok (.invokevirtual 39, 3) := by decide +kernel
theorem dX7_fillFrom_23 : decode cX7_fillFrom 23 = .ok (.ifCond .eq 41, 3) := by decide +kernel
theorem dX7_fillFrom_26 : decode cX7_fillFrom 26 = .ok (.aload_n 0, 1) := by decide +kernel
theorem dX7_fillFrom_27 : decode cX7_fillFrom 27 = .ok (.getfield 18, 3) := by decide +kernel
theorem dX7_fillFrom_30 : decode cX7_fillFrom 30 = .ok (.aload_n 1, 1) := by decide +kernel
theorem dX7_fillFrom_31 : decode cX7_fillFrom 31 = .ok (.iload 4, 2) := by decide +kernel
theorem dX7_fillFrom_33 : decode cX7_fillFrom 33 = .ok (.iaload, 1) := by decide +kernel
theorem dX7_fillFrom_34 : decode cX7_fillFrom 34 = .ok (.invokevirtual 43, 3) := by decide +kernel
theorem dX7_fillFrom_37 : decode cX7_fillFrom 37 = .ok (.iload_n 2, 1) := by decide +kernel
theorem dX7_fillFrom_38 : decode cX7_fillFrom 38 = .ok (.iand, 1) := by decide +kernel
theorem dX7_fillFrom_39 : decode cX7_fillFrom 39 = .ok (.istore 5, 2) := by decide +kernel
theorem dX7_fillFrom_41 : decode cX7_fillFrom 41 = .ok (.iload 5, 2) := by decide +kernel
theorem dX7_fillFrom_43 : decode cX7_fillFrom 43 = .ok (.ifCond .eq 21, 3) := by decide +kernel
theorem dX7_fillFrom_46 : decode cX7_fillFrom 46 = .ok (.aload_n 0, 1) := by decide +kernel
theorem dX7_fillFrom_47 : decode cX7_fillFrom 47 = .ok (.getfield 18, 3) := by decide +kernel
theorem dX7_fillFrom_50 : decode cX7_fillFrom 50 = .ok (.aload_n 1, 1) := by decide +kernel
theorem dX7_fillFrom_51 : decode cX7_fillFrom 51 = .ok (.iload 4, 2) := by decide +kernel
theorem dX7_fillFrom_53 : decode cX7_fillFrom 53 = .ok (.iaload, 1) := by decide +kernel
theorem dX7_fillFrom_54 : decode cX7_fillFrom 54 = .ok (.iload 5, 2) := by decide +kernel
theorem dX7_fillFrom_56 : decode cX7_fillFrom 56 = .ok (.invokestatic 52, 3) := by decide +kernel
theorem dX7_fillFrom_59 : decode cX7_fillFrom 59 = .ok (.invokevirtual 55, 3) := by decide +kernel
theorem dX7_fillFrom_62 : decode cX7_fillFrom 62 = .ok (.iconst 1, 1) := by decide +kernel
theorem dX7_fillFrom_63 : decode cX7_fillFrom 63 = .ok (.istore_n 3, 1) := by decide +kernel
theorem dX7_fillFrom_64 : decode cX7_fillFrom 64 = .ok (.iinc 4 1, 3) := by decide +kernel
theorem dX7_fillFrom_67 : decode cX7_fillFrom 67 = .ok (.goto (-62), 3) := by decide +kernel
theorem dX7_fillFrom_70 : decode cX7_fillFrom 70 = .ok (.iload_n 3, 1) := by decide +kernel
theorem dX7_fillFrom_71 : decode cX7_fillFrom 71 = .ok (.ireturn, 1) := by decide +kernel
set_option maxRecDepth 20000 in
theorem ggX8_init_X1_init : GoodIn wsX8_init wsX1_init := goodIn_r _ [15, 16, 2, 3, 17, 18, 11, 19, 20, 21, 22, 23, 24, 25, 26, 8, 27, 32, 33, 34, 35, 36, 37, 38, 39, 40, 41, 42, 43] (by decide +kernel) (by decide +kernel)
set_option maxRecDepth 20000 in
theorem gX8_init_X1_init : GoodIn wsX8_init (wsX1_init) := ggX8_init_X1_init
theorem dX8_init_0 : decode cX8_init 0 = .ok (.aload_n 0, 1) := by decide +kernel
theorem dX8_init_1 : decode cX8_init 1 = .ok (.invokespecial 1, 3) := by decide +kernel
theorem dX8_init_4 : decode cX8_init 4 = .ok (.aload_n 0, 1) := by decide +kernel
theorem dX8_init_5 : decode cX8_init 5 = .ok (.iconst 0, 1) := by decide +kernel
theorem dX8_init_6 : decode cX8_init 6 = .ok (.putfield 7, 3) := by decide +kernel
theorem dX8_init_9 : decode cX8_init 9 = .ok (.aload_n 0, 1) := by decide +kernel
theorem dX8_init_10 : decode cX8_init 10 = .ok (.iconst 0, 1) := by decide +kernel
theorem dX8_init_11 : decode cX8_init 11 = .ok (.putfield 13, 3) := by decide +kernel
theorem dX8_init_14 : decode cX8_init 14 = .ok (.aload_n 0, 1) := by decide +kernel
theorem dX8_init_15 : decode cX8_init 15 = .ok (.new 16, 3) := by decide +kernel
theorem dX8_init_18 : decode cX8_init 18 = .ok (.dup, 1) := by decide +kernel
theorem dX8_init_19 : decode cX8_init 19 = .ok (.aload_n 1, 1) := by decide +kernel
theorem dX8_init_20 : decode cX8_init 20 = .ok (.invokespecial 18, 3) := by decide +kernel
theorem dX8_init_23 : decode cX8_init 23 = .ok (.putfield 21, 3) := by decide +kernel
theorem dX8_init_26 : decode cX8_init 26 = .ok (.aload_n 0, 1) := by decide +kernel
theorem dX8_init_27 : decode cX8_init 27 = .ok (.aload_n 1, 1) := by decide +kernel
theorem dX8_init_28 : decode cX8_init 28 = .ok (.getfield 25, 3) := by decide +kernel
theorem dX8_init_31 : decode cX8_init 31 = .ok (.newarray .int, 2) := by decide +kernel
theorem dX8_init_33 : decode cX8_init 33 = .ok (.putfield 30, 3) := by decide +kernel
theorem dX8_init_36 : decode cX8_init 36 = .ok (.return_, 1) := by decide +kernel
set_option maxRecDepth 20000 in
theorem ggX8_count_X1_putAll : GoodIn wsX8_count wsX1_putAll := goodIn_r _ [9, 10, 11, 12, 13, 14, 8, 15, 16, 17, 18, 19, 20, 21, 22, 23, 24, 25, 26, 27, 28, 29, 30, 31, 69, 70, 71, 72, 73, 74, 75, 76, 77, 78, 79, 80] (by decide +kernel) (by decide +kernel)
set_option maxRecDepth 20000 in
theorem gX8_count_X1_putAll : GoodIn wsX8_count (wsV RX8 34 RX1 yX1_putAll wsX1_putAll) := goodIn_app (goodIn_of _ (by decide +kernel)) ggX8_count_X1_putAll
set_option maxRecDepth 20000 in
theorem ggX8_count_X1_isEmpty : GoodIn wsX8_count wsX1_isEmpty := goodIn_r _ [35, 16, 69, 70, 71, 72, 73] (by decide +kernel) (by decide +kernel)
set_option maxRecDepth 20000 in
theorem gX8_count_X1_isEmpty : GoodIn wsX8_count (wsV RX8 38 RX1 yX1_isEmpty wsX1_isEmpty) := goodIn_app (goodIn_of _ (by decide +kernel)) ggX8_count_X1_isEmpty
set_option maxRecDepth 20000 in
theorem ggX8_count_X8_search : GoodIn wsX8_count wsX8_search := goodIn_r _ [40, 4, 2, 1, 41, 42, 3, 43, 44, 45, 39, 46, 47, 48, 49, 50, 8, 51, 10, 52, 18, 29, 19, 30, 20, 31, 53, 54, 55, 56, 57, 58, 59, 60, 22, 23, 24, 16, 25, 26, 27, 28, 36, 37, 38, 61, 62, 63, 64, 65, 66, 67, 68, 69, 70, 71, 72, 73, 74, 75, 76, 77, 78, 79, 80] (by decide +kernel) (by decide +kernel)
set_option maxRecDepth 20000 in
theorem gX8_count_X8_search : GoodIn wsX8_count (wsV RX8 42 RX8 yX8_search wsX8_search) := goodIn_app (goodIn_of _ (by decide +kernel)) ggX8_count_X8_search
theorem dX8_count_0 : decode cX8_count 0 = .ok (.aload_n 0, 1) := by decide +kernel
theorem dX8_count_1 : decode cX8_count 1 = .ok (.getfield 21, 3) := by decide +kernel
theorem dX8_count_4 : decode cX8_count 4 = .ok (.aload_n 1, 1) := by decide +kernel
theorem dX8_count_5 : decode cX8_count 5 = .ok (.invokevirtual 34, 3) := by decide +kernel
theorem dX8_count_8 : decode cX8_count 8 = .ok (.iconst 0, 1) := by decide +kernel
theorem dX8_count_9 : decode cX8_count 9 = .ok (.istore_n 3, 1) := by decide +kernel
theorem dX8_count_10 : decode cX8_count 10 = .ok (.iconst 0, 1) := by decide +kernel
theorem dX8_count_11 : decode cX8_count 11 = .ok (.istore 4, 2) := by decide +kernel
theorem dX8_count_13 : decode cX8_count 13 = .ok (.iload 4, 2) := by decide +kernel
theorem dX8_count_15 : decode cX8_count 15 = .ok (.aload_n 0, 1) := by decide +kernel
theorem dX8_count_16 : decode cX8_count 16 = .ok (.getfield 30, 3) := by decide +kernel
theorem dX8_count_19 : decode cX8_count 19 = .ok (.arraylength, 1) := by decide +kernel
theorem dX8_count_20 : decode cX8_count 20 = .ok (.if_icmp .ge 32, 3) := by decide +kernel
theorem dX8_count_23 : decode cX8_count 23 = .ok (.aload_n 0, 1) := by decide +kernel
theorem dX8_count_24 : decode cX8_count 24 = .ok (.getfield 21, 3) := by decide +kernel
theorem dX8_count_27 : decode cX8_count 27 = .ok (.iload 4, 2) := by decide +kernel
theorem dX8_count_29 : decode cX8_count 29 = .ok (.invokevirtual 38, 3) := by decide +kernel
theorem dX8_count_32 : decode cX8_count 32 = .ok (.ifCond .eq 14, 3) := by decide +kernel
theorem dX8_count_35 : decode cX8_count 35 = .ok (.aload_n 0, 1) := by decide +kernel
theorem dX8_count_36 : decode cX8_count 36 = .ok (.getfield 30, 3) := by decide +kernel
theorem dX8_count_39 : decode cX8_count 39 = .ok (.iload_n 3, 1) := by decide +kernel
theorem dX8_count_40 : decode cX8_count 40 = .ok (.iload 4, 2) := by decide +kernel
theorem dX8_count_42 : decode cX8_count 42 = .ok (.iastore, 1) := by decide +kernel
theorem dX8_count_43 : decode cX8_count 43 = .ok (.iinc 3 1, 3) := by decide +kernel
theorem dX8_count_46 : decode cX8_count 46 = .ok (.iinc 4 1, 3) := by decide +kernel
theorem dX8_count_49 : decode cX8_count 49 = .ok (.goto (-36), 3) := by decide +kernel
theorem dX8_count_52 : decode cX8_count 52 = .ok (.aload_n 0, 1) := by decide +kernel
theorem dX8_count_53 : decode cX8_count 53 = .ok (.iload_n 2, 1) := by decide +kernel
theorem dX8_count_54 : decode cX8_count 54 = .ok (.putfield 7, 3) := by decide +kernel
theorem dX8_count_57 : decode cX8_count 57 = .ok (.aload_n 0, 1) := by decide +kernel
theorem dX8_count_58 : decode cX8_count 58 = .ok (.iconst 0, 1) := by decide +kernel
theorem dX8_count_59 : decode cX8_count 59 = .ok (.putfield 13, 3) := by decide +kernel
theorem dX8_count_62 : decode cX8_count 62 = .ok (.aload_n 0, 1) := by decide +kernel
theorem dX8_count_63 : decode cX8_count 63 = .ok (.iload_n 3, 1) := by decide +kernel
theorem dX8_count_64 : decode cX8_count 64 = .ok (.invokevirtual 42, 3) := by decide +kernel
theorem dX8_count_67 : decode cX8_count 67 = .ok (.aload_n 0, 1) := by decide +kernel
theorem dX8_count_68 : decode cX8_count 68 = .ok (.getfield 13, 3) := by decide +kernel
theorem dX8_count_71 : decode cX8_count 71 = .ok (.ireturn, 1) := by decide +kernel
set_option maxRecDepth 20000 in
theorem ggX8_search_X8_tightest : GoodIn wsX8_search wsX8_tightest := goodIn_r _ [11, 12, 3, 2, 13, 14, 15, 16, 17, 18, 19, 20, 21, 22, 23, 24, 25, 26, 27, 28, 29, 30, 31, 32, 49, 50, 51, 52, 53, 54, 55, 56, 57, 58, 59, 60, 61, 62, 63, 64] (by decide +kernel) (by decide +kernel)
set_option maxRecDepth 20000 in
theorem gX8_search_X8_tightest : GoodIn wsX8_search (wsV RX8 46 RX8 yX8_tightest wsX8_tightest) := goodIn_app (goodIn_of _ (by decide +kernel)) ggX8_search_X8_tightest
set_option maxRecDepth 20000 in
theorem ggX8_search_X1_may : GoodIn wsX8_search wsX1_may := goodIn_r _ [17, 18, 19, 20, 21, 22, 23, 24, 25, 53, 54, 55, 56, 57, 58, 59, 60, 61, 62, 63, 64] (by decide +kernel) (by decide +kernel)
set_option maxRecDepth 20000 in
theorem gX8_search_X1_may : GoodIn wsX8_search (wsV RX8 50 RX1 yX1_may wsX1_may) := goodIn_app (goodIn_of _ (by decide +kernel)) ggX8_search_X1_may
set_option maxRecDepth 20000 in
theorem ggX8_search_X1_put : GoodIn wsX8_search wsX1_put := goodIn_r _ [36, 37, 38, 39, 40, 16, 41, 20, 18, 21, 22, 23, 24, 25, 53, 54, 55, 56, 57, 58, 59, 60, 61, 62, 63, 64] (by decide +kernel) (by decide +kernel)
set_option maxRecDepth 20000 in
theorem gX8_search_X1_put : GoodIn wsX8_search (wsV RX8 60 RX1 yX1_put wsX1_put) := goodIn_app (goodIn_of _ (by decide +kernel)) ggX8_search_X1_put
set_option maxRecDepth 20000 in
theorem ggX8_search_X8_search : GoodIn wsX8_search wsX8_search := goodIn_r _ [0, 1, 2, 3, 4, 5, 6, 7, 8, 9, 10, 11, 12, 13, 14, 15, 16, 17, 18, 19, 20, 21, 22, 23, 24, 25, 26, 27, 28, 29, 30, 31, 32, 33, 34, 35, 36, 37, 38, 39, 40, 41, 42, 43, 44, 45, 46, 47, 48, 49, 50, 51, 52, 53, 54, 55, 56, 57, 58, 59, 60, 61, 62, 63, 64] (by decide +kernel) (by decide +kernel)
set_option maxRecDepth 20000 in
theorem gX8_search_X8_search : GoodIn wsX8_search (wsV RX8 42 RX8 yX8_search wsX8_search) := goodIn_app (goodIn_of _ (by decide +kernel)) ggX8_search_X8_search
set_option maxRecDepth 20000 in
theorem ggX8_search_X1_takeOut : GoodIn wsX8_search wsX1_takeOut := goodIn_r _ [48, 37, 38, 39, 40, 16, 41, 20, 18, 21, 22, 23, 24, 25, 53, 54, 55, 56, 57, 58, 59, 60, 61, 62, 63, 64] (by decide +kernel) (by decide +kernel)
set_option maxRecDepth 20000 in
theorem gX8_search_X1_takeOut : GoodIn wsX8_search (wsV RX8 64 RX1 yX1_takeOut wsX1_takeOut) := goodIn_app (goodIn_of _ (by decide +kernel)) ggX8_search_X1_takeOut
theorem dX8_search_0 : decode cX8_search 0 = .ok (.iload_n 1, 1) := by decide +kernel
theorem dX8_search_1 : decode cX8_search 1 = .ok (.iconst 1, 1) := by decide +kernel
theorem dX8_search_2 : decode cX8_search 2 = .ok (.if_icmp .ge 14, 3) := by decide +kernel
theorem dX8_search_5 : decode cX8_search 5 = .ok (.aload_n 0, 1) := by decide +kernel
theorem dX8_search_6 : decode cX8_search 6 = .ok (.dup, 1) := by decide +kernel
theorem dX8_search_7 : decode cX8_search 7 = .ok (.getfield 13, 3) := by decide +kernel
theorem dX8_search_10 : decode cX8_search 10 = .ok (.iconst 1, 1) := by decide +kernel
theorem dX8_search_11 : decode cX8_search 11 = .ok (.iadd, 1) := by decide +kernel
theorem dX8_search_12 : decode cX8_search 12 = .ok (.putfield 13, 3) := by decide +kernel
theorem dX8_search_15 : decode cX8_search 15 = .ok (.return_, 1) := by decide +kernel
theorem dX8_search_16 : decode cX8_search 16 = .ok (.iload_n 1, 1) := by decide +kernel
theorem dX8_search_17 : decode cX8_search 17 = .ok (.aload_n 0, 1) := by decide +kernel
theorem dX8_search_18 : decode cX8_search 18 = .ok (.getfield 30, 3) := by decide +kernel
theorem dX8_search_21 : decode cX8_search 21 = .ok (.arraylength, 1) := by decide +kernel
theorem dX8_search_22 : decode cX8_search 22 = .ok (.if_icmp .le 4, 3) := by decide +kernel
theorem dX8_search_25 : decode cX8_search 25 = .ok (.return_, 1) := by decide +kernel
theorem dX8_search_26 : decode cX8_search 26 = .ok (.aload_n 0, 1) := by decide +kernel
theorem dX8_search_27 : decode cX8_search 27 = .ok (.iload_n 1, 1) := by decide +kernel
theorem dX8_search_28 : decode cX8_search 28 = .ok (.invokevirtual 46, 3) := by decide +kernel
theorem dX8_search_31 : decode cX8_search 31 = .ok (.istore_n 2, 1) := by decide +kernel
theorem dX8_search_32 : decode cX8_search 32 = .ok (.aload_n 0, 1) := by decide +kernel
theorem dX8_search_33 : decode cX8_search 33 = .ok (.getfield 30, 3) := by decide +kernel
theorem dX8_search_36 : decode cX8_search 36 = .ok (.iload_n 2, 1) := by decide +kernel
theorem dX8_search_37 : decode cX8_search 37 = .ok (.iaload, 1) := by decide +kernel
theorem dX8_search_38 : decode cX8_search 38 = .ok (.istore_n 3, 1) := by decide +kernel
theorem dX8_search_39 : decode cX8_search 39 = .ok (.aload_n 0, 1) := by decide +kernel
theorem dX8_search_40 : decode cX8_search 40 = .ok (.getfield 30, 3) := by decide +kernel
theorem dX8_search_43 : decode cX8_search 43 = .ok (.iload_n 2, 1) := by decide +kernel
theorem dX8_search_44 : decode cX8_search 44 = .ok (.aload_n 0, 1) := by decide +kernel
theorem dX8_search_45 : decode cX8_search 45 = .ok (.getfield 30, 3) := by decide +kernel
theorem dX8_search_48 : decode cX8_search 48 = .ok (.iload_n 1, 1) := by decide +kernel
theorem dX8_search_49 : decode cX8_search 49 = .ok (.iconst 1, 1) := by decide +kernel
theorem dX8_search_50 : decode cX8_search 50 = .ok (.isub, 1) := by decide +kernel
theorem dX8_search_51 : decode cX8_search 51 = .ok (.iaload, 1) := by decide +kernel
theorem dX8_search_52 : decode cX8_search 52 = .ok (.iastore, 1) := by decide +kernel
theorem dX8_search_53 : decode cX8_search 53 = .ok (.aload_n 0, 1) := by decide +kernel
theorem dX8_search_54 : decode cX8_search 54 = .ok (.getfield 30, 3) := by decide +kernel
theorem dX8_search_57 : decode cX8_search 57 = .ok (.iload_n 1, 1) := by decide +kernel
theorem dX8_search_58 : decode cX8_search 58 = .ok (.iconst 1, 1) := by decide +kernel
theorem dX8_search_59 : decode cX8_search 59 = .ok (.isub, 1) := by decide +kernel
theorem dX8_search_60 : decode cX8_search 60 = .ok (.iload_n 3, 1) := by decide +kernel
theorem dX8_search_61 : decode cX8_search 61 = .ok (.iastore, 1) := by decide +kernel
theorem dX8_search_62 : decode cX8_search 62 = .ok (.aload_n 0, 1) := by decide +kernel
theorem dX8_search_63 : decode cX8_search 63 = .ok (.getfield 21, 3) := by decide +kernel
theorem dX8_search_66 : decode cX8_search 66 = .ok (.iload_n 3, 1) := by decide +kernel
theorem dX8_search_67 : decode cX8_search 67 = .ok (.invokevirtual 50, 3) := by decide +kernel
theorem dX8_search_70 : decode cX8_search 70 = .ok (.istore 4, 2) := by decide +kernel
theorem dX8_search_72 : decode cX8_search 72 = .ok (.iconst 0, 1) := by decide +kernel
theorem dX8_search_73 : decode cX8_search 73 = .ok (.istore 5, 2) := by decide +kernel
theorem dX8_search_75 : decode cX8_search 75 = .ok (.iload 5, 2) := by decide +kernel
theorem dX8_search_77 : decode cX8_search 77 = .ok (.aload_n 0, 1) := by decide +kernel
theorem dX8_search_78 : decode cX8_search 78 = .ok (.getfield 21, 3) := by decide +kernel
theorem dX8_search_81 : decode cX8_search 81 = .ok (.getfield 53, 3) := by decide +kernel
theorem dX8_search_84 : decode cX8_search 84 = .ok (.getfield 57, 3) := by decide +kernel
theorem dX8_search_87 : decode cX8_search 87 = .ok (.if_icmp .ge 55, 3) := by decide +kernel
theorem dX8_search_90 : decode cX8_search 90 = .ok (.aload_n 0, 1) := by decide +kernel
theorem dX8_search_91 : decode cX8_search 91 = .ok (.getfield 13, 3) := by decide +kernel
theorem dX8_search_94 : decode cX8_search 94 = .ok (.aload_n 0, 1) := by decide +kernel
theorem dX8_search_95 : decode cX8_search 95 = .ok (.getfield 7, 3) := by decide +kernel
theorem dX8_search_98 : decode cX8_search 98 = .ok (.if_icmp .ge 44, 3) := by decide +kernel
theorem dX8_search_101 : decode cX8_search 101 = .ok (.iload 4, 2) := by decide +kernel
theorem dX8_search_103 : decode cX8_search 103 = .ok (.iload 5, 2) := by decide +kernel
theorem dX8_search_105 : decode cX8_search 105 = .ok (.ishr, 1) := by decide +kernel
theorem dX8_search_106 : decode cX8_search 106 = .ok (.iconst 1, 1) := by decide +kernel
theorem dX8_search_107 : decode cX8_search 107 = .ok (.iand, 1) := by decide +kernel
theorem dX8_search_108 : decode cX8_search 108 = .ok (.ifCond .eq 28, 3) := by decide +kernel
theorem dX8_search_111 : decode cX8_search 111 = .ok (.aload_n 0, 1) := by decide +kernel
theorem dX8_search_112 : decode cX8_search 112 = .ok (.getfield 21, 3) := by decide +kernel
theorem dX8_search_115 : decode cX8_search 115 = .ok (.iload_n 3, 1) := by decide +kernel
theorem dX8_search_116 : decode cX8_search 116 = .ok (.iload 5, 2) := by decide +kernel
theorem dX8_search_118 : decode cX8_search 118 = .ok (.invokevirtual 60, 3) := by decide +kernel
theorem dX8_search_121 : decode cX8_search 121 = .ok (.aload_n 0, 1) := by decide +kernel
theorem dX8_search_122 : decode cX8_search 122 = .ok (.iload_n 1, 1) := by decide +kernel
theorem dX8_search_123 : decode cX8_search 123 = .ok (.iconst 1, 1) := by decide +kernel
theorem dX8_search_124 : decode cX8_search 124 = .ok (.isub, 1) := by decide +kernel
theorem dX8_search_125 : decode cX8_search 125 = .ok (.invokevirtual 42, 3) := by decide +kernel
theorem dX8_search_128 : decode cX8_search 128 = .ok (.aload_n 0, 1) := by decide +kernel
theorem dX8_search_129 : decode cX8_search 129 = .ok (.getfield 21, 3) := by decide +kernel
theorem dX8_search_132 : decode cX8_search 132 = .ok (.iload_n 3, 1) := by decide +kernel
theorem dX8_search_133 : decode cX8_search 133 = .ok (.invokevirtual 64, 3) := by decide +kernel
theorem dX8_search_136 : decode cX8_search 136 = .ok (.iinc 5 1, 3) := by decide +kernel
theorem dX8_search_139 : decode cX8_search 139 = .ok (.goto (-64), 3) := by decide +kernel
theorem dX8_search_142 : decode cX8_search 142 = .ok (.return_, 1) := by decide +kernel
set_option maxRecDepth 20000 in
theorem ggX8_tightest_X1_may : GoodIn wsX8_tightest wsX1_may := goodIn_r _ [8, 9, 10, 11, 12, 13, 14, 15, 16, 28, 29, 30, 31, 32, 33, 34, 35, 36, 37, 38, 39] (by decide +kernel) (by decide +kernel)
set_option maxRecDepth 20000 in
theorem gX8_tightest_X1_may : GoodIn wsX8_tightest (wsV RX8 50 RX1 yX1_may wsX1_may) := goodIn_app (goodIn_of _ (by decide +kernel)) ggX8_tightest_X1_may
set_option maxRecDepth 20000 in
theorem ggX8_tightest_J6_bitCount_0f7a4 : GoodIn wsX8_tightest wsJ6_bitCount_0f7a4 := goodIn_r _ [20, 21, 22, 23] (by decide +kernel) (by decide +kernel)
set_option maxRecDepth 20000 in
theorem gX8_tightest_J6_bitCount_0f7a4 : GoodIn wsX8_tightest (va_wsS RX8 70 yJ6_bitCount_0f7a4 wsJ6_bitCount_0f7a4) := goodIn_app (goodIn_of _ (by decide +kernel)) ggX8_tightest_J6_bitCount_0f7a4
theorem dX8_tightest_0 : decode cX8_tightest 0 = .ok (.iconst 0, 1) := by decide +kernel
theorem dX8_tightest_1 : decode cX8_tightest 1 = .ok (.istore_n 2, 1) := by decide +kernel
theorem dX8_tightest_2 : decode cX8_tightest 2 = .ok (.ldc 69, 2) := by decide +kernel
theorem dX8_tightest_4 : decode cX8_tightest 4 = .ok (.istore_n 3, 1) := by decide +kernel
theorem dX8_tightest_5 : decode cX8_tightest 5 = .ok (.iconst 0, 1) := by decide +kernel
theorem dX8_tightest_6 : decode cX8_tightest 6 = .ok (.istore 4, 2) := by decide +kernel
theorem dX8_tightest_8 : decode cX8_tightest 8 = .ok (.iload 4, 2) := by decide +kernel
theorem dX8_tightest_10 : decode cX8_tightest 10 = .ok (.iload_n 1, 1) := by decide +kernel
theorem dX8_tightest_11 : decode cX8_tightest 11 = .ok (.if_icmp .ge 45, 3) := by decide +kernel
theorem dX8_tightest_14 : decode cX8_tightest 14 = .ok (.iload_n 3, 1) := by decide +kernel
theorem dX8_tightest_15 : decode cX8_tightest 15 = .ok (.iconst 1, 1) := by decide +kernel
theorem dX8_tightest_16 : decode cX8_tightest 16 = .ok (.if_icmp .le 40, 3) := by decide +kernel
theorem dX8_tightest_19 : decode cX8_tightest 19 = .ok (.aload_n 0, 1) := by decide +kernel
theorem dX8_tightest_20 : decode cX8_tightest 20 = .ok (.getfield 21, 3) := by decide +kernel
theorem dX8_tightest_23 : decode cX8_tightest 23 = .ok (.aload_n 0, 1) := by decide +kernel
theorem dX8_tightest_24 : decode cX8_tightest 24 = .ok (.getfield 30, 3) := by decide +kernel
theorem dX8_tightest_27 : decode cX8_tightest 27 = .ok (.iload 4, 2) := by decide +kernel
theorem dX8_tightest_29 : decode cX8_tightest 29 = .ok (.iaload, 1) := by decide +kernel
theorem dX8_tightest_30 : decode cX8_tightest 30 = .ok (.invokevirtual 50, 3) := by decide +kernel
theorem dX8_tightest_33 : decode cX8_tightest 33 = .ok (.invokestatic 70, 3) := by decide +kernel
theorem dX8_tightest_36 : decode cX8_tightest 36 = .ok (.istore 5, 2) := by decide +kernel
theorem dX8_tightest_38 : decode cX8_tightest 38 = .ok (.iload 5, 2) := by decide +kernel
theorem dX8_tightest_40 : decode cX8_tightest 40 = .ok (.iload_n 3, 1) := by decide +kernel
theorem dX8_tightest_41 : decode cX8_tightest 41 = .ok (.if_icmp .ge 9, 3) := by decide +kernel
theorem dX8_tightest_44 : decode cX8_tightest 44 = .ok (.iload 5, 2) := by decide +kernel
theorem dX8_tightest_46 : decode cX8_tightest 46 = .ok (.istore_n 3, 1) := by decide +kernel
theorem dX8_tightest_47 : decode cX8_tightest 47 = .ok (.iload 4, 2) := by decide +kernel
theorem dX8_tightest_49 : decode cX8_tightest 49 = .ok (.istore_n 2, 1) := by decide +kernel
theorem dX8_tightest_50 : decode cX8_tightest 50 = .ok (.iinc 4 1, 3) := by decide +kernel
theorem dX8_tightest_53 : decode cX8_tightest 53 = .ok (.goto (-45), 3) := by decide +kernel
theorem dX8_tightest_56 : decode cX8_tightest 56 = .ok (.iload_n 2, 1) := by decide +kernel
theorem dX8_tightest_57 : decode cX8_tightest 57 = .ok (.ireturn, 1) := by decide +kernel
set_option maxRecDepth 20000 in
theorem ggX9_init_X1_init : GoodIn wsX9_init wsX1_init := goodIn_r _ [16, 17, 2, 3, 18, 19, 10, 20, 21, 22, 23, 24, 25, 26, 27, 8, 28, 34, 35, 36, 37, 38, 39, 40, 41, 42, 43, 44, 45] (by decide +kernel) (by decide +kernel)
set_option maxRecDepth 20000 in
theorem gX9_init_X1_init : GoodIn wsX9_init (wsX1_init) := ggX9_init_X1_init
theorem dX9_init_0 : decode cX9_init 0 = .ok (.aload_n 0, 1) := by decide +kernel
theorem dX9_init_1 : decode cX9_init 1 = .ok (.invokespecial 1, 3) := by decide +kernel
theorem dX9_init_4 : decode cX9_init 4 = .ok (.aload_n 0, 1) := by decide +kernel
theorem dX9_init_5 : decode cX9_init 5 = .ok (.iconst 0, 1) := by decide +kernel
theorem dX9_init_6 : decode cX9_init 6 = .ok (.putfield 7, 3) := by decide +kernel
theorem dX9_init_9 : decode cX9_init 9 = .ok (.aload_n 0, 1) := by decide +kernel
theorem dX9_init_10 : decode cX9_init 10 = .ok (.aload_n 1, 1) := by decide +kernel
theorem dX9_init_11 : decode cX9_init 11 = .ok (.putfield 13, 3) := by decide +kernel
theorem dX9_init_14 : decode cX9_init 14 = .ok (.aload_n 0, 1) := by decide +kernel
theorem dX9_init_15 : decode cX9_init 15 = .ok (.new 17, 3) := by decide +kernel
theorem dX9_init_18 : decode cX9_init 18 = .ok (.dup, 1) := by decide +kernel
theorem dX9_init_19 : decode cX9_init 19 = .ok (.aload_n 1, 1) := by decide +kernel
theorem dX9_init_20 : decode cX9_init 20 = .ok (.invokespecial 19, 3) := by decide +kernel
theorem dX9_init_23 : decode cX9_init 23 = .ok (.putfield 22, 3) := by decide +kernel
theorem dX9_init_26 : decode cX9_init 26 = .ok (.aload_n 0, 1) := by decide +kernel
theorem dX9_init_27 : decode cX9_init 27 = .ok (.bipush 60, 2) := by decide +kernel
theorem dX9_init_29 : decode cX9_init 29 = .ok (.newarray .int, 2) := by decide +kernel
theorem dX9_init_31 : decode cX9_init 31 = .ok (.putfield 26, 3) := by decide +kernel
theorem dX9_init_34 : decode cX9_init 34 = .ok (.aload_n 0, 1) := by decide +kernel
theorem dX9_init_35 : decode cX9_init 35 = .ok (.aload_n 0, 1) := by decide +kernel
theorem dX9_init_36 : decode cX9_init 36 = .ok (.getfield 22, 3) := by decide +kernel
theorem dX9_init_39 : decode cX9_init 39 = .ok (.getfield 30, 3) := by decide +kernel
theorem dX9_init_42 : decode cX9_init 42 = .ok (.putfield 33, 3) := by decide +kernel
theorem dX9_init_45 : decode cX9_init 45 = .ok (.return_, 1) := by decide +kernel
theorem dX9_byteOf_0 : decode cX9_byteOf 0 = .ok (.iload_n 0, 1) := by decide +kernel
theorem dX9_byteOf_1 : decode cX9_byteOf 1 = .ok (.ifCond .ge 8, 3) := by decide +kernel
theorem dX9_byteOf_4 : decode cX9_byteOf 4 = .ok (.bipush 46, 2) := by decide +kernel
theorem dX9_byteOf_6 : decode cX9_byteOf 6 = .ok (.goto 7, 3) := by decide +kernel
theorem dX9_byteOf_9 : decode cX9_byteOf 9 = .ok (.bipush 49, 2) := by decide +kernel
theorem dX9_byteOf_11 : decode cX9_byteOf 11 = .ok (.iload_n 0, 1) := by decide +kernel
theorem dX9_byteOf_12 : decode cX9_byteOf 12 = .ok (.iadd, 1) := by decide +kernel
theorem dX9_byteOf_13 : decode cX9_byteOf 13 = .ok (.ireturn, 1) := by decide +kernel
theorem dX9_add_0 : decode cX9_add 0 = .ok (.iload_n 1, 1) := by decide +kernel
theorem dX9_add_1 : decode cX9_add 1 = .ok (.ifCond .lt 19, 3) := by decide +kernel
theorem dX9_add_4 : decode cX9_add 4 = .ok (.iload_n 1, 1) := by decide +kernel
theorem dX9_add_5 : decode cX9_add 5 = .ok (.sipush 255, 3) := by decide +kernel
theorem dX9_add_8 : decode cX9_add 8 = .ok (.if_icmp .gt 12, 3) := by decide +kernel
theorem dX9_add_11 : decode cX9_add 11 = .ok (.aload_n 0, 1) := by decide +kernel
theorem dX9_add_12 : decode cX9_add 12 = .ok (.getfield 7, 3) := by decide +kernel
theorem dX9_add_15 : decode cX9_add 15 = .ok (.bipush 60, 2) := by decide +kernel
theorem dX9_add_17 : decode cX9_add 17 = .ok (.if_icmp .lt 5, 3) := by decide +kernel
theorem dX9_add_20 : decode cX9_add 20 = .ok (.iconst 0, 1) := by decide +kernel
theorem dX9_add_21 : decode cX9_add 21 = .ok (.ireturn, 1) := by decide +kernel
theorem dX9_add_22 : decode cX9_add 22 = .ok (.aload_n 0, 1) := by decide +kernel
theorem dX9_add_23 : decode cX9_add 23 = .ok (.getfield 26, 3) := by decide +kernel
theorem dX9_add_26 : decode cX9_add 26 = .ok (.aload_n 0, 1) := by decide +kernel
theorem dX9_add_27 : decode cX9_add 27 = .ok (.getfield 7, 3) := by decide +kernel
theorem dX9_add_30 : decode cX9_add 30 = .ok (.iload_n 1, 1) := by decide +kernel
theorem dX9_add_31 : decode cX9_add 31 = .ok (.iastore, 1) := by decide +kernel
theorem dX9_add_32 : decode cX9_add 32 = .ok (.aload_n 0, 1) := by decide +kernel
theorem dX9_add_33 : decode cX9_add 33 = .ok (.dup, 1) := by decide +kernel
theorem dX9_add_34 : decode cX9_add 34 = .ok (.getfield 7, 3) := by decide +kernel
theorem dX9_add_37 : decode cX9_add 37 = .ok (.iconst 1, 1) := by decide +kernel
theorem dX9_add_38 : decode cX9_add 38 = .ok (.iadd, 1) := by decide +kernel
theorem dX9_add_39 : decode cX9_add 39 = .ok (.putfield 7, 3) := by decide +kernel
theorem dX9_add_42 : decode cX9_add 42 = .ok (.iconst 1, 1) := by decide +kernel
theorem dX9_add_43 : decode cX9_add 43 = .ok (.ireturn, 1) := by decide +kernel
set_option maxRecDepth 20000 in
theorem ggX9_read_X1_clear : GoodIn wsX9_read wsX1_clear := goodIn_r _ [10, 11, 12, 13, 14, 15, 16, 17, 52, 53, 54, 55, 56, 45, 46, 47, 48, 49, 50, 51] (by decide +kernel) (by decide +kernel)
set_option maxRecDepth 20000 in
theorem gX9_read_X1_clear : GoodIn wsX9_read (wsV RX9 34 RX1 yX1_clear wsX1_clear) := goodIn_app (goodIn_of _ (by decide +kernel)) ggX9_read_X1_clear
set_option maxRecDepth 20000 in
theorem ggX9_read_X9_readByte : GoodIn wsX9_read wsX9_readByte := goodIn_r _ [22, 3, 23, 2, 24, 25, 26, 9, 27, 11, 28, 15, 29, 16, 30, 17, 31, 32, 33, 34, 35, 13, 36, 37, 38, 39, 40, 41, 42, 43, 44, 45, 46, 47, 48, 49, 50, 51, 52, 53, 54, 55, 56] (by decide +kernel) (by decide +kernel)
set_option maxRecDepth 20000 in
theorem gX9_read_X9_readByte : GoodIn wsX9_read (wsV RX9 42 RX9 yX9_readByte wsX9_readByte) := goodIn_app (goodIn_of _ (by decide +kernel)) ggX9_read_X9_readByte
theorem dX9_read_0 : decode cX9_read 0 = .ok (.aload_n 0, 1) := by decide +kernel
theorem dX9_read_1 : decode cX9_read 1 = .ok (.getfield 7, 3) := by decide +kernel
theorem dX9_read_4 : decode cX9_read 4 = .ok (.istore_n 1, 1) := by decide +kernel
theorem dX9_read_5 : decode cX9_read 5 = .ok (.aload_n 0, 1) := by decide +kernel
theorem dX9_read_6 : decode cX9_read 6 = .ok (.iconst 0, 1) := by decide +kernel
theorem dX9_read_7 : decode cX9_read 7 = .ok (.putfield 7, 3) := by decide +kernel
theorem dX9_read_10 : decode cX9_read 10 = .ok (.aload_n 0, 1) := by decide +kernel
theorem dX9_read_11 : decode cX9_read 11 = .ok (.getfield 22, 3) := by decide +kernel
theorem dX9_read_14 : decode cX9_read 14 = .ok (.invokevirtual 34, 3) := by decide +kernel
theorem dX9_read_17 : decode cX9_read 17 = .ok (.iconst 0, 1) := by decide +kernel
theorem dX9_read_18 : decode cX9_read 18 = .ok (.istore_n 2, 1) := by decide +kernel
theorem dX9_read_19 : decode cX9_read 19 = .ok (.iload_n 2, 1) := by decide +kernel
theorem dX9_read_20 : decode cX9_read 20 = .ok (.aload_n 0, 1) := by decide +kernel
theorem dX9_read_21 : decode cX9_read 21 = .ok (.getfield 13, 3) := by decide +kernel
theorem dX9_read_24 : decode cX9_read 24 = .ok (.getfield 37, 3) := by decide +kernel
theorem dX9_read_27 : decode cX9_read 27 = .ok (.if_icmp .ge 30, 3) := by decide +kernel
theorem dX9_read_30 : decode cX9_read 30 = .ok (.iload_n 2, 1) := by decide +kernel
theorem dX9_read_31 : decode cX9_read 31 = .ok (.iload_n 1, 1) := by decide +kernel
theorem dX9_read_32 : decode cX9_read 32 = .ok (.if_icmp .ge 17, 3) := by decide +kernel
theorem dX9_read_35 : decode cX9_read 35 = .ok (.aload_n 0, 1) := by decide +kernel
theorem dX9_read_36 : decode cX9_read 36 = .ok (.iload_n 2, 1) := by decide +kernel
theorem dX9_read_37 : decode cX9_read 37 = .ok (.aload_n 0, 1) := by decide +kernel
theorem dX9_read_38 : decode cX9_read 38 = .ok (.getfield 26, 3) := by decide +kernel
theorem dX9_read_41 : decode cX9_read 41 = .ok (.iload_n 2, 1) := by decide +kernel
theorem dX9_read_42 : decode cX9_read 42 = .ok (.iaload, 1) := by decide +kernel
theorem dX9_read_43 : decode cX9_read 43 = .ok (.invokevirtual 42, 3) := by decide +kernel
theorem dX9_read_46 : decode cX9_read 46 = .ok (.ifCond .ne 5, 3) := by decide +kernel
theorem dX9_read_49 : decode cX9_read 49 = .ok (.iload_n 2, 1) := by decide +kernel
theorem dX9_read_50 : decode cX9_read 50 = .ok (.ireturn, 1) := by decide +kernel
theorem dX9_read_51 : decode cX9_read 51 = .ok (.iinc 2 1, 3) := by decide +kernel
theorem dX9_read_54 : decode cX9_read 54 = .ok (.goto (-35), 3) := by decide +kernel
theorem dX9_read_57 : decode cX9_read 57 = .ok (.iload_n 1, 1) := by decide +kernel
theorem dX9_read_58 : decode cX9_read 58 = .ok (.aload_n 0, 1) := by decide +kernel
theorem dX9_read_59 : decode cX9_read 59 = .ok (.getfield 13, 3) := by decide +kernel
theorem dX9_read_62 : decode cX9_read 62 = .ok (.getfield 37, 3) := by decide +kernel
theorem dX9_read_65 : decode cX9_read 65 = .ok (.if_icmp .le 13, 3) := by decide +kernel
theorem dX9_read_68 : decode cX9_read 68 = .ok (.aload_n 0, 1) := by decide +kernel
theorem dX9_read_69 : decode cX9_read 69 = .ok (.getfield 13, 3) := by decide +kernel
theorem dX9_read_72 : decode cX9_read 72 = .ok (.getfield 37, 3) := by decide +kernel
theorem dX9_read_75 : decode cX9_read 75 = .ok (.goto 4, 3) := by decide +kernel
theorem dX9_read_78 : decode cX9_read 78 = .ok (.iconst (-1), 1) := by decide +kernel
theorem dX9_read_79 : decode cX9_read 79 = .ok (.ireturn, 1) := by decide +kernel
set_option maxRecDepth 20000 in
theorem ggX9_readByte_X1_may : GoodIn wsX9_readByte wsX1_may := goodIn_r _ [8, 9, 10, 11, 12, 13, 14, 15, 16, 38, 39, 40, 41, 42, 31, 32, 33, 34, 35, 36, 37] (by decide +kernel) (by decide +kernel)
set_option maxRecDepth 20000 in
theorem gX9_readByte_X1_may : GoodIn wsX9_readByte (wsV RX9 49 RX1 yX1_may wsX1_may) := goodIn_app (goodIn_of _ (by decide +kernel)) ggX9_readByte_X1_may
set_option maxRecDepth 20000 in
theorem ggX9_readByte_X1_put : GoodIn wsX9_readByte wsX1_put := goodIn_r _ [20, 21, 22, 23, 24, 7, 25, 11, 9, 12, 13, 14, 15, 16, 38, 39, 40, 41, 42, 31, 32, 33, 34, 35, 36, 37] (by decide +kernel) (by decide +kernel)
set_option maxRecDepth 20000 in
theorem gX9_readByte_X1_put : GoodIn wsX9_readByte (wsV RX9 53 RX1 yX1_put wsX1_put) := goodIn_app (goodIn_of _ (by decide +kernel)) ggX9_readByte_X1_put
theorem dX9_readByte_0 : decode cX9_readByte 0 = .ok (.iload_n 2, 1) := by decide +kernel
theorem dX9_readByte_1 : decode cX9_readByte 1 = .ok (.bipush 46, 2) := by decide +kernel
theorem dX9_readByte_3 : decode cX9_readByte 3 = .ok (.if_icmp .ne 5, 3) := by decide +kernel
theorem dX9_readByte_6 : decode cX9_readByte 6 = .ok (.iconst 1, 1) := by decide +kernel
theorem dX9_readByte_7 : decode cX9_readByte 7 = .ok (.ireturn, 1) := by decide +kernel
theorem dX9_readByte_8 : decode cX9_readByte 8 = .ok (.iload_n 2, 1) := by decide +kernel
theorem dX9_readByte_9 : decode cX9_readByte 9 = .ok (.bipush 49, 2) := by decide +kernel
theorem dX9_readByte_11 : decode cX9_readByte 11 = .ok (.isub, 1) := by decide +kernel
theorem dX9_readByte_12 : decode cX9_readByte 12 = .ok (.istore_n 3, 1) := by decide +kernel
theorem dX9_readByte_13 : decode cX9_readByte 13 = .ok (.iload_n 3, 1) := by decide +kernel
theorem dX9_readByte_14 : decode cX9_readByte 14 = .ok (.ifCond .lt 29, 3) := by decide +kernel
theorem dX9_readByte_17 : decode cX9_readByte 17 = .ok (.iload_n 3, 1) := by decide +kernel
theorem dX9_readByte_18 : decode cX9_readByte 18 = .ok (.aload_n 0, 1) := by decide +kernel
theorem dX9_readByte_19 : decode cX9_readByte 19 = .ok (.getfield 13, 3) := by decide +kernel
theorem dX9_readByte_22 : decode cX9_readByte 22 = .ok (.getfield 46, 3) := by decide +kernel
theorem dX9_readByte_25 : decode cX9_readByte 25 = .ok (.if_icmp .ge 18, 3) := by decide +kernel
theorem dX9_readByte_28 : decode cX9_readByte 28 = .ok (.aload_n 0, 1) := by decide +kernel
theorem dX9_readByte_29 : decode cX9_readByte 29 = .ok (.getfield 22, 3) := by decide +kernel
theorem dX9_readByte_32 : decode cX9_readByte 32 = .ok (.iload_n 1, 1) := by decide +kernel
theorem dX9_readByte_33 : decode cX9_readByte 33 = .ok (.invokevirtual 49, 3) := by decide +kernel
theorem dX9_readByte_36 : decode cX9_readByte 36 = .ok (.iload_n 3, 1) := by decide +kernel
theorem dX9_readByte_37 : decode cX9_readByte 37 = .ok (.ishr, 1) := by decide +kernel
theorem dX9_readByte_38 : decode cX9_readByte 38 = .ok (.iconst 1, 1) := by decide +kernel
theorem dX9_readByte_39 : decode cX9_readByte 39 = .ok (.iand, 1) := by decide +kernel
theorem dX9_readByte_40 : decode cX9_readByte 40 = .ok (.ifCond .ne 5, 3) := by decide +kernel
theorem dX9_readByte_43 : decode cX9_readByte 43 = .ok (.iconst 0, 1) := by decide +kernel
theorem dX9_readByte_44 : decode cX9_readByte 44 = .ok (.ireturn, 1) := by decide +kernel
theorem dX9_readByte_45 : decode cX9_readByte 45 = .ok (.aload_n 0, 1) := by decide +kernel
theorem dX9_readByte_46 : decode cX9_readByte 46 = .ok (.getfield 22, 3) := by decide +kernel
theorem dX9_readByte_49 : decode cX9_readByte 49 = .ok (.iload_n 1, 1) := by decide +kernel
theorem dX9_readByte_50 : decode cX9_readByte 50 = .ok (.iload_n 3, 1) := by decide +kernel
theorem dX9_readByte_51 : decode cX9_readByte 51 = .ok (.invokevirtual 53, 3) := by decide +kernel
theorem dX9_readByte_54 : decode cX9_readByte 54 = .ok (.iconst 1, 1) := by decide +kernel
theorem dX9_readByte_55 : decode cX9_readByte 55 = .ok (.ireturn, 1) := by decide +kernel
