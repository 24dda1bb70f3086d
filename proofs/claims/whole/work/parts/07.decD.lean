theorem dX11_init_0 : decode cX11_init 0 = .ok (.aload_n 0, 1) := by decide +kernel
theorem dX11_init_1 : decode cX11_init 1 = .ok (.invokespecial 1, 3) := by decide +kernel
theorem dX11_init_4 : decode cX11_init 4 = .ok (.aload_n 0, 1) := by decide +kernel
theorem dX11_init_5 : decode cX11_init 5 = .ok (.bipush 36, 2) := by decide +kernel
theorem dX11_init_7 : decode cX11_init 7 = .ok (.newarray .int, 2) := by decide +kernel
theorem dX11_init_9 : decode cX11_init 9 = .ok (.putfield 7, 3) := by decide +kernel
theorem dX11_init_12 : decode cX11_init 12 = .ok (.aload_n 0, 1) := by decide +kernel
theorem dX11_init_13 : decode cX11_init 13 = .ok (.ldc 13, 2) := by decide +kernel
theorem dX11_init_15 : decode cX11_init 15 = .ok (.putfield 14, 3) := by decide +kernel
theorem dX11_init_18 : decode cX11_init 18 = .ok (.aload_n 0, 1) := by decide +kernel
theorem dX11_init_19 : decode cX11_init 19 = .ok (.bipush 7, 2) := by decide +kernel
theorem dX11_init_21 : decode cX11_init 21 = .ok (.newarray .int, 2) := by decide +kernel
theorem dX11_init_23 : decode cX11_init 23 = .ok (.putfield 18, 3) := by decide +kernel
theorem dX11_init_26 : decode cX11_init 26 = .ok (.aload_n 0, 1) := by decide +kernel
theorem dX11_init_27 : decode cX11_init 27 = .ok (.bipush 36, 2) := by decide +kernel
theorem dX11_init_29 : decode cX11_init 29 = .ok (.newarray .int, 2) := by decide +kernel
theorem dX11_init_31 : decode cX11_init 31 = .ok (.putfield 21, 3) := by decide +kernel
theorem dX11_init_34 : decode cX11_init 34 = .ok (.aload_n 0, 1) := by decide +kernel
theorem dX11_init_35 : decode cX11_init 35 = .ok (.bipush 36, 2) := by decide +kernel
theorem dX11_init_37 : decode cX11_init 37 = .ok (.newarray .int, 2) := by decide +kernel
theorem dX11_init_39 : decode cX11_init 39 = .ok (.putfield 24, 3) := by decide +kernel
theorem dX11_init_42 : decode cX11_init 42 = .ok (.aload_n 0, 1) := by decide +kernel
theorem dX11_init_43 : decode cX11_init 43 = .ok (.bipush 36, 2) := by decide +kernel
theorem dX11_init_45 : decode cX11_init 45 = .ok (.newarray .int, 2) := by decide +kernel
theorem dX11_init_47 : decode cX11_init 47 = .ok (.putfield 27, 3) := by decide +kernel
theorem dX11_init_50 : decode cX11_init 50 = .ok (.aload_n 0, 1) := by decide +kernel
theorem dX11_init_51 : decode cX11_init 51 = .ok (.bipush 36, 2) := by decide +kernel
theorem dX11_init_53 : decode cX11_init 53 = .ok (.newarray .int, 2) := by decide +kernel
theorem dX11_init_55 : decode cX11_init 55 = .ok (.putfield 30, 3) := by decide +kernel
theorem dX11_init_58 : decode cX11_init 58 = .ok (.aload_n 0, 1) := by decide +kernel
theorem dX11_init_59 : decode cX11_init 59 = .ok (.bipush 36, 2) := by decide +kernel
theorem dX11_init_61 : decode cX11_init 61 = .ok (.newarray .int, 2) := by decide +kernel
theorem dX11_init_63 : decode cX11_init 63 = .ok (.putfield 33, 3) := by decide +kernel
theorem dX11_init_66 : decode cX11_init 66 = .ok (.aload_n 0, 1) := by decide +kernel
theorem dX11_init_67 : decode cX11_init 67 = .ok (.bipush 36, 2) := by decide +kernel
theorem dX11_init_69 : decode cX11_init 69 = .ok (.newarray .int, 2) := by decide +kernel
theorem dX11_init_71 : decode cX11_init 71 = .ok (.putfield 36, 3) := by decide +kernel
theorem dX11_init_74 : decode cX11_init 74 = .ok (.aload_n 0, 1) := by decide +kernel
theorem dX11_init_75 : decode cX11_init 75 = .ok (.bipush 36, 2) := by decide +kernel
theorem dX11_init_77 : decode cX11_init 77 = .ok (.newarray .int, 2) := by decide +kernel
theorem dX11_init_79 : decode cX11_init 79 = .ok (.putfield 39, 3) := by decide +kernel
theorem dX11_init_82 : decode cX11_init 82 = .ok (.aload_n 0, 1) := by decide +kernel
theorem dX11_init_83 : decode cX11_init 83 = .ok (.bipush 60, 2) := by decide +kernel
theorem dX11_init_85 : decode cX11_init 85 = .ok (.newarray .int, 2) := by decide +kernel
theorem dX11_init_87 : decode cX11_init 87 = .ok (.putfield 42, 3) := by decide +kernel
theorem dX11_init_90 : decode cX11_init 90 = .ok (.aload_n 0, 1) := by decide +kernel
theorem dX11_init_91 : decode cX11_init 91 = .ok (.iload_n 1, 1) := by decide +kernel
theorem dX11_init_92 : decode cX11_init 92 = .ok (.iconst 1, 1) := by decide +kernel
theorem dX11_init_93 : decode cX11_init 93 = .ok (.if_icmp .ge 7, 3) := by decide +kernel
theorem dX11_init_96 : decode cX11_init 96 = .ok (.iconst 4, 1) := by decide +kernel
theorem dX11_init_97 : decode cX11_init 97 = .ok (.goto 5, 3) := by decide +kernel
theorem dX11_init_100 : decode cX11_init 100 = .ok (.bipush 6, 2) := by decide +kernel
theorem dX11_init_102 : decode cX11_init 102 = .ok (.putfield 45, 3) := by decide +kernel
theorem dX11_init_105 : decode cX11_init 105 = .ok (.aload_n 0, 1) := by decide +kernel
theorem dX11_init_106 : decode cX11_init 106 = .ok (.iload_n 1, 1) := by decide +kernel
theorem dX11_init_107 : decode cX11_init 107 = .ok (.iconst 1, 1) := by decide +kernel
theorem dX11_init_108 : decode cX11_init 108 = .ok (.if_icmp .ge 7, 3) := by decide +kernel
theorem dX11_init_111 : decode cX11_init 111 = .ok (.iconst 2, 1) := by decide +kernel
theorem dX11_init_112 : decode cX11_init 112 = .ok (.goto 4, 3) := by decide +kernel
theorem dX11_init_115 : decode cX11_init 115 = .ok (.iconst 3, 1) := by decide +kernel
theorem dX11_init_116 : decode cX11_init 116 = .ok (.putfield 48, 3) := by decide +kernel
theorem dX11_init_119 : decode cX11_init 119 = .ok (.aload_n 0, 1) := by decide +kernel
theorem dX11_init_120 : decode cX11_init 120 = .ok (.iconst 2, 1) := by decide +kernel
theorem dX11_init_121 : decode cX11_init 121 = .ok (.putfield 51, 3) := by decide +kernel
theorem dX11_init_124 : decode cX11_init 124 = .ok (.return_, 1) := by decide +kernel
theorem dX11_thrown_0 : decode cX11_thrown 0 = .ok (.aload_n 0, 1) := by decide +kernel
theorem dX11_thrown_1 : decode cX11_thrown 1 = .ok (.getfield 54, 3) := by decide +kernel
theorem dX11_thrown_4 : decode cX11_thrown 4 = .ok (.ireturn, 1) := by decide +kernel
theorem dX11_throwsIf_0 : decode cX11_throwsIf 0 = .ok (.aload_n 0, 1) := by decide +kernel
theorem dX11_throwsIf_1 : decode cX11_throwsIf 1 = .ok (.iload_n 2, 1) := by decide +kernel
theorem dX11_throwsIf_2 : decode cX11_throwsIf 2 = .ok (.ifCond .eq 7, 3) := by decide +kernel
theorem dX11_throwsIf_5 : decode cX11_throwsIf 5 = .ok (.iload_n 1, 1) := by decide +kernel
theorem dX11_throwsIf_6 : decode cX11_throwsIf 6 = .ok (.goto 4, 3) := by decide +kernel
theorem dX11_throwsIf_9 : decode cX11_throwsIf 9 = .ok (.iconst 0, 1) := by decide +kernel
theorem dX11_throwsIf_10 : decode cX11_throwsIf 10 = .ok (.putfield 54, 3) := by decide +kernel
theorem dX11_throwsIf_13 : decode cX11_throwsIf 13 = .ok (.iload_n 2, 1) := by decide +kernel
theorem dX11_throwsIf_14 : decode cX11_throwsIf 14 = .ok (.ireturn, 1) := by decide +kernel
theorem dX11_cells_0 : decode cX11_cells 0 = .ok (.aload_n 0, 1) := by decide +kernel
theorem dX11_cells_1 : decode cX11_cells 1 = .ok (.getfield 45, 3) := by decide +kernel
theorem dX11_cells_4 : decode cX11_cells 4 = .ok (.aload_n 0, 1) := by decide +kernel
theorem dX11_cells_5 : decode cX11_cells 5 = .ok (.getfield 45, 3) := by decide +kernel
theorem dX11_cells_8 : decode cX11_cells 8 = .ok (.imul, 1) := by decide +kernel
theorem dX11_cells_9 : decode cX11_cells 9 = .ok (.ireturn, 1) := by decide +kernel
set_option maxRecDepth 20000 in
theorem ggX11_isCell_X11_cells : GoodIn wsX11_isCell wsX11_cells := goodIn_r _ [5, 6, 7, 8, 9, 10, 11, 12, 13, 14, 15, 16, 17, 18, 19, 20, 21, 22, 23, 24, 25, 26, 27, 28] (by decide +kernel) (by decide +kernel)
set_option maxRecDepth 20000 in
theorem gX11_isCell_X11_cells : GoodIn wsX11_isCell (wsV RX11 57 RX11 yX11_cells wsX11_cells) := goodIn_app (goodIn_of _ (by decide +kernel)) ggX11_isCell_X11_cells
theorem dX11_isCell_0 : decode cX11_isCell 0 = .ok (.iload_n 1, 1) := by decide +kernel
theorem dX11_isCell_1 : decode cX11_isCell 1 = .ok (.ifCond .lt 15, 3) := by decide +kernel
theorem dX11_isCell_4 : decode cX11_isCell 4 = .ok (.iload_n 1, 1) := by decide +kernel
theorem dX11_isCell_5 : decode cX11_isCell 5 = .ok (.aload_n 0, 1) := by decide +kernel
theorem dX11_isCell_6 : decode cX11_isCell 6 = .ok (.invokevirtual 57, 3) := by decide +kernel
theorem dX11_isCell_9 : decode cX11_isCell 9 = .ok (.if_icmp .ge 7, 3) := by decide +kernel
theorem dX11_isCell_12 : decode cX11_isCell 12 = .ok (.iconst 1, 1) := by decide +kernel
theorem dX11_isCell_13 : decode cX11_isCell 13 = .ok (.goto 4, 3) := by decide +kernel
theorem dX11_isCell_16 : decode cX11_isCell 16 = .ok (.iconst 0, 1) := by decide +kernel
theorem dX11_isCell_17 : decode cX11_isCell 17 = .ok (.ireturn, 1) := by decide +kernel
theorem dX11_sees_0 : decode cX11_sees 0 = .ok (.iload_n 1, 1) := by decide +kernel
theorem dX11_sees_1 : decode cX11_sees 1 = .ok (.iload_n 2, 1) := by decide +kernel
theorem dX11_sees_2 : decode cX11_sees 2 = .ok (.if_icmp .ne 5, 3) := by decide +kernel
theorem dX11_sees_5 : decode cX11_sees 5 = .ok (.iconst 0, 1) := by decide +kernel
theorem dX11_sees_6 : decode cX11_sees 6 = .ok (.ireturn, 1) := by decide +kernel
theorem dX11_sees_7 : decode cX11_sees 7 = .ok (.iload_n 1, 1) := by decide +kernel
theorem dX11_sees_8 : decode cX11_sees 8 = .ok (.aload_n 0, 1) := by decide +kernel
theorem dX11_sees_9 : decode cX11_sees 9 = .ok (.getfield 45, 3) := by decide +kernel
theorem dX11_sees_12 : decode cX11_sees 12 = .ok (.idiv, 1) := by decide +kernel
theorem dX11_sees_13 : decode cX11_sees 13 = .ok (.iload_n 2, 1) := by decide +kernel
theorem dX11_sees_14 : decode cX11_sees 14 = .ok (.aload_n 0, 1) := by decide +kernel
theorem dX11_sees_15 : decode cX11_sees 15 = .ok (.getfield 45, 3) := by decide +kernel
theorem dX11_sees_18 : decode cX11_sees 18 = .ok (.idiv, 1) := by decide +kernel
theorem dX11_sees_19 : decode cX11_sees 19 = .ok (.if_icmp .eq 68, 3) := by decide +kernel
theorem dX11_sees_22 : decode cX11_sees 22 = .ok (.iload_n 1, 1) := by decide +kernel
theorem dX11_sees_23 : decode cX11_sees 23 = .ok (.aload_n 0, 1) := by decide +kernel
theorem dX11_sees_24 : decode cX11_sees 24 = .ok (.getfield 45, 3) := by decide +kernel
theorem dX11_sees_27 : decode cX11_sees 27 = .ok (.irem, 1) := by decide +kernel
theorem dX11_sees_28 : decode cX11_sees 28 = .ok (.iload_n 2, 1) := by decide +kernel
theorem dX11_sees_29 : decode cX11_sees 29 = .ok (.aload_n 0, 1) := by decide +kernel
theorem dX11_sees_30 : decode cX11_sees 30 = .ok (.getfield 45, 3) := by decide +kernel
theorem dX11_sees_33 : decode cX11_sees 33 = .ok (.irem, 1) := by decide +kernel
theorem dX11_sees_34 : decode cX11_sees 34 = .ok (.if_icmp .eq 53, 3) := by decide +kernel
theorem dX11_sees_37 : decode cX11_sees 37 = .ok (.iload_n 1, 1) := by decide +kernel
theorem dX11_sees_38 : decode cX11_sees 38 = .ok (.aload_n 0, 1) := by decide +kernel
theorem dX11_sees_39 : decode cX11_sees 39 = .ok (.getfield 45, 3) := by decide +kernel
theorem dX11_sees_42 : decode cX11_sees 42 = .ok (.idiv, 1) := by decide +kernel
theorem dX11_sees_43 : decode cX11_sees 43 = .ok (.aload_n 0, 1) := by decide +kernel
theorem dX11_sees_44 : decode cX11_sees 44 = .ok (.getfield 51, 3) := by decide +kernel
theorem dX11_sees_47 : decode cX11_sees 47 = .ok (.idiv, 1) := by decide +kernel
theorem dX11_sees_48 : decode cX11_sees 48 = .ok (.iload_n 2, 1) := by decide +kernel
theorem dX11_sees_49 : decode cX11_sees 49 = .ok (.aload_n 0, 1) := by decide +kernel
theorem dX11_sees_50 : decode cX11_sees 50 = .ok (.getfield 45, 3) := by decide +kernel
theorem dX11_sees_53 : decode cX11_sees 53 = .ok (.idiv, 1) := by decide +kernel
theorem dX11_sees_54 : decode cX11_sees 54 = .ok (.aload_n 0, 1) := by decide +kernel
theorem dX11_sees_55 : decode cX11_sees 55 = .ok (.getfield 51, 3) := by decide +kernel
theorem dX11_sees_58 : decode cX11_sees 58 = .ok (.idiv, 1) := by decide +kernel
theorem dX11_sees_59 : decode cX11_sees 59 = .ok (.if_icmp .ne 32, 3) := by decide +kernel
theorem dX11_sees_62 : decode cX11_sees 62 = .ok (.iload_n 1, 1) := by decide +kernel
theorem dX11_sees_63 : decode cX11_sees 63 = .ok (.aload_n 0, 1) := by decide +kernel
theorem dX11_sees_64 : decode cX11_sees 64 = .ok (.getfield 45, 3) := by decide +kernel
theorem dX11_sees_67 : decode cX11_sees 67 = .ok (.irem, 1) := by decide +kernel
theorem dX11_sees_68 : decode cX11_sees 68 = .ok (.aload_n 0, 1) := by decide +kernel
theorem dX11_sees_69 : decode cX11_sees 69 = .ok (.getfield 48, 3) := by decide +kernel
theorem dX11_sees_72 : decode cX11_sees 72 = .ok (.idiv, 1) := by decide +kernel
theorem dX11_sees_73 : decode cX11_sees 73 = .ok (.iload_n 2, 1) := by decide +kernel
theorem dX11_sees_74 : decode cX11_sees 74 = .ok (.aload_n 0, 1) := by decide +kernel
theorem dX11_sees_75 : decode cX11_sees 75 = .ok (.getfield 45, 3) := by decide +kernel
theorem dX11_sees_78 : decode cX11_sees 78 = .ok (.irem, 1) := by decide +kernel
theorem dX11_sees_79 : decode cX11_sees 79 = .ok (.aload_n 0, 1) := by decide +kernel
theorem dX11_sees_80 : decode cX11_sees 80 = .ok (.getfield 48, 3) := by decide +kernel
theorem dX11_sees_83 : decode cX11_sees 83 = .ok (.idiv, 1) := by decide +kernel
theorem dX11_sees_84 : decode cX11_sees 84 = .ok (.if_icmp .ne 7, 3) := by decide +kernel
theorem dX11_sees_87 : decode cX11_sees 87 = .ok (.iconst 1, 1) := by decide +kernel
theorem dX11_sees_88 : decode cX11_sees 88 = .ok (.goto 4, 3) := by decide +kernel
theorem dX11_sees_91 : decode cX11_sees 91 = .ok (.iconst 0, 1) := by decide +kernel
theorem dX11_sees_92 : decode cX11_sees 92 = .ok (.ireturn, 1) := by decide +kernel
theorem dX11_symmetry_0 : decode cX11_symmetry 0 = .ok (.aload_n 0, 1) := by decide +kernel
theorem dX11_symmetry_1 : decode cX11_symmetry 1 = .ok (.iconst 0, 1) := by decide +kernel
theorem dX11_symmetry_2 : decode cX11_symmetry 2 = .ok (.putfield 54, 3) := by decide +kernel
theorem dX11_symmetry_5 : decode cX11_symmetry 5 = .ok (.iload_n 1, 1) := by decide +kernel
theorem dX11_symmetry_6 : decode cX11_symmetry 6 = .ok (.ifCond .lt 8, 3) := by decide +kernel
theorem dX11_symmetry_9 : decode cX11_symmetry 9 = .ok (.iload_n 1, 1) := by decide +kernel
theorem dX11_symmetry_10 : decode cX11_symmetry 10 = .ok (.iconst 3, 1) := by decide +kernel
theorem dX11_symmetry_11 : decode cX11_symmetry 11 = .ok (.if_icmp .le 5, 3) := by decide +kernel
theorem dX11_symmetry_14 : decode cX11_symmetry 14 = .ok (.iconst 0, 1) := by decide +kernel
theorem dX11_symmetry_15 : decode cX11_symmetry 15 = .ok (.ireturn, 1) := by decide +kernel
theorem dX11_symmetry_16 : decode cX11_symmetry 16 = .ok (.aload_n 0, 1) := by decide +kernel
theorem dX11_symmetry_17 : decode cX11_symmetry 17 = .ok (.iload_n 1, 1) := by decide +kernel
theorem dX11_symmetry_18 : decode cX11_symmetry 18 = .ok (.putfield 61, 3) := by decide +kernel
theorem dX11_symmetry_21 : decode cX11_symmetry 21 = .ok (.iconst 1, 1) := by decide +kernel
theorem dX11_symmetry_22 : decode cX11_symmetry 22 = .ok (.ireturn, 1) := by decide +kernel
set_option maxRecDepth 20000 in
theorem ggX11_theme_X11_isCell : GoodIn wsX11_theme wsX11_isCell := goodIn_r _ [6, 7, 8, 9, 5, 10, 11, 17, 18, 19, 20, 21, 22, 23, 24, 25, 26, 27, 28, 29, 30, 31, 32, 33, 34, 35, 36, 37, 38] (by decide +kernel) (by decide +kernel)
set_option maxRecDepth 20000 in
theorem gX11_theme_X11_isCell : GoodIn wsX11_theme (wsV RX11 64 RX11 yX11_isCell wsX11_isCell) := goodIn_app (goodIn_of _ (by decide +kernel)) ggX11_theme_X11_isCell
set_option maxRecDepth 20000 in
theorem ggX11_theme_X11_throwsIf : GoodIn wsX11_theme wsX11_throwsIf := goodIn_r _ [15, 16, 17, 18, 19, 20, 21, 22, 23, 24, 25, 26, 27, 28, 29, 30, 31, 32, 33, 34, 35, 36, 37, 38] (by decide +kernel) (by decide +kernel)
set_option maxRecDepth 20000 in
theorem gX11_theme_X11_throwsIf : GoodIn wsX11_theme (wsV RX11 68 RX11 yX11_throwsIf wsX11_throwsIf) := goodIn_app (goodIn_of _ (by decide +kernel)) ggX11_theme_X11_throwsIf
theorem dX11_theme_0 : decode cX11_theme 0 = .ok (.aload_n 0, 1) := by decide +kernel
theorem dX11_theme_1 : decode cX11_theme 1 = .ok (.iconst 1, 1) := by decide +kernel
theorem dX11_theme_2 : decode cX11_theme 2 = .ok (.aload_n 0, 1) := by decide +kernel
theorem dX11_theme_3 : decode cX11_theme 3 = .ok (.iload_n 1, 1) := by decide +kernel
theorem dX11_theme_4 : decode cX11_theme 4 = .ok (.invokevirtual 64, 3) := by decide +kernel
theorem dX11_theme_7 : decode cX11_theme 7 = .ok (.ifCond .ne 7, 3) := by decide +kernel
theorem dX11_theme_10 : decode cX11_theme 10 = .ok (.iconst 1, 1) := by decide +kernel
theorem dX11_theme_11 : decode cX11_theme 11 = .ok (.goto 4, 3) := by decide +kernel
theorem dX11_theme_14 : decode cX11_theme 14 = .ok (.iconst 0, 1) := by decide +kernel
theorem dX11_theme_15 : decode cX11_theme 15 = .ok (.invokevirtual 68, 3) := by decide +kernel
theorem dX11_theme_18 : decode cX11_theme 18 = .ok (.ifCond .ne 25, 3) := by decide +kernel
theorem dX11_theme_21 : decode cX11_theme 21 = .ok (.aload_n 0, 1) := by decide +kernel
theorem dX11_theme_22 : decode cX11_theme 22 = .ok (.iconst 2, 1) := by decide +kernel
theorem dX11_theme_23 : decode cX11_theme 23 = .ok (.iload_n 2, 1) := by decide +kernel
theorem dX11_theme_24 : decode cX11_theme 24 = .ok (.ifCond .lt 8, 3) := by decide +kernel
theorem dX11_theme_27 : decode cX11_theme 27 = .ok (.iload_n 2, 1) := by decide +kernel
theorem dX11_theme_28 : decode cX11_theme 28 = .ok (.iconst 2, 1) := by decide +kernel
theorem dX11_theme_29 : decode cX11_theme 29 = .ok (.if_icmp .le 7, 3) := by decide +kernel
theorem dX11_theme_32 : decode cX11_theme 32 = .ok (.iconst 1, 1) := by decide +kernel
theorem dX11_theme_33 : decode cX11_theme 33 = .ok (.goto 4, 3) := by decide +kernel
theorem dX11_theme_36 : decode cX11_theme 36 = .ok (.iconst 0, 1) := by decide +kernel
theorem dX11_theme_37 : decode cX11_theme 37 = .ok (.invokevirtual 68, 3) := by decide +kernel
theorem dX11_theme_40 : decode cX11_theme 40 = .ok (.ifCond .eq 4, 3) := by decide +kernel
theorem dX11_theme_43 : decode cX11_theme 43 = .ok (.return_, 1) := by decide +kernel
theorem dX11_theme_44 : decode cX11_theme 44 = .ok (.aload_n 0, 1) := by decide +kernel
theorem dX11_theme_45 : decode cX11_theme 45 = .ok (.getfield 7, 3) := by decide +kernel
theorem dX11_theme_48 : decode cX11_theme 48 = .ok (.iload_n 1, 1) := by decide +kernel
theorem dX11_theme_49 : decode cX11_theme 49 = .ok (.iload_n 2, 1) := by decide +kernel
theorem dX11_theme_50 : decode cX11_theme 50 = .ok (.iastore, 1) := by decide +kernel
theorem dX11_theme_51 : decode cX11_theme 51 = .ok (.return_, 1) := by decide +kernel
set_option maxRecDepth 20000 in
theorem ggX11_aim_X11_throwsIf : GoodIn wsX11_aim wsX11_throwsIf := goodIn_r _ [8, 9, 10, 11, 12, 13, 14, 15, 16, 17, 18, 19, 20, 21, 22, 23, 24, 25, 26, 27, 28, 29, 30, 31] (by decide +kernel) (by decide +kernel)
set_option maxRecDepth 20000 in
theorem gX11_aim_X11_throwsIf : GoodIn wsX11_aim (wsV RX11 68 RX11 yX11_throwsIf wsX11_throwsIf) := goodIn_app (goodIn_of _ (by decide +kernel)) ggX11_aim_X11_throwsIf
theorem dX11_aim_0 : decode cX11_aim 0 = .ok (.aload_n 0, 1) := by decide +kernel
theorem dX11_aim_1 : decode cX11_aim 1 = .ok (.iconst 1, 1) := by decide +kernel
theorem dX11_aim_2 : decode cX11_aim 2 = .ok (.iload_n 1, 1) := by decide +kernel
theorem dX11_aim_3 : decode cX11_aim 3 = .ok (.ifCond .lt 17, 3) := by decide +kernel
theorem dX11_aim_6 : decode cX11_aim 6 = .ok (.iload_n 1, 1) := by decide +kernel
theorem dX11_aim_7 : decode cX11_aim 7 = .ok (.iconst 2, 1) := by decide +kernel
theorem dX11_aim_8 : decode cX11_aim 8 = .ok (.if_icmp .gt 12, 3) := by decide +kernel
theorem dX11_aim_11 : decode cX11_aim 11 = .ok (.iload_n 2, 1) := by decide +kernel
theorem dX11_aim_12 : decode cX11_aim 12 = .ok (.ifCond .lt 8, 3) := by decide +kernel
theorem dX11_aim_15 : decode cX11_aim 15 = .ok (.iload_n 2, 1) := by decide +kernel
theorem dX11_aim_16 : decode cX11_aim 16 = .ok (.iload_n 3, 1) := by decide +kernel
theorem dX11_aim_17 : decode cX11_aim 17 = .ok (.if_icmp .le 7, 3) := by decide +kernel
theorem dX11_aim_20 : decode cX11_aim 20 = .ok (.iconst 1, 1) := by decide +kernel
theorem dX11_aim_21 : decode cX11_aim 21 = .ok (.goto 4, 3) := by decide +kernel
theorem dX11_aim_24 : decode cX11_aim 24 = .ok (.iconst 0, 1) := by decide +kernel
theorem dX11_aim_25 : decode cX11_aim 25 = .ok (.invokevirtual 68, 3) := by decide +kernel
theorem dX11_aim_28 : decode cX11_aim 28 = .ok (.ifCond .eq 4, 3) := by decide +kernel
theorem dX11_aim_31 : decode cX11_aim 31 = .ok (.return_, 1) := by decide +kernel
theorem dX11_aim_32 : decode cX11_aim 32 = .ok (.aload_n 0, 1) := by decide +kernel
theorem dX11_aim_33 : decode cX11_aim 33 = .ok (.iload_n 1, 1) := by decide +kernel
theorem dX11_aim_34 : decode cX11_aim 34 = .ok (.putfield 72, 3) := by decide +kernel
theorem dX11_aim_37 : decode cX11_aim 37 = .ok (.aload_n 0, 1) := by decide +kernel
theorem dX11_aim_38 : decode cX11_aim 38 = .ok (.iload_n 2, 1) := by decide +kernel
theorem dX11_aim_39 : decode cX11_aim 39 = .ok (.putfield 75, 3) := by decide +kernel
theorem dX11_aim_42 : decode cX11_aim 42 = .ok (.aload_n 0, 1) := by decide +kernel
theorem dX11_aim_43 : decode cX11_aim 43 = .ok (.iload_n 3, 1) := by decide +kernel
theorem dX11_aim_44 : decode cX11_aim 44 = .ok (.putfield 14, 3) := by decide +kernel
theorem dX11_aim_47 : decode cX11_aim 47 = .ok (.return_, 1) := by decide +kernel
theorem dX11_turned_0 : decode cX11_turned 0 = .ok (.iload_n 1, 1) := by decide +kernel
theorem dX11_turned_1 : decode cX11_turned 1 = .ok (.aload_n 0, 1) := by decide +kernel
theorem dX11_turned_2 : decode cX11_turned 2 = .ok (.getfield 45, 3) := by decide +kernel
theorem dX11_turned_5 : decode cX11_turned 5 = .ok (.irem, 1) := by decide +kernel
theorem dX11_turned_6 : decode cX11_turned 6 = .ok (.istore_n 2, 1) := by decide +kernel
theorem dX11_turned_7 : decode cX11_turned 7 = .ok (.iload_n 1, 1) := by decide +kernel
theorem dX11_turned_8 : decode cX11_turned 8 = .ok (.aload_n 0, 1) := by decide +kernel
theorem dX11_turned_9 : decode cX11_turned 9 = .ok (.getfield 45, 3) := by decide +kernel
theorem dX11_turned_12 : decode cX11_turned 12 = .ok (.idiv, 1) := by decide +kernel
theorem dX11_turned_13 : decode cX11_turned 13 = .ok (.istore_n 3, 1) := by decide +kernel
theorem dX11_turned_14 : decode cX11_turned 14 = .ok (.aload_n 0, 1) := by decide +kernel
theorem dX11_turned_15 : decode cX11_turned 15 = .ok (.getfield 61, 3) := by decide +kernel
theorem dX11_turned_18 : decode cX11_turned 18 = .ok (.tableswitch 81 1 3 #[26, 49, 65], 26) := by decide +kernel
theorem dX11_turned_44 : decode cX11_turned 44 = .ok (.aload_n 0, 1) := by decide +kernel
theorem dX11_turned_45 : decode cX11_turned 45 = .ok (.getfield 45, 3) := by decide +kernel
theorem dX11_turned_48 : decode cX11_turned 48 = .ok (.aload_n 0, 1) := by decide +kernel
theorem dX11_turned_49 : decode cX11_turned 49 = .ok (.getfield 45, 3) := by decide +kernel
theorem dX11_turned_52 : decode cX11_turned 52 = .ok (.iconst 1, 1) := by decide +kernel
theorem dX11_turned_53 : decode cX11_turned 53 = .ok (.isub, 1) := by decide +kernel
theorem dX11_turned_54 : decode cX11_turned 54 = .ok (.iload_n 3, 1) := by decide +kernel
theorem dX11_turned_55 : decode cX11_turned 55 = .ok (.isub, 1) := by decide +kernel
theorem dX11_turned_56 : decode cX11_turned 56 = .ok (.imul, 1) := by decide +kernel
theorem dX11_turned_57 : decode cX11_turned 57 = .ok (.aload_n 0, 1) := by decide +kernel
theorem dX11_turned_58 : decode cX11_turned 58 = .ok (.getfield 45, 3) := by decide +kernel
theorem dX11_turned_61 : decode cX11_turned 61 = .ok (.iadd, 1) := by decide +kernel
theorem dX11_turned_62 : decode cX11_turned 62 = .ok (.iconst 1, 1) := by decide +kernel
theorem dX11_turned_63 : decode cX11_turned 63 = .ok (.isub, 1) := by decide +kernel
theorem dX11_turned_64 : decode cX11_turned 64 = .ok (.iload_n 2, 1) := by decide +kernel
theorem dX11_turned_65 : decode cX11_turned 65 = .ok (.isub, 1) := by decide +kernel
theorem dX11_turned_66 : decode cX11_turned 66 = .ok (.ireturn, 1) := by decide +kernel
theorem dX11_turned_67 : decode cX11_turned 67 = .ok (.aload_n 0, 1) := by decide +kernel
theorem dX11_turned_68 : decode cX11_turned 68 = .ok (.getfield 45, 3) := by decide +kernel
theorem dX11_turned_71 : decode cX11_turned 71 = .ok (.iload_n 3, 1) := by decide +kernel
theorem dX11_turned_72 : decode cX11_turned 72 = .ok (.imul, 1) := by decide +kernel
theorem dX11_turned_73 : decode cX11_turned 73 = .ok (.aload_n 0, 1) := by decide +kernel
theorem dX11_turned_74 : decode cX11_turned 74 = .ok (.getfield 45, 3) := by decide +kernel
theorem dX11_turned_77 : decode cX11_turned 77 = .ok (.iadd, 1) := by decide +kernel
theorem dX11_turned_78 : decode cX11_turned 78 = .ok (.iconst 1, 1) := by decide +kernel
theorem dX11_turned_79 : decode cX11_turned 79 = .ok (.isub, 1) := by decide +kernel
theorem dX11_turned_80 : decode cX11_turned 80 = .ok (.iload_n 2, 1) := by decide +kernel
theorem dX11_turned_81 : decode cX11_turned 81 = .ok (.isub, 1) := by decide +kernel
theorem dX11_turned_82 : decode cX11_turned 82 = .ok (.ireturn, 1) := by decide +kernel
theorem dX11_turned_83 : decode cX11_turned 83 = .ok (.aload_n 0, 1) := by decide +kernel
theorem dX11_turned_84 : decode cX11_turned 84 = .ok (.getfield 45, 3) := by decide +kernel
theorem dX11_turned_87 : decode cX11_turned 87 = .ok (.iload_n 2, 1) := by decide +kernel
theorem dX11_turned_88 : decode cX11_turned 88 = .ok (.imul, 1) := by decide +kernel
theorem dX11_turned_89 : decode cX11_turned 89 = .ok (.aload_n 0, 1) := by decide +kernel
theorem dX11_turned_90 : decode cX11_turned 90 = .ok (.getfield 45, 3) := by decide +kernel
theorem dX11_turned_93 : decode cX11_turned 93 = .ok (.iadd, 1) := by decide +kernel
theorem dX11_turned_94 : decode cX11_turned 94 = .ok (.iconst 1, 1) := by decide +kernel
theorem dX11_turned_95 : decode cX11_turned 95 = .ok (.isub, 1) := by decide +kernel
theorem dX11_turned_96 : decode cX11_turned 96 = .ok (.iload_n 3, 1) := by decide +kernel
theorem dX11_turned_97 : decode cX11_turned 97 = .ok (.isub, 1) := by decide +kernel
theorem dX11_turned_98 : decode cX11_turned 98 = .ok (.ireturn, 1) := by decide +kernel
theorem dX11_turned_99 : decode cX11_turned 99 = .ok (.iload_n 1, 1) := by decide +kernel
theorem dX11_turned_100 : decode cX11_turned 100 = .ok (.ireturn, 1) := by decide +kernel
set_option maxRecDepth 20000 in
theorem ggX11_leastOf_X11_turned : GoodIn wsX11_leastOf wsX11_turned := goodIn_r _ [5, 6, 7, 8, 9, 10, 11, 12, 13, 14, 15, 16, 17, 18, 19, 20, 21, 22, 23, 24, 25, 26, 27, 28, 29] (by decide +kernel) (by decide +kernel)
set_option maxRecDepth 20000 in
theorem gX11_leastOf_X11_turned : GoodIn wsX11_leastOf (wsV RX11 78 RX11 yX11_turned wsX11_turned) := goodIn_app (goodIn_of _ (by decide +kernel)) ggX11_leastOf_X11_turned
theorem dX11_leastOf_0 : decode cX11_leastOf 0 = .ok (.iload_n 1, 1) := by decide +kernel
theorem dX11_leastOf_1 : decode cX11_leastOf 1 = .ok (.istore_n 2, 1) := by decide +kernel
theorem dX11_leastOf_2 : decode cX11_leastOf 2 = .ok (.iload_n 1, 1) := by decide +kernel
theorem dX11_leastOf_3 : decode cX11_leastOf 3 = .ok (.istore_n 3, 1) := by decide +kernel
theorem dX11_leastOf_4 : decode cX11_leastOf 4 = .ok (.iconst 0, 1) := by decide +kernel
theorem dX11_leastOf_5 : decode cX11_leastOf 5 = .ok (.istore 4, 2) := by decide +kernel
theorem dX11_leastOf_7 : decode cX11_leastOf 7 = .ok (.iload 4, 2) := by decide +kernel
theorem dX11_leastOf_9 : decode cX11_leastOf 9 = .ok (.iconst 3, 1) := by decide +kernel
theorem dX11_leastOf_10 : decode cX11_leastOf 10 = .ok (.if_icmp .ge 26, 3) := by decide +kernel
theorem dX11_leastOf_13 : decode cX11_leastOf 13 = .ok (.aload_n 0, 1) := by decide +kernel
theorem dX11_leastOf_14 : decode cX11_leastOf 14 = .ok (.iload_n 3, 1) := by decide +kernel
theorem dX11_leastOf_15 : decode cX11_leastOf 15 = .ok (.invokevirtual 78, 3) := by decide +kernel
theorem dX11_leastOf_18 : decode cX11_leastOf 18 = .ok (.istore_n 3, 1) := by decide +kernel
theorem dX11_leastOf_19 : decode cX11_leastOf 19 = .ok (.iload_n 3, 1) := by decide +kernel
theorem dX11_leastOf_20 : decode cX11_leastOf 20 = .ok (.iload_n 2, 1) := by decide +kernel
theorem dX11_leastOf_21 : decode cX11_leastOf 21 = .ok (.if_icmp .ge 7, 3) := by decide +kernel
theorem dX11_leastOf_24 : decode cX11_leastOf 24 = .ok (.iload_n 3, 1) := by decide +kernel
theorem dX11_leastOf_25 : decode cX11_leastOf 25 = .ok (.goto 4, 3) := by decide +kernel
theorem dX11_leastOf_28 : decode cX11_leastOf 28 = .ok (.iload_n 2, 1) := by decide +kernel
theorem dX11_leastOf_29 : decode cX11_leastOf 29 = .ok (.istore_n 2, 1) := by decide +kernel
theorem dX11_leastOf_30 : decode cX11_leastOf 30 = .ok (.iinc 4 1, 3) := by decide +kernel
theorem dX11_leastOf_33 : decode cX11_leastOf 33 = .ok (.goto (-26), 3) := by decide +kernel
theorem dX11_leastOf_36 : decode cX11_leastOf 36 = .ok (.iload_n 2, 1) := by decide +kernel
theorem dX11_leastOf_37 : decode cX11_leastOf 37 = .ok (.ireturn, 1) := by decide +kernel
set_option maxRecDepth 20000 in
theorem ggX11_hasTheme_X11_cells : GoodIn wsX11_hasTheme wsX11_cells := goodIn_r _ [6, 7, 17, 18, 19, 20, 21, 22, 23, 24, 25, 26, 27, 28, 29, 30, 31, 32, 33, 34, 35, 36, 37, 38] (by decide +kernel) (by decide +kernel)
set_option maxRecDepth 20000 in
theorem gX11_hasTheme_X11_cells : GoodIn wsX11_hasTheme (wsV RX11 57 RX11 yX11_cells wsX11_cells) := goodIn_app (goodIn_of _ (by decide +kernel)) ggX11_hasTheme_X11_cells
set_option maxRecDepth 20000 in
theorem ggX11_hasTheme_X11_leastOf : GoodIn wsX11_hasTheme wsX11_leastOf := goodIn_r _ [11, 12, 13, 14, 5, 15, 7, 16, 17, 18, 19, 20, 21, 22, 23, 24, 25, 26, 27, 28, 29, 30, 31, 32, 33, 34, 35, 36, 37, 38] (by decide +kernel) (by decide +kernel)
set_option maxRecDepth 20000 in
theorem gX11_hasTheme_X11_leastOf : GoodIn wsX11_hasTheme (wsV RX11 82 RX11 yX11_leastOf wsX11_leastOf) := goodIn_app (goodIn_of _ (by decide +kernel)) ggX11_hasTheme_X11_leastOf
theorem dX11_hasTheme_0 : decode cX11_hasTheme 0 = .ok (.iconst 0, 1) := by decide +kernel
theorem dX11_hasTheme_1 : decode cX11_hasTheme 1 = .ok (.istore_n 3, 1) := by decide +kernel
theorem dX11_hasTheme_2 : decode cX11_hasTheme 2 = .ok (.iload_n 3, 1) := by decide +kernel
theorem dX11_hasTheme_3 : decode cX11_hasTheme 3 = .ok (.aload_n 0, 1) := by decide +kernel
theorem dX11_hasTheme_4 : decode cX11_hasTheme 4 = .ok (.invokevirtual 57, 3) := by decide +kernel
theorem dX11_hasTheme_7 : decode cX11_hasTheme 7 = .ok (.if_icmp .ge 30, 3) := by decide +kernel
theorem dX11_hasTheme_10 : decode cX11_hasTheme 10 = .ok (.aload_n 0, 1) := by decide +kernel
theorem dX11_hasTheme_11 : decode cX11_hasTheme 11 = .ok (.iload_n 3, 1) := by decide +kernel
theorem dX11_hasTheme_12 : decode cX11_hasTheme 12 = .ok (.invokevirtual 82, 3) := by decide +kernel
theorem dX11_hasTheme_15 : decode cX11_hasTheme 15 = .ok (.iload_n 1, 1) := by decide +kernel
theorem dX11_hasTheme_16 : decode cX11_hasTheme 16 = .ok (.if_icmp .ne 15, 3) := by decide +kernel
theorem dX11_hasTheme_19 : decode cX11_hasTheme 19 = .ok (.aload_n 0, 1) := by decide +kernel
theorem dX11_hasTheme_20 : decode cX11_hasTheme 20 = .ok (.getfield 7, 3) := by decide +kernel
theorem dX11_hasTheme_23 : decode cX11_hasTheme 23 = .ok (.iload_n 3, 1) := by decide +kernel
theorem dX11_hasTheme_24 : decode cX11_hasTheme 24 = .ok (.iaload, 1) := by decide +kernel
theorem dX11_hasTheme_25 : decode cX11_hasTheme 25 = .ok (.iload_n 2, 1) := by decide +kernel
theorem dX11_hasTheme_26 : decode cX11_hasTheme 26 = .ok (.if_icmp .ne 5, 3) := by decide +kernel
theorem dX11_hasTheme_29 : decode cX11_hasTheme 29 = .ok (.iconst 1, 1) := by decide +kernel
theorem dX11_hasTheme_30 : decode cX11_hasTheme 30 = .ok (.ireturn, 1) := by decide +kernel
theorem dX11_hasTheme_31 : decode cX11_hasTheme 31 = .ok (.iinc 3 1, 3) := by decide +kernel
theorem dX11_hasTheme_34 : decode cX11_hasTheme 34 = .ok (.goto (-32), 3) := by decide +kernel
theorem dX11_hasTheme_37 : decode cX11_hasTheme 37 = .ok (.iconst 0, 1) := by decide +kernel
theorem dX11_hasTheme_38 : decode cX11_hasTheme 38 = .ok (.ireturn, 1) := by decide +kernel
set_option maxRecDepth 20000 in
theorem ggX11_takeOut_X11_cells : GoodIn wsX11_takeOut wsX11_cells := goodIn_r _ [6, 7, 17, 18, 19, 20, 21, 22, 23, 24, 25, 26, 27, 28, 29, 30, 31, 32, 33, 34, 35, 36, 37, 38] (by decide +kernel) (by decide +kernel)
set_option maxRecDepth 20000 in
theorem gX11_takeOut_X11_cells : GoodIn wsX11_takeOut (wsV RX11 57 RX11 yX11_cells wsX11_cells) := goodIn_app (goodIn_of _ (by decide +kernel)) ggX11_takeOut_X11_cells
set_option maxRecDepth 20000 in
theorem ggX11_takeOut_X11_leastOf : GoodIn wsX11_takeOut wsX11_leastOf := goodIn_r _ [11, 12, 13, 14, 5, 15, 7, 16, 17, 18, 19, 20, 21, 22, 23, 24, 25, 26, 27, 28, 29, 30, 31, 32, 33, 34, 35, 36, 37, 38] (by decide +kernel) (by decide +kernel)
set_option maxRecDepth 20000 in
theorem gX11_takeOut_X11_leastOf : GoodIn wsX11_takeOut (wsV RX11 82 RX11 yX11_leastOf wsX11_leastOf) := goodIn_app (goodIn_of _ (by decide +kernel)) ggX11_takeOut_X11_leastOf
theorem dX11_takeOut_0 : decode cX11_takeOut 0 = .ok (.iconst 0, 1) := by decide +kernel
theorem dX11_takeOut_1 : decode cX11_takeOut 1 = .ok (.istore_n 2, 1) := by decide +kernel
theorem dX11_takeOut_2 : decode cX11_takeOut 2 = .ok (.iload_n 2, 1) := by decide +kernel
theorem dX11_takeOut_3 : decode cX11_takeOut 3 = .ok (.aload_n 0, 1) := by decide +kernel
theorem dX11_takeOut_4 : decode cX11_takeOut 4 = .ok (.invokevirtual 57, 3) := by decide +kernel
theorem dX11_takeOut_7 : decode cX11_takeOut 7 = .ok (.if_icmp .ge 25, 3) := by decide +kernel
theorem dX11_takeOut_10 : decode cX11_takeOut 10 = .ok (.aload_n 0, 1) := by decide +kernel
theorem dX11_takeOut_11 : decode cX11_takeOut 11 = .ok (.iload_n 2, 1) := by decide +kernel
theorem dX11_takeOut_12 : decode cX11_takeOut 12 = .ok (.invokevirtual 82, 3) := by decide +kernel
theorem dX11_takeOut_15 : decode cX11_takeOut 15 = .ok (.iload_n 1, 1) := by decide +kernel
theorem dX11_takeOut_16 : decode cX11_takeOut 16 = .ok (.if_icmp .ne 10, 3) := by decide +kernel
theorem dX11_takeOut_19 : decode cX11_takeOut 19 = .ok (.aload_n 0, 1) := by decide +kernel
theorem dX11_takeOut_20 : decode cX11_takeOut 20 = .ok (.getfield 27, 3) := by decide +kernel
theorem dX11_takeOut_23 : decode cX11_takeOut 23 = .ok (.iload_n 2, 1) := by decide +kernel
theorem dX11_takeOut_24 : decode cX11_takeOut 24 = .ok (.iconst (-1), 1) := by decide +kernel
theorem dX11_takeOut_25 : decode cX11_takeOut 25 = .ok (.iastore, 1) := by decide +kernel
theorem dX11_takeOut_26 : decode cX11_takeOut 26 = .ok (.iinc 2 1, 3) := by decide +kernel
theorem dX11_takeOut_29 : decode cX11_takeOut 29 = .ok (.goto (-27), 3) := by decide +kernel
theorem dX11_takeOut_32 : decode cX11_takeOut 32 = .ok (.return_, 1) := by decide +kernel
set_option maxRecDepth 20000 in
theorem ggX11_putBack_X11_cells : GoodIn wsX11_putBack wsX11_cells := goodIn_r _ [7, 8, 18, 19, 20, 21, 22, 23, 24, 25, 26, 27, 28, 29, 30, 31, 32, 33, 34, 35, 36, 37, 38, 39] (by decide +kernel) (by decide +kernel)
set_option maxRecDepth 20000 in
theorem gX11_putBack_X11_cells : GoodIn wsX11_putBack (wsV RX11 57 RX11 yX11_cells wsX11_cells) := goodIn_app (goodIn_of _ (by decide +kernel)) ggX11_putBack_X11_cells
set_option maxRecDepth 20000 in
theorem ggX11_putBack_X11_leastOf : GoodIn wsX11_putBack wsX11_leastOf := goodIn_r _ [12, 13, 14, 15, 6, 16, 8, 17, 18, 19, 20, 21, 22, 23, 24, 25, 26, 27, 28, 29, 30, 31, 32, 33, 34, 35, 36, 37, 38, 39] (by decide +kernel) (by decide +kernel)
set_option maxRecDepth 20000 in
theorem gX11_putBack_X11_leastOf : GoodIn wsX11_putBack (wsV RX11 82 RX11 yX11_leastOf wsX11_leastOf) := goodIn_app (goodIn_of _ (by decide +kernel)) ggX11_putBack_X11_leastOf
theorem dX11_putBack_0 : decode cX11_putBack 0 = .ok (.iconst 0, 1) := by decide +kernel
theorem dX11_putBack_1 : decode cX11_putBack 1 = .ok (.istore_n 2, 1) := by decide +kernel
theorem dX11_putBack_2 : decode cX11_putBack 2 = .ok (.iload_n 2, 1) := by decide +kernel
theorem dX11_putBack_3 : decode cX11_putBack 3 = .ok (.aload_n 0, 1) := by decide +kernel
theorem dX11_putBack_4 : decode cX11_putBack 4 = .ok (.invokevirtual 57, 3) := by decide +kernel
theorem dX11_putBack_7 : decode cX11_putBack 7 = .ok (.if_icmp .ge 30, 3) := by decide +kernel
theorem dX11_putBack_10 : decode cX11_putBack 10 = .ok (.aload_n 0, 1) := by decide +kernel
theorem dX11_putBack_11 : decode cX11_putBack 11 = .ok (.iload_n 2, 1) := by decide +kernel
theorem dX11_putBack_12 : decode cX11_putBack 12 = .ok (.invokevirtual 82, 3) := by decide +kernel
theorem dX11_putBack_15 : decode cX11_putBack 15 = .ok (.iload_n 1, 1) := by decide +kernel
theorem dX11_putBack_16 : decode cX11_putBack 16 = .ok (.if_icmp .ne 15, 3) := by decide +kernel
theorem dX11_putBack_19 : decode cX11_putBack 19 = .ok (.aload_n 0, 1) := by decide +kernel
theorem dX11_putBack_20 : decode cX11_putBack 20 = .ok (.getfield 27, 3) := by decide +kernel
theorem dX11_putBack_23 : decode cX11_putBack 23 = .ok (.iload_n 2, 1) := by decide +kernel
theorem dX11_putBack_24 : decode cX11_putBack 24 = .ok (.aload_n 0, 1) := by decide +kernel
theorem dX11_putBack_25 : decode cX11_putBack 25 = .ok (.getfield 30, 3) := by decide +kernel
theorem dX11_putBack_28 : decode cX11_putBack 28 = .ok (.iload_n 2, 1) := by decide +kernel
theorem dX11_putBack_29 : decode cX11_putBack 29 = .ok (.iaload, 1) := by decide +kernel
theorem dX11_putBack_30 : decode cX11_putBack 30 = .ok (.iastore, 1) := by decide +kernel
theorem dX11_putBack_31 : decode cX11_putBack 31 = .ok (.iinc 2 1, 3) := by decide +kernel
theorem dX11_putBack_34 : decode cX11_putBack 34 = .ok (.goto (-32), 3) := by decide +kernel
theorem dX11_putBack_37 : decode cX11_putBack 37 = .ok (.return_, 1) := by decide +kernel
set_option maxRecDepth 20000 in
theorem ggX11_fits_X11_cells : GoodIn wsX11_fits wsX11_cells := goodIn_r _ [7, 8, 15, 16, 17, 18, 19, 20, 21, 22, 23, 24, 25, 26, 27, 28, 29, 30, 31, 32, 33, 34, 35, 36] (by decide +kernel) (by decide +kernel)
set_option maxRecDepth 20000 in
theorem gX11_fits_X11_cells : GoodIn wsX11_fits (wsV RX11 57 RX11 yX11_cells wsX11_cells) := goodIn_app (goodIn_of _ (by decide +kernel)) ggX11_fits_X11_cells
set_option maxRecDepth 20000 in
theorem ggX11_fits_X11_sees : GoodIn wsX11_fits wsX11_sees := goodIn_r _ [12, 8, 13, 14, 15, 16, 17, 18, 19, 20, 21, 22, 23, 24, 25, 26, 27, 28, 29, 30, 31, 32, 33, 34, 35, 36] (by decide +kernel) (by decide +kernel)
set_option maxRecDepth 20000 in
theorem gX11_fits_X11_sees : GoodIn wsX11_fits (wsV RX11 85 RX11 yX11_sees wsX11_sees) := goodIn_app (goodIn_of _ (by decide +kernel)) ggX11_fits_X11_sees
theorem dX11_fits_0 : decode cX11_fits 0 = .ok (.iconst 0, 1) := by decide +kernel
theorem dX11_fits_1 : decode cX11_fits 1 = .ok (.istore_n 3, 1) := by decide +kernel
theorem dX11_fits_2 : decode cX11_fits 2 = .ok (.iload_n 3, 1) := by decide +kernel
theorem dX11_fits_3 : decode cX11_fits 3 = .ok (.aload_n 0, 1) := by decide +kernel
theorem dX11_fits_4 : decode cX11_fits 4 = .ok (.invokevirtual 57, 3) := by decide +kernel
theorem dX11_fits_7 : decode cX11_fits 7 = .ok (.if_icmp .ge 44, 3) := by decide +kernel
theorem dX11_fits_10 : decode cX11_fits 10 = .ok (.iload_n 3, 1) := by decide +kernel
theorem dX11_fits_11 : decode cX11_fits 11 = .ok (.iload_n 1, 1) := by decide +kernel
theorem dX11_fits_12 : decode cX11_fits 12 = .ok (.if_icmp .ge 12, 3) := by decide +kernel
theorem dX11_fits_15 : decode cX11_fits 15 = .ok (.aload_n 0, 1) := by decide +kernel
theorem dX11_fits_16 : decode cX11_fits 16 = .ok (.getfield 33, 3) := by decide +kernel
theorem dX11_fits_19 : decode cX11_fits 19 = .ok (.iload_n 3, 1) := by decide +kernel
theorem dX11_fits_20 : decode cX11_fits 20 = .ok (.iaload, 1) := by decide +kernel
theorem dX11_fits_21 : decode cX11_fits 21 = .ok (.goto 9, 3) := by decide +kernel
theorem dX11_fits_24 : decode cX11_fits 24 = .ok (.aload_n 0, 1) := by decide +kernel
theorem dX11_fits_25 : decode cX11_fits 25 = .ok (.getfield 27, 3) := by decide +kernel
theorem dX11_fits_28 : decode cX11_fits 28 = .ok (.iload_n 3, 1) := by decide +kernel
theorem dX11_fits_29 : decode cX11_fits 29 = .ok (.iaload, 1) := by decide +kernel
theorem dX11_fits_30 : decode cX11_fits 30 = .ok (.iload_n 2, 1) := by decide +kernel
theorem dX11_fits_31 : decode cX11_fits 31 = .ok (.if_icmp .ne 14, 3) := by decide +kernel
theorem dX11_fits_34 : decode cX11_fits 34 = .ok (.aload_n 0, 1) := by decide +kernel
theorem dX11_fits_35 : decode cX11_fits 35 = .ok (.iload_n 3, 1) := by decide +kernel
theorem dX11_fits_36 : decode cX11_fits 36 = .ok (.iload_n 1, 1) := by decide +kernel
theorem dX11_fits_37 : decode cX11_fits 37 = .ok (.invokevirtual 85, 3) := by decide +kernel
theorem dX11_fits_40 : decode cX11_fits 40 = .ok (.ifCond .eq 5, 3) := by decide +kernel
theorem dX11_fits_43 : decode cX11_fits 43 = .ok (.iconst 0, 1) := by decide +kernel
theorem dX11_fits_44 : decode cX11_fits 44 = .ok (.ireturn, 1) := by decide +kernel
theorem dX11_fits_45 : decode cX11_fits 45 = .ok (.iinc 3 1, 3) := by decide +kernel
theorem dX11_fits_48 : decode cX11_fits 48 = .ok (.goto (-46), 3) := by decide +kernel
theorem dX11_fits_51 : decode cX11_fits 51 = .ok (.iconst 1, 1) := by decide +kernel
theorem dX11_fits_52 : decode cX11_fits 52 = .ok (.ireturn, 1) := by decide +kernel
set_option maxRecDepth 20000 in
theorem ggX11_countUpTo_X11_cells : GoodIn wsX11_countUpTo wsX11_cells := goodIn_r _ [8, 2, 19, 20, 21, 22, 23, 24, 25, 26, 27, 28, 29, 30, 31, 32, 33, 34, 35, 36, 37, 38, 39, 40] (by decide +kernel) (by decide +kernel)
set_option maxRecDepth 20000 in
theorem gX11_countUpTo_X11_cells : GoodIn wsX11_countUpTo (wsV RX11 57 RX11 yX11_cells wsX11_cells) := goodIn_app (goodIn_of _ (by decide +kernel)) ggX11_countUpTo_X11_cells
set_option maxRecDepth 20000 in
theorem ggX11_countUpTo_X11_fits : GoodIn wsX11_countUpTo wsX11_fits := goodIn_r _ [12, 3, 1, 4, 5, 6, 7, 8, 2, 13, 14, 15, 16, 17, 18, 19, 20, 21, 22, 23, 24, 25, 26, 27, 28, 29, 30, 31, 32, 33, 34, 35, 36, 37, 38, 39, 40] (by decide +kernel) (by decide +kernel)
set_option maxRecDepth 20000 in
theorem gX11_countUpTo_X11_fits : GoodIn wsX11_countUpTo (wsV RX11 89 RX11 yX11_fits wsX11_fits) := goodIn_app (goodIn_of _ (by decide +kernel)) ggX11_countUpTo_X11_fits
theorem dX11_countUpTo_0 : decode cX11_countUpTo 0 = .ok (.iconst 0, 1) := by decide +kernel
theorem dX11_countUpTo_1 : decode cX11_countUpTo 1 = .ok (.istore_n 2, 1) := by decide +kernel
theorem dX11_countUpTo_2 : decode cX11_countUpTo 2 = .ok (.iconst 0, 1) := by decide +kernel
theorem dX11_countUpTo_3 : decode cX11_countUpTo 3 = .ok (.istore_n 3, 1) := by decide +kernel
theorem dX11_countUpTo_4 : decode cX11_countUpTo 4 = .ok (.iconst 1, 1) := by decide +kernel
theorem dX11_countUpTo_5 : decode cX11_countUpTo 5 = .ok (.istore 4, 2) := by decide +kernel
theorem dX11_countUpTo_7 : decode cX11_countUpTo 7 = .ok (.iload_n 3, 1) := by decide +kernel
theorem dX11_countUpTo_8 : decode cX11_countUpTo 8 = .ok (.ifCond .lt 173, 3) := by decide +kernel
theorem dX11_countUpTo_11 : decode cX11_countUpTo 11 = .ok (.iload_n 2, 1) := by decide +kernel
theorem dX11_countUpTo_12 : decode cX11_countUpTo 12 = .ok (.iload_n 1, 1) := by decide +kernel
theorem dX11_countUpTo_13 : decode cX11_countUpTo 13 = .ok (.if_icmp .ge 168, 3) := by decide +kernel
theorem dX11_countUpTo_16 : decode cX11_countUpTo 16 = .ok (.iload_n 3, 1) := by decide +kernel
theorem dX11_countUpTo_17 : decode cX11_countUpTo 17 = .ok (.aload_n 0, 1) := by decide +kernel
theorem dX11_countUpTo_18 : decode cX11_countUpTo 18 = .ok (.invokevirtual 57, 3) := by decide +kernel
theorem dX11_countUpTo_21 : decode cX11_countUpTo 21 = .ok (.if_icmp .ne 15, 3) := by decide +kernel
theorem dX11_countUpTo_24 : decode cX11_countUpTo 24 = .ok (.iinc 2 1, 3) := by decide +kernel
theorem dX11_countUpTo_27 : decode cX11_countUpTo 27 = .ok (.iconst 0, 1) := by decide +kernel
theorem dX11_countUpTo_28 : decode cX11_countUpTo 28 = .ok (.istore 4, 2) := by decide +kernel
theorem dX11_countUpTo_30 : decode cX11_countUpTo 30 = .ok (.iinc 3 (-1), 3) := by decide +kernel
theorem dX11_countUpTo_33 : decode cX11_countUpTo 33 = .ok (.goto (-26), 3) := by decide +kernel
theorem dX11_countUpTo_36 : decode cX11_countUpTo 36 = .ok (.aload_n 0, 1) := by decide +kernel
theorem dX11_countUpTo_37 : decode cX11_countUpTo 37 = .ok (.getfield 27, 3) := by decide +kernel
theorem dX11_countUpTo_40 : decode cX11_countUpTo 40 = .ok (.iload_n 3, 1) := by decide +kernel
theorem dX11_countUpTo_41 : decode cX11_countUpTo 41 = .ok (.iaload, 1) := by decide +kernel
theorem dX11_countUpTo_42 : decode cX11_countUpTo 42 = .ok (.ifCond .lt 24, 3) := by decide +kernel
theorem dX11_countUpTo_45 : decode cX11_countUpTo 45 = .ok (.iload 4, 2) := by decide +kernel
theorem dX11_countUpTo_47 : decode cX11_countUpTo 47 = .ok (.ifCond .eq 12, 3) := by decide +kernel
theorem dX11_countUpTo_50 : decode cX11_countUpTo 50 = .ok (.aload_n 0, 1) := by decide +kernel
theorem dX11_countUpTo_51 : decode cX11_countUpTo 51 = .ok (.getfield 27, 3) := by decide +kernel
theorem dX11_countUpTo_54 : decode cX11_countUpTo 54 = .ok (.iload_n 3, 1) := by decide +kernel
theorem dX11_countUpTo_55 : decode cX11_countUpTo 55 = .ok (.iaload, 1) := by decide +kernel
theorem dX11_countUpTo_56 : decode cX11_countUpTo 56 = .ok (.goto 27, 3) := by decide +kernel
theorem dX11_countUpTo_59 : decode cX11_countUpTo 59 = .ok (.aload_n 0, 1) := by decide +kernel
theorem dX11_countUpTo_60 : decode cX11_countUpTo 60 = .ok (.getfield 45, 3) := by decide +kernel
theorem dX11_countUpTo_63 : decode cX11_countUpTo 63 = .ok (.goto 20, 3) := by decide +kernel
theorem dX11_countUpTo_66 : decode cX11_countUpTo 66 = .ok (.iload 4, 2) := by decide +kernel
theorem dX11_countUpTo_68 : decode cX11_countUpTo 68 = .ok (.ifCond .eq 7, 3) := by decide +kernel
theorem dX11_countUpTo_71 : decode cX11_countUpTo 71 = .ok (.iconst 0, 1) := by decide +kernel
theorem dX11_countUpTo_72 : decode cX11_countUpTo 72 = .ok (.goto 11, 3) := by decide +kernel
theorem dX11_countUpTo_75 : decode cX11_countUpTo 75 = .ok (.aload_n 0, 1) := by decide +kernel
theorem dX11_countUpTo_76 : decode cX11_countUpTo 76 = .ok (.getfield 33, 3) := by decide +kernel
theorem dX11_countUpTo_79 : decode cX11_countUpTo 79 = .ok (.iload_n 3, 1) := by decide +kernel
theorem dX11_countUpTo_80 : decode cX11_countUpTo 80 = .ok (.iaload, 1) := by decide +kernel
theorem dX11_countUpTo_81 : decode cX11_countUpTo 81 = .ok (.iconst 1, 1) := by decide +kernel
theorem dX11_countUpTo_82 : decode cX11_countUpTo 82 = .ok (.iadd, 1) := by decide +kernel
theorem dX11_countUpTo_83 : decode cX11_countUpTo 83 = .ok (.istore 5, 2) := by decide +kernel
theorem dX11_countUpTo_85 : decode cX11_countUpTo 85 = .ok (.aload_n 0, 1) := by decide +kernel
theorem dX11_countUpTo_86 : decode cX11_countUpTo 86 = .ok (.getfield 27, 3) := by decide +kernel
theorem dX11_countUpTo_89 : decode cX11_countUpTo 89 = .ok (.iload_n 3, 1) := by decide +kernel
theorem dX11_countUpTo_90 : decode cX11_countUpTo 90 = .ok (.iaload, 1) := by decide +kernel
theorem dX11_countUpTo_91 : decode cX11_countUpTo 91 = .ok (.ifCond .lt 12, 3) := by decide +kernel
theorem dX11_countUpTo_94 : decode cX11_countUpTo 94 = .ok (.aload_n 0, 1) := by decide +kernel
theorem dX11_countUpTo_95 : decode cX11_countUpTo 95 = .ok (.getfield 27, 3) := by decide +kernel
theorem dX11_countUpTo_98 : decode cX11_countUpTo 98 = .ok (.iload_n 3, 1) := by decide +kernel
theorem dX11_countUpTo_99 : decode cX11_countUpTo 99 = .ok (.iaload, 1) := by decide +kernel
theorem dX11_countUpTo_100 : decode cX11_countUpTo 100 = .ok (.goto 9, 3) := by decide +kernel
theorem dX11_countUpTo_103 : decode cX11_countUpTo 103 = .ok (.aload_n 0, 1) := by decide +kernel
theorem dX11_countUpTo_104 : decode cX11_countUpTo 104 = .ok (.getfield 45, 3) := by decide +kernel
theorem dX11_countUpTo_107 : decode cX11_countUpTo 107 = .ok (.iconst 1, 1) := by decide +kernel
theorem dX11_countUpTo_108 : decode cX11_countUpTo 108 = .ok (.isub, 1) := by decide +kernel
theorem dX11_countUpTo_109 : decode cX11_countUpTo 109 = .ok (.istore 6, 2) := by decide +kernel
theorem dX11_countUpTo_111 : decode cX11_countUpTo 111 = .ok (.iload 5, 2) := by decide +kernel
theorem dX11_countUpTo_113 : decode cX11_countUpTo 113 = .ok (.iload 6, 2) := by decide +kernel
theorem dX11_countUpTo_115 : decode cX11_countUpTo 115 = .ok (.if_icmp .gt 19, 3) := by decide +kernel
theorem dX11_countUpTo_118 : decode cX11_countUpTo 118 = .ok (.aload_n 0, 1) := by decide +kernel
theorem dX11_countUpTo_119 : decode cX11_countUpTo 119 = .ok (.iload_n 3, 1) := by decide +kernel
theorem dX11_countUpTo_120 : decode cX11_countUpTo 120 = .ok (.iload 5, 2) := by decide +kernel
theorem dX11_countUpTo_122 : decode cX11_countUpTo 122 = .ok (.invokevirtual 89, 3) := by decide +kernel
theorem dX11_countUpTo_125 : decode cX11_countUpTo 125 = .ok (.ifCond .ne 9, 3) := by decide +kernel
theorem dX11_countUpTo_128 : decode cX11_countUpTo 128 = .ok (.iinc 5 1, 3) := by decide +kernel
theorem dX11_countUpTo_131 : decode cX11_countUpTo 131 = .ok (.goto (-20), 3) := by decide +kernel
theorem dX11_countUpTo_134 : decode cX11_countUpTo 134 = .ok (.iload 5, 2) := by decide +kernel
theorem dX11_countUpTo_136 : decode cX11_countUpTo 136 = .ok (.iload 6, 2) := by decide +kernel
theorem dX11_countUpTo_138 : decode cX11_countUpTo 138 = .ok (.if_icmp .gt 7, 3) := by decide +kernel
theorem dX11_countUpTo_141 : decode cX11_countUpTo 141 = .ok (.iconst 1, 1) := by decide +kernel
theorem dX11_countUpTo_142 : decode cX11_countUpTo 142 = .ok (.goto 4, 3) := by decide +kernel
theorem dX11_countUpTo_145 : decode cX11_countUpTo 145 = .ok (.iconst 0, 1) := by decide +kernel
theorem dX11_countUpTo_146 : decode cX11_countUpTo 146 = .ok (.istore 4, 2) := by decide +kernel
theorem dX11_countUpTo_148 : decode cX11_countUpTo 148 = .ok (.aload_n 0, 1) := by decide +kernel
theorem dX11_countUpTo_149 : decode cX11_countUpTo 149 = .ok (.getfield 33, 3) := by decide +kernel
theorem dX11_countUpTo_152 : decode cX11_countUpTo 152 = .ok (.iload_n 3, 1) := by decide +kernel
theorem dX11_countUpTo_153 : decode cX11_countUpTo 153 = .ok (.iload 4, 2) := by decide +kernel
theorem dX11_countUpTo_155 : decode cX11_countUpTo 155 = .ok (.ifCond .eq 8, 3) := by decide +kernel
theorem dX11_countUpTo_158 : decode cX11_countUpTo 158 = .ok (.iload 5, 2) := by decide +kernel
theorem dX11_countUpTo_160 : decode cX11_countUpTo 160 = .ok (.goto 4, 3) := by decide +kernel
theorem dX11_countUpTo_163 : decode cX11_countUpTo 163 = .ok (.iconst (-1), 1) := by decide +kernel
theorem dX11_countUpTo_164 : decode cX11_countUpTo 164 = .ok (.iastore, 1) := by decide +kernel
theorem dX11_countUpTo_165 : decode cX11_countUpTo 165 = .ok (.iload_n 3, 1) := by decide +kernel
theorem dX11_countUpTo_166 : decode cX11_countUpTo 166 = .ok (.iload 4, 2) := by decide +kernel
theorem dX11_countUpTo_168 : decode cX11_countUpTo 168 = .ok (.ifCond .eq 7, 3) := by decide +kernel
theorem dX11_countUpTo_171 : decode cX11_countUpTo 171 = .ok (.iconst 1, 1) := by decide +kernel
theorem dX11_countUpTo_172 : decode cX11_countUpTo 172 = .ok (.goto 4, 3) := by decide +kernel
theorem dX11_countUpTo_175 : decode cX11_countUpTo 175 = .ok (.iconst (-1), 1) := by decide +kernel
theorem dX11_countUpTo_176 : decode cX11_countUpTo 176 = .ok (.iadd, 1) := by decide +kernel
theorem dX11_countUpTo_177 : decode cX11_countUpTo 177 = .ok (.istore_n 3, 1) := by decide +kernel
theorem dX11_countUpTo_178 : decode cX11_countUpTo 178 = .ok (.goto (-171), 3) := by decide +kernel
theorem dX11_countUpTo_181 : decode cX11_countUpTo 181 = .ok (.iload_n 2, 1) := by decide +kernel
theorem dX11_countUpTo_182 : decode cX11_countUpTo 182 = .ok (.ireturn, 1) := by decide +kernel
set_option maxRecDepth 20000 in
theorem ggX11_may_X11_cells : GoodIn wsX11_may wsX11_cells := goodIn_r _ [6, 7, 14, 15, 16, 17, 18, 19, 20, 21, 22, 23, 24, 25, 26, 27, 28, 29, 30, 31, 32, 33, 34, 35] (by decide +kernel) (by decide +kernel)
set_option maxRecDepth 20000 in
theorem gX11_may_X11_cells : GoodIn wsX11_may (wsV RX11 57 RX11 yX11_cells wsX11_cells) := goodIn_app (goodIn_of _ (by decide +kernel)) ggX11_may_X11_cells
set_option maxRecDepth 20000 in
theorem ggX11_may_X11_sees : GoodIn wsX11_may wsX11_sees := goodIn_r _ [11, 7, 12, 13, 14, 15, 16, 17, 18, 19, 20, 21, 22, 23, 24, 25, 26, 27, 28, 29, 30, 31, 32, 33, 34, 35] (by decide +kernel) (by decide +kernel)
set_option maxRecDepth 20000 in
theorem gX11_may_X11_sees : GoodIn wsX11_may (wsV RX11 85 RX11 yX11_sees wsX11_sees) := goodIn_app (goodIn_of _ (by decide +kernel)) ggX11_may_X11_sees
theorem dX11_may_0 : decode cX11_may 0 = .ok (.aload_n 0, 1) := by decide +kernel
theorem dX11_may_1 : decode cX11_may 1 = .ok (.getfield 36, 3) := by decide +kernel
theorem dX11_may_4 : decode cX11_may 4 = .ok (.iload_n 1, 1) := by decide +kernel
theorem dX11_may_5 : decode cX11_may 5 = .ok (.iaload, 1) := by decide +kernel
theorem dX11_may_6 : decode cX11_may 6 = .ok (.ifCond .lt 5, 3) := by decide +kernel
theorem dX11_may_9 : decode cX11_may 9 = .ok (.iconst 0, 1) := by decide +kernel
theorem dX11_may_10 : decode cX11_may 10 = .ok (.ireturn, 1) := by decide +kernel
theorem dX11_may_11 : decode cX11_may 11 = .ok (.iconst 0, 1) := by decide +kernel
theorem dX11_may_12 : decode cX11_may 12 = .ok (.istore_n 3, 1) := by decide +kernel
theorem dX11_may_13 : decode cX11_may 13 = .ok (.iload_n 3, 1) := by decide +kernel
theorem dX11_may_14 : decode cX11_may 14 = .ok (.aload_n 0, 1) := by decide +kernel
theorem dX11_may_15 : decode cX11_may 15 = .ok (.invokevirtual 57, 3) := by decide +kernel
theorem dX11_may_18 : decode cX11_may 18 = .ok (.if_icmp .ge 30, 3) := by decide +kernel
theorem dX11_may_21 : decode cX11_may 21 = .ok (.aload_n 0, 1) := by decide +kernel
theorem dX11_may_22 : decode cX11_may 22 = .ok (.getfield 36, 3) := by decide +kernel
theorem dX11_may_25 : decode cX11_may 25 = .ok (.iload_n 3, 1) := by decide +kernel
theorem dX11_may_26 : decode cX11_may 26 = .ok (.iaload, 1) := by decide +kernel
theorem dX11_may_27 : decode cX11_may 27 = .ok (.iload_n 2, 1) := by decide +kernel
theorem dX11_may_28 : decode cX11_may 28 = .ok (.if_icmp .ne 14, 3) := by decide +kernel
theorem dX11_may_31 : decode cX11_may 31 = .ok (.aload_n 0, 1) := by decide +kernel
theorem dX11_may_32 : decode cX11_may 32 = .ok (.iload_n 3, 1) := by decide +kernel
theorem dX11_may_33 : decode cX11_may 33 = .ok (.iload_n 1, 1) := by decide +kernel
theorem dX11_may_34 : decode cX11_may 34 = .ok (.invokevirtual 85, 3) := by decide +kernel
theorem dX11_may_37 : decode cX11_may 37 = .ok (.ifCond .eq 5, 3) := by decide +kernel
theorem dX11_may_40 : decode cX11_may 40 = .ok (.iconst 0, 1) := by decide +kernel
theorem dX11_may_41 : decode cX11_may 41 = .ok (.ireturn, 1) := by decide +kernel
theorem dX11_may_42 : decode cX11_may 42 = .ok (.iinc 3 1, 3) := by decide +kernel
theorem dX11_may_45 : decode cX11_may 45 = .ok (.goto (-32), 3) := by decide +kernel
theorem dX11_may_48 : decode cX11_may 48 = .ok (.iconst 1, 1) := by decide +kernel
theorem dX11_may_49 : decode cX11_may 49 = .ok (.ireturn, 1) := by decide +kernel
theorem dX11_isTogether_0 : decode cX11_isTogether 0 = .ok (.iload_n 3, 1) := by decide +kernel
theorem dX11_isTogether_1 : decode cX11_isTogether 1 = .ok (.ifCond .ne 24, 3) := by decide +kernel
theorem dX11_isTogether_4 : decode cX11_isTogether 4 = .ok (.iload_n 1, 1) := by decide +kernel
theorem dX11_isTogether_5 : decode cX11_isTogether 5 = .ok (.aload_n 0, 1) := by decide +kernel
theorem dX11_isTogether_6 : decode cX11_isTogether 6 = .ok (.getfield 45, 3) := by decide +kernel
theorem dX11_isTogether_9 : decode cX11_isTogether 9 = .ok (.idiv, 1) := by decide +kernel
theorem dX11_isTogether_10 : decode cX11_isTogether 10 = .ok (.iload_n 2, 1) := by decide +kernel
theorem dX11_isTogether_11 : decode cX11_isTogether 11 = .ok (.aload_n 0, 1) := by decide +kernel
theorem dX11_isTogether_12 : decode cX11_isTogether 12 = .ok (.getfield 45, 3) := by decide +kernel
theorem dX11_isTogether_15 : decode cX11_isTogether 15 = .ok (.idiv, 1) := by decide +kernel
theorem dX11_isTogether_16 : decode cX11_isTogether 16 = .ok (.if_icmp .ne 7, 3) := by decide +kernel
theorem dX11_isTogether_19 : decode cX11_isTogether 19 = .ok (.iconst 1, 1) := by decide +kernel
theorem dX11_isTogether_20 : decode cX11_isTogether 20 = .ok (.goto 4, 3) := by decide +kernel
theorem dX11_isTogether_23 : decode cX11_isTogether 23 = .ok (.iconst 0, 1) := by decide +kernel
theorem dX11_isTogether_24 : decode cX11_isTogether 24 = .ok (.ireturn, 1) := by decide +kernel
theorem dX11_isTogether_25 : decode cX11_isTogether 25 = .ok (.iload_n 3, 1) := by decide +kernel
theorem dX11_isTogether_26 : decode cX11_isTogether 26 = .ok (.iconst 1, 1) := by decide +kernel
theorem dX11_isTogether_27 : decode cX11_isTogether 27 = .ok (.if_icmp .ne 24, 3) := by decide +kernel
theorem dX11_isTogether_30 : decode cX11_isTogether 30 = .ok (.iload_n 1, 1) := by decide +kernel
theorem dX11_isTogether_31 : decode cX11_isTogether 31 = .ok (.aload_n 0, 1) := by decide +kernel
theorem dX11_isTogether_32 : decode cX11_isTogether 32 = .ok (.getfield 45, 3) := by decide +kernel
theorem dX11_isTogether_35 : decode cX11_isTogether 35 = .ok (.irem, 1) := by decide +kernel
theorem dX11_isTogether_36 : decode cX11_isTogether 36 = .ok (.iload_n 2, 1) := by decide +kernel
theorem dX11_isTogether_37 : decode cX11_isTogether 37 = .ok (.aload_n 0, 1) := by decide +kernel
theorem dX11_isTogether_38 : decode cX11_isTogether 38 = .ok (.getfield 45, 3) := by decide +kernel
theorem dX11_isTogether_41 : decode cX11_isTogether 41 = .ok (.irem, 1) := by decide +kernel
theorem dX11_isTogether_42 : decode cX11_isTogether 42 = .ok (.if_icmp .ne 7, 3) := by decide +kernel
theorem dX11_isTogether_45 : decode cX11_isTogether 45 = .ok (.iconst 1, 1) := by decide +kernel
theorem dX11_isTogether_46 : decode cX11_isTogether 46 = .ok (.goto 4, 3) := by decide +kernel
theorem dX11_isTogether_49 : decode cX11_isTogether 49 = .ok (.iconst 0, 1) := by decide +kernel
theorem dX11_isTogether_50 : decode cX11_isTogether 50 = .ok (.ireturn, 1) := by decide +kernel
theorem dX11_isTogether_51 : decode cX11_isTogether 51 = .ok (.iload_n 1, 1) := by decide +kernel
theorem dX11_isTogether_52 : decode cX11_isTogether 52 = .ok (.aload_n 0, 1) := by decide +kernel
theorem dX11_isTogether_53 : decode cX11_isTogether 53 = .ok (.getfield 45, 3) := by decide +kernel
theorem dX11_isTogether_56 : decode cX11_isTogether 56 = .ok (.idiv, 1) := by decide +kernel
theorem dX11_isTogether_57 : decode cX11_isTogether 57 = .ok (.aload_n 0, 1) := by decide +kernel
theorem dX11_isTogether_58 : decode cX11_isTogether 58 = .ok (.getfield 51, 3) := by decide +kernel
theorem dX11_isTogether_61 : decode cX11_isTogether 61 = .ok (.idiv, 1) := by decide +kernel
theorem dX11_isTogether_62 : decode cX11_isTogether 62 = .ok (.iload_n 2, 1) := by decide +kernel
theorem dX11_isTogether_63 : decode cX11_isTogether 63 = .ok (.aload_n 0, 1) := by decide +kernel
theorem dX11_isTogether_64 : decode cX11_isTogether 64 = .ok (.getfield 45, 3) := by decide +kernel
theorem dX11_isTogether_67 : decode cX11_isTogether 67 = .ok (.idiv, 1) := by decide +kernel
theorem dX11_isTogether_68 : decode cX11_isTogether 68 = .ok (.aload_n 0, 1) := by decide +kernel
theorem dX11_isTogether_69 : decode cX11_isTogether 69 = .ok (.getfield 51, 3) := by decide +kernel
theorem dX11_isTogether_72 : decode cX11_isTogether 72 = .ok (.idiv, 1) := by decide +kernel
theorem dX11_isTogether_73 : decode cX11_isTogether 73 = .ok (.if_icmp .ne 32, 3) := by decide +kernel
theorem dX11_isTogether_76 : decode cX11_isTogether 76 = .ok (.iload_n 1, 1) := by decide +kernel
theorem dX11_isTogether_77 : decode cX11_isTogether 77 = .ok (.aload_n 0, 1) := by decide +kernel
theorem dX11_isTogether_78 : decode cX11_isTogether 78 = .ok (.getfield 45, 3) := by decide +kernel
theorem dX11_isTogether_81 : decode cX11_isTogether 81 = .ok (.irem, 1) := by decide +kernel
theorem dX11_isTogether_82 : decode cX11_isTogether 82 = .ok (.aload_n 0, 1) := by decide +kernel
theorem dX11_isTogether_83 : decode cX11_isTogether 83 = .ok (.getfield 48, 3) := by decide +kernel
theorem dX11_isTogether_86 : decode cX11_isTogether 86 = .ok (.idiv, 1) := by decide +kernel
theorem dX11_isTogether_87 : decode cX11_isTogether 87 = .ok (.iload_n 2, 1) := by decide +kernel
theorem dX11_isTogether_88 : decode cX11_isTogether 88 = .ok (.aload_n 0, 1) := by decide +kernel
theorem dX11_isTogether_89 : decode cX11_isTogether 89 = .ok (.getfield 45, 3) := by decide +kernel
theorem dX11_isTogether_92 : decode cX11_isTogether 92 = .ok (.irem, 1) := by decide +kernel
theorem dX11_isTogether_93 : decode cX11_isTogether 93 = .ok (.aload_n 0, 1) := by decide +kernel
theorem dX11_isTogether_94 : decode cX11_isTogether 94 = .ok (.getfield 48, 3) := by decide +kernel
theorem dX11_isTogether_97 : decode cX11_isTogether 97 = .ok (.idiv, 1) := by decide +kernel
theorem dX11_isTogether_98 : decode cX11_isTogether 98 = .ok (.if_icmp .ne 7, 3) := by decide +kernel
theorem dX11_isTogether_101 : decode cX11_isTogether 101 = .ok (.iconst 1, 1) := by decide +kernel
theorem dX11_isTogether_102 : decode cX11_isTogether 102 = .ok (.goto 4, 3) := by decide +kernel
theorem dX11_isTogether_105 : decode cX11_isTogether 105 = .ok (.iconst 0, 1) := by decide +kernel
theorem dX11_isTogether_106 : decode cX11_isTogether 106 = .ok (.ireturn, 1) := by decide +kernel
set_option maxRecDepth 20000 in
theorem ggX11_isSingle_X11_may : GoodIn wsX11_isSingle wsX11_may := goodIn_r _ [6, 7, 8, 9, 10, 5, 11, 1, 12, 13, 14, 15, 16, 17, 22, 23, 24, 25, 26, 27, 28, 29, 30, 31, 32, 33, 34, 35, 36, 37, 38, 39, 40, 41, 42, 43] (by decide +kernel) (by decide +kernel)
set_option maxRecDepth 20000 in
theorem gX11_isSingle_X11_may : GoodIn wsX11_isSingle (wsV RX11 92 RX11 yX11_may wsX11_may) := goodIn_app (goodIn_of _ (by decide +kernel)) ggX11_isSingle_X11_may
set_option maxRecDepth 20000 in
theorem ggX11_isSingle_X11_cells : GoodIn wsX11_isSingle wsX11_cells := goodIn_r _ [11, 1, 22, 23, 24, 25, 26, 27, 28, 29, 30, 31, 32, 33, 34, 35, 36, 37, 38, 39, 40, 41, 42, 43] (by decide +kernel) (by decide +kernel)
set_option maxRecDepth 20000 in
theorem gX11_isSingle_X11_cells : GoodIn wsX11_isSingle (wsV RX11 57 RX11 yX11_cells wsX11_cells) := goodIn_app (goodIn_of _ (by decide +kernel)) ggX11_isSingle_X11_cells
set_option maxRecDepth 20000 in
theorem ggX11_isSingle_X11_isTogether : GoodIn wsX11_isSingle wsX11_isTogether := goodIn_r _ [21, 1, 16, 17, 22, 23, 24, 25, 26, 27, 28, 29, 30, 31, 32, 33, 34, 35, 36, 37, 38, 39, 40, 41, 42, 43] (by decide +kernel) (by decide +kernel)
set_option maxRecDepth 20000 in
theorem gX11_isSingle_X11_isTogether : GoodIn wsX11_isSingle (wsV RX11 95 RX11 yX11_isTogether wsX11_isTogether) := goodIn_app (goodIn_of _ (by decide +kernel)) ggX11_isSingle_X11_isTogether
theorem dX11_isSingle_0 : decode cX11_isSingle 0 = .ok (.iconst 1, 1) := by decide +kernel
theorem dX11_isSingle_1 : decode cX11_isSingle 1 = .ok (.istore_n 3, 1) := by decide +kernel
theorem dX11_isSingle_2 : decode cX11_isSingle 2 = .ok (.iconst 0, 1) := by decide +kernel
theorem dX11_isSingle_3 : decode cX11_isSingle 3 = .ok (.istore 4, 2) := by decide +kernel
theorem dX11_isSingle_5 : decode cX11_isSingle 5 = .ok (.iload 4, 2) := by decide +kernel
theorem dX11_isSingle_7 : decode cX11_isSingle 7 = .ok (.aload_n 0, 1) := by decide +kernel
theorem dX11_isSingle_8 : decode cX11_isSingle 8 = .ok (.getfield 45, 3) := by decide +kernel
theorem dX11_isSingle_11 : decode cX11_isSingle 11 = .ok (.if_icmp .ge 35, 3) := by decide +kernel
theorem dX11_isSingle_14 : decode cX11_isSingle 14 = .ok (.iload_n 3, 1) := by decide +kernel
theorem dX11_isSingle_15 : decode cX11_isSingle 15 = .ok (.ifCond .eq 23, 3) := by decide +kernel
theorem dX11_isSingle_18 : decode cX11_isSingle 18 = .ok (.iload 4, 2) := by decide +kernel
theorem dX11_isSingle_20 : decode cX11_isSingle 20 = .ok (.iload_n 2, 1) := by decide +kernel
theorem dX11_isSingle_21 : decode cX11_isSingle 21 = .ok (.if_icmp .eq 13, 3) := by decide +kernel
theorem dX11_isSingle_24 : decode cX11_isSingle 24 = .ok (.aload_n 0, 1) := by decide +kernel
theorem dX11_isSingle_25 : decode cX11_isSingle 25 = .ok (.iload_n 1, 1) := by decide +kernel
theorem dX11_isSingle_26 : decode cX11_isSingle 26 = .ok (.iload 4, 2) := by decide +kernel
theorem dX11_isSingle_28 : decode cX11_isSingle 28 = .ok (.invokevirtual 92, 3) := by decide +kernel
theorem dX11_isSingle_31 : decode cX11_isSingle 31 = .ok (.ifCond .ne 7, 3) := by decide +kernel
theorem dX11_isSingle_34 : decode cX11_isSingle 34 = .ok (.iconst 1, 1) := by decide +kernel
theorem dX11_isSingle_35 : decode cX11_isSingle 35 = .ok (.goto 4, 3) := by decide +kernel
theorem dX11_isSingle_38 : decode cX11_isSingle 38 = .ok (.iconst 0, 1) := by decide +kernel
theorem dX11_isSingle_39 : decode cX11_isSingle 39 = .ok (.istore_n 3, 1) := by decide +kernel
theorem dX11_isSingle_40 : decode cX11_isSingle 40 = .ok (.iinc 4 1, 3) := by decide +kernel
theorem dX11_isSingle_43 : decode cX11_isSingle 43 = .ok (.goto (-38), 3) := by decide +kernel
theorem dX11_isSingle_46 : decode cX11_isSingle 46 = .ok (.iconst 0, 1) := by decide +kernel
theorem dX11_isSingle_47 : decode cX11_isSingle 47 = .ok (.istore 4, 2) := by decide +kernel
theorem dX11_isSingle_49 : decode cX11_isSingle 49 = .ok (.iload 4, 2) := by decide +kernel
theorem dX11_isSingle_51 : decode cX11_isSingle 51 = .ok (.iconst 3, 1) := by decide +kernel
theorem dX11_isSingle_52 : decode cX11_isSingle 52 = .ok (.if_icmp .ge 77, 3) := by decide +kernel
theorem dX11_isSingle_55 : decode cX11_isSingle 55 = .ok (.iload_n 3, 1) := by decide +kernel
theorem dX11_isSingle_56 : decode cX11_isSingle 56 = .ok (.ifCond .ne 73, 3) := by decide +kernel
theorem dX11_isSingle_59 : decode cX11_isSingle 59 = .ok (.iconst 1, 1) := by decide +kernel
theorem dX11_isSingle_60 : decode cX11_isSingle 60 = .ok (.istore 5, 2) := by decide +kernel
theorem dX11_isSingle_62 : decode cX11_isSingle 62 = .ok (.iconst 0, 1) := by decide +kernel
theorem dX11_isSingle_63 : decode cX11_isSingle 63 = .ok (.istore 6, 2) := by decide +kernel
theorem dX11_isSingle_65 : decode cX11_isSingle 65 = .ok (.iload 6, 2) := by decide +kernel
theorem dX11_isSingle_67 : decode cX11_isSingle 67 = .ok (.aload_n 0, 1) := by decide +kernel
theorem dX11_isSingle_68 : decode cX11_isSingle 68 = .ok (.invokevirtual 57, 3) := by decide +kernel
theorem dX11_isSingle_71 : decode cX11_isSingle 71 = .ok (.if_icmp .ge 49, 3) := by decide +kernel
theorem dX11_isSingle_74 : decode cX11_isSingle 74 = .ok (.iload 5, 2) := by decide +kernel
theorem dX11_isSingle_76 : decode cX11_isSingle 76 = .ok (.ifCond .eq 35, 3) := by decide +kernel
theorem dX11_isSingle_79 : decode cX11_isSingle 79 = .ok (.iload 6, 2) := by decide +kernel
theorem dX11_isSingle_81 : decode cX11_isSingle 81 = .ok (.iload_n 1, 1) := by decide +kernel
theorem dX11_isSingle_82 : decode cX11_isSingle 82 = .ok (.if_icmp .eq 25, 3) := by decide +kernel
theorem dX11_isSingle_85 : decode cX11_isSingle 85 = .ok (.aload_n 0, 1) := by decide +kernel
theorem dX11_isSingle_86 : decode cX11_isSingle 86 = .ok (.iload 6, 2) := by decide +kernel
theorem dX11_isSingle_88 : decode cX11_isSingle 88 = .ok (.iload_n 1, 1) := by decide +kernel
theorem dX11_isSingle_89 : decode cX11_isSingle 89 = .ok (.iload 4, 2) := by decide +kernel
theorem dX11_isSingle_91 : decode cX11_isSingle 91 = .ok (.invokevirtual 95, 3) := by decide +kernel
theorem dX11_isSingle_94 : decode cX11_isSingle 94 = .ok (.ifCond .eq 13, 3) := by decide +kernel
theorem dX11_isSingle_97 : decode cX11_isSingle 97 = .ok (.aload_n 0, 1) := by decide +kernel
theorem dX11_isSingle_98 : decode cX11_isSingle 98 = .ok (.iload 6, 2) := by decide +kernel
theorem dX11_isSingle_100 : decode cX11_isSingle 100 = .ok (.iload_n 2, 1) := by decide +kernel
theorem dX11_isSingle_101 : decode cX11_isSingle 101 = .ok (.invokevirtual 92, 3) := by decide +kernel
theorem dX11_isSingle_104 : decode cX11_isSingle 104 = .ok (.ifCond .ne 7, 3) := by decide +kernel
theorem dX11_isSingle_107 : decode cX11_isSingle 107 = .ok (.iconst 1, 1) := by decide +kernel
theorem dX11_isSingle_108 : decode cX11_isSingle 108 = .ok (.goto 4, 3) := by decide +kernel
theorem dX11_isSingle_111 : decode cX11_isSingle 111 = .ok (.iconst 0, 1) := by decide +kernel
theorem dX11_isSingle_112 : decode cX11_isSingle 112 = .ok (.istore 5, 2) := by decide +kernel
theorem dX11_isSingle_114 : decode cX11_isSingle 114 = .ok (.iinc 6 1, 3) := by decide +kernel
theorem dX11_isSingle_117 : decode cX11_isSingle 117 = .ok (.goto (-52), 3) := by decide +kernel
theorem dX11_isSingle_120 : decode cX11_isSingle 120 = .ok (.iload 5, 2) := by decide +kernel
theorem dX11_isSingle_122 : decode cX11_isSingle 122 = .ok (.istore_n 3, 1) := by decide +kernel
theorem dX11_isSingle_123 : decode cX11_isSingle 123 = .ok (.iinc 4 1, 3) := by decide +kernel
theorem dX11_isSingle_126 : decode cX11_isSingle 126 = .ok (.goto (-77), 3) := by decide +kernel
theorem dX11_isSingle_129 : decode cX11_isSingle 129 = .ok (.iload_n 3, 1) := by decide +kernel
theorem dX11_isSingle_130 : decode cX11_isSingle 130 = .ok (.ireturn, 1) := by decide +kernel
set_option maxRecDepth 20000 in
theorem ggX11_countLeft_X11_cells : GoodIn wsX11_countLeft wsX11_cells := goodIn_r _ [8, 3, 27, 28, 29, 30, 31, 32, 33, 34, 35, 36, 37, 38, 39, 40, 41, 42, 43, 44, 45, 46, 47, 48] (by decide +kernel) (by decide +kernel)
set_option maxRecDepth 20000 in
theorem gX11_countLeft_X11_cells : GoodIn wsX11_countLeft (wsV RX11 57 RX11 yX11_cells wsX11_cells) := goodIn_app (goodIn_of _ (by decide +kernel)) ggX11_countLeft_X11_cells
set_option maxRecDepth 20000 in
theorem ggX11_countLeft_X11_may : GoodIn wsX11_countLeft wsX11_may := goodIn_r _ [12, 1, 4, 5, 6, 7, 8, 3, 13, 14, 15, 16, 17, 18, 27, 28, 29, 30, 31, 32, 33, 34, 35, 36, 37, 38, 39, 40, 41, 42, 43, 44, 45, 46, 47, 48] (by decide +kernel) (by decide +kernel)
set_option maxRecDepth 20000 in
theorem gX11_countLeft_X11_may : GoodIn wsX11_countLeft (wsV RX11 92 RX11 yX11_may wsX11_may) := goodIn_app (goodIn_of _ (by decide +kernel)) ggX11_countLeft_X11_may
set_option maxRecDepth 20000 in
theorem ggX11_countLeft_X11_isSingle : GoodIn wsX11_countLeft wsX11_isSingle := goodIn_r _ [22, 3, 9, 10, 11, 7, 12, 1, 4, 5, 6, 8, 13, 14, 15, 16, 17, 18, 23, 24, 25, 26, 27, 28, 29, 30, 31, 32, 33, 34, 35, 36, 37, 38, 39, 40, 41, 42, 43, 44, 45, 46, 47, 48] (by decide +kernel) (by decide +kernel)
set_option maxRecDepth 20000 in
theorem gX11_countLeft_X11_isSingle : GoodIn wsX11_countLeft (wsV RX11 99 RX11 yX11_isSingle wsX11_isSingle) := goodIn_app (goodIn_of _ (by decide +kernel)) ggX11_countLeft_X11_isSingle
theorem dX11_countLeft_0 : decode cX11_countLeft 0 = .ok (.iconst 0, 1) := by decide +kernel
theorem dX11_countLeft_1 : decode cX11_countLeft 1 = .ok (.istore_n 1, 1) := by decide +kernel
theorem dX11_countLeft_2 : decode cX11_countLeft 2 = .ok (.iload_n 1, 1) := by decide +kernel
theorem dX11_countLeft_3 : decode cX11_countLeft 3 = .ok (.bipush 36, 2) := by decide +kernel
theorem dX11_countLeft_5 : decode cX11_countLeft 5 = .ok (.if_icmp .ge 33, 3) := by decide +kernel
theorem dX11_countLeft_8 : decode cX11_countLeft 8 = .ok (.aload_n 0, 1) := by decide +kernel
theorem dX11_countLeft_9 : decode cX11_countLeft 9 = .ok (.getfield 36, 3) := by decide +kernel
theorem dX11_countLeft_12 : decode cX11_countLeft 12 = .ok (.iload_n 1, 1) := by decide +kernel
theorem dX11_countLeft_13 : decode cX11_countLeft 13 = .ok (.iload_n 1, 1) := by decide +kernel
theorem dX11_countLeft_14 : decode cX11_countLeft 14 = .ok (.aload_n 0, 1) := by decide +kernel
theorem dX11_countLeft_15 : decode cX11_countLeft 15 = .ok (.invokevirtual 57, 3) := by decide +kernel
theorem dX11_countLeft_18 : decode cX11_countLeft 18 = .ok (.if_icmp .ge 12, 3) := by decide +kernel
theorem dX11_countLeft_21 : decode cX11_countLeft 21 = .ok (.aload_n 0, 1) := by decide +kernel
theorem dX11_countLeft_22 : decode cX11_countLeft 22 = .ok (.getfield 27, 3) := by decide +kernel
theorem dX11_countLeft_25 : decode cX11_countLeft 25 = .ok (.iload_n 1, 1) := by decide +kernel
theorem dX11_countLeft_26 : decode cX11_countLeft 26 = .ok (.iaload, 1) := by decide +kernel
theorem dX11_countLeft_27 : decode cX11_countLeft 27 = .ok (.goto 4, 3) := by decide +kernel
theorem dX11_countLeft_30 : decode cX11_countLeft 30 = .ok (.iconst (-1), 1) := by decide +kernel
theorem dX11_countLeft_31 : decode cX11_countLeft 31 = .ok (.iastore, 1) := by decide +kernel
theorem dX11_countLeft_32 : decode cX11_countLeft 32 = .ok (.iinc 1 1, 3) := by decide +kernel
theorem dX11_countLeft_35 : decode cX11_countLeft 35 = .ok (.goto (-33), 3) := by decide +kernel
theorem dX11_countLeft_38 : decode cX11_countLeft 38 = .ok (.iconst 1, 1) := by decide +kernel
theorem dX11_countLeft_39 : decode cX11_countLeft 39 = .ok (.istore_n 1, 1) := by decide +kernel
theorem dX11_countLeft_40 : decode cX11_countLeft 40 = .ok (.iload_n 1, 1) := by decide +kernel
theorem dX11_countLeft_41 : decode cX11_countLeft 41 = .ok (.ifCond .eq 70, 3) := by decide +kernel
theorem dX11_countLeft_44 : decode cX11_countLeft 44 = .ok (.iconst 0, 1) := by decide +kernel
theorem dX11_countLeft_45 : decode cX11_countLeft 45 = .ok (.istore_n 1, 1) := by decide +kernel
theorem dX11_countLeft_46 : decode cX11_countLeft 46 = .ok (.iconst 0, 1) := by decide +kernel
theorem dX11_countLeft_47 : decode cX11_countLeft 47 = .ok (.istore_n 2, 1) := by decide +kernel
theorem dX11_countLeft_48 : decode cX11_countLeft 48 = .ok (.iload_n 2, 1) := by decide +kernel
theorem dX11_countLeft_49 : decode cX11_countLeft 49 = .ok (.aload_n 0, 1) := by decide +kernel
theorem dX11_countLeft_50 : decode cX11_countLeft 50 = .ok (.invokevirtual 57, 3) := by decide +kernel
theorem dX11_countLeft_53 : decode cX11_countLeft 53 = .ok (.if_icmp .ge 55, 3) := by decide +kernel
theorem dX11_countLeft_56 : decode cX11_countLeft 56 = .ok (.iconst 0, 1) := by decide +kernel
theorem dX11_countLeft_57 : decode cX11_countLeft 57 = .ok (.istore_n 3, 1) := by decide +kernel
theorem dX11_countLeft_58 : decode cX11_countLeft 58 = .ok (.iload_n 3, 1) := by decide +kernel
theorem dX11_countLeft_59 : decode cX11_countLeft 59 = .ok (.aload_n 0, 1) := by decide +kernel
theorem dX11_countLeft_60 : decode cX11_countLeft 60 = .ok (.getfield 45, 3) := by decide +kernel
theorem dX11_countLeft_63 : decode cX11_countLeft 63 = .ok (.if_icmp .ge 39, 3) := by decide +kernel
theorem dX11_countLeft_66 : decode cX11_countLeft 66 = .ok (.aload_n 0, 1) := by decide +kernel
theorem dX11_countLeft_67 : decode cX11_countLeft 67 = .ok (.iload_n 2, 1) := by decide +kernel
theorem dX11_countLeft_68 : decode cX11_countLeft 68 = .ok (.iload_n 3, 1) := by decide +kernel
theorem dX11_countLeft_69 : decode cX11_countLeft 69 = .ok (.invokevirtual 92, 3) := by decide +kernel
theorem dX11_countLeft_72 : decode cX11_countLeft 72 = .ok (.ifCond .eq 24, 3) := by decide +kernel
theorem dX11_countLeft_75 : decode cX11_countLeft 75 = .ok (.aload_n 0, 1) := by decide +kernel
theorem dX11_countLeft_76 : decode cX11_countLeft 76 = .ok (.iload_n 2, 1) := by decide +kernel
theorem dX11_countLeft_77 : decode cX11_countLeft 77 = .ok (.iload_n 3, 1) := by decide +kernel
theorem dX11_countLeft_78 : decode cX11_countLeft 78 = .ok (.invokevirtual 99, 3) := by decide +kernel
theorem dX11_countLeft_81 : decode cX11_countLeft 81 = .ok (.ifCond .ne 6, 3) := by decide +kernel
theorem dX11_countLeft_84 : decode cX11_countLeft 84 = .ok (.goto 12, 3) := by decide +kernel
theorem dX11_countLeft_87 : decode cX11_countLeft 87 = .ok (.aload_n 0, 1) := by decide +kernel
theorem dX11_countLeft_88 : decode cX11_countLeft 88 = .ok (.getfield 36, 3) := by decide +kernel
theorem dX11_countLeft_91 : decode cX11_countLeft 91 = .ok (.iload_n 2, 1) := by decide +kernel
theorem dX11_countLeft_92 : decode cX11_countLeft 92 = .ok (.iload_n 3, 1) := by decide +kernel
theorem dX11_countLeft_93 : decode cX11_countLeft 93 = .ok (.iastore, 1) := by decide +kernel
theorem dX11_countLeft_94 : decode cX11_countLeft 94 = .ok (.iconst 1, 1) := by decide +kernel
theorem dX11_countLeft_95 : decode cX11_countLeft 95 = .ok (.istore_n 1, 1) := by decide +kernel
theorem dX11_countLeft_96 : decode cX11_countLeft 96 = .ok (.iinc 3 1, 3) := by decide +kernel
theorem dX11_countLeft_99 : decode cX11_countLeft 99 = .ok (.goto (-41), 3) := by decide +kernel
theorem dX11_countLeft_102 : decode cX11_countLeft 102 = .ok (.iinc 2 1, 3) := by decide +kernel
theorem dX11_countLeft_105 : decode cX11_countLeft 105 = .ok (.goto (-57), 3) := by decide +kernel
theorem dX11_countLeft_108 : decode cX11_countLeft 108 = .ok (.goto (-68), 3) := by decide +kernel
theorem dX11_countLeft_111 : decode cX11_countLeft 111 = .ok (.iconst 0, 1) := by decide +kernel
theorem dX11_countLeft_112 : decode cX11_countLeft 112 = .ok (.istore_n 2, 1) := by decide +kernel
theorem dX11_countLeft_113 : decode cX11_countLeft 113 = .ok (.iconst 0, 1) := by decide +kernel
theorem dX11_countLeft_114 : decode cX11_countLeft 114 = .ok (.istore_n 3, 1) := by decide +kernel
theorem dX11_countLeft_115 : decode cX11_countLeft 115 = .ok (.iload_n 3, 1) := by decide +kernel
theorem dX11_countLeft_116 : decode cX11_countLeft 116 = .ok (.aload_n 0, 1) := by decide +kernel
theorem dX11_countLeft_117 : decode cX11_countLeft 117 = .ok (.invokevirtual 57, 3) := by decide +kernel
theorem dX11_countLeft_120 : decode cX11_countLeft 120 = .ok (.if_icmp .ge 26, 3) := by decide +kernel
theorem dX11_countLeft_123 : decode cX11_countLeft 123 = .ok (.iload_n 2, 1) := by decide +kernel
theorem dX11_countLeft_124 : decode cX11_countLeft 124 = .ok (.aload_n 0, 1) := by decide +kernel
theorem dX11_countLeft_125 : decode cX11_countLeft 125 = .ok (.getfield 36, 3) := by decide +kernel
theorem dX11_countLeft_128 : decode cX11_countLeft 128 = .ok (.iload_n 3, 1) := by decide +kernel
theorem dX11_countLeft_129 : decode cX11_countLeft 129 = .ok (.iaload, 1) := by decide +kernel
theorem dX11_countLeft_130 : decode cX11_countLeft 130 = .ok (.ifCond .ge 7, 3) := by decide +kernel
theorem dX11_countLeft_133 : decode cX11_countLeft 133 = .ok (.iconst 1, 1) := by decide +kernel
theorem dX11_countLeft_134 : decode cX11_countLeft 134 = .ok (.goto 4, 3) := by decide +kernel
theorem dX11_countLeft_137 : decode cX11_countLeft 137 = .ok (.iconst 0, 1) := by decide +kernel
theorem dX11_countLeft_138 : decode cX11_countLeft 138 = .ok (.iadd, 1) := by decide +kernel
theorem dX11_countLeft_139 : decode cX11_countLeft 139 = .ok (.istore_n 2, 1) := by decide +kernel
theorem dX11_countLeft_140 : decode cX11_countLeft 140 = .ok (.iinc 3 1, 3) := by decide +kernel
theorem dX11_countLeft_143 : decode cX11_countLeft 143 = .ok (.goto (-28), 3) := by decide +kernel
theorem dX11_countLeft_146 : decode cX11_countLeft 146 = .ok (.iload_n 2, 1) := by decide +kernel
theorem dX11_countLeft_147 : decode cX11_countLeft 147 = .ok (.ireturn, 1) := by decide +kernel
theorem dX11_below_0 : decode cX11_below 0 = .ok (.aload_n 0, 1) := by decide +kernel
theorem dX11_below_1 : decode cX11_below 1 = .ok (.aload_n 0, 1) := by decide +kernel
theorem dX11_below_2 : decode cX11_below 2 = .ok (.getfield 102, 3) := by decide +kernel
theorem dX11_below_5 : decode cX11_below 5 = .ok (.ldc2_w 106, 3) := by decide +kernel
theorem dX11_below_8 : decode cX11_below 8 = .ok (.lmul, 1) := by decide +kernel
theorem dX11_below_9 : decode cX11_below 9 = .ok (.ldc2_w 108, 3) := by decide +kernel
theorem dX11_below_12 : decode cX11_below 12 = .ok (.ladd, 1) := by decide +kernel
theorem dX11_below_13 : decode cX11_below 13 = .ok (.putfield 102, 3) := by decide +kernel
theorem dX11_below_16 : decode cX11_below 16 = .ok (.aload_n 0, 1) := by decide +kernel
theorem dX11_below_17 : decode cX11_below 17 = .ok (.getfield 102, 3) := by decide +kernel
theorem dX11_below_20 : decode cX11_below 20 = .ok (.bipush 33, 2) := by decide +kernel
theorem dX11_below_22 : decode cX11_below 22 = .ok (.lushr, 1) := by decide +kernel
theorem dX11_below_23 : decode cX11_below 23 = .ok (.iload_n 1, 1) := by decide +kernel
theorem dX11_below_24 : decode cX11_below 24 = .ok (.i2l, 1) := by decide +kernel
theorem dX11_below_25 : decode cX11_below 25 = .ok (.lrem, 1) := by decide +kernel
theorem dX11_below_26 : decode cX11_below 26 = .ok (.l2i, 1) := by decide +kernel
theorem dX11_below_27 : decode cX11_below 27 = .ok (.ireturn, 1) := by decide +kernel
set_option maxRecDepth 20000 in
theorem ggX11_mayDraw_X11_cells : GoodIn wsX11_mayDraw wsX11_cells := goodIn_r _ [6, 7, 14, 15, 16, 17, 18, 19, 20, 21, 22, 23, 24, 25, 26, 27, 28, 29, 30, 31, 32, 33, 34, 35] (by decide +kernel) (by decide +kernel)
set_option maxRecDepth 20000 in
theorem gX11_mayDraw_X11_cells : GoodIn wsX11_mayDraw (wsV RX11 57 RX11 yX11_cells wsX11_cells) := goodIn_app (goodIn_of _ (by decide +kernel)) ggX11_mayDraw_X11_cells
set_option maxRecDepth 20000 in
theorem ggX11_mayDraw_X11_sees : GoodIn wsX11_mayDraw wsX11_sees := goodIn_r _ [11, 7, 12, 13, 14, 15, 16, 17, 18, 19, 20, 21, 22, 23, 24, 25, 26, 27, 28, 29, 30, 31, 32, 33, 34, 35] (by decide +kernel) (by decide +kernel)
set_option maxRecDepth 20000 in
theorem gX11_mayDraw_X11_sees : GoodIn wsX11_mayDraw (wsV RX11 85 RX11 yX11_sees wsX11_sees) := goodIn_app (goodIn_of _ (by decide +kernel)) ggX11_mayDraw_X11_sees
theorem dX11_mayDraw_0 : decode cX11_mayDraw 0 = .ok (.iconst 0, 1) := by decide +kernel
theorem dX11_mayDraw_1 : decode cX11_mayDraw 1 = .ok (.istore_n 3, 1) := by decide +kernel
theorem dX11_mayDraw_2 : decode cX11_mayDraw 2 = .ok (.iload_n 3, 1) := by decide +kernel
theorem dX11_mayDraw_3 : decode cX11_mayDraw 3 = .ok (.aload_n 0, 1) := by decide +kernel
theorem dX11_mayDraw_4 : decode cX11_mayDraw 4 = .ok (.invokevirtual 57, 3) := by decide +kernel
theorem dX11_mayDraw_7 : decode cX11_mayDraw 7 = .ok (.if_icmp .ge 30, 3) := by decide +kernel
theorem dX11_mayDraw_10 : decode cX11_mayDraw 10 = .ok (.aload_n 0, 1) := by decide +kernel
theorem dX11_mayDraw_11 : decode cX11_mayDraw 11 = .ok (.getfield 30, 3) := by decide +kernel
theorem dX11_mayDraw_14 : decode cX11_mayDraw 14 = .ok (.iload_n 3, 1) := by decide +kernel
theorem dX11_mayDraw_15 : decode cX11_mayDraw 15 = .ok (.iaload, 1) := by decide +kernel
theorem dX11_mayDraw_16 : decode cX11_mayDraw 16 = .ok (.iload_n 2, 1) := by decide +kernel
theorem dX11_mayDraw_17 : decode cX11_mayDraw 17 = .ok (.if_icmp .ne 14, 3) := by decide +kernel
theorem dX11_mayDraw_20 : decode cX11_mayDraw 20 = .ok (.aload_n 0, 1) := by decide +kernel
theorem dX11_mayDraw_21 : decode cX11_mayDraw 21 = .ok (.iload_n 3, 1) := by decide +kernel
theorem dX11_mayDraw_22 : decode cX11_mayDraw 22 = .ok (.iload_n 1, 1) := by decide +kernel
theorem dX11_mayDraw_23 : decode cX11_mayDraw 23 = .ok (.invokevirtual 85, 3) := by decide +kernel
theorem dX11_mayDraw_26 : decode cX11_mayDraw 26 = .ok (.ifCond .eq 5, 3) := by decide +kernel
theorem dX11_mayDraw_29 : decode cX11_mayDraw 29 = .ok (.iconst 0, 1) := by decide +kernel
theorem dX11_mayDraw_30 : decode cX11_mayDraw 30 = .ok (.ireturn, 1) := by decide +kernel
theorem dX11_mayDraw_31 : decode cX11_mayDraw 31 = .ok (.iinc 3 1, 3) := by decide +kernel
theorem dX11_mayDraw_34 : decode cX11_mayDraw 34 = .ok (.goto (-32), 3) := by decide +kernel
theorem dX11_mayDraw_37 : decode cX11_mayDraw 37 = .ok (.iconst 1, 1) := by decide +kernel
theorem dX11_mayDraw_38 : decode cX11_mayDraw 38 = .ok (.ireturn, 1) := by decide +kernel
set_option maxRecDepth 20000 in
theorem ggX11_countDraw_X11_mayDraw : GoodIn wsX11_countDraw wsX11_mayDraw := goodIn_r _ [6, 7, 8, 9, 10, 5, 11, 1, 12, 13, 14, 15, 16, 17, 18, 19, 20, 21, 22, 23, 24, 25, 26, 27, 28, 29, 30, 31, 32, 33, 34, 35, 36, 37, 38, 39] (by decide +kernel) (by decide +kernel)
set_option maxRecDepth 20000 in
theorem gX11_countDraw_X11_mayDraw : GoodIn wsX11_countDraw (wsV RX11 110 RX11 yX11_mayDraw wsX11_mayDraw) := goodIn_app (goodIn_of _ (by decide +kernel)) ggX11_countDraw_X11_mayDraw
theorem dX11_countDraw_0 : decode cX11_countDraw 0 = .ok (.iconst 0, 1) := by decide +kernel
theorem dX11_countDraw_1 : decode cX11_countDraw 1 = .ok (.istore_n 2, 1) := by decide +kernel
theorem dX11_countDraw_2 : decode cX11_countDraw 2 = .ok (.iconst 0, 1) := by decide +kernel
theorem dX11_countDraw_3 : decode cX11_countDraw 3 = .ok (.istore_n 3, 1) := by decide +kernel
theorem dX11_countDraw_4 : decode cX11_countDraw 4 = .ok (.iload_n 3, 1) := by decide +kernel
theorem dX11_countDraw_5 : decode cX11_countDraw 5 = .ok (.aload_n 0, 1) := by decide +kernel
theorem dX11_countDraw_6 : decode cX11_countDraw 6 = .ok (.getfield 45, 3) := by decide +kernel
theorem dX11_countDraw_9 : decode cX11_countDraw 9 = .ok (.if_icmp .ge 26, 3) := by decide +kernel
theorem dX11_countDraw_12 : decode cX11_countDraw 12 = .ok (.iload_n 2, 1) := by decide +kernel
theorem dX11_countDraw_13 : decode cX11_countDraw 13 = .ok (.aload_n 0, 1) := by decide +kernel
theorem dX11_countDraw_14 : decode cX11_countDraw 14 = .ok (.iload_n 1, 1) := by decide +kernel
theorem dX11_countDraw_15 : decode cX11_countDraw 15 = .ok (.iload_n 3, 1) := by decide +kernel
theorem dX11_countDraw_16 : decode cX11_countDraw 16 = .ok (.invokevirtual 110, 3) := by decide +kernel
theorem dX11_countDraw_19 : decode cX11_countDraw 19 = .ok (.ifCond .eq 7, 3) := by decide +kernel
theorem dX11_countDraw_22 : decode cX11_countDraw 22 = .ok (.iconst 1, 1) := by decide +kernel
theorem dX11_countDraw_23 : decode cX11_countDraw 23 = .ok (.goto 4, 3) := by decide +kernel
theorem dX11_countDraw_26 : decode cX11_countDraw 26 = .ok (.iconst 0, 1) := by decide +kernel
theorem dX11_countDraw_27 : decode cX11_countDraw 27 = .ok (.iadd, 1) := by decide +kernel
theorem dX11_countDraw_28 : decode cX11_countDraw 28 = .ok (.istore_n 2, 1) := by decide +kernel
theorem dX11_countDraw_29 : decode cX11_countDraw 29 = .ok (.iinc 3 1, 3) := by decide +kernel
theorem dX11_countDraw_32 : decode cX11_countDraw 32 = .ok (.goto (-28), 3) := by decide +kernel
theorem dX11_countDraw_35 : decode cX11_countDraw 35 = .ok (.iload_n 2, 1) := by decide +kernel
theorem dX11_countDraw_36 : decode cX11_countDraw 36 = .ok (.ireturn, 1) := by decide +kernel
theorem dX11_empty_0 : decode cX11_empty 0 = .ok (.iconst 0, 1) := by decide +kernel
theorem dX11_empty_1 : decode cX11_empty 1 = .ok (.istore_n 1, 1) := by decide +kernel
theorem dX11_empty_2 : decode cX11_empty 2 = .ok (.iload_n 1, 1) := by decide +kernel
theorem dX11_empty_3 : decode cX11_empty 3 = .ok (.bipush 36, 2) := by decide +kernel
theorem dX11_empty_5 : decode cX11_empty 5 = .ok (.if_icmp .ge 16, 3) := by decide +kernel
theorem dX11_empty_8 : decode cX11_empty 8 = .ok (.aload_n 0, 1) := by decide +kernel
theorem dX11_empty_9 : decode cX11_empty 9 = .ok (.getfield 30, 3) := by decide +kernel
theorem dX11_empty_12 : decode cX11_empty 12 = .ok (.iload_n 1, 1) := by decide +kernel
theorem dX11_empty_13 : decode cX11_empty 13 = .ok (.iconst (-1), 1) := by decide +kernel
theorem dX11_empty_14 : decode cX11_empty 14 = .ok (.iastore, 1) := by decide +kernel
theorem dX11_empty_15 : decode cX11_empty 15 = .ok (.iinc 1 1, 3) := by decide +kernel
theorem dX11_empty_18 : decode cX11_empty 18 = .ok (.goto (-16), 3) := by decide +kernel
theorem dX11_empty_21 : decode cX11_empty 21 = .ok (.return_, 1) := by decide +kernel
set_option maxRecDepth 20000 in
theorem ggX11_draw_X11_empty : GoodIn wsX11_draw wsX11_empty := goodIn_r _ [8, 2, 34, 35, 36, 37, 38, 39, 40, 41, 42, 43, 44, 45, 46, 47, 48, 49, 50, 51, 52, 53, 54, 55] (by decide +kernel) (by decide +kernel)
set_option maxRecDepth 20000 in
theorem gX11_draw_X11_empty : GoodIn wsX11_draw (wsV RX11 113 RX11 yX11_empty wsX11_empty) := goodIn_app (goodIn_of _ (by decide +kernel)) ggX11_draw_X11_empty
set_option maxRecDepth 20000 in
theorem ggX11_draw_X11_cells : GoodIn wsX11_draw wsX11_cells := goodIn_r _ [12, 1, 34, 35, 36, 37, 38, 39, 40, 41, 42, 43, 44, 45, 46, 47, 48, 49, 50, 51, 52, 53, 54, 55] (by decide +kernel) (by decide +kernel)
set_option maxRecDepth 20000 in
theorem gX11_draw_X11_cells : GoodIn wsX11_draw (wsV RX11 57 RX11 yX11_cells wsX11_cells) := goodIn_app (goodIn_of _ (by decide +kernel)) ggX11_draw_X11_cells
set_option maxRecDepth 20000 in
theorem ggX11_draw_X11_countDraw : GoodIn wsX11_draw wsX11_countDraw := goodIn_r _ [16, 1, 17, 18, 19, 7, 20, 2, 9, 10, 11, 12, 21, 22, 23, 24, 25, 26, 34, 35, 36, 37, 38, 39, 40, 41, 42, 43, 44, 45, 46, 47, 48, 49, 50, 51, 52, 53, 54, 55] (by decide +kernel) (by decide +kernel)
set_option maxRecDepth 20000 in
theorem gX11_draw_X11_countDraw : GoodIn wsX11_draw (wsV RX11 116 RX11 yX11_countDraw wsX11_countDraw) := goodIn_app (goodIn_of _ (by decide +kernel)) ggX11_draw_X11_countDraw
set_option maxRecDepth 20000 in
theorem ggX11_draw_X11_below : GoodIn wsX11_draw wsX11_below := goodIn_r _ [30, 31, 32, 33, 34, 35, 36, 37, 38, 39, 40, 41, 42, 43, 44, 45, 46, 47, 48, 49, 50, 51, 52, 53, 54, 55] (by decide +kernel) (by decide +kernel)
set_option maxRecDepth 20000 in
theorem gX11_draw_X11_below : GoodIn wsX11_draw (wsV RX11 119 RX11 yX11_below wsX11_below) := goodIn_app (goodIn_of _ (by decide +kernel)) ggX11_draw_X11_below
set_option maxRecDepth 20000 in
theorem ggX11_draw_X11_mayDraw : GoodIn wsX11_draw wsX11_mayDraw := goodIn_r _ [20, 2, 9, 10, 11, 7, 12, 1, 21, 22, 23, 24, 25, 26, 34, 35, 36, 37, 38, 39, 40, 41, 42, 43, 44, 45, 46, 47, 48, 49, 50, 51, 52, 53, 54, 55] (by decide +kernel) (by decide +kernel)
set_option maxRecDepth 20000 in
theorem gX11_draw_X11_mayDraw : GoodIn wsX11_draw (wsV RX11 110 RX11 yX11_mayDraw wsX11_mayDraw) := goodIn_app (goodIn_of _ (by decide +kernel)) ggX11_draw_X11_mayDraw
theorem dX11_draw_0 : decode cX11_draw 0 = .ok (.iconst 0, 1) := by decide +kernel
theorem dX11_draw_1 : decode cX11_draw 1 = .ok (.istore_n 1, 1) := by decide +kernel
theorem dX11_draw_2 : decode cX11_draw 2 = .ok (.iconst 0, 1) := by decide +kernel
theorem dX11_draw_3 : decode cX11_draw 3 = .ok (.istore_n 2, 1) := by decide +kernel
theorem dX11_draw_4 : decode cX11_draw 4 = .ok (.aload_n 0, 1) := by decide +kernel
theorem dX11_draw_5 : decode cX11_draw 5 = .ok (.invokevirtual 113, 3) := by decide +kernel
theorem dX11_draw_8 : decode cX11_draw 8 = .ok (.iload_n 2, 1) := by decide +kernel
theorem dX11_draw_9 : decode cX11_draw 9 = .ok (.aload_n 0, 1) := by decide +kernel
theorem dX11_draw_10 : decode cX11_draw 10 = .ok (.invokevirtual 57, 3) := by decide +kernel
theorem dX11_draw_13 : decode cX11_draw 13 = .ok (.if_icmp .ge 168, 3) := by decide +kernel
theorem dX11_draw_16 : decode cX11_draw 16 = .ok (.iconst (-1), 1) := by decide +kernel
theorem dX11_draw_17 : decode cX11_draw 17 = .ok (.istore_n 3, 1) := by decide +kernel
theorem dX11_draw_18 : decode cX11_draw 18 = .ok (.aload_n 0, 1) := by decide +kernel
theorem dX11_draw_19 : decode cX11_draw 19 = .ok (.getfield 45, 3) := by decide +kernel
theorem dX11_draw_22 : decode cX11_draw 22 = .ok (.iconst 1, 1) := by decide +kernel
theorem dX11_draw_23 : decode cX11_draw 23 = .ok (.iadd, 1) := by decide +kernel
theorem dX11_draw_24 : decode cX11_draw 24 = .ok (.istore 4, 2) := by decide +kernel
theorem dX11_draw_26 : decode cX11_draw 26 = .ok (.iconst 0, 1) := by decide +kernel
theorem dX11_draw_27 : decode cX11_draw 27 = .ok (.istore 5, 2) := by decide +kernel
theorem dX11_draw_29 : decode cX11_draw 29 = .ok (.iload 5, 2) := by decide +kernel
theorem dX11_draw_31 : decode cX11_draw 31 = .ok (.aload_n 0, 1) := by decide +kernel
theorem dX11_draw_32 : decode cX11_draw 32 = .ok (.invokevirtual 57, 3) := by decide +kernel
theorem dX11_draw_35 : decode cX11_draw 35 = .ok (.if_icmp .ge 44, 3) := by decide +kernel
theorem dX11_draw_38 : decode cX11_draw 38 = .ok (.aload_n 0, 1) := by decide +kernel
theorem dX11_draw_39 : decode cX11_draw 39 = .ok (.getfield 30, 3) := by decide +kernel
theorem dX11_draw_42 : decode cX11_draw 42 = .ok (.iload 5, 2) := by decide +kernel
theorem dX11_draw_44 : decode cX11_draw 44 = .ok (.iaload, 1) := by decide +kernel
theorem dX11_draw_45 : decode cX11_draw 45 = .ok (.ifCond .ge 28, 3) := by decide +kernel
theorem dX11_draw_48 : decode cX11_draw 48 = .ok (.aload_n 0, 1) := by decide +kernel
theorem dX11_draw_49 : decode cX11_draw 49 = .ok (.iload 5, 2) := by decide +kernel
theorem dX11_draw_51 : decode cX11_draw 51 = .ok (.invokevirtual 116, 3) := by decide +kernel
theorem dX11_draw_54 : decode cX11_draw 54 = .ok (.iload 4, 2) := by decide +kernel
theorem dX11_draw_56 : decode cX11_draw 56 = .ok (.if_icmp .lt 6, 3) := by decide +kernel
theorem dX11_draw_59 : decode cX11_draw 59 = .ok (.goto 14, 3) := by decide +kernel
theorem dX11_draw_62 : decode cX11_draw 62 = .ok (.iload 5, 2) := by decide +kernel
theorem dX11_draw_64 : decode cX11_draw 64 = .ok (.istore_n 3, 1) := by decide +kernel
theorem dX11_draw_65 : decode cX11_draw 65 = .ok (.aload_n 0, 1) := by decide +kernel
theorem dX11_draw_66 : decode cX11_draw 66 = .ok (.iload 5, 2) := by decide +kernel
theorem dX11_draw_68 : decode cX11_draw 68 = .ok (.invokevirtual 116, 3) := by decide +kernel
theorem dX11_draw_71 : decode cX11_draw 71 = .ok (.istore 4, 2) := by decide +kernel
theorem dX11_draw_73 : decode cX11_draw 73 = .ok (.iinc 5 1, 3) := by decide +kernel
theorem dX11_draw_76 : decode cX11_draw 76 = .ok (.goto (-47), 3) := by decide +kernel
theorem dX11_draw_79 : decode cX11_draw 79 = .ok (.iload 4, 2) := by decide +kernel
theorem dX11_draw_81 : decode cX11_draw 81 = .ok (.ifCond .ne 34, 3) := by decide +kernel
theorem dX11_draw_84 : decode cX11_draw 84 = .ok (.iinc 1 1, 3) := by decide +kernel
theorem dX11_draw_87 : decode cX11_draw 87 = .ok (.aload_n 0, 1) := by decide +kernel
theorem dX11_draw_88 : decode cX11_draw 88 = .ok (.getfield 18, 3) := by decide +kernel
theorem dX11_draw_91 : decode cX11_draw 91 = .ok (.iconst 1, 1) := by decide +kernel
theorem dX11_draw_92 : decode cX11_draw 92 = .ok (.dup2, 1) := by decide +kernel
theorem dX11_draw_93 : decode cX11_draw 93 = .ok (.iaload, 1) := by decide +kernel
theorem dX11_draw_94 : decode cX11_draw 94 = .ok (.iconst 1, 1) := by decide +kernel
theorem dX11_draw_95 : decode cX11_draw 95 = .ok (.iadd, 1) := by decide +kernel
theorem dX11_draw_96 : decode cX11_draw 96 = .ok (.iastore, 1) := by decide +kernel
theorem dX11_draw_97 : decode cX11_draw 97 = .ok (.iload_n 1, 1) := by decide +kernel
theorem dX11_draw_98 : decode cX11_draw 98 = .ok (.sipush 200, 3) := by decide +kernel
theorem dX11_draw_101 : decode cX11_draw 101 = .ok (.if_icmp .ne 5, 3) := by decide +kernel
theorem dX11_draw_104 : decode cX11_draw 104 = .ok (.iconst 0, 1) := by decide +kernel
theorem dX11_draw_105 : decode cX11_draw 105 = .ok (.ireturn, 1) := by decide +kernel
theorem dX11_draw_106 : decode cX11_draw 106 = .ok (.aload_n 0, 1) := by decide +kernel
theorem dX11_draw_107 : decode cX11_draw 107 = .ok (.invokevirtual 113, 3) := by decide +kernel
theorem dX11_draw_110 : decode cX11_draw 110 = .ok (.iconst 0, 1) := by decide +kernel
theorem dX11_draw_111 : decode cX11_draw 111 = .ok (.istore_n 2, 1) := by decide +kernel
theorem dX11_draw_112 : decode cX11_draw 112 = .ok (.goto (-104), 3) := by decide +kernel
theorem dX11_draw_115 : decode cX11_draw 115 = .ok (.aload_n 0, 1) := by decide +kernel
theorem dX11_draw_116 : decode cX11_draw 116 = .ok (.iload 4, 2) := by decide +kernel
theorem dX11_draw_118 : decode cX11_draw 118 = .ok (.invokevirtual 119, 3) := by decide +kernel
theorem dX11_draw_121 : decode cX11_draw 121 = .ok (.istore 5, 2) := by decide +kernel
theorem dX11_draw_123 : decode cX11_draw 123 = .ok (.iconst 0, 1) := by decide +kernel
theorem dX11_draw_124 : decode cX11_draw 124 = .ok (.istore 6, 2) := by decide +kernel
theorem dX11_draw_126 : decode cX11_draw 126 = .ok (.aload_n 0, 1) := by decide +kernel
theorem dX11_draw_127 : decode cX11_draw 127 = .ok (.iload_n 3, 1) := by decide +kernel
theorem dX11_draw_128 : decode cX11_draw 128 = .ok (.iload 6, 2) := by decide +kernel
theorem dX11_draw_130 : decode cX11_draw 130 = .ok (.invokevirtual 110, 3) := by decide +kernel
theorem dX11_draw_133 : decode cX11_draw 133 = .ok (.ifCond .eq 8, 3) := by decide +kernel
theorem dX11_draw_136 : decode cX11_draw 136 = .ok (.iload 5, 2) := by decide +kernel
theorem dX11_draw_138 : decode cX11_draw 138 = .ok (.ifCond .le 29, 3) := by decide +kernel
theorem dX11_draw_141 : decode cX11_draw 141 = .ok (.iload 5, 2) := by decide +kernel
theorem dX11_draw_143 : decode cX11_draw 143 = .ok (.aload_n 0, 1) := by decide +kernel
theorem dX11_draw_144 : decode cX11_draw 144 = .ok (.iload_n 3, 1) := by decide +kernel
theorem dX11_draw_145 : decode cX11_draw 145 = .ok (.iload 6, 2) := by decide +kernel
theorem dX11_draw_147 : decode cX11_draw 147 = .ok (.invokevirtual 110, 3) := by decide +kernel
theorem dX11_draw_150 : decode cX11_draw 150 = .ok (.ifCond .eq 7, 3) := by decide +kernel
theorem dX11_draw_153 : decode cX11_draw 153 = .ok (.iconst 1, 1) := by decide +kernel
theorem dX11_draw_154 : decode cX11_draw 154 = .ok (.goto 4, 3) := by decide +kernel
theorem dX11_draw_157 : decode cX11_draw 157 = .ok (.iconst 0, 1) := by decide +kernel
theorem dX11_draw_158 : decode cX11_draw 158 = .ok (.isub, 1) := by decide +kernel
theorem dX11_draw_159 : decode cX11_draw 159 = .ok (.istore 5, 2) := by decide +kernel
theorem dX11_draw_161 : decode cX11_draw 161 = .ok (.iinc 6 1, 3) := by decide +kernel
theorem dX11_draw_164 : decode cX11_draw 164 = .ok (.goto (-38), 3) := by decide +kernel
theorem dX11_draw_167 : decode cX11_draw 167 = .ok (.aload_n 0, 1) := by decide +kernel
theorem dX11_draw_168 : decode cX11_draw 168 = .ok (.getfield 30, 3) := by decide +kernel
theorem dX11_draw_171 : decode cX11_draw 171 = .ok (.iload_n 3, 1) := by decide +kernel
theorem dX11_draw_172 : decode cX11_draw 172 = .ok (.iload 6, 2) := by decide +kernel
theorem dX11_draw_174 : decode cX11_draw 174 = .ok (.iastore, 1) := by decide +kernel
theorem dX11_draw_175 : decode cX11_draw 175 = .ok (.iinc 2 1, 3) := by decide +kernel
theorem dX11_draw_178 : decode cX11_draw 178 = .ok (.goto (-170), 3) := by decide +kernel
theorem dX11_draw_181 : decode cX11_draw 181 = .ok (.iconst 1, 1) := by decide +kernel
theorem dX11_draw_182 : decode cX11_draw 182 = .ok (.ireturn, 1) := by decide +kernel
set_option maxRecDepth 20000 in
theorem ggX11_countGivens_X11_cells : GoodIn wsX11_countGivens wsX11_cells := goodIn_r _ [6, 7, 8, 9, 10, 11, 12, 13, 14, 15, 16, 17, 18, 19, 20, 21, 22, 23, 24, 25, 26, 27, 28, 29] (by decide +kernel) (by decide +kernel)
set_option maxRecDepth 20000 in
theorem gX11_countGivens_X11_cells : GoodIn wsX11_countGivens (wsV RX11 57 RX11 yX11_cells wsX11_cells) := goodIn_app (goodIn_of _ (by decide +kernel)) ggX11_countGivens_X11_cells
theorem dX11_countGivens_0 : decode cX11_countGivens 0 = .ok (.iconst 0, 1) := by decide +kernel
theorem dX11_countGivens_1 : decode cX11_countGivens 1 = .ok (.istore_n 1, 1) := by decide +kernel
theorem dX11_countGivens_2 : decode cX11_countGivens 2 = .ok (.iconst 0, 1) := by decide +kernel
theorem dX11_countGivens_3 : decode cX11_countGivens 3 = .ok (.istore_n 2, 1) := by decide +kernel
theorem dX11_countGivens_4 : decode cX11_countGivens 4 = .ok (.iload_n 2, 1) := by decide +kernel
theorem dX11_countGivens_5 : decode cX11_countGivens 5 = .ok (.aload_n 0, 1) := by decide +kernel
theorem dX11_countGivens_6 : decode cX11_countGivens 6 = .ok (.invokevirtual 57, 3) := by decide +kernel
theorem dX11_countGivens_9 : decode cX11_countGivens 9 = .ok (.if_icmp .ge 26, 3) := by decide +kernel
theorem dX11_countGivens_12 : decode cX11_countGivens 12 = .ok (.iload_n 1, 1) := by decide +kernel
theorem dX11_countGivens_13 : decode cX11_countGivens 13 = .ok (.aload_n 0, 1) := by decide +kernel
theorem dX11_countGivens_14 : decode cX11_countGivens 14 = .ok (.getfield 27, 3) := by decide +kernel
theorem dX11_countGivens_17 : decode cX11_countGivens 17 = .ok (.iload_n 2, 1) := by decide +kernel
theorem dX11_countGivens_18 : decode cX11_countGivens 18 = .ok (.iaload, 1) := by decide +kernel
theorem dX11_countGivens_19 : decode cX11_countGivens 19 = .ok (.ifCond .lt 7, 3) := by decide +kernel
theorem dX11_countGivens_22 : decode cX11_countGivens 22 = .ok (.iconst 1, 1) := by decide +kernel
theorem dX11_countGivens_23 : decode cX11_countGivens 23 = .ok (.goto 4, 3) := by decide +kernel
theorem dX11_countGivens_26 : decode cX11_countGivens 26 = .ok (.iconst 0, 1) := by decide +kernel
theorem dX11_countGivens_27 : decode cX11_countGivens 27 = .ok (.iadd, 1) := by decide +kernel
theorem dX11_countGivens_28 : decode cX11_countGivens 28 = .ok (.istore_n 1, 1) := by decide +kernel
theorem dX11_countGivens_29 : decode cX11_countGivens 29 = .ok (.iinc 2 1, 3) := by decide +kernel
theorem dX11_countGivens_32 : decode cX11_countGivens 32 = .ok (.goto (-28), 3) := by decide +kernel
theorem dX11_countGivens_35 : decode cX11_countGivens 35 = .ok (.iload_n 1, 1) := by decide +kernel
theorem dX11_countGivens_36 : decode cX11_countGivens 36 = .ok (.ireturn, 1) := by decide +kernel
set_option maxRecDepth 20000 in
theorem ggX11_isGood_X11_draw : GoodIn wsX11_isGood wsX11_draw := goodIn_r _ [13, 14, 2, 5, 15, 16, 17, 12, 18, 19, 20, 21, 22, 23, 24, 25, 26, 27, 28, 29, 30, 31, 32, 33, 34, 35, 36, 37, 38, 39, 40, 41, 42, 43, 96, 97, 98, 99, 100, 101, 102, 103, 104, 105, 106, 107, 108, 109, 110, 111, 112, 113, 114, 115, 116, 117] (by decide +kernel) (by decide +kernel)
set_option maxRecDepth 20000 in
theorem gX11_isGood_X11_draw : GoodIn wsX11_isGood (wsV RX11 122 RX11 yX11_draw wsX11_draw) := goodIn_app (goodIn_of _ (by decide +kernel)) ggX11_isGood_X11_draw
set_option maxRecDepth 20000 in
theorem ggX11_isGood_X11_cells : GoodIn wsX11_isGood wsX11_cells := goodIn_r _ [22, 14, 96, 97, 98, 99, 100, 101, 102, 103, 104, 105, 106, 107, 108, 109, 110, 111, 112, 113, 114, 115, 116, 117] (by decide +kernel) (by decide +kernel)
set_option maxRecDepth 20000 in
theorem gX11_isGood_X11_cells : GoodIn wsX11_isGood (wsV RX11 57 RX11 yX11_cells wsX11_cells) := goodIn_app (goodIn_of _ (by decide +kernel)) ggX11_isGood_X11_cells
set_option maxRecDepth 20000 in
theorem ggX11_isGood_X11_leastOf : GoodIn wsX11_isGood wsX11_leastOf := goodIn_r _ [47, 48, 49, 50, 12, 51, 14, 52, 96, 97, 98, 99, 100, 101, 102, 103, 104, 105, 106, 107, 108, 109, 110, 111, 112, 113, 114, 115, 116, 117] (by decide +kernel) (by decide +kernel)
set_option maxRecDepth 20000 in
theorem gX11_isGood_X11_leastOf : GoodIn wsX11_isGood (wsV RX11 82 RX11 yX11_leastOf wsX11_leastOf) := goodIn_app (goodIn_of _ (by decide +kernel)) ggX11_isGood_X11_leastOf
set_option maxRecDepth 20000 in
theorem ggX11_isGood_X11_hasTheme : GoodIn wsX11_isGood wsX11_hasTheme := goodIn_r _ [56, 57, 19, 20, 21, 12, 22, 14, 44, 45, 46, 47, 48, 49, 50, 51, 52, 96, 97, 98, 99, 100, 101, 102, 103, 104, 105, 106, 107, 108, 109, 110, 111, 112, 113, 114, 115, 116, 117] (by decide +kernel) (by decide +kernel)
set_option maxRecDepth 20000 in
theorem gX11_isGood_X11_hasTheme : GoodIn wsX11_isGood (wsV RX11 129 RX11 yX11_hasTheme wsX11_hasTheme) := goodIn_app (goodIn_of _ (by decide +kernel)) ggX11_isGood_X11_hasTheme
set_option maxRecDepth 20000 in
theorem ggX11_isGood_X11_takeOut : GoodIn wsX11_isGood wsX11_takeOut := goodIn_r _ [61, 1, 19, 20, 21, 12, 22, 14, 44, 45, 46, 47, 48, 49, 50, 51, 52, 96, 97, 98, 99, 100, 101, 102, 103, 104, 105, 106, 107, 108, 109, 110, 111, 112, 113, 114, 115, 116, 117] (by decide +kernel) (by decide +kernel)
set_option maxRecDepth 20000 in
theorem gX11_isGood_X11_takeOut : GoodIn wsX11_isGood (wsV RX11 132 RX11 yX11_takeOut wsX11_takeOut) := goodIn_app (goodIn_of _ (by decide +kernel)) ggX11_isGood_X11_takeOut
set_option maxRecDepth 20000 in
theorem ggX11_isGood_X11_countUpTo : GoodIn wsX11_isGood wsX11_countUpTo := goodIn_r _ [65, 1, 14, 66, 19, 20, 21, 12, 22, 67, 68, 69, 70, 31, 32, 33, 34, 35, 36, 96, 97, 98, 99, 100, 101, 102, 103, 104, 105, 106, 107, 108, 109, 110, 111, 112, 113, 114, 115, 116, 117] (by decide +kernel) (by decide +kernel)
set_option maxRecDepth 20000 in
theorem gX11_isGood_X11_countUpTo : GoodIn wsX11_isGood (wsV RX11 136 RX11 yX11_countUpTo wsX11_countUpTo) := goodIn_app (goodIn_of _ (by decide +kernel)) ggX11_isGood_X11_countUpTo
set_option maxRecDepth 20000 in
theorem ggX11_isGood_X11_below : GoodIn wsX11_isGood wsX11_below := goodIn_r _ [40, 41, 42, 43, 96, 97, 98, 99, 100, 101, 102, 103, 104, 105, 106, 107, 108, 109, 110, 111, 112, 113, 114, 115, 116, 117] (by decide +kernel) (by decide +kernel)
set_option maxRecDepth 20000 in
theorem gX11_isGood_X11_below : GoodIn wsX11_isGood (wsV RX11 119 RX11 yX11_below wsX11_below) := goodIn_app (goodIn_of _ (by decide +kernel)) ggX11_isGood_X11_below
set_option maxRecDepth 20000 in
theorem ggX11_isGood_X11_putBack : GoodIn wsX11_isGood wsX11_putBack := goodIn_r _ [74, 1, 2, 19, 20, 21, 12, 22, 14, 44, 45, 46, 47, 48, 49, 50, 51, 52, 96, 97, 98, 99, 100, 101, 102, 103, 104, 105, 106, 107, 108, 109, 110, 111, 112, 113, 114, 115, 116, 117] (by decide +kernel) (by decide +kernel)
set_option maxRecDepth 20000 in
theorem gX11_isGood_X11_putBack : GoodIn wsX11_isGood (wsV RX11 139 RX11 yX11_putBack wsX11_putBack) := goodIn_app (goodIn_of _ (by decide +kernel)) ggX11_isGood_X11_putBack
set_option maxRecDepth 20000 in
theorem ggX11_isGood_X11_countGivens : GoodIn wsX11_isGood wsX11_countGivens := goodIn_r _ [78, 1, 19, 20, 21, 12, 22, 14, 96, 97, 98, 99, 100, 101, 102, 103, 104, 105, 106, 107, 108, 109, 110, 111, 112, 113, 114, 115, 116, 117] (by decide +kernel) (by decide +kernel)
set_option maxRecDepth 20000 in
theorem gX11_isGood_X11_countGivens : GoodIn wsX11_isGood (wsV RX11 142 RX11 yX11_countGivens wsX11_countGivens) := goodIn_app (goodIn_of _ (by decide +kernel)) ggX11_isGood_X11_countGivens
set_option maxRecDepth 20000 in
theorem ggX11_isGood_X11_countLeft : GoodIn wsX11_isGood wsX11_countLeft := goodIn_r _ [82, 83, 1, 14, 19, 20, 21, 12, 22, 84, 85, 86, 87, 31, 32, 33, 34, 35, 36, 88, 89, 90, 91, 92, 93, 94, 95, 96, 97, 98, 99, 100, 101, 102, 103, 104, 105, 106, 107, 108, 109, 110, 111, 112, 113, 114, 115, 116, 117] (by decide +kernel) (by decide +kernel)
set_option maxRecDepth 20000 in
theorem gX11_isGood_X11_countLeft : GoodIn wsX11_isGood (wsV RX11 145 RX11 yX11_countLeft wsX11_countLeft) := goodIn_app (goodIn_of _ (by decide +kernel)) ggX11_isGood_X11_countLeft
theorem dX11_isGood_0 : decode cX11_isGood 0 = .ok (.aload_n 0, 1) := by decide +kernel
theorem dX11_isGood_1 : decode cX11_isGood 1 = .ok (.invokevirtual 122, 3) := by decide +kernel
theorem dX11_isGood_4 : decode cX11_isGood 4 = .ok (.ifCond .ne 5, 3) := by decide +kernel
theorem dX11_isGood_7 : decode cX11_isGood 7 = .ok (.iconst 0, 1) := by decide +kernel
theorem dX11_isGood_8 : decode cX11_isGood 8 = .ok (.ireturn, 1) := by decide +kernel
theorem dX11_isGood_9 : decode cX11_isGood 9 = .ok (.iconst 0, 1) := by decide +kernel
theorem dX11_isGood_10 : decode cX11_isGood 10 = .ok (.istore_n 1, 1) := by decide +kernel
theorem dX11_isGood_11 : decode cX11_isGood 11 = .ok (.iload_n 1, 1) := by decide +kernel
theorem dX11_isGood_12 : decode cX11_isGood 12 = .ok (.bipush 36, 2) := by decide +kernel
theorem dX11_isGood_14 : decode cX11_isGood 14 = .ok (.if_icmp .ge 21, 3) := by decide +kernel
theorem dX11_isGood_17 : decode cX11_isGood 17 = .ok (.aload_n 0, 1) := by decide +kernel
theorem dX11_isGood_18 : decode cX11_isGood 18 = .ok (.getfield 27, 3) := by decide +kernel
theorem dX11_isGood_21 : decode cX11_isGood 21 = .ok (.iload_n 1, 1) := by decide +kernel
theorem dX11_isGood_22 : decode cX11_isGood 22 = .ok (.aload_n 0, 1) := by decide +kernel
theorem dX11_isGood_23 : decode cX11_isGood 23 = .ok (.getfield 30, 3) := by decide +kernel
theorem dX11_isGood_26 : decode cX11_isGood 26 = .ok (.iload_n 1, 1) := by decide +kernel
theorem dX11_isGood_27 : decode cX11_isGood 27 = .ok (.iaload, 1) := by decide +kernel
theorem dX11_isGood_28 : decode cX11_isGood 28 = .ok (.iastore, 1) := by decide +kernel
theorem dX11_isGood_29 : decode cX11_isGood 29 = .ok (.iinc 1 1, 3) := by decide +kernel
theorem dX11_isGood_32 : decode cX11_isGood 32 = .ok (.goto (-21), 3) := by decide +kernel
theorem dX11_isGood_35 : decode cX11_isGood 35 = .ok (.iconst 0, 1) := by decide +kernel
theorem dX11_isGood_36 : decode cX11_isGood 36 = .ok (.istore_n 1, 1) := by decide +kernel
theorem dX11_isGood_37 : decode cX11_isGood 37 = .ok (.aload_n 0, 1) := by decide +kernel
theorem dX11_isGood_38 : decode cX11_isGood 38 = .ok (.iconst 0, 1) := by decide +kernel
theorem dX11_isGood_39 : decode cX11_isGood 39 = .ok (.putfield 126, 3) := by decide +kernel
theorem dX11_isGood_42 : decode cX11_isGood 42 = .ok (.iconst 0, 1) := by decide +kernel
theorem dX11_isGood_43 : decode cX11_isGood 43 = .ok (.istore_n 2, 1) := by decide +kernel
theorem dX11_isGood_44 : decode cX11_isGood 44 = .ok (.iload_n 2, 1) := by decide +kernel
theorem dX11_isGood_45 : decode cX11_isGood 45 = .ok (.aload_n 0, 1) := by decide +kernel
theorem dX11_isGood_46 : decode cX11_isGood 46 = .ok (.invokevirtual 57, 3) := by decide +kernel
theorem dX11_isGood_49 : decode cX11_isGood 49 = .ok (.if_icmp .ge 83, 3) := by decide +kernel
theorem dX11_isGood_52 : decode cX11_isGood 52 = .ok (.aload_n 0, 1) := by decide +kernel
theorem dX11_isGood_53 : decode cX11_isGood 53 = .ok (.iload_n 2, 1) := by decide +kernel
theorem dX11_isGood_54 : decode cX11_isGood 54 = .ok (.invokevirtual 82, 3) := by decide +kernel
theorem dX11_isGood_57 : decode cX11_isGood 57 = .ok (.iload_n 2, 1) := by decide +kernel
theorem dX11_isGood_58 : decode cX11_isGood 58 = .ok (.if_icmp .eq 6, 3) := by decide +kernel
theorem dX11_isGood_61 : decode cX11_isGood 61 = .ok (.goto 65, 3) := by decide +kernel
theorem dX11_isGood_64 : decode cX11_isGood 64 = .ok (.aload_n 0, 1) := by decide +kernel
theorem dX11_isGood_65 : decode cX11_isGood 65 = .ok (.iload_n 2, 1) := by decide +kernel
theorem dX11_isGood_66 : decode cX11_isGood 66 = .ok (.iconst 1, 1) := by decide +kernel
theorem dX11_isGood_67 : decode cX11_isGood 67 = .ok (.invokevirtual 129, 3) := by decide +kernel
theorem dX11_isGood_70 : decode cX11_isGood 70 = .ok (.istore_n 3, 1) := by decide +kernel
theorem dX11_isGood_71 : decode cX11_isGood 71 = .ok (.aload_n 0, 1) := by decide +kernel
theorem dX11_isGood_72 : decode cX11_isGood 72 = .ok (.iload_n 2, 1) := by decide +kernel
theorem dX11_isGood_73 : decode cX11_isGood 73 = .ok (.iconst 2, 1) := by decide +kernel
theorem dX11_isGood_74 : decode cX11_isGood 74 = .ok (.invokevirtual 129, 3) := by decide +kernel
theorem dX11_isGood_77 : decode cX11_isGood 77 = .ok (.ifCond .eq 25, 3) := by decide +kernel
theorem dX11_isGood_80 : decode cX11_isGood 80 = .ok (.iload_n 1, 1) := by decide +kernel
theorem dX11_isGood_81 : decode cX11_isGood 81 = .ok (.ifCond .ne 7, 3) := by decide +kernel
theorem dX11_isGood_84 : decode cX11_isGood 84 = .ok (.iload_n 3, 1) := by decide +kernel
theorem dX11_isGood_85 : decode cX11_isGood 85 = .ok (.ifCond .eq 7, 3) := by decide +kernel
theorem dX11_isGood_88 : decode cX11_isGood 88 = .ok (.iconst 1, 1) := by decide +kernel
theorem dX11_isGood_89 : decode cX11_isGood 89 = .ok (.goto 4, 3) := by decide +kernel
theorem dX11_isGood_92 : decode cX11_isGood 92 = .ok (.iconst 0, 1) := by decide +kernel
theorem dX11_isGood_93 : decode cX11_isGood 93 = .ok (.istore_n 1, 1) := by decide +kernel
theorem dX11_isGood_94 : decode cX11_isGood 94 = .ok (.aload_n 0, 1) := by decide +kernel
theorem dX11_isGood_95 : decode cX11_isGood 95 = .ok (.iload_n 2, 1) := by decide +kernel
theorem dX11_isGood_96 : decode cX11_isGood 96 = .ok (.invokevirtual 132, 3) := by decide +kernel
theorem dX11_isGood_99 : decode cX11_isGood 99 = .ok (.goto 27, 3) := by decide +kernel
theorem dX11_isGood_102 : decode cX11_isGood 102 = .ok (.iload_n 3, 1) := by decide +kernel
theorem dX11_isGood_103 : decode cX11_isGood 103 = .ok (.ifCond .ne 23, 3) := by decide +kernel
theorem dX11_isGood_106 : decode cX11_isGood 106 = .ok (.aload_n 0, 1) := by decide +kernel
theorem dX11_isGood_107 : decode cX11_isGood 107 = .ok (.getfield 39, 3) := by decide +kernel
theorem dX11_isGood_110 : decode cX11_isGood 110 = .ok (.aload_n 0, 1) := by decide +kernel
theorem dX11_isGood_111 : decode cX11_isGood 111 = .ok (.getfield 126, 3) := by decide +kernel
theorem dX11_isGood_114 : decode cX11_isGood 114 = .ok (.iload_n 2, 1) := by decide +kernel
theorem dX11_isGood_115 : decode cX11_isGood 115 = .ok (.iastore, 1) := by decide +kernel
theorem dX11_isGood_116 : decode cX11_isGood 116 = .ok (.aload_n 0, 1) := by decide +kernel
theorem dX11_isGood_117 : decode cX11_isGood 117 = .ok (.dup, 1) := by decide +kernel
theorem dX11_isGood_118 : decode cX11_isGood 118 = .ok (.getfield 126, 3) := by decide +kernel
theorem dX11_isGood_121 : decode cX11_isGood 121 = .ok (.iconst 1, 1) := by decide +kernel
theorem dX11_isGood_122 : decode cX11_isGood 122 = .ok (.iadd, 1) := by decide +kernel
theorem dX11_isGood_123 : decode cX11_isGood 123 = .ok (.putfield 126, 3) := by decide +kernel
theorem dX11_isGood_126 : decode cX11_isGood 126 = .ok (.iinc 2 1, 3) := by decide +kernel
theorem dX11_isGood_129 : decode cX11_isGood 129 = .ok (.goto (-85), 3) := by decide +kernel
theorem dX11_isGood_132 : decode cX11_isGood 132 = .ok (.iload_n 1, 1) := by decide +kernel
theorem dX11_isGood_133 : decode cX11_isGood 133 = .ok (.ifCond .ne 12, 3) := by decide +kernel
theorem dX11_isGood_136 : decode cX11_isGood 136 = .ok (.aload_n 0, 1) := by decide +kernel
theorem dX11_isGood_137 : decode cX11_isGood 137 = .ok (.iconst 2, 1) := by decide +kernel
theorem dX11_isGood_138 : decode cX11_isGood 138 = .ok (.invokevirtual 136, 3) := by decide +kernel
theorem dX11_isGood_141 : decode cX11_isGood 141 = .ok (.iconst 1, 1) := by decide +kernel
theorem dX11_isGood_142 : decode cX11_isGood 142 = .ok (.if_icmp .le 5, 3) := by decide +kernel
theorem dX11_isGood_145 : decode cX11_isGood 145 = .ok (.iconst 0, 1) := by decide +kernel
theorem dX11_isGood_146 : decode cX11_isGood 146 = .ok (.ireturn, 1) := by decide +kernel
theorem dX11_isGood_147 : decode cX11_isGood 147 = .ok (.aload_n 0, 1) := by decide +kernel
theorem dX11_isGood_148 : decode cX11_isGood 148 = .ok (.getfield 126, 3) := by decide +kernel
theorem dX11_isGood_151 : decode cX11_isGood 151 = .ok (.iconst 1, 1) := by decide +kernel
theorem dX11_isGood_152 : decode cX11_isGood 152 = .ok (.isub, 1) := by decide +kernel
theorem dX11_isGood_153 : decode cX11_isGood 153 = .ok (.istore_n 2, 1) := by decide +kernel
theorem dX11_isGood_154 : decode cX11_isGood 154 = .ok (.iload_n 2, 1) := by decide +kernel
theorem dX11_isGood_155 : decode cX11_isGood 155 = .ok (.ifCond .le 45, 3) := by decide +kernel
theorem dX11_isGood_158 : decode cX11_isGood 158 = .ok (.aload_n 0, 1) := by decide +kernel
theorem dX11_isGood_159 : decode cX11_isGood 159 = .ok (.iload_n 2, 1) := by decide +kernel
theorem dX11_isGood_160 : decode cX11_isGood 160 = .ok (.iconst 1, 1) := by decide +kernel
theorem dX11_isGood_161 : decode cX11_isGood 161 = .ok (.iadd, 1) := by decide +kernel
theorem dX11_isGood_162 : decode cX11_isGood 162 = .ok (.invokevirtual 119, 3) := by decide +kernel
theorem dX11_isGood_165 : decode cX11_isGood 165 = .ok (.istore_n 3, 1) := by decide +kernel
theorem dX11_isGood_166 : decode cX11_isGood 166 = .ok (.aload_n 0, 1) := by decide +kernel
theorem dX11_isGood_167 : decode cX11_isGood 167 = .ok (.getfield 39, 3) := by decide +kernel
theorem dX11_isGood_170 : decode cX11_isGood 170 = .ok (.iload_n 2, 1) := by decide +kernel
theorem dX11_isGood_171 : decode cX11_isGood 171 = .ok (.iaload, 1) := by decide +kernel
theorem dX11_isGood_172 : decode cX11_isGood 172 = .ok (.istore 4, 2) := by decide +kernel
theorem dX11_isGood_174 : decode cX11_isGood 174 = .ok (.aload_n 0, 1) := by decide +kernel
theorem dX11_isGood_175 : decode cX11_isGood 175 = .ok (.getfield 39, 3) := by decide +kernel
theorem dX11_isGood_178 : decode cX11_isGood 178 = .ok (.iload_n 2, 1) := by decide +kernel
theorem dX11_isGood_179 : decode cX11_isGood 179 = .ok (.aload_n 0, 1) := by decide +kernel
theorem dX11_isGood_180 : decode cX11_isGood 180 = .ok (.getfield 39, 3) := by decide +kernel
theorem dX11_isGood_183 : decode cX11_isGood 183 = .ok (.iload_n 3, 1) := by decide +kernel
theorem dX11_isGood_184 : decode cX11_isGood 184 = .ok (.iaload, 1) := by decide +kernel
theorem dX11_isGood_185 : decode cX11_isGood 185 = .ok (.iastore, 1) := by decide +kernel
theorem dX11_isGood_186 : decode cX11_isGood 186 = .ok (.aload_n 0, 1) := by decide +kernel
theorem dX11_isGood_187 : decode cX11_isGood 187 = .ok (.getfield 39, 3) := by decide +kernel
theorem dX11_isGood_190 : decode cX11_isGood 190 = .ok (.iload_n 3, 1) := by decide +kernel
theorem dX11_isGood_191 : decode cX11_isGood 191 = .ok (.iload 4, 2) := by decide +kernel
theorem dX11_isGood_193 : decode cX11_isGood 193 = .ok (.iastore, 1) := by decide +kernel
theorem dX11_isGood_194 : decode cX11_isGood 194 = .ok (.iinc 2 (-1), 3) := by decide +kernel
theorem dX11_isGood_197 : decode cX11_isGood 197 = .ok (.goto (-43), 3) := by decide +kernel
theorem dX11_isGood_200 : decode cX11_isGood 200 = .ok (.iconst 0, 1) := by decide +kernel
theorem dX11_isGood_201 : decode cX11_isGood 201 = .ok (.istore_n 2, 1) := by decide +kernel
theorem dX11_isGood_202 : decode cX11_isGood 202 = .ok (.iload_n 2, 1) := by decide +kernel
theorem dX11_isGood_203 : decode cX11_isGood 203 = .ok (.aload_n 0, 1) := by decide +kernel
theorem dX11_isGood_204 : decode cX11_isGood 204 = .ok (.getfield 126, 3) := by decide +kernel
theorem dX11_isGood_207 : decode cX11_isGood 207 = .ok (.if_icmp .ge 61, 3) := by decide +kernel
theorem dX11_isGood_210 : decode cX11_isGood 210 = .ok (.aload_n 0, 1) := by decide +kernel
theorem dX11_isGood_211 : decode cX11_isGood 211 = .ok (.aload_n 0, 1) := by decide +kernel
theorem dX11_isGood_212 : decode cX11_isGood 212 = .ok (.getfield 39, 3) := by decide +kernel
theorem dX11_isGood_215 : decode cX11_isGood 215 = .ok (.iload_n 2, 1) := by decide +kernel
theorem dX11_isGood_216 : decode cX11_isGood 216 = .ok (.iaload, 1) := by decide +kernel
theorem dX11_isGood_217 : decode cX11_isGood 217 = .ok (.invokevirtual 132, 3) := by decide +kernel
theorem dX11_isGood_220 : decode cX11_isGood 220 = .ok (.aload_n 0, 1) := by decide +kernel
theorem dX11_isGood_221 : decode cX11_isGood 221 = .ok (.getfield 18, 3) := by decide +kernel
theorem dX11_isGood_224 : decode cX11_isGood 224 = .ok (.iconst 2, 1) := by decide +kernel
theorem dX11_isGood_225 : decode cX11_isGood 225 = .ok (.dup2, 1) := by decide +kernel
theorem dX11_isGood_226 : decode cX11_isGood 226 = .ok (.iaload, 1) := by decide +kernel
theorem dX11_isGood_227 : decode cX11_isGood 227 = .ok (.iconst 1, 1) := by decide +kernel
theorem dX11_isGood_228 : decode cX11_isGood 228 = .ok (.iadd, 1) := by decide +kernel
theorem dX11_isGood_229 : decode cX11_isGood 229 = .ok (.iastore, 1) := by decide +kernel
theorem dX11_isGood_230 : decode cX11_isGood 230 = .ok (.aload_n 0, 1) := by decide +kernel
theorem dX11_isGood_231 : decode cX11_isGood 231 = .ok (.iconst 2, 1) := by decide +kernel
theorem dX11_isGood_232 : decode cX11_isGood 232 = .ok (.invokevirtual 136, 3) := by decide +kernel
theorem dX11_isGood_235 : decode cX11_isGood 235 = .ok (.iconst 2, 1) := by decide +kernel
theorem dX11_isGood_236 : decode cX11_isGood 236 = .ok (.if_icmp .ge 6, 3) := by decide +kernel
theorem dX11_isGood_239 : decode cX11_isGood 239 = .ok (.goto 23, 3) := by decide +kernel
theorem dX11_isGood_242 : decode cX11_isGood 242 = .ok (.aload_n 0, 1) := by decide +kernel
theorem dX11_isGood_243 : decode cX11_isGood 243 = .ok (.aload_n 0, 1) := by decide +kernel
theorem dX11_isGood_244 : decode cX11_isGood 244 = .ok (.getfield 39, 3) := by decide +kernel
theorem dX11_isGood_247 : decode cX11_isGood 247 = .ok (.iload_n 2, 1) := by decide +kernel
theorem dX11_isGood_248 : decode cX11_isGood 248 = .ok (.iaload, 1) := by decide +kernel
theorem dX11_isGood_249 : decode cX11_isGood 249 = .ok (.invokevirtual 139, 3) := by decide +kernel
theorem dX11_isGood_252 : decode cX11_isGood 252 = .ok (.aload_n 0, 1) := by decide +kernel
theorem dX11_isGood_253 : decode cX11_isGood 253 = .ok (.getfield 18, 3) := by decide +kernel
theorem dX11_isGood_256 : decode cX11_isGood 256 = .ok (.iconst 3, 1) := by decide +kernel
theorem dX11_isGood_257 : decode cX11_isGood 257 = .ok (.dup2, 1) := by decide +kernel
theorem dX11_isGood_258 : decode cX11_isGood 258 = .ok (.iaload, 1) := by decide +kernel
theorem dX11_isGood_259 : decode cX11_isGood 259 = .ok (.iconst 1, 1) := by decide +kernel
theorem dX11_isGood_260 : decode cX11_isGood 260 = .ok (.iadd, 1) := by decide +kernel
theorem dX11_isGood_261 : decode cX11_isGood 261 = .ok (.iastore, 1) := by decide +kernel
theorem dX11_isGood_262 : decode cX11_isGood 262 = .ok (.iinc 2 1, 3) := by decide +kernel
theorem dX11_isGood_265 : decode cX11_isGood 265 = .ok (.goto (-63), 3) := by decide +kernel
theorem dX11_isGood_268 : decode cX11_isGood 268 = .ok (.aload_n 0, 1) := by decide +kernel
theorem dX11_isGood_269 : decode cX11_isGood 269 = .ok (.invokevirtual 142, 3) := by decide +kernel
theorem dX11_isGood_272 : decode cX11_isGood 272 = .ok (.istore_n 2, 1) := by decide +kernel
theorem dX11_isGood_273 : decode cX11_isGood 273 = .ok (.aload_n 0, 1) := by decide +kernel
theorem dX11_isGood_274 : decode cX11_isGood 274 = .ok (.invokevirtual 145, 3) := by decide +kernel
theorem dX11_isGood_277 : decode cX11_isGood 277 = .ok (.ifCond .ne 7, 3) := by decide +kernel
theorem dX11_isGood_280 : decode cX11_isGood 280 = .ok (.iconst 1, 1) := by decide +kernel
theorem dX11_isGood_281 : decode cX11_isGood 281 = .ok (.goto 4, 3) := by decide +kernel
theorem dX11_isGood_284 : decode cX11_isGood 284 = .ok (.iconst 0, 1) := by decide +kernel
theorem dX11_isGood_285 : decode cX11_isGood 285 = .ok (.istore_n 3, 1) := by decide +kernel
theorem dX11_isGood_286 : decode cX11_isGood 286 = .ok (.iload_n 2, 1) := by decide +kernel
theorem dX11_isGood_287 : decode cX11_isGood 287 = .ok (.aload_n 0, 1) := by decide +kernel
theorem dX11_isGood_288 : decode cX11_isGood 288 = .ok (.getfield 75, 3) := by decide +kernel
theorem dX11_isGood_291 : decode cX11_isGood 291 = .ok (.if_icmp .lt 38, 3) := by decide +kernel
theorem dX11_isGood_294 : decode cX11_isGood 294 = .ok (.iload_n 2, 1) := by decide +kernel
theorem dX11_isGood_295 : decode cX11_isGood 295 = .ok (.aload_n 0, 1) := by decide +kernel
theorem dX11_isGood_296 : decode cX11_isGood 296 = .ok (.getfield 14, 3) := by decide +kernel
theorem dX11_isGood_299 : decode cX11_isGood 299 = .ok (.if_icmp .gt 30, 3) := by decide +kernel
theorem dX11_isGood_302 : decode cX11_isGood 302 = .ok (.aload_n 0, 1) := by decide +kernel
theorem dX11_isGood_303 : decode cX11_isGood 303 = .ok (.getfield 72, 3) := by decide +kernel
theorem dX11_isGood_306 : decode cX11_isGood 306 = .ok (.ifCond .eq 19, 3) := by decide +kernel
theorem dX11_isGood_309 : decode cX11_isGood 309 = .ok (.aload_n 0, 1) := by decide +kernel
theorem dX11_isGood_310 : decode cX11_isGood 310 = .ok (.getfield 72, 3) := by decide +kernel
theorem dX11_isGood_313 : decode cX11_isGood 313 = .ok (.iload_n 3, 1) := by decide +kernel
theorem dX11_isGood_314 : decode cX11_isGood 314 = .ok (.ifCond .eq 7, 3) := by decide +kernel
theorem dX11_isGood_317 : decode cX11_isGood 317 = .ok (.iconst 1, 1) := by decide +kernel
theorem dX11_isGood_318 : decode cX11_isGood 318 = .ok (.goto 4, 3) := by decide +kernel
theorem dX11_isGood_321 : decode cX11_isGood 321 = .ok (.iconst 2, 1) := by decide +kernel
theorem dX11_isGood_322 : decode cX11_isGood 322 = .ok (.if_icmp .ne 7, 3) := by decide +kernel
theorem dX11_isGood_325 : decode cX11_isGood 325 = .ok (.iconst 1, 1) := by decide +kernel
theorem dX11_isGood_326 : decode cX11_isGood 326 = .ok (.goto 4, 3) := by decide +kernel
theorem dX11_isGood_329 : decode cX11_isGood 329 = .ok (.iconst 0, 1) := by decide +kernel
theorem dX11_isGood_330 : decode cX11_isGood 330 = .ok (.ireturn, 1) := by decide +kernel
set_option maxRecDepth 20000 in
theorem ggX11_make_X11_isGood : GoodIn wsX11_make wsX11_isGood := goodIn_r _ [13, 6, 8, 14, 15, 3, 16, 17, 18, 19, 20, 21, 12, 22, 23, 24, 25, 26, 27, 28, 29, 30, 31, 32, 33, 34, 35, 36, 37, 38, 39, 40, 41, 42, 43, 44, 45, 46, 47, 48, 49, 2, 50, 51, 52, 53, 54, 55, 56, 57, 58, 59, 60, 61, 62, 63, 64, 65, 66, 67, 68, 69, 70, 71, 72, 73, 74, 75, 76, 77, 78, 79, 80, 81, 82, 83, 84, 85, 86, 87, 88, 89, 90, 91, 92, 93, 94, 95, 96, 97, 98, 99, 100, 101, 102, 103, 104, 105, 106, 107, 108, 109, 110, 111, 112, 113, 114, 115, 116, 117, 118, 119, 120, 121, 122, 123, 124, 125] (by decide +kernel) (by decide +kernel)
set_option maxRecDepth 20000 in
theorem gX11_make_X11_isGood : GoodIn wsX11_make (wsV RX11 152 RX11 yX11_isGood wsX11_isGood) := goodIn_app (goodIn_of _ (by decide +kernel)) ggX11_make_X11_isGood
set_option maxRecDepth 20000 in
theorem ggX11_make_X11_countGivens : GoodIn wsX11_make wsX11_countGivens := goodIn_r _ [86, 6, 28, 29, 30, 12, 31, 23, 104, 105, 106, 107, 108, 109, 110, 111, 112, 113, 114, 115, 116, 117, 118, 119, 120, 121, 122, 123, 124, 125] (by decide +kernel) (by decide +kernel)
set_option maxRecDepth 20000 in
theorem gX11_make_X11_countGivens : GoodIn wsX11_make (wsV RX11 142 RX11 yX11_countGivens wsX11_countGivens) := goodIn_app (goodIn_of _ (by decide +kernel)) ggX11_make_X11_countGivens
set_option maxRecDepth 20000 in
theorem ggX11_make_X11_countLeft : GoodIn wsX11_make wsX11_countLeft := goodIn_r _ [90, 91, 6, 23, 28, 29, 30, 12, 31, 92, 93, 94, 95, 40, 41, 42, 43, 44, 45, 96, 97, 98, 99, 100, 101, 102, 103, 104, 105, 106, 107, 108, 109, 110, 111, 112, 113, 114, 115, 116, 117, 118, 119, 120, 121, 122, 123, 124, 125] (by decide +kernel) (by decide +kernel)
set_option maxRecDepth 20000 in
theorem gX11_make_X11_countLeft : GoodIn wsX11_make (wsV RX11 145 RX11 yX11_countLeft wsX11_countLeft) := goodIn_app (goodIn_of _ (by decide +kernel)) ggX11_make_X11_countLeft
theorem dX11_make_0 : decode cX11_make 0 = .ok (.aload_n 0, 1) := by decide +kernel
theorem dX11_make_1 : decode cX11_make 1 = .ok (.iconst 0, 1) := by decide +kernel
theorem dX11_make_2 : decode cX11_make 2 = .ok (.putfield 54, 3) := by decide +kernel
theorem dX11_make_5 : decode cX11_make 5 = .ok (.iload_n 3, 1) := by decide +kernel
theorem dX11_make_6 : decode cX11_make 6 = .ok (.iconst 1, 1) := by decide +kernel
theorem dX11_make_7 : decode cX11_make 7 = .ok (.if_icmp .lt 9, 3) := by decide +kernel
theorem dX11_make_10 : decode cX11_make 10 = .ok (.iload_n 3, 1) := by decide +kernel
theorem dX11_make_11 : decode cX11_make 11 = .ok (.bipush 40, 2) := by decide +kernel
theorem dX11_make_13 : decode cX11_make 13 = .ok (.if_icmp .le 6, 3) := by decide +kernel
theorem dX11_make_16 : decode cX11_make 16 = .ok (.bipush (-2), 2) := by decide +kernel
theorem dX11_make_18 : decode cX11_make 18 = .ok (.ireturn, 1) := by decide +kernel
theorem dX11_make_19 : decode cX11_make 19 = .ok (.aload_n 0, 1) := by decide +kernel
theorem dX11_make_20 : decode cX11_make 20 = .ok (.lload_n 1, 1) := by decide +kernel
theorem dX11_make_21 : decode cX11_make 21 = .ok (.putfield 102, 3) := by decide +kernel
theorem dX11_make_24 : decode cX11_make 24 = .ok (.iconst 0, 1) := by decide +kernel
theorem dX11_make_25 : decode cX11_make 25 = .ok (.istore 4, 2) := by decide +kernel
theorem dX11_make_27 : decode cX11_make 27 = .ok (.iload 4, 2) := by decide +kernel
theorem dX11_make_29 : decode cX11_make 29 = .ok (.bipush 7, 2) := by decide +kernel
theorem dX11_make_31 : decode cX11_make 31 = .ok (.if_icmp .ge 17, 3) := by decide +kernel
theorem dX11_make_34 : decode cX11_make 34 = .ok (.aload_n 0, 1) := by decide +kernel
theorem dX11_make_35 : decode cX11_make 35 = .ok (.getfield 18, 3) := by decide +kernel
theorem dX11_make_38 : decode cX11_make 38 = .ok (.iload 4, 2) := by decide +kernel
theorem dX11_make_40 : decode cX11_make 40 = .ok (.iconst 0, 1) := by decide +kernel
theorem dX11_make_41 : decode cX11_make 41 = .ok (.iastore, 1) := by decide +kernel
theorem dX11_make_42 : decode cX11_make 42 = .ok (.iinc 4 1, 3) := by decide +kernel
theorem dX11_make_45 : decode cX11_make 45 = .ok (.goto (-18), 3) := by decide +kernel
theorem dX11_make_48 : decode cX11_make 48 = .ok (.aload_n 0, 1) := by decide +kernel
theorem dX11_make_49 : decode cX11_make 49 = .ok (.iconst 0, 1) := by decide +kernel
theorem dX11_make_50 : decode cX11_make 50 = .ok (.putfield 148, 3) := by decide +kernel
theorem dX11_make_53 : decode cX11_make 53 = .ok (.aload_n 0, 1) := by decide +kernel
theorem dX11_make_54 : decode cX11_make 54 = .ok (.getfield 148, 3) := by decide +kernel
theorem dX11_make_57 : decode cX11_make 57 = .ok (.ifCond .ne 34, 3) := by decide +kernel
theorem dX11_make_60 : decode cX11_make 60 = .ok (.aload_n 0, 1) := by decide +kernel
theorem dX11_make_61 : decode cX11_make 61 = .ok (.getfield 18, 3) := by decide +kernel
theorem dX11_make_64 : decode cX11_make 64 = .ok (.iconst 0, 1) := by decide +kernel
theorem dX11_make_65 : decode cX11_make 65 = .ok (.iaload, 1) := by decide +kernel
theorem dX11_make_66 : decode cX11_make 66 = .ok (.iload_n 3, 1) := by decide +kernel
theorem dX11_make_67 : decode cX11_make 67 = .ok (.if_icmp .ge 24, 3) := by decide +kernel
theorem dX11_make_70 : decode cX11_make 70 = .ok (.aload_n 0, 1) := by decide +kernel
theorem dX11_make_71 : decode cX11_make 71 = .ok (.getfield 18, 3) := by decide +kernel
theorem dX11_make_74 : decode cX11_make 74 = .ok (.iconst 0, 1) := by decide +kernel
theorem dX11_make_75 : decode cX11_make 75 = .ok (.dup2, 1) := by decide +kernel
theorem dX11_make_76 : decode cX11_make 76 = .ok (.iaload, 1) := by decide +kernel
theorem dX11_make_77 : decode cX11_make 77 = .ok (.iconst 1, 1) := by decide +kernel
theorem dX11_make_78 : decode cX11_make 78 = .ok (.iadd, 1) := by decide +kernel
theorem dX11_make_79 : decode cX11_make 79 = .ok (.iastore, 1) := by decide +kernel
theorem dX11_make_80 : decode cX11_make 80 = .ok (.aload_n 0, 1) := by decide +kernel
theorem dX11_make_81 : decode cX11_make 81 = .ok (.aload_n 0, 1) := by decide +kernel
theorem dX11_make_82 : decode cX11_make 82 = .ok (.invokevirtual 152, 3) := by decide +kernel
theorem dX11_make_85 : decode cX11_make 85 = .ok (.putfield 148, 3) := by decide +kernel
theorem dX11_make_88 : decode cX11_make 88 = .ok (.goto (-35), 3) := by decide +kernel
theorem dX11_make_91 : decode cX11_make 91 = .ok (.aload_n 0, 1) := by decide +kernel
theorem dX11_make_92 : decode cX11_make 92 = .ok (.getfield 18, 3) := by decide +kernel
theorem dX11_make_95 : decode cX11_make 95 = .ok (.bipush 6, 2) := by decide +kernel
theorem dX11_make_97 : decode cX11_make 97 = .ok (.aload_n 0, 1) := by decide +kernel
theorem dX11_make_98 : decode cX11_make 98 = .ok (.getfield 102, 3) := by decide +kernel
theorem dX11_make_101 : decode cX11_make 101 = .ok (.bipush 33, 2) := by decide +kernel
theorem dX11_make_103 : decode cX11_make 103 = .ok (.lushr, 1) := by decide +kernel
theorem dX11_make_104 : decode cX11_make 104 = .ok (.l2i, 1) := by decide +kernel
theorem dX11_make_105 : decode cX11_make 105 = .ok (.iastore, 1) := by decide +kernel
theorem dX11_make_106 : decode cX11_make 106 = .ok (.aload_n 0, 1) := by decide +kernel
theorem dX11_make_107 : decode cX11_make 107 = .ok (.getfield 148, 3) := by decide +kernel
theorem dX11_make_110 : decode cX11_make 110 = .ok (.ifCond .ne 5, 3) := by decide +kernel
theorem dX11_make_113 : decode cX11_make 113 = .ok (.iconst (-1), 1) := by decide +kernel
theorem dX11_make_114 : decode cX11_make 114 = .ok (.ireturn, 1) := by decide +kernel
theorem dX11_make_115 : decode cX11_make 115 = .ok (.iconst 0, 1) := by decide +kernel
theorem dX11_make_116 : decode cX11_make 116 = .ok (.istore 4, 2) := by decide +kernel
theorem dX11_make_118 : decode cX11_make 118 = .ok (.iload 4, 2) := by decide +kernel
theorem dX11_make_120 : decode cX11_make 120 = .ok (.bipush 36, 2) := by decide +kernel
theorem dX11_make_122 : decode cX11_make 122 = .ok (.if_icmp .ge 37, 3) := by decide +kernel
theorem dX11_make_125 : decode cX11_make 125 = .ok (.aload_n 0, 1) := by decide +kernel
theorem dX11_make_126 : decode cX11_make 126 = .ok (.getfield 21, 3) := by decide +kernel
theorem dX11_make_129 : decode cX11_make 129 = .ok (.iload 4, 2) := by decide +kernel
theorem dX11_make_131 : decode cX11_make 131 = .ok (.aload_n 0, 1) := by decide +kernel
theorem dX11_make_132 : decode cX11_make 132 = .ok (.getfield 27, 3) := by decide +kernel
theorem dX11_make_135 : decode cX11_make 135 = .ok (.iload 4, 2) := by decide +kernel
theorem dX11_make_137 : decode cX11_make 137 = .ok (.iaload, 1) := by decide +kernel
theorem dX11_make_138 : decode cX11_make 138 = .ok (.iastore, 1) := by decide +kernel
theorem dX11_make_139 : decode cX11_make 139 = .ok (.aload_n 0, 1) := by decide +kernel
theorem dX11_make_140 : decode cX11_make 140 = .ok (.getfield 24, 3) := by decide +kernel
theorem dX11_make_143 : decode cX11_make 143 = .ok (.iload 4, 2) := by decide +kernel
theorem dX11_make_145 : decode cX11_make 145 = .ok (.aload_n 0, 1) := by decide +kernel
theorem dX11_make_146 : decode cX11_make 146 = .ok (.getfield 30, 3) := by decide +kernel
theorem dX11_make_149 : decode cX11_make 149 = .ok (.iload 4, 2) := by decide +kernel
theorem dX11_make_151 : decode cX11_make 151 = .ok (.iaload, 1) := by decide +kernel
theorem dX11_make_152 : decode cX11_make 152 = .ok (.iastore, 1) := by decide +kernel
theorem dX11_make_153 : decode cX11_make 153 = .ok (.iinc 4 1, 3) := by decide +kernel
theorem dX11_make_156 : decode cX11_make 156 = .ok (.goto (-38), 3) := by decide +kernel
theorem dX11_make_159 : decode cX11_make 159 = .ok (.aload_n 0, 1) := by decide +kernel
theorem dX11_make_160 : decode cX11_make 160 = .ok (.getfield 18, 3) := by decide +kernel
theorem dX11_make_163 : decode cX11_make 163 = .ok (.iconst 4, 1) := by decide +kernel
theorem dX11_make_164 : decode cX11_make 164 = .ok (.aload_n 0, 1) := by decide +kernel
theorem dX11_make_165 : decode cX11_make 165 = .ok (.invokevirtual 142, 3) := by decide +kernel
theorem dX11_make_168 : decode cX11_make 168 = .ok (.iastore, 1) := by decide +kernel
theorem dX11_make_169 : decode cX11_make 169 = .ok (.aload_n 0, 1) := by decide +kernel
theorem dX11_make_170 : decode cX11_make 170 = .ok (.getfield 18, 3) := by decide +kernel
theorem dX11_make_173 : decode cX11_make 173 = .ok (.iconst 5, 1) := by decide +kernel
theorem dX11_make_174 : decode cX11_make 174 = .ok (.aload_n 0, 1) := by decide +kernel
theorem dX11_make_175 : decode cX11_make 175 = .ok (.invokevirtual 145, 3) := by decide +kernel
theorem dX11_make_178 : decode cX11_make 178 = .ok (.ifCond .ne 7, 3) := by decide +kernel
theorem dX11_make_181 : decode cX11_make 181 = .ok (.iconst 1, 1) := by decide +kernel
theorem dX11_make_182 : decode cX11_make 182 = .ok (.goto 4, 3) := by decide +kernel
theorem dX11_make_185 : decode cX11_make 185 = .ok (.iconst 0, 1) := by decide +kernel
theorem dX11_make_186 : decode cX11_make 186 = .ok (.iastore, 1) := by decide +kernel
theorem dX11_make_187 : decode cX11_make 187 = .ok (.aload_n 0, 1) := by decide +kernel
theorem dX11_make_188 : decode cX11_make 188 = .ok (.getfield 18, 3) := by decide +kernel
theorem dX11_make_191 : decode cX11_make 191 = .ok (.iconst 0, 1) := by decide +kernel
theorem dX11_make_192 : decode cX11_make 192 = .ok (.iaload, 1) := by decide +kernel
theorem dX11_make_193 : decode cX11_make 193 = .ok (.ireturn, 1) := by decide +kernel
theorem dX11_take_0 : decode cX11_take 0 = .ok (.iconst 0, 1) := by decide +kernel
theorem dX11_take_1 : decode cX11_take 1 = .ok (.istore_n 1, 1) := by decide +kernel
theorem dX11_take_2 : decode cX11_take 2 = .ok (.iload_n 1, 1) := by decide +kernel
theorem dX11_take_3 : decode cX11_take 3 = .ok (.bipush 36, 2) := by decide +kernel
theorem dX11_take_5 : decode cX11_take 5 = .ok (.if_icmp .ge 21, 3) := by decide +kernel
theorem dX11_take_8 : decode cX11_take 8 = .ok (.aload_n 0, 1) := by decide +kernel
theorem dX11_take_9 : decode cX11_take 9 = .ok (.getfield 27, 3) := by decide +kernel
theorem dX11_take_12 : decode cX11_take 12 = .ok (.iload_n 1, 1) := by decide +kernel
theorem dX11_take_13 : decode cX11_take 13 = .ok (.aload_n 0, 1) := by decide +kernel
theorem dX11_take_14 : decode cX11_take 14 = .ok (.getfield 21, 3) := by decide +kernel
theorem dX11_take_17 : decode cX11_take 17 = .ok (.iload_n 1, 1) := by decide +kernel
theorem dX11_take_18 : decode cX11_take 18 = .ok (.iaload, 1) := by decide +kernel
theorem dX11_take_19 : decode cX11_take 19 = .ok (.iastore, 1) := by decide +kernel
theorem dX11_take_20 : decode cX11_take 20 = .ok (.iinc 1 1, 3) := by decide +kernel
theorem dX11_take_23 : decode cX11_take 23 = .ok (.goto (-21), 3) := by decide +kernel
theorem dX11_take_26 : decode cX11_take 26 = .ok (.return_, 1) := by decide +kernel
set_option maxRecDepth 20000 in
theorem ggX11_given_X11_isCell : GoodIn wsX11_given wsX11_isCell := goodIn_r _ [7, 8, 9, 10, 6, 11, 12, 18, 19, 20, 21, 22, 23, 24, 25, 26, 27, 28, 29, 30, 31, 32, 33, 34, 35, 36, 37, 38, 39] (by decide +kernel) (by decide +kernel)
set_option maxRecDepth 20000 in
theorem gX11_given_X11_isCell : GoodIn wsX11_given (wsV RX11 64 RX11 yX11_isCell wsX11_isCell) := goodIn_app (goodIn_of _ (by decide +kernel)) ggX11_given_X11_isCell
set_option maxRecDepth 20000 in
theorem ggX11_given_X11_throwsIf : GoodIn wsX11_given wsX11_throwsIf := goodIn_r _ [16, 17, 18, 19, 20, 21, 22, 23, 24, 25, 26, 27, 28, 29, 30, 31, 32, 33, 34, 35, 36, 37, 38, 39] (by decide +kernel) (by decide +kernel)
set_option maxRecDepth 20000 in
theorem gX11_given_X11_throwsIf : GoodIn wsX11_given (wsV RX11 68 RX11 yX11_throwsIf wsX11_throwsIf) := goodIn_app (goodIn_of _ (by decide +kernel)) ggX11_given_X11_throwsIf
theorem dX11_given_0 : decode cX11_given 0 = .ok (.aload_n 0, 1) := by decide +kernel
theorem dX11_given_1 : decode cX11_given 1 = .ok (.iconst 1, 1) := by decide +kernel
theorem dX11_given_2 : decode cX11_given 2 = .ok (.aload_n 0, 1) := by decide +kernel
theorem dX11_given_3 : decode cX11_given 3 = .ok (.iload_n 1, 1) := by decide +kernel
theorem dX11_given_4 : decode cX11_given 4 = .ok (.invokevirtual 64, 3) := by decide +kernel
theorem dX11_given_7 : decode cX11_given 7 = .ok (.ifCond .ne 7, 3) := by decide +kernel
theorem dX11_given_10 : decode cX11_given 10 = .ok (.iconst 1, 1) := by decide +kernel
theorem dX11_given_11 : decode cX11_given 11 = .ok (.goto 4, 3) := by decide +kernel
theorem dX11_given_14 : decode cX11_given 14 = .ok (.iconst 0, 1) := by decide +kernel
theorem dX11_given_15 : decode cX11_given 15 = .ok (.invokevirtual 68, 3) := by decide +kernel
theorem dX11_given_18 : decode cX11_given 18 = .ok (.ifCond .eq 5, 3) := by decide +kernel
theorem dX11_given_21 : decode cX11_given 21 = .ok (.iconst 0, 1) := by decide +kernel
theorem dX11_given_22 : decode cX11_given 22 = .ok (.ireturn, 1) := by decide +kernel
theorem dX11_given_23 : decode cX11_given 23 = .ok (.aload_n 0, 1) := by decide +kernel
theorem dX11_given_24 : decode cX11_given 24 = .ok (.getfield 148, 3) := by decide +kernel
theorem dX11_given_27 : decode cX11_given 27 = .ok (.ifCond .eq 12, 3) := by decide +kernel
theorem dX11_given_30 : decode cX11_given 30 = .ok (.aload_n 0, 1) := by decide +kernel
theorem dX11_given_31 : decode cX11_given 31 = .ok (.getfield 21, 3) := by decide +kernel
theorem dX11_given_34 : decode cX11_given 34 = .ok (.iload_n 1, 1) := by decide +kernel
theorem dX11_given_35 : decode cX11_given 35 = .ok (.iaload, 1) := by decide +kernel
theorem dX11_given_36 : decode cX11_given 36 = .ok (.goto 4, 3) := by decide +kernel
theorem dX11_given_39 : decode cX11_given 39 = .ok (.iconst (-1), 1) := by decide +kernel
theorem dX11_given_40 : decode cX11_given 40 = .ok (.ireturn, 1) := by decide +kernel
set_option maxRecDepth 20000 in
theorem ggX11_answer_X11_isCell : GoodIn wsX11_answer wsX11_isCell := goodIn_r _ [7, 8, 9, 10, 6, 11, 12, 18, 19, 20, 21, 22, 23, 24, 25, 26, 27, 28, 29, 30, 31, 32, 33, 34, 35, 36, 37, 38, 39] (by decide +kernel) (by decide +kernel)
set_option maxRecDepth 20000 in
theorem gX11_answer_X11_isCell : GoodIn wsX11_answer (wsV RX11 64 RX11 yX11_isCell wsX11_isCell) := goodIn_app (goodIn_of _ (by decide +kernel)) ggX11_answer_X11_isCell
set_option maxRecDepth 20000 in
theorem ggX11_answer_X11_throwsIf : GoodIn wsX11_answer wsX11_throwsIf := goodIn_r _ [16, 17, 18, 19, 20, 21, 22, 23, 24, 25, 26, 27, 28, 29, 30, 31, 32, 33, 34, 35, 36, 37, 38, 39] (by decide +kernel) (by decide +kernel)
set_option maxRecDepth 20000 in
theorem gX11_answer_X11_throwsIf : GoodIn wsX11_answer (wsV RX11 68 RX11 yX11_throwsIf wsX11_throwsIf) := goodIn_app (goodIn_of _ (by decide +kernel)) ggX11_answer_X11_throwsIf
theorem dX11_answer_0 : decode cX11_answer 0 = .ok (.aload_n 0, 1) := by decide +kernel
theorem dX11_answer_1 : decode cX11_answer 1 = .ok (.iconst 1, 1) := by decide +kernel
theorem dX11_answer_2 : decode cX11_answer 2 = .ok (.aload_n 0, 1) := by decide +kernel
theorem dX11_answer_3 : decode cX11_answer 3 = .ok (.iload_n 1, 1) := by decide +kernel
theorem dX11_answer_4 : decode cX11_answer 4 = .ok (.invokevirtual 64, 3) := by decide +kernel
theorem dX11_answer_7 : decode cX11_answer 7 = .ok (.ifCond .ne 7, 3) := by decide +kernel
theorem dX11_answer_10 : decode cX11_answer 10 = .ok (.iconst 1, 1) := by decide +kernel
theorem dX11_answer_11 : decode cX11_answer 11 = .ok (.goto 4, 3) := by decide +kernel
theorem dX11_answer_14 : decode cX11_answer 14 = .ok (.iconst 0, 1) := by decide +kernel
theorem dX11_answer_15 : decode cX11_answer 15 = .ok (.invokevirtual 68, 3) := by decide +kernel
theorem dX11_answer_18 : decode cX11_answer 18 = .ok (.ifCond .eq 5, 3) := by decide +kernel
theorem dX11_answer_21 : decode cX11_answer 21 = .ok (.iconst 0, 1) := by decide +kernel
theorem dX11_answer_22 : decode cX11_answer 22 = .ok (.ireturn, 1) := by decide +kernel
theorem dX11_answer_23 : decode cX11_answer 23 = .ok (.aload_n 0, 1) := by decide +kernel
theorem dX11_answer_24 : decode cX11_answer 24 = .ok (.getfield 148, 3) := by decide +kernel
theorem dX11_answer_27 : decode cX11_answer 27 = .ok (.ifCond .eq 12, 3) := by decide +kernel
theorem dX11_answer_30 : decode cX11_answer 30 = .ok (.aload_n 0, 1) := by decide +kernel
theorem dX11_answer_31 : decode cX11_answer 31 = .ok (.getfield 24, 3) := by decide +kernel
theorem dX11_answer_34 : decode cX11_answer 34 = .ok (.iload_n 1, 1) := by decide +kernel
theorem dX11_answer_35 : decode cX11_answer 35 = .ok (.iaload, 1) := by decide +kernel
theorem dX11_answer_36 : decode cX11_answer 36 = .ok (.goto 4, 3) := by decide +kernel
theorem dX11_answer_39 : decode cX11_answer 39 = .ok (.iconst (-1), 1) := by decide +kernel
theorem dX11_answer_40 : decode cX11_answer 40 = .ok (.ireturn, 1) := by decide +kernel
theorem dX11_told_0 : decode cX11_told 0 = .ok (.aload_n 0, 1) := by decide +kernel
theorem dX11_told_1 : decode cX11_told 1 = .ok (.iconst 0, 1) := by decide +kernel
theorem dX11_told_2 : decode cX11_told 2 = .ok (.putfield 54, 3) := by decide +kernel
theorem dX11_told_5 : decode cX11_told 5 = .ok (.iload_n 1, 1) := by decide +kernel
theorem dX11_told_6 : decode cX11_told 6 = .ok (.ifCond .lt 9, 3) := by decide +kernel
theorem dX11_told_9 : decode cX11_told 9 = .ok (.iload_n 1, 1) := by decide +kernel
theorem dX11_told_10 : decode cX11_told 10 = .ok (.bipush 6, 2) := by decide +kernel
theorem dX11_told_12 : decode cX11_told 12 = .ok (.if_icmp .le 7, 3) := by decide +kernel
theorem dX11_told_15 : decode cX11_told 15 = .ok (.iconst (-1), 1) := by decide +kernel
theorem dX11_told_16 : decode cX11_told 16 = .ok (.goto 9, 3) := by decide +kernel
theorem dX11_told_19 : decode cX11_told 19 = .ok (.aload_n 0, 1) := by decide +kernel
theorem dX11_told_20 : decode cX11_told 20 = .ok (.getfield 18, 3) := by decide +kernel
theorem dX11_told_23 : decode cX11_told 23 = .ok (.iload_n 1, 1) := by decide +kernel
theorem dX11_told_24 : decode cX11_told 24 = .ok (.iaload, 1) := by decide +kernel
theorem dX11_told_25 : decode cX11_told 25 = .ok (.ireturn, 1) := by decide +kernel
set_option maxRecDepth 20000 in
theorem ggX11_left_X11_take : GoodIn wsX11_left wsX11_take := goodIn_r _ [7, 8, 9, 38, 39, 40, 41, 42, 43, 44, 45, 46, 47, 48, 49, 50, 51, 52, 53, 54, 55, 56, 57, 58, 59] (by decide +kernel) (by decide +kernel)
set_option maxRecDepth 20000 in
theorem gX11_left_X11_take : GoodIn wsX11_left (wsV RX11 155 RX11 yX11_take wsX11_take) := goodIn_app (goodIn_of _ (by decide +kernel)) ggX11_left_X11_take
set_option maxRecDepth 20000 in
theorem ggX11_left_X11_countLeft : GoodIn wsX11_left wsX11_countLeft := goodIn_r _ [13, 14, 8, 15, 16, 17, 18, 6, 19, 20, 21, 22, 23, 24, 25, 26, 27, 28, 29, 30, 31, 32, 33, 34, 35, 36, 37, 38, 39, 40, 41, 42, 43, 44, 45, 46, 47, 48, 49, 50, 51, 52, 53, 54, 55, 56, 57, 58, 59] (by decide +kernel) (by decide +kernel)
set_option maxRecDepth 20000 in
theorem gX11_left_X11_countLeft : GoodIn wsX11_left (wsV RX11 145 RX11 yX11_countLeft wsX11_countLeft) := goodIn_app (goodIn_of _ (by decide +kernel)) ggX11_left_X11_countLeft
theorem dX11_left_0 : decode cX11_left 0 = .ok (.aload_n 0, 1) := by decide +kernel
theorem dX11_left_1 : decode cX11_left 1 = .ok (.iconst 0, 1) := by decide +kernel
theorem dX11_left_2 : decode cX11_left 2 = .ok (.putfield 54, 3) := by decide +kernel
theorem dX11_left_5 : decode cX11_left 5 = .ok (.aload_n 0, 1) := by decide +kernel
theorem dX11_left_6 : decode cX11_left 6 = .ok (.getfield 148, 3) := by decide +kernel
theorem dX11_left_9 : decode cX11_left 9 = .ok (.ifCond .ne 5, 3) := by decide +kernel
theorem dX11_left_12 : decode cX11_left 12 = .ok (.iconst (-1), 1) := by decide +kernel
theorem dX11_left_13 : decode cX11_left 13 = .ok (.ireturn, 1) := by decide +kernel
theorem dX11_left_14 : decode cX11_left 14 = .ok (.aload_n 0, 1) := by decide +kernel
theorem dX11_left_15 : decode cX11_left 15 = .ok (.invokevirtual 155, 3) := by decide +kernel
theorem dX11_left_18 : decode cX11_left 18 = .ok (.aload_n 0, 1) := by decide +kernel
theorem dX11_left_19 : decode cX11_left 19 = .ok (.invokevirtual 145, 3) := by decide +kernel
theorem dX11_left_22 : decode cX11_left 22 = .ok (.ireturn, 1) := by decide +kernel
set_option maxRecDepth 20000 in
theorem ggX11_needed_X11_isCell : GoodIn wsX11_needed wsX11_isCell := goodIn_r _ [6, 7, 8, 9, 5, 10, 11, 55, 56, 57, 58, 59, 60, 61, 62, 63, 64, 65, 66, 67, 68, 69, 70, 71, 72, 73, 74, 75, 76] (by decide +kernel) (by decide +kernel)
set_option maxRecDepth 20000 in
theorem gX11_needed_X11_isCell : GoodIn wsX11_needed (wsV RX11 64 RX11 yX11_isCell wsX11_isCell) := goodIn_app (goodIn_of _ (by decide +kernel)) ggX11_needed_X11_isCell
set_option maxRecDepth 20000 in
theorem ggX11_needed_X11_throwsIf : GoodIn wsX11_needed wsX11_throwsIf := goodIn_r _ [15, 16, 55, 56, 57, 58, 59, 60, 61, 62, 63, 64, 65, 66, 67, 68, 69, 70, 71, 72, 73, 74, 75, 76] (by decide +kernel) (by decide +kernel)
set_option maxRecDepth 20000 in
theorem gX11_needed_X11_throwsIf : GoodIn wsX11_needed (wsV RX11 68 RX11 yX11_throwsIf wsX11_throwsIf) := goodIn_app (goodIn_of _ (by decide +kernel)) ggX11_needed_X11_throwsIf
set_option maxRecDepth 20000 in
theorem ggX11_needed_X11_take : GoodIn wsX11_needed wsX11_take := goodIn_r _ [20, 21, 22, 55, 56, 57, 58, 59, 60, 61, 62, 63, 64, 65, 66, 67, 68, 69, 70, 71, 72, 73, 74, 75, 76] (by decide +kernel) (by decide +kernel)
set_option maxRecDepth 20000 in
theorem gX11_needed_X11_take : GoodIn wsX11_needed (wsV RX11 155 RX11 yX11_take wsX11_take) := goodIn_app (goodIn_of _ (by decide +kernel)) ggX11_needed_X11_take
set_option maxRecDepth 20000 in
theorem ggX11_needed_X11_countGivens : GoodIn wsX11_needed wsX11_countGivens := goodIn_r _ [26, 21, 7, 8, 9, 5, 10, 11, 55, 56, 57, 58, 59, 60, 61, 62, 63, 64, 65, 66, 67, 68, 69, 70, 71, 72, 73, 74, 75, 76] (by decide +kernel) (by decide +kernel)
set_option maxRecDepth 20000 in
theorem gX11_needed_X11_countGivens : GoodIn wsX11_needed (wsV RX11 142 RX11 yX11_countGivens wsX11_countGivens) := goodIn_app (goodIn_of _ (by decide +kernel)) ggX11_needed_X11_countGivens
set_option maxRecDepth 20000 in
theorem ggX11_needed_X11_leastOf : GoodIn wsX11_needed wsX11_leastOf := goodIn_r _ [30, 31, 32, 33, 5, 34, 11, 35, 55, 56, 57, 58, 59, 60, 61, 62, 63, 64, 65, 66, 67, 68, 69, 70, 71, 72, 73, 74, 75, 76] (by decide +kernel) (by decide +kernel)
set_option maxRecDepth 20000 in
theorem gX11_needed_X11_leastOf : GoodIn wsX11_needed (wsV RX11 82 RX11 yX11_leastOf wsX11_leastOf) := goodIn_app (goodIn_of _ (by decide +kernel)) ggX11_needed_X11_leastOf
set_option maxRecDepth 20000 in
theorem ggX11_needed_X11_takeOut : GoodIn wsX11_needed wsX11_takeOut := goodIn_r _ [39, 21, 7, 8, 9, 5, 10, 11, 27, 28, 29, 30, 31, 32, 33, 34, 35, 55, 56, 57, 58, 59, 60, 61, 62, 63, 64, 65, 66, 67, 68, 69, 70, 71, 72, 73, 74, 75, 76] (by decide +kernel) (by decide +kernel)
set_option maxRecDepth 20000 in
theorem gX11_needed_X11_takeOut : GoodIn wsX11_needed (wsV RX11 132 RX11 yX11_takeOut wsX11_takeOut) := goodIn_app (goodIn_of _ (by decide +kernel)) ggX11_needed_X11_takeOut
set_option maxRecDepth 20000 in
theorem ggX11_needed_X11_countUpTo : GoodIn wsX11_needed wsX11_countUpTo := goodIn_r _ [43, 21, 11, 44, 7, 8, 9, 5, 10, 45, 46, 47, 48, 49, 50, 51, 52, 53, 54, 55, 56, 57, 58, 59, 60, 61, 62, 63, 64, 65, 66, 67, 68, 69, 70, 71, 72, 73, 74, 75, 76] (by decide +kernel) (by decide +kernel)
set_option maxRecDepth 20000 in
theorem gX11_needed_X11_countUpTo : GoodIn wsX11_needed (wsV RX11 136 RX11 yX11_countUpTo wsX11_countUpTo) := goodIn_app (goodIn_of _ (by decide +kernel)) ggX11_needed_X11_countUpTo
theorem dX11_needed_0 : decode cX11_needed 0 = .ok (.aload_n 0, 1) := by decide +kernel
theorem dX11_needed_1 : decode cX11_needed 1 = .ok (.iconst 1, 1) := by decide +kernel
theorem dX11_needed_2 : decode cX11_needed 2 = .ok (.aload_n 0, 1) := by decide +kernel
theorem dX11_needed_3 : decode cX11_needed 3 = .ok (.iload_n 1, 1) := by decide +kernel
theorem dX11_needed_4 : decode cX11_needed 4 = .ok (.invokevirtual 64, 3) := by decide +kernel
theorem dX11_needed_7 : decode cX11_needed 7 = .ok (.ifCond .ne 7, 3) := by decide +kernel
theorem dX11_needed_10 : decode cX11_needed 10 = .ok (.iconst 1, 1) := by decide +kernel
theorem dX11_needed_11 : decode cX11_needed 11 = .ok (.goto 4, 3) := by decide +kernel
theorem dX11_needed_14 : decode cX11_needed 14 = .ok (.iconst 0, 1) := by decide +kernel
theorem dX11_needed_15 : decode cX11_needed 15 = .ok (.invokevirtual 68, 3) := by decide +kernel
theorem dX11_needed_18 : decode cX11_needed 18 = .ok (.ifCond .ne 10, 3) := by decide +kernel
theorem dX11_needed_21 : decode cX11_needed 21 = .ok (.aload_n 0, 1) := by decide +kernel
theorem dX11_needed_22 : decode cX11_needed 22 = .ok (.getfield 148, 3) := by decide +kernel
theorem dX11_needed_25 : decode cX11_needed 25 = .ok (.ifCond .ne 5, 3) := by decide +kernel
theorem dX11_needed_28 : decode cX11_needed 28 = .ok (.iconst 0, 1) := by decide +kernel
theorem dX11_needed_29 : decode cX11_needed 29 = .ok (.ireturn, 1) := by decide +kernel
theorem dX11_needed_30 : decode cX11_needed 30 = .ok (.aload_n 0, 1) := by decide +kernel
theorem dX11_needed_31 : decode cX11_needed 31 = .ok (.invokevirtual 155, 3) := by decide +kernel
theorem dX11_needed_34 : decode cX11_needed 34 = .ok (.aload_n 0, 1) := by decide +kernel
theorem dX11_needed_35 : decode cX11_needed 35 = .ok (.invokevirtual 142, 3) := by decide +kernel
theorem dX11_needed_38 : decode cX11_needed 38 = .ok (.istore_n 2, 1) := by decide +kernel
theorem dX11_needed_39 : decode cX11_needed 39 = .ok (.aload_n 0, 1) := by decide +kernel
theorem dX11_needed_40 : decode cX11_needed 40 = .ok (.aload_n 0, 1) := by decide +kernel
theorem dX11_needed_41 : decode cX11_needed 41 = .ok (.iload_n 1, 1) := by decide +kernel
theorem dX11_needed_42 : decode cX11_needed 42 = .ok (.invokevirtual 82, 3) := by decide +kernel
theorem dX11_needed_45 : decode cX11_needed 45 = .ok (.invokevirtual 132, 3) := by decide +kernel
theorem dX11_needed_48 : decode cX11_needed 48 = .ok (.aload_n 0, 1) := by decide +kernel
theorem dX11_needed_49 : decode cX11_needed 49 = .ok (.invokevirtual 142, 3) := by decide +kernel
theorem dX11_needed_52 : decode cX11_needed 52 = .ok (.iload_n 2, 1) := by decide +kernel
theorem dX11_needed_53 : decode cX11_needed 53 = .ok (.if_icmp .ge 16, 3) := by decide +kernel
theorem dX11_needed_56 : decode cX11_needed 56 = .ok (.aload_n 0, 1) := by decide +kernel
theorem dX11_needed_57 : decode cX11_needed 57 = .ok (.iconst 2, 1) := by decide +kernel
theorem dX11_needed_58 : decode cX11_needed 58 = .ok (.invokevirtual 136, 3) := by decide +kernel
theorem dX11_needed_61 : decode cX11_needed 61 = .ok (.iconst 1, 1) := by decide +kernel
theorem dX11_needed_62 : decode cX11_needed 62 = .ok (.if_icmp .le 7, 3) := by decide +kernel
theorem dX11_needed_65 : decode cX11_needed 65 = .ok (.iconst 1, 1) := by decide +kernel
theorem dX11_needed_66 : decode cX11_needed 66 = .ok (.goto 4, 3) := by decide +kernel
theorem dX11_needed_69 : decode cX11_needed 69 = .ok (.iconst 0, 1) := by decide +kernel
theorem dX11_needed_70 : decode cX11_needed 70 = .ok (.ireturn, 1) := by decide +kernel
theorem dX11_unit_0 : decode cX11_unit 0 = .ok (.aload_n 0, 1) := by decide +kernel
theorem dX11_unit_1 : decode cX11_unit 1 = .ok (.iconst 0, 1) := by decide +kernel
theorem dX11_unit_2 : decode cX11_unit 2 = .ok (.putfield 54, 3) := by decide +kernel
theorem dX11_unit_5 : decode cX11_unit 5 = .ok (.iload_n 1, 1) := by decide +kernel
theorem dX11_unit_6 : decode cX11_unit 6 = .ok (.ifCond .lt 19, 3) := by decide +kernel
theorem dX11_unit_9 : decode cX11_unit 9 = .ok (.iload_n 1, 1) := by decide +kernel
theorem dX11_unit_10 : decode cX11_unit 10 = .ok (.sipush 255, 3) := by decide +kernel
theorem dX11_unit_13 : decode cX11_unit 13 = .ok (.if_icmp .gt 12, 3) := by decide +kernel
theorem dX11_unit_16 : decode cX11_unit 16 = .ok (.aload_n 0, 1) := by decide +kernel
theorem dX11_unit_17 : decode cX11_unit 17 = .ok (.getfield 158, 3) := by decide +kernel
theorem dX11_unit_20 : decode cX11_unit 20 = .ok (.bipush 60, 2) := by decide +kernel
theorem dX11_unit_22 : decode cX11_unit 22 = .ok (.if_icmp .ne 5, 3) := by decide +kernel
theorem dX11_unit_25 : decode cX11_unit 25 = .ok (.iconst 0, 1) := by decide +kernel
theorem dX11_unit_26 : decode cX11_unit 26 = .ok (.ireturn, 1) := by decide +kernel
theorem dX11_unit_27 : decode cX11_unit 27 = .ok (.aload_n 0, 1) := by decide +kernel
theorem dX11_unit_28 : decode cX11_unit 28 = .ok (.getfield 42, 3) := by decide +kernel
theorem dX11_unit_31 : decode cX11_unit 31 = .ok (.aload_n 0, 1) := by decide +kernel
theorem dX11_unit_32 : decode cX11_unit 32 = .ok (.getfield 158, 3) := by decide +kernel
theorem dX11_unit_35 : decode cX11_unit 35 = .ok (.iload_n 1, 1) := by decide +kernel
theorem dX11_unit_36 : decode cX11_unit 36 = .ok (.iastore, 1) := by decide +kernel
theorem dX11_unit_37 : decode cX11_unit 37 = .ok (.aload_n 0, 1) := by decide +kernel
theorem dX11_unit_38 : decode cX11_unit 38 = .ok (.dup, 1) := by decide +kernel
theorem dX11_unit_39 : decode cX11_unit 39 = .ok (.getfield 158, 3) := by decide +kernel
theorem dX11_unit_42 : decode cX11_unit 42 = .ok (.iconst 1, 1) := by decide +kernel
theorem dX11_unit_43 : decode cX11_unit 43 = .ok (.iadd, 1) := by decide +kernel
theorem dX11_unit_44 : decode cX11_unit 44 = .ok (.putfield 158, 3) := by decide +kernel
theorem dX11_unit_47 : decode cX11_unit 47 = .ok (.iconst 1, 1) := by decide +kernel
theorem dX11_unit_48 : decode cX11_unit 48 = .ok (.ireturn, 1) := by decide +kernel
set_option maxRecDepth 20000 in
theorem ggX11_read_X11_cells : GoodIn wsX11_read wsX11_cells := goodIn_r _ [9, 3, 16, 17, 18, 19, 20, 21, 22, 23, 24, 25, 26, 27, 28, 29, 30, 31, 32, 33, 34, 35, 36, 37] (by decide +kernel) (by decide +kernel)
set_option maxRecDepth 20000 in
theorem gX11_read_X11_cells : GoodIn wsX11_read (wsV RX11 57 RX11 yX11_cells wsX11_cells) := goodIn_app (goodIn_of _ (by decide +kernel)) ggX11_read_X11_cells
set_option maxRecDepth 20000 in
theorem ggX11_read_X11_sees : GoodIn wsX11_read wsX11_sees := goodIn_r _ [13, 3, 14, 15, 16, 17, 18, 19, 20, 21, 22, 23, 24, 25, 26, 27, 28, 29, 30, 31, 32, 33, 34, 35, 36, 37] (by decide +kernel) (by decide +kernel)
set_option maxRecDepth 20000 in
theorem gX11_read_X11_sees : GoodIn wsX11_read (wsV RX11 85 RX11 yX11_sees wsX11_sees) := goodIn_app (goodIn_of _ (by decide +kernel)) ggX11_read_X11_sees
theorem dX11_read_0 : decode cX11_read 0 = .ok (.iconst 0, 1) := by decide +kernel
theorem dX11_read_1 : decode cX11_read 1 = .ok (.istore_n 1, 1) := by decide +kernel
theorem dX11_read_2 : decode cX11_read 2 = .ok (.iload_n 1, 1) := by decide +kernel
theorem dX11_read_3 : decode cX11_read 3 = .ok (.aload_n 0, 1) := by decide +kernel
theorem dX11_read_4 : decode cX11_read 4 = .ok (.invokevirtual 57, 3) := by decide +kernel
theorem dX11_read_7 : decode cX11_read 7 = .ok (.if_icmp .ge 114, 3) := by decide +kernel
theorem dX11_read_10 : decode cX11_read 10 = .ok (.iload_n 1, 1) := by decide +kernel
theorem dX11_read_11 : decode cX11_read 11 = .ok (.aload_n 0, 1) := by decide +kernel
theorem dX11_read_12 : decode cX11_read 12 = .ok (.getfield 158, 3) := by decide +kernel
theorem dX11_read_15 : decode cX11_read 15 = .ok (.if_icmp .lt 5, 3) := by decide +kernel
theorem dX11_read_18 : decode cX11_read 18 = .ok (.iload_n 1, 1) := by decide +kernel
theorem dX11_read_19 : decode cX11_read 19 = .ok (.ireturn, 1) := by decide +kernel
theorem dX11_read_20 : decode cX11_read 20 = .ok (.aload_n 0, 1) := by decide +kernel
theorem dX11_read_21 : decode cX11_read 21 = .ok (.getfield 42, 3) := by decide +kernel
theorem dX11_read_24 : decode cX11_read 24 = .ok (.iload_n 1, 1) := by decide +kernel
theorem dX11_read_25 : decode cX11_read 25 = .ok (.iaload, 1) := by decide +kernel
theorem dX11_read_26 : decode cX11_read 26 = .ok (.bipush 46, 2) := by decide +kernel
theorem dX11_read_28 : decode cX11_read 28 = .ok (.if_icmp .ne 7, 3) := by decide +kernel
theorem dX11_read_31 : decode cX11_read 31 = .ok (.iconst (-1), 1) := by decide +kernel
theorem dX11_read_32 : decode cX11_read 32 = .ok (.goto 12, 3) := by decide +kernel
theorem dX11_read_35 : decode cX11_read 35 = .ok (.aload_n 0, 1) := by decide +kernel
theorem dX11_read_36 : decode cX11_read 36 = .ok (.getfield 42, 3) := by decide +kernel
theorem dX11_read_39 : decode cX11_read 39 = .ok (.iload_n 1, 1) := by decide +kernel
theorem dX11_read_40 : decode cX11_read 40 = .ok (.iaload, 1) := by decide +kernel
theorem dX11_read_41 : decode cX11_read 41 = .ok (.bipush 49, 2) := by decide +kernel
theorem dX11_read_43 : decode cX11_read 43 = .ok (.isub, 1) := by decide +kernel
theorem dX11_read_44 : decode cX11_read 44 = .ok (.istore_n 2, 1) := by decide +kernel
theorem dX11_read_45 : decode cX11_read 45 = .ok (.aload_n 0, 1) := by decide +kernel
theorem dX11_read_46 : decode cX11_read 46 = .ok (.getfield 42, 3) := by decide +kernel
theorem dX11_read_49 : decode cX11_read 49 = .ok (.iload_n 1, 1) := by decide +kernel
theorem dX11_read_50 : decode cX11_read 50 = .ok (.iaload, 1) := by decide +kernel
theorem dX11_read_51 : decode cX11_read 51 = .ok (.bipush 46, 2) := by decide +kernel
theorem dX11_read_53 : decode cX11_read 53 = .ok (.if_icmp .eq 17, 3) := by decide +kernel
theorem dX11_read_56 : decode cX11_read 56 = .ok (.iload_n 2, 1) := by decide +kernel
theorem dX11_read_57 : decode cX11_read 57 = .ok (.ifCond .lt 11, 3) := by decide +kernel
theorem dX11_read_60 : decode cX11_read 60 = .ok (.iload_n 2, 1) := by decide +kernel
theorem dX11_read_61 : decode cX11_read 61 = .ok (.aload_n 0, 1) := by decide +kernel
theorem dX11_read_62 : decode cX11_read 62 = .ok (.getfield 45, 3) := by decide +kernel
theorem dX11_read_65 : decode cX11_read 65 = .ok (.if_icmp .lt 5, 3) := by decide +kernel
theorem dX11_read_68 : decode cX11_read 68 = .ok (.iload_n 1, 1) := by decide +kernel
theorem dX11_read_69 : decode cX11_read 69 = .ok (.ireturn, 1) := by decide +kernel
theorem dX11_read_70 : decode cX11_read 70 = .ok (.iconst 0, 1) := by decide +kernel
theorem dX11_read_71 : decode cX11_read 71 = .ok (.istore_n 3, 1) := by decide +kernel
theorem dX11_read_72 : decode cX11_read 72 = .ok (.iload_n 3, 1) := by decide +kernel
theorem dX11_read_73 : decode cX11_read 73 = .ok (.iload_n 1, 1) := by decide +kernel
theorem dX11_read_74 : decode cX11_read 74 = .ok (.if_icmp .ge 34, 3) := by decide +kernel
theorem dX11_read_77 : decode cX11_read 77 = .ok (.iload_n 2, 1) := by decide +kernel
theorem dX11_read_78 : decode cX11_read 78 = .ok (.ifCond .lt 24, 3) := by decide +kernel
theorem dX11_read_81 : decode cX11_read 81 = .ok (.aload_n 0, 1) := by decide +kernel
theorem dX11_read_82 : decode cX11_read 82 = .ok (.getfield 27, 3) := by decide +kernel
theorem dX11_read_85 : decode cX11_read 85 = .ok (.iload_n 3, 1) := by decide +kernel
theorem dX11_read_86 : decode cX11_read 86 = .ok (.iaload, 1) := by decide +kernel
theorem dX11_read_87 : decode cX11_read 87 = .ok (.iload_n 2, 1) := by decide +kernel
theorem dX11_read_88 : decode cX11_read 88 = .ok (.if_icmp .ne 14, 3) := by decide +kernel
theorem dX11_read_91 : decode cX11_read 91 = .ok (.aload_n 0, 1) := by decide +kernel
theorem dX11_read_92 : decode cX11_read 92 = .ok (.iload_n 3, 1) := by decide +kernel
theorem dX11_read_93 : decode cX11_read 93 = .ok (.iload_n 1, 1) := by decide +kernel
theorem dX11_read_94 : decode cX11_read 94 = .ok (.invokevirtual 85, 3) := by decide +kernel
theorem dX11_read_97 : decode cX11_read 97 = .ok (.ifCond .eq 5, 3) := by decide +kernel
theorem dX11_read_100 : decode cX11_read 100 = .ok (.iload_n 1, 1) := by decide +kernel
theorem dX11_read_101 : decode cX11_read 101 = .ok (.ireturn, 1) := by decide +kernel
theorem dX11_read_102 : decode cX11_read 102 = .ok (.iinc 3 1, 3) := by decide +kernel
theorem dX11_read_105 : decode cX11_read 105 = .ok (.goto (-33), 3) := by decide +kernel
theorem dX11_read_108 : decode cX11_read 108 = .ok (.aload_n 0, 1) := by decide +kernel
theorem dX11_read_109 : decode cX11_read 109 = .ok (.getfield 27, 3) := by decide +kernel
theorem dX11_read_112 : decode cX11_read 112 = .ok (.iload_n 1, 1) := by decide +kernel
theorem dX11_read_113 : decode cX11_read 113 = .ok (.iload_n 2, 1) := by decide +kernel
theorem dX11_read_114 : decode cX11_read 114 = .ok (.iastore, 1) := by decide +kernel
theorem dX11_read_115 : decode cX11_read 115 = .ok (.iinc 1 1, 3) := by decide +kernel
theorem dX11_read_118 : decode cX11_read 118 = .ok (.goto (-116), 3) := by decide +kernel
theorem dX11_read_121 : decode cX11_read 121 = .ok (.aload_n 0, 1) := by decide +kernel
theorem dX11_read_122 : decode cX11_read 122 = .ok (.getfield 158, 3) := by decide +kernel
theorem dX11_read_125 : decode cX11_read 125 = .ok (.aload_n 0, 1) := by decide +kernel
theorem dX11_read_126 : decode cX11_read 126 = .ok (.invokevirtual 57, 3) := by decide +kernel
theorem dX11_read_129 : decode cX11_read 129 = .ok (.if_icmp .le 10, 3) := by decide +kernel
theorem dX11_read_132 : decode cX11_read 132 = .ok (.aload_n 0, 1) := by decide +kernel
theorem dX11_read_133 : decode cX11_read 133 = .ok (.invokevirtual 57, 3) := by decide +kernel
theorem dX11_read_136 : decode cX11_read 136 = .ok (.goto 4, 3) := by decide +kernel
theorem dX11_read_139 : decode cX11_read 139 = .ok (.iconst (-1), 1) := by decide +kernel
theorem dX11_read_140 : decode cX11_read 140 = .ok (.ireturn, 1) := by decide +kernel
set_option maxRecDepth 20000 in
theorem ggX11_answers_X11_read : GoodIn wsX11_answers wsX11_read := goodIn_r _ [7, 2, 8, 9, 10, 11, 12, 13, 6, 14, 15, 16, 17, 18, 19, 20, 30, 31, 32, 33, 34, 35, 36, 37, 38, 39, 40, 41, 42, 43, 44, 45, 46, 47, 48, 49, 50, 51] (by decide +kernel) (by decide +kernel)
set_option maxRecDepth 20000 in
theorem gX11_answers_X11_read : GoodIn wsX11_answers (wsV RX11 161 RX11 yX11_read wsX11_read) := goodIn_app (goodIn_of _ (by decide +kernel)) ggX11_answers_X11_read
set_option maxRecDepth 20000 in
theorem ggX11_answers_X11_countUpTo : GoodIn wsX11_answers wsX11_countUpTo := goodIn_r _ [24, 10, 9, 25, 11, 12, 13, 6, 14, 26, 27, 28, 29, 15, 16, 17, 18, 19, 20, 30, 31, 32, 33, 34, 35, 36, 37, 38, 39, 40, 41, 42, 43, 44, 45, 46, 47, 48, 49, 50, 51] (by decide +kernel) (by decide +kernel)
set_option maxRecDepth 20000 in
theorem gX11_answers_X11_countUpTo : GoodIn wsX11_answers (wsV RX11 136 RX11 yX11_countUpTo wsX11_countUpTo) := goodIn_app (goodIn_of _ (by decide +kernel)) ggX11_answers_X11_countUpTo
theorem dX11_answers_0 : decode cX11_answers 0 = .ok (.aload_n 0, 1) := by decide +kernel
theorem dX11_answers_1 : decode cX11_answers 1 = .ok (.iconst 0, 1) := by decide +kernel
theorem dX11_answers_2 : decode cX11_answers 2 = .ok (.putfield 54, 3) := by decide +kernel
theorem dX11_answers_5 : decode cX11_answers 5 = .ok (.aload_n 0, 1) := by decide +kernel
theorem dX11_answers_6 : decode cX11_answers 6 = .ok (.invokevirtual 161, 3) := by decide +kernel
theorem dX11_answers_9 : decode cX11_answers 9 = .ok (.istore_n 1, 1) := by decide +kernel
theorem dX11_answers_10 : decode cX11_answers 10 = .ok (.aload_n 0, 1) := by decide +kernel
theorem dX11_answers_11 : decode cX11_answers 11 = .ok (.iconst 0, 1) := by decide +kernel
theorem dX11_answers_12 : decode cX11_answers 12 = .ok (.putfield 158, 3) := by decide +kernel
theorem dX11_answers_15 : decode cX11_answers 15 = .ok (.iload_n 1, 1) := by decide +kernel
theorem dX11_answers_16 : decode cX11_answers 16 = .ok (.ifCond .lt 9, 3) := by decide +kernel
theorem dX11_answers_19 : decode cX11_answers 19 = .ok (.iconst (-1), 1) := by decide +kernel
theorem dX11_answers_20 : decode cX11_answers 20 = .ok (.iload_n 1, 1) := by decide +kernel
theorem dX11_answers_21 : decode cX11_answers 21 = .ok (.isub, 1) := by decide +kernel
theorem dX11_answers_22 : decode cX11_answers 22 = .ok (.goto 9, 3) := by decide +kernel
theorem dX11_answers_25 : decode cX11_answers 25 = .ok (.aload_n 0, 1) := by decide +kernel
theorem dX11_answers_26 : decode cX11_answers 26 = .ok (.bipush 100, 2) := by decide +kernel
theorem dX11_answers_28 : decode cX11_answers 28 = .ok (.invokevirtual 136, 3) := by decide +kernel
theorem dX11_answers_31 : decode cX11_answers 31 = .ok (.ireturn, 1) := by decide +kernel
set_option maxRecDepth 20000 in
theorem ggX11_text_X11_cells : GoodIn wsX11_text wsX11_cells := goodIn_r _ [8, 9, 10, 11, 12, 13, 14, 15, 16, 17, 18, 19, 20, 21, 22, 23, 24, 25, 26, 27, 28, 29, 30, 31] (by decide +kernel) (by decide +kernel)
set_option maxRecDepth 20000 in
theorem gX11_text_X11_cells : GoodIn wsX11_text (wsV RX11 57 RX11 yX11_cells wsX11_cells) := goodIn_app (goodIn_of _ (by decide +kernel)) ggX11_text_X11_cells
theorem dX11_text_0 : decode cX11_text 0 = .ok (.aload_n 0, 1) := by decide +kernel
theorem dX11_text_1 : decode cX11_text 1 = .ok (.iconst 0, 1) := by decide +kernel
theorem dX11_text_2 : decode cX11_text 2 = .ok (.putfield 54, 3) := by decide +kernel
theorem dX11_text_5 : decode cX11_text 5 = .ok (.aload_n 0, 1) := by decide +kernel
theorem dX11_text_6 : decode cX11_text 6 = .ok (.getfield 148, 3) := by decide +kernel
theorem dX11_text_9 : decode cX11_text 9 = .ok (.ifCond .eq 15, 3) := by decide +kernel
theorem dX11_text_12 : decode cX11_text 12 = .ok (.iload_n 1, 1) := by decide +kernel
theorem dX11_text_13 : decode cX11_text 13 = .ok (.ifCond .lt 11, 3) := by decide +kernel
theorem dX11_text_16 : decode cX11_text 16 = .ok (.iload_n 1, 1) := by decide +kernel
theorem dX11_text_17 : decode cX11_text 17 = .ok (.aload_n 0, 1) := by decide +kernel
theorem dX11_text_18 : decode cX11_text 18 = .ok (.invokevirtual 57, 3) := by decide +kernel
theorem dX11_text_21 : decode cX11_text 21 = .ok (.if_icmp .lt 5, 3) := by decide +kernel
theorem dX11_text_24 : decode cX11_text 24 = .ok (.iconst (-1), 1) := by decide +kernel
theorem dX11_text_25 : decode cX11_text 25 = .ok (.ireturn, 1) := by decide +kernel
theorem dX11_text_26 : decode cX11_text 26 = .ok (.aload_n 0, 1) := by decide +kernel
theorem dX11_text_27 : decode cX11_text 27 = .ok (.getfield 21, 3) := by decide +kernel
theorem dX11_text_30 : decode cX11_text 30 = .ok (.iload_n 1, 1) := by decide +kernel
theorem dX11_text_31 : decode cX11_text 31 = .ok (.iaload, 1) := by decide +kernel
theorem dX11_text_32 : decode cX11_text 32 = .ok (.ifCond .ge 8, 3) := by decide +kernel
theorem dX11_text_35 : decode cX11_text 35 = .ok (.bipush 46, 2) := by decide +kernel
theorem dX11_text_37 : decode cX11_text 37 = .ok (.goto 12, 3) := by decide +kernel
theorem dX11_text_40 : decode cX11_text 40 = .ok (.bipush 49, 2) := by decide +kernel
theorem dX11_text_42 : decode cX11_text 42 = .ok (.aload_n 0, 1) := by decide +kernel
theorem dX11_text_43 : decode cX11_text 43 = .ok (.getfield 21, 3) := by decide +kernel
theorem dX11_text_46 : decode cX11_text 46 = .ok (.iload_n 1, 1) := by decide +kernel
theorem dX11_text_47 : decode cX11_text 47 = .ok (.iaload, 1) := by decide +kernel
theorem dX11_text_48 : decode cX11_text 48 = .ok (.iadd, 1) := by decide +kernel
theorem dX11_text_49 : decode cX11_text 49 = .ok (.ireturn, 1) := by decide +kernel
