theorem dX0_init_0 : decode cX0_init 0 = .ok (.aload_n 0, 1) := by decide +kernel
theorem dX0_init_1 : decode cX0_init 1 = .ok (.invokespecial 1, 3) := by decide +kernel
theorem dX0_init_4 : decode cX0_init 4 = .ok (.aload_n 0, 1) := by decide +kernel
theorem dX0_init_5 : decode cX0_init 5 = .ok (.iconst 0, 1) := by decide +kernel
theorem dX0_init_6 : decode cX0_init 6 = .ok (.putfield 7, 3) := by decide +kernel
theorem dX0_init_9 : decode cX0_init 9 = .ok (.aload_n 0, 1) := by decide +kernel
theorem dX0_init_10 : decode cX0_init 10 = .ok (.iconst 0, 1) := by decide +kernel
theorem dX0_init_11 : decode cX0_init 11 = .ok (.putfield 13, 3) := by decide +kernel
theorem dX0_init_14 : decode cX0_init 14 = .ok (.aload_n 0, 1) := by decide +kernel
theorem dX0_init_15 : decode cX0_init 15 = .ok (.ldc 18, 2) := by decide +kernel
theorem dX0_init_17 : decode cX0_init 17 = .ok (.putfield 19, 3) := by decide +kernel
theorem dX0_init_20 : decode cX0_init 20 = .ok (.return_, 1) := by decide +kernel
theorem dX0_set_0 : decode cX0_set 0 = .ok (.aload_n 0, 1) := by decide +kernel
theorem dX0_set_1 : decode cX0_set 1 = .ok (.iload_n 1, 1) := by decide +kernel
theorem dX0_set_2 : decode cX0_set 2 = .ok (.putfield 7, 3) := by decide +kernel
theorem dX0_set_5 : decode cX0_set 5 = .ok (.aload_n 0, 1) := by decide +kernel
theorem dX0_set_6 : decode cX0_set 6 = .ok (.iload_n 2, 1) := by decide +kernel
theorem dX0_set_7 : decode cX0_set 7 = .ok (.putfield 13, 3) := by decide +kernel
theorem dX0_set_10 : decode cX0_set 10 = .ok (.aload_n 0, 1) := by decide +kernel
theorem dX0_set_11 : decode cX0_set 11 = .ok (.iload_n 3, 1) := by decide +kernel
theorem dX0_set_12 : decode cX0_set 12 = .ok (.putfield 19, 3) := by decide +kernel
theorem dX0_set_15 : decode cX0_set 15 = .ok (.return_, 1) := by decide +kernel
theorem dX0_isMet_0 : decode cX0_isMet 0 = .ok (.iload_n 1, 1) := by decide +kernel
theorem dX0_isMet_1 : decode cX0_isMet 1 = .ok (.aload_n 0, 1) := by decide +kernel
theorem dX0_isMet_2 : decode cX0_isMet 2 = .ok (.getfield 13, 3) := by decide +kernel
theorem dX0_isMet_5 : decode cX0_isMet 5 = .ok (.if_icmp .lt 11, 3) := by decide +kernel
theorem dX0_isMet_8 : decode cX0_isMet 8 = .ok (.iload_n 1, 1) := by decide +kernel
theorem dX0_isMet_9 : decode cX0_isMet 9 = .ok (.aload_n 0, 1) := by decide +kernel
theorem dX0_isMet_10 : decode cX0_isMet 10 = .ok (.getfield 19, 3) := by decide +kernel
theorem dX0_isMet_13 : decode cX0_isMet 13 = .ok (.if_icmp .le 5, 3) := by decide +kernel
theorem dX0_isMet_16 : decode cX0_isMet 16 = .ok (.iconst 0, 1) := by decide +kernel
theorem dX0_isMet_17 : decode cX0_isMet 17 = .ok (.ireturn, 1) := by decide +kernel
theorem dX0_isMet_18 : decode cX0_isMet 18 = .ok (.aload_n 0, 1) := by decide +kernel
theorem dX0_isMet_19 : decode cX0_isMet 19 = .ok (.getfield 7, 3) := by decide +kernel
theorem dX0_isMet_22 : decode cX0_isMet 22 = .ok (.iconst 1, 1) := by decide +kernel
theorem dX0_isMet_23 : decode cX0_isMet 23 = .ok (.if_icmp .ne 7, 3) := by decide +kernel
theorem dX0_isMet_26 : decode cX0_isMet 26 = .ok (.iload_n 2, 1) := by decide +kernel
theorem dX0_isMet_27 : decode cX0_isMet 27 = .ok (.ifCond .eq 19, 3) := by decide +kernel
theorem dX0_isMet_30 : decode cX0_isMet 30 = .ok (.aload_n 0, 1) := by decide +kernel
theorem dX0_isMet_31 : decode cX0_isMet 31 = .ok (.getfield 7, 3) := by decide +kernel
theorem dX0_isMet_34 : decode cX0_isMet 34 = .ok (.iconst 2, 1) := by decide +kernel
theorem dX0_isMet_35 : decode cX0_isMet 35 = .ok (.if_icmp .ne 7, 3) := by decide +kernel
theorem dX0_isMet_38 : decode cX0_isMet 38 = .ok (.iload_n 2, 1) := by decide +kernel
theorem dX0_isMet_39 : decode cX0_isMet 39 = .ok (.ifCond .ne 7, 3) := by decide +kernel
theorem dX0_isMet_42 : decode cX0_isMet 42 = .ok (.iconst 1, 1) := by decide +kernel
theorem dX0_isMet_43 : decode cX0_isMet 43 = .ok (.goto 4, 3) := by decide +kernel
theorem dX0_isMet_46 : decode cX0_isMet 46 = .ok (.iconst 0, 1) := by decide +kernel
theorem dX0_isMet_47 : decode cX0_isMet 47 = .ok (.ireturn, 1) := by decide +kernel
set_option maxRecDepth 20000 in
theorem ggX1_init_X1_clear : GoodIn wsX1_init wsX1_clear := goodIn_r _ [16, 4, 5, 7, 8, 9, 10, 11, 17, 18, 19, 20, 21, 22, 23, 24, 25, 26, 27, 28] (by decide +kernel) (by decide +kernel)
set_option maxRecDepth 20000 in
theorem gX1_init_X1_clear : GoodIn wsX1_init (wsV RX1 35 RX1 yX1_clear wsX1_clear) := goodIn_app (goodIn_of _ (by decide +kernel)) ggX1_init_X1_clear
theorem dX1_init_0 : decode cX1_init 0 = .ok (.aload_n 0, 1) := by decide +kernel
theorem dX1_init_1 : decode cX1_init 1 = .ok (.invokespecial 1, 3) := by decide +kernel
theorem dX1_init_4 : decode cX1_init 4 = .ok (.aload_n 0, 1) := by decide +kernel
theorem dX1_init_5 : decode cX1_init 5 = .ok (.aload_n 1, 1) := by decide +kernel
theorem dX1_init_6 : decode cX1_init 6 = .ok (.putfield 7, 3) := by decide +kernel
theorem dX1_init_9 : decode cX1_init 9 = .ok (.aload_n 0, 1) := by decide +kernel
theorem dX1_init_10 : decode cX1_init 10 = .ok (.aload_n 1, 1) := by decide +kernel
theorem dX1_init_11 : decode cX1_init 11 = .ok (.getfield 13, 3) := by decide +kernel
theorem dX1_init_14 : decode cX1_init 14 = .ok (.newarray .int, 2) := by decide +kernel
theorem dX1_init_16 : decode cX1_init 16 = .ok (.putfield 19, 3) := by decide +kernel
theorem dX1_init_19 : decode cX1_init 19 = .ok (.aload_n 0, 1) := by decide +kernel
theorem dX1_init_20 : decode cX1_init 20 = .ok (.aload_n 1, 1) := by decide +kernel
theorem dX1_init_21 : decode cX1_init 21 = .ok (.getfield 23, 3) := by decide +kernel
theorem dX1_init_24 : decode cX1_init 24 = .ok (.newarray .int, 2) := by decide +kernel
theorem dX1_init_26 : decode cX1_init 26 = .ok (.putfield 26, 3) := by decide +kernel
theorem dX1_init_29 : decode cX1_init 29 = .ok (.aload_n 0, 1) := by decide +kernel
theorem dX1_init_30 : decode cX1_init 30 = .ok (.aload_n 1, 1) := by decide +kernel
theorem dX1_init_31 : decode cX1_init 31 = .ok (.getfield 23, 3) := by decide +kernel
theorem dX1_init_34 : decode cX1_init 34 = .ok (.newarray .int, 2) := by decide +kernel
theorem dX1_init_36 : decode cX1_init 36 = .ok (.putfield 29, 3) := by decide +kernel
theorem dX1_init_39 : decode cX1_init 39 = .ok (.aload_n 0, 1) := by decide +kernel
theorem dX1_init_40 : decode cX1_init 40 = .ok (.aload_n 1, 1) := by decide +kernel
theorem dX1_init_41 : decode cX1_init 41 = .ok (.getfield 23, 3) := by decide +kernel
theorem dX1_init_44 : decode cX1_init 44 = .ok (.newarray .int, 2) := by decide +kernel
theorem dX1_init_46 : decode cX1_init 46 = .ok (.putfield 32, 3) := by decide +kernel
theorem dX1_init_49 : decode cX1_init 49 = .ok (.aload_n 0, 1) := by decide +kernel
theorem dX1_init_50 : decode cX1_init 50 = .ok (.invokevirtual 35, 3) := by decide +kernel
theorem dX1_init_53 : decode cX1_init 53 = .ok (.return_, 1) := by decide +kernel
theorem dX1_clear_0 : decode cX1_clear 0 = .ok (.iconst 0, 1) := by decide +kernel
theorem dX1_clear_1 : decode cX1_clear 1 = .ok (.istore_n 1, 1) := by decide +kernel
theorem dX1_clear_2 : decode cX1_clear 2 = .ok (.iload_n 1, 1) := by decide +kernel
theorem dX1_clear_3 : decode cX1_clear 3 = .ok (.aload_n 0, 1) := by decide +kernel
theorem dX1_clear_4 : decode cX1_clear 4 = .ok (.getfield 7, 3) := by decide +kernel
theorem dX1_clear_7 : decode cX1_clear 7 = .ok (.getfield 13, 3) := by decide +kernel
theorem dX1_clear_10 : decode cX1_clear 10 = .ok (.if_icmp .ge 16, 3) := by decide +kernel
theorem dX1_clear_13 : decode cX1_clear 13 = .ok (.aload_n 0, 1) := by decide +kernel
theorem dX1_clear_14 : decode cX1_clear 14 = .ok (.getfield 19, 3) := by decide +kernel
theorem dX1_clear_17 : decode cX1_clear 17 = .ok (.iload_n 1, 1) := by decide +kernel
theorem dX1_clear_18 : decode cX1_clear 18 = .ok (.iconst (-1), 1) := by decide +kernel
theorem dX1_clear_19 : decode cX1_clear 19 = .ok (.iastore, 1) := by decide +kernel
theorem dX1_clear_20 : decode cX1_clear 20 = .ok (.iinc 1 1, 3) := by decide +kernel
theorem dX1_clear_23 : decode cX1_clear 23 = .ok (.goto (-21), 3) := by decide +kernel
theorem dX1_clear_26 : decode cX1_clear 26 = .ok (.iconst 0, 1) := by decide +kernel
theorem dX1_clear_27 : decode cX1_clear 27 = .ok (.istore_n 1, 1) := by decide +kernel
theorem dX1_clear_28 : decode cX1_clear 28 = .ok (.iload_n 1, 1) := by decide +kernel
theorem dX1_clear_29 : decode cX1_clear 29 = .ok (.aload_n 0, 1) := by decide +kernel
theorem dX1_clear_30 : decode cX1_clear 30 = .ok (.getfield 7, 3) := by decide +kernel
theorem dX1_clear_33 : decode cX1_clear 33 = .ok (.getfield 23, 3) := by decide +kernel
theorem dX1_clear_36 : decode cX1_clear 36 = .ok (.if_icmp .ge 30, 3) := by decide +kernel
theorem dX1_clear_39 : decode cX1_clear 39 = .ok (.aload_n 0, 1) := by decide +kernel
theorem dX1_clear_40 : decode cX1_clear 40 = .ok (.getfield 26, 3) := by decide +kernel
theorem dX1_clear_43 : decode cX1_clear 43 = .ok (.iload_n 1, 1) := by decide +kernel
theorem dX1_clear_44 : decode cX1_clear 44 = .ok (.iconst 0, 1) := by decide +kernel
theorem dX1_clear_45 : decode cX1_clear 45 = .ok (.iastore, 1) := by decide +kernel
theorem dX1_clear_46 : decode cX1_clear 46 = .ok (.aload_n 0, 1) := by decide +kernel
theorem dX1_clear_47 : decode cX1_clear 47 = .ok (.getfield 29, 3) := by decide +kernel
theorem dX1_clear_50 : decode cX1_clear 50 = .ok (.iload_n 1, 1) := by decide +kernel
theorem dX1_clear_51 : decode cX1_clear 51 = .ok (.iconst 0, 1) := by decide +kernel
theorem dX1_clear_52 : decode cX1_clear 52 = .ok (.iastore, 1) := by decide +kernel
theorem dX1_clear_53 : decode cX1_clear 53 = .ok (.aload_n 0, 1) := by decide +kernel
theorem dX1_clear_54 : decode cX1_clear 54 = .ok (.getfield 32, 3) := by decide +kernel
theorem dX1_clear_57 : decode cX1_clear 57 = .ok (.iload_n 1, 1) := by decide +kernel
theorem dX1_clear_58 : decode cX1_clear 58 = .ok (.iconst 0, 1) := by decide +kernel
theorem dX1_clear_59 : decode cX1_clear 59 = .ok (.iastore, 1) := by decide +kernel
theorem dX1_clear_60 : decode cX1_clear 60 = .ok (.iinc 1 1, 3) := by decide +kernel
theorem dX1_clear_63 : decode cX1_clear 63 = .ok (.goto (-35), 3) := by decide +kernel
theorem dX1_clear_66 : decode cX1_clear 66 = .ok (.return_, 1) := by decide +kernel
set_option maxRecDepth 20000 in
theorem ggX1_putAll_X1_clear : GoodIn wsX1_putAll wsX1_clear := goodIn_r _ [7, 1, 2, 8, 9, 10, 11, 12, 24, 25, 26, 27, 28, 29, 30, 31, 32, 33, 34, 35] (by decide +kernel) (by decide +kernel)
set_option maxRecDepth 20000 in
theorem gX1_putAll_X1_clear : GoodIn wsX1_putAll (wsV RX1 35 RX1 yX1_clear wsX1_clear) := goodIn_app (goodIn_of _ (by decide +kernel)) ggX1_putAll_X1_clear
set_option maxRecDepth 20000 in
theorem ggX1_putAll_X1_put : GoodIn wsX1_putAll wsX1_put := goodIn_r _ [16, 8, 17, 18, 19, 6, 20, 10, 1, 21, 11, 22, 12, 23, 24, 25, 26, 27, 28, 29, 30, 31, 32, 33, 34, 35] (by decide +kernel) (by decide +kernel)
set_option maxRecDepth 20000 in
theorem gX1_putAll_X1_put : GoodIn wsX1_putAll (wsV RX1 38 RX1 yX1_put wsX1_put) := goodIn_app (goodIn_of _ (by decide +kernel)) ggX1_putAll_X1_put
theorem dX1_putAll_0 : decode cX1_putAll 0 = .ok (.aload_n 0, 1) := by decide +kernel
theorem dX1_putAll_1 : decode cX1_putAll 1 = .ok (.invokevirtual 35, 3) := by decide +kernel
theorem dX1_putAll_4 : decode cX1_putAll 4 = .ok (.iconst 0, 1) := by decide +kernel
theorem dX1_putAll_5 : decode cX1_putAll 5 = .ok (.istore_n 2, 1) := by decide +kernel
theorem dX1_putAll_6 : decode cX1_putAll 6 = .ok (.iload_n 2, 1) := by decide +kernel
theorem dX1_putAll_7 : decode cX1_putAll 7 = .ok (.aload_n 0, 1) := by decide +kernel
theorem dX1_putAll_8 : decode cX1_putAll 8 = .ok (.getfield 7, 3) := by decide +kernel
theorem dX1_putAll_11 : decode cX1_putAll 11 = .ok (.getfield 13, 3) := by decide +kernel
theorem dX1_putAll_14 : decode cX1_putAll 14 = .ok (.if_icmp .ge 29, 3) := by decide +kernel
theorem dX1_putAll_17 : decode cX1_putAll 17 = .ok (.iload_n 2, 1) := by decide +kernel
theorem dX1_putAll_18 : decode cX1_putAll 18 = .ok (.aload_n 1, 1) := by decide +kernel
theorem dX1_putAll_19 : decode cX1_putAll 19 = .ok (.arraylength, 1) := by decide +kernel
theorem dX1_putAll_20 : decode cX1_putAll 20 = .ok (.if_icmp .ge 23, 3) := by decide +kernel
theorem dX1_putAll_23 : decode cX1_putAll 23 = .ok (.aload_n 1, 1) := by decide +kernel
theorem dX1_putAll_24 : decode cX1_putAll 24 = .ok (.iload_n 2, 1) := by decide +kernel
theorem dX1_putAll_25 : decode cX1_putAll 25 = .ok (.iaload, 1) := by decide +kernel
theorem dX1_putAll_26 : decode cX1_putAll 26 = .ok (.ifCond .lt 11, 3) := by decide +kernel
theorem dX1_putAll_29 : decode cX1_putAll 29 = .ok (.aload_n 0, 1) := by decide +kernel
theorem dX1_putAll_30 : decode cX1_putAll 30 = .ok (.iload_n 2, 1) := by decide +kernel
theorem dX1_putAll_31 : decode cX1_putAll 31 = .ok (.aload_n 1, 1) := by decide +kernel
theorem dX1_putAll_32 : decode cX1_putAll 32 = .ok (.iload_n 2, 1) := by decide +kernel
theorem dX1_putAll_33 : decode cX1_putAll 33 = .ok (.iaload, 1) := by decide +kernel
theorem dX1_putAll_34 : decode cX1_putAll 34 = .ok (.invokevirtual 38, 3) := by decide +kernel
theorem dX1_putAll_37 : decode cX1_putAll 37 = .ok (.iinc 2 1, 3) := by decide +kernel
theorem dX1_putAll_40 : decode cX1_putAll 40 = .ok (.goto (-34), 3) := by decide +kernel
theorem dX1_putAll_43 : decode cX1_putAll 43 = .ok (.return_, 1) := by decide +kernel
theorem dX1_isEmpty_0 : decode cX1_isEmpty 0 = .ok (.aload_n 0, 1) := by decide +kernel
theorem dX1_isEmpty_1 : decode cX1_isEmpty 1 = .ok (.getfield 19, 3) := by decide +kernel
theorem dX1_isEmpty_4 : decode cX1_isEmpty 4 = .ok (.iload_n 1, 1) := by decide +kernel
theorem dX1_isEmpty_5 : decode cX1_isEmpty 5 = .ok (.iaload, 1) := by decide +kernel
theorem dX1_isEmpty_6 : decode cX1_isEmpty 6 = .ok (.ifCond .ge 7, 3) := by decide +kernel
theorem dX1_isEmpty_9 : decode cX1_isEmpty 9 = .ok (.iconst 1, 1) := by decide +kernel
theorem dX1_isEmpty_10 : decode cX1_isEmpty 10 = .ok (.goto 4, 3) := by decide +kernel
theorem dX1_isEmpty_13 : decode cX1_isEmpty 13 = .ok (.iconst 0, 1) := by decide +kernel
theorem dX1_isEmpty_14 : decode cX1_isEmpty 14 = .ok (.ireturn, 1) := by decide +kernel
theorem dX1_may_0 : decode cX1_may 0 = .ok (.aload_n 0, 1) := by decide +kernel
theorem dX1_may_1 : decode cX1_may 1 = .ok (.getfield 7, 3) := by decide +kernel
theorem dX1_may_4 : decode cX1_may 4 = .ok (.getfield 42, 3) := by decide +kernel
theorem dX1_may_7 : decode cX1_may 7 = .ok (.aload_n 0, 1) := by decide +kernel
theorem dX1_may_8 : decode cX1_may 8 = .ok (.getfield 26, 3) := by decide +kernel
theorem dX1_may_11 : decode cX1_may 11 = .ok (.aload_n 0, 1) := by decide +kernel
theorem dX1_may_12 : decode cX1_may 12 = .ok (.getfield 7, 3) := by decide +kernel
theorem dX1_may_15 : decode cX1_may 15 = .ok (.getfield 45, 3) := by decide +kernel
theorem dX1_may_18 : decode cX1_may 18 = .ok (.iload_n 1, 1) := by decide +kernel
theorem dX1_may_19 : decode cX1_may 19 = .ok (.iaload, 1) := by decide +kernel
theorem dX1_may_20 : decode cX1_may 20 = .ok (.iaload, 1) := by decide +kernel
theorem dX1_may_21 : decode cX1_may 21 = .ok (.aload_n 0, 1) := by decide +kernel
theorem dX1_may_22 : decode cX1_may 22 = .ok (.getfield 29, 3) := by decide +kernel
theorem dX1_may_25 : decode cX1_may 25 = .ok (.aload_n 0, 1) := by decide +kernel
theorem dX1_may_26 : decode cX1_may 26 = .ok (.getfield 7, 3) := by decide +kernel
theorem dX1_may_29 : decode cX1_may 29 = .ok (.getfield 48, 3) := by decide +kernel
theorem dX1_may_32 : decode cX1_may 32 = .ok (.iload_n 1, 1) := by decide +kernel
theorem dX1_may_33 : decode cX1_may 33 = .ok (.iaload, 1) := by decide +kernel
theorem dX1_may_34 : decode cX1_may 34 = .ok (.iaload, 1) := by decide +kernel
theorem dX1_may_35 : decode cX1_may 35 = .ok (.ior, 1) := by decide +kernel
theorem dX1_may_36 : decode cX1_may 36 = .ok (.aload_n 0, 1) := by decide +kernel
theorem dX1_may_37 : decode cX1_may 37 = .ok (.getfield 32, 3) := by decide +kernel
theorem dX1_may_40 : decode cX1_may 40 = .ok (.aload_n 0, 1) := by decide +kernel
theorem dX1_may_41 : decode cX1_may 41 = .ok (.getfield 7, 3) := by decide +kernel
theorem dX1_may_44 : decode cX1_may 44 = .ok (.getfield 51, 3) := by decide +kernel
theorem dX1_may_47 : decode cX1_may 47 = .ok (.iload_n 1, 1) := by decide +kernel
theorem dX1_may_48 : decode cX1_may 48 = .ok (.iaload, 1) := by decide +kernel
theorem dX1_may_49 : decode cX1_may 49 = .ok (.iaload, 1) := by decide +kernel
theorem dX1_may_50 : decode cX1_may 50 = .ok (.ior, 1) := by decide +kernel
theorem dX1_may_51 : decode cX1_may 51 = .ok (.iconst (-1), 1) := by decide +kernel
theorem dX1_may_52 : decode cX1_may 52 = .ok (.ixor, 1) := by decide +kernel
theorem dX1_may_53 : decode cX1_may 53 = .ok (.iand, 1) := by decide +kernel
theorem dX1_may_54 : decode cX1_may 54 = .ok (.ireturn, 1) := by decide +kernel
set_option maxRecDepth 20000 in
theorem ggX1_put_X1_flip : GoodIn wsX1_put wsX1_flip := goodIn_r _ [6, 7, 8, 9, 10, 11, 12, 13, 14, 15, 16, 17, 18, 19, 20, 21, 22, 23, 24, 25] (by decide +kernel) (by decide +kernel)
set_option maxRecDepth 20000 in
theorem gX1_put_X1_flip : GoodIn wsX1_put (wsV RX1 54 RX1 yX1_flip wsX1_flip) := goodIn_app (goodIn_of _ (by decide +kernel)) ggX1_put_X1_flip
theorem dX1_put_0 : decode cX1_put 0 = .ok (.aload_n 0, 1) := by decide +kernel
theorem dX1_put_1 : decode cX1_put 1 = .ok (.getfield 19, 3) := by decide +kernel
theorem dX1_put_4 : decode cX1_put 4 = .ok (.iload_n 1, 1) := by decide +kernel
theorem dX1_put_5 : decode cX1_put 5 = .ok (.iload_n 2, 1) := by decide +kernel
theorem dX1_put_6 : decode cX1_put 6 = .ok (.iastore, 1) := by decide +kernel
theorem dX1_put_7 : decode cX1_put 7 = .ok (.aload_n 0, 1) := by decide +kernel
theorem dX1_put_8 : decode cX1_put 8 = .ok (.iload_n 1, 1) := by decide +kernel
theorem dX1_put_9 : decode cX1_put 9 = .ok (.iconst 1, 1) := by decide +kernel
theorem dX1_put_10 : decode cX1_put 10 = .ok (.iload_n 2, 1) := by decide +kernel
theorem dX1_put_11 : decode cX1_put 11 = .ok (.ishl, 1) := by decide +kernel
theorem dX1_put_12 : decode cX1_put 12 = .ok (.invokevirtual 54, 3) := by decide +kernel
theorem dX1_put_15 : decode cX1_put 15 = .ok (.return_, 1) := by decide +kernel
set_option maxRecDepth 20000 in
theorem ggX1_takeOut_X1_flip : GoodIn wsX1_takeOut wsX1_flip := goodIn_r _ [6, 7, 8, 9, 10, 11, 12, 13, 14, 15, 16, 17, 18, 19, 20, 21, 22, 23, 24, 25] (by decide +kernel) (by decide +kernel)
set_option maxRecDepth 20000 in
theorem gX1_takeOut_X1_flip : GoodIn wsX1_takeOut (wsV RX1 54 RX1 yX1_flip wsX1_flip) := goodIn_app (goodIn_of _ (by decide +kernel)) ggX1_takeOut_X1_flip
theorem dX1_takeOut_0 : decode cX1_takeOut 0 = .ok (.aload_n 0, 1) := by decide +kernel
theorem dX1_takeOut_1 : decode cX1_takeOut 1 = .ok (.getfield 19, 3) := by decide +kernel
theorem dX1_takeOut_4 : decode cX1_takeOut 4 = .ok (.iload_n 1, 1) := by decide +kernel
theorem dX1_takeOut_5 : decode cX1_takeOut 5 = .ok (.iaload, 1) := by decide +kernel
theorem dX1_takeOut_6 : decode cX1_takeOut 6 = .ok (.istore_n 2, 1) := by decide +kernel
theorem dX1_takeOut_7 : decode cX1_takeOut 7 = .ok (.iload_n 2, 1) := by decide +kernel
theorem dX1_takeOut_8 : decode cX1_takeOut 8 = .ok (.ifCond .lt 18, 3) := by decide +kernel
theorem dX1_takeOut_11 : decode cX1_takeOut 11 = .ok (.aload_n 0, 1) := by decide +kernel
theorem dX1_takeOut_12 : decode cX1_takeOut 12 = .ok (.getfield 19, 3) := by decide +kernel
theorem dX1_takeOut_15 : decode cX1_takeOut 15 = .ok (.iload_n 1, 1) := by decide +kernel
theorem dX1_takeOut_16 : decode cX1_takeOut 16 = .ok (.iconst (-1), 1) := by decide +kernel
theorem dX1_takeOut_17 : decode cX1_takeOut 17 = .ok (.iastore, 1) := by decide +kernel
theorem dX1_takeOut_18 : decode cX1_takeOut 18 = .ok (.aload_n 0, 1) := by decide +kernel
theorem dX1_takeOut_19 : decode cX1_takeOut 19 = .ok (.iload_n 1, 1) := by decide +kernel
theorem dX1_takeOut_20 : decode cX1_takeOut 20 = .ok (.iconst 1, 1) := by decide +kernel
theorem dX1_takeOut_21 : decode cX1_takeOut 21 = .ok (.iload_n 2, 1) := by decide +kernel
theorem dX1_takeOut_22 : decode cX1_takeOut 22 = .ok (.ishl, 1) := by decide +kernel
theorem dX1_takeOut_23 : decode cX1_takeOut 23 = .ok (.invokevirtual 54, 3) := by decide +kernel
theorem dX1_takeOut_26 : decode cX1_takeOut 26 = .ok (.return_, 1) := by decide +kernel
theorem dX1_flip_0 : decode cX1_flip 0 = .ok (.aload_n 0, 1) := by decide +kernel
theorem dX1_flip_1 : decode cX1_flip 1 = .ok (.getfield 26, 3) := by decide +kernel
theorem dX1_flip_4 : decode cX1_flip 4 = .ok (.aload_n 0, 1) := by decide +kernel
theorem dX1_flip_5 : decode cX1_flip 5 = .ok (.getfield 7, 3) := by decide +kernel
theorem dX1_flip_8 : decode cX1_flip 8 = .ok (.getfield 45, 3) := by decide +kernel
theorem dX1_flip_11 : decode cX1_flip 11 = .ok (.iload_n 1, 1) := by decide +kernel
theorem dX1_flip_12 : decode cX1_flip 12 = .ok (.iaload, 1) := by decide +kernel
theorem dX1_flip_13 : decode cX1_flip 13 = .ok (.dup2, 1) := by decide +kernel
theorem dX1_flip_14 : decode cX1_flip 14 = .ok (.iaload, 1) := by decide +kernel
theorem dX1_flip_15 : decode cX1_flip 15 = .ok (.iload_n 2, 1) := by decide +kernel
theorem dX1_flip_16 : decode cX1_flip 16 = .ok (.ixor, 1) := by decide +kernel
theorem dX1_flip_17 : decode cX1_flip 17 = .ok (.iastore, 1) := by decide +kernel
theorem dX1_flip_18 : decode cX1_flip 18 = .ok (.aload_n 0, 1) := by decide +kernel
theorem dX1_flip_19 : decode cX1_flip 19 = .ok (.getfield 29, 3) := by decide +kernel
theorem dX1_flip_22 : decode cX1_flip 22 = .ok (.aload_n 0, 1) := by decide +kernel
theorem dX1_flip_23 : decode cX1_flip 23 = .ok (.getfield 7, 3) := by decide +kernel
theorem dX1_flip_26 : decode cX1_flip 26 = .ok (.getfield 48, 3) := by decide +kernel
theorem dX1_flip_29 : decode cX1_flip 29 = .ok (.iload_n 1, 1) := by decide +kernel
theorem dX1_flip_30 : decode cX1_flip 30 = .ok (.iaload, 1) := by decide +kernel
theorem dX1_flip_31 : decode cX1_flip 31 = .ok (.dup2, 1) := by decide +kernel
theorem dX1_flip_32 : decode cX1_flip 32 = .ok (.iaload, 1) := by decide +kernel
theorem dX1_flip_33 : decode cX1_flip 33 = .ok (.iload_n 2, 1) := by decide +kernel
theorem dX1_flip_34 : decode cX1_flip 34 = .ok (.ixor, 1) := by decide +kernel
theorem dX1_flip_35 : decode cX1_flip 35 = .ok (.iastore, 1) := by decide +kernel
theorem dX1_flip_36 : decode cX1_flip 36 = .ok (.aload_n 0, 1) := by decide +kernel
theorem dX1_flip_37 : decode cX1_flip 37 = .ok (.getfield 32, 3) := by decide +kernel
theorem dX1_flip_40 : decode cX1_flip 40 = .ok (.aload_n 0, 1) := by decide +kernel
theorem dX1_flip_41 : decode cX1_flip 41 = .ok (.getfield 7, 3) := by decide +kernel
theorem dX1_flip_44 : decode cX1_flip 44 = .ok (.getfield 51, 3) := by decide +kernel
theorem dX1_flip_47 : decode cX1_flip 47 = .ok (.iload_n 1, 1) := by decide +kernel
theorem dX1_flip_48 : decode cX1_flip 48 = .ok (.iaload, 1) := by decide +kernel
theorem dX1_flip_49 : decode cX1_flip 49 = .ok (.dup2, 1) := by decide +kernel
theorem dX1_flip_50 : decode cX1_flip 50 = .ok (.iaload, 1) := by decide +kernel
theorem dX1_flip_51 : decode cX1_flip 51 = .ok (.iload_n 2, 1) := by decide +kernel
theorem dX1_flip_52 : decode cX1_flip 52 = .ok (.ixor, 1) := by decide +kernel
theorem dX1_flip_53 : decode cX1_flip 53 = .ok (.iastore, 1) := by decide +kernel
theorem dX1_flip_54 : decode cX1_flip 54 = .ok (.return_, 1) := by decide +kernel
theorem dX2_init_0 : decode cX2_init 0 = .ok (.aload_n 0, 1) := by decide +kernel
theorem dX2_init_1 : decode cX2_init 1 = .ok (.invokespecial 1, 3) := by decide +kernel
theorem dX2_init_4 : decode cX2_init 4 = .ok (.aload_n 0, 1) := by decide +kernel
theorem dX2_init_5 : decode cX2_init 5 = .ok (.lconst 0, 1) := by decide +kernel
theorem dX2_init_6 : decode cX2_init 6 = .ok (.putfield 7, 3) := by decide +kernel
theorem dX2_init_9 : decode cX2_init 9 = .ok (.return_, 1) := by decide +kernel
theorem dX2_startAt_0 : decode cX2_startAt 0 = .ok (.aload_n 0, 1) := by decide +kernel
theorem dX2_startAt_1 : decode cX2_startAt 1 = .ok (.lload_n 1, 1) := by decide +kernel
theorem dX2_startAt_2 : decode cX2_startAt 2 = .ok (.putfield 7, 3) := by decide +kernel
theorem dX2_startAt_5 : decode cX2_startAt 5 = .ok (.return_, 1) := by decide +kernel
set_option maxRecDepth 20000 in
theorem ggX2_below_X2_upperBits : GoodIn wsX2_below wsX2_upperBits := goodIn_r _ [8, 2, 9] (by decide +kernel) (by decide +kernel)
set_option maxRecDepth 20000 in
theorem gX2_below_X2_upperBits : GoodIn wsX2_below (wsV RX2 17 RX2 yX2_upperBits wsX2_upperBits) := goodIn_app (goodIn_of _ (by decide +kernel)) ggX2_below_X2_upperBits
theorem dX2_below_0 : decode cX2_below 0 = .ok (.aload_n 0, 1) := by decide +kernel
theorem dX2_below_1 : decode cX2_below 1 = .ok (.ldc2_w 13, 3) := by decide +kernel
theorem dX2_below_4 : decode cX2_below 4 = .ok (.aload_n 0, 1) := by decide +kernel
theorem dX2_below_5 : decode cX2_below 5 = .ok (.getfield 7, 3) := by decide +kernel
theorem dX2_below_8 : decode cX2_below 8 = .ok (.lmul, 1) := by decide +kernel
theorem dX2_below_9 : decode cX2_below 9 = .ok (.ldc2_w 15, 3) := by decide +kernel
theorem dX2_below_12 : decode cX2_below 12 = .ok (.ladd, 1) := by decide +kernel
theorem dX2_below_13 : decode cX2_below 13 = .ok (.putfield 7, 3) := by decide +kernel
theorem dX2_below_16 : decode cX2_below 16 = .ok (.iload_n 1, 1) := by decide +kernel
theorem dX2_below_17 : decode cX2_below 17 = .ok (.iconst 1, 1) := by decide +kernel
theorem dX2_below_18 : decode cX2_below 18 = .ok (.if_icmp .ge 7, 3) := by decide +kernel
theorem dX2_below_21 : decode cX2_below 21 = .ok (.iconst 0, 1) := by decide +kernel
theorem dX2_below_22 : decode cX2_below 22 = .ok (.goto 9, 3) := by decide +kernel
theorem dX2_below_25 : decode cX2_below 25 = .ok (.aload_n 0, 1) := by decide +kernel
theorem dX2_below_26 : decode cX2_below 26 = .ok (.invokevirtual 17, 3) := by decide +kernel
theorem dX2_below_29 : decode cX2_below 29 = .ok (.iload_n 1, 1) := by decide +kernel
theorem dX2_below_30 : decode cX2_below 30 = .ok (.irem, 1) := by decide +kernel
theorem dX2_below_31 : decode cX2_below 31 = .ok (.ireturn, 1) := by decide +kernel
theorem dX2_upperBits_0 : decode cX2_upperBits 0 = .ok (.aload_n 0, 1) := by decide +kernel
theorem dX2_upperBits_1 : decode cX2_upperBits 1 = .ok (.getfield 7, 3) := by decide +kernel
theorem dX2_upperBits_4 : decode cX2_upperBits 4 = .ok (.bipush 33, 2) := by decide +kernel
theorem dX2_upperBits_6 : decode cX2_upperBits 6 = .ok (.lushr, 1) := by decide +kernel
theorem dX2_upperBits_7 : decode cX2_upperBits 7 = .ok (.l2i, 1) := by decide +kernel
theorem dX2_upperBits_8 : decode cX2_upperBits 8 = .ok (.ireturn, 1) := by decide +kernel
set_option maxRecDepth 20000 in
theorem ggX3_init_X1_init : GoodIn wsX3_init wsX1_init := goodIn_r _ [12, 13, 2, 3, 14, 15, 16, 17, 18, 19, 20, 21, 22, 23, 24, 8, 25, 29, 30, 31, 32, 33, 34, 35, 36, 37, 38, 39, 40] (by decide +kernel) (by decide +kernel)
set_option maxRecDepth 20000 in
theorem gX3_init_X1_init : GoodIn wsX3_init (wsX1_init) := ggX3_init_X1_init
theorem dX3_init_0 : decode cX3_init 0 = .ok (.aload_n 0, 1) := by decide +kernel
theorem dX3_init_1 : decode cX3_init 1 = .ok (.invokespecial 1, 3) := by decide +kernel
theorem dX3_init_4 : decode cX3_init 4 = .ok (.aload_n 0, 1) := by decide +kernel
theorem dX3_init_5 : decode cX3_init 5 = .ok (.aload_n 1, 1) := by decide +kernel
theorem dX3_init_6 : decode cX3_init 6 = .ok (.putfield 7, 3) := by decide +kernel
theorem dX3_init_9 : decode cX3_init 9 = .ok (.aload_n 0, 1) := by decide +kernel
theorem dX3_init_10 : decode cX3_init 10 = .ok (.aload_n 2, 1) := by decide +kernel
theorem dX3_init_11 : decode cX3_init 11 = .ok (.putfield 13, 3) := by decide +kernel
theorem dX3_init_14 : decode cX3_init 14 = .ok (.aload_n 0, 1) := by decide +kernel
theorem dX3_init_15 : decode cX3_init 15 = .ok (.new 17, 3) := by decide +kernel
theorem dX3_init_18 : decode cX3_init 18 = .ok (.dup, 1) := by decide +kernel
theorem dX3_init_19 : decode cX3_init 19 = .ok (.aload_n 1, 1) := by decide +kernel
theorem dX3_init_20 : decode cX3_init 20 = .ok (.invokespecial 19, 3) := by decide +kernel
theorem dX3_init_23 : decode cX3_init 23 = .ok (.putfield 22, 3) := by decide +kernel
theorem dX3_init_26 : decode cX3_init 26 = .ok (.return_, 1) := by decide +kernel
set_option maxRecDepth 20000 in
theorem ggX3_fill_X1_clear : GoodIn wsX3_fill wsX1_clear := goodIn_r _ [9, 10, 11, 12, 13, 14, 15, 16, 79, 80, 81, 82, 83, 72, 73, 74, 75, 76, 77, 78] (by decide +kernel) (by decide +kernel)
set_option maxRecDepth 20000 in
theorem gX3_fill_X1_clear : GoodIn wsX3_fill (wsV RX3 26 RX1 yX1_clear wsX1_clear) := goodIn_app (goodIn_of _ (by decide +kernel)) ggX3_fill_X1_clear
set_option maxRecDepth 20000 in
theorem ggX3_fill_X3_tightest : GoodIn wsX3_fill wsX3_tightest := goodIn_r _ [21, 22, 2, 3, 1, 23, 24, 25, 8, 26, 12, 27, 28, 29, 30, 10, 31, 14, 32, 15, 33, 16, 34, 35, 36, 37, 38, 39, 40, 41, 69, 70, 71, 72, 73, 74, 75, 76, 77, 78, 79, 80, 81, 82, 83] (by decide +kernel) (by decide +kernel)
set_option maxRecDepth 20000 in
theorem gX3_fill_X3_tightest : GoodIn wsX3_fill (wsV RX3 35 RX3 yX3_tightest wsX3_tightest) := goodIn_app (goodIn_of _ (by decide +kernel)) ggX3_fill_X3_tightest
set_option maxRecDepth 20000 in
theorem ggX3_fill_X1_may : GoodIn wsX3_fill wsX1_may := goodIn_r _ [30, 10, 31, 14, 32, 15, 33, 16, 34, 79, 80, 81, 82, 83, 72, 73, 74, 75, 76, 77, 78] (by decide +kernel) (by decide +kernel)
set_option maxRecDepth 20000 in
theorem gX3_fill_X1_may : GoodIn wsX3_fill (wsV RX3 39 RX1 yX1_may wsX1_may) := goodIn_app (goodIn_of _ (by decide +kernel)) ggX3_fill_X1_may
set_option maxRecDepth 20000 in
theorem ggX3_fill_J6_bitCount_0f7a4 : GoodIn wsX3_fill wsJ6_bitCount_0f7a4 := goodIn_r _ [38, 39, 40, 41] (by decide +kernel) (by decide +kernel)
set_option maxRecDepth 20000 in
theorem gX3_fill_J6_bitCount_0f7a4 : GoodIn wsX3_fill (va_wsS RX3 43 yJ6_bitCount_0f7a4 wsJ6_bitCount_0f7a4) := goodIn_app (goodIn_of _ (by decide +kernel)) ggX3_fill_J6_bitCount_0f7a4
set_option maxRecDepth 20000 in
theorem ggX3_fill_X2_below : GoodIn wsX3_fill wsX2_below := goodIn_r _ [46, 47, 48, 49, 50, 51, 52, 45, 53, 84] (by decide +kernel) (by decide +kernel)
set_option maxRecDepth 20000 in
theorem gX3_fill_X2_below : GoodIn wsX3_fill (wsV RX3 48 RX2 yX2_below wsX2_below) := goodIn_app (goodIn_of _ (by decide +kernel)) ggX3_fill_X2_below
set_option maxRecDepth 20000 in
theorem ggX3_fill_X3_symbolAt : GoodIn wsX3_fill wsX3_symbolAt := goodIn_r _ [56, 57, 58, 37, 59, 60] (by decide +kernel) (by decide +kernel)
set_option maxRecDepth 20000 in
theorem gX3_fill_X3_symbolAt : GoodIn wsX3_fill (va_wsS RX3 53 yX3_symbolAt wsX3_symbolAt) := goodIn_app (goodIn_of _ (by decide +kernel)) ggX3_fill_X3_symbolAt
set_option maxRecDepth 20000 in
theorem ggX3_fill_X1_put : GoodIn wsX3_fill wsX1_put := goodIn_r _ [64, 12, 65, 66, 67, 8, 68, 14, 10, 32, 15, 33, 16, 34, 79, 80, 81, 82, 83, 72, 73, 74, 75, 76, 77, 78] (by decide +kernel) (by decide +kernel)
set_option maxRecDepth 20000 in
theorem gX3_fill_X1_put : GoodIn wsX3_fill (wsV RX3 57 RX1 yX1_put wsX1_put) := goodIn_app (goodIn_of _ (by decide +kernel)) ggX3_fill_X1_put
theorem dX3_fill_0 : decode cX3_fill 0 = .ok (.aload_n 0, 1) := by decide +kernel
theorem dX3_fill_1 : decode cX3_fill 1 = .ok (.getfield 22, 3) := by decide +kernel
theorem dX3_fill_4 : decode cX3_fill 4 = .ok (.invokevirtual 26, 3) := by decide +kernel
theorem dX3_fill_7 : decode cX3_fill 7 = .ok (.iconst 0, 1) := by decide +kernel
theorem dX3_fill_8 : decode cX3_fill 8 = .ok (.istore_n 1, 1) := by decide +kernel
theorem dX3_fill_9 : decode cX3_fill 9 = .ok (.iload_n 1, 1) := by decide +kernel
theorem dX3_fill_10 : decode cX3_fill 10 = .ok (.aload_n 0, 1) := by decide +kernel
theorem dX3_fill_11 : decode cX3_fill 11 = .ok (.getfield 7, 3) := by decide +kernel
theorem dX3_fill_14 : decode cX3_fill 14 = .ok (.getfield 29, 3) := by decide +kernel
theorem dX3_fill_17 : decode cX3_fill 17 = .ok (.if_icmp .ge 57, 3) := by decide +kernel
theorem dX3_fill_20 : decode cX3_fill 20 = .ok (.aload_n 0, 1) := by decide +kernel
theorem dX3_fill_21 : decode cX3_fill 21 = .ok (.invokevirtual 35, 3) := by decide +kernel
theorem dX3_fill_24 : decode cX3_fill 24 = .ok (.istore_n 2, 1) := by decide +kernel
theorem dX3_fill_25 : decode cX3_fill 25 = .ok (.aload_n 0, 1) := by decide +kernel
theorem dX3_fill_26 : decode cX3_fill 26 = .ok (.getfield 22, 3) := by decide +kernel
theorem dX3_fill_29 : decode cX3_fill 29 = .ok (.iload_n 2, 1) := by decide +kernel
theorem dX3_fill_30 : decode cX3_fill 30 = .ok (.invokevirtual 39, 3) := by decide +kernel
theorem dX3_fill_33 : decode cX3_fill 33 = .ok (.istore_n 3, 1) := by decide +kernel
theorem dX3_fill_34 : decode cX3_fill 34 = .ok (.iload_n 3, 1) := by decide +kernel
theorem dX3_fill_35 : decode cX3_fill 35 = .ok (.invokestatic 43, 3) := by decide +kernel
theorem dX3_fill_38 : decode cX3_fill 38 = .ok (.istore 4, 2) := by decide +kernel
theorem dX3_fill_40 : decode cX3_fill 40 = .ok (.iload 4, 2) := by decide +kernel
theorem dX3_fill_42 : decode cX3_fill 42 = .ok (.ifCond .ne 5, 3) := by decide +kernel
theorem dX3_fill_45 : decode cX3_fill 45 = .ok (.iconst 0, 1) := by decide +kernel
theorem dX3_fill_46 : decode cX3_fill 46 = .ok (.ireturn, 1) := by decide +kernel
theorem dX3_fill_47 : decode cX3_fill 47 = .ok (.aload_n 0, 1) := by decide +kernel
theorem dX3_fill_48 : decode cX3_fill 48 = .ok (.getfield 22, 3) := by decide +kernel
theorem dX3_fill_51 : decode cX3_fill 51 = .ok (.iload_n 2, 1) := by decide +kernel
theorem dX3_fill_52 : decode cX3_fill 52 = .ok (.iload_n 3, 1) := by decide +kernel
theorem dX3_fill_53 : decode cX3_fill 53 = .ok (.aload_n 0, 1) := by decide +kernel
theorem dX3_fill_54 : decode cX3_fill 54 = .ok (.getfield 13, 3) := by decide +kernel
theorem dX3_fill_57 : decode cX3_fill 57 = .ok (.iload 4, 2) := by decide +kernel
theorem dX3_fill_59 : decode cX3_fill 59 = .ok (.invokevirtual 48, 3) := by decide +kernel
theorem dX3_fill_62 : decode cX3_fill 62 = .ok (.invokestatic 53, 3) := by decide +kernel
theorem dX3_fill_65 : decode cX3_fill 65 = .ok (.invokevirtual 57, 3) := by decide +kernel
theorem dX3_fill_68 : decode cX3_fill 68 = .ok (.iinc 1 1, 3) := by decide +kernel
theorem dX3_fill_71 : decode cX3_fill 71 = .ok (.goto (-62), 3) := by decide +kernel
theorem dX3_fill_74 : decode cX3_fill 74 = .ok (.iconst 1, 1) := by decide +kernel
theorem dX3_fill_75 : decode cX3_fill 75 = .ok (.ireturn, 1) := by decide +kernel
set_option maxRecDepth 20000 in
theorem ggX3_tightest_X1_isEmpty : GoodIn wsX3_tightest wsX1_isEmpty := goodIn_r _ [9, 10, 40, 41, 42, 43, 44] (by decide +kernel) (by decide +kernel)
set_option maxRecDepth 20000 in
theorem gX3_tightest_X1_isEmpty : GoodIn wsX3_tightest (wsV RX3 62 RX1 yX1_isEmpty wsX1_isEmpty) := goodIn_app (goodIn_of _ (by decide +kernel)) ggX3_tightest_X1_isEmpty
set_option maxRecDepth 20000 in
theorem ggX3_tightest_X1_may : GoodIn wsX3_tightest wsX1_may := goodIn_r _ [14, 15, 16, 17, 18, 19, 20, 21, 22, 40, 41, 42, 43, 44, 33, 34, 35, 36, 37, 38, 39] (by decide +kernel) (by decide +kernel)
set_option maxRecDepth 20000 in
theorem gX3_tightest_X1_may : GoodIn wsX3_tightest (wsV RX3 39 RX1 yX1_may wsX1_may) := goodIn_app (goodIn_of _ (by decide +kernel)) ggX3_tightest_X1_may
set_option maxRecDepth 20000 in
theorem ggX3_tightest_J6_bitCount_0f7a4 : GoodIn wsX3_tightest wsJ6_bitCount_0f7a4 := goodIn_r _ [26, 27, 28, 29] (by decide +kernel) (by decide +kernel)
set_option maxRecDepth 20000 in
theorem gX3_tightest_J6_bitCount_0f7a4 : GoodIn wsX3_tightest (va_wsS RX3 43 yJ6_bitCount_0f7a4 wsJ6_bitCount_0f7a4) := goodIn_app (goodIn_of _ (by decide +kernel)) ggX3_tightest_J6_bitCount_0f7a4
theorem dX3_tightest_0 : decode cX3_tightest 0 = .ok (.iconst 0, 1) := by decide +kernel
theorem dX3_tightest_1 : decode cX3_tightest 1 = .ok (.istore_n 1, 1) := by decide +kernel
theorem dX3_tightest_2 : decode cX3_tightest 2 = .ok (.ldc 61, 2) := by decide +kernel
theorem dX3_tightest_4 : decode cX3_tightest 4 = .ok (.istore_n 2, 1) := by decide +kernel
theorem dX3_tightest_5 : decode cX3_tightest 5 = .ok (.iconst 0, 1) := by decide +kernel
theorem dX3_tightest_6 : decode cX3_tightest 6 = .ok (.istore_n 3, 1) := by decide +kernel
theorem dX3_tightest_7 : decode cX3_tightest 7 = .ok (.iload_n 3, 1) := by decide +kernel
theorem dX3_tightest_8 : decode cX3_tightest 8 = .ok (.aload_n 0, 1) := by decide +kernel
theorem dX3_tightest_9 : decode cX3_tightest 9 = .ok (.getfield 7, 3) := by decide +kernel
theorem dX3_tightest_12 : decode cX3_tightest 12 = .ok (.getfield 29, 3) := by decide +kernel
theorem dX3_tightest_15 : decode cX3_tightest 15 = .ok (.if_icmp .ge 44, 3) := by decide +kernel
theorem dX3_tightest_18 : decode cX3_tightest 18 = .ok (.aload_n 0, 1) := by decide +kernel
theorem dX3_tightest_19 : decode cX3_tightest 19 = .ok (.getfield 22, 3) := by decide +kernel
theorem dX3_tightest_22 : decode cX3_tightest 22 = .ok (.iload_n 3, 1) := by decide +kernel
theorem dX3_tightest_23 : decode cX3_tightest 23 = .ok (.invokevirtual 62, 3) := by decide +kernel
theorem dX3_tightest_26 : decode cX3_tightest 26 = .ok (.ifCond .eq 27, 3) := by decide +kernel
theorem dX3_tightest_29 : decode cX3_tightest 29 = .ok (.aload_n 0, 1) := by decide +kernel
theorem dX3_tightest_30 : decode cX3_tightest 30 = .ok (.getfield 22, 3) := by decide +kernel
theorem dX3_tightest_33 : decode cX3_tightest 33 = .ok (.iload_n 3, 1) := by decide +kernel
theorem dX3_tightest_34 : decode cX3_tightest 34 = .ok (.invokevirtual 39, 3) := by decide +kernel
theorem dX3_tightest_37 : decode cX3_tightest 37 = .ok (.invokestatic 43, 3) := by decide +kernel
theorem dX3_tightest_40 : decode cX3_tightest 40 = .ok (.istore 4, 2) := by decide +kernel
theorem dX3_tightest_42 : decode cX3_tightest 42 = .ok (.iload 4, 2) := by decide +kernel
theorem dX3_tightest_44 : decode cX3_tightest 44 = .ok (.iload_n 2, 1) := by decide +kernel
theorem dX3_tightest_45 : decode cX3_tightest 45 = .ok (.if_icmp .ge 8, 3) := by decide +kernel
theorem dX3_tightest_48 : decode cX3_tightest 48 = .ok (.iload 4, 2) := by decide +kernel
theorem dX3_tightest_50 : decode cX3_tightest 50 = .ok (.istore_n 2, 1) := by decide +kernel
theorem dX3_tightest_51 : decode cX3_tightest 51 = .ok (.iload_n 3, 1) := by decide +kernel
theorem dX3_tightest_52 : decode cX3_tightest 52 = .ok (.istore_n 1, 1) := by decide +kernel
theorem dX3_tightest_53 : decode cX3_tightest 53 = .ok (.iinc 3 1, 3) := by decide +kernel
theorem dX3_tightest_56 : decode cX3_tightest 56 = .ok (.goto (-49), 3) := by decide +kernel
theorem dX3_tightest_59 : decode cX3_tightest 59 = .ok (.iload_n 1, 1) := by decide +kernel
theorem dX3_tightest_60 : decode cX3_tightest 60 = .ok (.ireturn, 1) := by decide +kernel
set_option maxRecDepth 20000 in
theorem ggX3_symbolAt_J6_numberOfTrailingZeros_0f7a4 : GoodIn wsX3_symbolAt wsJ6_numberOfTrailingZeros_0f7a4 := goodIn_r _ [4, 5] (by decide +kernel) (by decide +kernel)
set_option maxRecDepth 20000 in
theorem gX3_symbolAt_J6_numberOfTrailingZeros_0f7a4 : GoodIn wsX3_symbolAt (va_wsS RX3 66 yJ6_numberOfTrailingZeros_0f7a4 wsJ6_numberOfTrailingZeros_0f7a4) := goodIn_app (goodIn_of _ (by decide +kernel)) ggX3_symbolAt_J6_numberOfTrailingZeros_0f7a4
theorem dX3_symbolAt_0 : decode cX3_symbolAt 0 = .ok (.iload_n 0, 1) := by decide +kernel
theorem dX3_symbolAt_1 : decode cX3_symbolAt 1 = .ok (.istore_n 2, 1) := by decide +kernel
theorem dX3_symbolAt_2 : decode cX3_symbolAt 2 = .ok (.iconst 0, 1) := by decide +kernel
theorem dX3_symbolAt_3 : decode cX3_symbolAt 3 = .ok (.istore_n 3, 1) := by decide +kernel
theorem dX3_symbolAt_4 : decode cX3_symbolAt 4 = .ok (.iload_n 3, 1) := by decide +kernel
theorem dX3_symbolAt_5 : decode cX3_symbolAt 5 = .ok (.iload_n 1, 1) := by decide +kernel
theorem dX3_symbolAt_6 : decode cX3_symbolAt 6 = .ok (.if_icmp .ge 15, 3) := by decide +kernel
theorem dX3_symbolAt_9 : decode cX3_symbolAt 9 = .ok (.iload_n 2, 1) := by decide +kernel
theorem dX3_symbolAt_10 : decode cX3_symbolAt 10 = .ok (.iload_n 2, 1) := by decide +kernel
theorem dX3_symbolAt_11 : decode cX3_symbolAt 11 = .ok (.iconst 1, 1) := by decide +kernel
theorem dX3_symbolAt_12 : decode cX3_symbolAt 12 = .ok (.isub, 1) := by decide +kernel
theorem dX3_symbolAt_13 : decode cX3_symbolAt 13 = .ok (.iand, 1) := by decide +kernel
theorem dX3_symbolAt_14 : decode cX3_symbolAt 14 = .ok (.istore_n 2, 1) := by decide +kernel
theorem dX3_symbolAt_15 : decode cX3_symbolAt 15 = .ok (.iinc 3 1, 3) := by decide +kernel
theorem dX3_symbolAt_18 : decode cX3_symbolAt 18 = .ok (.goto (-14), 3) := by decide +kernel
theorem dX3_symbolAt_21 : decode cX3_symbolAt 21 = .ok (.iload_n 2, 1) := by decide +kernel
theorem dX3_symbolAt_22 : decode cX3_symbolAt 22 = .ok (.invokestatic 66, 3) := by decide +kernel
theorem dX3_symbolAt_25 : decode cX3_symbolAt 25 = .ok (.ireturn, 1) := by decide +kernel
theorem dX4_init_0 : decode cX4_init 0 = .ok (.aload_n 0, 1) := by decide +kernel
theorem dX4_init_1 : decode cX4_init 1 = .ok (.invokespecial 1, 3) := by decide +kernel
theorem dX4_init_4 : decode cX4_init 4 = .ok (.aload_n 0, 1) := by decide +kernel
theorem dX4_init_5 : decode cX4_init 5 = .ok (.iload_n 1, 1) := by decide +kernel
theorem dX4_init_6 : decode cX4_init 6 = .ok (.putfield 7, 3) := by decide +kernel
theorem dX4_init_9 : decode cX4_init 9 = .ok (.aload_n 0, 1) := by decide +kernel
theorem dX4_init_10 : decode cX4_init 10 = .ok (.iload_n 1, 1) := by decide +kernel
theorem dX4_init_11 : decode cX4_init 11 = .ok (.iload_n 1, 1) := by decide +kernel
theorem dX4_init_12 : decode cX4_init 12 = .ok (.imul, 1) := by decide +kernel
theorem dX4_init_13 : decode cX4_init 13 = .ok (.putfield 13, 3) := by decide +kernel
theorem dX4_init_16 : decode cX4_init 16 = .ok (.aload_n 0, 1) := by decide +kernel
theorem dX4_init_17 : decode cX4_init 17 = .ok (.iconst 1, 1) := by decide +kernel
theorem dX4_init_18 : decode cX4_init 18 = .ok (.iload_n 1, 1) := by decide +kernel
theorem dX4_init_19 : decode cX4_init 19 = .ok (.ishl, 1) := by decide +kernel
theorem dX4_init_20 : decode cX4_init 20 = .ok (.iconst 1, 1) := by decide +kernel
theorem dX4_init_21 : decode cX4_init 21 = .ok (.isub, 1) := by decide +kernel
theorem dX4_init_22 : decode cX4_init 22 = .ok (.putfield 16, 3) := by decide +kernel
theorem dX4_init_25 : decode cX4_init 25 = .ok (.aload_n 0, 1) := by decide +kernel
theorem dX4_init_26 : decode cX4_init 26 = .ok (.aload_n 0, 1) := by decide +kernel
theorem dX4_init_27 : decode cX4_init 27 = .ok (.getfield 13, 3) := by decide +kernel
theorem dX4_init_30 : decode cX4_init 30 = .ok (.newarray .int, 2) := by decide +kernel
theorem dX4_init_32 : decode cX4_init 32 = .ok (.putfield 19, 3) := by decide +kernel
theorem dX4_init_35 : decode cX4_init 35 = .ok (.aload_n 0, 1) := by decide +kernel
theorem dX4_init_36 : decode cX4_init 36 = .ok (.aload_n 0, 1) := by decide +kernel
theorem dX4_init_37 : decode cX4_init 37 = .ok (.getfield 13, 3) := by decide +kernel
theorem dX4_init_40 : decode cX4_init 40 = .ok (.newarray .int, 2) := by decide +kernel
theorem dX4_init_42 : decode cX4_init 42 = .ok (.putfield 23, 3) := by decide +kernel
theorem dX4_init_45 : decode cX4_init 45 = .ok (.aload_n 0, 1) := by decide +kernel
theorem dX4_init_46 : decode cX4_init 46 = .ok (.aload_n 0, 1) := by decide +kernel
theorem dX4_init_47 : decode cX4_init 47 = .ok (.getfield 13, 3) := by decide +kernel
theorem dX4_init_50 : decode cX4_init 50 = .ok (.newarray .int, 2) := by decide +kernel
theorem dX4_init_52 : decode cX4_init 52 = .ok (.putfield 26, 3) := by decide +kernel
theorem dX4_init_55 : decode cX4_init 55 = .ok (.aload_n 0, 1) := by decide +kernel
theorem dX4_init_56 : decode cX4_init 56 = .ok (.iconst 3, 1) := by decide +kernel
theorem dX4_init_57 : decode cX4_init 57 = .ok (.iload_n 1, 1) := by decide +kernel
theorem dX4_init_58 : decode cX4_init 58 = .ok (.imul, 1) := by decide +kernel
theorem dX4_init_59 : decode cX4_init 59 = .ok (.iload_n 1, 1) := by decide +kernel
theorem dX4_init_60 : decode cX4_init 60 = .ok (.multianewarray 29 2, 4) := by decide +kernel
theorem dX4_init_64 : decode cX4_init 64 = .ok (.putfield 31, 3) := by decide +kernel
theorem dX4_init_67 : decode cX4_init 67 = .ok (.iload_n 1, 1) := by decide +kernel
theorem dX4_init_68 : decode cX4_init 68 = .ok (.iconst 2, 1) := by decide +kernel
theorem dX4_init_69 : decode cX4_init 69 = .ok (.idiv, 1) := by decide +kernel
theorem dX4_init_70 : decode cX4_init 70 = .ok (.istore_n 2, 1) := by decide +kernel
theorem dX4_init_71 : decode cX4_init 71 = .ok (.iconst 0, 1) := by decide +kernel
theorem dX4_init_72 : decode cX4_init 72 = .ok (.istore_n 3, 1) := by decide +kernel
theorem dX4_init_73 : decode cX4_init 73 = .ok (.iload_n 3, 1) := by decide +kernel
theorem dX4_init_74 : decode cX4_init 74 = .ok (.iload_n 1, 1) := by decide +kernel
theorem dX4_init_75 : decode cX4_init 75 = .ok (.if_icmp .ge 154, 3) := by decide +kernel
theorem dX4_init_78 : decode cX4_init 78 = .ok (.iconst 0, 1) := by decide +kernel
theorem dX4_init_79 : decode cX4_init 79 = .ok (.istore 4, 2) := by decide +kernel
theorem dX4_init_81 : decode cX4_init 81 = .ok (.iload 4, 2) := by decide +kernel
theorem dX4_init_83 : decode cX4_init 83 = .ok (.iload_n 1, 1) := by decide +kernel
theorem dX4_init_84 : decode cX4_init 84 = .ok (.if_icmp .ge 139, 3) := by decide +kernel
theorem dX4_init_87 : decode cX4_init 87 = .ok (.iload_n 1, 1) := by decide +kernel
theorem dX4_init_88 : decode cX4_init 88 = .ok (.iload_n 3, 1) := by decide +kernel
theorem dX4_init_89 : decode cX4_init 89 = .ok (.imul, 1) := by decide +kernel
theorem dX4_init_90 : decode cX4_init 90 = .ok (.iload 4, 2) := by decide +kernel
theorem dX4_init_92 : decode cX4_init 92 = .ok (.iadd, 1) := by decide +kernel
theorem dX4_init_93 : decode cX4_init 93 = .ok (.istore 5, 2) := by decide +kernel
theorem dX4_init_95 : decode cX4_init 95 = .ok (.iload_n 3, 1) := by decide +kernel
theorem dX4_init_96 : decode cX4_init 96 = .ok (.iconst 2, 1) := by decide +kernel
theorem dX4_init_97 : decode cX4_init 97 = .ok (.idiv, 1) := by decide +kernel
theorem dX4_init_98 : decode cX4_init 98 = .ok (.iconst 2, 1) := by decide +kernel
theorem dX4_init_99 : decode cX4_init 99 = .ok (.imul, 1) := by decide +kernel
theorem dX4_init_100 : decode cX4_init 100 = .ok (.istore 6, 2) := by decide +kernel
theorem dX4_init_102 : decode cX4_init 102 = .ok (.iload 4, 2) := by decide +kernel
theorem dX4_init_104 : decode cX4_init 104 = .ok (.iload_n 2, 1) := by decide +kernel
theorem dX4_init_105 : decode cX4_init 105 = .ok (.if_icmp .lt 7, 3) := by decide +kernel
theorem dX4_init_108 : decode cX4_init 108 = .ok (.iconst 1, 1) := by decide +kernel
theorem dX4_init_109 : decode cX4_init 109 = .ok (.goto 4, 3) := by decide +kernel
theorem dX4_init_112 : decode cX4_init 112 = .ok (.iconst 0, 1) := by decide +kernel
theorem dX4_init_113 : decode cX4_init 113 = .ok (.istore 7, 2) := by decide +kernel
theorem dX4_init_115 : decode cX4_init 115 = .ok (.aload_n 0, 1) := by decide +kernel
theorem dX4_init_116 : decode cX4_init 116 = .ok (.getfield 19, 3) := by decide +kernel
theorem dX4_init_119 : decode cX4_init 119 = .ok (.iload 5, 2) := by decide +kernel
theorem dX4_init_121 : decode cX4_init 121 = .ok (.iload_n 3, 1) := by decide +kernel
theorem dX4_init_122 : decode cX4_init 122 = .ok (.iastore, 1) := by decide +kernel
theorem dX4_init_123 : decode cX4_init 123 = .ok (.aload_n 0, 1) := by decide +kernel
theorem dX4_init_124 : decode cX4_init 124 = .ok (.getfield 23, 3) := by decide +kernel
theorem dX4_init_127 : decode cX4_init 127 = .ok (.iload 5, 2) := by decide +kernel
theorem dX4_init_129 : decode cX4_init 129 = .ok (.iload 4, 2) := by decide +kernel
theorem dX4_init_131 : decode cX4_init 131 = .ok (.iastore, 1) := by decide +kernel
theorem dX4_init_132 : decode cX4_init 132 = .ok (.aload_n 0, 1) := by decide +kernel
theorem dX4_init_133 : decode cX4_init 133 = .ok (.getfield 26, 3) := by decide +kernel
theorem dX4_init_136 : decode cX4_init 136 = .ok (.iload 5, 2) := by decide +kernel
theorem dX4_init_138 : decode cX4_init 138 = .ok (.iload 7, 2) := by decide +kernel
theorem dX4_init_140 : decode cX4_init 140 = .ok (.ifCond .eq 10, 3) := by decide +kernel
theorem dX4_init_143 : decode cX4_init 143 = .ok (.iload 6, 2) := by decide +kernel
theorem dX4_init_145 : decode cX4_init 145 = .ok (.iconst 1, 1) := by decide +kernel
theorem dX4_init_146 : decode cX4_init 146 = .ok (.iadd, 1) := by decide +kernel
theorem dX4_init_147 : decode cX4_init 147 = .ok (.goto 5, 3) := by decide +kernel
theorem dX4_init_150 : decode cX4_init 150 = .ok (.iload 6, 2) := by decide +kernel
theorem dX4_init_152 : decode cX4_init 152 = .ok (.iastore, 1) := by decide +kernel
theorem dX4_init_153 : decode cX4_init 153 = .ok (.aload_n 0, 1) := by decide +kernel
theorem dX4_init_154 : decode cX4_init 154 = .ok (.getfield 31, 3) := by decide +kernel
theorem dX4_init_157 : decode cX4_init 157 = .ok (.iload_n 3, 1) := by decide +kernel
theorem dX4_init_158 : decode cX4_init 158 = .ok (.aaload, 1) := by decide +kernel
theorem dX4_init_159 : decode cX4_init 159 = .ok (.iload 4, 2) := by decide +kernel
theorem dX4_init_161 : decode cX4_init 161 = .ok (.iload 5, 2) := by decide +kernel
theorem dX4_init_163 : decode cX4_init 163 = .ok (.iastore, 1) := by decide +kernel
theorem dX4_init_164 : decode cX4_init 164 = .ok (.aload_n 0, 1) := by decide +kernel
theorem dX4_init_165 : decode cX4_init 165 = .ok (.getfield 31, 3) := by decide +kernel
theorem dX4_init_168 : decode cX4_init 168 = .ok (.iload_n 1, 1) := by decide +kernel
theorem dX4_init_169 : decode cX4_init 169 = .ok (.iload 4, 2) := by decide +kernel
theorem dX4_init_171 : decode cX4_init 171 = .ok (.iadd, 1) := by decide +kernel
theorem dX4_init_172 : decode cX4_init 172 = .ok (.aaload, 1) := by decide +kernel
theorem dX4_init_173 : decode cX4_init 173 = .ok (.iload_n 3, 1) := by decide +kernel
theorem dX4_init_174 : decode cX4_init 174 = .ok (.iload 5, 2) := by decide +kernel
theorem dX4_init_176 : decode cX4_init 176 = .ok (.iastore, 1) := by decide +kernel
theorem dX4_init_177 : decode cX4_init 177 = .ok (.aload_n 0, 1) := by decide +kernel
theorem dX4_init_178 : decode cX4_init 178 = .ok (.getfield 31, 3) := by decide +kernel
theorem dX4_init_181 : decode cX4_init 181 = .ok (.iconst 2, 1) := by decide +kernel
theorem dX4_init_182 : decode cX4_init 182 = .ok (.iload_n 1, 1) := by decide +kernel
theorem dX4_init_183 : decode cX4_init 183 = .ok (.imul, 1) := by decide +kernel
theorem dX4_init_184 : decode cX4_init 184 = .ok (.aload_n 0, 1) := by decide +kernel
theorem dX4_init_185 : decode cX4_init 185 = .ok (.getfield 26, 3) := by decide +kernel
theorem dX4_init_188 : decode cX4_init 188 = .ok (.iload 5, 2) := by decide +kernel
theorem dX4_init_190 : decode cX4_init 190 = .ok (.iaload, 1) := by decide +kernel
theorem dX4_init_191 : decode cX4_init 191 = .ok (.iadd, 1) := by decide +kernel
theorem dX4_init_192 : decode cX4_init 192 = .ok (.aaload, 1) := by decide +kernel
theorem dX4_init_193 : decode cX4_init 193 = .ok (.iload_n 3, 1) := by decide +kernel
theorem dX4_init_194 : decode cX4_init 194 = .ok (.iload 6, 2) := by decide +kernel
theorem dX4_init_196 : decode cX4_init 196 = .ok (.isub, 1) := by decide +kernel
theorem dX4_init_197 : decode cX4_init 197 = .ok (.iload_n 2, 1) := by decide +kernel
theorem dX4_init_198 : decode cX4_init 198 = .ok (.imul, 1) := by decide +kernel
theorem dX4_init_199 : decode cX4_init 199 = .ok (.iload 7, 2) := by decide +kernel
theorem dX4_init_201 : decode cX4_init 201 = .ok (.ifCond .eq 10, 3) := by decide +kernel
theorem dX4_init_204 : decode cX4_init 204 = .ok (.iload 4, 2) := by decide +kernel
theorem dX4_init_206 : decode cX4_init 206 = .ok (.iload_n 2, 1) := by decide +kernel
theorem dX4_init_207 : decode cX4_init 207 = .ok (.isub, 1) := by decide +kernel
theorem dX4_init_208 : decode cX4_init 208 = .ok (.goto 5, 3) := by decide +kernel
theorem dX4_init_211 : decode cX4_init 211 = .ok (.iload 4, 2) := by decide +kernel
theorem dX4_init_213 : decode cX4_init 213 = .ok (.iadd, 1) := by decide +kernel
theorem dX4_init_214 : decode cX4_init 214 = .ok (.iload 5, 2) := by decide +kernel
theorem dX4_init_216 : decode cX4_init 216 = .ok (.iastore, 1) := by decide +kernel
theorem dX4_init_217 : decode cX4_init 217 = .ok (.iinc 4 1, 3) := by decide +kernel
theorem dX4_init_220 : decode cX4_init 220 = .ok (.goto (-139), 3) := by decide +kernel
theorem dX4_init_223 : decode cX4_init 223 = .ok (.iinc 3 1, 3) := by decide +kernel
theorem dX4_init_226 : decode cX4_init 226 = .ok (.goto (-153), 3) := by decide +kernel
theorem dX4_init_229 : decode cX4_init 229 = .ok (.return_, 1) := by decide +kernel
theorem dX4_has_0 : decode cX4_has 0 = .ok (.iload_n 1, 1) := by decide +kernel
theorem dX4_has_1 : decode cX4_has 1 = .ok (.ifCond .lt 15, 3) := by decide +kernel
theorem dX4_has_4 : decode cX4_has 4 = .ok (.iload_n 1, 1) := by decide +kernel
theorem dX4_has_5 : decode cX4_has 5 = .ok (.aload_n 0, 1) := by decide +kernel
theorem dX4_has_6 : decode cX4_has 6 = .ok (.getfield 13, 3) := by decide +kernel
theorem dX4_has_9 : decode cX4_has 9 = .ok (.if_icmp .ge 7, 3) := by decide +kernel
theorem dX4_has_12 : decode cX4_has 12 = .ok (.iconst 1, 1) := by decide +kernel
theorem dX4_has_13 : decode cX4_has 13 = .ok (.goto 4, 3) := by decide +kernel
theorem dX4_has_16 : decode cX4_has 16 = .ok (.iconst 0, 1) := by decide +kernel
theorem dX4_has_17 : decode cX4_has 17 = .ok (.ireturn, 1) := by decide +kernel
theorem dJx00060_init_a7421_0 : decode cJx00060_init_a7421 0 = .ok (.aload_n 0, 1) := by decide +kernel
theorem dJx00060_init_a7421_1 : decode cJx00060_init_a7421 1 = .ok (.aload_n 1, 1) := by decide +kernel
theorem dJx00060_init_a7421_2 : decode cJx00060_init_a7421 2 = .ok (.invokespecial 7, 3) := by decide +kernel
theorem dJx00060_init_a7421_5 : decode cJx00060_init_a7421 5 = .ok (.return_, 1) := by decide +kernel
theorem dJ6_numberOfTrailingZeros_0f7a4_0 : decode cJ6_numberOfTrailingZeros_0f7a4 0 = .ok (.iload_n 0, 1) := by decide +kernel
theorem dJ6_numberOfTrailingZeros_0f7a4_1 : decode cJ6_numberOfTrailingZeros_0f7a4 1 = .ok (.iconst (-1), 1) := by decide +kernel
theorem dJ6_numberOfTrailingZeros_0f7a4_2 : decode cJ6_numberOfTrailingZeros_0f7a4 2 = .ok (.ixor, 1) := by decide +kernel
theorem dJ6_numberOfTrailingZeros_0f7a4_3 : decode cJ6_numberOfTrailingZeros_0f7a4 3 = .ok (.iload_n 0, 1) := by decide +kernel
theorem dJ6_numberOfTrailingZeros_0f7a4_4 : decode cJ6_numberOfTrailingZeros_0f7a4 4 = .ok (.iconst 1, 1) := by decide +kernel
theorem dJ6_numberOfTrailingZeros_0f7a4_5 : decode cJ6_numberOfTrailingZeros_0f7a4 5 = .ok (.isub, 1) := by decide +kernel
theorem dJ6_numberOfTrailingZeros_0f7a4_6 : decode cJ6_numberOfTrailingZeros_0f7a4 6 = .ok (.iand, 1) := by decide +kernel
theorem dJ6_numberOfTrailingZeros_0f7a4_7 : decode cJ6_numberOfTrailingZeros_0f7a4 7 = .ok (.istore_n 0, 1) := by decide +kernel
theorem dJ6_numberOfTrailingZeros_0f7a4_8 : decode cJ6_numberOfTrailingZeros_0f7a4 8 = .ok (.iload_n 0, 1) := by decide +kernel
theorem dJ6_numberOfTrailingZeros_0f7a4_9 : decode cJ6_numberOfTrailingZeros_0f7a4 9 = .ok (.ifCond .gt 8, 3) := by decide +kernel
theorem dJ6_numberOfTrailingZeros_0f7a4_12 : decode cJ6_numberOfTrailingZeros_0f7a4 12 = .ok (.iload_n 0, 1) := by decide +kernel
theorem dJ6_numberOfTrailingZeros_0f7a4_13 : decode cJ6_numberOfTrailingZeros_0f7a4 13 = .ok (.bipush 32, 2) := by decide +kernel
theorem dJ6_numberOfTrailingZeros_0f7a4_15 : decode cJ6_numberOfTrailingZeros_0f7a4 15 = .ok (.iand, 1) := by decide +kernel
theorem dJ6_numberOfTrailingZeros_0f7a4_16 : decode cJ6_numberOfTrailingZeros_0f7a4 16 = .ok (.ireturn, 1) := by decide +kernel
theorem dJ6_numberOfTrailingZeros_0f7a4_17 : decode cJ6_numberOfTrailingZeros_0f7a4 17 = .ok (.iconst 1, 1) := by decide +kernel
theorem dJ6_numberOfTrailingZeros_0f7a4_18 : decode cJ6_numberOfTrailingZeros_0f7a4 18 = .ok (.istore_n 1, 1) := by decide +kernel
theorem dJ6_numberOfTrailingZeros_0f7a4_19 : decode cJ6_numberOfTrailingZeros_0f7a4 19 = .ok (.iload_n 0, 1) := by decide +kernel
theorem dJ6_numberOfTrailingZeros_0f7a4_20 : decode cJ6_numberOfTrailingZeros_0f7a4 20 = .ok (.ldc_w 264, 3) := by decide +kernel
theorem dJ6_numberOfTrailingZeros_0f7a4_23 : decode cJ6_numberOfTrailingZeros_0f7a4 23 = .ok (.if_icmp .le 11, 3) := by decide +kernel
theorem dJ6_numberOfTrailingZeros_0f7a4_26 : decode cJ6_numberOfTrailingZeros_0f7a4 26 = .ok (.iinc 1 16, 3) := by decide +kernel
theorem dJ6_numberOfTrailingZeros_0f7a4_29 : decode cJ6_numberOfTrailingZeros_0f7a4 29 = .ok (.iload_n 0, 1) := by decide +kernel
theorem dJ6_numberOfTrailingZeros_0f7a4_30 : decode cJ6_numberOfTrailingZeros_0f7a4 30 = .ok (.bipush 16, 2) := by decide +kernel
theorem dJ6_numberOfTrailingZeros_0f7a4_32 : decode cJ6_numberOfTrailingZeros_0f7a4 32 = .ok (.iushr, 1) := by decide +kernel
theorem dJ6_numberOfTrailingZeros_0f7a4_33 : decode cJ6_numberOfTrailingZeros_0f7a4 33 = .ok (.istore_n 0, 1) := by decide +kernel
theorem dJ6_numberOfTrailingZeros_0f7a4_34 : decode cJ6_numberOfTrailingZeros_0f7a4 34 = .ok (.iload_n 0, 1) := by decide +kernel
theorem dJ6_numberOfTrailingZeros_0f7a4_35 : decode cJ6_numberOfTrailingZeros_0f7a4 35 = .ok (.sipush 256, 3) := by decide +kernel
theorem dJ6_numberOfTrailingZeros_0f7a4_38 : decode cJ6_numberOfTrailingZeros_0f7a4 38 = .ok (.if_icmp .le 11, 3) := by decide +kernel
theorem dJ6_numberOfTrailingZeros_0f7a4_41 : decode cJ6_numberOfTrailingZeros_0f7a4 41 = .ok (.iinc 1 8, 3) := by decide +kernel
theorem dJ6_numberOfTrailingZeros_0f7a4_44 : decode cJ6_numberOfTrailingZeros_0f7a4 44 = .ok (.iload_n 0, 1) := by decide +kernel
theorem dJ6_numberOfTrailingZeros_0f7a4_45 : decode cJ6_numberOfTrailingZeros_0f7a4 45 = .ok (.bipush 8, 2) := by decide +kernel
theorem dJ6_numberOfTrailingZeros_0f7a4_47 : decode cJ6_numberOfTrailingZeros_0f7a4 47 = .ok (.iushr, 1) := by decide +kernel
theorem dJ6_numberOfTrailingZeros_0f7a4_48 : decode cJ6_numberOfTrailingZeros_0f7a4 48 = .ok (.istore_n 0, 1) := by decide +kernel
theorem dJ6_numberOfTrailingZeros_0f7a4_49 : decode cJ6_numberOfTrailingZeros_0f7a4 49 = .ok (.iload_n 0, 1) := by decide +kernel
theorem dJ6_numberOfTrailingZeros_0f7a4_50 : decode cJ6_numberOfTrailingZeros_0f7a4 50 = .ok (.bipush 16, 2) := by decide +kernel
theorem dJ6_numberOfTrailingZeros_0f7a4_52 : decode cJ6_numberOfTrailingZeros_0f7a4 52 = .ok (.if_icmp .le 10, 3) := by decide +kernel
theorem dJ6_numberOfTrailingZeros_0f7a4_55 : decode cJ6_numberOfTrailingZeros_0f7a4 55 = .ok (.iinc 1 4, 3) := by decide +kernel
theorem dJ6_numberOfTrailingZeros_0f7a4_58 : decode cJ6_numberOfTrailingZeros_0f7a4 58 = .ok (.iload_n 0, 1) := by decide +kernel
theorem dJ6_numberOfTrailingZeros_0f7a4_59 : decode cJ6_numberOfTrailingZeros_0f7a4 59 = .ok (.iconst 4, 1) := by decide +kernel
theorem dJ6_numberOfTrailingZeros_0f7a4_60 : decode cJ6_numberOfTrailingZeros_0f7a4 60 = .ok (.iushr, 1) := by decide +kernel
theorem dJ6_numberOfTrailingZeros_0f7a4_61 : decode cJ6_numberOfTrailingZeros_0f7a4 61 = .ok (.istore_n 0, 1) := by decide +kernel
theorem dJ6_numberOfTrailingZeros_0f7a4_62 : decode cJ6_numberOfTrailingZeros_0f7a4 62 = .ok (.iload_n 0, 1) := by decide +kernel
theorem dJ6_numberOfTrailingZeros_0f7a4_63 : decode cJ6_numberOfTrailingZeros_0f7a4 63 = .ok (.iconst 4, 1) := by decide +kernel
theorem dJ6_numberOfTrailingZeros_0f7a4_64 : decode cJ6_numberOfTrailingZeros_0f7a4 64 = .ok (.if_icmp .le 10, 3) := by decide +kernel
theorem dJ6_numberOfTrailingZeros_0f7a4_67 : decode cJ6_numberOfTrailingZeros_0f7a4 67 = .ok (.iinc 1 2, 3) := by decide +kernel
theorem dJ6_numberOfTrailingZeros_0f7a4_70 : decode cJ6_numberOfTrailingZeros_0f7a4 70 = .ok (.iload_n 0, 1) := by decide +kernel
theorem dJ6_numberOfTrailingZeros_0f7a4_71 : decode cJ6_numberOfTrailingZeros_0f7a4 71 = .ok (.iconst 2, 1) := by decide +kernel
theorem dJ6_numberOfTrailingZeros_0f7a4_72 : decode cJ6_numberOfTrailingZeros_0f7a4 72 = .ok (.iushr, 1) := by decide +kernel
theorem dJ6_numberOfTrailingZeros_0f7a4_73 : decode cJ6_numberOfTrailingZeros_0f7a4 73 = .ok (.istore_n 0, 1) := by decide +kernel
theorem dJ6_numberOfTrailingZeros_0f7a4_74 : decode cJ6_numberOfTrailingZeros_0f7a4 74 = .ok (.iload_n 1, 1) := by decide +kernel
theorem dJ6_numberOfTrailingZeros_0f7a4_75 : decode cJ6_numberOfTrailingZeros_0f7a4 75 = .ok (.iload_n 0, 1) := by decide +kernel
theorem dJ6_numberOfTrailingZeros_0f7a4_76 : decode cJ6_numberOfTrailingZeros_0f7a4 76 = .ok (.iconst 1, 1) := by decide +kernel
theorem dJ6_numberOfTrailingZeros_0f7a4_77 : decode cJ6_numberOfTrailingZeros_0f7a4 77 = .ok (.iushr, 1) := by decide +kernel
theorem dJ6_numberOfTrailingZeros_0f7a4_78 : decode cJ6_numberOfTrailingZeros_0f7a4 78 = .ok (.iadd, 1) := by decide +kernel
theorem dJ6_numberOfTrailingZeros_0f7a4_79 : decode cJ6_numberOfTrailingZeros_0f7a4 79 = .ok (.ireturn, 1) := by decide +kernel
theorem dJ6_bitCount_0f7a4_0 : decode cJ6_bitCount_0f7a4 0 = .ok (.iload_n 0, 1) := by decide +kernel
theorem dJ6_bitCount_0f7a4_1 : decode cJ6_bitCount_0f7a4 1 = .ok (.iload_n 0, 1) := by decide +kernel
theorem dJ6_bitCount_0f7a4_2 : decode cJ6_bitCount_0f7a4 2 = .ok (.iconst 1, 1) := by decide +kernel
theorem dJ6_bitCount_0f7a4_3 : decode cJ6_bitCount_0f7a4 3 = .ok (.iushr, 1) := by decide +kernel
theorem dJ6_bitCount_0f7a4_4 : decode cJ6_bitCount_0f7a4 4 = .ok (.ldc_w 265, 3) := by decide +kernel
theorem dJ6_bitCount_0f7a4_7 : decode cJ6_bitCount_0f7a4 7 = .ok (.iand, 1) := by decide +kernel
theorem dJ6_bitCount_0f7a4_8 : decode cJ6_bitCount_0f7a4 8 = .ok (.isub, 1) := by decide +kernel
theorem dJ6_bitCount_0f7a4_9 : decode cJ6_bitCount_0f7a4 9 = .ok (.istore_n 0, 1) := by decide +kernel
theorem dJ6_bitCount_0f7a4_10 : decode cJ6_bitCount_0f7a4 10 = .ok (.iload_n 0, 1) := by decide +kernel
theorem dJ6_bitCount_0f7a4_11 : decode cJ6_bitCount_0f7a4 11 = .ok (.ldc_w 266, 3) := by decide +kernel
theorem dJ6_bitCount_0f7a4_14 : decode cJ6_bitCount_0f7a4 14 = .ok (.iand, 1) := by decide +kernel
theorem dJ6_bitCount_0f7a4_15 : decode cJ6_bitCount_0f7a4 15 = .ok (.iload_n 0, 1) := by decide +kernel
theorem dJ6_bitCount_0f7a4_16 : decode cJ6_bitCount_0f7a4 16 = .ok (.iconst 2, 1) := by decide +kernel
theorem dJ6_bitCount_0f7a4_17 : decode cJ6_bitCount_0f7a4 17 = .ok (.iushr, 1) := by decide +kernel
theorem dJ6_bitCount_0f7a4_18 : decode cJ6_bitCount_0f7a4 18 = .ok (.ldc_w 266, 3) := by decide +kernel
theorem dJ6_bitCount_0f7a4_21 : decode cJ6_bitCount_0f7a4 21 = .ok (.iand, 1) := by decide +kernel
theorem dJ6_bitCount_0f7a4_22 : decode cJ6_bitCount_0f7a4 22 = .ok (.iadd, 1) := by decide +kernel
theorem dJ6_bitCount_0f7a4_23 : decode cJ6_bitCount_0f7a4 23 = .ok (.istore_n 0, 1) := by decide +kernel
theorem dJ6_bitCount_0f7a4_24 : decode cJ6_bitCount_0f7a4 24 = .ok (.iload_n 0, 1) := by decide +kernel
theorem dJ6_bitCount_0f7a4_25 : decode cJ6_bitCount_0f7a4 25 = .ok (.iload_n 0, 1) := by decide +kernel
theorem dJ6_bitCount_0f7a4_26 : decode cJ6_bitCount_0f7a4 26 = .ok (.iconst 4, 1) := by decide +kernel
theorem dJ6_bitCount_0f7a4_27 : decode cJ6_bitCount_0f7a4 27 = .ok (.iushr, 1) := by decide +kernel
theorem dJ6_bitCount_0f7a4_28 : decode cJ6_bitCount_0f7a4 28 = .ok (.iadd, 1) := by decide +kernel
theorem dJ6_bitCount_0f7a4_29 : decode cJ6_bitCount_0f7a4 29 = .ok (.ldc_w 267, 3) := by decide +kernel
theorem dJ6_bitCount_0f7a4_32 : decode cJ6_bitCount_0f7a4 32 = .ok (.iand, 1) := by decide +kernel
theorem dJ6_bitCount_0f7a4_33 : decode cJ6_bitCount_0f7a4 33 = .ok (.istore_n 0, 1) := by decide +kernel
theorem dJ6_bitCount_0f7a4_34 : decode cJ6_bitCount_0f7a4 34 = .ok (.iload_n 0, 1) := by decide +kernel
theorem dJ6_bitCount_0f7a4_35 : decode cJ6_bitCount_0f7a4 35 = .ok (.iload_n 0, 1) := by decide +kernel
theorem dJ6_bitCount_0f7a4_36 : decode cJ6_bitCount_0f7a4 36 = .ok (.bipush 8, 2) := by decide +kernel
theorem dJ6_bitCount_0f7a4_38 : decode cJ6_bitCount_0f7a4 38 = .ok (.iushr, 1) := by decide +kernel
theorem dJ6_bitCount_0f7a4_39 : decode cJ6_bitCount_0f7a4 39 = .ok (.iadd, 1) := by decide +kernel
theorem dJ6_bitCount_0f7a4_40 : decode cJ6_bitCount_0f7a4 40 = .ok (.istore_n 0, 1) := by decide +kernel
theorem dJ6_bitCount_0f7a4_41 : decode cJ6_bitCount_0f7a4 41 = .ok (.iload_n 0, 1) := by decide +kernel
theorem dJ6_bitCount_0f7a4_42 : decode cJ6_bitCount_0f7a4 42 = .ok (.iload_n 0, 1) := by decide +kernel
theorem dJ6_bitCount_0f7a4_43 : decode cJ6_bitCount_0f7a4 43 = .ok (.bipush 16, 2) := by decide +kernel
theorem dJ6_bitCount_0f7a4_45 : decode cJ6_bitCount_0f7a4 45 = .ok (.iushr, 1) := by decide +kernel
theorem dJ6_bitCount_0f7a4_46 : decode cJ6_bitCount_0f7a4 46 = .ok (.iadd, 1) := by decide +kernel
theorem dJ6_bitCount_0f7a4_47 : decode cJ6_bitCount_0f7a4 47 = .ok (.istore_n 0, 1) := by decide +kernel
theorem dJ6_bitCount_0f7a4_48 : decode cJ6_bitCount_0f7a4 48 = .ok (.iload_n 0, 1) := by decide +kernel
theorem dJ6_bitCount_0f7a4_49 : decode cJ6_bitCount_0f7a4 49 = .ok (.bipush 63, 2) := by decide +kernel
theorem dJ6_bitCount_0f7a4_51 : decode cJ6_bitCount_0f7a4 51 = .ok (.iand, 1) := by decide +kernel
theorem dJ6_bitCount_0f7a4_52 : decode cJ6_bitCount_0f7a4 52 = .ok (.ireturn, 1) := by decide +kernel
theorem dJ9_min_7cf53_0 : decode cJ9_min_7cf53 0 = .ok (.iload_n 0, 1) := by decide +kernel
theorem dJ9_min_7cf53_1 : decode cJ9_min_7cf53 1 = .ok (.iload_n 1, 1) := by decide +kernel
theorem dJ9_min_7cf53_2 : decode cJ9_min_7cf53 2 = .ok (.if_icmp .gt 7, 3) := by decide +kernel
theorem dJ9_min_7cf53_5 : decode cJ9_min_7cf53 5 = .ok (.iload_n 0, 1) := by decide +kernel
theorem dJ9_min_7cf53_6 : decode cJ9_min_7cf53 6 = .ok (.goto 4, 3) := by decide +kernel
theorem dJ9_min_7cf53_9 : decode cJ9_min_7cf53 9 = .ok (.iload_n 1, 1) := by decide +kernel
theorem dJ9_min_7cf53_10 : decode cJ9_min_7cf53 10 = .ok (.ireturn, 1) := by decide +kernel
