theorem dX7_init_0 : decode cX7_init 0 = .ok (.aload_n 0, 1) := by decide +kernel
theorem dX7_init_1 : decode cX7_init 1 = .ok (.invokespecial 1, 3) := by decide +kernel
theorem dX7_init_4 : decode cX7_init 4 = .ok (.aload_n 0, 1) := by decide +kernel
theorem dX7_init_5 : decode cX7_init 5 = .ok (.bipush 6, 2) := by decide +kernel
theorem dX7_init_7 : decode cX7_init 7 = .ok (.putfield 7, 3) := by decide +kernel
theorem dX7_init_10 : decode cX7_init 10 = .ok (.aload_n 0, 1) := by decide +kernel
theorem dX7_init_11 : decode cX7_init 11 = .ok (.bipush 10, 2) := by decide +kernel
theorem dX7_init_13 : decode cX7_init 13 = .ok (.newarray .int, 2) := by decide +kernel
theorem dX7_init_15 : decode cX7_init 15 = .ok (.putfield 13, 3) := by decide +kernel
theorem dX7_init_18 : decode cX7_init 18 = .ok (.aload_n 0, 1) := by decide +kernel
theorem dX7_init_19 : decode cX7_init 19 = .ok (.bipush 10, 2) := by decide +kernel
theorem dX7_init_21 : decode cX7_init 21 = .ok (.newarray .int, 2) := by decide +kernel
theorem dX7_init_23 : decode cX7_init 23 = .ok (.putfield 17, 3) := by decide +kernel
theorem dX7_init_26 : decode cX7_init 26 = .ok (.aload_n 0, 1) := by decide +kernel
theorem dX7_init_27 : decode cX7_init 27 = .ok (.bipush 10, 2) := by decide +kernel
theorem dX7_init_29 : decode cX7_init 29 = .ok (.newarray .int, 2) := by decide +kernel
theorem dX7_init_31 : decode cX7_init 31 = .ok (.putfield 20, 3) := by decide +kernel
theorem dX7_init_34 : decode cX7_init 34 = .ok (.aload_n 0, 1) := by decide +kernel
theorem dX7_init_35 : decode cX7_init 35 = .ok (.bipush 10, 2) := by decide +kernel
theorem dX7_init_37 : decode cX7_init 37 = .ok (.newarray .int, 2) := by decide +kernel
theorem dX7_init_39 : decode cX7_init 39 = .ok (.putfield 23, 3) := by decide +kernel
theorem dX7_init_42 : decode cX7_init 42 = .ok (.aload_n 0, 1) := by decide +kernel
theorem dX7_init_43 : decode cX7_init 43 = .ok (.bipush 10, 2) := by decide +kernel
theorem dX7_init_45 : decode cX7_init 45 = .ok (.newarray .int, 2) := by decide +kernel
theorem dX7_init_47 : decode cX7_init 47 = .ok (.putfield 26, 3) := by decide +kernel
theorem dX7_init_50 : decode cX7_init 50 = .ok (.aload_n 0, 1) := by decide +kernel
theorem dX7_init_51 : decode cX7_init 51 = .ok (.bipush 16, 2) := by decide +kernel
theorem dX7_init_53 : decode cX7_init 53 = .ok (.newarray .int, 2) := by decide +kernel
theorem dX7_init_55 : decode cX7_init 55 = .ok (.putfield 29, 3) := by decide +kernel
theorem dX7_init_58 : decode cX7_init 58 = .ok (.aload_n 0, 1) := by decide +kernel
theorem dX7_init_59 : decode cX7_init 59 = .ok (.bipush 60, 2) := by decide +kernel
theorem dX7_init_61 : decode cX7_init 61 = .ok (.newarray .int, 2) := by decide +kernel
theorem dX7_init_63 : decode cX7_init 63 = .ok (.putfield 32, 3) := by decide +kernel
theorem dX7_init_66 : decode cX7_init 66 = .ok (.aload_n 0, 1) := by decide +kernel
theorem dX7_init_67 : decode cX7_init 67 = .ok (.bipush 10, 2) := by decide +kernel
theorem dX7_init_69 : decode cX7_init 69 = .ok (.newarray .int, 2) := by decide +kernel
theorem dX7_init_71 : decode cX7_init 71 = .ok (.putfield 35, 3) := by decide +kernel
theorem dX7_init_74 : decode cX7_init 74 = .ok (.aload_n 0, 1) := by decide +kernel
theorem dX7_init_75 : decode cX7_init 75 = .ok (.bipush 10, 2) := by decide +kernel
theorem dX7_init_77 : decode cX7_init 77 = .ok (.newarray .int, 2) := by decide +kernel
theorem dX7_init_79 : decode cX7_init 79 = .ok (.putfield 38, 3) := by decide +kernel
theorem dX7_init_82 : decode cX7_init 82 = .ok (.aload_n 0, 1) := by decide +kernel
theorem dX7_init_83 : decode cX7_init 83 = .ok (.bipush 10, 2) := by decide +kernel
theorem dX7_init_85 : decode cX7_init 85 = .ok (.newarray .long, 2) := by decide +kernel
theorem dX7_init_87 : decode cX7_init 87 = .ok (.putfield 41, 3) := by decide +kernel
theorem dX7_init_90 : decode cX7_init 90 = .ok (.aload_n 0, 1) := by decide +kernel
theorem dX7_init_91 : decode cX7_init 91 = .ok (.bipush 6, 2) := by decide +kernel
theorem dX7_init_93 : decode cX7_init 93 = .ok (.newarray .int, 2) := by decide +kernel
theorem dX7_init_95 : decode cX7_init 95 = .ok (.putfield 45, 3) := by decide +kernel
theorem dX7_init_98 : decode cX7_init 98 = .ok (.aload_n 0, 1) := by decide +kernel
theorem dX7_init_99 : decode cX7_init 99 = .ok (.bipush 6, 2) := by decide +kernel
theorem dX7_init_101 : decode cX7_init 101 = .ok (.newarray .int, 2) := by decide +kernel
theorem dX7_init_103 : decode cX7_init 103 = .ok (.putfield 48, 3) := by decide +kernel
theorem dX7_init_106 : decode cX7_init 106 = .ok (.aload_n 0, 1) := by decide +kernel
theorem dX7_init_107 : decode cX7_init 107 = .ok (.iconst 3, 1) := by decide +kernel
theorem dX7_init_108 : decode cX7_init 108 = .ok (.newarray .int, 2) := by decide +kernel
theorem dX7_init_110 : decode cX7_init 110 = .ok (.putfield 51, 3) := by decide +kernel
theorem dX7_init_113 : decode cX7_init 113 = .ok (.aload_n 0, 1) := by decide +kernel
theorem dX7_init_114 : decode cX7_init 114 = .ok (.bipush 110, 2) := by decide +kernel
theorem dX7_init_116 : decode cX7_init 116 = .ok (.newarray .int, 2) := by decide +kernel
theorem dX7_init_118 : decode cX7_init 118 = .ok (.putfield 54, 3) := by decide +kernel
theorem dX7_init_121 : decode cX7_init 121 = .ok (.aload_n 0, 1) := by decide +kernel
theorem dX7_init_122 : decode cX7_init 122 = .ok (.sipush 160, 3) := by decide +kernel
theorem dX7_init_125 : decode cX7_init 125 = .ok (.newarray .int, 2) := by decide +kernel
theorem dX7_init_127 : decode cX7_init 127 = .ok (.putfield 57, 3) := by decide +kernel
theorem dX7_init_130 : decode cX7_init 130 = .ok (.aload_n 0, 1) := by decide +kernel
theorem dX7_init_131 : decode cX7_init 131 = .ok (.iconst 2, 1) := by decide +kernel
theorem dX7_init_132 : decode cX7_init 132 = .ok (.newarray .boolean, 2) := by decide +kernel
theorem dX7_init_134 : decode cX7_init 134 = .ok (.putfield 60, 3) := by decide +kernel
theorem dX7_init_137 : decode cX7_init 137 = .ok (.aload_n 0, 1) := by decide +kernel
theorem dX7_init_138 : decode cX7_init 138 = .ok (.invokevirtual 64, 3) := by decide +kernel
theorem dX7_init_141 : decode cX7_init 141 = .ok (.return_, 1) := by decide +kernel
theorem dX7_clear_0 : decode cX7_clear 0 = .ok (.aload_n 0, 1) := by decide +kernel
theorem dX7_clear_1 : decode cX7_clear 1 = .ok (.iconst 0, 1) := by decide +kernel
theorem dX7_clear_2 : decode cX7_clear 2 = .ok (.putfield 67, 3) := by decide +kernel
theorem dX7_clear_5 : decode cX7_clear 5 = .ok (.aload_n 0, 1) := by decide +kernel
theorem dX7_clear_6 : decode cX7_clear 6 = .ok (.iconst 0, 1) := by decide +kernel
theorem dX7_clear_7 : decode cX7_clear 7 = .ok (.putfield 70, 3) := by decide +kernel
theorem dX7_clear_10 : decode cX7_clear 10 = .ok (.iconst 0, 1) := by decide +kernel
theorem dX7_clear_11 : decode cX7_clear 11 = .ok (.istore_n 1, 1) := by decide +kernel
theorem dX7_clear_12 : decode cX7_clear 12 = .ok (.iload_n 1, 1) := by decide +kernel
theorem dX7_clear_13 : decode cX7_clear 13 = .ok (.bipush 10, 2) := by decide +kernel
theorem dX7_clear_15 : decode cX7_clear 15 = .ok (.if_icmp .ge 25, 3) := by decide +kernel
theorem dX7_clear_18 : decode cX7_clear 18 = .ok (.aload_n 0, 1) := by decide +kernel
theorem dX7_clear_19 : decode cX7_clear 19 = .ok (.getfield 23, 3) := by decide +kernel
theorem dX7_clear_22 : decode cX7_clear 22 = .ok (.iload_n 1, 1) := by decide +kernel
theorem dX7_clear_23 : decode cX7_clear 23 = .ok (.bipush (-6), 2) := by decide +kernel
theorem dX7_clear_25 : decode cX7_clear 25 = .ok (.iastore, 1) := by decide +kernel
theorem dX7_clear_26 : decode cX7_clear 26 = .ok (.aload_n 0, 1) := by decide +kernel
theorem dX7_clear_27 : decode cX7_clear 27 = .ok (.getfield 26, 3) := by decide +kernel
theorem dX7_clear_30 : decode cX7_clear 30 = .ok (.iload_n 1, 1) := by decide +kernel
theorem dX7_clear_31 : decode cX7_clear 31 = .ok (.bipush (-6), 2) := by decide +kernel
theorem dX7_clear_33 : decode cX7_clear 33 = .ok (.iastore, 1) := by decide +kernel
theorem dX7_clear_34 : decode cX7_clear 34 = .ok (.iinc 1 1, 3) := by decide +kernel
theorem dX7_clear_37 : decode cX7_clear 37 = .ok (.goto (-25), 3) := by decide +kernel
theorem dX7_clear_40 : decode cX7_clear 40 = .ok (.return_, 1) := by decide +kernel
theorem dX7_in_0 : decode cX7_in 0 = .ok (.iload_n 0, 1) := by decide +kernel
theorem dX7_in_1 : decode cX7_in 1 = .ok (.iload_n 1, 1) := by decide +kernel
theorem dX7_in_2 : decode cX7_in 2 = .ok (.if_icmp .lt 12, 3) := by decide +kernel
theorem dX7_in_5 : decode cX7_in 5 = .ok (.iload_n 0, 1) := by decide +kernel
theorem dX7_in_6 : decode cX7_in 6 = .ok (.iload_n 2, 1) := by decide +kernel
theorem dX7_in_7 : decode cX7_in 7 = .ok (.if_icmp .gt 7, 3) := by decide +kernel
theorem dX7_in_10 : decode cX7_in 10 = .ok (.iconst 1, 1) := by decide +kernel
theorem dX7_in_11 : decode cX7_in 11 = .ok (.goto 4, 3) := by decide +kernel
theorem dX7_in_14 : decode cX7_in 14 = .ok (.iconst 0, 1) := by decide +kernel
theorem dX7_in_15 : decode cX7_in 15 = .ok (.ireturn, 1) := by decide +kernel
theorem dX7_has_0 : decode cX7_has 0 = .ok (.iload_n 0, 1) := by decide +kernel
theorem dX7_has_1 : decode cX7_has 1 = .ok (.iload_n 1, 1) := by decide +kernel
theorem dX7_has_2 : decode cX7_has 2 = .ok (.ishr, 1) := by decide +kernel
theorem dX7_has_3 : decode cX7_has 3 = .ok (.iconst 1, 1) := by decide +kernel
theorem dX7_has_4 : decode cX7_has 4 = .ok (.iand, 1) := by decide +kernel
theorem dX7_has_5 : decode cX7_has 5 = .ok (.iconst 1, 1) := by decide +kernel
theorem dX7_has_6 : decode cX7_has 6 = .ok (.if_icmp .ne 7, 3) := by decide +kernel
theorem dX7_has_9 : decode cX7_has 9 = .ok (.iconst 1, 1) := by decide +kernel
theorem dX7_has_10 : decode cX7_has 10 = .ok (.goto 4, 3) := by decide +kernel
theorem dX7_has_13 : decode cX7_has 13 = .ok (.iconst 0, 1) := by decide +kernel
theorem dX7_has_14 : decode cX7_has 14 = .ok (.ireturn, 1) := by decide +kernel
theorem dX7_bits_0 : decode cX7_bits 0 = .ok (.iconst 0, 1) := by decide +kernel
theorem dX7_bits_1 : decode cX7_bits 1 = .ok (.istore_n 1, 1) := by decide +kernel
theorem dX7_bits_2 : decode cX7_bits 2 = .ok (.iconst 0, 1) := by decide +kernel
theorem dX7_bits_3 : decode cX7_bits 3 = .ok (.istore_n 2, 1) := by decide +kernel
theorem dX7_bits_4 : decode cX7_bits 4 = .ok (.iload_n 2, 1) := by decide +kernel
theorem dX7_bits_5 : decode cX7_bits 5 = .ok (.bipush 10, 2) := by decide +kernel
theorem dX7_bits_7 : decode cX7_bits 7 = .ok (.if_icmp .ge 17, 3) := by decide +kernel
theorem dX7_bits_10 : decode cX7_bits 10 = .ok (.iload_n 1, 1) := by decide +kernel
theorem dX7_bits_11 : decode cX7_bits 11 = .ok (.iload_n 0, 1) := by decide +kernel
theorem dX7_bits_12 : decode cX7_bits 12 = .ok (.iload_n 2, 1) := by decide +kernel
theorem dX7_bits_13 : decode cX7_bits 13 = .ok (.ishr, 1) := by decide +kernel
theorem dX7_bits_14 : decode cX7_bits 14 = .ok (.iconst 1, 1) := by decide +kernel
theorem dX7_bits_15 : decode cX7_bits 15 = .ok (.iand, 1) := by decide +kernel
theorem dX7_bits_16 : decode cX7_bits 16 = .ok (.iadd, 1) := by decide +kernel
theorem dX7_bits_17 : decode cX7_bits 17 = .ok (.istore_n 1, 1) := by decide +kernel
theorem dX7_bits_18 : decode cX7_bits 18 = .ok (.iinc 2 1, 3) := by decide +kernel
theorem dX7_bits_21 : decode cX7_bits 21 = .ok (.goto (-17), 3) := by decide +kernel
theorem dX7_bits_24 : decode cX7_bits 24 = .ok (.iload_n 1, 1) := by decide +kernel
theorem dX7_bits_25 : decode cX7_bits 25 = .ok (.ireturn, 1) := by decide +kernel
set_option maxRecDepth 20000 in
theorem ggX7_wall_X7_in : GoodIn wsX7_wall wsX7_in := goodIn_r _ [5] (by decide +kernel) (by decide +kernel)
set_option maxRecDepth 20000 in
theorem gX7_wall_X7_in : GoodIn wsX7_wall (va_wsS RX7 73 yX7_in wsX7_in) := goodIn_app (goodIn_of _ (by decide +kernel)) ggX7_wall_X7_in
set_option maxRecDepth 20000 in
theorem ggX7_wall_X7_clear : GoodIn wsX7_wall wsX7_clear := goodIn_r _ [9, 10, 11, 12, 13, 14, 15, 16, 17, 18, 19, 20, 21, 22, 23, 24, 25, 26, 27, 28, 29, 30, 31, 32, 33, 34, 35, 36, 37, 38, 39] (by decide +kernel) (by decide +kernel)
set_option maxRecDepth 20000 in
theorem gX7_wall_X7_clear : GoodIn wsX7_wall (wsV RX7 64 RX7 yX7_clear wsX7_clear) := goodIn_app (goodIn_of _ (by decide +kernel)) ggX7_wall_X7_clear
theorem dX7_wall_0 : decode cX7_wall 0 = .ok (.iload_n 1, 1) := by decide +kernel
theorem dX7_wall_1 : decode cX7_wall 1 = .ok (.iconst 2, 1) := by decide +kernel
theorem dX7_wall_2 : decode cX7_wall 2 = .ok (.bipush 9, 2) := by decide +kernel
theorem dX7_wall_4 : decode cX7_wall 4 = .ok (.invokestatic 73, 3) := by decide +kernel
theorem dX7_wall_7 : decode cX7_wall 7 = .ok (.ifCond .ne 6, 3) := by decide +kernel
theorem dX7_wall_10 : decode cX7_wall 10 = .ok (.bipush (-2), 2) := by decide +kernel
theorem dX7_wall_12 : decode cX7_wall 12 = .ok (.ireturn, 1) := by decide +kernel
theorem dX7_wall_13 : decode cX7_wall 13 = .ok (.aload_n 0, 1) := by decide +kernel
theorem dX7_wall_14 : decode cX7_wall 14 = .ok (.getfield 7, 3) := by decide +kernel
theorem dX7_wall_17 : decode cX7_wall 17 = .ok (.istore_n 2, 1) := by decide +kernel
theorem dX7_wall_18 : decode cX7_wall 18 = .ok (.aload_n 0, 1) := by decide +kernel
theorem dX7_wall_19 : decode cX7_wall 19 = .ok (.iload_n 1, 1) := by decide +kernel
theorem dX7_wall_20 : decode cX7_wall 20 = .ok (.putfield 7, 3) := by decide +kernel
theorem dX7_wall_23 : decode cX7_wall 23 = .ok (.aload_n 0, 1) := by decide +kernel
theorem dX7_wall_24 : decode cX7_wall 24 = .ok (.invokevirtual 64, 3) := by decide +kernel
theorem dX7_wall_27 : decode cX7_wall 27 = .ok (.iload_n 2, 1) := by decide +kernel
theorem dX7_wall_28 : decode cX7_wall 28 = .ok (.ireturn, 1) := by decide +kernel
set_option maxRecDepth 20000 in
theorem ggX7_guest_X7_in : GoodIn wsX7_guest wsX7_in := goodIn_r _ [9] (by decide +kernel) (by decide +kernel)
set_option maxRecDepth 20000 in
theorem gX7_guest_X7_in : GoodIn wsX7_guest (va_wsS RX7 73 yX7_in wsX7_in) := goodIn_app (goodIn_of _ (by decide +kernel)) ggX7_guest_X7_in
set_option maxRecDepth 20000 in
theorem ggX7_guest_X7_bits : GoodIn wsX7_guest wsX7_bits := goodIn_r _ [12] (by decide +kernel) (by decide +kernel)
set_option maxRecDepth 20000 in
theorem gX7_guest_X7_bits : GoodIn wsX7_guest (va_wsS RX7 77 yX7_bits wsX7_bits) := goodIn_app (goodIn_of _ (by decide +kernel)) ggX7_guest_X7_bits
theorem dX7_guest_0 : decode cX7_guest 0 = .ok (.iload_n 1, 1) := by decide +kernel
theorem dX7_guest_1 : decode cX7_guest 1 = .ok (.iconst 0, 1) := by decide +kernel
theorem dX7_guest_2 : decode cX7_guest 2 = .ok (.bipush 9, 2) := by decide +kernel
theorem dX7_guest_4 : decode cX7_guest 4 = .ok (.invokestatic 73, 3) := by decide +kernel
theorem dX7_guest_7 : decode cX7_guest 7 = .ok (.ifCond .ne 5, 3) := by decide +kernel
theorem dX7_guest_10 : decode cX7_guest 10 = .ok (.iconst (-1), 1) := by decide +kernel
theorem dX7_guest_11 : decode cX7_guest 11 = .ok (.ireturn, 1) := by decide +kernel
theorem dX7_guest_12 : decode cX7_guest 12 = .ok (.iload_n 2, 1) := by decide +kernel
theorem dX7_guest_13 : decode cX7_guest 13 = .ok (.iconst 1, 1) := by decide +kernel
theorem dX7_guest_14 : decode cX7_guest 14 = .ok (.iconst 3, 1) := by decide +kernel
theorem dX7_guest_15 : decode cX7_guest 15 = .ok (.invokestatic 73, 3) := by decide +kernel
theorem dX7_guest_18 : decode cX7_guest 18 = .ok (.ifCond .eq 25, 3) := by decide +kernel
theorem dX7_guest_21 : decode cX7_guest 21 = .ok (.iload_n 3, 1) := by decide +kernel
theorem dX7_guest_22 : decode cX7_guest 22 = .ok (.iconst 1, 1) := by decide +kernel
theorem dX7_guest_23 : decode cX7_guest 23 = .ok (.bipush 20, 2) := by decide +kernel
theorem dX7_guest_25 : decode cX7_guest 25 = .ok (.invokestatic 73, 3) := by decide +kernel
theorem dX7_guest_28 : decode cX7_guest 28 = .ok (.ifCond .eq 15, 3) := by decide +kernel
theorem dX7_guest_31 : decode cX7_guest 31 = .ok (.iload 4, 2) := by decide +kernel
theorem dX7_guest_33 : decode cX7_guest 33 = .ok (.iconst 0, 1) := by decide +kernel
theorem dX7_guest_34 : decode cX7_guest 34 = .ok (.sipush 200, 3) := by decide +kernel
theorem dX7_guest_37 : decode cX7_guest 37 = .ok (.invokestatic 73, 3) := by decide +kernel
theorem dX7_guest_40 : decode cX7_guest 40 = .ok (.ifCond .ne 6, 3) := by decide +kernel
theorem dX7_guest_43 : decode cX7_guest 43 = .ok (.bipush (-2), 2) := by decide +kernel
theorem dX7_guest_45 : decode cX7_guest 45 = .ok (.ireturn, 1) := by decide +kernel
theorem dX7_guest_46 : decode cX7_guest 46 = .ok (.aload_n 0, 1) := by decide +kernel
theorem dX7_guest_47 : decode cX7_guest 47 = .ok (.getfield 23, 3) := by decide +kernel
theorem dX7_guest_50 : decode cX7_guest 50 = .ok (.iload_n 1, 1) := by decide +kernel
theorem dX7_guest_51 : decode cX7_guest 51 = .ok (.iaload, 1) := by decide +kernel
theorem dX7_guest_52 : decode cX7_guest 52 = .ok (.ifCond .lt 6, 3) := by decide +kernel
theorem dX7_guest_55 : decode cX7_guest 55 = .ok (.bipush (-3), 2) := by decide +kernel
theorem dX7_guest_57 : decode cX7_guest 57 = .ok (.ireturn, 1) := by decide +kernel
theorem dX7_guest_58 : decode cX7_guest 58 = .ok (.aload_n 0, 1) := by decide +kernel
theorem dX7_guest_59 : decode cX7_guest 59 = .ok (.dup, 1) := by decide +kernel
theorem dX7_guest_60 : decode cX7_guest 60 = .ok (.getfield 67, 3) := by decide +kernel
theorem dX7_guest_63 : decode cX7_guest 63 = .ok (.iconst 1, 1) := by decide +kernel
theorem dX7_guest_64 : decode cX7_guest 64 = .ok (.iload_n 1, 1) := by decide +kernel
theorem dX7_guest_65 : decode cX7_guest 65 = .ok (.ishl, 1) := by decide +kernel
theorem dX7_guest_66 : decode cX7_guest 66 = .ok (.ior, 1) := by decide +kernel
theorem dX7_guest_67 : decode cX7_guest 67 = .ok (.putfield 67, 3) := by decide +kernel
theorem dX7_guest_70 : decode cX7_guest 70 = .ok (.aload_n 0, 1) := by decide +kernel
theorem dX7_guest_71 : decode cX7_guest 71 = .ok (.getfield 13, 3) := by decide +kernel
theorem dX7_guest_74 : decode cX7_guest 74 = .ok (.iload_n 1, 1) := by decide +kernel
theorem dX7_guest_75 : decode cX7_guest 75 = .ok (.iload_n 2, 1) := by decide +kernel
theorem dX7_guest_76 : decode cX7_guest 76 = .ok (.iastore, 1) := by decide +kernel
theorem dX7_guest_77 : decode cX7_guest 77 = .ok (.aload_n 0, 1) := by decide +kernel
theorem dX7_guest_78 : decode cX7_guest 78 = .ok (.getfield 17, 3) := by decide +kernel
theorem dX7_guest_81 : decode cX7_guest 81 = .ok (.iload_n 1, 1) := by decide +kernel
theorem dX7_guest_82 : decode cX7_guest 82 = .ok (.iload_n 3, 1) := by decide +kernel
theorem dX7_guest_83 : decode cX7_guest 83 = .ok (.iastore, 1) := by decide +kernel
theorem dX7_guest_84 : decode cX7_guest 84 = .ok (.aload_n 0, 1) := by decide +kernel
theorem dX7_guest_85 : decode cX7_guest 85 = .ok (.getfield 20, 3) := by decide +kernel
theorem dX7_guest_88 : decode cX7_guest 88 = .ok (.iload_n 1, 1) := by decide +kernel
theorem dX7_guest_89 : decode cX7_guest 89 = .ok (.iload 4, 2) := by decide +kernel
theorem dX7_guest_91 : decode cX7_guest 91 = .ok (.iastore, 1) := by decide +kernel
theorem dX7_guest_92 : decode cX7_guest 92 = .ok (.aload_n 0, 1) := by decide +kernel
theorem dX7_guest_93 : decode cX7_guest 93 = .ok (.getfield 67, 3) := by decide +kernel
theorem dX7_guest_96 : decode cX7_guest 96 = .ok (.invokestatic 77, 3) := by decide +kernel
theorem dX7_guest_99 : decode cX7_guest 99 = .ok (.ireturn, 1) := by decide +kernel
set_option maxRecDepth 20000 in
theorem ggX7_say_X7_in : GoodIn wsX7_say wsX7_in := goodIn_r _ [6] (by decide +kernel) (by decide +kernel)
set_option maxRecDepth 20000 in
theorem gX7_say_X7_in : GoodIn wsX7_say (va_wsS RX7 73 yX7_in wsX7_in) := goodIn_app (goodIn_of _ (by decide +kernel)) ggX7_say_X7_in
theorem dX7_say_0 : decode cX7_say 0 = .ok (.iload_n 1, 1) := by decide +kernel
theorem dX7_say_1 : decode cX7_say 1 = .ok (.bipush 33, 2) := by decide +kernel
theorem dX7_say_3 : decode cX7_say 3 = .ok (.bipush 126, 2) := by decide +kernel
theorem dX7_say_5 : decode cX7_say 5 = .ok (.invokestatic 73, 3) := by decide +kernel
theorem dX7_say_8 : decode cX7_say 8 = .ok (.ifCond .ne 6, 3) := by decide +kernel
theorem dX7_say_11 : decode cX7_say 11 = .ok (.bipush (-2), 2) := by decide +kernel
theorem dX7_say_13 : decode cX7_say 13 = .ok (.ireturn, 1) := by decide +kernel
theorem dX7_say_14 : decode cX7_say 14 = .ok (.aload_n 0, 1) := by decide +kernel
theorem dX7_say_15 : decode cX7_say 15 = .ok (.getfield 81, 3) := by decide +kernel
theorem dX7_say_18 : decode cX7_say 18 = .ok (.bipush 60, 2) := by decide +kernel
theorem dX7_say_20 : decode cX7_say 20 = .ok (.if_icmp .ne 6, 3) := by decide +kernel
theorem dX7_say_23 : decode cX7_say 23 = .ok (.bipush (-4), 2) := by decide +kernel
theorem dX7_say_25 : decode cX7_say 25 = .ok (.ireturn, 1) := by decide +kernel
theorem dX7_say_26 : decode cX7_say 26 = .ok (.aload_n 0, 1) := by decide +kernel
theorem dX7_say_27 : decode cX7_say 27 = .ok (.getfield 32, 3) := by decide +kernel
theorem dX7_say_30 : decode cX7_say 30 = .ok (.aload_n 0, 1) := by decide +kernel
theorem dX7_say_31 : decode cX7_say 31 = .ok (.getfield 81, 3) := by decide +kernel
theorem dX7_say_34 : decode cX7_say 34 = .ok (.iload_n 1, 1) := by decide +kernel
theorem dX7_say_35 : decode cX7_say 35 = .ok (.iastore, 1) := by decide +kernel
theorem dX7_say_36 : decode cX7_say 36 = .ok (.aload_n 0, 1) := by decide +kernel
theorem dX7_say_37 : decode cX7_say 37 = .ok (.dup, 1) := by decide +kernel
theorem dX7_say_38 : decode cX7_say 38 = .ok (.getfield 81, 3) := by decide +kernel
theorem dX7_say_41 : decode cX7_say 41 = .ok (.iconst 1, 1) := by decide +kernel
theorem dX7_say_42 : decode cX7_say 42 = .ok (.iadd, 1) := by decide +kernel
theorem dX7_say_43 : decode cX7_say 43 = .ok (.putfield 81, 3) := by decide +kernel
theorem dX7_say_46 : decode cX7_say 46 = .ok (.aload_n 0, 1) := by decide +kernel
theorem dX7_say_47 : decode cX7_say 47 = .ok (.getfield 81, 3) := by decide +kernel
theorem dX7_say_50 : decode cX7_say 50 = .ok (.ireturn, 1) := by decide +kernel
theorem dX7_wipe_0 : decode cX7_wipe 0 = .ok (.aload_n 0, 1) := by decide +kernel
theorem dX7_wipe_1 : decode cX7_wipe 1 = .ok (.getfield 81, 3) := by decide +kernel
theorem dX7_wipe_4 : decode cX7_wipe 4 = .ok (.istore_n 1, 1) := by decide +kernel
theorem dX7_wipe_5 : decode cX7_wipe 5 = .ok (.aload_n 0, 1) := by decide +kernel
theorem dX7_wipe_6 : decode cX7_wipe 6 = .ok (.iconst 0, 1) := by decide +kernel
theorem dX7_wipe_7 : decode cX7_wipe 7 = .ok (.putfield 81, 3) := by decide +kernel
theorem dX7_wipe_10 : decode cX7_wipe 10 = .ok (.iload_n 1, 1) := by decide +kernel
theorem dX7_wipe_11 : decode cX7_wipe 11 = .ok (.ireturn, 1) := by decide +kernel
set_option maxRecDepth 20000 in
theorem ggX7_faultOf_X7_in : GoodIn wsX7_faultOf wsX7_in := goodIn_r _ [7] (by decide +kernel) (by decide +kernel)
set_option maxRecDepth 20000 in
theorem gX7_faultOf_X7_in : GoodIn wsX7_faultOf (va_wsS RX7 73 yX7_in wsX7_in) := goodIn_app (goodIn_of _ (by decide +kernel)) ggX7_faultOf_X7_in
theorem dX7_faultOf_0 : decode cX7_faultOf 0 = .ok (.iconst 0, 1) := by decide +kernel
theorem dX7_faultOf_1 : decode cX7_faultOf 1 = .ok (.istore_n 1, 1) := by decide +kernel
theorem dX7_faultOf_2 : decode cX7_faultOf 2 = .ok (.iload_n 1, 1) := by decide +kernel
theorem dX7_faultOf_3 : decode cX7_faultOf 3 = .ok (.aload_n 0, 1) := by decide +kernel
theorem dX7_faultOf_4 : decode cX7_faultOf 4 = .ok (.getfield 81, 3) := by decide +kernel
theorem dX7_faultOf_7 : decode cX7_faultOf 7 = .ok (.if_icmp .ge 76, 3) := by decide +kernel
theorem dX7_faultOf_10 : decode cX7_faultOf 10 = .ok (.iload_n 1, 1) := by decide +kernel
theorem dX7_faultOf_11 : decode cX7_faultOf 11 = .ok (.iconst 2, 1) := by decide +kernel
theorem dX7_faultOf_12 : decode cX7_faultOf 12 = .ok (.irem, 1) := by decide +kernel
theorem dX7_faultOf_13 : decode cX7_faultOf 13 = .ok (.ifCond .ne 19, 3) := by decide +kernel
theorem dX7_faultOf_16 : decode cX7_faultOf 16 = .ok (.aload_n 0, 1) := by decide +kernel
theorem dX7_faultOf_17 : decode cX7_faultOf 17 = .ok (.getfield 32, 3) := by decide +kernel
theorem dX7_faultOf_20 : decode cX7_faultOf 20 = .ok (.iload_n 1, 1) := by decide +kernel
theorem dX7_faultOf_21 : decode cX7_faultOf 21 = .ok (.iaload, 1) := by decide +kernel
theorem dX7_faultOf_22 : decode cX7_faultOf 22 = .ok (.bipush 65, 2) := by decide +kernel
theorem dX7_faultOf_24 : decode cX7_faultOf 24 = .ok (.bipush 74, 2) := by decide +kernel
theorem dX7_faultOf_26 : decode cX7_faultOf 26 = .ok (.invokestatic 73, 3) := by decide +kernel
theorem dX7_faultOf_29 : decode cX7_faultOf 29 = .ok (.goto 41, 3) := by decide +kernel
theorem dX7_faultOf_32 : decode cX7_faultOf 32 = .ok (.aload_n 0, 1) := by decide +kernel
theorem dX7_faultOf_33 : decode cX7_faultOf 33 = .ok (.getfield 32, 3) := by decide +kernel
theorem dX7_faultOf_36 : decode cX7_faultOf 36 = .ok (.iload_n 1, 1) := by decide +kernel
theorem dX7_faultOf_37 : decode cX7_faultOf 37 = .ok (.iaload, 1) := by decide +kernel
theorem dX7_faultOf_38 : decode cX7_faultOf 38 = .ok (.bipush 45, 2) := by decide +kernel
theorem dX7_faultOf_40 : decode cX7_faultOf 40 = .ok (.if_icmp .eq 25, 3) := by decide +kernel
theorem dX7_faultOf_43 : decode cX7_faultOf 43 = .ok (.aload_n 0, 1) := by decide +kernel
theorem dX7_faultOf_44 : decode cX7_faultOf 44 = .ok (.getfield 32, 3) := by decide +kernel
theorem dX7_faultOf_47 : decode cX7_faultOf 47 = .ok (.iload_n 1, 1) := by decide +kernel
theorem dX7_faultOf_48 : decode cX7_faultOf 48 = .ok (.iaload, 1) := by decide +kernel
theorem dX7_faultOf_49 : decode cX7_faultOf 49 = .ok (.bipush 48, 2) := by decide +kernel
theorem dX7_faultOf_51 : decode cX7_faultOf 51 = .ok (.isub, 1) := by decide +kernel
theorem dX7_faultOf_52 : decode cX7_faultOf 52 = .ok (.iconst 0, 1) := by decide +kernel
theorem dX7_faultOf_53 : decode cX7_faultOf 53 = .ok (.aload_n 0, 1) := by decide +kernel
theorem dX7_faultOf_54 : decode cX7_faultOf 54 = .ok (.getfield 7, 3) := by decide +kernel
theorem dX7_faultOf_57 : decode cX7_faultOf 57 = .ok (.iconst 1, 1) := by decide +kernel
theorem dX7_faultOf_58 : decode cX7_faultOf 58 = .ok (.isub, 1) := by decide +kernel
theorem dX7_faultOf_59 : decode cX7_faultOf 59 = .ok (.invokestatic 73, 3) := by decide +kernel
theorem dX7_faultOf_62 : decode cX7_faultOf 62 = .ok (.ifCond .eq 7, 3) := by decide +kernel
theorem dX7_faultOf_65 : decode cX7_faultOf 65 = .ok (.iconst 1, 1) := by decide +kernel
theorem dX7_faultOf_66 : decode cX7_faultOf 66 = .ok (.goto 4, 3) := by decide +kernel
theorem dX7_faultOf_69 : decode cX7_faultOf 69 = .ok (.iconst 0, 1) := by decide +kernel
theorem dX7_faultOf_70 : decode cX7_faultOf 70 = .ok (.istore_n 2, 1) := by decide +kernel
theorem dX7_faultOf_71 : decode cX7_faultOf 71 = .ok (.iload_n 2, 1) := by decide +kernel
theorem dX7_faultOf_72 : decode cX7_faultOf 72 = .ok (.ifCond .ne 5, 3) := by decide +kernel
theorem dX7_faultOf_75 : decode cX7_faultOf 75 = .ok (.iload_n 1, 1) := by decide +kernel
theorem dX7_faultOf_76 : decode cX7_faultOf 76 = .ok (.ireturn, 1) := by decide +kernel
theorem dX7_faultOf_77 : decode cX7_faultOf 77 = .ok (.iinc 1 1, 3) := by decide +kernel
theorem dX7_faultOf_80 : decode cX7_faultOf 80 = .ok (.goto (-78), 3) := by decide +kernel
theorem dX7_faultOf_83 : decode cX7_faultOf 83 = .ok (.aload_n 0, 1) := by decide +kernel
theorem dX7_faultOf_84 : decode cX7_faultOf 84 = .ok (.getfield 81, 3) := by decide +kernel
theorem dX7_faultOf_87 : decode cX7_faultOf 87 = .ok (.iconst 2, 1) := by decide +kernel
theorem dX7_faultOf_88 : decode cX7_faultOf 88 = .ok (.irem, 1) := by decide +kernel
theorem dX7_faultOf_89 : decode cX7_faultOf 89 = .ok (.iconst 1, 1) := by decide +kernel
theorem dX7_faultOf_90 : decode cX7_faultOf 90 = .ok (.if_icmp .ne 10, 3) := by decide +kernel
theorem dX7_faultOf_93 : decode cX7_faultOf 93 = .ok (.aload_n 0, 1) := by decide +kernel
theorem dX7_faultOf_94 : decode cX7_faultOf 94 = .ok (.getfield 81, 3) := by decide +kernel
theorem dX7_faultOf_97 : decode cX7_faultOf 97 = .ok (.goto 5, 3) := by decide +kernel
theorem dX7_faultOf_100 : decode cX7_faultOf 100 = .ok (.bipush (-6), 2) := by decide +kernel
theorem dX7_faultOf_102 : decode cX7_faultOf 102 = .ok (.ireturn, 1) := by decide +kernel
set_option maxRecDepth 20000 in
theorem ggX7_fault_X7_faultOf : GoodIn wsX7_fault wsX7_faultOf := goodIn_r _ [5, 6, 7, 8, 9, 10, 4, 11, 12, 13, 14, 15, 16, 17, 18, 19, 20, 21, 22, 23, 24, 25, 26, 27, 28, 29, 30, 31, 32, 33, 34, 35, 36, 37] (by decide +kernel) (by decide +kernel)
set_option maxRecDepth 20000 in
theorem gX7_fault_X7_faultOf : GoodIn wsX7_fault (wsV RX7 84 RX7 yX7_faultOf wsX7_faultOf) := goodIn_app (goodIn_of _ (by decide +kernel)) ggX7_fault_X7_faultOf
theorem dX7_fault_0 : decode cX7_fault 0 = .ok (.aload_n 0, 1) := by decide +kernel
theorem dX7_fault_1 : decode cX7_fault 1 = .ok (.invokevirtual 84, 3) := by decide +kernel
theorem dX7_fault_4 : decode cX7_fault 4 = .ok (.ireturn, 1) := by decide +kernel
theorem dX7_asNow_0 : decode cX7_asNow 0 = .ok (.iconst 0, 1) := by decide +kernel
theorem dX7_asNow_1 : decode cX7_asNow 1 = .ok (.istore_n 1, 1) := by decide +kernel
theorem dX7_asNow_2 : decode cX7_asNow 2 = .ok (.iload_n 1, 1) := by decide +kernel
theorem dX7_asNow_3 : decode cX7_asNow 3 = .ok (.bipush 10, 2) := by decide +kernel
theorem dX7_asNow_5 : decode cX7_asNow 5 = .ok (.if_icmp .ge 33, 3) := by decide +kernel
theorem dX7_asNow_8 : decode cX7_asNow 8 = .ok (.aload_n 0, 1) := by decide +kernel
theorem dX7_asNow_9 : decode cX7_asNow 9 = .ok (.getfield 35, 3) := by decide +kernel
theorem dX7_asNow_12 : decode cX7_asNow 12 = .ok (.iload_n 1, 1) := by decide +kernel
theorem dX7_asNow_13 : decode cX7_asNow 13 = .ok (.aload_n 0, 1) := by decide +kernel
theorem dX7_asNow_14 : decode cX7_asNow 14 = .ok (.getfield 23, 3) := by decide +kernel
theorem dX7_asNow_17 : decode cX7_asNow 17 = .ok (.iload_n 1, 1) := by decide +kernel
theorem dX7_asNow_18 : decode cX7_asNow 18 = .ok (.iaload, 1) := by decide +kernel
theorem dX7_asNow_19 : decode cX7_asNow 19 = .ok (.iastore, 1) := by decide +kernel
theorem dX7_asNow_20 : decode cX7_asNow 20 = .ok (.aload_n 0, 1) := by decide +kernel
theorem dX7_asNow_21 : decode cX7_asNow 21 = .ok (.getfield 38, 3) := by decide +kernel
theorem dX7_asNow_24 : decode cX7_asNow 24 = .ok (.iload_n 1, 1) := by decide +kernel
theorem dX7_asNow_25 : decode cX7_asNow 25 = .ok (.aload_n 0, 1) := by decide +kernel
theorem dX7_asNow_26 : decode cX7_asNow 26 = .ok (.getfield 26, 3) := by decide +kernel
theorem dX7_asNow_29 : decode cX7_asNow 29 = .ok (.iload_n 1, 1) := by decide +kernel
theorem dX7_asNow_30 : decode cX7_asNow 30 = .ok (.iaload, 1) := by decide +kernel
theorem dX7_asNow_31 : decode cX7_asNow 31 = .ok (.iastore, 1) := by decide +kernel
theorem dX7_asNow_32 : decode cX7_asNow 32 = .ok (.iinc 1 1, 3) := by decide +kernel
theorem dX7_asNow_35 : decode cX7_asNow 35 = .ok (.goto (-33), 3) := by decide +kernel
theorem dX7_asNow_38 : decode cX7_asNow 38 = .ok (.return_, 1) := by decide +kernel
theorem dX7_isIn_0 : decode cX7_isIn 0 = .ok (.aload_n 0, 1) := by decide +kernel
theorem dX7_isIn_1 : decode cX7_isIn 1 = .ok (.getfield 35, 3) := by decide +kernel
theorem dX7_isIn_4 : decode cX7_isIn 4 = .ok (.iload_n 1, 1) := by decide +kernel
theorem dX7_isIn_5 : decode cX7_isIn 5 = .ok (.iaload, 1) := by decide +kernel
theorem dX7_isIn_6 : decode cX7_isIn 6 = .ok (.ifCond .lt 7, 3) := by decide +kernel
theorem dX7_isIn_9 : decode cX7_isIn 9 = .ok (.iconst 1, 1) := by decide +kernel
theorem dX7_isIn_10 : decode cX7_isIn 10 = .ok (.goto 4, 3) := by decide +kernel
theorem dX7_isIn_13 : decode cX7_isIn 13 = .ok (.iconst 0, 1) := by decide +kernel
theorem dX7_isIn_14 : decode cX7_isIn 14 = .ok (.ireturn, 1) := by decide +kernel
set_option maxRecDepth 20000 in
theorem ggX7_covers_X7_isIn : GoodIn wsX7_covers wsX7_isIn := goodIn_r _ [7, 8, 9, 10, 11, 12, 13, 14, 15, 16, 17, 18, 19, 20, 21, 22, 23, 24, 25, 26, 27, 28, 29, 30, 31, 32, 33, 34] (by decide +kernel) (by decide +kernel)
set_option maxRecDepth 20000 in
theorem gX7_covers_X7_isIn : GoodIn wsX7_covers (wsV RX7 88 RX7 yX7_isIn wsX7_isIn) := goodIn_app (goodIn_of _ (by decide +kernel)) ggX7_covers_X7_isIn
theorem dX7_covers_0 : decode cX7_covers 0 = .ok (.aload_n 0, 1) := by decide +kernel
theorem dX7_covers_1 : decode cX7_covers 1 = .ok (.iload_n 1, 1) := by decide +kernel
theorem dX7_covers_2 : decode cX7_covers 2 = .ok (.invokevirtual 88, 3) := by decide +kernel
theorem dX7_covers_5 : decode cX7_covers 5 = .ok (.ifCond .eq 34, 3) := by decide +kernel
theorem dX7_covers_8 : decode cX7_covers 8 = .ok (.iload_n 2, 1) := by decide +kernel
theorem dX7_covers_9 : decode cX7_covers 9 = .ok (.aload_n 0, 1) := by decide +kernel
theorem dX7_covers_10 : decode cX7_covers 10 = .ok (.getfield 38, 3) := by decide +kernel
theorem dX7_covers_13 : decode cX7_covers 13 = .ok (.iload_n 1, 1) := by decide +kernel
theorem dX7_covers_14 : decode cX7_covers 14 = .ok (.iaload, 1) := by decide +kernel
theorem dX7_covers_15 : decode cX7_covers 15 = .ok (.if_icmp .lt 24, 3) := by decide +kernel
theorem dX7_covers_18 : decode cX7_covers 18 = .ok (.iload_n 2, 1) := by decide +kernel
theorem dX7_covers_19 : decode cX7_covers 19 = .ok (.aload_n 0, 1) := by decide +kernel
theorem dX7_covers_20 : decode cX7_covers 20 = .ok (.getfield 38, 3) := by decide +kernel
theorem dX7_covers_23 : decode cX7_covers 23 = .ok (.iload_n 1, 1) := by decide +kernel
theorem dX7_covers_24 : decode cX7_covers 24 = .ok (.iaload, 1) := by decide +kernel
theorem dX7_covers_25 : decode cX7_covers 25 = .ok (.aload_n 0, 1) := by decide +kernel
theorem dX7_covers_26 : decode cX7_covers 26 = .ok (.getfield 13, 3) := by decide +kernel
theorem dX7_covers_29 : decode cX7_covers 29 = .ok (.iload_n 1, 1) := by decide +kernel
theorem dX7_covers_30 : decode cX7_covers 30 = .ok (.iaload, 1) := by decide +kernel
theorem dX7_covers_31 : decode cX7_covers 31 = .ok (.iadd, 1) := by decide +kernel
theorem dX7_covers_32 : decode cX7_covers 32 = .ok (.if_icmp .ge 7, 3) := by decide +kernel
theorem dX7_covers_35 : decode cX7_covers 35 = .ok (.iconst 1, 1) := by decide +kernel
theorem dX7_covers_36 : decode cX7_covers 36 = .ok (.goto 4, 3) := by decide +kernel
theorem dX7_covers_39 : decode cX7_covers 39 = .ok (.iconst 0, 1) := by decide +kernel
theorem dX7_covers_40 : decode cX7_covers 40 = .ok (.ireturn, 1) := by decide +kernel
set_option maxRecDepth 20000 in
theorem ggX7_whose_X7_covers : GoodIn wsX7_whose wsX7_covers := goodIn_r _ [6, 7, 8, 9, 10, 11, 5, 12, 1, 13, 14, 15, 16, 17, 18, 19, 20, 21, 22, 23, 24, 25, 26, 27, 28, 29, 30, 31, 32, 33, 34, 35, 36, 37, 38] (by decide +kernel) (by decide +kernel)
set_option maxRecDepth 20000 in
theorem gX7_whose_X7_covers : GoodIn wsX7_whose (wsV RX7 92 RX7 yX7_covers wsX7_covers) := goodIn_app (goodIn_of _ (by decide +kernel)) ggX7_whose_X7_covers
theorem dX7_whose_0 : decode cX7_whose 0 = .ok (.bipush (-6), 2) := by decide +kernel
theorem dX7_whose_2 : decode cX7_whose 2 = .ok (.istore_n 3, 1) := by decide +kernel
theorem dX7_whose_3 : decode cX7_whose 3 = .ok (.iconst 0, 1) := by decide +kernel
theorem dX7_whose_4 : decode cX7_whose 4 = .ok (.istore 4, 2) := by decide +kernel
theorem dX7_whose_6 : decode cX7_whose 6 = .ok (.iload 4, 2) := by decide +kernel
theorem dX7_whose_8 : decode cX7_whose 8 = .ok (.bipush 10, 2) := by decide +kernel
theorem dX7_whose_10 : decode cX7_whose 10 = .ok (.if_icmp .ge 37, 3) := by decide +kernel
theorem dX7_whose_13 : decode cX7_whose 13 = .ok (.aload_n 0, 1) := by decide +kernel
theorem dX7_whose_14 : decode cX7_whose 14 = .ok (.iload 4, 2) := by decide +kernel
theorem dX7_whose_16 : decode cX7_whose 16 = .ok (.iload_n 2, 1) := by decide +kernel
theorem dX7_whose_17 : decode cX7_whose 17 = .ok (.invokevirtual 92, 3) := by decide +kernel
theorem dX7_whose_20 : decode cX7_whose 20 = .ok (.ifCond .eq 19, 3) := by decide +kernel
theorem dX7_whose_23 : decode cX7_whose 23 = .ok (.aload_n 0, 1) := by decide +kernel
theorem dX7_whose_24 : decode cX7_whose 24 = .ok (.getfield 35, 3) := by decide +kernel
theorem dX7_whose_27 : decode cX7_whose 27 = .ok (.iload 4, 2) := by decide +kernel
theorem dX7_whose_29 : decode cX7_whose 29 = .ok (.iaload, 1) := by decide +kernel
theorem dX7_whose_30 : decode cX7_whose 30 = .ok (.iload_n 1, 1) := by decide +kernel
theorem dX7_whose_31 : decode cX7_whose 31 = .ok (.if_icmp .ne 8, 3) := by decide +kernel
theorem dX7_whose_34 : decode cX7_whose 34 = .ok (.iload 4, 2) := by decide +kernel
theorem dX7_whose_36 : decode cX7_whose 36 = .ok (.goto 4, 3) := by decide +kernel
theorem dX7_whose_39 : decode cX7_whose 39 = .ok (.iload_n 3, 1) := by decide +kernel
theorem dX7_whose_40 : decode cX7_whose 40 = .ok (.istore_n 3, 1) := by decide +kernel
theorem dX7_whose_41 : decode cX7_whose 41 = .ok (.iinc 4 1, 3) := by decide +kernel
theorem dX7_whose_44 : decode cX7_whose 44 = .ok (.goto (-38), 3) := by decide +kernel
theorem dX7_whose_47 : decode cX7_whose 47 = .ok (.iload_n 3, 1) := by decide +kernel
theorem dX7_whose_48 : decode cX7_whose 48 = .ok (.ireturn, 1) := by decide +kernel
set_option maxRecDepth 20000 in
theorem ggX7_heightOf_X7_covers : GoodIn wsX7_heightOf wsX7_covers := goodIn_r _ [6, 7, 8, 9, 10, 11, 5, 12, 1, 13, 14, 15, 16, 17, 18, 19, 20, 21, 22, 23, 24, 25, 26, 27, 28, 29, 30, 31, 32, 33, 34, 35, 36, 37, 38] (by decide +kernel) (by decide +kernel)
set_option maxRecDepth 20000 in
theorem gX7_heightOf_X7_covers : GoodIn wsX7_heightOf (wsV RX7 92 RX7 yX7_covers wsX7_covers) := goodIn_app (goodIn_of _ (by decide +kernel)) ggX7_heightOf_X7_covers
theorem dX7_heightOf_0 : decode cX7_heightOf 0 = .ok (.iconst 0, 1) := by decide +kernel
theorem dX7_heightOf_1 : decode cX7_heightOf 1 = .ok (.istore_n 2, 1) := by decide +kernel
theorem dX7_heightOf_2 : decode cX7_heightOf 2 = .ok (.iconst 0, 1) := by decide +kernel
theorem dX7_heightOf_3 : decode cX7_heightOf 3 = .ok (.istore_n 3, 1) := by decide +kernel
theorem dX7_heightOf_4 : decode cX7_heightOf 4 = .ok (.iload_n 3, 1) := by decide +kernel
theorem dX7_heightOf_5 : decode cX7_heightOf 5 = .ok (.bipush 10, 2) := by decide +kernel
theorem dX7_heightOf_7 : decode cX7_heightOf 7 = .ok (.if_icmp .ge 41, 3) := by decide +kernel
theorem dX7_heightOf_10 : decode cX7_heightOf 10 = .ok (.aload_n 0, 1) := by decide +kernel
theorem dX7_heightOf_11 : decode cX7_heightOf 11 = .ok (.iload_n 3, 1) := by decide +kernel
theorem dX7_heightOf_12 : decode cX7_heightOf 12 = .ok (.iload_n 1, 1) := by decide +kernel
theorem dX7_heightOf_13 : decode cX7_heightOf 13 = .ok (.invokevirtual 92, 3) := by decide +kernel
theorem dX7_heightOf_16 : decode cX7_heightOf 16 = .ok (.ifCond .eq 24, 3) := by decide +kernel
theorem dX7_heightOf_19 : decode cX7_heightOf 19 = .ok (.aload_n 0, 1) := by decide +kernel
theorem dX7_heightOf_20 : decode cX7_heightOf 20 = .ok (.getfield 35, 3) := by decide +kernel
theorem dX7_heightOf_23 : decode cX7_heightOf 23 = .ok (.iload_n 3, 1) := by decide +kernel
theorem dX7_heightOf_24 : decode cX7_heightOf 24 = .ok (.iaload, 1) := by decide +kernel
theorem dX7_heightOf_25 : decode cX7_heightOf 25 = .ok (.iload_n 2, 1) := by decide +kernel
theorem dX7_heightOf_26 : decode cX7_heightOf 26 = .ok (.if_icmp .lt 14, 3) := by decide +kernel
theorem dX7_heightOf_29 : decode cX7_heightOf 29 = .ok (.aload_n 0, 1) := by decide +kernel
theorem dX7_heightOf_30 : decode cX7_heightOf 30 = .ok (.getfield 35, 3) := by decide +kernel
theorem dX7_heightOf_33 : decode cX7_heightOf 33 = .ok (.iload_n 3, 1) := by decide +kernel
theorem dX7_heightOf_34 : decode cX7_heightOf 34 = .ok (.iaload, 1) := by decide +kernel
theorem dX7_heightOf_35 : decode cX7_heightOf 35 = .ok (.iconst 1, 1) := by decide +kernel
theorem dX7_heightOf_36 : decode cX7_heightOf 36 = .ok (.iadd, 1) := by decide +kernel
theorem dX7_heightOf_37 : decode cX7_heightOf 37 = .ok (.goto 4, 3) := by decide +kernel
theorem dX7_heightOf_40 : decode cX7_heightOf 40 = .ok (.iload_n 2, 1) := by decide +kernel
theorem dX7_heightOf_41 : decode cX7_heightOf 41 = .ok (.istore_n 2, 1) := by decide +kernel
theorem dX7_heightOf_42 : decode cX7_heightOf 42 = .ok (.iinc 3 1, 3) := by decide +kernel
theorem dX7_heightOf_45 : decode cX7_heightOf 45 = .ok (.goto (-41), 3) := by decide +kernel
theorem dX7_heightOf_48 : decode cX7_heightOf 48 = .ok (.iload_n 2, 1) := by decide +kernel
theorem dX7_heightOf_49 : decode cX7_heightOf 49 = .ok (.ireturn, 1) := by decide +kernel
set_option maxRecDepth 20000 in
theorem ggX7_highest_X7_heightOf : GoodIn wsX7_highest wsX7_heightOf := goodIn_r _ [6, 7, 8, 9, 10, 5, 11, 12, 13, 14, 15, 16, 17, 18, 19, 20, 21, 22, 23, 24, 25, 26, 27, 28, 29, 30, 31, 32, 33, 34, 35, 36, 37, 38, 39, 40, 41, 42, 43] (by decide +kernel) (by decide +kernel)
set_option maxRecDepth 20000 in
theorem gX7_highest_X7_heightOf : GoodIn wsX7_highest (wsV RX7 96 RX7 yX7_heightOf wsX7_heightOf) := goodIn_app (goodIn_of _ (by decide +kernel)) ggX7_highest_X7_heightOf
theorem dX7_highest_0 : decode cX7_highest 0 = .ok (.iconst 0, 1) := by decide +kernel
theorem dX7_highest_1 : decode cX7_highest 1 = .ok (.istore_n 1, 1) := by decide +kernel
theorem dX7_highest_2 : decode cX7_highest 2 = .ok (.iconst 0, 1) := by decide +kernel
theorem dX7_highest_3 : decode cX7_highest 3 = .ok (.istore_n 2, 1) := by decide +kernel
theorem dX7_highest_4 : decode cX7_highest 4 = .ok (.iload_n 2, 1) := by decide +kernel
theorem dX7_highest_5 : decode cX7_highest 5 = .ok (.aload_n 0, 1) := by decide +kernel
theorem dX7_highest_6 : decode cX7_highest 6 = .ok (.getfield 7, 3) := by decide +kernel
theorem dX7_highest_9 : decode cX7_highest 9 = .ok (.if_icmp .ge 28, 3) := by decide +kernel
theorem dX7_highest_12 : decode cX7_highest 12 = .ok (.aload_n 0, 1) := by decide +kernel
theorem dX7_highest_13 : decode cX7_highest 13 = .ok (.iload_n 2, 1) := by decide +kernel
theorem dX7_highest_14 : decode cX7_highest 14 = .ok (.invokevirtual 96, 3) := by decide +kernel
theorem dX7_highest_17 : decode cX7_highest 17 = .ok (.iload_n 1, 1) := by decide +kernel
theorem dX7_highest_18 : decode cX7_highest 18 = .ok (.if_icmp .le 11, 3) := by decide +kernel
theorem dX7_highest_21 : decode cX7_highest 21 = .ok (.aload_n 0, 1) := by decide +kernel
theorem dX7_highest_22 : decode cX7_highest 22 = .ok (.iload_n 2, 1) := by decide +kernel
theorem dX7_highest_23 : decode cX7_highest 23 = .ok (.invokevirtual 96, 3) := by decide +kernel
theorem dX7_highest_26 : decode cX7_highest 26 = .ok (.goto 4, 3) := by decide +kernel
theorem dX7_highest_29 : decode cX7_highest 29 = .ok (.iload_n 1, 1) := by decide +kernel
theorem dX7_highest_30 : decode cX7_highest 30 = .ok (.istore_n 1, 1) := by decide +kernel
theorem dX7_highest_31 : decode cX7_highest 31 = .ok (.iinc 2 1, 3) := by decide +kernel
theorem dX7_highest_34 : decode cX7_highest 34 = .ok (.goto (-30), 3) := by decide +kernel
theorem dX7_highest_37 : decode cX7_highest 37 = .ok (.iload_n 1, 1) := by decide +kernel
theorem dX7_highest_38 : decode cX7_highest 38 = .ok (.ireturn, 1) := by decide +kernel
set_option maxRecDepth 20000 in
theorem ggX7_held_X7_whose : GoodIn wsX7_held wsX7_whose := goodIn_r _ [8, 3, 9, 10, 11, 7, 12, 1, 2, 13, 14, 15, 16, 17, 18, 19, 20, 21, 22, 23, 24, 25, 26, 27, 28, 29, 30, 31, 32, 33, 34, 35, 36, 37, 38, 39, 40, 41, 42] (by decide +kernel) (by decide +kernel)
set_option maxRecDepth 20000 in
theorem gX7_held_X7_whose : GoodIn wsX7_held (wsV RX7 99 RX7 yX7_whose wsX7_whose) := goodIn_app (goodIn_of _ (by decide +kernel)) ggX7_held_X7_whose
theorem dX7_held_0 : decode cX7_held 0 = .ok (.iconst 0, 1) := by decide +kernel
theorem dX7_held_1 : decode cX7_held 1 = .ok (.istore_n 2, 1) := by decide +kernel
theorem dX7_held_2 : decode cX7_held 2 = .ok (.aload_n 0, 1) := by decide +kernel
theorem dX7_held_3 : decode cX7_held 3 = .ok (.getfield 38, 3) := by decide +kernel
theorem dX7_held_6 : decode cX7_held 6 = .ok (.iload_n 1, 1) := by decide +kernel
theorem dX7_held_7 : decode cX7_held 7 = .ok (.iaload, 1) := by decide +kernel
theorem dX7_held_8 : decode cX7_held 8 = .ok (.istore_n 3, 1) := by decide +kernel
theorem dX7_held_9 : decode cX7_held 9 = .ok (.iload_n 3, 1) := by decide +kernel
theorem dX7_held_10 : decode cX7_held 10 = .ok (.aload_n 0, 1) := by decide +kernel
theorem dX7_held_11 : decode cX7_held 11 = .ok (.getfield 38, 3) := by decide +kernel
theorem dX7_held_14 : decode cX7_held 14 = .ok (.iload_n 1, 1) := by decide +kernel
theorem dX7_held_15 : decode cX7_held 15 = .ok (.iaload, 1) := by decide +kernel
theorem dX7_held_16 : decode cX7_held 16 = .ok (.aload_n 0, 1) := by decide +kernel
theorem dX7_held_17 : decode cX7_held 17 = .ok (.getfield 13, 3) := by decide +kernel
theorem dX7_held_20 : decode cX7_held 20 = .ok (.iload_n 1, 1) := by decide +kernel
theorem dX7_held_21 : decode cX7_held 21 = .ok (.iaload, 1) := by decide +kernel
theorem dX7_held_22 : decode cX7_held 22 = .ok (.iadd, 1) := by decide +kernel
theorem dX7_held_23 : decode cX7_held 23 = .ok (.if_icmp .ge 42, 3) := by decide +kernel
theorem dX7_held_26 : decode cX7_held 26 = .ok (.iload_n 2, 1) := by decide +kernel
theorem dX7_held_27 : decode cX7_held 27 = .ok (.aload_n 0, 1) := by decide +kernel
theorem dX7_held_28 : decode cX7_held 28 = .ok (.getfield 35, 3) := by decide +kernel
theorem dX7_held_31 : decode cX7_held 31 = .ok (.iload_n 1, 1) := by decide +kernel
theorem dX7_held_32 : decode cX7_held 32 = .ok (.iaload, 1) := by decide +kernel
theorem dX7_held_33 : decode cX7_held 33 = .ok (.ifCond .eq 19, 3) := by decide +kernel
theorem dX7_held_36 : decode cX7_held 36 = .ok (.aload_n 0, 1) := by decide +kernel
theorem dX7_held_37 : decode cX7_held 37 = .ok (.aload_n 0, 1) := by decide +kernel
theorem dX7_held_38 : decode cX7_held 38 = .ok (.getfield 35, 3) := by decide +kernel
theorem dX7_held_41 : decode cX7_held 41 = .ok (.iload_n 1, 1) := by decide +kernel
theorem dX7_held_42 : decode cX7_held 42 = .ok (.iaload, 1) := by decide +kernel
theorem dX7_held_43 : decode cX7_held 43 = .ok (.iconst 1, 1) := by decide +kernel
theorem dX7_held_44 : decode cX7_held 44 = .ok (.isub, 1) := by decide +kernel
theorem dX7_held_45 : decode cX7_held 45 = .ok (.iload_n 3, 1) := by decide +kernel
theorem dX7_held_46 : decode cX7_held 46 = .ok (.invokevirtual 99, 3) := by decide +kernel
theorem dX7_held_49 : decode cX7_held 49 = .ok (.ifCond .lt 7, 3) := by decide +kernel
theorem dX7_held_52 : decode cX7_held 52 = .ok (.iconst 1, 1) := by decide +kernel
theorem dX7_held_53 : decode cX7_held 53 = .ok (.goto 4, 3) := by decide +kernel
theorem dX7_held_56 : decode cX7_held 56 = .ok (.iconst 0, 1) := by decide +kernel
theorem dX7_held_57 : decode cX7_held 57 = .ok (.iadd, 1) := by decide +kernel
theorem dX7_held_58 : decode cX7_held 58 = .ok (.istore_n 2, 1) := by decide +kernel
theorem dX7_held_59 : decode cX7_held 59 = .ok (.iinc 3 1, 3) := by decide +kernel
theorem dX7_held_62 : decode cX7_held 62 = .ok (.goto (-53), 3) := by decide +kernel
theorem dX7_held_65 : decode cX7_held 65 = .ok (.iload_n 2, 1) := by decide +kernel
theorem dX7_held_66 : decode cX7_held 66 = .ok (.ireturn, 1) := by decide +kernel
set_option maxRecDepth 20000 in
theorem ggX7_stands_X7_held : GoodIn wsX7_stands wsX7_held := goodIn_r _ [6, 7, 1, 8, 9, 10, 11, 5, 12, 13, 14, 15, 16, 17, 18, 19, 20, 21, 22, 23, 24, 25, 26, 27, 28, 29, 30, 31, 32, 33, 34, 35, 36, 37, 38, 39, 40, 41, 42, 43, 44, 45, 46] (by decide +kernel) (by decide +kernel)
set_option maxRecDepth 20000 in
theorem gX7_stands_X7_held : GoodIn wsX7_stands (wsV RX7 103 RX7 yX7_held wsX7_held) := goodIn_app (goodIn_of _ (by decide +kernel)) ggX7_stands_X7_held
theorem dX7_stands_0 : decode cX7_stands 0 = .ok (.iconst 2, 1) := by decide +kernel
theorem dX7_stands_1 : decode cX7_stands 1 = .ok (.aload_n 0, 1) := by decide +kernel
theorem dX7_stands_2 : decode cX7_stands 2 = .ok (.iload_n 1, 1) := by decide +kernel
theorem dX7_stands_3 : decode cX7_stands 3 = .ok (.invokevirtual 103, 3) := by decide +kernel
theorem dX7_stands_6 : decode cX7_stands 6 = .ok (.imul, 1) := by decide +kernel
theorem dX7_stands_7 : decode cX7_stands 7 = .ok (.aload_n 0, 1) := by decide +kernel
theorem dX7_stands_8 : decode cX7_stands 8 = .ok (.getfield 13, 3) := by decide +kernel
theorem dX7_stands_11 : decode cX7_stands 11 = .ok (.iload_n 1, 1) := by decide +kernel
theorem dX7_stands_12 : decode cX7_stands 12 = .ok (.iaload, 1) := by decide +kernel
theorem dX7_stands_13 : decode cX7_stands 13 = .ok (.if_icmp .lt 7, 3) := by decide +kernel
theorem dX7_stands_16 : decode cX7_stands 16 = .ok (.iconst 1, 1) := by decide +kernel
theorem dX7_stands_17 : decode cX7_stands 17 = .ok (.goto 4, 3) := by decide +kernel
theorem dX7_stands_20 : decode cX7_stands 20 = .ok (.iconst 0, 1) := by decide +kernel
theorem dX7_stands_21 : decode cX7_stands 21 = .ok (.ireturn, 1) := by decide +kernel
set_option maxRecDepth 20000 in
theorem ggX7_layLoads_X7_held : GoodIn wsX7_layLoads wsX7_held := goodIn_r _ [11, 5, 6, 2, 12, 13, 14, 10, 15, 16, 17, 18, 19, 20, 21, 22, 23, 24, 25, 26, 27, 28, 29, 30, 31, 32, 33, 34, 35, 36, 37, 38, 39, 40, 41, 42, 43, 44, 45, 46, 47, 48, 49] (by decide +kernel) (by decide +kernel)
set_option maxRecDepth 20000 in
theorem gX7_layLoads_X7_held : GoodIn wsX7_layLoads (wsV RX7 103 RX7 yX7_held wsX7_held) := goodIn_app (goodIn_of _ (by decide +kernel)) ggX7_layLoads_X7_held
set_option maxRecDepth 20000 in
theorem ggX7_layLoads_X7_whose : GoodIn wsX7_layLoads wsX7_whose := goodIn_r _ [15, 2, 16, 17, 18, 10, 19, 5, 6, 20, 21, 22, 23, 24, 25, 26, 27, 28, 29, 30, 31, 32, 33, 34, 35, 36, 37, 38, 39, 40, 41, 42, 43, 44, 45, 46, 47, 48, 49] (by decide +kernel) (by decide +kernel)
set_option maxRecDepth 20000 in
theorem gX7_layLoads_X7_whose : GoodIn wsX7_layLoads (wsV RX7 99 RX7 yX7_whose wsX7_whose) := goodIn_app (goodIn_of _ (by decide +kernel)) ggX7_layLoads_X7_whose
theorem dX7_layLoads_0 : decode cX7_layLoads 0 = .ok (.iconst 0, 1) := by decide +kernel
theorem dX7_layLoads_1 : decode cX7_layLoads 1 = .ok (.istore_n 1, 1) := by decide +kernel
theorem dX7_layLoads_2 : decode cX7_layLoads 2 = .ok (.iload_n 1, 1) := by decide +kernel
theorem dX7_layLoads_3 : decode cX7_layLoads 3 = .ok (.bipush 10, 2) := by decide +kernel
theorem dX7_layLoads_5 : decode cX7_layLoads 5 = .ok (.if_icmp .ge 16, 3) := by decide +kernel
theorem dX7_layLoads_8 : decode cX7_layLoads 8 = .ok (.aload_n 0, 1) := by decide +kernel
theorem dX7_layLoads_9 : decode cX7_layLoads 9 = .ok (.getfield 41, 3) := by decide +kernel
theorem dX7_layLoads_12 : decode cX7_layLoads 12 = .ok (.iload_n 1, 1) := by decide +kernel
theorem dX7_layLoads_13 : decode cX7_layLoads 13 = .ok (.lconst 0, 1) := by decide +kernel
theorem dX7_layLoads_14 : decode cX7_layLoads 14 = .ok (.lastore, 1) := by decide +kernel
theorem dX7_layLoads_15 : decode cX7_layLoads 15 = .ok (.iinc 1 1, 3) := by decide +kernel
theorem dX7_layLoads_18 : decode cX7_layLoads 18 = .ok (.goto (-16), 3) := by decide +kernel
theorem dX7_layLoads_21 : decode cX7_layLoads 21 = .ok (.bipush 9, 2) := by decide +kernel
theorem dX7_layLoads_23 : decode cX7_layLoads 23 = .ok (.istore_n 1, 1) := by decide +kernel
theorem dX7_layLoads_24 : decode cX7_layLoads 24 = .ok (.iload_n 1, 1) := by decide +kernel
theorem dX7_layLoads_25 : decode cX7_layLoads 25 = .ok (.ifCond .le 126, 3) := by decide +kernel
theorem dX7_layLoads_28 : decode cX7_layLoads 28 = .ok (.iconst 0, 1) := by decide +kernel
theorem dX7_layLoads_29 : decode cX7_layLoads 29 = .ok (.istore_n 2, 1) := by decide +kernel
theorem dX7_layLoads_30 : decode cX7_layLoads 30 = .ok (.iload_n 2, 1) := by decide +kernel
theorem dX7_layLoads_31 : decode cX7_layLoads 31 = .ok (.bipush 10, 2) := by decide +kernel
theorem dX7_layLoads_33 : decode cX7_layLoads 33 = .ok (.if_icmp .ge 112, 3) := by decide +kernel
theorem dX7_layLoads_36 : decode cX7_layLoads 36 = .ok (.aload_n 0, 1) := by decide +kernel
theorem dX7_layLoads_37 : decode cX7_layLoads 37 = .ok (.getfield 35, 3) := by decide +kernel
theorem dX7_layLoads_40 : decode cX7_layLoads 40 = .ok (.iload_n 2, 1) := by decide +kernel
theorem dX7_layLoads_41 : decode cX7_layLoads 41 = .ok (.iaload, 1) := by decide +kernel
theorem dX7_layLoads_42 : decode cX7_layLoads 42 = .ok (.iload_n 1, 1) := by decide +kernel
theorem dX7_layLoads_43 : decode cX7_layLoads 43 = .ok (.if_icmp .ne 96, 3) := by decide +kernel
theorem dX7_layLoads_46 : decode cX7_layLoads 46 = .ok (.aload_n 0, 1) := by decide +kernel
theorem dX7_layLoads_47 : decode cX7_layLoads 47 = .ok (.iload_n 2, 1) := by decide +kernel
theorem dX7_layLoads_48 : decode cX7_layLoads 48 = .ok (.invokevirtual 103, 3) := by decide +kernel
theorem dX7_layLoads_51 : decode cX7_layLoads 51 = .ok (.ifCond .le 88, 3) := by decide +kernel
theorem dX7_layLoads_54 : decode cX7_layLoads 54 = .ok (.aload_n 0, 1) := by decide +kernel
theorem dX7_layLoads_55 : decode cX7_layLoads 55 = .ok (.getfield 41, 3) := by decide +kernel
theorem dX7_layLoads_58 : decode cX7_layLoads 58 = .ok (.iload_n 2, 1) := by decide +kernel
theorem dX7_layLoads_59 : decode cX7_layLoads 59 = .ok (.laload, 1) := by decide +kernel
theorem dX7_layLoads_60 : decode cX7_layLoads 60 = .ok (.ldc2_w 106, 3) := by decide +kernel
theorem dX7_layLoads_63 : decode cX7_layLoads 63 = .ok (.aload_n 0, 1) := by decide +kernel
theorem dX7_layLoads_64 : decode cX7_layLoads 64 = .ok (.getfield 17, 3) := by decide +kernel
theorem dX7_layLoads_67 : decode cX7_layLoads 67 = .ok (.iload_n 2, 1) := by decide +kernel
theorem dX7_layLoads_68 : decode cX7_layLoads 68 = .ok (.iaload, 1) := by decide +kernel
theorem dX7_layLoads_69 : decode cX7_layLoads 69 = .ok (.i2l, 1) := by decide +kernel
theorem dX7_layLoads_70 : decode cX7_layLoads 70 = .ok (.lmul, 1) := by decide +kernel
theorem dX7_layLoads_71 : decode cX7_layLoads 71 = .ok (.ladd, 1) := by decide +kernel
theorem dX7_layLoads_72 : decode cX7_layLoads 72 = .ok (.aload_n 0, 1) := by decide +kernel
theorem dX7_layLoads_73 : decode cX7_layLoads 73 = .ok (.iload_n 2, 1) := by decide +kernel
theorem dX7_layLoads_74 : decode cX7_layLoads 74 = .ok (.invokevirtual 103, 3) := by decide +kernel
theorem dX7_layLoads_77 : decode cX7_layLoads 77 = .ok (.i2l, 1) := by decide +kernel
theorem dX7_layLoads_78 : decode cX7_layLoads 78 = .ok (.ldiv, 1) := by decide +kernel
theorem dX7_layLoads_79 : decode cX7_layLoads 79 = .ok (.lstore_n 3, 1) := by decide +kernel
theorem dX7_layLoads_80 : decode cX7_layLoads 80 = .ok (.aload_n 0, 1) := by decide +kernel
theorem dX7_layLoads_81 : decode cX7_layLoads 81 = .ok (.getfield 38, 3) := by decide +kernel
theorem dX7_layLoads_84 : decode cX7_layLoads 84 = .ok (.iload_n 2, 1) := by decide +kernel
theorem dX7_layLoads_85 : decode cX7_layLoads 85 = .ok (.iaload, 1) := by decide +kernel
theorem dX7_layLoads_86 : decode cX7_layLoads 86 = .ok (.istore 5, 2) := by decide +kernel
theorem dX7_layLoads_88 : decode cX7_layLoads 88 = .ok (.iload 5, 2) := by decide +kernel
theorem dX7_layLoads_90 : decode cX7_layLoads 90 = .ok (.aload_n 0, 1) := by decide +kernel
theorem dX7_layLoads_91 : decode cX7_layLoads 91 = .ok (.getfield 38, 3) := by decide +kernel
theorem dX7_layLoads_94 : decode cX7_layLoads 94 = .ok (.iload_n 2, 1) := by decide +kernel
theorem dX7_layLoads_95 : decode cX7_layLoads 95 = .ok (.iaload, 1) := by decide +kernel
theorem dX7_layLoads_96 : decode cX7_layLoads 96 = .ok (.aload_n 0, 1) := by decide +kernel
theorem dX7_layLoads_97 : decode cX7_layLoads 97 = .ok (.getfield 13, 3) := by decide +kernel
theorem dX7_layLoads_100 : decode cX7_layLoads 100 = .ok (.iload_n 2, 1) := by decide +kernel
theorem dX7_layLoads_101 : decode cX7_layLoads 101 = .ok (.iaload, 1) := by decide +kernel
theorem dX7_layLoads_102 : decode cX7_layLoads 102 = .ok (.iadd, 1) := by decide +kernel
theorem dX7_layLoads_103 : decode cX7_layLoads 103 = .ok (.if_icmp .ge 36, 3) := by decide +kernel
theorem dX7_layLoads_106 : decode cX7_layLoads 106 = .ok (.aload_n 0, 1) := by decide +kernel
theorem dX7_layLoads_107 : decode cX7_layLoads 107 = .ok (.iload_n 1, 1) := by decide +kernel
theorem dX7_layLoads_108 : decode cX7_layLoads 108 = .ok (.iconst 1, 1) := by decide +kernel
theorem dX7_layLoads_109 : decode cX7_layLoads 109 = .ok (.isub, 1) := by decide +kernel
theorem dX7_layLoads_110 : decode cX7_layLoads 110 = .ok (.iload 5, 2) := by decide +kernel
theorem dX7_layLoads_112 : decode cX7_layLoads 112 = .ok (.invokevirtual 99, 3) := by decide +kernel
theorem dX7_layLoads_115 : decode cX7_layLoads 115 = .ok (.istore 6, 2) := by decide +kernel
theorem dX7_layLoads_117 : decode cX7_layLoads 117 = .ok (.iload 6, 2) := by decide +kernel
theorem dX7_layLoads_119 : decode cX7_layLoads 119 = .ok (.ifCond .lt 14, 3) := by decide +kernel
theorem dX7_layLoads_122 : decode cX7_layLoads 122 = .ok (.aload_n 0, 1) := by decide +kernel
theorem dX7_layLoads_123 : decode cX7_layLoads 123 = .ok (.getfield 41, 3) := by decide +kernel
theorem dX7_layLoads_126 : decode cX7_layLoads 126 = .ok (.iload 6, 2) := by decide +kernel
theorem dX7_layLoads_128 : decode cX7_layLoads 128 = .ok (.dup2, 1) := by decide +kernel
theorem dX7_layLoads_129 : decode cX7_layLoads 129 = .ok (.laload, 1) := by decide +kernel
theorem dX7_layLoads_130 : decode cX7_layLoads 130 = .ok (.lload_n 3, 1) := by decide +kernel
theorem dX7_layLoads_131 : decode cX7_layLoads 131 = .ok (.ladd, 1) := by decide +kernel
theorem dX7_layLoads_132 : decode cX7_layLoads 132 = .ok (.lastore, 1) := by decide +kernel
theorem dX7_layLoads_133 : decode cX7_layLoads 133 = .ok (.iinc 5 1, 3) := by decide +kernel
theorem dX7_layLoads_136 : decode cX7_layLoads 136 = .ok (.goto (-48), 3) := by decide +kernel
theorem dX7_layLoads_139 : decode cX7_layLoads 139 = .ok (.iinc 2 1, 3) := by decide +kernel
theorem dX7_layLoads_142 : decode cX7_layLoads 142 = .ok (.goto (-112), 3) := by decide +kernel
theorem dX7_layLoads_145 : decode cX7_layLoads 145 = .ok (.iinc 1 (-1), 3) := by decide +kernel
theorem dX7_layLoads_148 : decode cX7_layLoads 148 = .ok (.goto (-124), 3) := by decide +kernel
theorem dX7_layLoads_151 : decode cX7_layLoads 151 = .ok (.return_, 1) := by decide +kernel
set_option maxRecDepth 20000 in
theorem ggX7_isOver_X7_isIn : GoodIn wsX7_isOver wsX7_isIn := goodIn_r _ [8, 9, 10, 11, 12, 13, 14, 15, 16, 17, 18, 19, 20, 21, 22, 23, 24, 25, 26, 27, 28, 29, 30, 31, 32, 33, 34, 35] (by decide +kernel) (by decide +kernel)
set_option maxRecDepth 20000 in
theorem gX7_isOver_X7_isIn : GoodIn wsX7_isOver (wsV RX7 88 RX7 yX7_isIn wsX7_isIn) := goodIn_app (goodIn_of _ (by decide +kernel)) ggX7_isOver_X7_isIn
theorem dX7_isOver_0 : decode cX7_isOver 0 = .ok (.aload_n 0, 1) := by decide +kernel
theorem dX7_isOver_1 : decode cX7_isOver 1 = .ok (.iload_n 1, 1) := by decide +kernel
theorem dX7_isOver_2 : decode cX7_isOver 2 = .ok (.invokevirtual 88, 3) := by decide +kernel
theorem dX7_isOver_5 : decode cX7_isOver 5 = .ok (.ifCond .eq 28, 3) := by decide +kernel
theorem dX7_isOver_8 : decode cX7_isOver 8 = .ok (.aload_n 0, 1) := by decide +kernel
theorem dX7_isOver_9 : decode cX7_isOver 9 = .ok (.getfield 41, 3) := by decide +kernel
theorem dX7_isOver_12 : decode cX7_isOver 12 = .ok (.iload_n 1, 1) := by decide +kernel
theorem dX7_isOver_13 : decode cX7_isOver 13 = .ok (.laload, 1) := by decide +kernel
theorem dX7_isOver_14 : decode cX7_isOver 14 = .ok (.ldc2_w 106, 3) := by decide +kernel
theorem dX7_isOver_17 : decode cX7_isOver 17 = .ok (.aload_n 0, 1) := by decide +kernel
theorem dX7_isOver_18 : decode cX7_isOver 18 = .ok (.getfield 20, 3) := by decide +kernel
theorem dX7_isOver_21 : decode cX7_isOver 21 = .ok (.iload_n 1, 1) := by decide +kernel
theorem dX7_isOver_22 : decode cX7_isOver 22 = .ok (.iaload, 1) := by decide +kernel
theorem dX7_isOver_23 : decode cX7_isOver 23 = .ok (.i2l, 1) := by decide +kernel
theorem dX7_isOver_24 : decode cX7_isOver 24 = .ok (.lmul, 1) := by decide +kernel
theorem dX7_isOver_25 : decode cX7_isOver 25 = .ok (.lcmp, 1) := by decide +kernel
theorem dX7_isOver_26 : decode cX7_isOver 26 = .ok (.ifCond .le 7, 3) := by decide +kernel
theorem dX7_isOver_29 : decode cX7_isOver 29 = .ok (.iconst 1, 1) := by decide +kernel
theorem dX7_isOver_30 : decode cX7_isOver 30 = .ok (.goto 4, 3) := by decide +kernel
theorem dX7_isOver_33 : decode cX7_isOver 33 = .ok (.iconst 0, 1) := by decide +kernel
theorem dX7_isOver_34 : decode cX7_isOver 34 = .ok (.ireturn, 1) := by decide +kernel
set_option maxRecDepth 20000 in
theorem ggX7_put_X7_has : GoodIn wsX7_put wsX7_has := goodIn_r _ [9] (by decide +kernel) (by decide +kernel)
set_option maxRecDepth 20000 in
theorem gX7_put_X7_has : GoodIn wsX7_put (va_wsS RX7 108 yX7_has wsX7_has) := goodIn_app (goodIn_of _ (by decide +kernel)) ggX7_put_X7_has
set_option maxRecDepth 20000 in
theorem ggX7_put_X7_isIn : GoodIn wsX7_put wsX7_isIn := goodIn_r _ [13, 4, 50, 51, 52, 53, 54, 55, 56, 57, 58, 59, 60, 61, 62, 63, 64, 65, 66, 67, 68, 69, 70, 71, 72, 73, 74, 75] (by decide +kernel) (by decide +kernel)
set_option maxRecDepth 20000 in
theorem gX7_put_X7_isIn : GoodIn wsX7_put (wsV RX7 88 RX7 yX7_isIn wsX7_isIn) := goodIn_app (goodIn_of _ (by decide +kernel)) ggX7_put_X7_isIn
set_option maxRecDepth 20000 in
theorem ggX7_put_X7_heightOf : GoodIn wsX7_put wsX7_heightOf := goodIn_r _ [17, 4, 18, 19, 20, 8, 21, 5, 2, 10, 11, 12, 13, 50, 51, 52, 53, 54, 55, 56, 57, 58, 59, 60, 61, 62, 63, 64, 65, 66, 67, 68, 69, 70, 71, 72, 73, 74, 75] (by decide +kernel) (by decide +kernel)
set_option maxRecDepth 20000 in
theorem gX7_put_X7_heightOf : GoodIn wsX7_put (wsV RX7 96 RX7 yX7_heightOf wsX7_heightOf) := goodIn_app (goodIn_of _ (by decide +kernel)) ggX7_put_X7_heightOf
set_option maxRecDepth 20000 in
theorem ggX7_put_X7_stands : GoodIn wsX7_put wsX7_stands := goodIn_r _ [25, 2, 26, 27, 28, 8, 29, 5, 4, 30, 31, 32, 33, 18, 19, 20, 21, 10, 11, 12, 13, 50, 51, 52, 53, 54, 55, 56, 57, 58, 59, 60, 61, 62, 63, 64, 65, 66, 67, 68, 69, 70, 71, 72, 73, 74, 75] (by decide +kernel) (by decide +kernel)
set_option maxRecDepth 20000 in
theorem gX7_put_X7_stands : GoodIn wsX7_put (wsV RX7 111 RX7 yX7_stands wsX7_stands) := goodIn_app (goodIn_of _ (by decide +kernel)) ggX7_put_X7_stands
set_option maxRecDepth 20000 in
theorem ggX7_put_X7_layLoads : GoodIn wsX7_put wsX7_layLoads := goodIn_r _ [37, 38, 4, 39, 40, 5, 2, 26, 27, 28, 8, 29, 30, 31, 32, 33, 18, 19, 20, 21, 10, 11, 12, 13, 50, 51, 52, 53, 54, 55, 56, 57, 58, 59, 60, 61, 62, 63, 64, 65, 66, 67, 68, 69, 70, 71, 72, 73, 74, 75] (by decide +kernel) (by decide +kernel)
set_option maxRecDepth 20000 in
theorem gX7_put_X7_layLoads : GoodIn wsX7_put (wsV RX7 114 RX7 yX7_layLoads wsX7_layLoads) := goodIn_app (goodIn_of _ (by decide +kernel)) ggX7_put_X7_layLoads
set_option maxRecDepth 20000 in
theorem ggX7_put_X7_isOver : GoodIn wsX7_put wsX7_isOver := goodIn_r _ [44, 38, 39, 45, 10, 11, 12, 8, 13, 4, 50, 51, 52, 53, 54, 55, 56, 57, 58, 59, 60, 61, 62, 63, 64, 65, 66, 67, 68, 69, 70, 71, 72, 73, 74, 75] (by decide +kernel) (by decide +kernel)
set_option maxRecDepth 20000 in
theorem gX7_put_X7_isOver : GoodIn wsX7_put (wsV RX7 117 RX7 yX7_isOver wsX7_isOver) := goodIn_app (goodIn_of _ (by decide +kernel)) ggX7_put_X7_isOver
set_option maxRecDepth 20000 in
theorem ggX7_put_X7_take : GoodIn wsX7_put wsX7_take := goodIn_r _ [49, 4, 5, 50, 51, 52, 53, 54, 55, 56, 57, 58, 59, 60, 61, 62, 63, 64, 65, 66, 67, 68, 69, 70, 71, 72, 73, 74, 75] (by decide +kernel) (by decide +kernel)
set_option maxRecDepth 20000 in
theorem gX7_put_X7_take : GoodIn wsX7_put (wsV RX7 120 RX7 yX7_take wsX7_take) := goodIn_app (goodIn_of _ (by decide +kernel)) ggX7_put_X7_take
theorem dX7_put_0 : decode cX7_put 0 = .ok (.aload_n 0, 1) := by decide +kernel
theorem dX7_put_1 : decode cX7_put 1 = .ok (.getfield 67, 3) := by decide +kernel
theorem dX7_put_4 : decode cX7_put 4 = .ok (.iload_n 1, 1) := by decide +kernel
theorem dX7_put_5 : decode cX7_put 5 = .ok (.invokestatic 108, 3) := by decide +kernel
theorem dX7_put_8 : decode cX7_put 8 = .ok (.ifCond .eq 11, 3) := by decide +kernel
theorem dX7_put_11 : decode cX7_put 11 = .ok (.aload_n 0, 1) := by decide +kernel
theorem dX7_put_12 : decode cX7_put 12 = .ok (.iload_n 1, 1) := by decide +kernel
theorem dX7_put_13 : decode cX7_put 13 = .ok (.invokevirtual 88, 3) := by decide +kernel
theorem dX7_put_16 : decode cX7_put 16 = .ok (.ifCond .eq 5, 3) := by decide +kernel
theorem dX7_put_19 : decode cX7_put 19 = .ok (.iconst 1, 1) := by decide +kernel
theorem dX7_put_20 : decode cX7_put 20 = .ok (.ireturn, 1) := by decide +kernel
theorem dX7_put_21 : decode cX7_put 21 = .ok (.iload_n 2, 1) := by decide +kernel
theorem dX7_put_22 : decode cX7_put 22 = .ok (.aload_n 0, 1) := by decide +kernel
theorem dX7_put_23 : decode cX7_put 23 = .ok (.getfield 13, 3) := by decide +kernel
theorem dX7_put_26 : decode cX7_put 26 = .ok (.iload_n 1, 1) := by decide +kernel
theorem dX7_put_27 : decode cX7_put 27 = .ok (.iaload, 1) := by decide +kernel
theorem dX7_put_28 : decode cX7_put 28 = .ok (.iadd, 1) := by decide +kernel
theorem dX7_put_29 : decode cX7_put 29 = .ok (.aload_n 0, 1) := by decide +kernel
theorem dX7_put_30 : decode cX7_put 30 = .ok (.getfield 7, 3) := by decide +kernel
theorem dX7_put_33 : decode cX7_put 33 = .ok (.if_icmp .le 5, 3) := by decide +kernel
theorem dX7_put_36 : decode cX7_put 36 = .ok (.iconst 2, 1) := by decide +kernel
theorem dX7_put_37 : decode cX7_put 37 = .ok (.ireturn, 1) := by decide +kernel
theorem dX7_put_38 : decode cX7_put 38 = .ok (.iconst 0, 1) := by decide +kernel
theorem dX7_put_39 : decode cX7_put 39 = .ok (.istore_n 3, 1) := by decide +kernel
theorem dX7_put_40 : decode cX7_put 40 = .ok (.iload_n 2, 1) := by decide +kernel
theorem dX7_put_41 : decode cX7_put 41 = .ok (.istore 4, 2) := by decide +kernel
theorem dX7_put_43 : decode cX7_put 43 = .ok (.iload 4, 2) := by decide +kernel
theorem dX7_put_45 : decode cX7_put 45 = .ok (.iload_n 2, 1) := by decide +kernel
theorem dX7_put_46 : decode cX7_put 46 = .ok (.aload_n 0, 1) := by decide +kernel
theorem dX7_put_47 : decode cX7_put 47 = .ok (.getfield 13, 3) := by decide +kernel
theorem dX7_put_50 : decode cX7_put 50 = .ok (.iload_n 1, 1) := by decide +kernel
theorem dX7_put_51 : decode cX7_put 51 = .ok (.iaload, 1) := by decide +kernel
theorem dX7_put_52 : decode cX7_put 52 = .ok (.iadd, 1) := by decide +kernel
theorem dX7_put_53 : decode cX7_put 53 = .ok (.if_icmp .ge 30, 3) := by decide +kernel
theorem dX7_put_56 : decode cX7_put 56 = .ok (.aload_n 0, 1) := by decide +kernel
theorem dX7_put_57 : decode cX7_put 57 = .ok (.iload 4, 2) := by decide +kernel
theorem dX7_put_59 : decode cX7_put 59 = .ok (.invokevirtual 96, 3) := by decide +kernel
theorem dX7_put_62 : decode cX7_put 62 = .ok (.iload_n 3, 1) := by decide +kernel
theorem dX7_put_63 : decode cX7_put 63 = .ok (.if_icmp .le 12, 3) := by decide +kernel
theorem dX7_put_66 : decode cX7_put 66 = .ok (.aload_n 0, 1) := by decide +kernel
theorem dX7_put_67 : decode cX7_put 67 = .ok (.iload 4, 2) := by decide +kernel
theorem dX7_put_69 : decode cX7_put 69 = .ok (.invokevirtual 96, 3) := by decide +kernel
theorem dX7_put_72 : decode cX7_put 72 = .ok (.goto 4, 3) := by decide +kernel
theorem dX7_put_75 : decode cX7_put 75 = .ok (.iload_n 3, 1) := by decide +kernel
theorem dX7_put_76 : decode cX7_put 76 = .ok (.istore_n 3, 1) := by decide +kernel
theorem dX7_put_77 : decode cX7_put 77 = .ok (.iinc 4 1, 3) := by decide +kernel
theorem dX7_put_80 : decode cX7_put 80 = .ok (.goto (-37), 3) := by decide +kernel
theorem dX7_put_83 : decode cX7_put 83 = .ok (.aload_n 0, 1) := by decide +kernel
theorem dX7_put_84 : decode cX7_put 84 = .ok (.getfield 35, 3) := by decide +kernel
theorem dX7_put_87 : decode cX7_put 87 = .ok (.iload_n 1, 1) := by decide +kernel
theorem dX7_put_88 : decode cX7_put 88 = .ok (.iload_n 3, 1) := by decide +kernel
theorem dX7_put_89 : decode cX7_put 89 = .ok (.iastore, 1) := by decide +kernel
theorem dX7_put_90 : decode cX7_put 90 = .ok (.aload_n 0, 1) := by decide +kernel
theorem dX7_put_91 : decode cX7_put 91 = .ok (.getfield 38, 3) := by decide +kernel
theorem dX7_put_94 : decode cX7_put 94 = .ok (.iload_n 1, 1) := by decide +kernel
theorem dX7_put_95 : decode cX7_put 95 = .ok (.iload_n 2, 1) := by decide +kernel
theorem dX7_put_96 : decode cX7_put 96 = .ok (.iastore, 1) := by decide +kernel
theorem dX7_put_97 : decode cX7_put 97 = .ok (.aload_n 0, 1) := by decide +kernel
theorem dX7_put_98 : decode cX7_put 98 = .ok (.iload_n 1, 1) := by decide +kernel
theorem dX7_put_99 : decode cX7_put 99 = .ok (.invokevirtual 111, 3) := by decide +kernel
theorem dX7_put_102 : decode cX7_put 102 = .ok (.ifCond .eq 7, 3) := by decide +kernel
theorem dX7_put_105 : decode cX7_put 105 = .ok (.iconst 0, 1) := by decide +kernel
theorem dX7_put_106 : decode cX7_put 106 = .ok (.goto 4, 3) := by decide +kernel
theorem dX7_put_109 : decode cX7_put 109 = .ok (.iconst 3, 1) := by decide +kernel
theorem dX7_put_110 : decode cX7_put 110 = .ok (.istore 4, 2) := by decide +kernel
theorem dX7_put_112 : decode cX7_put 112 = .ok (.aload_n 0, 1) := by decide +kernel
theorem dX7_put_113 : decode cX7_put 113 = .ok (.invokevirtual 114, 3) := by decide +kernel
theorem dX7_put_116 : decode cX7_put 116 = .ok (.iconst 0, 1) := by decide +kernel
theorem dX7_put_117 : decode cX7_put 117 = .ok (.istore 5, 2) := by decide +kernel
theorem dX7_put_119 : decode cX7_put 119 = .ok (.iload 5, 2) := by decide +kernel
theorem dX7_put_121 : decode cX7_put 121 = .ok (.bipush 10, 2) := by decide +kernel
theorem dX7_put_123 : decode cX7_put 123 = .ok (.if_icmp .ge 30, 3) := by decide +kernel
theorem dX7_put_126 : decode cX7_put 126 = .ok (.iload 4, 2) := by decide +kernel
theorem dX7_put_128 : decode cX7_put 128 = .ok (.ifCond .ne 25, 3) := by decide +kernel
theorem dX7_put_131 : decode cX7_put 131 = .ok (.aload_n 0, 1) := by decide +kernel
theorem dX7_put_132 : decode cX7_put 132 = .ok (.iload 5, 2) := by decide +kernel
theorem dX7_put_134 : decode cX7_put 134 = .ok (.invokevirtual 117, 3) := by decide +kernel
theorem dX7_put_137 : decode cX7_put 137 = .ok (.ifCond .eq 7, 3) := by decide +kernel
theorem dX7_put_140 : decode cX7_put 140 = .ok (.iconst 4, 1) := by decide +kernel
theorem dX7_put_141 : decode cX7_put 141 = .ok (.goto 4, 3) := by decide +kernel
theorem dX7_put_144 : decode cX7_put 144 = .ok (.iconst 0, 1) := by decide +kernel
theorem dX7_put_145 : decode cX7_put 145 = .ok (.istore 4, 2) := by decide +kernel
theorem dX7_put_147 : decode cX7_put 147 = .ok (.iinc 5 1, 3) := by decide +kernel
theorem dX7_put_150 : decode cX7_put 150 = .ok (.goto (-31), 3) := by decide +kernel
theorem dX7_put_153 : decode cX7_put 153 = .ok (.iload 4, 2) := by decide +kernel
theorem dX7_put_155 : decode cX7_put 155 = .ok (.ifCond .le 8, 3) := by decide +kernel
theorem dX7_put_158 : decode cX7_put 158 = .ok (.aload_n 0, 1) := by decide +kernel
theorem dX7_put_159 : decode cX7_put 159 = .ok (.iload_n 1, 1) := by decide +kernel
theorem dX7_put_160 : decode cX7_put 160 = .ok (.invokevirtual 120, 3) := by decide +kernel
theorem dX7_put_163 : decode cX7_put 163 = .ok (.iload 4, 2) := by decide +kernel
theorem dX7_put_165 : decode cX7_put 165 = .ok (.ireturn, 1) := by decide +kernel
theorem dX7_take_0 : decode cX7_take 0 = .ok (.aload_n 0, 1) := by decide +kernel
theorem dX7_take_1 : decode cX7_take 1 = .ok (.getfield 35, 3) := by decide +kernel
theorem dX7_take_4 : decode cX7_take 4 = .ok (.iload_n 1, 1) := by decide +kernel
theorem dX7_take_5 : decode cX7_take 5 = .ok (.bipush (-6), 2) := by decide +kernel
theorem dX7_take_7 : decode cX7_take 7 = .ok (.iastore, 1) := by decide +kernel
theorem dX7_take_8 : decode cX7_take 8 = .ok (.aload_n 0, 1) := by decide +kernel
theorem dX7_take_9 : decode cX7_take 9 = .ok (.getfield 38, 3) := by decide +kernel
theorem dX7_take_12 : decode cX7_take 12 = .ok (.iload_n 1, 1) := by decide +kernel
theorem dX7_take_13 : decode cX7_take 13 = .ok (.bipush (-6), 2) := by decide +kernel
theorem dX7_take_15 : decode cX7_take 15 = .ok (.iastore, 1) := by decide +kernel
theorem dX7_take_16 : decode cX7_take 16 = .ok (.return_, 1) := by decide +kernel
set_option maxRecDepth 20000 in
theorem ggX7_whyNotTake_X7_isIn : GoodIn wsX7_whyNotTake wsX7_isIn := goodIn_r _ [8, 3, 17, 18, 19, 20, 21, 22, 23, 24, 25, 26, 27, 28, 29, 30, 31, 32, 33, 34, 35, 36, 37, 38, 39, 40, 41, 42] (by decide +kernel) (by decide +kernel)
set_option maxRecDepth 20000 in
theorem gX7_whyNotTake_X7_isIn : GoodIn wsX7_whyNotTake (wsV RX7 88 RX7 yX7_isIn wsX7_isIn) := goodIn_app (goodIn_of _ (by decide +kernel)) ggX7_whyNotTake_X7_isIn
set_option maxRecDepth 20000 in
theorem ggX7_whyNotTake_X7_whose : GoodIn wsX7_whyNotTake wsX7_whose := goodIn_r _ [12, 3, 13, 14, 15, 7, 16, 1, 2, 4, 5, 6, 8, 17, 18, 19, 20, 21, 22, 23, 24, 25, 26, 27, 28, 29, 30, 31, 32, 33, 34, 35, 36, 37, 38, 39, 40, 41, 42] (by decide +kernel) (by decide +kernel)
set_option maxRecDepth 20000 in
theorem gX7_whyNotTake_X7_whose : GoodIn wsX7_whyNotTake (wsV RX7 99 RX7 yX7_whose wsX7_whose) := goodIn_app (goodIn_of _ (by decide +kernel)) ggX7_whyNotTake_X7_whose
theorem dX7_whyNotTake_0 : decode cX7_whyNotTake 0 = .ok (.aload_n 0, 1) := by decide +kernel
theorem dX7_whyNotTake_1 : decode cX7_whyNotTake 1 = .ok (.iload_n 1, 1) := by decide +kernel
theorem dX7_whyNotTake_2 : decode cX7_whyNotTake 2 = .ok (.invokevirtual 88, 3) := by decide +kernel
theorem dX7_whyNotTake_5 : decode cX7_whyNotTake 5 = .ok (.ifCond .ne 5, 3) := by decide +kernel
theorem dX7_whyNotTake_8 : decode cX7_whyNotTake 8 = .ok (.iconst 1, 1) := by decide +kernel
theorem dX7_whyNotTake_9 : decode cX7_whyNotTake 9 = .ok (.ireturn, 1) := by decide +kernel
theorem dX7_whyNotTake_10 : decode cX7_whyNotTake 10 = .ok (.iconst 0, 1) := by decide +kernel
theorem dX7_whyNotTake_11 : decode cX7_whyNotTake 11 = .ok (.istore_n 2, 1) := by decide +kernel
theorem dX7_whyNotTake_12 : decode cX7_whyNotTake 12 = .ok (.aload_n 0, 1) := by decide +kernel
theorem dX7_whyNotTake_13 : decode cX7_whyNotTake 13 = .ok (.getfield 38, 3) := by decide +kernel
theorem dX7_whyNotTake_16 : decode cX7_whyNotTake 16 = .ok (.iload_n 1, 1) := by decide +kernel
theorem dX7_whyNotTake_17 : decode cX7_whyNotTake 17 = .ok (.iaload, 1) := by decide +kernel
theorem dX7_whyNotTake_18 : decode cX7_whyNotTake 18 = .ok (.istore_n 3, 1) := by decide +kernel
theorem dX7_whyNotTake_19 : decode cX7_whyNotTake 19 = .ok (.iload_n 3, 1) := by decide +kernel
theorem dX7_whyNotTake_20 : decode cX7_whyNotTake 20 = .ok (.aload_n 0, 1) := by decide +kernel
theorem dX7_whyNotTake_21 : decode cX7_whyNotTake 21 = .ok (.getfield 38, 3) := by decide +kernel
theorem dX7_whyNotTake_24 : decode cX7_whyNotTake 24 = .ok (.iload_n 1, 1) := by decide +kernel
theorem dX7_whyNotTake_25 : decode cX7_whyNotTake 25 = .ok (.iaload, 1) := by decide +kernel
theorem dX7_whyNotTake_26 : decode cX7_whyNotTake 26 = .ok (.aload_n 0, 1) := by decide +kernel
theorem dX7_whyNotTake_27 : decode cX7_whyNotTake 27 = .ok (.getfield 13, 3) := by decide +kernel
theorem dX7_whyNotTake_30 : decode cX7_whyNotTake 30 = .ok (.iload_n 1, 1) := by decide +kernel
theorem dX7_whyNotTake_31 : decode cX7_whyNotTake 31 = .ok (.iaload, 1) := by decide +kernel
theorem dX7_whyNotTake_32 : decode cX7_whyNotTake 32 = .ok (.iadd, 1) := by decide +kernel
theorem dX7_whyNotTake_33 : decode cX7_whyNotTake 33 = .ok (.if_icmp .ge 35, 3) := by decide +kernel
theorem dX7_whyNotTake_36 : decode cX7_whyNotTake 36 = .ok (.iload_n 2, 1) := by decide +kernel
theorem dX7_whyNotTake_37 : decode cX7_whyNotTake 37 = .ok (.ifCond .ne 19, 3) := by decide +kernel
theorem dX7_whyNotTake_40 : decode cX7_whyNotTake 40 = .ok (.aload_n 0, 1) := by decide +kernel
theorem dX7_whyNotTake_41 : decode cX7_whyNotTake 41 = .ok (.aload_n 0, 1) := by decide +kernel
theorem dX7_whyNotTake_42 : decode cX7_whyNotTake 42 = .ok (.getfield 35, 3) := by decide +kernel
theorem dX7_whyNotTake_45 : decode cX7_whyNotTake 45 = .ok (.iload_n 1, 1) := by decide +kernel
theorem dX7_whyNotTake_46 : decode cX7_whyNotTake 46 = .ok (.iaload, 1) := by decide +kernel
theorem dX7_whyNotTake_47 : decode cX7_whyNotTake 47 = .ok (.iconst 1, 1) := by decide +kernel
theorem dX7_whyNotTake_48 : decode cX7_whyNotTake 48 = .ok (.iadd, 1) := by decide +kernel
theorem dX7_whyNotTake_49 : decode cX7_whyNotTake 49 = .ok (.iload_n 3, 1) := by decide +kernel
theorem dX7_whyNotTake_50 : decode cX7_whyNotTake 50 = .ok (.invokevirtual 99, 3) := by decide +kernel
theorem dX7_whyNotTake_53 : decode cX7_whyNotTake 53 = .ok (.ifCond .lt 7, 3) := by decide +kernel
theorem dX7_whyNotTake_56 : decode cX7_whyNotTake 56 = .ok (.iconst 1, 1) := by decide +kernel
theorem dX7_whyNotTake_57 : decode cX7_whyNotTake 57 = .ok (.goto 4, 3) := by decide +kernel
theorem dX7_whyNotTake_60 : decode cX7_whyNotTake 60 = .ok (.iconst 0, 1) := by decide +kernel
theorem dX7_whyNotTake_61 : decode cX7_whyNotTake 61 = .ok (.istore_n 2, 1) := by decide +kernel
theorem dX7_whyNotTake_62 : decode cX7_whyNotTake 62 = .ok (.iinc 3 1, 3) := by decide +kernel
theorem dX7_whyNotTake_65 : decode cX7_whyNotTake 65 = .ok (.goto (-46), 3) := by decide +kernel
theorem dX7_whyNotTake_68 : decode cX7_whyNotTake 68 = .ok (.iload_n 2, 1) := by decide +kernel
theorem dX7_whyNotTake_69 : decode cX7_whyNotTake 69 = .ok (.ifCond .eq 7, 3) := by decide +kernel
theorem dX7_whyNotTake_72 : decode cX7_whyNotTake 72 = .ok (.iconst 5, 1) := by decide +kernel
theorem dX7_whyNotTake_73 : decode cX7_whyNotTake 73 = .ok (.goto 4, 3) := by decide +kernel
theorem dX7_whyNotTake_76 : decode cX7_whyNotTake 76 = .ok (.iconst 0, 1) := by decide +kernel
theorem dX7_whyNotTake_77 : decode cX7_whyNotTake 77 = .ok (.ireturn, 1) := by decide +kernel
set_option maxRecDepth 20000 in
theorem ggX7_goYears_X7_asNow : GoodIn wsX7_goYears wsX7_asNow := goodIn_r _ [8, 9, 10, 11, 12, 67, 68, 69, 70, 71, 72, 73, 74, 75, 76, 77, 78, 79, 80, 81, 82, 83, 84, 85, 86, 87, 88, 89, 90, 91, 92] (by decide +kernel) (by decide +kernel)
set_option maxRecDepth 20000 in
theorem gX7_goYears_X7_asNow : GoodIn wsX7_goYears (wsV RX7 124 RX7 yX7_asNow wsX7_asNow) := goodIn_app (goodIn_of _ (by decide +kernel)) ggX7_goYears_X7_asNow
set_option maxRecDepth 20000 in
theorem ggX7_goYears_X7_whyNotTake : GoodIn wsX7_goYears wsX7_whyNotTake := goodIn_r _ [16, 11, 17, 9, 18, 19, 20, 7, 21, 22, 23, 24, 25, 26, 27, 28, 29, 67, 68, 69, 70, 71, 72, 73, 74, 75, 76, 77, 78, 79, 80, 81, 82, 83, 84, 85, 86, 87, 88, 89, 90, 91, 92] (by decide +kernel) (by decide +kernel)
set_option maxRecDepth 20000 in
theorem gX7_goYears_X7_whyNotTake : GoodIn wsX7_goYears (wsV RX7 127 RX7 yX7_whyNotTake wsX7_whyNotTake) := goodIn_app (goodIn_of _ (by decide +kernel)) ggX7_goYears_X7_whyNotTake
set_option maxRecDepth 20000 in
theorem ggX7_goYears_X7_take : GoodIn wsX7_goYears wsX7_take := goodIn_r _ [33, 9, 11, 67, 68, 69, 70, 71, 72, 73, 74, 75, 76, 77, 78, 79, 80, 81, 82, 83, 84, 85, 86, 87, 88, 89, 90, 91, 92] (by decide +kernel) (by decide +kernel)
set_option maxRecDepth 20000 in
theorem gX7_goYears_X7_take : GoodIn wsX7_goYears (wsV RX7 120 RX7 yX7_take wsX7_take) := goodIn_app (goodIn_of _ (by decide +kernel)) ggX7_goYears_X7_take
set_option maxRecDepth 20000 in
theorem ggX7_goYears_X7_put : GoodIn wsX7_goYears wsX7_put := goodIn_r _ [37, 38, 17, 39, 9, 11, 40, 41, 7, 42, 18, 19, 20, 21, 43, 44, 45, 46, 26, 27, 28, 29, 47, 48, 49, 50, 51, 52, 53, 54, 22, 23, 24, 25, 55, 56, 57, 58, 59, 60, 61, 62, 63, 64, 65, 66, 30, 31, 32, 33, 67, 68, 69, 70, 71, 72, 73, 74, 75, 76, 77, 78, 79, 80, 81, 82, 83, 84, 85, 86, 87, 88, 89, 90, 91, 92] (by decide +kernel) (by decide +kernel)
set_option maxRecDepth 20000 in
theorem gX7_goYears_X7_put : GoodIn wsX7_goYears (wsV RX7 133 RX7 yX7_put wsX7_put) := goodIn_app (goodIn_of _ (by decide +kernel)) ggX7_goYears_X7_put
theorem dX7_goYears_0 : decode cX7_goYears 0 = .ok (.aload_n 0, 1) := by decide +kernel
theorem dX7_goYears_1 : decode cX7_goYears 1 = .ok (.invokevirtual 124, 3) := by decide +kernel
theorem dX7_goYears_4 : decode cX7_goYears 4 = .ok (.iconst 0, 1) := by decide +kernel
theorem dX7_goYears_5 : decode cX7_goYears 5 = .ok (.istore_n 1, 1) := by decide +kernel
theorem dX7_goYears_6 : decode cX7_goYears 6 = .ok (.iload_n 1, 1) := by decide +kernel
theorem dX7_goYears_7 : decode cX7_goYears 7 = .ok (.aload_n 0, 1) := by decide +kernel
theorem dX7_goYears_8 : decode cX7_goYears 8 = .ok (.getfield 81, 3) := by decide +kernel
theorem dX7_goYears_11 : decode cX7_goYears 11 = .ok (.if_icmp .ge 87, 3) := by decide +kernel
theorem dX7_goYears_14 : decode cX7_goYears 14 = .ok (.aload_n 0, 1) := by decide +kernel
theorem dX7_goYears_15 : decode cX7_goYears 15 = .ok (.getfield 32, 3) := by decide +kernel
theorem dX7_goYears_18 : decode cX7_goYears 18 = .ok (.iload_n 1, 1) := by decide +kernel
theorem dX7_goYears_19 : decode cX7_goYears 19 = .ok (.iaload, 1) := by decide +kernel
theorem dX7_goYears_20 : decode cX7_goYears 20 = .ok (.bipush 65, 2) := by decide +kernel
theorem dX7_goYears_22 : decode cX7_goYears 22 = .ok (.isub, 1) := by decide +kernel
theorem dX7_goYears_23 : decode cX7_goYears 23 = .ok (.istore_n 2, 1) := by decide +kernel
theorem dX7_goYears_24 : decode cX7_goYears 24 = .ok (.aload_n 0, 1) := by decide +kernel
theorem dX7_goYears_25 : decode cX7_goYears 25 = .ok (.getfield 32, 3) := by decide +kernel
theorem dX7_goYears_28 : decode cX7_goYears 28 = .ok (.iload_n 1, 1) := by decide +kernel
theorem dX7_goYears_29 : decode cX7_goYears 29 = .ok (.iconst 1, 1) := by decide +kernel
theorem dX7_goYears_30 : decode cX7_goYears 30 = .ok (.iadd, 1) := by decide +kernel
theorem dX7_goYears_31 : decode cX7_goYears 31 = .ok (.iaload, 1) := by decide +kernel
theorem dX7_goYears_32 : decode cX7_goYears 32 = .ok (.bipush 45, 2) := by decide +kernel
theorem dX7_goYears_34 : decode cX7_goYears 34 = .ok (.if_icmp .ne 27, 3) := by decide +kernel
theorem dX7_goYears_37 : decode cX7_goYears 37 = .ok (.aload_n 0, 1) := by decide +kernel
theorem dX7_goYears_38 : decode cX7_goYears 38 = .ok (.aload_n 0, 1) := by decide +kernel
theorem dX7_goYears_39 : decode cX7_goYears 39 = .ok (.iload_n 2, 1) := by decide +kernel
theorem dX7_goYears_40 : decode cX7_goYears 40 = .ok (.invokevirtual 127, 3) := by decide +kernel
theorem dX7_goYears_43 : decode cX7_goYears 43 = .ok (.putfield 130, 3) := by decide +kernel
theorem dX7_goYears_46 : decode cX7_goYears 46 = .ok (.aload_n 0, 1) := by decide +kernel
theorem dX7_goYears_47 : decode cX7_goYears 47 = .ok (.getfield 130, 3) := by decide +kernel
theorem dX7_goYears_50 : decode cX7_goYears 50 = .ok (.ifCond .ne 31, 3) := by decide +kernel
theorem dX7_goYears_53 : decode cX7_goYears 53 = .ok (.aload_n 0, 1) := by decide +kernel
theorem dX7_goYears_54 : decode cX7_goYears 54 = .ok (.iload_n 2, 1) := by decide +kernel
theorem dX7_goYears_55 : decode cX7_goYears 55 = .ok (.invokevirtual 120, 3) := by decide +kernel
theorem dX7_goYears_58 : decode cX7_goYears 58 = .ok (.goto 23, 3) := by decide +kernel
theorem dX7_goYears_61 : decode cX7_goYears 61 = .ok (.aload_n 0, 1) := by decide +kernel
theorem dX7_goYears_62 : decode cX7_goYears 62 = .ok (.aload_n 0, 1) := by decide +kernel
theorem dX7_goYears_63 : decode cX7_goYears 63 = .ok (.iload_n 2, 1) := by decide +kernel
theorem dX7_goYears_64 : decode cX7_goYears 64 = .ok (.aload_n 0, 1) := by decide +kernel
theorem dX7_goYears_65 : decode cX7_goYears 65 = .ok (.getfield 32, 3) := by decide +kernel
theorem dX7_goYears_68 : decode cX7_goYears 68 = .ok (.iload_n 1, 1) := by decide +kernel
theorem dX7_goYears_69 : decode cX7_goYears 69 = .ok (.iconst 1, 1) := by decide +kernel
theorem dX7_goYears_70 : decode cX7_goYears 70 = .ok (.iadd, 1) := by decide +kernel
theorem dX7_goYears_71 : decode cX7_goYears 71 = .ok (.iaload, 1) := by decide +kernel
theorem dX7_goYears_72 : decode cX7_goYears 72 = .ok (.bipush 48, 2) := by decide +kernel
theorem dX7_goYears_74 : decode cX7_goYears 74 = .ok (.isub, 1) := by decide +kernel
theorem dX7_goYears_75 : decode cX7_goYears 75 = .ok (.invokevirtual 133, 3) := by decide +kernel
theorem dX7_goYears_78 : decode cX7_goYears 78 = .ok (.putfield 130, 3) := by decide +kernel
theorem dX7_goYears_81 : decode cX7_goYears 81 = .ok (.aload_n 0, 1) := by decide +kernel
theorem dX7_goYears_82 : decode cX7_goYears 82 = .ok (.getfield 130, 3) := by decide +kernel
theorem dX7_goYears_85 : decode cX7_goYears 85 = .ok (.ifCond .le 7, 3) := by decide +kernel
theorem dX7_goYears_88 : decode cX7_goYears 88 = .ok (.iload_n 1, 1) := by decide +kernel
theorem dX7_goYears_89 : decode cX7_goYears 89 = .ok (.iconst 2, 1) := by decide +kernel
theorem dX7_goYears_90 : decode cX7_goYears 90 = .ok (.idiv, 1) := by decide +kernel
theorem dX7_goYears_91 : decode cX7_goYears 91 = .ok (.ireturn, 1) := by decide +kernel
theorem dX7_goYears_92 : decode cX7_goYears 92 = .ok (.iinc 1 2, 3) := by decide +kernel
theorem dX7_goYears_95 : decode cX7_goYears 95 = .ok (.goto (-89), 3) := by decide +kernel
theorem dX7_goYears_98 : decode cX7_goYears 98 = .ok (.bipush (-6), 2) := by decide +kernel
theorem dX7_goYears_100 : decode cX7_goYears 100 = .ok (.ireturn, 1) := by decide +kernel
set_option maxRecDepth 20000 in
theorem ggX7_judge_X7_in : GoodIn wsX7_judge wsX7_in := goodIn_r _ [5] (by decide +kernel) (by decide +kernel)
set_option maxRecDepth 20000 in
theorem gX7_judge_X7_in : GoodIn wsX7_judge (va_wsS RX7 73 yX7_in wsX7_in) := goodIn_app (goodIn_of _ (by decide +kernel)) ggX7_judge_X7_in
set_option maxRecDepth 20000 in
theorem ggX7_judge_X7_faultOf : GoodIn wsX7_judge wsX7_faultOf := goodIn_r _ [9, 10, 11, 12, 2, 3, 4, 5, 78, 79, 80, 81, 82, 83, 84, 85, 86, 87, 88, 89, 90, 91, 92, 93, 94, 95, 96, 97, 98, 99, 100, 101, 102, 103] (by decide +kernel) (by decide +kernel)
set_option maxRecDepth 20000 in
theorem gX7_judge_X7_faultOf : GoodIn wsX7_judge (wsV RX7 84 RX7 yX7_faultOf wsX7_faultOf) := goodIn_app (goodIn_of _ (by decide +kernel)) ggX7_judge_X7_faultOf
set_option maxRecDepth 20000 in
theorem ggX7_judge_X7_goYears : GoodIn wsX7_judge wsX7_goYears := goodIn_r _ [16, 10, 11, 1, 17, 18, 19, 4, 20, 21, 22, 23, 24, 25, 26, 27, 28, 29, 30, 31, 32, 33, 34, 35, 36, 37, 38, 39, 40, 41, 42, 43, 44, 45, 46, 47, 48, 49, 50, 12, 51, 52, 53, 54, 55, 56, 57, 58, 59, 60, 61, 62, 63, 64, 65, 66, 67, 68, 69, 70, 71, 72, 73, 74, 75, 76, 77, 78, 79, 80, 81, 82, 83, 84, 85, 86, 87, 88, 89, 90, 91, 92, 93, 94, 95, 96, 97, 98, 99, 100, 101, 102, 103] (by decide +kernel) (by decide +kernel)
set_option maxRecDepth 20000 in
theorem gX7_judge_X7_goYears : GoodIn wsX7_judge (wsV RX7 136 RX7 yX7_goYears wsX7_goYears) := goodIn_app (goodIn_of _ (by decide +kernel)) ggX7_judge_X7_goYears
theorem dX7_judge_0 : decode cX7_judge 0 = .ok (.iload_n 1, 1) := by decide +kernel
theorem dX7_judge_1 : decode cX7_judge 1 = .ok (.iconst 0, 1) := by decide +kernel
theorem dX7_judge_2 : decode cX7_judge 2 = .ok (.iconst 1, 1) := by decide +kernel
theorem dX7_judge_3 : decode cX7_judge 3 = .ok (.invokestatic 73, 3) := by decide +kernel
theorem dX7_judge_6 : decode cX7_judge 6 = .ok (.ifCond .ne 6, 3) := by decide +kernel
theorem dX7_judge_9 : decode cX7_judge 9 = .ok (.bipush (-2), 2) := by decide +kernel
theorem dX7_judge_11 : decode cX7_judge 11 = .ok (.ireturn, 1) := by decide +kernel
theorem dX7_judge_12 : decode cX7_judge 12 = .ok (.aload_n 0, 1) := by decide +kernel
theorem dX7_judge_13 : decode cX7_judge 13 = .ok (.invokevirtual 84, 3) := by decide +kernel
theorem dX7_judge_16 : decode cX7_judge 16 = .ok (.ifCond .lt 6, 3) := by decide +kernel
theorem dX7_judge_19 : decode cX7_judge 19 = .ok (.bipush (-5), 2) := by decide +kernel
theorem dX7_judge_21 : decode cX7_judge 21 = .ok (.ireturn, 1) := by decide +kernel
theorem dX7_judge_22 : decode cX7_judge 22 = .ok (.aload_n 0, 1) := by decide +kernel
theorem dX7_judge_23 : decode cX7_judge 23 = .ok (.invokevirtual 136, 3) := by decide +kernel
theorem dX7_judge_26 : decode cX7_judge 26 = .ok (.istore_n 2, 1) := by decide +kernel
theorem dX7_judge_27 : decode cX7_judge 27 = .ok (.iload_n 2, 1) := by decide +kernel
theorem dX7_judge_28 : decode cX7_judge 28 = .ok (.ifCond .lt 7, 3) := by decide +kernel
theorem dX7_judge_31 : decode cX7_judge 31 = .ok (.iload_n 1, 1) := by decide +kernel
theorem dX7_judge_32 : decode cX7_judge 32 = .ok (.ifCond .ne 7, 3) := by decide +kernel
theorem dX7_judge_35 : decode cX7_judge 35 = .ok (.iload_n 2, 1) := by decide +kernel
theorem dX7_judge_36 : decode cX7_judge 36 = .ok (.goto 7, 3) := by decide +kernel
theorem dX7_judge_39 : decode cX7_judge 39 = .ok (.aload_n 0, 1) := by decide +kernel
theorem dX7_judge_40 : decode cX7_judge 40 = .ok (.getfield 130, 3) := by decide +kernel
theorem dX7_judge_43 : decode cX7_judge 43 = .ok (.ireturn, 1) := by decide +kernel
set_option maxRecDepth 20000 in
theorem ggX7_barOfYears_X7_faultOf : GoodIn wsX7_barOfYears wsX7_faultOf := goodIn_r _ [5, 6, 7, 8, 9, 10, 4, 11, 78, 79, 80, 81, 82, 83, 84, 85, 86, 87, 88, 89, 90, 91, 92, 93, 94, 95, 96, 97, 98, 99, 100, 101, 102, 103] (by decide +kernel) (by decide +kernel)
set_option maxRecDepth 20000 in
theorem gX7_barOfYears_X7_faultOf : GoodIn wsX7_barOfYears (wsV RX7 84 RX7 yX7_faultOf wsX7_faultOf) := goodIn_app (goodIn_of _ (by decide +kernel)) ggX7_barOfYears_X7_faultOf
set_option maxRecDepth 20000 in
theorem ggX7_barOfYears_X7_goYears : GoodIn wsX7_barOfYears wsX7_goYears := goodIn_r _ [15, 6, 7, 16, 17, 18, 19, 4, 20, 21, 22, 23, 24, 25, 26, 27, 28, 29, 30, 31, 32, 33, 34, 35, 36, 37, 38, 39, 40, 41, 42, 43, 44, 45, 46, 47, 48, 49, 50, 8, 51, 52, 53, 54, 55, 56, 57, 58, 59, 60, 61, 62, 63, 64, 65, 66, 67, 68, 69, 70, 71, 72, 73, 74, 75, 76, 77, 78, 79, 80, 81, 82, 83, 84, 85, 86, 87, 88, 89, 90, 91, 92, 93, 94, 95, 96, 97, 98, 99, 100, 101, 102, 103] (by decide +kernel) (by decide +kernel)
set_option maxRecDepth 20000 in
theorem gX7_barOfYears_X7_goYears : GoodIn wsX7_barOfYears (wsV RX7 136 RX7 yX7_goYears wsX7_goYears) := goodIn_app (goodIn_of _ (by decide +kernel)) ggX7_barOfYears_X7_goYears
theorem dX7_barOfYears_0 : decode cX7_barOfYears 0 = .ok (.aload_n 0, 1) := by decide +kernel
theorem dX7_barOfYears_1 : decode cX7_barOfYears 1 = .ok (.invokevirtual 84, 3) := by decide +kernel
theorem dX7_barOfYears_4 : decode cX7_barOfYears 4 = .ok (.ifCond .ge 10, 3) := by decide +kernel
theorem dX7_barOfYears_7 : decode cX7_barOfYears 7 = .ok (.aload_n 0, 1) := by decide +kernel
theorem dX7_barOfYears_8 : decode cX7_barOfYears 8 = .ok (.invokevirtual 136, 3) := by decide +kernel
theorem dX7_barOfYears_11 : decode cX7_barOfYears 11 = .ok (.ifCond .lt 8, 3) := by decide +kernel
theorem dX7_barOfYears_14 : decode cX7_barOfYears 14 = .ok (.bipush (-5), 2) := by decide +kernel
theorem dX7_barOfYears_16 : decode cX7_barOfYears 16 = .ok (.goto 4, 3) := by decide +kernel
theorem dX7_barOfYears_19 : decode cX7_barOfYears 19 = .ok (.iconst 0, 1) := by decide +kernel
theorem dX7_barOfYears_20 : decode cX7_barOfYears 20 = .ok (.ireturn, 1) := by decide +kernel
set_option maxRecDepth 20000 in
theorem ggX7_done_X7_barOfYears : GoodIn wsX7_done wsX7_barOfYears := goodIn_r _ [10, 11, 12, 13, 9, 14, 5, 15, 16, 17, 18, 19, 20, 21, 22, 23, 24, 25, 26, 27, 28, 2, 1, 4, 3, 29, 30, 31, 32, 33, 34, 35, 36, 37, 38, 39, 40, 41, 42, 43, 44, 45, 46, 47, 48, 49, 50, 51, 52, 53, 54, 55, 56, 57, 58, 59, 60, 61, 62, 63, 64, 65, 66, 67, 68, 69, 70, 71, 72, 73, 74, 75, 76, 77, 78, 79, 80, 81, 82, 83, 84, 85, 86, 87, 88, 89, 90, 91, 92, 93, 94, 95, 96, 97, 98, 99, 100, 101, 102, 103, 104, 105, 106, 107] (by decide +kernel) (by decide +kernel)
set_option maxRecDepth 20000 in
theorem gX7_done_X7_barOfYears : GoodIn wsX7_done (wsV RX7 139 RX7 yX7_barOfYears wsX7_barOfYears) := goodIn_app (goodIn_of _ (by decide +kernel)) ggX7_done_X7_barOfYears
theorem dX7_done_0 : decode cX7_done 0 = .ok (.aload_n 0, 1) := by decide +kernel
theorem dX7_done_1 : decode cX7_done 1 = .ok (.invokevirtual 139, 3) := by decide +kernel
theorem dX7_done_4 : decode cX7_done 4 = .ok (.ifCond .ge 6, 3) := by decide +kernel
theorem dX7_done_7 : decode cX7_done 7 = .ok (.bipush (-5), 2) := by decide +kernel
theorem dX7_done_9 : decode cX7_done 9 = .ok (.ireturn, 1) := by decide +kernel
theorem dX7_done_10 : decode cX7_done 10 = .ok (.iconst 0, 1) := by decide +kernel
theorem dX7_done_11 : decode cX7_done 11 = .ok (.istore_n 1, 1) := by decide +kernel
theorem dX7_done_12 : decode cX7_done 12 = .ok (.iload_n 1, 1) := by decide +kernel
theorem dX7_done_13 : decode cX7_done 13 = .ok (.bipush 10, 2) := by decide +kernel
theorem dX7_done_15 : decode cX7_done 15 = .ok (.if_icmp .ge 33, 3) := by decide +kernel
theorem dX7_done_18 : decode cX7_done 18 = .ok (.aload_n 0, 1) := by decide +kernel
theorem dX7_done_19 : decode cX7_done 19 = .ok (.getfield 23, 3) := by decide +kernel
theorem dX7_done_22 : decode cX7_done 22 = .ok (.iload_n 1, 1) := by decide +kernel
theorem dX7_done_23 : decode cX7_done 23 = .ok (.aload_n 0, 1) := by decide +kernel
theorem dX7_done_24 : decode cX7_done 24 = .ok (.getfield 35, 3) := by decide +kernel
theorem dX7_done_27 : decode cX7_done 27 = .ok (.iload_n 1, 1) := by decide +kernel
theorem dX7_done_28 : decode cX7_done 28 = .ok (.iaload, 1) := by decide +kernel
theorem dX7_done_29 : decode cX7_done 29 = .ok (.iastore, 1) := by decide +kernel
theorem dX7_done_30 : decode cX7_done 30 = .ok (.aload_n 0, 1) := by decide +kernel
theorem dX7_done_31 : decode cX7_done 31 = .ok (.getfield 26, 3) := by decide +kernel
theorem dX7_done_34 : decode cX7_done 34 = .ok (.iload_n 1, 1) := by decide +kernel
theorem dX7_done_35 : decode cX7_done 35 = .ok (.aload_n 0, 1) := by decide +kernel
theorem dX7_done_36 : decode cX7_done 36 = .ok (.getfield 38, 3) := by decide +kernel
theorem dX7_done_39 : decode cX7_done 39 = .ok (.iload_n 1, 1) := by decide +kernel
theorem dX7_done_40 : decode cX7_done 40 = .ok (.iaload, 1) := by decide +kernel
theorem dX7_done_41 : decode cX7_done 41 = .ok (.iastore, 1) := by decide +kernel
theorem dX7_done_42 : decode cX7_done 42 = .ok (.iinc 1 1, 3) := by decide +kernel
theorem dX7_done_45 : decode cX7_done 45 = .ok (.goto (-33), 3) := by decide +kernel
theorem dX7_done_48 : decode cX7_done 48 = .ok (.aload_n 0, 1) := by decide +kernel
theorem dX7_done_49 : decode cX7_done 49 = .ok (.getfield 81, 3) := by decide +kernel
theorem dX7_done_52 : decode cX7_done 52 = .ok (.iconst 2, 1) := by decide +kernel
theorem dX7_done_53 : decode cX7_done 53 = .ok (.idiv, 1) := by decide +kernel
theorem dX7_done_54 : decode cX7_done 54 = .ok (.istore_n 1, 1) := by decide +kernel
theorem dX7_done_55 : decode cX7_done 55 = .ok (.aload_n 0, 1) := by decide +kernel
theorem dX7_done_56 : decode cX7_done 56 = .ok (.iconst 0, 1) := by decide +kernel
theorem dX7_done_57 : decode cX7_done 57 = .ok (.putfield 81, 3) := by decide +kernel
theorem dX7_done_60 : decode cX7_done 60 = .ok (.iload_n 1, 1) := by decide +kernel
theorem dX7_done_61 : decode cX7_done 61 = .ok (.ireturn, 1) := by decide +kernel
set_option maxRecDepth 20000 in
theorem ggX7_state_X7_in : GoodIn wsX7_state wsX7_in := goodIn_r _ [6] (by decide +kernel) (by decide +kernel)
set_option maxRecDepth 20000 in
theorem gX7_state_X7_in : GoodIn wsX7_state (va_wsS RX7 73 yX7_in wsX7_in) := goodIn_app (goodIn_of _ (by decide +kernel)) ggX7_state_X7_in
theorem dX7_state_0 : decode cX7_state 0 = .ok (.iload_n 1, 1) := by decide +kernel
theorem dX7_state_1 : decode cX7_state 1 = .ok (.iconst 0, 1) := by decide +kernel
theorem dX7_state_2 : decode cX7_state 2 = .ok (.bipush 9, 2) := by decide +kernel
theorem dX7_state_4 : decode cX7_state 4 = .ok (.invokestatic 73, 3) := by decide +kernel
theorem dX7_state_7 : decode cX7_state 7 = .ok (.ifCond .ne 5, 3) := by decide +kernel
theorem dX7_state_10 : decode cX7_state 10 = .ok (.iconst (-1), 1) := by decide +kernel
theorem dX7_state_11 : decode cX7_state 11 = .ok (.ireturn, 1) := by decide +kernel
theorem dX7_state_12 : decode cX7_state 12 = .ok (.iload_n 2, 1) := by decide +kernel
theorem dX7_state_13 : decode cX7_state 13 = .ok (.ifCond .ne 12, 3) := by decide +kernel
theorem dX7_state_16 : decode cX7_state 16 = .ok (.aload_n 0, 1) := by decide +kernel
theorem dX7_state_17 : decode cX7_state 17 = .ok (.getfield 23, 3) := by decide +kernel
theorem dX7_state_20 : decode cX7_state 20 = .ok (.iload_n 1, 1) := by decide +kernel
theorem dX7_state_21 : decode cX7_state 21 = .ok (.iaload, 1) := by decide +kernel
theorem dX7_state_22 : decode cX7_state 22 = .ok (.goto 19, 3) := by decide +kernel
theorem dX7_state_25 : decode cX7_state 25 = .ok (.iload_n 2, 1) := by decide +kernel
theorem dX7_state_26 : decode cX7_state 26 = .ok (.iconst 1, 1) := by decide +kernel
theorem dX7_state_27 : decode cX7_state 27 = .ok (.if_icmp .ne 12, 3) := by decide +kernel
theorem dX7_state_30 : decode cX7_state 30 = .ok (.aload_n 0, 1) := by decide +kernel
theorem dX7_state_31 : decode cX7_state 31 = .ok (.getfield 26, 3) := by decide +kernel
theorem dX7_state_34 : decode cX7_state 34 = .ok (.iload_n 1, 1) := by decide +kernel
theorem dX7_state_35 : decode cX7_state 35 = .ok (.iaload, 1) := by decide +kernel
theorem dX7_state_36 : decode cX7_state 36 = .ok (.goto 5, 3) := by decide +kernel
theorem dX7_state_39 : decode cX7_state 39 = .ok (.bipush (-2), 2) := by decide +kernel
theorem dX7_state_41 : decode cX7_state 41 = .ok (.ireturn, 1) := by decide +kernel
set_option maxRecDepth 20000 in
theorem ggX7_behind_X7_in : GoodIn wsX7_behind wsX7_in := goodIn_r _ [6] (by decide +kernel) (by decide +kernel)
set_option maxRecDepth 20000 in
theorem gX7_behind_X7_in : GoodIn wsX7_behind (va_wsS RX7 73 yX7_in wsX7_in) := goodIn_app (goodIn_of _ (by decide +kernel)) ggX7_behind_X7_in
set_option maxRecDepth 20000 in
theorem ggX7_behind_X7_barOfYears : GoodIn wsX7_behind wsX7_barOfYears := goodIn_r _ [10, 11, 12, 13, 5, 14, 15, 16, 17, 3, 4, 6, 18, 19, 20, 21, 22, 23, 24, 25, 26, 1, 27, 2, 28, 29, 30, 31, 32, 33, 34, 35, 36, 37, 38, 39, 40, 41, 42, 43, 44, 45, 46, 47, 48, 49, 50, 51, 52, 53, 54, 55, 56, 57, 58, 59, 60, 61, 62, 63, 64, 65, 66, 67, 68, 69, 70, 71, 72, 73, 74, 75, 76, 77, 78, 79, 80, 81, 82, 83, 84, 85, 86, 87, 88, 89, 90, 91, 92, 93, 94, 95, 96, 97, 98, 99, 100, 101, 102, 103, 104, 105, 106, 107] (by decide +kernel) (by decide +kernel)
set_option maxRecDepth 20000 in
theorem gX7_behind_X7_barOfYears : GoodIn wsX7_behind (wsV RX7 139 RX7 yX7_barOfYears wsX7_barOfYears) := goodIn_app (goodIn_of _ (by decide +kernel)) ggX7_behind_X7_barOfYears
theorem dX7_behind_0 : decode cX7_behind 0 = .ok (.iload_n 1, 1) := by decide +kernel
theorem dX7_behind_1 : decode cX7_behind 1 = .ok (.iconst 0, 1) := by decide +kernel
theorem dX7_behind_2 : decode cX7_behind 2 = .ok (.bipush 9, 2) := by decide +kernel
theorem dX7_behind_4 : decode cX7_behind 4 = .ok (.invokestatic 73, 3) := by decide +kernel
theorem dX7_behind_7 : decode cX7_behind 7 = .ok (.ifCond .ne 5, 3) := by decide +kernel
theorem dX7_behind_10 : decode cX7_behind 10 = .ok (.iconst (-1), 1) := by decide +kernel
theorem dX7_behind_11 : decode cX7_behind 11 = .ok (.ireturn, 1) := by decide +kernel
theorem dX7_behind_12 : decode cX7_behind 12 = .ok (.iload_n 2, 1) := by decide +kernel
theorem dX7_behind_13 : decode cX7_behind 13 = .ok (.iconst 0, 1) := by decide +kernel
theorem dX7_behind_14 : decode cX7_behind 14 = .ok (.iconst 1, 1) := by decide +kernel
theorem dX7_behind_15 : decode cX7_behind 15 = .ok (.invokestatic 73, 3) := by decide +kernel
theorem dX7_behind_18 : decode cX7_behind 18 = .ok (.ifCond .ne 6, 3) := by decide +kernel
theorem dX7_behind_21 : decode cX7_behind 21 = .ok (.bipush (-2), 2) := by decide +kernel
theorem dX7_behind_23 : decode cX7_behind 23 = .ok (.ireturn, 1) := by decide +kernel
theorem dX7_behind_24 : decode cX7_behind 24 = .ok (.aload_n 0, 1) := by decide +kernel
theorem dX7_behind_25 : decode cX7_behind 25 = .ok (.invokevirtual 139, 3) := by decide +kernel
theorem dX7_behind_28 : decode cX7_behind 28 = .ok (.ifCond .ge 6, 3) := by decide +kernel
theorem dX7_behind_31 : decode cX7_behind 31 = .ok (.bipush (-5), 2) := by decide +kernel
theorem dX7_behind_33 : decode cX7_behind 33 = .ok (.ireturn, 1) := by decide +kernel
theorem dX7_behind_34 : decode cX7_behind 34 = .ok (.iload_n 2, 1) := by decide +kernel
theorem dX7_behind_35 : decode cX7_behind 35 = .ok (.ifCond .ne 12, 3) := by decide +kernel
theorem dX7_behind_38 : decode cX7_behind 38 = .ok (.aload_n 0, 1) := by decide +kernel
theorem dX7_behind_39 : decode cX7_behind 39 = .ok (.getfield 35, 3) := by decide +kernel
theorem dX7_behind_42 : decode cX7_behind 42 = .ok (.iload_n 1, 1) := by decide +kernel
theorem dX7_behind_43 : decode cX7_behind 43 = .ok (.iaload, 1) := by decide +kernel
theorem dX7_behind_44 : decode cX7_behind 44 = .ok (.goto 9, 3) := by decide +kernel
theorem dX7_behind_47 : decode cX7_behind 47 = .ok (.aload_n 0, 1) := by decide +kernel
theorem dX7_behind_48 : decode cX7_behind 48 = .ok (.getfield 38, 3) := by decide +kernel
theorem dX7_behind_51 : decode cX7_behind 51 = .ok (.iload_n 1, 1) := by decide +kernel
theorem dX7_behind_52 : decode cX7_behind 52 = .ok (.iaload, 1) := by decide +kernel
theorem dX7_behind_53 : decode cX7_behind 53 = .ok (.ireturn, 1) := by decide +kernel
set_option maxRecDepth 20000 in
theorem ggX7_height_X7_in : GoodIn wsX7_height wsX7_in := goodIn_r _ [5] (by decide +kernel) (by decide +kernel)
set_option maxRecDepth 20000 in
theorem gX7_height_X7_in : GoodIn wsX7_height (va_wsS RX7 73 yX7_in wsX7_in) := goodIn_app (goodIn_of _ (by decide +kernel)) ggX7_height_X7_in
set_option maxRecDepth 20000 in
theorem ggX7_height_X7_barOfYears : GoodIn wsX7_height wsX7_barOfYears := goodIn_r _ [9, 10, 11, 12, 4, 13, 14, 15, 1, 2, 3, 5, 16, 17, 18, 19, 20, 21, 22, 23, 24, 25, 26, 27, 28, 29, 30, 31, 32, 33, 34, 35, 36, 37, 38, 39, 40, 41, 42, 43, 44, 45, 46, 47, 48, 49, 50, 51, 52, 53, 54, 55, 56, 57, 58, 59, 60, 61, 62, 63, 64, 65, 66, 67, 68, 69, 70, 71, 72, 73, 74, 75, 76, 77, 78, 79, 80, 81, 82, 83, 84, 85, 86, 87, 88, 89, 90, 91, 92, 93, 94, 95, 96, 97, 98, 99, 100, 101, 102, 103, 104, 105, 106, 107] (by decide +kernel) (by decide +kernel)
set_option maxRecDepth 20000 in
theorem gX7_height_X7_barOfYears : GoodIn wsX7_height (wsV RX7 139 RX7 yX7_barOfYears wsX7_barOfYears) := goodIn_app (goodIn_of _ (by decide +kernel)) ggX7_height_X7_barOfYears
set_option maxRecDepth 20000 in
theorem ggX7_height_X7_heightOf : GoodIn wsX7_height wsX7_heightOf := goodIn_r _ [61, 25, 42, 43, 44, 4, 45, 27, 33, 34, 35, 36, 37, 82, 83, 84, 85, 86, 87, 88, 89, 90, 91, 92, 93, 94, 95, 96, 97, 98, 99, 100, 101, 102, 103, 104, 105, 106, 107] (by decide +kernel) (by decide +kernel)
set_option maxRecDepth 20000 in
theorem gX7_height_X7_heightOf : GoodIn wsX7_height (wsV RX7 96 RX7 yX7_heightOf wsX7_heightOf) := goodIn_app (goodIn_of _ (by decide +kernel)) ggX7_height_X7_heightOf
theorem dX7_height_0 : decode cX7_height 0 = .ok (.iload_n 1, 1) := by decide +kernel
theorem dX7_height_1 : decode cX7_height 1 = .ok (.iconst 0, 1) := by decide +kernel
theorem dX7_height_2 : decode cX7_height 2 = .ok (.aload_n 0, 1) := by decide +kernel
theorem dX7_height_3 : decode cX7_height 3 = .ok (.getfield 7, 3) := by decide +kernel
theorem dX7_height_6 : decode cX7_height 6 = .ok (.iconst 1, 1) := by decide +kernel
theorem dX7_height_7 : decode cX7_height 7 = .ok (.isub, 1) := by decide +kernel
theorem dX7_height_8 : decode cX7_height 8 = .ok (.invokestatic 73, 3) := by decide +kernel
theorem dX7_height_11 : decode cX7_height 11 = .ok (.ifCond .ne 5, 3) := by decide +kernel
theorem dX7_height_14 : decode cX7_height 14 = .ok (.iconst (-1), 1) := by decide +kernel
theorem dX7_height_15 : decode cX7_height 15 = .ok (.ireturn, 1) := by decide +kernel
theorem dX7_height_16 : decode cX7_height 16 = .ok (.aload_n 0, 1) := by decide +kernel
theorem dX7_height_17 : decode cX7_height 17 = .ok (.invokevirtual 139, 3) := by decide +kernel
theorem dX7_height_20 : decode cX7_height 20 = .ok (.ifCond .ge 8, 3) := by decide +kernel
theorem dX7_height_23 : decode cX7_height 23 = .ok (.bipush (-5), 2) := by decide +kernel
theorem dX7_height_25 : decode cX7_height 25 = .ok (.goto 8, 3) := by decide +kernel
theorem dX7_height_28 : decode cX7_height 28 = .ok (.aload_n 0, 1) := by decide +kernel
theorem dX7_height_29 : decode cX7_height 29 = .ok (.iload_n 1, 1) := by decide +kernel
theorem dX7_height_30 : decode cX7_height 30 = .ok (.invokevirtual 96, 3) := by decide +kernel
theorem dX7_height_33 : decode cX7_height 33 = .ok (.ireturn, 1) := by decide +kernel
theorem dX7_part_0 : decode cX7_part 0 = .ok (.lload_n 0, 1) := by decide +kernel
theorem dX7_part_1 : decode cX7_part 1 = .ok (.lstore 5, 2) := by decide +kernel
theorem dX7_part_3 : decode cX7_part 3 = .ok (.lload_n 2, 1) := by decide +kernel
theorem dX7_part_4 : decode cX7_part 4 = .ok (.lstore 7, 2) := by decide +kernel
theorem dX7_part_6 : decode cX7_part 6 = .ok (.lload 7, 2) := by decide +kernel
theorem dX7_part_8 : decode cX7_part 8 = .ok (.lconst 0, 1) := by decide +kernel
theorem dX7_part_9 : decode cX7_part 9 = .ok (.lcmp, 1) := by decide +kernel
theorem dX7_part_10 : decode cX7_part 10 = .ok (.ifCond .eq 21, 3) := by decide +kernel
theorem dX7_part_13 : decode cX7_part 13 = .ok (.lload 5, 2) := by decide +kernel
theorem dX7_part_15 : decode cX7_part 15 = .ok (.lload 7, 2) := by decide +kernel
theorem dX7_part_17 : decode cX7_part 17 = .ok (.lrem, 1) := by decide +kernel
theorem dX7_part_18 : decode cX7_part 18 = .ok (.lstore 9, 2) := by decide +kernel
theorem dX7_part_20 : decode cX7_part 20 = .ok (.lload 7, 2) := by decide +kernel
theorem dX7_part_22 : decode cX7_part 22 = .ok (.lstore 5, 2) := by decide +kernel
theorem dX7_part_24 : decode cX7_part 24 = .ok (.lload 9, 2) := by decide +kernel
theorem dX7_part_26 : decode cX7_part 26 = .ok (.lstore 7, 2) := by decide +kernel
theorem dX7_part_28 : decode cX7_part 28 = .ok (.goto (-22), 3) := by decide +kernel
theorem dX7_part_31 : decode cX7_part 31 = .ok (.iload 4, 2) := by decide +kernel
theorem dX7_part_33 : decode cX7_part 33 = .ok (.ifCond .ne 10, 3) := by decide +kernel
theorem dX7_part_36 : decode cX7_part 36 = .ok (.lload_n 0, 1) := by decide +kernel
theorem dX7_part_37 : decode cX7_part 37 = .ok (.lload 5, 2) := by decide +kernel
theorem dX7_part_39 : decode cX7_part 39 = .ok (.ldiv, 1) := by decide +kernel
theorem dX7_part_40 : decode cX7_part 40 = .ok (.goto 7, 3) := by decide +kernel
theorem dX7_part_43 : decode cX7_part 43 = .ok (.lload_n 2, 1) := by decide +kernel
theorem dX7_part_44 : decode cX7_part 44 = .ok (.lload 5, 2) := by decide +kernel
theorem dX7_part_46 : decode cX7_part 46 = .ok (.ldiv, 1) := by decide +kernel
theorem dX7_part_47 : decode cX7_part 47 = .ok (.lreturn, 1) := by decide +kernel
set_option maxRecDepth 20000 in
theorem ggX7_load_X7_in : GoodIn wsX7_load wsX7_in := goodIn_r _ [10] (by decide +kernel) (by decide +kernel)
set_option maxRecDepth 20000 in
theorem gX7_load_X7_in : GoodIn wsX7_load (va_wsS RX7 73 yX7_in wsX7_in) := goodIn_app (goodIn_of _ (by decide +kernel)) ggX7_load_X7_in
set_option maxRecDepth 20000 in
theorem ggX7_load_X7_asNow : GoodIn wsX7_load wsX7_asNow := goodIn_r _ [14, 15, 3, 16, 17, 43, 44, 45, 46, 47, 48, 49, 50, 51, 52, 53, 54, 55, 56, 57, 58, 59, 60, 61, 62, 63, 64, 65, 66, 67, 68] (by decide +kernel) (by decide +kernel)
set_option maxRecDepth 20000 in
theorem gX7_load_X7_asNow : GoodIn wsX7_load (wsV RX7 124 RX7 yX7_asNow wsX7_asNow) := goodIn_app (goodIn_of _ (by decide +kernel)) ggX7_load_X7_asNow
set_option maxRecDepth 20000 in
theorem ggX7_load_X7_layLoads : GoodIn wsX7_load wsX7_layLoads := goodIn_r _ [21, 5, 15, 6, 22, 16, 23, 24, 25, 26, 9, 27, 28, 29, 30, 31, 32, 33, 34, 35, 36, 37, 38, 39, 43, 44, 45, 46, 47, 48, 49, 50, 51, 52, 53, 54, 55, 56, 57, 58, 59, 60, 61, 62, 63, 64, 65, 66, 67, 68] (by decide +kernel) (by decide +kernel)
set_option maxRecDepth 20000 in
theorem gX7_load_X7_layLoads : GoodIn wsX7_load (wsV RX7 114 RX7 yX7_layLoads wsX7_layLoads) := goodIn_app (goodIn_of _ (by decide +kernel)) ggX7_load_X7_layLoads
set_option maxRecDepth 20000 in
theorem ggX7_load_X7_part : GoodIn wsX7_load wsX7_part := goodIn_r _ [42] (by decide +kernel) (by decide +kernel)
set_option maxRecDepth 20000 in
theorem gX7_load_X7_part : GoodIn wsX7_load (va_wsS RX7 148 yX7_part wsX7_part) := goodIn_app (goodIn_of _ (by decide +kernel)) ggX7_load_X7_part
theorem dX7_load_0 : decode cX7_load 0 = .ok (.iload_n 1, 1) := by decide +kernel
theorem dX7_load_1 : decode cX7_load 1 = .ok (.iconst 0, 1) := by decide +kernel
theorem dX7_load_2 : decode cX7_load 2 = .ok (.bipush 9, 2) := by decide +kernel
theorem dX7_load_4 : decode cX7_load 4 = .ok (.invokestatic 73, 3) := by decide +kernel
theorem dX7_load_7 : decode cX7_load 7 = .ok (.ifCond .ne 7, 3) := by decide +kernel
theorem dX7_load_10 : decode cX7_load 10 = .ok (.ldc2_w 142, 3) := by decide +kernel
theorem dX7_load_13 : decode cX7_load 13 = .ok (.lreturn, 1) := by decide +kernel
theorem dX7_load_14 : decode cX7_load 14 = .ok (.iload_n 2, 1) := by decide +kernel
theorem dX7_load_15 : decode cX7_load 15 = .ok (.iconst 0, 1) := by decide +kernel
theorem dX7_load_16 : decode cX7_load 16 = .ok (.iconst 1, 1) := by decide +kernel
theorem dX7_load_17 : decode cX7_load 17 = .ok (.invokestatic 73, 3) := by decide +kernel
theorem dX7_load_20 : decode cX7_load 20 = .ok (.ifCond .ne 7, 3) := by decide +kernel
theorem dX7_load_23 : decode cX7_load 23 = .ok (.ldc2_w 144, 3) := by decide +kernel
theorem dX7_load_26 : decode cX7_load 26 = .ok (.lreturn, 1) := by decide +kernel
theorem dX7_load_27 : decode cX7_load 27 = .ok (.aload_n 0, 1) := by decide +kernel
theorem dX7_load_28 : decode cX7_load 28 = .ok (.getfield 23, 3) := by decide +kernel
theorem dX7_load_31 : decode cX7_load 31 = .ok (.iload_n 1, 1) := by decide +kernel
theorem dX7_load_32 : decode cX7_load 32 = .ok (.iaload, 1) := by decide +kernel
theorem dX7_load_33 : decode cX7_load 33 = .ok (.ifCond .ge 7, 3) := by decide +kernel
theorem dX7_load_36 : decode cX7_load 36 = .ok (.ldc2_w 146, 3) := by decide +kernel
theorem dX7_load_39 : decode cX7_load 39 = .ok (.lreturn, 1) := by decide +kernel
theorem dX7_load_40 : decode cX7_load 40 = .ok (.aload_n 0, 1) := by decide +kernel
theorem dX7_load_41 : decode cX7_load 41 = .ok (.invokevirtual 124, 3) := by decide +kernel
theorem dX7_load_44 : decode cX7_load 44 = .ok (.aload_n 0, 1) := by decide +kernel
theorem dX7_load_45 : decode cX7_load 45 = .ok (.invokevirtual 114, 3) := by decide +kernel
theorem dX7_load_48 : decode cX7_load 48 = .ok (.aload_n 0, 1) := by decide +kernel
theorem dX7_load_49 : decode cX7_load 49 = .ok (.getfield 41, 3) := by decide +kernel
theorem dX7_load_52 : decode cX7_load 52 = .ok (.iload_n 1, 1) := by decide +kernel
theorem dX7_load_53 : decode cX7_load 53 = .ok (.laload, 1) := by decide +kernel
theorem dX7_load_54 : decode cX7_load 54 = .ok (.ldc2_w 106, 3) := by decide +kernel
theorem dX7_load_57 : decode cX7_load 57 = .ok (.iload_n 2, 1) := by decide +kernel
theorem dX7_load_58 : decode cX7_load 58 = .ok (.invokestatic 148, 3) := by decide +kernel
theorem dX7_load_61 : decode cX7_load 61 = .ok (.lreturn, 1) := by decide +kernel
set_option maxRecDepth 20000 in
theorem ggX7_layStrain_X7_layLoads : GoodIn wsX7_layStrain wsX7_layLoads := goodIn_r _ [9, 4, 10, 11, 12, 13, 14, 15, 16, 17, 8, 18, 19, 20, 21, 22, 23, 24, 25, 26, 27, 28, 29, 30, 31, 32, 33, 34, 35, 36, 37, 38, 39, 40, 41, 42, 43, 44, 45, 46, 47, 48, 49, 50, 51, 52, 53, 54, 55, 56] (by decide +kernel) (by decide +kernel)
set_option maxRecDepth 20000 in
theorem gX7_layStrain_X7_layLoads : GoodIn wsX7_layStrain (wsV RX7 114 RX7 yX7_layLoads wsX7_layLoads) := goodIn_app (goodIn_of _ (by decide +kernel)) ggX7_layStrain_X7_layLoads
set_option maxRecDepth 20000 in
theorem ggX7_layStrain_X7_isIn : GoodIn wsX7_layStrain wsX7_isIn := goodIn_r _ [30, 10, 31, 32, 33, 34, 35, 36, 37, 38, 39, 40, 41, 42, 43, 44, 45, 46, 47, 48, 49, 50, 51, 52, 53, 54, 55, 56] (by decide +kernel) (by decide +kernel)
set_option maxRecDepth 20000 in
theorem gX7_layStrain_X7_isIn : GoodIn wsX7_layStrain (wsV RX7 88 RX7 yX7_isIn wsX7_isIn) := goodIn_app (goodIn_of _ (by decide +kernel)) ggX7_layStrain_X7_isIn
theorem dX7_layStrain_0 : decode cX7_layStrain 0 = .ok (.aload_n 0, 1) := by decide +kernel
theorem dX7_layStrain_1 : decode cX7_layStrain 1 = .ok (.invokevirtual 114, 3) := by decide +kernel
theorem dX7_layStrain_4 : decode cX7_layStrain 4 = .ok (.aload_n 0, 1) := by decide +kernel
theorem dX7_layStrain_5 : decode cX7_layStrain 5 = .ok (.lconst 0, 1) := by decide +kernel
theorem dX7_layStrain_6 : decode cX7_layStrain 6 = .ok (.putfield 152, 3) := by decide +kernel
theorem dX7_layStrain_9 : decode cX7_layStrain 9 = .ok (.aload_n 0, 1) := by decide +kernel
theorem dX7_layStrain_10 : decode cX7_layStrain 10 = .ok (.lconst 1, 1) := by decide +kernel
theorem dX7_layStrain_11 : decode cX7_layStrain 11 = .ok (.putfield 156, 3) := by decide +kernel
theorem dX7_layStrain_14 : decode cX7_layStrain 14 = .ok (.iconst 0, 1) := by decide +kernel
theorem dX7_layStrain_15 : decode cX7_layStrain 15 = .ok (.istore_n 1, 1) := by decide +kernel
theorem dX7_layStrain_16 : decode cX7_layStrain 16 = .ok (.iload_n 1, 1) := by decide +kernel
theorem dX7_layStrain_17 : decode cX7_layStrain 17 = .ok (.bipush 10, 2) := by decide +kernel
theorem dX7_layStrain_19 : decode cX7_layStrain 19 = .ok (.if_icmp .ge 74, 3) := by decide +kernel
theorem dX7_layStrain_22 : decode cX7_layStrain 22 = .ok (.aload_n 0, 1) := by decide +kernel
theorem dX7_layStrain_23 : decode cX7_layStrain 23 = .ok (.iload_n 1, 1) := by decide +kernel
theorem dX7_layStrain_24 : decode cX7_layStrain 24 = .ok (.invokevirtual 88, 3) := by decide +kernel
theorem dX7_layStrain_27 : decode cX7_layStrain 27 = .ok (.ifCond .eq 60, 3) := by decide +kernel
theorem dX7_layStrain_30 : decode cX7_layStrain 30 = .ok (.aload_n 0, 1) := by decide +kernel
theorem dX7_layStrain_31 : decode cX7_layStrain 31 = .ok (.getfield 20, 3) := by decide +kernel
theorem dX7_layStrain_34 : decode cX7_layStrain 34 = .ok (.iload_n 1, 1) := by decide +kernel
theorem dX7_layStrain_35 : decode cX7_layStrain 35 = .ok (.iaload, 1) := by decide +kernel
theorem dX7_layStrain_36 : decode cX7_layStrain 36 = .ok (.ifCond .le 51, 3) := by decide +kernel
theorem dX7_layStrain_39 : decode cX7_layStrain 39 = .ok (.aload_n 0, 1) := by decide +kernel
theorem dX7_layStrain_40 : decode cX7_layStrain 40 = .ok (.getfield 41, 3) := by decide +kernel
theorem dX7_layStrain_43 : decode cX7_layStrain 43 = .ok (.iload_n 1, 1) := by decide +kernel
theorem dX7_layStrain_44 : decode cX7_layStrain 44 = .ok (.laload, 1) := by decide +kernel
theorem dX7_layStrain_45 : decode cX7_layStrain 45 = .ok (.aload_n 0, 1) := by decide +kernel
theorem dX7_layStrain_46 : decode cX7_layStrain 46 = .ok (.getfield 156, 3) := by decide +kernel
theorem dX7_layStrain_49 : decode cX7_layStrain 49 = .ok (.lmul, 1) := by decide +kernel
theorem dX7_layStrain_50 : decode cX7_layStrain 50 = .ok (.aload_n 0, 1) := by decide +kernel
theorem dX7_layStrain_51 : decode cX7_layStrain 51 = .ok (.getfield 152, 3) := by decide +kernel
theorem dX7_layStrain_54 : decode cX7_layStrain 54 = .ok (.aload_n 0, 1) := by decide +kernel
theorem dX7_layStrain_55 : decode cX7_layStrain 55 = .ok (.getfield 20, 3) := by decide +kernel
theorem dX7_layStrain_58 : decode cX7_layStrain 58 = .ok (.iload_n 1, 1) := by decide +kernel
theorem dX7_layStrain_59 : decode cX7_layStrain 59 = .ok (.iaload, 1) := by decide +kernel
theorem dX7_layStrain_60 : decode cX7_layStrain 60 = .ok (.i2l, 1) := by decide +kernel
theorem dX7_layStrain_61 : decode cX7_layStrain 61 = .ok (.lmul, 1) := by decide +kernel
theorem dX7_layStrain_62 : decode cX7_layStrain 62 = .ok (.lcmp, 1) := by decide +kernel
theorem dX7_layStrain_63 : decode cX7_layStrain 63 = .ok (.ifCond .le 24, 3) := by decide +kernel
theorem dX7_layStrain_66 : decode cX7_layStrain 66 = .ok (.aload_n 0, 1) := by decide +kernel
theorem dX7_layStrain_67 : decode cX7_layStrain 67 = .ok (.aload_n 0, 1) := by decide +kernel
theorem dX7_layStrain_68 : decode cX7_layStrain 68 = .ok (.getfield 41, 3) := by decide +kernel
theorem dX7_layStrain_71 : decode cX7_layStrain 71 = .ok (.iload_n 1, 1) := by decide +kernel
theorem dX7_layStrain_72 : decode cX7_layStrain 72 = .ok (.laload, 1) := by decide +kernel
theorem dX7_layStrain_73 : decode cX7_layStrain 73 = .ok (.putfield 152, 3) := by decide +kernel
theorem dX7_layStrain_76 : decode cX7_layStrain 76 = .ok (.aload_n 0, 1) := by decide +kernel
theorem dX7_layStrain_77 : decode cX7_layStrain 77 = .ok (.aload_n 0, 1) := by decide +kernel
theorem dX7_layStrain_78 : decode cX7_layStrain 78 = .ok (.getfield 20, 3) := by decide +kernel
theorem dX7_layStrain_81 : decode cX7_layStrain 81 = .ok (.iload_n 1, 1) := by decide +kernel
theorem dX7_layStrain_82 : decode cX7_layStrain 82 = .ok (.iaload, 1) := by decide +kernel
theorem dX7_layStrain_83 : decode cX7_layStrain 83 = .ok (.i2l, 1) := by decide +kernel
theorem dX7_layStrain_84 : decode cX7_layStrain 84 = .ok (.putfield 156, 3) := by decide +kernel
theorem dX7_layStrain_87 : decode cX7_layStrain 87 = .ok (.iinc 1 1, 3) := by decide +kernel
theorem dX7_layStrain_90 : decode cX7_layStrain 90 = .ok (.goto (-74), 3) := by decide +kernel
theorem dX7_layStrain_93 : decode cX7_layStrain 93 = .ok (.return_, 1) := by decide +kernel
set_option maxRecDepth 20000 in
theorem ggX7_strain_X7_in : GoodIn wsX7_strain wsX7_in := goodIn_r _ [8] (by decide +kernel) (by decide +kernel)
set_option maxRecDepth 20000 in
theorem gX7_strain_X7_in : GoodIn wsX7_strain (va_wsS RX7 73 yX7_in wsX7_in) := goodIn_app (goodIn_of _ (by decide +kernel)) ggX7_strain_X7_in
set_option maxRecDepth 20000 in
theorem ggX7_strain_X7_asNow : GoodIn wsX7_strain wsX7_asNow := goodIn_r _ [12, 13, 14, 15, 16, 48, 49, 50, 51, 52, 53, 54, 55, 56, 57, 58, 59, 60, 61, 62, 63, 64, 65, 66, 67, 68, 69, 70, 71, 72, 73] (by decide +kernel) (by decide +kernel)
set_option maxRecDepth 20000 in
theorem gX7_strain_X7_asNow : GoodIn wsX7_strain (wsV RX7 124 RX7 yX7_asNow wsX7_asNow) := goodIn_app (goodIn_of _ (by decide +kernel)) ggX7_strain_X7_asNow
set_option maxRecDepth 20000 in
theorem ggX7_strain_X7_layStrain : GoodIn wsX7_strain wsX7_layStrain := goodIn_r _ [20, 2, 3, 21, 22, 23, 24, 25, 7, 26, 13, 4, 27, 15, 28, 29, 30, 31, 32, 33, 34, 35, 36, 37, 38, 39, 40, 41, 42, 43, 44, 48, 49, 50, 51, 52, 53, 54, 55, 56, 57, 58, 59, 60, 61, 62, 63, 64, 65, 66, 67, 68, 69, 70, 71, 72, 73] (by decide +kernel) (by decide +kernel)
set_option maxRecDepth 20000 in
theorem gX7_strain_X7_layStrain : GoodIn wsX7_strain (wsV RX7 159 RX7 yX7_layStrain wsX7_layStrain) := goodIn_app (goodIn_of _ (by decide +kernel)) ggX7_strain_X7_layStrain
set_option maxRecDepth 20000 in
theorem ggX7_strain_X7_part : GoodIn wsX7_strain wsX7_part := goodIn_r _ [47] (by decide +kernel) (by decide +kernel)
set_option maxRecDepth 20000 in
theorem gX7_strain_X7_part : GoodIn wsX7_strain (va_wsS RX7 148 yX7_part wsX7_part) := goodIn_app (goodIn_of _ (by decide +kernel)) ggX7_strain_X7_part
theorem dX7_strain_0 : decode cX7_strain 0 = .ok (.iload_n 1, 1) := by decide +kernel
theorem dX7_strain_1 : decode cX7_strain 1 = .ok (.iconst 0, 1) := by decide +kernel
theorem dX7_strain_2 : decode cX7_strain 2 = .ok (.iconst 1, 1) := by decide +kernel
theorem dX7_strain_3 : decode cX7_strain 3 = .ok (.invokestatic 73, 3) := by decide +kernel
theorem dX7_strain_6 : decode cX7_strain 6 = .ok (.ifCond .ne 7, 3) := by decide +kernel
theorem dX7_strain_9 : decode cX7_strain 9 = .ok (.ldc2_w 144, 3) := by decide +kernel
theorem dX7_strain_12 : decode cX7_strain 12 = .ok (.lreturn, 1) := by decide +kernel
theorem dX7_strain_13 : decode cX7_strain 13 = .ok (.aload_n 0, 1) := by decide +kernel
theorem dX7_strain_14 : decode cX7_strain 14 = .ok (.invokevirtual 124, 3) := by decide +kernel
theorem dX7_strain_17 : decode cX7_strain 17 = .ok (.aload_n 0, 1) := by decide +kernel
theorem dX7_strain_18 : decode cX7_strain 18 = .ok (.invokevirtual 159, 3) := by decide +kernel
theorem dX7_strain_21 : decode cX7_strain 21 = .ok (.aload_n 0, 1) := by decide +kernel
theorem dX7_strain_22 : decode cX7_strain 22 = .ok (.getfield 152, 3) := by decide +kernel
theorem dX7_strain_25 : decode cX7_strain 25 = .ok (.aload_n 0, 1) := by decide +kernel
theorem dX7_strain_26 : decode cX7_strain 26 = .ok (.getfield 156, 3) := by decide +kernel
theorem dX7_strain_29 : decode cX7_strain 29 = .ok (.ldc2_w 106, 3) := by decide +kernel
theorem dX7_strain_32 : decode cX7_strain 32 = .ok (.lmul, 1) := by decide +kernel
theorem dX7_strain_33 : decode cX7_strain 33 = .ok (.iload_n 1, 1) := by decide +kernel
theorem dX7_strain_34 : decode cX7_strain 34 = .ok (.invokestatic 148, 3) := by decide +kernel
theorem dX7_strain_37 : decode cX7_strain 37 = .ok (.lreturn, 1) := by decide +kernel
set_option maxRecDepth 20000 in
theorem ggX7_bulges_X7_asNow : GoodIn wsX7_bulges wsX7_asNow := goodIn_r _ [9, 10, 11, 12, 13, 37, 38, 39, 40, 41, 42, 43, 44, 45, 46, 47, 48, 49, 50, 51, 52, 53, 54, 55, 56, 57, 58, 59, 60, 61, 62] (by decide +kernel) (by decide +kernel)
set_option maxRecDepth 20000 in
theorem gX7_bulges_X7_asNow : GoodIn wsX7_bulges (wsV RX7 124 RX7 yX7_asNow wsX7_asNow) := goodIn_app (goodIn_of _ (by decide +kernel)) ggX7_bulges_X7_asNow
set_option maxRecDepth 20000 in
theorem ggX7_bulges_X7_layLoads : GoodIn wsX7_bulges wsX7_layLoads := goodIn_r _ [17, 2, 10, 18, 19, 12, 20, 21, 22, 23, 8, 24, 25, 26, 27, 28, 29, 30, 31, 32, 33, 34, 35, 36, 37, 38, 39, 40, 41, 42, 43, 44, 45, 46, 47, 48, 49, 50, 51, 52, 53, 54, 55, 56, 57, 58, 59, 60, 61, 62] (by decide +kernel) (by decide +kernel)
set_option maxRecDepth 20000 in
theorem gX7_bulges_X7_layLoads : GoodIn wsX7_bulges (wsV RX7 114 RX7 yX7_layLoads wsX7_layLoads) := goodIn_app (goodIn_of _ (by decide +kernel)) ggX7_bulges_X7_layLoads
set_option maxRecDepth 20000 in
theorem ggX7_bulges_X7_isIn : GoodIn wsX7_bulges wsX7_isIn := goodIn_r _ [36, 10, 37, 38, 39, 40, 41, 42, 43, 44, 45, 46, 47, 48, 49, 50, 51, 52, 53, 54, 55, 56, 57, 58, 59, 60, 61, 62] (by decide +kernel) (by decide +kernel)
set_option maxRecDepth 20000 in
theorem gX7_bulges_X7_isIn : GoodIn wsX7_bulges (wsV RX7 88 RX7 yX7_isIn wsX7_isIn) := goodIn_app (goodIn_of _ (by decide +kernel)) ggX7_bulges_X7_isIn
theorem dX7_bulges_0 : decode cX7_bulges 0 = .ok (.aload_n 0, 1) := by decide +kernel
theorem dX7_bulges_1 : decode cX7_bulges 1 = .ok (.invokevirtual 124, 3) := by decide +kernel
theorem dX7_bulges_4 : decode cX7_bulges 4 = .ok (.aload_n 0, 1) := by decide +kernel
theorem dX7_bulges_5 : decode cX7_bulges 5 = .ok (.invokevirtual 114, 3) := by decide +kernel
theorem dX7_bulges_8 : decode cX7_bulges 8 = .ok (.iconst 0, 1) := by decide +kernel
theorem dX7_bulges_9 : decode cX7_bulges 9 = .ok (.istore_n 1, 1) := by decide +kernel
theorem dX7_bulges_10 : decode cX7_bulges 10 = .ok (.iconst 0, 1) := by decide +kernel
theorem dX7_bulges_11 : decode cX7_bulges 11 = .ok (.istore_n 2, 1) := by decide +kernel
theorem dX7_bulges_12 : decode cX7_bulges 12 = .ok (.iload_n 2, 1) := by decide +kernel
theorem dX7_bulges_13 : decode cX7_bulges 13 = .ok (.bipush 10, 2) := by decide +kernel
theorem dX7_bulges_15 : decode cX7_bulges 15 = .ok (.if_icmp .ge 52, 3) := by decide +kernel
theorem dX7_bulges_18 : decode cX7_bulges 18 = .ok (.iload_n 1, 1) := by decide +kernel
theorem dX7_bulges_19 : decode cX7_bulges 19 = .ok (.aload_n 0, 1) := by decide +kernel
theorem dX7_bulges_20 : decode cX7_bulges 20 = .ok (.iload_n 2, 1) := by decide +kernel
theorem dX7_bulges_21 : decode cX7_bulges 21 = .ok (.invokevirtual 88, 3) := by decide +kernel
theorem dX7_bulges_24 : decode cX7_bulges 24 = .ok (.ifCond .eq 34, 3) := by decide +kernel
theorem dX7_bulges_27 : decode cX7_bulges 27 = .ok (.ldc2_w 162, 3) := by decide +kernel
theorem dX7_bulges_30 : decode cX7_bulges 30 = .ok (.aload_n 0, 1) := by decide +kernel
theorem dX7_bulges_31 : decode cX7_bulges 31 = .ok (.getfield 41, 3) := by decide +kernel
theorem dX7_bulges_34 : decode cX7_bulges 34 = .ok (.iload_n 2, 1) := by decide +kernel
theorem dX7_bulges_35 : decode cX7_bulges 35 = .ok (.laload, 1) := by decide +kernel
theorem dX7_bulges_36 : decode cX7_bulges 36 = .ok (.lmul, 1) := by decide +kernel
theorem dX7_bulges_37 : decode cX7_bulges 37 = .ok (.ldc2_w 164, 3) := by decide +kernel
theorem dX7_bulges_40 : decode cX7_bulges 40 = .ok (.aload_n 0, 1) := by decide +kernel
theorem dX7_bulges_41 : decode cX7_bulges 41 = .ok (.getfield 20, 3) := by decide +kernel
theorem dX7_bulges_44 : decode cX7_bulges 44 = .ok (.iload_n 2, 1) := by decide +kernel
theorem dX7_bulges_45 : decode cX7_bulges 45 = .ok (.iaload, 1) := by decide +kernel
theorem dX7_bulges_46 : decode cX7_bulges 46 = .ok (.i2l, 1) := by decide +kernel
theorem dX7_bulges_47 : decode cX7_bulges 47 = .ok (.lmul, 1) := by decide +kernel
theorem dX7_bulges_48 : decode cX7_bulges 48 = .ok (.lcmp, 1) := by decide +kernel
theorem dX7_bulges_49 : decode cX7_bulges 49 = .ok (.ifCond .le 9, 3) := by decide +kernel
theorem dX7_bulges_52 : decode cX7_bulges 52 = .ok (.iconst 1, 1) := by decide +kernel
theorem dX7_bulges_53 : decode cX7_bulges 53 = .ok (.iload_n 2, 1) := by decide +kernel
theorem dX7_bulges_54 : decode cX7_bulges 54 = .ok (.ishl, 1) := by decide +kernel
theorem dX7_bulges_55 : decode cX7_bulges 55 = .ok (.goto 4, 3) := by decide +kernel
theorem dX7_bulges_58 : decode cX7_bulges 58 = .ok (.iconst 0, 1) := by decide +kernel
theorem dX7_bulges_59 : decode cX7_bulges 59 = .ok (.ior, 1) := by decide +kernel
theorem dX7_bulges_60 : decode cX7_bulges 60 = .ok (.istore_n 1, 1) := by decide +kernel
theorem dX7_bulges_61 : decode cX7_bulges 61 = .ok (.iinc 2 1, 3) := by decide +kernel
theorem dX7_bulges_64 : decode cX7_bulges 64 = .ok (.goto (-52), 3) := by decide +kernel
theorem dX7_bulges_67 : decode cX7_bulges 67 = .ok (.iload_n 1, 1) := by decide +kernel
theorem dX7_bulges_68 : decode cX7_bulges 68 = .ok (.ireturn, 1) := by decide +kernel
set_option maxRecDepth 20000 in
theorem ggX7_doTouch_X7_isIn : GoodIn wsX7_doTouch wsX7_isIn := goodIn_r _ [8, 1, 9, 10, 11, 12, 13, 14, 15, 16, 17, 18, 19, 20, 21, 22, 23, 24, 25, 26, 27, 28, 29, 30, 31, 32, 33, 34] (by decide +kernel) (by decide +kernel)
set_option maxRecDepth 20000 in
theorem gX7_doTouch_X7_isIn : GoodIn wsX7_doTouch (wsV RX7 88 RX7 yX7_isIn wsX7_isIn) := goodIn_app (goodIn_of _ (by decide +kernel)) ggX7_doTouch_X7_isIn
theorem dX7_doTouch_0 : decode cX7_doTouch 0 = .ok (.aload_n 0, 1) := by decide +kernel
theorem dX7_doTouch_1 : decode cX7_doTouch 1 = .ok (.iload_n 1, 1) := by decide +kernel
theorem dX7_doTouch_2 : decode cX7_doTouch 2 = .ok (.invokevirtual 88, 3) := by decide +kernel
theorem dX7_doTouch_5 : decode cX7_doTouch 5 = .ok (.ifCond .eq 11, 3) := by decide +kernel
theorem dX7_doTouch_8 : decode cX7_doTouch 8 = .ok (.aload_n 0, 1) := by decide +kernel
theorem dX7_doTouch_9 : decode cX7_doTouch 9 = .ok (.iload_n 2, 1) := by decide +kernel
theorem dX7_doTouch_10 : decode cX7_doTouch 10 = .ok (.invokevirtual 88, 3) := by decide +kernel
theorem dX7_doTouch_13 : decode cX7_doTouch 13 = .ok (.ifCond .ne 5, 3) := by decide +kernel
theorem dX7_doTouch_16 : decode cX7_doTouch 16 = .ok (.iconst 0, 1) := by decide +kernel
theorem dX7_doTouch_17 : decode cX7_doTouch 17 = .ok (.ireturn, 1) := by decide +kernel
theorem dX7_doTouch_18 : decode cX7_doTouch 18 = .ok (.aload_n 0, 1) := by decide +kernel
theorem dX7_doTouch_19 : decode cX7_doTouch 19 = .ok (.getfield 35, 3) := by decide +kernel
theorem dX7_doTouch_22 : decode cX7_doTouch 22 = .ok (.iload_n 1, 1) := by decide +kernel
theorem dX7_doTouch_23 : decode cX7_doTouch 23 = .ok (.iaload, 1) := by decide +kernel
theorem dX7_doTouch_24 : decode cX7_doTouch 24 = .ok (.aload_n 0, 1) := by decide +kernel
theorem dX7_doTouch_25 : decode cX7_doTouch 25 = .ok (.getfield 35, 3) := by decide +kernel
theorem dX7_doTouch_28 : decode cX7_doTouch 28 = .ok (.iload_n 2, 1) := by decide +kernel
theorem dX7_doTouch_29 : decode cX7_doTouch 29 = .ok (.iaload, 1) := by decide +kernel
theorem dX7_doTouch_30 : decode cX7_doTouch 30 = .ok (.if_icmp .ne 51, 3) := by decide +kernel
theorem dX7_doTouch_33 : decode cX7_doTouch 33 = .ok (.aload_n 0, 1) := by decide +kernel
theorem dX7_doTouch_34 : decode cX7_doTouch 34 = .ok (.getfield 38, 3) := by decide +kernel
theorem dX7_doTouch_37 : decode cX7_doTouch 37 = .ok (.iload_n 1, 1) := by decide +kernel
theorem dX7_doTouch_38 : decode cX7_doTouch 38 = .ok (.iaload, 1) := by decide +kernel
theorem dX7_doTouch_39 : decode cX7_doTouch 39 = .ok (.aload_n 0, 1) := by decide +kernel
theorem dX7_doTouch_40 : decode cX7_doTouch 40 = .ok (.getfield 13, 3) := by decide +kernel
theorem dX7_doTouch_43 : decode cX7_doTouch 43 = .ok (.iload_n 1, 1) := by decide +kernel
theorem dX7_doTouch_44 : decode cX7_doTouch 44 = .ok (.iaload, 1) := by decide +kernel
theorem dX7_doTouch_45 : decode cX7_doTouch 45 = .ok (.iadd, 1) := by decide +kernel
theorem dX7_doTouch_46 : decode cX7_doTouch 46 = .ok (.aload_n 0, 1) := by decide +kernel
theorem dX7_doTouch_47 : decode cX7_doTouch 47 = .ok (.getfield 38, 3) := by decide +kernel
theorem dX7_doTouch_50 : decode cX7_doTouch 50 = .ok (.iload_n 2, 1) := by decide +kernel
theorem dX7_doTouch_51 : decode cX7_doTouch 51 = .ok (.iaload, 1) := by decide +kernel
theorem dX7_doTouch_52 : decode cX7_doTouch 52 = .ok (.if_icmp .eq 25, 3) := by decide +kernel
theorem dX7_doTouch_55 : decode cX7_doTouch 55 = .ok (.aload_n 0, 1) := by decide +kernel
theorem dX7_doTouch_56 : decode cX7_doTouch 56 = .ok (.getfield 38, 3) := by decide +kernel
theorem dX7_doTouch_59 : decode cX7_doTouch 59 = .ok (.iload_n 2, 1) := by decide +kernel
theorem dX7_doTouch_60 : decode cX7_doTouch 60 = .ok (.iaload, 1) := by decide +kernel
theorem dX7_doTouch_61 : decode cX7_doTouch 61 = .ok (.aload_n 0, 1) := by decide +kernel
theorem dX7_doTouch_62 : decode cX7_doTouch 62 = .ok (.getfield 13, 3) := by decide +kernel
theorem dX7_doTouch_65 : decode cX7_doTouch 65 = .ok (.iload_n 2, 1) := by decide +kernel
theorem dX7_doTouch_66 : decode cX7_doTouch 66 = .ok (.iaload, 1) := by decide +kernel
theorem dX7_doTouch_67 : decode cX7_doTouch 67 = .ok (.iadd, 1) := by decide +kernel
theorem dX7_doTouch_68 : decode cX7_doTouch 68 = .ok (.aload_n 0, 1) := by decide +kernel
theorem dX7_doTouch_69 : decode cX7_doTouch 69 = .ok (.getfield 38, 3) := by decide +kernel
theorem dX7_doTouch_72 : decode cX7_doTouch 72 = .ok (.iload_n 1, 1) := by decide +kernel
theorem dX7_doTouch_73 : decode cX7_doTouch 73 = .ok (.iaload, 1) := by decide +kernel
theorem dX7_doTouch_74 : decode cX7_doTouch 74 = .ok (.if_icmp .ne 7, 3) := by decide +kernel
theorem dX7_doTouch_77 : decode cX7_doTouch 77 = .ok (.iconst 1, 1) := by decide +kernel
theorem dX7_doTouch_78 : decode cX7_doTouch 78 = .ok (.goto 4, 3) := by decide +kernel
theorem dX7_doTouch_81 : decode cX7_doTouch 81 = .ok (.iconst 0, 1) := by decide +kernel
theorem dX7_doTouch_82 : decode cX7_doTouch 82 = .ok (.istore_n 3, 1) := by decide +kernel
theorem dX7_doTouch_83 : decode cX7_doTouch 83 = .ok (.aload_n 0, 1) := by decide +kernel
theorem dX7_doTouch_84 : decode cX7_doTouch 84 = .ok (.getfield 38, 3) := by decide +kernel
theorem dX7_doTouch_87 : decode cX7_doTouch 87 = .ok (.iload_n 1, 1) := by decide +kernel
theorem dX7_doTouch_88 : decode cX7_doTouch 88 = .ok (.iaload, 1) := by decide +kernel
theorem dX7_doTouch_89 : decode cX7_doTouch 89 = .ok (.aload_n 0, 1) := by decide +kernel
theorem dX7_doTouch_90 : decode cX7_doTouch 90 = .ok (.getfield 38, 3) := by decide +kernel
theorem dX7_doTouch_93 : decode cX7_doTouch 93 = .ok (.iload_n 2, 1) := by decide +kernel
theorem dX7_doTouch_94 : decode cX7_doTouch 94 = .ok (.iaload, 1) := by decide +kernel
theorem dX7_doTouch_95 : decode cX7_doTouch 95 = .ok (.aload_n 0, 1) := by decide +kernel
theorem dX7_doTouch_96 : decode cX7_doTouch 96 = .ok (.getfield 13, 3) := by decide +kernel
theorem dX7_doTouch_99 : decode cX7_doTouch 99 = .ok (.iload_n 2, 1) := by decide +kernel
theorem dX7_doTouch_100 : decode cX7_doTouch 100 = .ok (.iaload, 1) := by decide +kernel
theorem dX7_doTouch_101 : decode cX7_doTouch 101 = .ok (.iadd, 1) := by decide +kernel
theorem dX7_doTouch_102 : decode cX7_doTouch 102 = .ok (.if_icmp .ge 29, 3) := by decide +kernel
theorem dX7_doTouch_105 : decode cX7_doTouch 105 = .ok (.aload_n 0, 1) := by decide +kernel
theorem dX7_doTouch_106 : decode cX7_doTouch 106 = .ok (.getfield 38, 3) := by decide +kernel
theorem dX7_doTouch_109 : decode cX7_doTouch 109 = .ok (.iload_n 2, 1) := by decide +kernel
theorem dX7_doTouch_110 : decode cX7_doTouch 110 = .ok (.iaload, 1) := by decide +kernel
theorem dX7_doTouch_111 : decode cX7_doTouch 111 = .ok (.aload_n 0, 1) := by decide +kernel
theorem dX7_doTouch_112 : decode cX7_doTouch 112 = .ok (.getfield 38, 3) := by decide +kernel
theorem dX7_doTouch_115 : decode cX7_doTouch 115 = .ok (.iload_n 1, 1) := by decide +kernel
theorem dX7_doTouch_116 : decode cX7_doTouch 116 = .ok (.iaload, 1) := by decide +kernel
theorem dX7_doTouch_117 : decode cX7_doTouch 117 = .ok (.aload_n 0, 1) := by decide +kernel
theorem dX7_doTouch_118 : decode cX7_doTouch 118 = .ok (.getfield 13, 3) := by decide +kernel
theorem dX7_doTouch_121 : decode cX7_doTouch 121 = .ok (.iload_n 1, 1) := by decide +kernel
theorem dX7_doTouch_122 : decode cX7_doTouch 122 = .ok (.iaload, 1) := by decide +kernel
theorem dX7_doTouch_123 : decode cX7_doTouch 123 = .ok (.iadd, 1) := by decide +kernel
theorem dX7_doTouch_124 : decode cX7_doTouch 124 = .ok (.if_icmp .ge 7, 3) := by decide +kernel
theorem dX7_doTouch_127 : decode cX7_doTouch 127 = .ok (.iconst 1, 1) := by decide +kernel
theorem dX7_doTouch_128 : decode cX7_doTouch 128 = .ok (.goto 4, 3) := by decide +kernel
theorem dX7_doTouch_131 : decode cX7_doTouch 131 = .ok (.iconst 0, 1) := by decide +kernel
theorem dX7_doTouch_132 : decode cX7_doTouch 132 = .ok (.istore 4, 2) := by decide +kernel
theorem dX7_doTouch_134 : decode cX7_doTouch 134 = .ok (.iload_n 3, 1) := by decide +kernel
theorem dX7_doTouch_135 : decode cX7_doTouch 135 = .ok (.ifCond .ne 42, 3) := by decide +kernel
theorem dX7_doTouch_138 : decode cX7_doTouch 138 = .ok (.iload 4, 2) := by decide +kernel
theorem dX7_doTouch_140 : decode cX7_doTouch 140 = .ok (.ifCond .eq 41, 3) := by decide +kernel
theorem dX7_doTouch_143 : decode cX7_doTouch 143 = .ok (.aload_n 0, 1) := by decide +kernel
theorem dX7_doTouch_144 : decode cX7_doTouch 144 = .ok (.getfield 35, 3) := by decide +kernel
theorem dX7_doTouch_147 : decode cX7_doTouch 147 = .ok (.iload_n 1, 1) := by decide +kernel
theorem dX7_doTouch_148 : decode cX7_doTouch 148 = .ok (.iaload, 1) := by decide +kernel
theorem dX7_doTouch_149 : decode cX7_doTouch 149 = .ok (.aload_n 0, 1) := by decide +kernel
theorem dX7_doTouch_150 : decode cX7_doTouch 150 = .ok (.getfield 35, 3) := by decide +kernel
theorem dX7_doTouch_153 : decode cX7_doTouch 153 = .ok (.iload_n 2, 1) := by decide +kernel
theorem dX7_doTouch_154 : decode cX7_doTouch 154 = .ok (.iaload, 1) := by decide +kernel
theorem dX7_doTouch_155 : decode cX7_doTouch 155 = .ok (.isub, 1) := by decide +kernel
theorem dX7_doTouch_156 : decode cX7_doTouch 156 = .ok (.iconst 1, 1) := by decide +kernel
theorem dX7_doTouch_157 : decode cX7_doTouch 157 = .ok (.if_icmp .eq 20, 3) := by decide +kernel
theorem dX7_doTouch_160 : decode cX7_doTouch 160 = .ok (.aload_n 0, 1) := by decide +kernel
theorem dX7_doTouch_161 : decode cX7_doTouch 161 = .ok (.getfield 35, 3) := by decide +kernel
theorem dX7_doTouch_164 : decode cX7_doTouch 164 = .ok (.iload_n 2, 1) := by decide +kernel
theorem dX7_doTouch_165 : decode cX7_doTouch 165 = .ok (.iaload, 1) := by decide +kernel
theorem dX7_doTouch_166 : decode cX7_doTouch 166 = .ok (.aload_n 0, 1) := by decide +kernel
theorem dX7_doTouch_167 : decode cX7_doTouch 167 = .ok (.getfield 35, 3) := by decide +kernel
theorem dX7_doTouch_170 : decode cX7_doTouch 170 = .ok (.iload_n 1, 1) := by decide +kernel
theorem dX7_doTouch_171 : decode cX7_doTouch 171 = .ok (.iaload, 1) := by decide +kernel
theorem dX7_doTouch_172 : decode cX7_doTouch 172 = .ok (.isub, 1) := by decide +kernel
theorem dX7_doTouch_173 : decode cX7_doTouch 173 = .ok (.iconst 1, 1) := by decide +kernel
theorem dX7_doTouch_174 : decode cX7_doTouch 174 = .ok (.if_icmp .ne 7, 3) := by decide +kernel
theorem dX7_doTouch_177 : decode cX7_doTouch 177 = .ok (.iconst 1, 1) := by decide +kernel
theorem dX7_doTouch_178 : decode cX7_doTouch 178 = .ok (.goto 4, 3) := by decide +kernel
theorem dX7_doTouch_181 : decode cX7_doTouch 181 = .ok (.iconst 0, 1) := by decide +kernel
theorem dX7_doTouch_182 : decode cX7_doTouch 182 = .ok (.ireturn, 1) := by decide +kernel
set_option maxRecDepth 20000 in
theorem ggX7_touch_X7_asNow : GoodIn wsX7_touch wsX7_asNow := goodIn_r _ [5, 6, 7, 8, 9, 19, 20, 21, 22, 23, 24, 25, 26, 27, 28, 29, 30, 31, 32, 33, 34, 35, 36, 37, 38, 39, 40, 41, 42, 43, 44] (by decide +kernel) (by decide +kernel)
set_option maxRecDepth 20000 in
theorem gX7_touch_X7_asNow : GoodIn wsX7_touch (wsV RX7 124 RX7 yX7_asNow wsX7_asNow) := goodIn_app (goodIn_of _ (by decide +kernel)) ggX7_touch_X7_asNow
set_option maxRecDepth 20000 in
theorem ggX7_touch_X7_doTouch : GoodIn wsX7_touch wsX7_doTouch := goodIn_r _ [13, 6, 8, 14, 15, 16, 17, 4, 18, 19, 20, 21, 22, 23, 24, 25, 26, 27, 28, 29, 30, 31, 32, 33, 34, 35, 36, 37, 38, 39, 40, 41, 42, 43, 44] (by decide +kernel) (by decide +kernel)
set_option maxRecDepth 20000 in
theorem gX7_touch_X7_doTouch : GoodIn wsX7_touch (wsV RX7 166 RX7 yX7_doTouch wsX7_doTouch) := goodIn_app (goodIn_of _ (by decide +kernel)) ggX7_touch_X7_doTouch
theorem dX7_touch_0 : decode cX7_touch 0 = .ok (.aload_n 0, 1) := by decide +kernel
theorem dX7_touch_1 : decode cX7_touch 1 = .ok (.invokevirtual 124, 3) := by decide +kernel
theorem dX7_touch_4 : decode cX7_touch 4 = .ok (.iconst 0, 1) := by decide +kernel
theorem dX7_touch_5 : decode cX7_touch 5 = .ok (.istore_n 2, 1) := by decide +kernel
theorem dX7_touch_6 : decode cX7_touch 6 = .ok (.iconst 0, 1) := by decide +kernel
theorem dX7_touch_7 : decode cX7_touch 7 = .ok (.istore_n 3, 1) := by decide +kernel
theorem dX7_touch_8 : decode cX7_touch 8 = .ok (.iload_n 3, 1) := by decide +kernel
theorem dX7_touch_9 : decode cX7_touch 9 = .ok (.bipush 10, 2) := by decide +kernel
theorem dX7_touch_11 : decode cX7_touch 11 = .ok (.if_icmp .ge 53, 3) := by decide +kernel
theorem dX7_touch_14 : decode cX7_touch 14 = .ok (.iload_n 3, 1) := by decide +kernel
theorem dX7_touch_15 : decode cX7_touch 15 = .ok (.iconst 1, 1) := by decide +kernel
theorem dX7_touch_16 : decode cX7_touch 16 = .ok (.iadd, 1) := by decide +kernel
theorem dX7_touch_17 : decode cX7_touch 17 = .ok (.istore 4, 2) := by decide +kernel
theorem dX7_touch_19 : decode cX7_touch 19 = .ok (.iload 4, 2) := by decide +kernel
theorem dX7_touch_21 : decode cX7_touch 21 = .ok (.bipush 10, 2) := by decide +kernel
theorem dX7_touch_23 : decode cX7_touch 23 = .ok (.if_icmp .ge 35, 3) := by decide +kernel
theorem dX7_touch_26 : decode cX7_touch 26 = .ok (.aload_n 0, 1) := by decide +kernel
theorem dX7_touch_27 : decode cX7_touch 27 = .ok (.iload_n 3, 1) := by decide +kernel
theorem dX7_touch_28 : decode cX7_touch 28 = .ok (.iload 4, 2) := by decide +kernel
theorem dX7_touch_30 : decode cX7_touch 30 = .ok (.invokevirtual 166, 3) := by decide +kernel
theorem dX7_touch_33 : decode cX7_touch 33 = .ok (.ifCond .eq 19, 3) := by decide +kernel
theorem dX7_touch_36 : decode cX7_touch 36 = .ok (.iload_n 2, 1) := by decide +kernel
theorem dX7_touch_37 : decode cX7_touch 37 = .ok (.iload_n 1, 1) := by decide +kernel
theorem dX7_touch_38 : decode cX7_touch 38 = .ok (.if_icmp .ne 11, 3) := by decide +kernel
theorem dX7_touch_41 : decode cX7_touch 41 = .ok (.bipush 10, 2) := by decide +kernel
theorem dX7_touch_43 : decode cX7_touch 43 = .ok (.iload_n 3, 1) := by decide +kernel
theorem dX7_touch_44 : decode cX7_touch 44 = .ok (.imul, 1) := by decide +kernel
theorem dX7_touch_45 : decode cX7_touch 45 = .ok (.iload 4, 2) := by decide +kernel
theorem dX7_touch_47 : decode cX7_touch 47 = .ok (.iadd, 1) := by decide +kernel
theorem dX7_touch_48 : decode cX7_touch 48 = .ok (.ireturn, 1) := by decide +kernel
theorem dX7_touch_49 : decode cX7_touch 49 = .ok (.iinc 2 1, 3) := by decide +kernel
theorem dX7_touch_52 : decode cX7_touch 52 = .ok (.iinc 4 1, 3) := by decide +kernel
theorem dX7_touch_55 : decode cX7_touch 55 = .ok (.goto (-36), 3) := by decide +kernel
theorem dX7_touch_58 : decode cX7_touch 58 = .ok (.iinc 3 1, 3) := by decide +kernel
theorem dX7_touch_61 : decode cX7_touch 61 = .ok (.goto (-53), 3) := by decide +kernel
theorem dX7_touch_64 : decode cX7_touch 64 = .ok (.iload_n 1, 1) := by decide +kernel
theorem dX7_touch_65 : decode cX7_touch 65 = .ok (.iconst (-1), 1) := by decide +kernel
theorem dX7_touch_66 : decode cX7_touch 66 = .ok (.if_icmp .ne 7, 3) := by decide +kernel
theorem dX7_touch_69 : decode cX7_touch 69 = .ok (.iload_n 2, 1) := by decide +kernel
theorem dX7_touch_70 : decode cX7_touch 70 = .ok (.goto 5, 3) := by decide +kernel
theorem dX7_touch_73 : decode cX7_touch 73 = .ok (.bipush (-6), 2) := by decide +kernel
theorem dX7_touch_75 : decode cX7_touch 75 = .ok (.ireturn, 1) := by decide +kernel
set_option maxRecDepth 20000 in
theorem ggX7_gaps_X7_in : GoodIn wsX7_gaps wsX7_in := goodIn_r _ [5] (by decide +kernel) (by decide +kernel)
set_option maxRecDepth 20000 in
theorem gX7_gaps_X7_in : GoodIn wsX7_gaps (va_wsS RX7 73 yX7_in wsX7_in) := goodIn_app (goodIn_of _ (by decide +kernel)) ggX7_gaps_X7_in
set_option maxRecDepth 20000 in
theorem ggX7_gaps_X7_asNow : GoodIn wsX7_gaps wsX7_asNow := goodIn_r _ [9, 10, 11, 12, 13, 31, 32, 33, 34, 35, 36, 37, 38, 39, 40, 41, 42, 43, 44, 45, 46, 47, 48, 49, 50, 51, 52, 53, 54, 55, 56] (by decide +kernel) (by decide +kernel)
set_option maxRecDepth 20000 in
theorem gX7_gaps_X7_asNow : GoodIn wsX7_gaps (wsV RX7 124 RX7 yX7_asNow wsX7_asNow) := goodIn_app (goodIn_of _ (by decide +kernel)) ggX7_gaps_X7_asNow
set_option maxRecDepth 20000 in
theorem ggX7_gaps_X7_heightOf : GoodIn wsX7_gaps wsX7_heightOf := goodIn_r _ [17, 10, 18, 19, 20, 4, 21, 12, 22, 23, 24, 25, 26, 31, 32, 33, 34, 35, 36, 37, 38, 39, 40, 41, 42, 43, 44, 45, 46, 47, 48, 49, 50, 51, 52, 53, 54, 55, 56] (by decide +kernel) (by decide +kernel)
set_option maxRecDepth 20000 in
theorem gX7_gaps_X7_heightOf : GoodIn wsX7_gaps (wsV RX7 96 RX7 yX7_heightOf wsX7_heightOf) := goodIn_app (goodIn_of _ (by decide +kernel)) ggX7_gaps_X7_heightOf
set_option maxRecDepth 20000 in
theorem ggX7_gaps_X7_whose : GoodIn wsX7_gaps wsX7_whose := goodIn_r _ [30, 10, 18, 19, 20, 4, 21, 12, 22, 23, 24, 25, 26, 31, 32, 33, 34, 35, 36, 37, 38, 39, 40, 41, 42, 43, 44, 45, 46, 47, 48, 49, 50, 51, 52, 53, 54, 55, 56] (by decide +kernel) (by decide +kernel)
set_option maxRecDepth 20000 in
theorem gX7_gaps_X7_whose : GoodIn wsX7_gaps (wsV RX7 99 RX7 yX7_whose wsX7_whose) := goodIn_app (goodIn_of _ (by decide +kernel)) ggX7_gaps_X7_whose
theorem dX7_gaps_0 : decode cX7_gaps 0 = .ok (.iload_n 1, 1) := by decide +kernel
theorem dX7_gaps_1 : decode cX7_gaps 1 = .ok (.iconst (-1), 1) := by decide +kernel
theorem dX7_gaps_2 : decode cX7_gaps 2 = .ok (.aload_n 0, 1) := by decide +kernel
theorem dX7_gaps_3 : decode cX7_gaps 3 = .ok (.getfield 7, 3) := by decide +kernel
theorem dX7_gaps_6 : decode cX7_gaps 6 = .ok (.iconst 1, 1) := by decide +kernel
theorem dX7_gaps_7 : decode cX7_gaps 7 = .ok (.isub, 1) := by decide +kernel
theorem dX7_gaps_8 : decode cX7_gaps 8 = .ok (.invokestatic 73, 3) := by decide +kernel
theorem dX7_gaps_11 : decode cX7_gaps 11 = .ok (.ifCond .ne 5, 3) := by decide +kernel
theorem dX7_gaps_14 : decode cX7_gaps 14 = .ok (.iconst (-1), 1) := by decide +kernel
theorem dX7_gaps_15 : decode cX7_gaps 15 = .ok (.ireturn, 1) := by decide +kernel
theorem dX7_gaps_16 : decode cX7_gaps 16 = .ok (.aload_n 0, 1) := by decide +kernel
theorem dX7_gaps_17 : decode cX7_gaps 17 = .ok (.invokevirtual 124, 3) := by decide +kernel
theorem dX7_gaps_20 : decode cX7_gaps 20 = .ok (.iconst 0, 1) := by decide +kernel
theorem dX7_gaps_21 : decode cX7_gaps 21 = .ok (.istore_n 2, 1) := by decide +kernel
theorem dX7_gaps_22 : decode cX7_gaps 22 = .ok (.iconst 0, 1) := by decide +kernel
theorem dX7_gaps_23 : decode cX7_gaps 23 = .ok (.istore_n 3, 1) := by decide +kernel
theorem dX7_gaps_24 : decode cX7_gaps 24 = .ok (.iload_n 3, 1) := by decide +kernel
theorem dX7_gaps_25 : decode cX7_gaps 25 = .ok (.aload_n 0, 1) := by decide +kernel
theorem dX7_gaps_26 : decode cX7_gaps 26 = .ok (.getfield 7, 3) := by decide +kernel
theorem dX7_gaps_29 : decode cX7_gaps 29 = .ok (.if_icmp .ge 55, 3) := by decide +kernel
theorem dX7_gaps_32 : decode cX7_gaps 32 = .ok (.iconst 0, 1) := by decide +kernel
theorem dX7_gaps_33 : decode cX7_gaps 33 = .ok (.istore 4, 2) := by decide +kernel
theorem dX7_gaps_35 : decode cX7_gaps 35 = .ok (.iload 4, 2) := by decide +kernel
theorem dX7_gaps_37 : decode cX7_gaps 37 = .ok (.aload_n 0, 1) := by decide +kernel
theorem dX7_gaps_38 : decode cX7_gaps 38 = .ok (.iload_n 3, 1) := by decide +kernel
theorem dX7_gaps_39 : decode cX7_gaps 39 = .ok (.invokevirtual 96, 3) := by decide +kernel
theorem dX7_gaps_42 : decode cX7_gaps 42 = .ok (.if_icmp .ge 36, 3) := by decide +kernel
theorem dX7_gaps_45 : decode cX7_gaps 45 = .ok (.iload_n 2, 1) := by decide +kernel
theorem dX7_gaps_46 : decode cX7_gaps 46 = .ok (.iload_n 1, 1) := by decide +kernel
theorem dX7_gaps_47 : decode cX7_gaps 47 = .ok (.ifCond .lt 8, 3) := by decide +kernel
theorem dX7_gaps_50 : decode cX7_gaps 50 = .ok (.iload_n 3, 1) := by decide +kernel
theorem dX7_gaps_51 : decode cX7_gaps 51 = .ok (.iload_n 1, 1) := by decide +kernel
theorem dX7_gaps_52 : decode cX7_gaps 52 = .ok (.if_icmp .ne 17, 3) := by decide +kernel
theorem dX7_gaps_55 : decode cX7_gaps 55 = .ok (.aload_n 0, 1) := by decide +kernel
theorem dX7_gaps_56 : decode cX7_gaps 56 = .ok (.iload 4, 2) := by decide +kernel
theorem dX7_gaps_58 : decode cX7_gaps 58 = .ok (.iload_n 3, 1) := by decide +kernel
theorem dX7_gaps_59 : decode cX7_gaps 59 = .ok (.invokevirtual 99, 3) := by decide +kernel
theorem dX7_gaps_62 : decode cX7_gaps 62 = .ok (.ifCond .ge 7, 3) := by decide +kernel
theorem dX7_gaps_65 : decode cX7_gaps 65 = .ok (.iconst 1, 1) := by decide +kernel
theorem dX7_gaps_66 : decode cX7_gaps 66 = .ok (.goto 4, 3) := by decide +kernel
theorem dX7_gaps_69 : decode cX7_gaps 69 = .ok (.iconst 0, 1) := by decide +kernel
theorem dX7_gaps_70 : decode cX7_gaps 70 = .ok (.iadd, 1) := by decide +kernel
theorem dX7_gaps_71 : decode cX7_gaps 71 = .ok (.istore_n 2, 1) := by decide +kernel
theorem dX7_gaps_72 : decode cX7_gaps 72 = .ok (.iinc 4 1, 3) := by decide +kernel
theorem dX7_gaps_75 : decode cX7_gaps 75 = .ok (.goto (-40), 3) := by decide +kernel
theorem dX7_gaps_78 : decode cX7_gaps 78 = .ok (.iinc 3 1, 3) := by decide +kernel
theorem dX7_gaps_81 : decode cX7_gaps 81 = .ok (.goto (-57), 3) := by decide +kernel
theorem dX7_gaps_84 : decode cX7_gaps 84 = .ok (.iload_n 2, 1) := by decide +kernel
theorem dX7_gaps_85 : decode cX7_gaps 85 = .ok (.ireturn, 1) := by decide +kernel
set_option maxRecDepth 20000 in
theorem ggX7_where_X7_in : GoodIn wsX7_where wsX7_in := goodIn_r _ [9] (by decide +kernel) (by decide +kernel)
set_option maxRecDepth 20000 in
theorem gX7_where_X7_in : GoodIn wsX7_where (va_wsS RX7 73 yX7_in wsX7_in) := goodIn_app (goodIn_of _ (by decide +kernel)) ggX7_where_X7_in
set_option maxRecDepth 20000 in
theorem ggX7_where_X7_has : GoodIn wsX7_where wsX7_has := goodIn_r _ [12] (by decide +kernel) (by decide +kernel)
set_option maxRecDepth 20000 in
theorem gX7_where_X7_has : GoodIn wsX7_where (va_wsS RX7 108 yX7_has wsX7_has) := goodIn_app (goodIn_of _ (by decide +kernel)) ggX7_where_X7_has
set_option maxRecDepth 20000 in
theorem ggX7_where_X7_asNow : GoodIn wsX7_where wsX7_asNow := goodIn_r _ [16, 17, 2, 18, 19, 69, 70, 71, 72, 73, 74, 75, 76, 77, 78, 79, 80, 81, 82, 83, 84, 85, 86, 87, 88, 89, 90, 91, 92, 93, 94] (by decide +kernel) (by decide +kernel)
set_option maxRecDepth 20000 in
theorem gX7_where_X7_asNow : GoodIn wsX7_where (wsV RX7 124 RX7 yX7_asNow wsX7_asNow) := goodIn_app (goodIn_of _ (by decide +kernel)) ggX7_where_X7_asNow
set_option maxRecDepth 20000 in
theorem ggX7_where_X7_put : GoodIn wsX7_where wsX7_put := goodIn_r _ [23, 1, 24, 3, 17, 18, 10, 11, 8, 12, 25, 26, 27, 28, 29, 30, 31, 32, 33, 34, 35, 36, 37, 38, 39, 40, 41, 42, 43, 44, 45, 46, 47, 48, 49, 50, 51, 52, 53, 54, 55, 56, 57, 58, 59, 60, 61, 62, 63, 64, 69, 70, 71, 72, 73, 74, 75, 76, 77, 78, 79, 80, 81, 82, 83, 84, 85, 86, 87, 88, 89, 90, 91, 92, 93, 94] (by decide +kernel) (by decide +kernel)
set_option maxRecDepth 20000 in
theorem gX7_where_X7_put : GoodIn wsX7_where (wsV RX7 133 RX7 yX7_put wsX7_put) := goodIn_app (goodIn_of _ (by decide +kernel)) ggX7_where_X7_put
set_option maxRecDepth 20000 in
theorem ggX7_where_X7_layStrain : GoodIn wsX7_where wsX7_layStrain := goodIn_r _ [68, 4, 5, 60, 53, 49, 50, 51, 8, 52, 17, 54, 55, 18, 24, 41, 42, 43, 44, 45, 46, 47, 48, 33, 34, 35, 36, 25, 26, 27, 28, 69, 70, 71, 72, 73, 74, 75, 76, 77, 78, 79, 80, 81, 82, 83, 84, 85, 86, 87, 88, 89, 90, 91, 92, 93, 94] (by decide +kernel) (by decide +kernel)
set_option maxRecDepth 20000 in
theorem gX7_where_X7_layStrain : GoodIn wsX7_where (wsV RX7 159 RX7 yX7_layStrain wsX7_layStrain) := goodIn_app (goodIn_of _ (by decide +kernel)) ggX7_where_X7_layStrain
theorem dX7_where_0 : decode cX7_where 0 = .ok (.iload_n 1, 1) := by decide +kernel
theorem dX7_where_1 : decode cX7_where 1 = .ok (.iconst 0, 1) := by decide +kernel
theorem dX7_where_2 : decode cX7_where 2 = .ok (.bipush 9, 2) := by decide +kernel
theorem dX7_where_4 : decode cX7_where 4 = .ok (.invokestatic 73, 3) := by decide +kernel
theorem dX7_where_7 : decode cX7_where 7 = .ok (.ifCond .ne 5, 3) := by decide +kernel
theorem dX7_where_10 : decode cX7_where 10 = .ok (.iconst (-1), 1) := by decide +kernel
theorem dX7_where_11 : decode cX7_where 11 = .ok (.ireturn, 1) := by decide +kernel
theorem dX7_where_12 : decode cX7_where 12 = .ok (.aload_n 0, 1) := by decide +kernel
theorem dX7_where_13 : decode cX7_where 13 = .ok (.getfield 67, 3) := by decide +kernel
theorem dX7_where_16 : decode cX7_where 16 = .ok (.iload_n 1, 1) := by decide +kernel
theorem dX7_where_17 : decode cX7_where 17 = .ok (.invokestatic 108, 3) := by decide +kernel
theorem dX7_where_20 : decode cX7_where 20 = .ok (.ifCond .eq 12, 3) := by decide +kernel
theorem dX7_where_23 : decode cX7_where 23 = .ok (.aload_n 0, 1) := by decide +kernel
theorem dX7_where_24 : decode cX7_where 24 = .ok (.getfield 23, 3) := by decide +kernel
theorem dX7_where_27 : decode cX7_where 27 = .ok (.iload_n 1, 1) := by decide +kernel
theorem dX7_where_28 : decode cX7_where 28 = .ok (.iaload, 1) := by decide +kernel
theorem dX7_where_29 : decode cX7_where 29 = .ok (.ifCond .lt 6, 3) := by decide +kernel
theorem dX7_where_32 : decode cX7_where 32 = .ok (.bipush (-3), 2) := by decide +kernel
theorem dX7_where_34 : decode cX7_where 34 = .ok (.ireturn, 1) := by decide +kernel
theorem dX7_where_35 : decode cX7_where 35 = .ok (.bipush (-6), 2) := by decide +kernel
theorem dX7_where_37 : decode cX7_where 37 = .ok (.istore_n 2, 1) := by decide +kernel
theorem dX7_where_38 : decode cX7_where 38 = .ok (.lconst 0, 1) := by decide +kernel
theorem dX7_where_39 : decode cX7_where 39 = .ok (.lstore_n 3, 1) := by decide +kernel
theorem dX7_where_40 : decode cX7_where 40 = .ok (.lconst 1, 1) := by decide +kernel
theorem dX7_where_41 : decode cX7_where 41 = .ok (.lstore 5, 2) := by decide +kernel
theorem dX7_where_43 : decode cX7_where 43 = .ok (.iconst 0, 1) := by decide +kernel
theorem dX7_where_44 : decode cX7_where 44 = .ok (.istore 7, 2) := by decide +kernel
theorem dX7_where_46 : decode cX7_where 46 = .ok (.iload 7, 2) := by decide +kernel
theorem dX7_where_48 : decode cX7_where 48 = .ok (.aload_n 0, 1) := by decide +kernel
theorem dX7_where_49 : decode cX7_where 49 = .ok (.getfield 7, 3) := by decide +kernel
theorem dX7_where_52 : decode cX7_where 52 = .ok (.if_icmp .ge 62, 3) := by decide +kernel
theorem dX7_where_55 : decode cX7_where 55 = .ok (.aload_n 0, 1) := by decide +kernel
theorem dX7_where_56 : decode cX7_where 56 = .ok (.invokevirtual 124, 3) := by decide +kernel
theorem dX7_where_59 : decode cX7_where 59 = .ok (.aload_n 0, 1) := by decide +kernel
theorem dX7_where_60 : decode cX7_where 60 = .ok (.iload_n 1, 1) := by decide +kernel
theorem dX7_where_61 : decode cX7_where 61 = .ok (.iload 7, 2) := by decide +kernel
theorem dX7_where_63 : decode cX7_where 63 = .ok (.invokevirtual 133, 3) := by decide +kernel
theorem dX7_where_66 : decode cX7_where 66 = .ok (.ifCond .ne 42, 3) := by decide +kernel
theorem dX7_where_69 : decode cX7_where 69 = .ok (.aload_n 0, 1) := by decide +kernel
theorem dX7_where_70 : decode cX7_where 70 = .ok (.invokevirtual 159, 3) := by decide +kernel
theorem dX7_where_73 : decode cX7_where 73 = .ok (.iload_n 2, 1) := by decide +kernel
theorem dX7_where_74 : decode cX7_where 74 = .ok (.ifCond .lt 20, 3) := by decide +kernel
theorem dX7_where_77 : decode cX7_where 77 = .ok (.aload_n 0, 1) := by decide +kernel
theorem dX7_where_78 : decode cX7_where 78 = .ok (.getfield 152, 3) := by decide +kernel
theorem dX7_where_81 : decode cX7_where 81 = .ok (.lload 5, 2) := by decide +kernel
theorem dX7_where_83 : decode cX7_where 83 = .ok (.lmul, 1) := by decide +kernel
theorem dX7_where_84 : decode cX7_where 84 = .ok (.lload_n 3, 1) := by decide +kernel
theorem dX7_where_85 : decode cX7_where 85 = .ok (.aload_n 0, 1) := by decide +kernel
theorem dX7_where_86 : decode cX7_where 86 = .ok (.getfield 156, 3) := by decide +kernel
theorem dX7_where_89 : decode cX7_where 89 = .ok (.lmul, 1) := by decide +kernel
theorem dX7_where_90 : decode cX7_where 90 = .ok (.lcmp, 1) := by decide +kernel
theorem dX7_where_91 : decode cX7_where 91 = .ok (.ifCond .ge 17, 3) := by decide +kernel
theorem dX7_where_94 : decode cX7_where 94 = .ok (.iload 7, 2) := by decide +kernel
theorem dX7_where_96 : decode cX7_where 96 = .ok (.istore_n 2, 1) := by decide +kernel
theorem dX7_where_97 : decode cX7_where 97 = .ok (.aload_n 0, 1) := by decide +kernel
theorem dX7_where_98 : decode cX7_where 98 = .ok (.getfield 152, 3) := by decide +kernel
theorem dX7_where_101 : decode cX7_where 101 = .ok (.lstore_n 3, 1) := by decide +kernel
theorem dX7_where_102 : decode cX7_where 102 = .ok (.aload_n 0, 1) := by decide +kernel
theorem dX7_where_103 : decode cX7_where 103 = .ok (.getfield 156, 3) := by decide +kernel
theorem dX7_where_106 : decode cX7_where 106 = .ok (.lstore 5, 2) := by decide +kernel
theorem dX7_where_108 : decode cX7_where 108 = .ok (.iinc 7 1, 3) := by decide +kernel
theorem dX7_where_111 : decode cX7_where 111 = .ok (.goto (-65), 3) := by decide +kernel
theorem dX7_where_114 : decode cX7_where 114 = .ok (.iload_n 2, 1) := by decide +kernel
theorem dX7_where_115 : decode cX7_where 115 = .ok (.ireturn, 1) := by decide +kernel
set_option maxRecDepth 20000 in
theorem ggX7_gate_X7_in : GoodIn wsX7_gate wsX7_in := goodIn_r _ [8] (by decide +kernel) (by decide +kernel)
set_option maxRecDepth 20000 in
theorem gX7_gate_X7_in : GoodIn wsX7_gate (va_wsS RX7 73 yX7_in wsX7_in) := goodIn_app (goodIn_of _ (by decide +kernel)) ggX7_gate_X7_in
set_option maxRecDepth 20000 in
theorem ggX7_gate_X7_asNow : GoodIn wsX7_gate wsX7_asNow := goodIn_r _ [12, 4, 13, 14, 15, 63, 64, 65, 66, 67, 68, 69, 70, 71, 72, 73, 74, 75, 76, 77, 78, 79, 80, 81, 82, 83, 84, 85, 86, 87, 88] (by decide +kernel) (by decide +kernel)
set_option maxRecDepth 20000 in
theorem gX7_gate_X7_asNow : GoodIn wsX7_gate (wsV RX7 124 RX7 yX7_asNow wsX7_asNow) := goodIn_app (goodIn_of _ (by decide +kernel)) ggX7_gate_X7_asNow
set_option maxRecDepth 20000 in
theorem ggX7_gate_X7_has : GoodIn wsX7_gate wsX7_has := goodIn_r _ [18] (by decide +kernel) (by decide +kernel)
set_option maxRecDepth 20000 in
theorem gX7_gate_X7_has : GoodIn wsX7_gate (va_wsS RX7 108 yX7_has wsX7_has) := goodIn_app (goodIn_of _ (by decide +kernel)) ggX7_gate_X7_has
set_option maxRecDepth 20000 in
theorem ggX7_gate_X7_put : GoodIn wsX7_gate wsX7_put := goodIn_r _ [22, 2, 3, 1, 4, 14, 16, 17, 7, 18, 23, 24, 25, 26, 27, 28, 29, 30, 31, 32, 33, 34, 35, 36, 37, 38, 39, 40, 41, 42, 43, 44, 45, 46, 47, 48, 49, 50, 51, 52, 53, 54, 55, 56, 57, 58, 59, 60, 61, 62, 63, 64, 65, 66, 67, 68, 69, 70, 71, 72, 73, 74, 75, 76, 77, 78, 79, 80, 81, 82, 83, 84, 85, 86, 87, 88] (by decide +kernel) (by decide +kernel)
set_option maxRecDepth 20000 in
theorem gX7_gate_X7_put : GoodIn wsX7_gate (wsV RX7 133 RX7 yX7_put wsX7_put) := goodIn_app (goodIn_of _ (by decide +kernel)) ggX7_gate_X7_put
theorem dX7_gate_0 : decode cX7_gate 0 = .ok (.iload_n 1, 1) := by decide +kernel
theorem dX7_gate_1 : decode cX7_gate 1 = .ok (.iconst 0, 1) := by decide +kernel
theorem dX7_gate_2 : decode cX7_gate 2 = .ok (.aload_n 0, 1) := by decide +kernel
theorem dX7_gate_3 : decode cX7_gate 3 = .ok (.getfield 7, 3) := by decide +kernel
theorem dX7_gate_6 : decode cX7_gate 6 = .ok (.iconst 1, 1) := by decide +kernel
theorem dX7_gate_7 : decode cX7_gate 7 = .ok (.isub, 1) := by decide +kernel
theorem dX7_gate_8 : decode cX7_gate 8 = .ok (.invokestatic 73, 3) := by decide +kernel
theorem dX7_gate_11 : decode cX7_gate 11 = .ok (.ifCond .ne 5, 3) := by decide +kernel
theorem dX7_gate_14 : decode cX7_gate 14 = .ok (.iconst (-1), 1) := by decide +kernel
theorem dX7_gate_15 : decode cX7_gate 15 = .ok (.ireturn, 1) := by decide +kernel
theorem dX7_gate_16 : decode cX7_gate 16 = .ok (.iload_n 2, 1) := by decide +kernel
theorem dX7_gate_17 : decode cX7_gate 17 = .ok (.iconst 0, 1) := by decide +kernel
theorem dX7_gate_18 : decode cX7_gate 18 = .ok (.bipush 9, 2) := by decide +kernel
theorem dX7_gate_20 : decode cX7_gate 20 = .ok (.invokestatic 73, 3) := by decide +kernel
theorem dX7_gate_23 : decode cX7_gate 23 = .ok (.ifCond .eq 12, 3) := by decide +kernel
theorem dX7_gate_26 : decode cX7_gate 26 = .ok (.iload_n 3, 1) := by decide +kernel
theorem dX7_gate_27 : decode cX7_gate 27 = .ok (.iconst 1, 1) := by decide +kernel
theorem dX7_gate_28 : decode cX7_gate 28 = .ok (.iconst 3, 1) := by decide +kernel
theorem dX7_gate_29 : decode cX7_gate 29 = .ok (.invokestatic 73, 3) := by decide +kernel
theorem dX7_gate_32 : decode cX7_gate 32 = .ok (.ifCond .ne 6, 3) := by decide +kernel
theorem dX7_gate_35 : decode cX7_gate 35 = .ok (.bipush (-2), 2) := by decide +kernel
theorem dX7_gate_37 : decode cX7_gate 37 = .ok (.ireturn, 1) := by decide +kernel
theorem dX7_gate_38 : decode cX7_gate 38 = .ok (.iconst 0, 1) := by decide +kernel
theorem dX7_gate_39 : decode cX7_gate 39 = .ok (.istore 4, 2) := by decide +kernel
theorem dX7_gate_41 : decode cX7_gate 41 = .ok (.iconst 0, 1) := by decide +kernel
theorem dX7_gate_42 : decode cX7_gate 42 = .ok (.istore 5, 2) := by decide +kernel
theorem dX7_gate_44 : decode cX7_gate 44 = .ok (.iload 5, 2) := by decide +kernel
theorem dX7_gate_46 : decode cX7_gate 46 = .ok (.bipush 10, 2) := by decide +kernel
theorem dX7_gate_48 : decode cX7_gate 48 = .ok (.if_icmp .ge 82, 3) := by decide +kernel
theorem dX7_gate_51 : decode cX7_gate 51 = .ok (.aload_n 0, 1) := by decide +kernel
theorem dX7_gate_52 : decode cX7_gate 52 = .ok (.invokevirtual 124, 3) := by decide +kernel
theorem dX7_gate_55 : decode cX7_gate 55 = .ok (.aload_n 0, 1) := by decide +kernel
theorem dX7_gate_56 : decode cX7_gate 56 = .ok (.getfield 67, 3) := by decide +kernel
theorem dX7_gate_59 : decode cX7_gate 59 = .ok (.iload 5, 2) := by decide +kernel
theorem dX7_gate_61 : decode cX7_gate 61 = .ok (.invokestatic 108, 3) := by decide +kernel
theorem dX7_gate_64 : decode cX7_gate 64 = .ok (.ifCond .eq 39, 3) := by decide +kernel
theorem dX7_gate_67 : decode cX7_gate 67 = .ok (.aload_n 0, 1) := by decide +kernel
theorem dX7_gate_68 : decode cX7_gate 68 = .ok (.getfield 13, 3) := by decide +kernel
theorem dX7_gate_71 : decode cX7_gate 71 = .ok (.iload 5, 2) := by decide +kernel
theorem dX7_gate_73 : decode cX7_gate 73 = .ok (.iaload, 1) := by decide +kernel
theorem dX7_gate_74 : decode cX7_gate 74 = .ok (.iload_n 3, 1) := by decide +kernel
theorem dX7_gate_75 : decode cX7_gate 75 = .ok (.if_icmp .ne 28, 3) := by decide +kernel
theorem dX7_gate_78 : decode cX7_gate 78 = .ok (.aload_n 0, 1) := by decide +kernel
theorem dX7_gate_79 : decode cX7_gate 79 = .ok (.iload 5, 2) := by decide +kernel
theorem dX7_gate_81 : decode cX7_gate 81 = .ok (.iload_n 1, 1) := by decide +kernel
theorem dX7_gate_82 : decode cX7_gate 82 = .ok (.invokevirtual 133, 3) := by decide +kernel
theorem dX7_gate_85 : decode cX7_gate 85 = .ok (.ifCond .ne 18, 3) := by decide +kernel
theorem dX7_gate_88 : decode cX7_gate 88 = .ok (.aload_n 0, 1) := by decide +kernel
theorem dX7_gate_89 : decode cX7_gate 89 = .ok (.getfield 35, 3) := by decide +kernel
theorem dX7_gate_92 : decode cX7_gate 92 = .ok (.iload 5, 2) := by decide +kernel
theorem dX7_gate_94 : decode cX7_gate 94 = .ok (.iaload, 1) := by decide +kernel
theorem dX7_gate_95 : decode cX7_gate 95 = .ok (.iload_n 2, 1) := by decide +kernel
theorem dX7_gate_96 : decode cX7_gate 96 = .ok (.if_icmp .ne 7, 3) := by decide +kernel
theorem dX7_gate_99 : decode cX7_gate 99 = .ok (.iconst 1, 1) := by decide +kernel
theorem dX7_gate_100 : decode cX7_gate 100 = .ok (.goto 4, 3) := by decide +kernel
theorem dX7_gate_103 : decode cX7_gate 103 = .ok (.iconst 0, 1) := by decide +kernel
theorem dX7_gate_104 : decode cX7_gate 104 = .ok (.istore 6, 2) := by decide +kernel
theorem dX7_gate_106 : decode cX7_gate 106 = .ok (.iload 4, 2) := by decide +kernel
theorem dX7_gate_108 : decode cX7_gate 108 = .ok (.iload 6, 2) := by decide +kernel
theorem dX7_gate_110 : decode cX7_gate 110 = .ok (.ifCond .eq 10, 3) := by decide +kernel
theorem dX7_gate_113 : decode cX7_gate 113 = .ok (.iconst 1, 1) := by decide +kernel
theorem dX7_gate_114 : decode cX7_gate 114 = .ok (.iload 5, 2) := by decide +kernel
theorem dX7_gate_116 : decode cX7_gate 116 = .ok (.ishl, 1) := by decide +kernel
theorem dX7_gate_117 : decode cX7_gate 117 = .ok (.goto 4, 3) := by decide +kernel
theorem dX7_gate_120 : decode cX7_gate 120 = .ok (.iconst 0, 1) := by decide +kernel
theorem dX7_gate_121 : decode cX7_gate 121 = .ok (.ior, 1) := by decide +kernel
theorem dX7_gate_122 : decode cX7_gate 122 = .ok (.istore 4, 2) := by decide +kernel
theorem dX7_gate_124 : decode cX7_gate 124 = .ok (.iinc 5 1, 3) := by decide +kernel
theorem dX7_gate_127 : decode cX7_gate 127 = .ok (.goto (-83), 3) := by decide +kernel
theorem dX7_gate_130 : decode cX7_gate 130 = .ok (.iload 4, 2) := by decide +kernel
theorem dX7_gate_132 : decode cX7_gate 132 = .ok (.ireturn, 1) := by decide +kernel
set_option maxRecDepth 20000 in
theorem ggX7_arePuts_X7_faultOf : GoodIn wsX7_arePuts wsX7_faultOf := goodIn_r _ [7, 1, 2, 8, 9, 10, 6, 11, 15, 16, 17, 18, 19, 20, 21, 22, 23, 24, 25, 26, 27, 28, 29, 30, 31, 32, 33, 34, 35, 36, 37, 38, 39, 40] (by decide +kernel) (by decide +kernel)
set_option maxRecDepth 20000 in
theorem gX7_arePuts_X7_faultOf : GoodIn wsX7_arePuts (wsV RX7 84 RX7 yX7_faultOf wsX7_faultOf) := goodIn_app (goodIn_of _ (by decide +kernel)) ggX7_arePuts_X7_faultOf
set_option maxRecDepth 20000 in
theorem ggX7_arePuts_X7_has : GoodIn wsX7_arePuts wsX7_has := goodIn_r _ [14] (by decide +kernel) (by decide +kernel)
set_option maxRecDepth 20000 in
theorem gX7_arePuts_X7_has : GoodIn wsX7_arePuts (va_wsS RX7 108 yX7_has wsX7_has) := goodIn_app (goodIn_of _ (by decide +kernel)) ggX7_arePuts_X7_has
theorem dX7_arePuts_0 : decode cX7_arePuts 0 = .ok (.iconst 0, 1) := by decide +kernel
theorem dX7_arePuts_1 : decode cX7_arePuts 1 = .ok (.istore_n 1, 1) := by decide +kernel
theorem dX7_arePuts_2 : decode cX7_arePuts 2 = .ok (.aload_n 0, 1) := by decide +kernel
theorem dX7_arePuts_3 : decode cX7_arePuts 3 = .ok (.invokevirtual 84, 3) := by decide +kernel
theorem dX7_arePuts_6 : decode cX7_arePuts 6 = .ok (.ifCond .ge 7, 3) := by decide +kernel
theorem dX7_arePuts_9 : decode cX7_arePuts 9 = .ok (.iconst 1, 1) := by decide +kernel
theorem dX7_arePuts_10 : decode cX7_arePuts 10 = .ok (.goto 4, 3) := by decide +kernel
theorem dX7_arePuts_13 : decode cX7_arePuts 13 = .ok (.iconst 0, 1) := by decide +kernel
theorem dX7_arePuts_14 : decode cX7_arePuts 14 = .ok (.istore_n 2, 1) := by decide +kernel
theorem dX7_arePuts_15 : decode cX7_arePuts 15 = .ok (.iconst 0, 1) := by decide +kernel
theorem dX7_arePuts_16 : decode cX7_arePuts 16 = .ok (.istore_n 3, 1) := by decide +kernel
theorem dX7_arePuts_17 : decode cX7_arePuts 17 = .ok (.iload_n 3, 1) := by decide +kernel
theorem dX7_arePuts_18 : decode cX7_arePuts 18 = .ok (.aload_n 0, 1) := by decide +kernel
theorem dX7_arePuts_19 : decode cX7_arePuts 19 = .ok (.getfield 81, 3) := by decide +kernel
theorem dX7_arePuts_22 : decode cX7_arePuts 22 = .ok (.if_icmp .ge 62, 3) := by decide +kernel
theorem dX7_arePuts_25 : decode cX7_arePuts 25 = .ok (.iload_n 2, 1) := by decide +kernel
theorem dX7_arePuts_26 : decode cX7_arePuts 26 = .ok (.ifCond .eq 58, 3) := by decide +kernel
theorem dX7_arePuts_29 : decode cX7_arePuts 29 = .ok (.aload_n 0, 1) := by decide +kernel
theorem dX7_arePuts_30 : decode cX7_arePuts 30 = .ok (.getfield 32, 3) := by decide +kernel
theorem dX7_arePuts_33 : decode cX7_arePuts 33 = .ok (.iload_n 3, 1) := by decide +kernel
theorem dX7_arePuts_34 : decode cX7_arePuts 34 = .ok (.iconst 1, 1) := by decide +kernel
theorem dX7_arePuts_35 : decode cX7_arePuts 35 = .ok (.iadd, 1) := by decide +kernel
theorem dX7_arePuts_36 : decode cX7_arePuts 36 = .ok (.iaload, 1) := by decide +kernel
theorem dX7_arePuts_37 : decode cX7_arePuts 37 = .ok (.bipush 45, 2) := by decide +kernel
theorem dX7_arePuts_39 : decode cX7_arePuts 39 = .ok (.if_icmp .eq 23, 3) := by decide +kernel
theorem dX7_arePuts_42 : decode cX7_arePuts 42 = .ok (.iload_n 1, 1) := by decide +kernel
theorem dX7_arePuts_43 : decode cX7_arePuts 43 = .ok (.aload_n 0, 1) := by decide +kernel
theorem dX7_arePuts_44 : decode cX7_arePuts 44 = .ok (.getfield 32, 3) := by decide +kernel
theorem dX7_arePuts_47 : decode cX7_arePuts 47 = .ok (.iload_n 3, 1) := by decide +kernel
theorem dX7_arePuts_48 : decode cX7_arePuts 48 = .ok (.iaload, 1) := by decide +kernel
theorem dX7_arePuts_49 : decode cX7_arePuts 49 = .ok (.bipush 65, 2) := by decide +kernel
theorem dX7_arePuts_51 : decode cX7_arePuts 51 = .ok (.isub, 1) := by decide +kernel
theorem dX7_arePuts_52 : decode cX7_arePuts 52 = .ok (.invokestatic 108, 3) := by decide +kernel
theorem dX7_arePuts_55 : decode cX7_arePuts 55 = .ok (.ifCond .ne 7, 3) := by decide +kernel
theorem dX7_arePuts_58 : decode cX7_arePuts 58 = .ok (.iconst 1, 1) := by decide +kernel
theorem dX7_arePuts_59 : decode cX7_arePuts 59 = .ok (.goto 4, 3) := by decide +kernel
theorem dX7_arePuts_62 : decode cX7_arePuts 62 = .ok (.iconst 0, 1) := by decide +kernel
theorem dX7_arePuts_63 : decode cX7_arePuts 63 = .ok (.istore_n 2, 1) := by decide +kernel
theorem dX7_arePuts_64 : decode cX7_arePuts 64 = .ok (.iload_n 1, 1) := by decide +kernel
theorem dX7_arePuts_65 : decode cX7_arePuts 65 = .ok (.iconst 1, 1) := by decide +kernel
theorem dX7_arePuts_66 : decode cX7_arePuts 66 = .ok (.aload_n 0, 1) := by decide +kernel
theorem dX7_arePuts_67 : decode cX7_arePuts 67 = .ok (.getfield 32, 3) := by decide +kernel
theorem dX7_arePuts_70 : decode cX7_arePuts 70 = .ok (.iload_n 3, 1) := by decide +kernel
theorem dX7_arePuts_71 : decode cX7_arePuts 71 = .ok (.iaload, 1) := by decide +kernel
theorem dX7_arePuts_72 : decode cX7_arePuts 72 = .ok (.bipush 65, 2) := by decide +kernel
theorem dX7_arePuts_74 : decode cX7_arePuts 74 = .ok (.isub, 1) := by decide +kernel
theorem dX7_arePuts_75 : decode cX7_arePuts 75 = .ok (.ishl, 1) := by decide +kernel
theorem dX7_arePuts_76 : decode cX7_arePuts 76 = .ok (.ior, 1) := by decide +kernel
theorem dX7_arePuts_77 : decode cX7_arePuts 77 = .ok (.istore_n 1, 1) := by decide +kernel
theorem dX7_arePuts_78 : decode cX7_arePuts 78 = .ok (.iinc 3 2, 3) := by decide +kernel
theorem dX7_arePuts_81 : decode cX7_arePuts 81 = .ok (.goto (-64), 3) := by decide +kernel
theorem dX7_arePuts_84 : decode cX7_arePuts 84 = .ok (.iload_n 2, 1) := by decide +kernel
theorem dX7_arePuts_85 : decode cX7_arePuts 85 = .ok (.ireturn, 1) := by decide +kernel
theorem dX7_columnTold_0 : decode cX7_columnTold 0 = .ok (.iconst 0, 1) := by decide +kernel
theorem dX7_columnTold_1 : decode cX7_columnTold 1 = .ok (.istore_n 2, 1) := by decide +kernel
theorem dX7_columnTold_2 : decode cX7_columnTold 2 = .ok (.iconst 0, 1) := by decide +kernel
theorem dX7_columnTold_3 : decode cX7_columnTold 3 = .ok (.istore_n 3, 1) := by decide +kernel
theorem dX7_columnTold_4 : decode cX7_columnTold 4 = .ok (.iload_n 3, 1) := by decide +kernel
theorem dX7_columnTold_5 : decode cX7_columnTold 5 = .ok (.aload_n 0, 1) := by decide +kernel
theorem dX7_columnTold_6 : decode cX7_columnTold 6 = .ok (.getfield 81, 3) := by decide +kernel
theorem dX7_columnTold_9 : decode cX7_columnTold 9 = .ok (.if_icmp .ge 38, 3) := by decide +kernel
theorem dX7_columnTold_12 : decode cX7_columnTold 12 = .ok (.aload_n 0, 1) := by decide +kernel
theorem dX7_columnTold_13 : decode cX7_columnTold 13 = .ok (.getfield 32, 3) := by decide +kernel
theorem dX7_columnTold_16 : decode cX7_columnTold 16 = .ok (.iload_n 3, 1) := by decide +kernel
theorem dX7_columnTold_17 : decode cX7_columnTold 17 = .ok (.iaload, 1) := by decide +kernel
theorem dX7_columnTold_18 : decode cX7_columnTold 18 = .ok (.bipush 65, 2) := by decide +kernel
theorem dX7_columnTold_20 : decode cX7_columnTold 20 = .ok (.isub, 1) := by decide +kernel
theorem dX7_columnTold_21 : decode cX7_columnTold 21 = .ok (.iload_n 1, 1) := by decide +kernel
theorem dX7_columnTold_22 : decode cX7_columnTold 22 = .ok (.if_icmp .ne 17, 3) := by decide +kernel
theorem dX7_columnTold_25 : decode cX7_columnTold 25 = .ok (.aload_n 0, 1) := by decide +kernel
theorem dX7_columnTold_26 : decode cX7_columnTold 26 = .ok (.getfield 32, 3) := by decide +kernel
theorem dX7_columnTold_29 : decode cX7_columnTold 29 = .ok (.iload_n 3, 1) := by decide +kernel
theorem dX7_columnTold_30 : decode cX7_columnTold 30 = .ok (.iconst 1, 1) := by decide +kernel
theorem dX7_columnTold_31 : decode cX7_columnTold 31 = .ok (.iadd, 1) := by decide +kernel
theorem dX7_columnTold_32 : decode cX7_columnTold 32 = .ok (.iaload, 1) := by decide +kernel
theorem dX7_columnTold_33 : decode cX7_columnTold 33 = .ok (.bipush 48, 2) := by decide +kernel
theorem dX7_columnTold_35 : decode cX7_columnTold 35 = .ok (.isub, 1) := by decide +kernel
theorem dX7_columnTold_36 : decode cX7_columnTold 36 = .ok (.goto 4, 3) := by decide +kernel
theorem dX7_columnTold_39 : decode cX7_columnTold 39 = .ok (.iload_n 2, 1) := by decide +kernel
theorem dX7_columnTold_40 : decode cX7_columnTold 40 = .ok (.istore_n 2, 1) := by decide +kernel
theorem dX7_columnTold_41 : decode cX7_columnTold 41 = .ok (.iinc 3 2, 3) := by decide +kernel
theorem dX7_columnTold_44 : decode cX7_columnTold 44 = .ok (.goto (-40), 3) := by decide +kernel
theorem dX7_columnTold_47 : decode cX7_columnTold 47 = .ok (.iload_n 2, 1) := by decide +kernel
theorem dX7_columnTold_48 : decode cX7_columnTold 48 = .ok (.ireturn, 1) := by decide +kernel
set_option maxRecDepth 20000 in
theorem ggX7_orders_X7_arePuts : GoodIn wsX7_orders wsX7_arePuts := goodIn_r _ [9, 1, 2, 10, 11, 12, 8, 13, 14, 15, 16, 17, 18, 19, 20, 79, 80, 81, 82, 83, 84, 85, 86, 87, 88, 89, 90, 91, 92, 93, 94, 95, 96, 97, 98, 99, 100, 101, 102, 103, 104] (by decide +kernel) (by decide +kernel)
set_option maxRecDepth 20000 in
theorem gX7_orders_X7_arePuts : GoodIn wsX7_orders (wsV RX7 169 RX7 yX7_arePuts wsX7_arePuts) := goodIn_app (goodIn_of _ (by decide +kernel)) ggX7_orders_X7_arePuts
set_option maxRecDepth 20000 in
theorem ggX7_orders_X7_asNow : GoodIn wsX7_orders wsX7_asNow := goodIn_r _ [24, 25, 26, 27, 28, 79, 80, 81, 82, 83, 84, 85, 86, 87, 88, 89, 90, 91, 92, 93, 94, 95, 96, 97, 98, 99, 100, 101, 102, 103, 104] (by decide +kernel) (by decide +kernel)
set_option maxRecDepth 20000 in
theorem gX7_orders_X7_asNow : GoodIn wsX7_orders (wsV RX7 124 RX7 yX7_asNow wsX7_asNow) := goodIn_app (goodIn_of _ (by decide +kernel)) ggX7_orders_X7_asNow
set_option maxRecDepth 20000 in
theorem ggX7_orders_X7_columnTold : GoodIn wsX7_orders wsX7_columnTold := goodIn_r _ [32, 1, 2, 79, 80, 81, 82, 83, 84, 85, 86, 87, 88, 89, 90, 91, 92, 93, 94, 95, 96, 97, 98, 99, 100, 101, 102, 103, 104] (by decide +kernel) (by decide +kernel)
set_option maxRecDepth 20000 in
theorem gX7_orders_X7_columnTold : GoodIn wsX7_orders (wsV RX7 173 RX7 yX7_columnTold wsX7_columnTold) := goodIn_app (goodIn_of _ (by decide +kernel)) ggX7_orders_X7_columnTold
set_option maxRecDepth 20000 in
theorem ggX7_orders_X7_put : GoodIn wsX7_orders wsX7_put := goodIn_r _ [36, 37, 38, 14, 25, 27, 18, 19, 8, 20, 39, 40, 41, 42, 43, 44, 45, 46, 47, 48, 49, 50, 51, 52, 53, 54, 55, 56, 57, 58, 59, 60, 61, 62, 63, 64, 65, 66, 67, 68, 69, 70, 71, 72, 73, 74, 75, 76, 77, 78, 79, 80, 81, 82, 83, 84, 85, 86, 87, 88, 89, 90, 91, 92, 93, 94, 95, 96, 97, 98, 99, 100, 101, 102, 103, 104] (by decide +kernel) (by decide +kernel)
set_option maxRecDepth 20000 in
theorem gX7_orders_X7_put : GoodIn wsX7_orders (wsV RX7 133 RX7 yX7_put wsX7_put) := goodIn_app (goodIn_of _ (by decide +kernel)) ggX7_orders_X7_put
set_option maxRecDepth 20000 in
theorem ggX7_orders_X7_in : GoodIn wsX7_orders wsX7_in := goodIn_r _ [17] (by decide +kernel) (by decide +kernel)
set_option maxRecDepth 20000 in
theorem gX7_orders_X7_in : GoodIn wsX7_orders (va_wsS RX7 73 yX7_in wsX7_in) := goodIn_app (goodIn_of _ (by decide +kernel)) ggX7_orders_X7_in
theorem dX7_orders_0 : decode cX7_orders 0 = .ok (.aload_n 0, 1) := by decide +kernel
theorem dX7_orders_1 : decode cX7_orders 1 = .ok (.invokevirtual 169, 3) := by decide +kernel
theorem dX7_orders_4 : decode cX7_orders 4 = .ok (.ifCond .ne 6, 3) := by decide +kernel
theorem dX7_orders_7 : decode cX7_orders 7 = .ok (.bipush (-5), 2) := by decide +kernel
theorem dX7_orders_9 : decode cX7_orders 9 = .ok (.ireturn, 1) := by decide +kernel
theorem dX7_orders_10 : decode cX7_orders 10 = .ok (.aload_n 0, 1) := by decide +kernel
theorem dX7_orders_11 : decode cX7_orders 11 = .ok (.getfield 81, 3) := by decide +kernel
theorem dX7_orders_14 : decode cX7_orders 14 = .ok (.bipush 12, 2) := by decide +kernel
theorem dX7_orders_16 : decode cX7_orders 16 = .ok (.if_icmp .le 6, 3) := by decide +kernel
theorem dX7_orders_19 : decode cX7_orders 19 = .ok (.bipush (-4), 2) := by decide +kernel
theorem dX7_orders_21 : decode cX7_orders 21 = .ok (.ireturn, 1) := by decide +kernel
theorem dX7_orders_22 : decode cX7_orders 22 = .ok (.aload_n 0, 1) := by decide +kernel
theorem dX7_orders_23 : decode cX7_orders 23 = .ok (.getfield 81, 3) := by decide +kernel
theorem dX7_orders_26 : decode cX7_orders 26 = .ok (.iconst 2, 1) := by decide +kernel
theorem dX7_orders_27 : decode cX7_orders 27 = .ok (.idiv, 1) := by decide +kernel
theorem dX7_orders_28 : decode cX7_orders 28 = .ok (.istore_n 2, 1) := by decide +kernel
theorem dX7_orders_29 : decode cX7_orders 29 = .ok (.iconst 1, 1) := by decide +kernel
theorem dX7_orders_30 : decode cX7_orders 30 = .ok (.istore_n 3, 1) := by decide +kernel
theorem dX7_orders_31 : decode cX7_orders 31 = .ok (.iconst 0, 1) := by decide +kernel
theorem dX7_orders_32 : decode cX7_orders 32 = .ok (.istore 4, 2) := by decide +kernel
theorem dX7_orders_34 : decode cX7_orders 34 = .ok (.iload 4, 2) := by decide +kernel
theorem dX7_orders_36 : decode cX7_orders 36 = .ok (.iload_n 2, 1) := by decide +kernel
theorem dX7_orders_37 : decode cX7_orders 37 = .ok (.if_icmp .ge 14, 3) := by decide +kernel
theorem dX7_orders_40 : decode cX7_orders 40 = .ok (.iload_n 3, 1) := by decide +kernel
theorem dX7_orders_41 : decode cX7_orders 41 = .ok (.bipush 10, 2) := by decide +kernel
theorem dX7_orders_43 : decode cX7_orders 43 = .ok (.imul, 1) := by decide +kernel
theorem dX7_orders_44 : decode cX7_orders 44 = .ok (.istore_n 3, 1) := by decide +kernel
theorem dX7_orders_45 : decode cX7_orders 45 = .ok (.iinc 4 1, 3) := by decide +kernel
theorem dX7_orders_48 : decode cX7_orders 48 = .ok (.goto (-14), 3) := by decide +kernel
theorem dX7_orders_51 : decode cX7_orders 51 = .ok (.iconst 0, 1) := by decide +kernel
theorem dX7_orders_52 : decode cX7_orders 52 = .ok (.istore 4, 2) := by decide +kernel
theorem dX7_orders_54 : decode cX7_orders 54 = .ok (.iconst 0, 1) := by decide +kernel
theorem dX7_orders_55 : decode cX7_orders 55 = .ok (.istore 5, 2) := by decide +kernel
theorem dX7_orders_57 : decode cX7_orders 57 = .ok (.iconst 0, 1) := by decide +kernel
theorem dX7_orders_58 : decode cX7_orders 58 = .ok (.istore 6, 2) := by decide +kernel
theorem dX7_orders_60 : decode cX7_orders 60 = .ok (.iload 6, 2) := by decide +kernel
theorem dX7_orders_62 : decode cX7_orders 62 = .ok (.iload_n 2, 1) := by decide +kernel
theorem dX7_orders_63 : decode cX7_orders 63 = .ok (.if_icmp .ge 28, 3) := by decide +kernel
theorem dX7_orders_66 : decode cX7_orders 66 = .ok (.iload 5, 2) := by decide +kernel
theorem dX7_orders_68 : decode cX7_orders 68 = .ok (.iconst 1, 1) := by decide +kernel
theorem dX7_orders_69 : decode cX7_orders 69 = .ok (.aload_n 0, 1) := by decide +kernel
theorem dX7_orders_70 : decode cX7_orders 70 = .ok (.getfield 32, 3) := by decide +kernel
theorem dX7_orders_73 : decode cX7_orders 73 = .ok (.iconst 2, 1) := by decide +kernel
theorem dX7_orders_74 : decode cX7_orders 74 = .ok (.iload 6, 2) := by decide +kernel
theorem dX7_orders_76 : decode cX7_orders 76 = .ok (.imul, 1) := by decide +kernel
theorem dX7_orders_77 : decode cX7_orders 77 = .ok (.iaload, 1) := by decide +kernel
theorem dX7_orders_78 : decode cX7_orders 78 = .ok (.bipush 65, 2) := by decide +kernel
theorem dX7_orders_80 : decode cX7_orders 80 = .ok (.isub, 1) := by decide +kernel
theorem dX7_orders_81 : decode cX7_orders 81 = .ok (.ishl, 1) := by decide +kernel
theorem dX7_orders_82 : decode cX7_orders 82 = .ok (.ior, 1) := by decide +kernel
theorem dX7_orders_83 : decode cX7_orders 83 = .ok (.istore 5, 2) := by decide +kernel
theorem dX7_orders_85 : decode cX7_orders 85 = .ok (.iinc 6 1, 3) := by decide +kernel
theorem dX7_orders_88 : decode cX7_orders 88 = .ok (.goto (-28), 3) := by decide +kernel
theorem dX7_orders_91 : decode cX7_orders 91 = .ok (.iconst 0, 1) := by decide +kernel
theorem dX7_orders_92 : decode cX7_orders 92 = .ok (.istore 6, 2) := by decide +kernel
theorem dX7_orders_94 : decode cX7_orders 94 = .ok (.iload 6, 2) := by decide +kernel
theorem dX7_orders_96 : decode cX7_orders 96 = .ok (.iload_n 3, 1) := by decide +kernel
theorem dX7_orders_97 : decode cX7_orders 97 = .ok (.if_icmp .ge 183, 3) := by decide +kernel
theorem dX7_orders_100 : decode cX7_orders 100 = .ok (.iload_n 3, 1) := by decide +kernel
theorem dX7_orders_101 : decode cX7_orders 101 = .ok (.istore 7, 2) := by decide +kernel
theorem dX7_orders_103 : decode cX7_orders 103 = .ok (.iconst 0, 1) := by decide +kernel
theorem dX7_orders_104 : decode cX7_orders 104 = .ok (.istore 8, 2) := by decide +kernel
theorem dX7_orders_106 : decode cX7_orders 106 = .ok (.iconst 0, 1) := by decide +kernel
theorem dX7_orders_107 : decode cX7_orders 107 = .ok (.istore 9, 2) := by decide +kernel
theorem dX7_orders_109 : decode cX7_orders 109 = .ok (.iload 9, 2) := by decide +kernel
theorem dX7_orders_111 : decode cX7_orders 111 = .ok (.iload_n 2, 1) := by decide +kernel
theorem dX7_orders_112 : decode cX7_orders 112 = .ok (.if_icmp .ge 45, 3) := by decide +kernel
theorem dX7_orders_115 : decode cX7_orders 115 = .ok (.iload 7, 2) := by decide +kernel
theorem dX7_orders_117 : decode cX7_orders 117 = .ok (.bipush 10, 2) := by decide +kernel
theorem dX7_orders_119 : decode cX7_orders 119 = .ok (.idiv, 1) := by decide +kernel
theorem dX7_orders_120 : decode cX7_orders 120 = .ok (.istore 7, 2) := by decide +kernel
theorem dX7_orders_122 : decode cX7_orders 122 = .ok (.aload_n 0, 1) := by decide +kernel
theorem dX7_orders_123 : decode cX7_orders 123 = .ok (.getfield 45, 3) := by decide +kernel
theorem dX7_orders_126 : decode cX7_orders 126 = .ok (.iload 9, 2) := by decide +kernel
theorem dX7_orders_128 : decode cX7_orders 128 = .ok (.iload 6, 2) := by decide +kernel
theorem dX7_orders_130 : decode cX7_orders 130 = .ok (.iload 7, 2) := by decide +kernel
theorem dX7_orders_132 : decode cX7_orders 132 = .ok (.idiv, 1) := by decide +kernel
theorem dX7_orders_133 : decode cX7_orders 133 = .ok (.bipush 10, 2) := by decide +kernel
theorem dX7_orders_135 : decode cX7_orders 135 = .ok (.irem, 1) := by decide +kernel
theorem dX7_orders_136 : decode cX7_orders 136 = .ok (.iastore, 1) := by decide +kernel
theorem dX7_orders_137 : decode cX7_orders 137 = .ok (.iload 8, 2) := by decide +kernel
theorem dX7_orders_139 : decode cX7_orders 139 = .ok (.iconst 1, 1) := by decide +kernel
theorem dX7_orders_140 : decode cX7_orders 140 = .ok (.aload_n 0, 1) := by decide +kernel
theorem dX7_orders_141 : decode cX7_orders 141 = .ok (.getfield 45, 3) := by decide +kernel
theorem dX7_orders_144 : decode cX7_orders 144 = .ok (.iload 9, 2) := by decide +kernel
theorem dX7_orders_146 : decode cX7_orders 146 = .ok (.iaload, 1) := by decide +kernel
theorem dX7_orders_147 : decode cX7_orders 147 = .ok (.ishl, 1) := by decide +kernel
theorem dX7_orders_148 : decode cX7_orders 148 = .ok (.ior, 1) := by decide +kernel
theorem dX7_orders_149 : decode cX7_orders 149 = .ok (.istore 8, 2) := by decide +kernel
theorem dX7_orders_151 : decode cX7_orders 151 = .ok (.iinc 9 1, 3) := by decide +kernel
theorem dX7_orders_154 : decode cX7_orders 154 = .ok (.goto (-45), 3) := by decide +kernel
theorem dX7_orders_157 : decode cX7_orders 157 = .ok (.iload 8, 2) := by decide +kernel
theorem dX7_orders_159 : decode cX7_orders 159 = .ok (.iload 5, 2) := by decide +kernel
theorem dX7_orders_161 : decode cX7_orders 161 = .ok (.if_icmp .ne 7, 3) := by decide +kernel
theorem dX7_orders_164 : decode cX7_orders 164 = .ok (.iconst 1, 1) := by decide +kernel
theorem dX7_orders_165 : decode cX7_orders 165 = .ok (.goto 4, 3) := by decide +kernel
theorem dX7_orders_168 : decode cX7_orders 168 = .ok (.iconst 0, 1) := by decide +kernel
theorem dX7_orders_169 : decode cX7_orders 169 = .ok (.istore 9, 2) := by decide +kernel
theorem dX7_orders_171 : decode cX7_orders 171 = .ok (.iload 9, 2) := by decide +kernel
theorem dX7_orders_173 : decode cX7_orders 173 = .ok (.ifCond .eq 7, 3) := by decide +kernel
theorem dX7_orders_176 : decode cX7_orders 176 = .ok (.aload_n 0, 1) := by decide +kernel
theorem dX7_orders_177 : decode cX7_orders 177 = .ok (.invokevirtual 124, 3) := by decide +kernel
theorem dX7_orders_180 : decode cX7_orders 180 = .ok (.iconst 0, 1) := by decide +kernel
theorem dX7_orders_181 : decode cX7_orders 181 = .ok (.istore 10, 2) := by decide +kernel
theorem dX7_orders_183 : decode cX7_orders 183 = .ok (.iload 10, 2) := by decide +kernel
theorem dX7_orders_185 : decode cX7_orders 185 = .ok (.iload_n 2, 1) := by decide +kernel
theorem dX7_orders_186 : decode cX7_orders 186 = .ok (.if_icmp .ge 46, 3) := by decide +kernel
theorem dX7_orders_189 : decode cX7_orders 189 = .ok (.iload 9, 2) := by decide +kernel
theorem dX7_orders_191 : decode cX7_orders 191 = .ok (.ifCond .eq 41, 3) := by decide +kernel
theorem dX7_orders_194 : decode cX7_orders 194 = .ok (.aload_n 0, 1) := by decide +kernel
theorem dX7_orders_195 : decode cX7_orders 195 = .ok (.aload_n 0, 1) := by decide +kernel
theorem dX7_orders_196 : decode cX7_orders 196 = .ok (.getfield 45, 3) := by decide +kernel
theorem dX7_orders_199 : decode cX7_orders 199 = .ok (.iload 10, 2) := by decide +kernel
theorem dX7_orders_201 : decode cX7_orders 201 = .ok (.iaload, 1) := by decide +kernel
theorem dX7_orders_202 : decode cX7_orders 202 = .ok (.aload_n 0, 1) := by decide +kernel
theorem dX7_orders_203 : decode cX7_orders 203 = .ok (.aload_n 0, 1) := by decide +kernel
theorem dX7_orders_204 : decode cX7_orders 204 = .ok (.getfield 45, 3) := by decide +kernel
theorem dX7_orders_207 : decode cX7_orders 207 = .ok (.iload 10, 2) := by decide +kernel
theorem dX7_orders_209 : decode cX7_orders 209 = .ok (.iaload, 1) := by decide +kernel
theorem dX7_orders_210 : decode cX7_orders 210 = .ok (.invokevirtual 173, 3) := by decide +kernel
theorem dX7_orders_213 : decode cX7_orders 213 = .ok (.invokevirtual 133, 3) := by decide +kernel
theorem dX7_orders_216 : decode cX7_orders 216 = .ok (.ifCond .ne 7, 3) := by decide +kernel
theorem dX7_orders_219 : decode cX7_orders 219 = .ok (.iconst 1, 1) := by decide +kernel
theorem dX7_orders_220 : decode cX7_orders 220 = .ok (.goto 4, 3) := by decide +kernel
theorem dX7_orders_223 : decode cX7_orders 223 = .ok (.iconst 0, 1) := by decide +kernel
theorem dX7_orders_224 : decode cX7_orders 224 = .ok (.istore 9, 2) := by decide +kernel
theorem dX7_orders_226 : decode cX7_orders 226 = .ok (.iinc 10 1, 3) := by decide +kernel
theorem dX7_orders_229 : decode cX7_orders 229 = .ok (.goto (-46), 3) := by decide +kernel
theorem dX7_orders_232 : decode cX7_orders 232 = .ok (.iload 9, 2) := by decide +kernel
theorem dX7_orders_234 : decode cX7_orders 234 = .ok (.ifCond .eq 40, 3) := by decide +kernel
theorem dX7_orders_237 : decode cX7_orders 237 = .ok (.iconst 0, 1) := by decide +kernel
theorem dX7_orders_238 : decode cX7_orders 238 = .ok (.istore 10, 2) := by decide +kernel
theorem dX7_orders_240 : decode cX7_orders 240 = .ok (.iload 10, 2) := by decide +kernel
theorem dX7_orders_242 : decode cX7_orders 242 = .ok (.iload_n 2, 1) := by decide +kernel
theorem dX7_orders_243 : decode cX7_orders 243 = .ok (.if_icmp .ge 28, 3) := by decide +kernel
theorem dX7_orders_246 : decode cX7_orders 246 = .ok (.iload 4, 2) := by decide +kernel
theorem dX7_orders_248 : decode cX7_orders 248 = .ok (.ifCond .ne 23, 3) := by decide +kernel
theorem dX7_orders_251 : decode cX7_orders 251 = .ok (.aload_n 0, 1) := by decide +kernel
theorem dX7_orders_252 : decode cX7_orders 252 = .ok (.getfield 48, 3) := by decide +kernel
theorem dX7_orders_255 : decode cX7_orders 255 = .ok (.iload 10, 2) := by decide +kernel
theorem dX7_orders_257 : decode cX7_orders 257 = .ok (.aload_n 0, 1) := by decide +kernel
theorem dX7_orders_258 : decode cX7_orders 258 = .ok (.getfield 45, 3) := by decide +kernel
theorem dX7_orders_261 : decode cX7_orders 261 = .ok (.iload 10, 2) := by decide +kernel
theorem dX7_orders_263 : decode cX7_orders 263 = .ok (.iaload, 1) := by decide +kernel
theorem dX7_orders_264 : decode cX7_orders 264 = .ok (.iastore, 1) := by decide +kernel
theorem dX7_orders_265 : decode cX7_orders 265 = .ok (.iinc 10 1, 3) := by decide +kernel
theorem dX7_orders_268 : decode cX7_orders 268 = .ok (.goto (-28), 3) := by decide +kernel
theorem dX7_orders_271 : decode cX7_orders 271 = .ok (.iinc 4 1, 3) := by decide +kernel
theorem dX7_orders_274 : decode cX7_orders 274 = .ok (.iinc 6 1, 3) := by decide +kernel
theorem dX7_orders_277 : decode cX7_orders 277 = .ok (.goto (-183), 3) := by decide +kernel
theorem dX7_orders_280 : decode cX7_orders 280 = .ok (.iload_n 1, 1) := by decide +kernel
theorem dX7_orders_281 : decode cX7_orders 281 = .ok (.iconst (-1), 1) := by decide +kernel
theorem dX7_orders_282 : decode cX7_orders 282 = .ok (.if_icmp .ne 6, 3) := by decide +kernel
theorem dX7_orders_285 : decode cX7_orders 285 = .ok (.iload 4, 2) := by decide +kernel
theorem dX7_orders_287 : decode cX7_orders 287 = .ok (.ireturn, 1) := by decide +kernel
theorem dX7_orders_288 : decode cX7_orders 288 = .ok (.iload 4, 2) := by decide +kernel
theorem dX7_orders_290 : decode cX7_orders 290 = .ok (.ifCond .le 23, 3) := by decide +kernel
theorem dX7_orders_293 : decode cX7_orders 293 = .ok (.iload_n 1, 1) := by decide +kernel
theorem dX7_orders_294 : decode cX7_orders 294 = .ok (.iconst 0, 1) := by decide +kernel
theorem dX7_orders_295 : decode cX7_orders 295 = .ok (.iload_n 2, 1) := by decide +kernel
theorem dX7_orders_296 : decode cX7_orders 296 = .ok (.iconst 1, 1) := by decide +kernel
theorem dX7_orders_297 : decode cX7_orders 297 = .ok (.isub, 1) := by decide +kernel
theorem dX7_orders_298 : decode cX7_orders 298 = .ok (.invokestatic 73, 3) := by decide +kernel
theorem dX7_orders_301 : decode cX7_orders 301 = .ok (.ifCond .eq 12, 3) := by decide +kernel
theorem dX7_orders_304 : decode cX7_orders 304 = .ok (.aload_n 0, 1) := by decide +kernel
theorem dX7_orders_305 : decode cX7_orders 305 = .ok (.getfield 48, 3) := by decide +kernel
theorem dX7_orders_308 : decode cX7_orders 308 = .ok (.iload_n 1, 1) := by decide +kernel
theorem dX7_orders_309 : decode cX7_orders 309 = .ok (.iaload, 1) := by decide +kernel
theorem dX7_orders_310 : decode cX7_orders 310 = .ok (.goto 5, 3) := by decide +kernel
theorem dX7_orders_313 : decode cX7_orders 313 = .ok (.bipush (-6), 2) := by decide +kernel
theorem dX7_orders_315 : decode cX7_orders 315 = .ok (.ireturn, 1) := by decide +kernel
set_option maxRecDepth 20000 in
theorem ggX7_outside_X7_has : GoodIn wsX7_outside wsX7_has := goodIn_r _ [6] (by decide +kernel) (by decide +kernel)
set_option maxRecDepth 20000 in
theorem gX7_outside_X7_has : GoodIn wsX7_outside (va_wsS RX7 108 yX7_has wsX7_has) := goodIn_app (goodIn_of _ (by decide +kernel)) ggX7_outside_X7_has
theorem dX7_outside_0 : decode cX7_outside 0 = .ok (.iconst 0, 1) := by decide +kernel
theorem dX7_outside_1 : decode cX7_outside 1 = .ok (.istore_n 1, 1) := by decide +kernel
theorem dX7_outside_2 : decode cX7_outside 2 = .ok (.iconst 0, 1) := by decide +kernel
theorem dX7_outside_3 : decode cX7_outside 3 = .ok (.istore_n 2, 1) := by decide +kernel
theorem dX7_outside_4 : decode cX7_outside 4 = .ok (.iload_n 2, 1) := by decide +kernel
theorem dX7_outside_5 : decode cX7_outside 5 = .ok (.bipush 10, 2) := by decide +kernel
theorem dX7_outside_7 : decode cX7_outside 7 = .ok (.if_icmp .ge 39, 3) := by decide +kernel
theorem dX7_outside_10 : decode cX7_outside 10 = .ok (.iload_n 1, 1) := by decide +kernel
theorem dX7_outside_11 : decode cX7_outside 11 = .ok (.aload_n 0, 1) := by decide +kernel
theorem dX7_outside_12 : decode cX7_outside 12 = .ok (.getfield 67, 3) := by decide +kernel
theorem dX7_outside_15 : decode cX7_outside 15 = .ok (.iload_n 2, 1) := by decide +kernel
theorem dX7_outside_16 : decode cX7_outside 16 = .ok (.invokestatic 108, 3) := by decide +kernel
theorem dX7_outside_19 : decode cX7_outside 19 = .ok (.ifCond .eq 18, 3) := by decide +kernel
theorem dX7_outside_22 : decode cX7_outside 22 = .ok (.aload_n 0, 1) := by decide +kernel
theorem dX7_outside_23 : decode cX7_outside 23 = .ok (.getfield 23, 3) := by decide +kernel
theorem dX7_outside_26 : decode cX7_outside 26 = .ok (.iload_n 2, 1) := by decide +kernel
theorem dX7_outside_27 : decode cX7_outside 27 = .ok (.iaload, 1) := by decide +kernel
theorem dX7_outside_28 : decode cX7_outside 28 = .ok (.ifCond .ge 9, 3) := by decide +kernel
theorem dX7_outside_31 : decode cX7_outside 31 = .ok (.iconst 1, 1) := by decide +kernel
theorem dX7_outside_32 : decode cX7_outside 32 = .ok (.iload_n 2, 1) := by decide +kernel
theorem dX7_outside_33 : decode cX7_outside 33 = .ok (.ishl, 1) := by decide +kernel
theorem dX7_outside_34 : decode cX7_outside 34 = .ok (.goto 4, 3) := by decide +kernel
theorem dX7_outside_37 : decode cX7_outside 37 = .ok (.iconst 0, 1) := by decide +kernel
theorem dX7_outside_38 : decode cX7_outside 38 = .ok (.ior, 1) := by decide +kernel
theorem dX7_outside_39 : decode cX7_outside 39 = .ok (.istore_n 1, 1) := by decide +kernel
theorem dX7_outside_40 : decode cX7_outside 40 = .ok (.iinc 2 1, 3) := by decide +kernel
theorem dX7_outside_43 : decode cX7_outside 43 = .ok (.goto (-39), 3) := by decide +kernel
theorem dX7_outside_46 : decode cX7_outside 46 = .ok (.iload_n 1, 1) := by decide +kernel
theorem dX7_outside_47 : decode cX7_outside 47 = .ok (.ireturn, 1) := by decide +kernel
set_option maxRecDepth 20000 in
theorem ggX7_putsBy_X7_has : GoodIn wsX7_putsBy wsX7_has := goodIn_r _ [8] (by decide +kernel) (by decide +kernel)
set_option maxRecDepth 20000 in
theorem gX7_putsBy_X7_has : GoodIn wsX7_putsBy (va_wsS RX7 108 yX7_has wsX7_has) := goodIn_app (goodIn_of _ (by decide +kernel)) ggX7_putsBy_X7_has
set_option maxRecDepth 20000 in
theorem ggX7_putsBy_X7_asNow : GoodIn wsX7_putsBy wsX7_asNow := goodIn_r _ [12, 13, 3, 14, 15, 61, 62, 63, 64, 65, 66, 67, 68, 69, 70, 71, 72, 73, 74, 75, 76, 77, 78, 79, 80, 81, 82, 83, 84, 85, 86] (by decide +kernel) (by decide +kernel)
set_option maxRecDepth 20000 in
theorem gX7_putsBy_X7_asNow : GoodIn wsX7_putsBy (wsV RX7 124 RX7 yX7_asNow wsX7_asNow) := goodIn_app (goodIn_of _ (by decide +kernel)) ggX7_putsBy_X7_asNow
set_option maxRecDepth 20000 in
theorem ggX7_putsBy_X7_put : GoodIn wsX7_putsBy wsX7_put := goodIn_r _ [19, 2, 20, 4, 13, 14, 5, 6, 7, 8, 21, 22, 23, 24, 25, 26, 27, 28, 29, 30, 31, 32, 33, 34, 35, 36, 37, 38, 39, 40, 41, 42, 43, 44, 45, 46, 47, 48, 49, 50, 51, 52, 53, 54, 55, 56, 57, 58, 59, 60, 61, 62, 63, 64, 65, 66, 67, 68, 69, 70, 71, 72, 73, 74, 75, 76, 77, 78, 79, 80, 81, 82, 83, 84, 85, 86] (by decide +kernel) (by decide +kernel)
set_option maxRecDepth 20000 in
theorem gX7_putsBy_X7_put : GoodIn wsX7_putsBy (wsV RX7 133 RX7 yX7_put wsX7_put) := goodIn_app (goodIn_of _ (by decide +kernel)) ggX7_putsBy_X7_put
theorem dX7_putsBy_0 : decode cX7_putsBy 0 = .ok (.iload_n 1, 1) := by decide +kernel
theorem dX7_putsBy_1 : decode cX7_putsBy 1 = .ok (.istore_n 3, 1) := by decide +kernel
theorem dX7_putsBy_2 : decode cX7_putsBy 2 = .ok (.iconst 0, 1) := by decide +kernel
theorem dX7_putsBy_3 : decode cX7_putsBy 3 = .ok (.istore 4, 2) := by decide +kernel
theorem dX7_putsBy_5 : decode cX7_putsBy 5 = .ok (.iconst 1, 1) := by decide +kernel
theorem dX7_putsBy_6 : decode cX7_putsBy 6 = .ok (.istore 5, 2) := by decide +kernel
theorem dX7_putsBy_8 : decode cX7_putsBy 8 = .ok (.iconst 0, 1) := by decide +kernel
theorem dX7_putsBy_9 : decode cX7_putsBy 9 = .ok (.istore 6, 2) := by decide +kernel
theorem dX7_putsBy_11 : decode cX7_putsBy 11 = .ok (.iload 6, 2) := by decide +kernel
theorem dX7_putsBy_13 : decode cX7_putsBy 13 = .ok (.iload_n 2, 1) := by decide +kernel
theorem dX7_putsBy_14 : decode cX7_putsBy 14 = .ok (.if_icmp .ge 112, 3) := by decide +kernel
theorem dX7_putsBy_17 : decode cX7_putsBy 17 = .ok (.iload 5, 2) := by decide +kernel
theorem dX7_putsBy_19 : decode cX7_putsBy 19 = .ok (.ifCond .eq 107, 3) := by decide +kernel
theorem dX7_putsBy_22 : decode cX7_putsBy 22 = .ok (.aload_n 0, 1) := by decide +kernel
theorem dX7_putsBy_23 : decode cX7_putsBy 23 = .ok (.getfield 51, 3) := by decide +kernel
theorem dX7_putsBy_26 : decode cX7_putsBy 26 = .ok (.iload 6, 2) := by decide +kernel
theorem dX7_putsBy_28 : decode cX7_putsBy 28 = .ok (.iload_n 3, 1) := by decide +kernel
theorem dX7_putsBy_29 : decode cX7_putsBy 29 = .ok (.bipush 10, 2) := by decide +kernel
theorem dX7_putsBy_31 : decode cX7_putsBy 31 = .ok (.irem, 1) := by decide +kernel
theorem dX7_putsBy_32 : decode cX7_putsBy 32 = .ok (.iastore, 1) := by decide +kernel
theorem dX7_putsBy_33 : decode cX7_putsBy 33 = .ok (.aload_n 0, 1) := by decide +kernel
theorem dX7_putsBy_34 : decode cX7_putsBy 34 = .ok (.getfield 67, 3) := by decide +kernel
theorem dX7_putsBy_37 : decode cX7_putsBy 37 = .ok (.aload_n 0, 1) := by decide +kernel
theorem dX7_putsBy_38 : decode cX7_putsBy 38 = .ok (.getfield 51, 3) := by decide +kernel
theorem dX7_putsBy_41 : decode cX7_putsBy 41 = .ok (.iload 6, 2) := by decide +kernel
theorem dX7_putsBy_43 : decode cX7_putsBy 43 = .ok (.iaload, 1) := by decide +kernel
theorem dX7_putsBy_44 : decode cX7_putsBy 44 = .ok (.invokestatic 108, 3) := by decide +kernel
theorem dX7_putsBy_47 : decode cX7_putsBy 47 = .ok (.ifCond .eq 51, 3) := by decide +kernel
theorem dX7_putsBy_50 : decode cX7_putsBy 50 = .ok (.aload_n 0, 1) := by decide +kernel
theorem dX7_putsBy_51 : decode cX7_putsBy 51 = .ok (.getfield 23, 3) := by decide +kernel
theorem dX7_putsBy_54 : decode cX7_putsBy 54 = .ok (.aload_n 0, 1) := by decide +kernel
theorem dX7_putsBy_55 : decode cX7_putsBy 55 = .ok (.getfield 51, 3) := by decide +kernel
theorem dX7_putsBy_58 : decode cX7_putsBy 58 = .ok (.iload 6, 2) := by decide +kernel
theorem dX7_putsBy_60 : decode cX7_putsBy 60 = .ok (.iaload, 1) := by decide +kernel
theorem dX7_putsBy_61 : decode cX7_putsBy 61 = .ok (.iaload, 1) := by decide +kernel
theorem dX7_putsBy_62 : decode cX7_putsBy 62 = .ok (.ifCond .ge 36, 3) := by decide +kernel
theorem dX7_putsBy_65 : decode cX7_putsBy 65 = .ok (.iload 4, 2) := by decide +kernel
theorem dX7_putsBy_67 : decode cX7_putsBy 67 = .ok (.aload_n 0, 1) := by decide +kernel
theorem dX7_putsBy_68 : decode cX7_putsBy 68 = .ok (.getfield 51, 3) := by decide +kernel
theorem dX7_putsBy_71 : decode cX7_putsBy 71 = .ok (.iload 6, 2) := by decide +kernel
theorem dX7_putsBy_73 : decode cX7_putsBy 73 = .ok (.iaload, 1) := by decide +kernel
theorem dX7_putsBy_74 : decode cX7_putsBy 74 = .ok (.invokestatic 108, 3) := by decide +kernel
theorem dX7_putsBy_77 : decode cX7_putsBy 77 = .ok (.ifCond .ne 21, 3) := by decide +kernel
theorem dX7_putsBy_80 : decode cX7_putsBy 80 = .ok (.iload_n 3, 1) := by decide +kernel
theorem dX7_putsBy_81 : decode cX7_putsBy 81 = .ok (.bipush 10, 2) := by decide +kernel
theorem dX7_putsBy_83 : decode cX7_putsBy 83 = .ok (.idiv, 1) := by decide +kernel
theorem dX7_putsBy_84 : decode cX7_putsBy 84 = .ok (.bipush 10, 2) := by decide +kernel
theorem dX7_putsBy_86 : decode cX7_putsBy 86 = .ok (.irem, 1) := by decide +kernel
theorem dX7_putsBy_87 : decode cX7_putsBy 87 = .ok (.aload_n 0, 1) := by decide +kernel
theorem dX7_putsBy_88 : decode cX7_putsBy 88 = .ok (.getfield 7, 3) := by decide +kernel
theorem dX7_putsBy_91 : decode cX7_putsBy 91 = .ok (.if_icmp .ge 7, 3) := by decide +kernel
theorem dX7_putsBy_94 : decode cX7_putsBy 94 = .ok (.iconst 1, 1) := by decide +kernel
theorem dX7_putsBy_95 : decode cX7_putsBy 95 = .ok (.goto 4, 3) := by decide +kernel
theorem dX7_putsBy_98 : decode cX7_putsBy 98 = .ok (.iconst 0, 1) := by decide +kernel
theorem dX7_putsBy_99 : decode cX7_putsBy 99 = .ok (.istore 5, 2) := by decide +kernel
theorem dX7_putsBy_101 : decode cX7_putsBy 101 = .ok (.iload 4, 2) := by decide +kernel
theorem dX7_putsBy_103 : decode cX7_putsBy 103 = .ok (.iconst 1, 1) := by decide +kernel
theorem dX7_putsBy_104 : decode cX7_putsBy 104 = .ok (.aload_n 0, 1) := by decide +kernel
theorem dX7_putsBy_105 : decode cX7_putsBy 105 = .ok (.getfield 51, 3) := by decide +kernel
theorem dX7_putsBy_108 : decode cX7_putsBy 108 = .ok (.iload 6, 2) := by decide +kernel
theorem dX7_putsBy_110 : decode cX7_putsBy 110 = .ok (.iaload, 1) := by decide +kernel
theorem dX7_putsBy_111 : decode cX7_putsBy 111 = .ok (.ishl, 1) := by decide +kernel
theorem dX7_putsBy_112 : decode cX7_putsBy 112 = .ok (.ior, 1) := by decide +kernel
theorem dX7_putsBy_113 : decode cX7_putsBy 113 = .ok (.istore 4, 2) := by decide +kernel
theorem dX7_putsBy_115 : decode cX7_putsBy 115 = .ok (.iload_n 3, 1) := by decide +kernel
theorem dX7_putsBy_116 : decode cX7_putsBy 116 = .ok (.bipush 100, 2) := by decide +kernel
theorem dX7_putsBy_118 : decode cX7_putsBy 118 = .ok (.idiv, 1) := by decide +kernel
theorem dX7_putsBy_119 : decode cX7_putsBy 119 = .ok (.istore_n 3, 1) := by decide +kernel
theorem dX7_putsBy_120 : decode cX7_putsBy 120 = .ok (.iinc 6 1, 3) := by decide +kernel
theorem dX7_putsBy_123 : decode cX7_putsBy 123 = .ok (.goto (-112), 3) := by decide +kernel
theorem dX7_putsBy_126 : decode cX7_putsBy 126 = .ok (.iload 5, 2) := by decide +kernel
theorem dX7_putsBy_128 : decode cX7_putsBy 128 = .ok (.ifCond .ne 5, 3) := by decide +kernel
theorem dX7_putsBy_131 : decode cX7_putsBy 131 = .ok (.iconst 0, 1) := by decide +kernel
theorem dX7_putsBy_132 : decode cX7_putsBy 132 = .ok (.ireturn, 1) := by decide +kernel
theorem dX7_putsBy_133 : decode cX7_putsBy 133 = .ok (.aload_n 0, 1) := by decide +kernel
theorem dX7_putsBy_134 : decode cX7_putsBy 134 = .ok (.invokevirtual 124, 3) := by decide +kernel
theorem dX7_putsBy_137 : decode cX7_putsBy 137 = .ok (.iload_n 1, 1) := by decide +kernel
theorem dX7_putsBy_138 : decode cX7_putsBy 138 = .ok (.istore_n 3, 1) := by decide +kernel
theorem dX7_putsBy_139 : decode cX7_putsBy 139 = .ok (.iconst 0, 1) := by decide +kernel
theorem dX7_putsBy_140 : decode cX7_putsBy 140 = .ok (.istore 6, 2) := by decide +kernel
theorem dX7_putsBy_142 : decode cX7_putsBy 142 = .ok (.iload 6, 2) := by decide +kernel
theorem dX7_putsBy_144 : decode cX7_putsBy 144 = .ok (.iload_n 2, 1) := by decide +kernel
theorem dX7_putsBy_145 : decode cX7_putsBy 145 = .ok (.if_icmp .ge 47, 3) := by decide +kernel
theorem dX7_putsBy_148 : decode cX7_putsBy 148 = .ok (.iload 5, 2) := by decide +kernel
theorem dX7_putsBy_150 : decode cX7_putsBy 150 = .ok (.ifCond .eq 42, 3) := by decide +kernel
theorem dX7_putsBy_153 : decode cX7_putsBy 153 = .ok (.aload_n 0, 1) := by decide +kernel
theorem dX7_putsBy_154 : decode cX7_putsBy 154 = .ok (.aload_n 0, 1) := by decide +kernel
theorem dX7_putsBy_155 : decode cX7_putsBy 155 = .ok (.getfield 51, 3) := by decide +kernel
theorem dX7_putsBy_158 : decode cX7_putsBy 158 = .ok (.iload 6, 2) := by decide +kernel
theorem dX7_putsBy_160 : decode cX7_putsBy 160 = .ok (.iaload, 1) := by decide +kernel
theorem dX7_putsBy_161 : decode cX7_putsBy 161 = .ok (.iload_n 3, 1) := by decide +kernel
theorem dX7_putsBy_162 : decode cX7_putsBy 162 = .ok (.bipush 10, 2) := by decide +kernel
theorem dX7_putsBy_164 : decode cX7_putsBy 164 = .ok (.idiv, 1) := by decide +kernel
theorem dX7_putsBy_165 : decode cX7_putsBy 165 = .ok (.bipush 10, 2) := by decide +kernel
theorem dX7_putsBy_167 : decode cX7_putsBy 167 = .ok (.irem, 1) := by decide +kernel
theorem dX7_putsBy_168 : decode cX7_putsBy 168 = .ok (.invokevirtual 133, 3) := by decide +kernel
theorem dX7_putsBy_171 : decode cX7_putsBy 171 = .ok (.ifCond .ne 7, 3) := by decide +kernel
theorem dX7_putsBy_174 : decode cX7_putsBy 174 = .ok (.iconst 1, 1) := by decide +kernel
theorem dX7_putsBy_175 : decode cX7_putsBy 175 = .ok (.goto 4, 3) := by decide +kernel
theorem dX7_putsBy_178 : decode cX7_putsBy 178 = .ok (.iconst 0, 1) := by decide +kernel
theorem dX7_putsBy_179 : decode cX7_putsBy 179 = .ok (.istore 5, 2) := by decide +kernel
theorem dX7_putsBy_181 : decode cX7_putsBy 181 = .ok (.iload_n 3, 1) := by decide +kernel
theorem dX7_putsBy_182 : decode cX7_putsBy 182 = .ok (.bipush 100, 2) := by decide +kernel
theorem dX7_putsBy_184 : decode cX7_putsBy 184 = .ok (.idiv, 1) := by decide +kernel
theorem dX7_putsBy_185 : decode cX7_putsBy 185 = .ok (.istore_n 3, 1) := by decide +kernel
theorem dX7_putsBy_186 : decode cX7_putsBy 186 = .ok (.iinc 6 1, 3) := by decide +kernel
theorem dX7_putsBy_189 : decode cX7_putsBy 189 = .ok (.goto (-47), 3) := by decide +kernel
theorem dX7_putsBy_192 : decode cX7_putsBy 192 = .ok (.iload 5, 2) := by decide +kernel
theorem dX7_putsBy_194 : decode cX7_putsBy 194 = .ok (.ireturn, 1) := by decide +kernel
theorem dX7_codes_0 : decode cX7_codes 0 = .ok (.iload_n 0, 1) := by decide +kernel
theorem dX7_codes_1 : decode cX7_codes 1 = .ok (.ifCond .ne 7, 3) := by decide +kernel
theorem dX7_codes_4 : decode cX7_codes 4 = .ok (.iconst 1, 1) := by decide +kernel
theorem dX7_codes_5 : decode cX7_codes 5 = .ok (.goto 26, 3) := by decide +kernel
theorem dX7_codes_8 : decode cX7_codes 8 = .ok (.iload_n 0, 1) := by decide +kernel
theorem dX7_codes_9 : decode cX7_codes 9 = .ok (.iconst 1, 1) := by decide +kernel
theorem dX7_codes_10 : decode cX7_codes 10 = .ok (.if_icmp .ne 8, 3) := by decide +kernel
theorem dX7_codes_13 : decode cX7_codes 13 = .ok (.bipush 100, 2) := by decide +kernel
theorem dX7_codes_15 : decode cX7_codes 15 = .ok (.goto 16, 3) := by decide +kernel
theorem dX7_codes_18 : decode cX7_codes 18 = .ok (.iload_n 0, 1) := by decide +kernel
theorem dX7_codes_19 : decode cX7_codes 19 = .ok (.iconst 2, 1) := by decide +kernel
theorem dX7_codes_20 : decode cX7_codes 20 = .ok (.if_icmp .ne 9, 3) := by decide +kernel
theorem dX7_codes_23 : decode cX7_codes 23 = .ok (.sipush 10000, 3) := by decide +kernel
theorem dX7_codes_26 : decode cX7_codes 26 = .ok (.goto 5, 3) := by decide +kernel
theorem dX7_codes_29 : decode cX7_codes 29 = .ok (.ldc 176, 2) := by decide +kernel
theorem dX7_codes_31 : decode cX7_codes 31 = .ok (.ireturn, 1) := by decide +kernel
set_option maxRecDepth 20000 in
theorem ggX7_high_X7_in : GoodIn wsX7_high wsX7_in := goodIn_r _ [4] (by decide +kernel) (by decide +kernel)
set_option maxRecDepth 20000 in
theorem gX7_high_X7_in : GoodIn wsX7_high (va_wsS RX7 73 yX7_in wsX7_in) := goodIn_app (goodIn_of _ (by decide +kernel)) ggX7_high_X7_in
set_option maxRecDepth 20000 in
theorem ggX7_high_X7_outside : GoodIn wsX7_high wsX7_outside := goodIn_r _ [8, 9, 10, 11, 12, 3, 13, 83, 84, 85, 86, 87, 88, 89, 90, 91, 92, 93, 94, 95, 96, 97, 98, 99, 100, 101, 102, 103, 104, 105, 106, 107, 108] (by decide +kernel) (by decide +kernel)
set_option maxRecDepth 20000 in
theorem gX7_high_X7_outside : GoodIn wsX7_high (wsV RX7 177 RX7 yX7_outside wsX7_outside) := goodIn_app (goodIn_of _ (by decide +kernel)) ggX7_high_X7_outside
set_option maxRecDepth 20000 in
theorem ggX7_high_X7_bits : GoodIn wsX7_high wsX7_bits := goodIn_r _ [16] (by decide +kernel) (by decide +kernel)
set_option maxRecDepth 20000 in
theorem gX7_high_X7_bits : GoodIn wsX7_high (va_wsS RX7 77 yX7_bits wsX7_bits) := goodIn_app (goodIn_of _ (by decide +kernel)) ggX7_high_X7_bits
set_option maxRecDepth 20000 in
theorem ggX7_high_X7_codes : GoodIn wsX7_high wsX7_codes := goodIn_r _ [19, 20] (by decide +kernel) (by decide +kernel)
set_option maxRecDepth 20000 in
theorem gX7_high_X7_codes : GoodIn wsX7_high (va_wsS RX7 180 yX7_codes wsX7_codes) := goodIn_app (goodIn_of _ (by decide +kernel)) ggX7_high_X7_codes
set_option maxRecDepth 20000 in
theorem ggX7_high_X7_putsBy : GoodIn wsX7_high wsX7_putsBy := goodIn_r _ [24, 25, 9, 10, 26, 11, 12, 3, 13, 27, 28, 29, 30, 31, 32, 33, 34, 35, 36, 37, 38, 39, 40, 41, 42, 43, 44, 45, 46, 47, 48, 49, 50, 51, 52, 53, 54, 55, 56, 57, 58, 59, 60, 61, 62, 63, 64, 65, 66, 67, 68, 69, 70, 71, 72, 73, 74, 75, 76, 77, 78, 83, 84, 85, 86, 87, 88, 89, 90, 91, 92, 93, 94, 95, 96, 97, 98, 99, 100, 101, 102, 103, 104, 105, 106, 107, 108] (by decide +kernel) (by decide +kernel)
set_option maxRecDepth 20000 in
theorem gX7_high_X7_putsBy : GoodIn wsX7_high (wsV RX7 183 RX7 yX7_putsBy wsX7_putsBy) := goodIn_app (goodIn_of _ (by decide +kernel)) ggX7_high_X7_putsBy
set_option maxRecDepth 20000 in
theorem ggX7_high_X7_highest : GoodIn wsX7_high wsX7_highest := goodIn_r _ [82, 26, 43, 44, 45, 3, 46, 31, 47, 48, 49, 50, 32, 38, 39, 40, 41, 42, 83, 84, 85, 86, 87, 88, 89, 90, 91, 92, 93, 94, 95, 96, 97, 98, 99, 100, 101, 102, 103, 104, 105, 106, 107, 108] (by decide +kernel) (by decide +kernel)
set_option maxRecDepth 20000 in
theorem gX7_high_X7_highest : GoodIn wsX7_high (wsV RX7 186 RX7 yX7_highest wsX7_highest) := goodIn_app (goodIn_of _ (by decide +kernel)) ggX7_high_X7_highest
theorem dX7_high_0 : decode cX7_high 0 = .ok (.iload_n 1, 1) := by decide +kernel
theorem dX7_high_1 : decode cX7_high 1 = .ok (.iconst 0, 1) := by decide +kernel
theorem dX7_high_2 : decode cX7_high 2 = .ok (.iconst 1, 1) := by decide +kernel
theorem dX7_high_3 : decode cX7_high 3 = .ok (.invokestatic 73, 3) := by decide +kernel
theorem dX7_high_6 : decode cX7_high 6 = .ok (.ifCond .ne 6, 3) := by decide +kernel
theorem dX7_high_9 : decode cX7_high 9 = .ok (.bipush (-2), 2) := by decide +kernel
theorem dX7_high_11 : decode cX7_high 11 = .ok (.ireturn, 1) := by decide +kernel
theorem dX7_high_12 : decode cX7_high 12 = .ok (.aload_n 0, 1) := by decide +kernel
theorem dX7_high_13 : decode cX7_high 13 = .ok (.invokevirtual 177, 3) := by decide +kernel
theorem dX7_high_16 : decode cX7_high 16 = .ok (.invokestatic 77, 3) := by decide +kernel
theorem dX7_high_19 : decode cX7_high 19 = .ok (.istore_n 2, 1) := by decide +kernel
theorem dX7_high_20 : decode cX7_high 20 = .ok (.iload_n 2, 1) := by decide +kernel
theorem dX7_high_21 : decode cX7_high 21 = .ok (.iconst 3, 1) := by decide +kernel
theorem dX7_high_22 : decode cX7_high 22 = .ok (.if_icmp .le 6, 3) := by decide +kernel
theorem dX7_high_25 : decode cX7_high 25 = .ok (.bipush (-4), 2) := by decide +kernel
theorem dX7_high_27 : decode cX7_high 27 = .ok (.ireturn, 1) := by decide +kernel
theorem dX7_high_28 : decode cX7_high 28 = .ok (.iconst (-1), 1) := by decide +kernel
theorem dX7_high_29 : decode cX7_high 29 = .ok (.istore_n 3, 1) := by decide +kernel
theorem dX7_high_30 : decode cX7_high 30 = .ok (.iconst 0, 1) := by decide +kernel
theorem dX7_high_31 : decode cX7_high 31 = .ok (.istore 4, 2) := by decide +kernel
theorem dX7_high_33 : decode cX7_high 33 = .ok (.iconst 0, 1) := by decide +kernel
theorem dX7_high_34 : decode cX7_high 34 = .ok (.istore 5, 2) := by decide +kernel
theorem dX7_high_36 : decode cX7_high 36 = .ok (.iload 5, 2) := by decide +kernel
theorem dX7_high_38 : decode cX7_high 38 = .ok (.iload_n 2, 1) := by decide +kernel
theorem dX7_high_39 : decode cX7_high 39 = .ok (.if_icmp .gt 73, 3) := by decide +kernel
theorem dX7_high_42 : decode cX7_high 42 = .ok (.iconst 0, 1) := by decide +kernel
theorem dX7_high_43 : decode cX7_high 43 = .ok (.istore 6, 2) := by decide +kernel
theorem dX7_high_45 : decode cX7_high 45 = .ok (.iload 6, 2) := by decide +kernel
theorem dX7_high_47 : decode cX7_high 47 = .ok (.iload 5, 2) := by decide +kernel
theorem dX7_high_49 : decode cX7_high 49 = .ok (.invokestatic 180, 3) := by decide +kernel
theorem dX7_high_52 : decode cX7_high 52 = .ok (.if_icmp .ge 54, 3) := by decide +kernel
theorem dX7_high_55 : decode cX7_high 55 = .ok (.aload_n 0, 1) := by decide +kernel
theorem dX7_high_56 : decode cX7_high 56 = .ok (.iload 6, 2) := by decide +kernel
theorem dX7_high_58 : decode cX7_high 58 = .ok (.iload 5, 2) := by decide +kernel
theorem dX7_high_60 : decode cX7_high 60 = .ok (.invokevirtual 183, 3) := by decide +kernel
theorem dX7_high_63 : decode cX7_high 63 = .ok (.ifCond .eq 37, 3) := by decide +kernel
theorem dX7_high_66 : decode cX7_high 66 = .ok (.aload_n 0, 1) := by decide +kernel
theorem dX7_high_67 : decode cX7_high 67 = .ok (.invokevirtual 186, 3) := by decide +kernel
theorem dX7_high_70 : decode cX7_high 70 = .ok (.istore 7, 2) := by decide +kernel
theorem dX7_high_72 : decode cX7_high 72 = .ok (.iload 7, 2) := by decide +kernel
theorem dX7_high_74 : decode cX7_high 74 = .ok (.iload_n 3, 1) := by decide +kernel
theorem dX7_high_75 : decode cX7_high 75 = .ok (.if_icmp .le 8, 3) := by decide +kernel
theorem dX7_high_78 : decode cX7_high 78 = .ok (.iload 5, 2) := by decide +kernel
theorem dX7_high_80 : decode cX7_high 80 = .ok (.goto 5, 3) := by decide +kernel
theorem dX7_high_83 : decode cX7_high 83 = .ok (.iload 4, 2) := by decide +kernel
theorem dX7_high_85 : decode cX7_high 85 = .ok (.istore 4, 2) := by decide +kernel
theorem dX7_high_87 : decode cX7_high 87 = .ok (.iload 7, 2) := by decide +kernel
theorem dX7_high_89 : decode cX7_high 89 = .ok (.iload_n 3, 1) := by decide +kernel
theorem dX7_high_90 : decode cX7_high 90 = .ok (.if_icmp .le 8, 3) := by decide +kernel
theorem dX7_high_93 : decode cX7_high 93 = .ok (.iload 7, 2) := by decide +kernel
theorem dX7_high_95 : decode cX7_high 95 = .ok (.goto 4, 3) := by decide +kernel
theorem dX7_high_98 : decode cX7_high 98 = .ok (.iload_n 3, 1) := by decide +kernel
theorem dX7_high_99 : decode cX7_high 99 = .ok (.istore_n 3, 1) := by decide +kernel
theorem dX7_high_100 : decode cX7_high 100 = .ok (.iinc 6 1, 3) := by decide +kernel
theorem dX7_high_103 : decode cX7_high 103 = .ok (.goto (-58), 3) := by decide +kernel
theorem dX7_high_106 : decode cX7_high 106 = .ok (.iinc 5 1, 3) := by decide +kernel
theorem dX7_high_109 : decode cX7_high 109 = .ok (.goto (-73), 3) := by decide +kernel
theorem dX7_high_112 : decode cX7_high 112 = .ok (.iload_n 1, 1) := by decide +kernel
theorem dX7_high_113 : decode cX7_high 113 = .ok (.ifCond .ne 7, 3) := by decide +kernel
theorem dX7_high_116 : decode cX7_high 116 = .ok (.iload_n 3, 1) := by decide +kernel
theorem dX7_high_117 : decode cX7_high 117 = .ok (.goto 5, 3) := by decide +kernel
theorem dX7_high_120 : decode cX7_high 120 = .ok (.iload 4, 2) := by decide +kernel
theorem dX7_high_122 : decode cX7_high 122 = .ok (.ireturn, 1) := by decide +kernel
set_option maxRecDepth 20000 in
theorem ggX7_fallsBy_X7_asNow : GoodIn wsX7_fallsBy wsX7_asNow := goodIn_r _ [5, 6, 7, 8, 9, 50, 51, 52, 53, 54, 55, 56, 57, 58, 59, 60, 61, 62, 63, 64, 65, 66, 67, 68, 69, 70, 71, 72, 73, 74, 75] (by decide +kernel) (by decide +kernel)
set_option maxRecDepth 20000 in
theorem gX7_fallsBy_X7_asNow : GoodIn wsX7_fallsBy (wsV RX7 124 RX7 yX7_asNow wsX7_asNow) := goodIn_app (goodIn_of _ (by decide +kernel)) ggX7_fallsBy_X7_asNow
set_option maxRecDepth 20000 in
theorem ggX7_fallsBy_X7_has : GoodIn wsX7_fallsBy wsX7_has := goodIn_r _ [12] (by decide +kernel) (by decide +kernel)
set_option maxRecDepth 20000 in
theorem gX7_fallsBy_X7_has : GoodIn wsX7_fallsBy (va_wsS RX7 108 yX7_has wsX7_has) := goodIn_app (goodIn_of _ (by decide +kernel)) ggX7_fallsBy_X7_has
set_option maxRecDepth 20000 in
theorem ggX7_fallsBy_X7_take : GoodIn wsX7_fallsBy wsX7_take := goodIn_r _ [16, 6, 8, 50, 51, 52, 53, 54, 55, 56, 57, 58, 59, 60, 61, 62, 63, 64, 65, 66, 67, 68, 69, 70, 71, 72, 73, 74, 75] (by decide +kernel) (by decide +kernel)
set_option maxRecDepth 20000 in
theorem gX7_fallsBy_X7_take : GoodIn wsX7_fallsBy (wsV RX7 120 RX7 yX7_take wsX7_take) := goodIn_app (goodIn_of _ (by decide +kernel)) ggX7_fallsBy_X7_take
set_option maxRecDepth 20000 in
theorem ggX7_fallsBy_X7_layLoads : GoodIn wsX7_fallsBy wsX7_layLoads := goodIn_r _ [20, 21, 6, 22, 23, 8, 24, 25, 26, 27, 4, 28, 29, 30, 31, 32, 33, 34, 35, 36, 37, 38, 39, 40, 50, 51, 52, 53, 54, 55, 56, 57, 58, 59, 60, 61, 62, 63, 64, 65, 66, 67, 68, 69, 70, 71, 72, 73, 74, 75] (by decide +kernel) (by decide +kernel)
set_option maxRecDepth 20000 in
theorem gX7_fallsBy_X7_layLoads : GoodIn wsX7_fallsBy (wsV RX7 114 RX7 yX7_layLoads wsX7_layLoads) := goodIn_app (goodIn_of _ (by decide +kernel)) ggX7_fallsBy_X7_layLoads
set_option maxRecDepth 20000 in
theorem ggX7_fallsBy_X7_isIn : GoodIn wsX7_fallsBy wsX7_isIn := goodIn_r _ [40, 6, 50, 51, 52, 53, 54, 55, 56, 57, 58, 59, 60, 61, 62, 63, 64, 65, 66, 67, 68, 69, 70, 71, 72, 73, 74, 75] (by decide +kernel) (by decide +kernel)
set_option maxRecDepth 20000 in
theorem gX7_fallsBy_X7_isIn : GoodIn wsX7_fallsBy (wsV RX7 88 RX7 yX7_isIn wsX7_isIn) := goodIn_app (goodIn_of _ (by decide +kernel)) ggX7_fallsBy_X7_isIn
set_option maxRecDepth 20000 in
theorem ggX7_fallsBy_X7_stands : GoodIn wsX7_fallsBy wsX7_stands := goodIn_r _ [44, 24, 25, 26, 27, 4, 28, 8, 6, 29, 30, 31, 32, 33, 34, 35, 36, 37, 38, 39, 40, 50, 51, 52, 53, 54, 55, 56, 57, 58, 59, 60, 61, 62, 63, 64, 65, 66, 67, 68, 69, 70, 71, 72, 73, 74, 75] (by decide +kernel) (by decide +kernel)
set_option maxRecDepth 20000 in
theorem gX7_fallsBy_X7_stands : GoodIn wsX7_fallsBy (wsV RX7 111 RX7 yX7_stands wsX7_stands) := goodIn_app (goodIn_of _ (by decide +kernel)) ggX7_fallsBy_X7_stands
set_option maxRecDepth 20000 in
theorem ggX7_fallsBy_X7_isOver : GoodIn wsX7_fallsBy wsX7_isOver := goodIn_r _ [48, 21, 22, 49, 37, 38, 39, 4, 40, 6, 50, 51, 52, 53, 54, 55, 56, 57, 58, 59, 60, 61, 62, 63, 64, 65, 66, 67, 68, 69, 70, 71, 72, 73, 74, 75] (by decide +kernel) (by decide +kernel)
set_option maxRecDepth 20000 in
theorem gX7_fallsBy_X7_isOver : GoodIn wsX7_fallsBy (wsV RX7 117 RX7 yX7_isOver wsX7_isOver) := goodIn_app (goodIn_of _ (by decide +kernel)) ggX7_fallsBy_X7_isOver
theorem dX7_fallsBy_0 : decode cX7_fallsBy 0 = .ok (.aload_n 0, 1) := by decide +kernel
theorem dX7_fallsBy_1 : decode cX7_fallsBy 1 = .ok (.invokevirtual 124, 3) := by decide +kernel
theorem dX7_fallsBy_4 : decode cX7_fallsBy 4 = .ok (.iconst 0, 1) := by decide +kernel
theorem dX7_fallsBy_5 : decode cX7_fallsBy 5 = .ok (.istore_n 2, 1) := by decide +kernel
theorem dX7_fallsBy_6 : decode cX7_fallsBy 6 = .ok (.iload_n 2, 1) := by decide +kernel
theorem dX7_fallsBy_7 : decode cX7_fallsBy 7 = .ok (.bipush 10, 2) := by decide +kernel
theorem dX7_fallsBy_9 : decode cX7_fallsBy 9 = .ok (.if_icmp .ge 22, 3) := by decide +kernel
theorem dX7_fallsBy_12 : decode cX7_fallsBy 12 = .ok (.iload_n 1, 1) := by decide +kernel
theorem dX7_fallsBy_13 : decode cX7_fallsBy 13 = .ok (.iload_n 2, 1) := by decide +kernel
theorem dX7_fallsBy_14 : decode cX7_fallsBy 14 = .ok (.invokestatic 108, 3) := by decide +kernel
theorem dX7_fallsBy_17 : decode cX7_fallsBy 17 = .ok (.ifCond .eq 8, 3) := by decide +kernel
theorem dX7_fallsBy_20 : decode cX7_fallsBy 20 = .ok (.aload_n 0, 1) := by decide +kernel
theorem dX7_fallsBy_21 : decode cX7_fallsBy 21 = .ok (.iload_n 2, 1) := by decide +kernel
theorem dX7_fallsBy_22 : decode cX7_fallsBy 22 = .ok (.invokevirtual 120, 3) := by decide +kernel
theorem dX7_fallsBy_25 : decode cX7_fallsBy 25 = .ok (.iinc 2 1, 3) := by decide +kernel
theorem dX7_fallsBy_28 : decode cX7_fallsBy 28 = .ok (.goto (-22), 3) := by decide +kernel
theorem dX7_fallsBy_31 : decode cX7_fallsBy 31 = .ok (.iconst 0, 1) := by decide +kernel
theorem dX7_fallsBy_32 : decode cX7_fallsBy 32 = .ok (.istore_n 2, 1) := by decide +kernel
theorem dX7_fallsBy_33 : decode cX7_fallsBy 33 = .ok (.iconst 1, 1) := by decide +kernel
theorem dX7_fallsBy_34 : decode cX7_fallsBy 34 = .ok (.istore_n 3, 1) := by decide +kernel
theorem dX7_fallsBy_35 : decode cX7_fallsBy 35 = .ok (.iload_n 3, 1) := by decide +kernel
theorem dX7_fallsBy_36 : decode cX7_fallsBy 36 = .ok (.ifCond .eq 101, 3) := by decide +kernel
theorem dX7_fallsBy_39 : decode cX7_fallsBy 39 = .ok (.iconst 0, 1) := by decide +kernel
theorem dX7_fallsBy_40 : decode cX7_fallsBy 40 = .ok (.istore_n 3, 1) := by decide +kernel
theorem dX7_fallsBy_41 : decode cX7_fallsBy 41 = .ok (.aload_n 0, 1) := by decide +kernel
theorem dX7_fallsBy_42 : decode cX7_fallsBy 42 = .ok (.invokevirtual 114, 3) := by decide +kernel
theorem dX7_fallsBy_45 : decode cX7_fallsBy 45 = .ok (.iconst 0, 1) := by decide +kernel
theorem dX7_fallsBy_46 : decode cX7_fallsBy 46 = .ok (.istore 4, 2) := by decide +kernel
theorem dX7_fallsBy_48 : decode cX7_fallsBy 48 = .ok (.iload 4, 2) := by decide +kernel
theorem dX7_fallsBy_50 : decode cX7_fallsBy 50 = .ok (.bipush 10, 2) := by decide +kernel
theorem dX7_fallsBy_52 : decode cX7_fallsBy 52 = .ok (.if_icmp .ge 47, 3) := by decide +kernel
theorem dX7_fallsBy_55 : decode cX7_fallsBy 55 = .ok (.iload_n 3, 1) := by decide +kernel
theorem dX7_fallsBy_56 : decode cX7_fallsBy 56 = .ok (.aload_n 0, 1) := by decide +kernel
theorem dX7_fallsBy_57 : decode cX7_fallsBy 57 = .ok (.iload 4, 2) := by decide +kernel
theorem dX7_fallsBy_59 : decode cX7_fallsBy 59 = .ok (.invokevirtual 88, 3) := by decide +kernel
theorem dX7_fallsBy_62 : decode cX7_fallsBy 62 = .ok (.ifCond .eq 28, 3) := by decide +kernel
theorem dX7_fallsBy_65 : decode cX7_fallsBy 65 = .ok (.aload_n 0, 1) := by decide +kernel
theorem dX7_fallsBy_66 : decode cX7_fallsBy 66 = .ok (.iload 4, 2) := by decide +kernel
theorem dX7_fallsBy_68 : decode cX7_fallsBy 68 = .ok (.invokevirtual 111, 3) := by decide +kernel
theorem dX7_fallsBy_71 : decode cX7_fallsBy 71 = .ok (.ifCond .eq 12, 3) := by decide +kernel
theorem dX7_fallsBy_74 : decode cX7_fallsBy 74 = .ok (.aload_n 0, 1) := by decide +kernel
theorem dX7_fallsBy_75 : decode cX7_fallsBy 75 = .ok (.iload 4, 2) := by decide +kernel
theorem dX7_fallsBy_77 : decode cX7_fallsBy 77 = .ok (.invokevirtual 117, 3) := by decide +kernel
theorem dX7_fallsBy_80 : decode cX7_fallsBy 80 = .ok (.ifCond .eq 10, 3) := by decide +kernel
theorem dX7_fallsBy_83 : decode cX7_fallsBy 83 = .ok (.iconst 1, 1) := by decide +kernel
theorem dX7_fallsBy_84 : decode cX7_fallsBy 84 = .ok (.iload 4, 2) := by decide +kernel
theorem dX7_fallsBy_86 : decode cX7_fallsBy 86 = .ok (.ishl, 1) := by decide +kernel
theorem dX7_fallsBy_87 : decode cX7_fallsBy 87 = .ok (.goto 4, 3) := by decide +kernel
theorem dX7_fallsBy_90 : decode cX7_fallsBy 90 = .ok (.iconst 0, 1) := by decide +kernel
theorem dX7_fallsBy_91 : decode cX7_fallsBy 91 = .ok (.ior, 1) := by decide +kernel
theorem dX7_fallsBy_92 : decode cX7_fallsBy 92 = .ok (.istore_n 3, 1) := by decide +kernel
theorem dX7_fallsBy_93 : decode cX7_fallsBy 93 = .ok (.iinc 4 1, 3) := by decide +kernel
theorem dX7_fallsBy_96 : decode cX7_fallsBy 96 = .ok (.goto (-48), 3) := by decide +kernel
theorem dX7_fallsBy_99 : decode cX7_fallsBy 99 = .ok (.iconst 0, 1) := by decide +kernel
theorem dX7_fallsBy_100 : decode cX7_fallsBy 100 = .ok (.istore 4, 2) := by decide +kernel
theorem dX7_fallsBy_102 : decode cX7_fallsBy 102 = .ok (.iload 4, 2) := by decide +kernel
theorem dX7_fallsBy_104 : decode cX7_fallsBy 104 = .ok (.bipush 10, 2) := by decide +kernel
theorem dX7_fallsBy_106 : decode cX7_fallsBy 106 = .ok (.if_icmp .ge 24, 3) := by decide +kernel
theorem dX7_fallsBy_109 : decode cX7_fallsBy 109 = .ok (.iload_n 3, 1) := by decide +kernel
theorem dX7_fallsBy_110 : decode cX7_fallsBy 110 = .ok (.iload 4, 2) := by decide +kernel
theorem dX7_fallsBy_112 : decode cX7_fallsBy 112 = .ok (.invokestatic 108, 3) := by decide +kernel
theorem dX7_fallsBy_115 : decode cX7_fallsBy 115 = .ok (.ifCond .eq 9, 3) := by decide +kernel
theorem dX7_fallsBy_118 : decode cX7_fallsBy 118 = .ok (.aload_n 0, 1) := by decide +kernel
theorem dX7_fallsBy_119 : decode cX7_fallsBy 119 = .ok (.iload 4, 2) := by decide +kernel
theorem dX7_fallsBy_121 : decode cX7_fallsBy 121 = .ok (.invokevirtual 120, 3) := by decide +kernel
theorem dX7_fallsBy_124 : decode cX7_fallsBy 124 = .ok (.iinc 4 1, 3) := by decide +kernel
theorem dX7_fallsBy_127 : decode cX7_fallsBy 127 = .ok (.goto (-25), 3) := by decide +kernel
theorem dX7_fallsBy_130 : decode cX7_fallsBy 130 = .ok (.iload_n 2, 1) := by decide +kernel
theorem dX7_fallsBy_131 : decode cX7_fallsBy 131 = .ok (.iload_n 3, 1) := by decide +kernel
theorem dX7_fallsBy_132 : decode cX7_fallsBy 132 = .ok (.ior, 1) := by decide +kernel
theorem dX7_fallsBy_133 : decode cX7_fallsBy 133 = .ok (.istore_n 2, 1) := by decide +kernel
theorem dX7_fallsBy_134 : decode cX7_fallsBy 134 = .ok (.goto (-99), 3) := by decide +kernel
theorem dX7_fallsBy_137 : decode cX7_fallsBy 137 = .ok (.iload_n 2, 1) := by decide +kernel
theorem dX7_fallsBy_138 : decode cX7_fallsBy 138 = .ok (.ireturn, 1) := by decide +kernel
set_option maxRecDepth 20000 in
theorem ggX7_falls_X7_in : GoodIn wsX7_falls wsX7_in := goodIn_r _ [4] (by decide +kernel) (by decide +kernel)
set_option maxRecDepth 20000 in
theorem gX7_falls_X7_in : GoodIn wsX7_falls (va_wsS RX7 73 yX7_in wsX7_in) := goodIn_app (goodIn_of _ (by decide +kernel)) ggX7_falls_X7_in
set_option maxRecDepth 20000 in
theorem ggX7_falls_X7_fallsBy : GoodIn wsX7_falls wsX7_fallsBy := goodIn_r _ [8, 9, 10, 11, 3, 12, 13, 14, 15, 16, 17, 18, 19, 20, 21, 22, 23, 24, 25, 26, 27, 28, 29, 30, 31, 32, 33, 34, 35, 36, 37, 38, 39, 40, 41, 42, 43, 44, 45, 46, 47, 48, 49, 50, 51, 52, 53, 54, 55, 56, 57, 58, 59, 60, 61, 62, 63, 64, 65, 66, 67, 68, 69, 70, 71, 72, 73, 74, 75, 76, 77, 78, 79, 80, 81, 82] (by decide +kernel) (by decide +kernel)
set_option maxRecDepth 20000 in
theorem gX7_falls_X7_fallsBy : GoodIn wsX7_falls (wsV RX7 189 RX7 yX7_fallsBy wsX7_fallsBy) := goodIn_app (goodIn_of _ (by decide +kernel)) ggX7_falls_X7_fallsBy
theorem dX7_falls_0 : decode cX7_falls 0 = .ok (.iload_n 1, 1) := by decide +kernel
theorem dX7_falls_1 : decode cX7_falls 1 = .ok (.iconst 0, 1) := by decide +kernel
theorem dX7_falls_2 : decode cX7_falls 2 = .ok (.sipush 1023, 3) := by decide +kernel
theorem dX7_falls_5 : decode cX7_falls 5 = .ok (.invokestatic 73, 3) := by decide +kernel
theorem dX7_falls_8 : decode cX7_falls 8 = .ok (.ifCond .eq 11, 3) := by decide +kernel
theorem dX7_falls_11 : decode cX7_falls 11 = .ok (.aload_n 0, 1) := by decide +kernel
theorem dX7_falls_12 : decode cX7_falls 12 = .ok (.iload_n 1, 1) := by decide +kernel
theorem dX7_falls_13 : decode cX7_falls 13 = .ok (.invokevirtual 189, 3) := by decide +kernel
theorem dX7_falls_16 : decode cX7_falls 16 = .ok (.goto 5, 3) := by decide +kernel
theorem dX7_falls_19 : decode cX7_falls 19 = .ok (.bipush (-2), 2) := by decide +kernel
theorem dX7_falls_21 : decode cX7_falls 21 = .ok (.ireturn, 1) := by decide +kernel
set_option maxRecDepth 20000 in
theorem ggX7_key_X7_in : GoodIn wsX7_key wsX7_in := goodIn_r _ [5] (by decide +kernel) (by decide +kernel)
set_option maxRecDepth 20000 in
theorem gX7_key_X7_in : GoodIn wsX7_key (va_wsS RX7 73 yX7_in wsX7_in) := goodIn_app (goodIn_of _ (by decide +kernel)) ggX7_key_X7_in
set_option maxRecDepth 20000 in
theorem ggX7_key_X7_fallsBy : GoodIn wsX7_key wsX7_fallsBy := goodIn_r _ [9, 10, 11, 12, 4, 13, 14, 1, 15, 16, 17, 18, 19, 20, 21, 22, 23, 24, 25, 26, 27, 28, 29, 30, 31, 32, 33, 34, 35, 36, 37, 38, 39, 40, 41, 42, 43, 44, 45, 46, 47, 48, 49, 50, 51, 52, 53, 54, 55, 56, 60, 61, 62, 63, 64, 65, 66, 67, 68, 69, 70, 71, 72, 73, 74, 75, 76, 77, 78, 79, 80, 81, 82, 83, 84, 85] (by decide +kernel) (by decide +kernel)
set_option maxRecDepth 20000 in
theorem gX7_key_X7_fallsBy : GoodIn wsX7_key (wsV RX7 189 RX7 yX7_fallsBy wsX7_fallsBy) := goodIn_app (goodIn_of _ (by decide +kernel)) ggX7_key_X7_fallsBy
set_option maxRecDepth 20000 in
theorem ggX7_key_X7_bits : GoodIn wsX7_key wsX7_bits := goodIn_r _ [59] (by decide +kernel) (by decide +kernel)
set_option maxRecDepth 20000 in
theorem gX7_key_X7_bits : GoodIn wsX7_key (va_wsS RX7 77 yX7_bits wsX7_bits) := goodIn_app (goodIn_of _ (by decide +kernel)) ggX7_key_X7_bits
theorem dX7_key_0 : decode cX7_key 0 = .ok (.iload_n 1, 1) := by decide +kernel
theorem dX7_key_1 : decode cX7_key 1 = .ok (.iconst 0, 1) := by decide +kernel
theorem dX7_key_2 : decode cX7_key 2 = .ok (.iconst 1, 1) := by decide +kernel
theorem dX7_key_3 : decode cX7_key 3 = .ok (.invokestatic 73, 3) := by decide +kernel
theorem dX7_key_6 : decode cX7_key 6 = .ok (.ifCond .ne 6, 3) := by decide +kernel
theorem dX7_key_9 : decode cX7_key 9 = .ok (.bipush (-2), 2) := by decide +kernel
theorem dX7_key_11 : decode cX7_key 11 = .ok (.ireturn, 1) := by decide +kernel
theorem dX7_key_12 : decode cX7_key 12 = .ok (.bipush (-6), 2) := by decide +kernel
theorem dX7_key_14 : decode cX7_key 14 = .ok (.istore_n 2, 1) := by decide +kernel
theorem dX7_key_15 : decode cX7_key 15 = .ok (.iconst (-1), 1) := by decide +kernel
theorem dX7_key_16 : decode cX7_key 16 = .ok (.istore_n 3, 1) := by decide +kernel
theorem dX7_key_17 : decode cX7_key 17 = .ok (.iconst 0, 1) := by decide +kernel
theorem dX7_key_18 : decode cX7_key 18 = .ok (.istore 4, 2) := by decide +kernel
theorem dX7_key_20 : decode cX7_key 20 = .ok (.iload 4, 2) := by decide +kernel
theorem dX7_key_22 : decode cX7_key 22 = .ok (.bipush 10, 2) := by decide +kernel
theorem dX7_key_24 : decode cX7_key 24 = .ok (.if_icmp .ge 58, 3) := by decide +kernel
theorem dX7_key_27 : decode cX7_key 27 = .ok (.aload_n 0, 1) := by decide +kernel
theorem dX7_key_28 : decode cX7_key 28 = .ok (.getfield 23, 3) := by decide +kernel
theorem dX7_key_31 : decode cX7_key 31 = .ok (.iload 4, 2) := by decide +kernel
theorem dX7_key_33 : decode cX7_key 33 = .ok (.iaload, 1) := by decide +kernel
theorem dX7_key_34 : decode cX7_key 34 = .ok (.ifCond .lt 42, 3) := by decide +kernel
theorem dX7_key_37 : decode cX7_key 37 = .ok (.aload_n 0, 1) := by decide +kernel
theorem dX7_key_38 : decode cX7_key 38 = .ok (.iconst 1, 1) := by decide +kernel
theorem dX7_key_39 : decode cX7_key 39 = .ok (.iload 4, 2) := by decide +kernel
theorem dX7_key_41 : decode cX7_key 41 = .ok (.ishl, 1) := by decide +kernel
theorem dX7_key_42 : decode cX7_key 42 = .ok (.invokevirtual 189, 3) := by decide +kernel
theorem dX7_key_45 : decode cX7_key 45 = .ok (.invokestatic 77, 3) := by decide +kernel
theorem dX7_key_48 : decode cX7_key 48 = .ok (.istore 5, 2) := by decide +kernel
theorem dX7_key_50 : decode cX7_key 50 = .ok (.iload 5, 2) := by decide +kernel
theorem dX7_key_52 : decode cX7_key 52 = .ok (.iload_n 3, 1) := by decide +kernel
theorem dX7_key_53 : decode cX7_key 53 = .ok (.if_icmp .le 8, 3) := by decide +kernel
theorem dX7_key_56 : decode cX7_key 56 = .ok (.iload 4, 2) := by decide +kernel
theorem dX7_key_58 : decode cX7_key 58 = .ok (.goto 4, 3) := by decide +kernel
theorem dX7_key_61 : decode cX7_key 61 = .ok (.iload_n 2, 1) := by decide +kernel
theorem dX7_key_62 : decode cX7_key 62 = .ok (.istore_n 2, 1) := by decide +kernel
theorem dX7_key_63 : decode cX7_key 63 = .ok (.iload 5, 2) := by decide +kernel
theorem dX7_key_65 : decode cX7_key 65 = .ok (.iload_n 3, 1) := by decide +kernel
theorem dX7_key_66 : decode cX7_key 66 = .ok (.if_icmp .le 8, 3) := by decide +kernel
theorem dX7_key_69 : decode cX7_key 69 = .ok (.iload 5, 2) := by decide +kernel
theorem dX7_key_71 : decode cX7_key 71 = .ok (.goto 4, 3) := by decide +kernel
theorem dX7_key_74 : decode cX7_key 74 = .ok (.iload_n 3, 1) := by decide +kernel
theorem dX7_key_75 : decode cX7_key 75 = .ok (.istore_n 3, 1) := by decide +kernel
theorem dX7_key_76 : decode cX7_key 76 = .ok (.iinc 4 1, 3) := by decide +kernel
theorem dX7_key_79 : decode cX7_key 79 = .ok (.goto (-59), 3) := by decide +kernel
theorem dX7_key_82 : decode cX7_key 82 = .ok (.iload_n 2, 1) := by decide +kernel
theorem dX7_key_83 : decode cX7_key 83 = .ok (.ifCond .lt 7, 3) := by decide +kernel
theorem dX7_key_86 : decode cX7_key 86 = .ok (.iload_n 1, 1) := by decide +kernel
theorem dX7_key_87 : decode cX7_key 87 = .ok (.ifCond .ne 7, 3) := by decide +kernel
theorem dX7_key_90 : decode cX7_key 90 = .ok (.iload_n 2, 1) := by decide +kernel
theorem dX7_key_91 : decode cX7_key 91 = .ok (.goto 4, 3) := by decide +kernel
theorem dX7_key_94 : decode cX7_key 94 = .ok (.iload_n 3, 1) := by decide +kernel
theorem dX7_key_95 : decode cX7_key 95 = .ok (.ireturn, 1) := by decide +kernel
set_option maxRecDepth 20000 in
theorem ggX7_seen_X7_in : GoodIn wsX7_seen wsX7_in := goodIn_r _ [7] (by decide +kernel) (by decide +kernel)
set_option maxRecDepth 20000 in
theorem gX7_seen_X7_in : GoodIn wsX7_seen (va_wsS RX7 73 yX7_in wsX7_in) := goodIn_app (goodIn_of _ (by decide +kernel)) ggX7_seen_X7_in
theorem dX7_seen_0 : decode cX7_seen 0 = .ok (.iload_n 1, 1) := by decide +kernel
theorem dX7_seen_1 : decode cX7_seen 1 = .ok (.iconst 0, 1) := by decide +kernel
theorem dX7_seen_2 : decode cX7_seen 2 = .ok (.aload_n 0, 1) := by decide +kernel
theorem dX7_seen_3 : decode cX7_seen 3 = .ok (.getfield 7, 3) := by decide +kernel
theorem dX7_seen_6 : decode cX7_seen 6 = .ok (.iconst 1, 1) := by decide +kernel
theorem dX7_seen_7 : decode cX7_seen 7 = .ok (.isub, 1) := by decide +kernel
theorem dX7_seen_8 : decode cX7_seen 8 = .ok (.invokestatic 73, 3) := by decide +kernel
theorem dX7_seen_11 : decode cX7_seen 11 = .ok (.ifCond .ne 5, 3) := by decide +kernel
theorem dX7_seen_14 : decode cX7_seen 14 = .ok (.iconst (-1), 1) := by decide +kernel
theorem dX7_seen_15 : decode cX7_seen 15 = .ok (.ireturn, 1) := by decide +kernel
theorem dX7_seen_16 : decode cX7_seen 16 = .ok (.iload_n 2, 1) := by decide +kernel
theorem dX7_seen_17 : decode cX7_seen 17 = .ok (.iconst 0, 1) := by decide +kernel
theorem dX7_seen_18 : decode cX7_seen 18 = .ok (.bipush 10, 2) := by decide +kernel
theorem dX7_seen_20 : decode cX7_seen 20 = .ok (.invokestatic 73, 3) := by decide +kernel
theorem dX7_seen_23 : decode cX7_seen 23 = .ok (.ifCond .ne 6, 3) := by decide +kernel
theorem dX7_seen_26 : decode cX7_seen 26 = .ok (.bipush (-2), 2) := by decide +kernel
theorem dX7_seen_28 : decode cX7_seen 28 = .ok (.ireturn, 1) := by decide +kernel
theorem dX7_seen_29 : decode cX7_seen 29 = .ok (.aload_n 0, 1) := by decide +kernel
theorem dX7_seen_30 : decode cX7_seen 30 = .ok (.getfield 70, 3) := by decide +kernel
theorem dX7_seen_33 : decode cX7_seen 33 = .ok (.bipush 8, 2) := by decide +kernel
theorem dX7_seen_35 : decode cX7_seen 35 = .ok (.if_icmp .ne 6, 3) := by decide +kernel
theorem dX7_seen_38 : decode cX7_seen 38 = .ok (.bipush (-4), 2) := by decide +kernel
theorem dX7_seen_40 : decode cX7_seen 40 = .ok (.ireturn, 1) := by decide +kernel
theorem dX7_seen_41 : decode cX7_seen 41 = .ok (.aload_n 0, 1) := by decide +kernel
theorem dX7_seen_42 : decode cX7_seen 42 = .ok (.getfield 29, 3) := by decide +kernel
theorem dX7_seen_45 : decode cX7_seen 45 = .ok (.iconst 2, 1) := by decide +kernel
theorem dX7_seen_46 : decode cX7_seen 46 = .ok (.aload_n 0, 1) := by decide +kernel
theorem dX7_seen_47 : decode cX7_seen 47 = .ok (.getfield 70, 3) := by decide +kernel
theorem dX7_seen_50 : decode cX7_seen 50 = .ok (.imul, 1) := by decide +kernel
theorem dX7_seen_51 : decode cX7_seen 51 = .ok (.iload_n 1, 1) := by decide +kernel
theorem dX7_seen_52 : decode cX7_seen 52 = .ok (.iastore, 1) := by decide +kernel
theorem dX7_seen_53 : decode cX7_seen 53 = .ok (.aload_n 0, 1) := by decide +kernel
theorem dX7_seen_54 : decode cX7_seen 54 = .ok (.getfield 29, 3) := by decide +kernel
theorem dX7_seen_57 : decode cX7_seen 57 = .ok (.iconst 2, 1) := by decide +kernel
theorem dX7_seen_58 : decode cX7_seen 58 = .ok (.aload_n 0, 1) := by decide +kernel
theorem dX7_seen_59 : decode cX7_seen 59 = .ok (.getfield 70, 3) := by decide +kernel
theorem dX7_seen_62 : decode cX7_seen 62 = .ok (.imul, 1) := by decide +kernel
theorem dX7_seen_63 : decode cX7_seen 63 = .ok (.iconst 1, 1) := by decide +kernel
theorem dX7_seen_64 : decode cX7_seen 64 = .ok (.iadd, 1) := by decide +kernel
theorem dX7_seen_65 : decode cX7_seen 65 = .ok (.iload_n 2, 1) := by decide +kernel
theorem dX7_seen_66 : decode cX7_seen 66 = .ok (.iastore, 1) := by decide +kernel
theorem dX7_seen_67 : decode cX7_seen 67 = .ok (.aload_n 0, 1) := by decide +kernel
theorem dX7_seen_68 : decode cX7_seen 68 = .ok (.dup, 1) := by decide +kernel
theorem dX7_seen_69 : decode cX7_seen 69 = .ok (.getfield 70, 3) := by decide +kernel
theorem dX7_seen_72 : decode cX7_seen 72 = .ok (.iconst 1, 1) := by decide +kernel
theorem dX7_seen_73 : decode cX7_seen 73 = .ok (.iadd, 1) := by decide +kernel
theorem dX7_seen_74 : decode cX7_seen 74 = .ok (.putfield 70, 3) := by decide +kernel
theorem dX7_seen_77 : decode cX7_seen 77 = .ok (.aload_n 0, 1) := by decide +kernel
theorem dX7_seen_78 : decode cX7_seen 78 = .ok (.getfield 70, 3) := by decide +kernel
theorem dX7_seen_81 : decode cX7_seen 81 = .ok (.ireturn, 1) := by decide +kernel
theorem dX7_forget_0 : decode cX7_forget 0 = .ok (.aload_n 0, 1) := by decide +kernel
theorem dX7_forget_1 : decode cX7_forget 1 = .ok (.getfield 70, 3) := by decide +kernel
theorem dX7_forget_4 : decode cX7_forget 4 = .ok (.istore_n 1, 1) := by decide +kernel
theorem dX7_forget_5 : decode cX7_forget 5 = .ok (.aload_n 0, 1) := by decide +kernel
theorem dX7_forget_6 : decode cX7_forget 6 = .ok (.iconst 0, 1) := by decide +kernel
theorem dX7_forget_7 : decode cX7_forget 7 = .ok (.putfield 70, 3) := by decide +kernel
theorem dX7_forget_10 : decode cX7_forget 10 = .ok (.iload_n 1, 1) := by decide +kernel
theorem dX7_forget_11 : decode cX7_forget 11 = .ok (.ireturn, 1) := by decide +kernel
set_option maxRecDepth 20000 in
theorem ggX7_layWho_X7_codes : GoodIn wsX7_layWho wsX7_codes := goodIn_r _ [12, 13] (by decide +kernel) (by decide +kernel)
set_option maxRecDepth 20000 in
theorem gX7_layWho_X7_codes : GoodIn wsX7_layWho (va_wsS RX7 180 yX7_codes wsX7_codes) := goodIn_app (goodIn_of _ (by decide +kernel)) ggX7_layWho_X7_codes
set_option maxRecDepth 20000 in
theorem ggX7_layWho_X7_putsBy : GoodIn wsX7_layWho wsX7_putsBy := goodIn_r _ [17, 7, 18, 19, 8, 20, 21, 11, 22, 23, 24, 25, 26, 27, 28, 29, 30, 31, 32, 33, 34, 35, 36, 37, 38, 39, 40, 41, 42, 43, 44, 45, 46, 47, 48, 49, 50, 51, 52, 53, 54, 55, 56, 57, 58, 59, 60, 61, 62, 63, 64, 65, 66, 67, 68, 69, 70, 71, 72, 73, 74, 75, 76, 77, 78, 79, 80, 81, 82, 83, 84, 85, 86, 87, 88, 89, 90, 91, 92, 93, 94, 95, 96, 97, 98, 99, 100] (by decide +kernel) (by decide +kernel)
set_option maxRecDepth 20000 in
theorem gX7_layWho_X7_putsBy : GoodIn wsX7_layWho (wsV RX7 183 RX7 yX7_putsBy wsX7_putsBy) := goodIn_app (goodIn_of _ (by decide +kernel)) ggX7_layWho_X7_putsBy
set_option maxRecDepth 20000 in
theorem ggX7_layWho_X7_heightOf : GoodIn wsX7_layWho wsX7_heightOf := goodIn_r _ [42, 27, 43, 44, 45, 11, 46, 28, 34, 35, 36, 37, 38, 75, 76, 77, 78, 79, 80, 81, 82, 83, 84, 85, 86, 87, 88, 89, 90, 91, 92, 93, 94, 95, 96, 97, 98, 99, 100] (by decide +kernel) (by decide +kernel)
set_option maxRecDepth 20000 in
theorem gX7_layWho_X7_heightOf : GoodIn wsX7_layWho (wsV RX7 96 RX7 yX7_heightOf wsX7_heightOf) := goodIn_app (goodIn_of _ (by decide +kernel)) ggX7_layWho_X7_heightOf
theorem dX7_layWho_0 : decode cX7_layWho 0 = .ok (.aload_n 0, 1) := by decide +kernel
theorem dX7_layWho_1 : decode cX7_layWho 1 = .ok (.iconst 0, 1) := by decide +kernel
theorem dX7_layWho_2 : decode cX7_layWho 2 = .ok (.putfield 192, 3) := by decide +kernel
theorem dX7_layWho_5 : decode cX7_layWho 5 = .ok (.aload_n 0, 1) := by decide +kernel
theorem dX7_layWho_6 : decode cX7_layWho 6 = .ok (.iconst 0, 1) := by decide +kernel
theorem dX7_layWho_7 : decode cX7_layWho 7 = .ok (.putfield 195, 3) := by decide +kernel
theorem dX7_layWho_10 : decode cX7_layWho 10 = .ok (.aload_n 0, 1) := by decide +kernel
theorem dX7_layWho_11 : decode cX7_layWho 11 = .ok (.sipush 1023, 3) := by decide +kernel
theorem dX7_layWho_14 : decode cX7_layWho 14 = .ok (.putfield 198, 3) := by decide +kernel
theorem dX7_layWho_17 : decode cX7_layWho 17 = .ok (.iconst 0, 1) := by decide +kernel
theorem dX7_layWho_18 : decode cX7_layWho 18 = .ok (.istore_n 2, 1) := by decide +kernel
theorem dX7_layWho_19 : decode cX7_layWho 19 = .ok (.iload_n 2, 1) := by decide +kernel
theorem dX7_layWho_20 : decode cX7_layWho 20 = .ok (.bipush 110, 2) := by decide +kernel
theorem dX7_layWho_22 : decode cX7_layWho 22 = .ok (.if_icmp .ge 16, 3) := by decide +kernel
theorem dX7_layWho_25 : decode cX7_layWho 25 = .ok (.aload_n 0, 1) := by decide +kernel
theorem dX7_layWho_26 : decode cX7_layWho 26 = .ok (.getfield 54, 3) := by decide +kernel
theorem dX7_layWho_29 : decode cX7_layWho 29 = .ok (.iload_n 2, 1) := by decide +kernel
theorem dX7_layWho_30 : decode cX7_layWho 30 = .ok (.iconst 0, 1) := by decide +kernel
theorem dX7_layWho_31 : decode cX7_layWho 31 = .ok (.iastore, 1) := by decide +kernel
theorem dX7_layWho_32 : decode cX7_layWho 32 = .ok (.iinc 2 1, 3) := by decide +kernel
theorem dX7_layWho_35 : decode cX7_layWho 35 = .ok (.goto (-16), 3) := by decide +kernel
theorem dX7_layWho_38 : decode cX7_layWho 38 = .ok (.iconst 0, 1) := by decide +kernel
theorem dX7_layWho_39 : decode cX7_layWho 39 = .ok (.istore_n 2, 1) := by decide +kernel
theorem dX7_layWho_40 : decode cX7_layWho 40 = .ok (.iload_n 2, 1) := by decide +kernel
theorem dX7_layWho_41 : decode cX7_layWho 41 = .ok (.iload_n 1, 1) := by decide +kernel
theorem dX7_layWho_42 : decode cX7_layWho 42 = .ok (.invokestatic 180, 3) := by decide +kernel
theorem dX7_layWho_45 : decode cX7_layWho 45 = .ok (.if_icmp .ge 178, 3) := by decide +kernel
theorem dX7_layWho_48 : decode cX7_layWho 48 = .ok (.aload_n 0, 1) := by decide +kernel
theorem dX7_layWho_49 : decode cX7_layWho 49 = .ok (.iload_n 2, 1) := by decide +kernel
theorem dX7_layWho_50 : decode cX7_layWho 50 = .ok (.iload_n 1, 1) := by decide +kernel
theorem dX7_layWho_51 : decode cX7_layWho 51 = .ok (.invokevirtual 183, 3) := by decide +kernel
theorem dX7_layWho_54 : decode cX7_layWho 54 = .ok (.istore_n 3, 1) := by decide +kernel
theorem dX7_layWho_55 : decode cX7_layWho 55 = .ok (.iconst 0, 1) := by decide +kernel
theorem dX7_layWho_56 : decode cX7_layWho 56 = .ok (.istore 4, 2) := by decide +kernel
theorem dX7_layWho_58 : decode cX7_layWho 58 = .ok (.iload 4, 2) := by decide +kernel
theorem dX7_layWho_60 : decode cX7_layWho 60 = .ok (.aload_n 0, 1) := by decide +kernel
theorem dX7_layWho_61 : decode cX7_layWho 61 = .ok (.getfield 70, 3) := by decide +kernel
theorem dX7_layWho_64 : decode cX7_layWho 64 = .ok (.if_icmp .ge 46, 3) := by decide +kernel
theorem dX7_layWho_67 : decode cX7_layWho 67 = .ok (.iload_n 3, 1) := by decide +kernel
theorem dX7_layWho_68 : decode cX7_layWho 68 = .ok (.ifCond .eq 42, 3) := by decide +kernel
theorem dX7_layWho_71 : decode cX7_layWho 71 = .ok (.aload_n 0, 1) := by decide +kernel
theorem dX7_layWho_72 : decode cX7_layWho 72 = .ok (.aload_n 0, 1) := by decide +kernel
theorem dX7_layWho_73 : decode cX7_layWho 73 = .ok (.getfield 29, 3) := by decide +kernel
theorem dX7_layWho_76 : decode cX7_layWho 76 = .ok (.iconst 2, 1) := by decide +kernel
theorem dX7_layWho_77 : decode cX7_layWho 77 = .ok (.iload 4, 2) := by decide +kernel
theorem dX7_layWho_79 : decode cX7_layWho 79 = .ok (.imul, 1) := by decide +kernel
theorem dX7_layWho_80 : decode cX7_layWho 80 = .ok (.iaload, 1) := by decide +kernel
theorem dX7_layWho_81 : decode cX7_layWho 81 = .ok (.invokevirtual 96, 3) := by decide +kernel
theorem dX7_layWho_84 : decode cX7_layWho 84 = .ok (.aload_n 0, 1) := by decide +kernel
theorem dX7_layWho_85 : decode cX7_layWho 85 = .ok (.getfield 29, 3) := by decide +kernel
theorem dX7_layWho_88 : decode cX7_layWho 88 = .ok (.iconst 2, 1) := by decide +kernel
theorem dX7_layWho_89 : decode cX7_layWho 89 = .ok (.iload 4, 2) := by decide +kernel
theorem dX7_layWho_91 : decode cX7_layWho 91 = .ok (.imul, 1) := by decide +kernel
theorem dX7_layWho_92 : decode cX7_layWho 92 = .ok (.iconst 1, 1) := by decide +kernel
theorem dX7_layWho_93 : decode cX7_layWho 93 = .ok (.iadd, 1) := by decide +kernel
theorem dX7_layWho_94 : decode cX7_layWho 94 = .ok (.iaload, 1) := by decide +kernel
theorem dX7_layWho_95 : decode cX7_layWho 95 = .ok (.if_icmp .ne 7, 3) := by decide +kernel
theorem dX7_layWho_98 : decode cX7_layWho 98 = .ok (.iconst 1, 1) := by decide +kernel
theorem dX7_layWho_99 : decode cX7_layWho 99 = .ok (.goto 4, 3) := by decide +kernel
theorem dX7_layWho_102 : decode cX7_layWho 102 = .ok (.iconst 0, 1) := by decide +kernel
theorem dX7_layWho_103 : decode cX7_layWho 103 = .ok (.istore_n 3, 1) := by decide +kernel
theorem dX7_layWho_104 : decode cX7_layWho 104 = .ok (.iinc 4 1, 3) := by decide +kernel
theorem dX7_layWho_107 : decode cX7_layWho 107 = .ok (.goto (-49), 3) := by decide +kernel
theorem dX7_layWho_110 : decode cX7_layWho 110 = .ok (.iload_n 3, 1) := by decide +kernel
theorem dX7_layWho_111 : decode cX7_layWho 111 = .ok (.ifCond .eq 106, 3) := by decide +kernel
theorem dX7_layWho_114 : decode cX7_layWho 114 = .ok (.iconst 0, 1) := by decide +kernel
theorem dX7_layWho_115 : decode cX7_layWho 115 = .ok (.istore 4, 2) := by decide +kernel
theorem dX7_layWho_117 : decode cX7_layWho 117 = .ok (.iconst 0, 1) := by decide +kernel
theorem dX7_layWho_118 : decode cX7_layWho 118 = .ok (.istore 5, 2) := by decide +kernel
theorem dX7_layWho_120 : decode cX7_layWho 120 = .ok (.iload 5, 2) := by decide +kernel
theorem dX7_layWho_122 : decode cX7_layWho 122 = .ok (.iload_n 1, 1) := by decide +kernel
theorem dX7_layWho_123 : decode cX7_layWho 123 = .ok (.if_icmp .ge 23, 3) := by decide +kernel
theorem dX7_layWho_126 : decode cX7_layWho 126 = .ok (.iload 4, 2) := by decide +kernel
theorem dX7_layWho_128 : decode cX7_layWho 128 = .ok (.iconst 1, 1) := by decide +kernel
theorem dX7_layWho_129 : decode cX7_layWho 129 = .ok (.aload_n 0, 1) := by decide +kernel
theorem dX7_layWho_130 : decode cX7_layWho 130 = .ok (.getfield 51, 3) := by decide +kernel
theorem dX7_layWho_133 : decode cX7_layWho 133 = .ok (.iload 5, 2) := by decide +kernel
theorem dX7_layWho_135 : decode cX7_layWho 135 = .ok (.iaload, 1) := by decide +kernel
theorem dX7_layWho_136 : decode cX7_layWho 136 = .ok (.ishl, 1) := by decide +kernel
theorem dX7_layWho_137 : decode cX7_layWho 137 = .ok (.ior, 1) := by decide +kernel
theorem dX7_layWho_138 : decode cX7_layWho 138 = .ok (.istore 4, 2) := by decide +kernel
theorem dX7_layWho_140 : decode cX7_layWho 140 = .ok (.iinc 5 1, 3) := by decide +kernel
theorem dX7_layWho_143 : decode cX7_layWho 143 = .ok (.goto (-23), 3) := by decide +kernel
theorem dX7_layWho_146 : decode cX7_layWho 146 = .ok (.aload_n 0, 1) := by decide +kernel
theorem dX7_layWho_147 : decode cX7_layWho 147 = .ok (.dup, 1) := by decide +kernel
theorem dX7_layWho_148 : decode cX7_layWho 148 = .ok (.getfield 192, 3) := by decide +kernel
theorem dX7_layWho_151 : decode cX7_layWho 151 = .ok (.iconst 1, 1) := by decide +kernel
theorem dX7_layWho_152 : decode cX7_layWho 152 = .ok (.iadd, 1) := by decide +kernel
theorem dX7_layWho_153 : decode cX7_layWho 153 = .ok (.putfield 192, 3) := by decide +kernel
theorem dX7_layWho_156 : decode cX7_layWho 156 = .ok (.aload_n 0, 1) := by decide +kernel
theorem dX7_layWho_157 : decode cX7_layWho 157 = .ok (.dup, 1) := by decide +kernel
theorem dX7_layWho_158 : decode cX7_layWho 158 = .ok (.getfield 195, 3) := by decide +kernel
theorem dX7_layWho_161 : decode cX7_layWho 161 = .ok (.iload 4, 2) := by decide +kernel
theorem dX7_layWho_163 : decode cX7_layWho 163 = .ok (.ior, 1) := by decide +kernel
theorem dX7_layWho_164 : decode cX7_layWho 164 = .ok (.putfield 195, 3) := by decide +kernel
theorem dX7_layWho_167 : decode cX7_layWho 167 = .ok (.aload_n 0, 1) := by decide +kernel
theorem dX7_layWho_168 : decode cX7_layWho 168 = .ok (.dup, 1) := by decide +kernel
theorem dX7_layWho_169 : decode cX7_layWho 169 = .ok (.getfield 198, 3) := by decide +kernel
theorem dX7_layWho_172 : decode cX7_layWho 172 = .ok (.iload 4, 2) := by decide +kernel
theorem dX7_layWho_174 : decode cX7_layWho 174 = .ok (.iand, 1) := by decide +kernel
theorem dX7_layWho_175 : decode cX7_layWho 175 = .ok (.putfield 198, 3) := by decide +kernel
theorem dX7_layWho_178 : decode cX7_layWho 178 = .ok (.iconst 0, 1) := by decide +kernel
theorem dX7_layWho_179 : decode cX7_layWho 179 = .ok (.istore 5, 2) := by decide +kernel
theorem dX7_layWho_181 : decode cX7_layWho 181 = .ok (.iload 5, 2) := by decide +kernel
theorem dX7_layWho_183 : decode cX7_layWho 183 = .ok (.aload_n 0, 1) := by decide +kernel
theorem dX7_layWho_184 : decode cX7_layWho 184 = .ok (.getfield 7, 3) := by decide +kernel
theorem dX7_layWho_187 : decode cX7_layWho 187 = .ok (.if_icmp .ge 30, 3) := by decide +kernel
theorem dX7_layWho_190 : decode cX7_layWho 190 = .ok (.aload_n 0, 1) := by decide +kernel
theorem dX7_layWho_191 : decode cX7_layWho 191 = .ok (.getfield 54, 3) := by decide +kernel
theorem dX7_layWho_194 : decode cX7_layWho 194 = .ok (.bipush 11, 2) := by decide +kernel
theorem dX7_layWho_196 : decode cX7_layWho 196 = .ok (.iload 5, 2) := by decide +kernel
theorem dX7_layWho_198 : decode cX7_layWho 198 = .ok (.imul, 1) := by decide +kernel
theorem dX7_layWho_199 : decode cX7_layWho 199 = .ok (.aload_n 0, 1) := by decide +kernel
theorem dX7_layWho_200 : decode cX7_layWho 200 = .ok (.iload 5, 2) := by decide +kernel
theorem dX7_layWho_202 : decode cX7_layWho 202 = .ok (.invokevirtual 96, 3) := by decide +kernel
theorem dX7_layWho_205 : decode cX7_layWho 205 = .ok (.iadd, 1) := by decide +kernel
theorem dX7_layWho_206 : decode cX7_layWho 206 = .ok (.dup2, 1) := by decide +kernel
theorem dX7_layWho_207 : decode cX7_layWho 207 = .ok (.iaload, 1) := by decide +kernel
theorem dX7_layWho_208 : decode cX7_layWho 208 = .ok (.iconst 1, 1) := by decide +kernel
theorem dX7_layWho_209 : decode cX7_layWho 209 = .ok (.iadd, 1) := by decide +kernel
theorem dX7_layWho_210 : decode cX7_layWho 210 = .ok (.iastore, 1) := by decide +kernel
theorem dX7_layWho_211 : decode cX7_layWho 211 = .ok (.iinc 5 1, 3) := by decide +kernel
theorem dX7_layWho_214 : decode cX7_layWho 214 = .ok (.goto (-33), 3) := by decide +kernel
theorem dX7_layWho_217 : decode cX7_layWho 217 = .ok (.iinc 2 1, 3) := by decide +kernel
theorem dX7_layWho_220 : decode cX7_layWho 220 = .ok (.goto (-180), 3) := by decide +kernel
theorem dX7_layWho_223 : decode cX7_layWho 223 = .ok (.return_, 1) := by decide +kernel
set_option maxRecDepth 20000 in
theorem ggX7_who_X7_in : GoodIn wsX7_who wsX7_in := goodIn_r _ [7] (by decide +kernel) (by decide +kernel)
set_option maxRecDepth 20000 in
theorem gX7_who_X7_in : GoodIn wsX7_who (va_wsS RX7 73 yX7_in wsX7_in) := goodIn_app (goodIn_of _ (by decide +kernel)) ggX7_who_X7_in
set_option maxRecDepth 20000 in
theorem ggX7_who_X7_layWho : GoodIn wsX7_who wsX7_layWho := goodIn_r _ [11, 1, 2, 3, 12, 13, 14, 15, 16, 17, 18, 6, 19, 20, 21, 22, 23, 24, 25, 26, 27, 28, 29, 30, 31, 32, 33, 34, 35, 36, 37, 38, 39, 40, 41, 42, 43, 44, 45, 46, 47, 48, 49, 50, 51, 52, 53, 54, 55, 56, 57, 58, 59, 60, 61, 62, 63, 64, 65, 66, 67, 68, 69, 70, 71, 72, 73, 74, 75, 76, 77, 78, 79, 80, 81, 82, 83, 84, 85, 86, 87, 88, 89, 90, 91, 92, 93, 94, 95, 96, 97, 98, 99, 100, 101, 102, 103, 104, 105, 106, 107] (by decide +kernel) (by decide +kernel)
set_option maxRecDepth 20000 in
theorem gX7_who_X7_layWho : GoodIn wsX7_who (wsV RX7 201 RX7 yX7_layWho wsX7_layWho) := goodIn_app (goodIn_of _ (by decide +kernel)) ggX7_who_X7_layWho
theorem dX7_who_0 : decode cX7_who 0 = .ok (.iload_n 1, 1) := by decide +kernel
theorem dX7_who_1 : decode cX7_who 1 = .ok (.iconst 0, 1) := by decide +kernel
theorem dX7_who_2 : decode cX7_who 2 = .ok (.iconst 2, 1) := by decide +kernel
theorem dX7_who_3 : decode cX7_who 3 = .ok (.invokestatic 73, 3) := by decide +kernel
theorem dX7_who_6 : decode cX7_who 6 = .ok (.ifCond .eq 12, 3) := by decide +kernel
theorem dX7_who_9 : decode cX7_who 9 = .ok (.iload_n 2, 1) := by decide +kernel
theorem dX7_who_10 : decode cX7_who 10 = .ok (.iconst 0, 1) := by decide +kernel
theorem dX7_who_11 : decode cX7_who 11 = .ok (.iconst 2, 1) := by decide +kernel
theorem dX7_who_12 : decode cX7_who 12 = .ok (.invokestatic 73, 3) := by decide +kernel
theorem dX7_who_15 : decode cX7_who 15 = .ok (.ifCond .ne 6, 3) := by decide +kernel
theorem dX7_who_18 : decode cX7_who 18 = .ok (.bipush (-2), 2) := by decide +kernel
theorem dX7_who_20 : decode cX7_who 20 = .ok (.ireturn, 1) := by decide +kernel
theorem dX7_who_21 : decode cX7_who 21 = .ok (.aload_n 0, 1) := by decide +kernel
theorem dX7_who_22 : decode cX7_who 22 = .ok (.iload_n 1, 1) := by decide +kernel
theorem dX7_who_23 : decode cX7_who 23 = .ok (.invokevirtual 201, 3) := by decide +kernel
theorem dX7_who_26 : decode cX7_who 26 = .ok (.iload_n 2, 1) := by decide +kernel
theorem dX7_who_27 : decode cX7_who 27 = .ok (.ifCond .ne 10, 3) := by decide +kernel
theorem dX7_who_30 : decode cX7_who 30 = .ok (.aload_n 0, 1) := by decide +kernel
theorem dX7_who_31 : decode cX7_who 31 = .ok (.getfield 192, 3) := by decide +kernel
theorem dX7_who_34 : decode cX7_who 34 = .ok (.goto 30, 3) := by decide +kernel
theorem dX7_who_37 : decode cX7_who 37 = .ok (.iload_n 2, 1) := by decide +kernel
theorem dX7_who_38 : decode cX7_who 38 = .ok (.iconst 1, 1) := by decide +kernel
theorem dX7_who_39 : decode cX7_who 39 = .ok (.if_icmp .ne 10, 3) := by decide +kernel
theorem dX7_who_42 : decode cX7_who 42 = .ok (.aload_n 0, 1) := by decide +kernel
theorem dX7_who_43 : decode cX7_who 43 = .ok (.getfield 195, 3) := by decide +kernel
theorem dX7_who_46 : decode cX7_who 46 = .ok (.goto 18, 3) := by decide +kernel
theorem dX7_who_49 : decode cX7_who 49 = .ok (.aload_n 0, 1) := by decide +kernel
theorem dX7_who_50 : decode cX7_who 50 = .ok (.getfield 192, 3) := by decide +kernel
theorem dX7_who_53 : decode cX7_who 53 = .ok (.ifCond .ne 7, 3) := by decide +kernel
theorem dX7_who_56 : decode cX7_who 56 = .ok (.iconst 0, 1) := by decide +kernel
theorem dX7_who_57 : decode cX7_who 57 = .ok (.goto 7, 3) := by decide +kernel
theorem dX7_who_60 : decode cX7_who 60 = .ok (.aload_n 0, 1) := by decide +kernel
theorem dX7_who_61 : decode cX7_who 61 = .ok (.getfield 198, 3) := by decide +kernel
theorem dX7_who_64 : decode cX7_who 64 = .ok (.ireturn, 1) := by decide +kernel
set_option maxRecDepth 20000 in
theorem ggX7_look_X7_in : GoodIn wsX7_look wsX7_in := goodIn_r _ [10] (by decide +kernel) (by decide +kernel)
set_option maxRecDepth 20000 in
theorem gX7_look_X7_in : GoodIn wsX7_look (va_wsS RX7 73 yX7_in wsX7_in) := goodIn_app (goodIn_of _ (by decide +kernel)) ggX7_look_X7_in
set_option maxRecDepth 20000 in
theorem ggX7_look_X7_layWho : GoodIn wsX7_look wsX7_layWho := goodIn_r _ [14, 3, 15, 16, 6, 4, 5, 17, 2, 18, 19, 9, 20, 1, 21, 22, 23, 24, 25, 26, 27, 28, 29, 30, 31, 32, 33, 34, 35, 36, 37, 38, 39, 40, 41, 42, 43, 44, 45, 46, 47, 48, 49, 50, 51, 52, 53, 54, 55, 56, 57, 58, 59, 60, 61, 62, 63, 64, 65, 66, 67, 68, 69, 70, 71, 72, 73, 74, 75, 76, 77, 78, 79, 80, 81, 82, 83, 84, 85, 86, 87, 88, 89, 90, 91, 92, 93, 94, 95, 96, 97, 98, 99, 100, 101, 102, 103, 104, 105, 106, 107] (by decide +kernel) (by decide +kernel)
set_option maxRecDepth 20000 in
theorem gX7_look_X7_layWho : GoodIn wsX7_look (wsV RX7 201 RX7 yX7_layWho wsX7_layWho) := goodIn_app (goodIn_of _ (by decide +kernel)) ggX7_look_X7_layWho
theorem dX7_look_0 : decode cX7_look 0 = .ok (.iload_n 1, 1) := by decide +kernel
theorem dX7_look_1 : decode cX7_look 1 = .ok (.iconst 0, 1) := by decide +kernel
theorem dX7_look_2 : decode cX7_look 2 = .ok (.iconst 2, 1) := by decide +kernel
theorem dX7_look_3 : decode cX7_look 3 = .ok (.invokestatic 73, 3) := by decide +kernel
theorem dX7_look_6 : decode cX7_look 6 = .ok (.ifCond .eq 12, 3) := by decide +kernel
theorem dX7_look_9 : decode cX7_look 9 = .ok (.iload_n 2, 1) := by decide +kernel
theorem dX7_look_10 : decode cX7_look 10 = .ok (.iconst 0, 1) := by decide +kernel
theorem dX7_look_11 : decode cX7_look 11 = .ok (.iconst 1, 1) := by decide +kernel
theorem dX7_look_12 : decode cX7_look 12 = .ok (.invokestatic 73, 3) := by decide +kernel
theorem dX7_look_15 : decode cX7_look 15 = .ok (.ifCond .ne 6, 3) := by decide +kernel
theorem dX7_look_18 : decode cX7_look 18 = .ok (.bipush (-2), 2) := by decide +kernel
theorem dX7_look_20 : decode cX7_look 20 = .ok (.ireturn, 1) := by decide +kernel
theorem dX7_look_21 : decode cX7_look 21 = .ok (.aload_n 0, 1) := by decide +kernel
theorem dX7_look_22 : decode cX7_look 22 = .ok (.iload_n 1, 1) := by decide +kernel
theorem dX7_look_23 : decode cX7_look 23 = .ok (.invokevirtual 201, 3) := by decide +kernel
theorem dX7_look_26 : decode cX7_look 26 = .ok (.bipush (-6), 2) := by decide +kernel
theorem dX7_look_28 : decode cX7_look 28 = .ok (.istore_n 3, 1) := by decide +kernel
theorem dX7_look_29 : decode cX7_look 29 = .ok (.ldc 176, 2) := by decide +kernel
theorem dX7_look_31 : decode cX7_look 31 = .ok (.istore 4, 2) := by decide +kernel
theorem dX7_look_33 : decode cX7_look 33 = .ok (.iconst 0, 1) := by decide +kernel
theorem dX7_look_34 : decode cX7_look 34 = .ok (.istore 5, 2) := by decide +kernel
theorem dX7_look_36 : decode cX7_look 36 = .ok (.iload 5, 2) := by decide +kernel
theorem dX7_look_38 : decode cX7_look 38 = .ok (.aload_n 0, 1) := by decide +kernel
theorem dX7_look_39 : decode cX7_look 39 = .ok (.getfield 7, 3) := by decide +kernel
theorem dX7_look_42 : decode cX7_look 42 = .ok (.if_icmp .ge 165, 3) := by decide +kernel
theorem dX7_look_45 : decode cX7_look 45 = .ok (.aload_n 0, 1) := by decide +kernel
theorem dX7_look_46 : decode cX7_look 46 = .ok (.getfield 192, 3) := by decide +kernel
theorem dX7_look_49 : decode cX7_look 49 = .ok (.ifCond .le 158, 3) := by decide +kernel
theorem dX7_look_52 : decode cX7_look 52 = .ok (.iconst 0, 1) := by decide +kernel
theorem dX7_look_53 : decode cX7_look 53 = .ok (.istore 6, 2) := by decide +kernel
theorem dX7_look_55 : decode cX7_look 55 = .ok (.iconst 0, 1) := by decide +kernel
theorem dX7_look_56 : decode cX7_look 56 = .ok (.istore 7, 2) := by decide +kernel
theorem dX7_look_58 : decode cX7_look 58 = .ok (.iload 7, 2) := by decide +kernel
theorem dX7_look_60 : decode cX7_look 60 = .ok (.aload_n 0, 1) := by decide +kernel
theorem dX7_look_61 : decode cX7_look 61 = .ok (.getfield 70, 3) := by decide +kernel
theorem dX7_look_64 : decode cX7_look 64 = .ok (.if_icmp .ge 35, 3) := by decide +kernel
theorem dX7_look_67 : decode cX7_look 67 = .ok (.iload 6, 2) := by decide +kernel
theorem dX7_look_69 : decode cX7_look 69 = .ok (.ifCond .ne 17, 3) := by decide +kernel
theorem dX7_look_72 : decode cX7_look 72 = .ok (.aload_n 0, 1) := by decide +kernel
theorem dX7_look_73 : decode cX7_look 73 = .ok (.getfield 29, 3) := by decide +kernel
theorem dX7_look_76 : decode cX7_look 76 = .ok (.iconst 2, 1) := by decide +kernel
theorem dX7_look_77 : decode cX7_look 77 = .ok (.iload 7, 2) := by decide +kernel
theorem dX7_look_79 : decode cX7_look 79 = .ok (.imul, 1) := by decide +kernel
theorem dX7_look_80 : decode cX7_look 80 = .ok (.iaload, 1) := by decide +kernel
theorem dX7_look_81 : decode cX7_look 81 = .ok (.iload 5, 2) := by decide +kernel
theorem dX7_look_83 : decode cX7_look 83 = .ok (.if_icmp .ne 7, 3) := by decide +kernel
theorem dX7_look_86 : decode cX7_look 86 = .ok (.iconst 1, 1) := by decide +kernel
theorem dX7_look_87 : decode cX7_look 87 = .ok (.goto 4, 3) := by decide +kernel
theorem dX7_look_90 : decode cX7_look 90 = .ok (.iconst 0, 1) := by decide +kernel
theorem dX7_look_91 : decode cX7_look 91 = .ok (.istore 6, 2) := by decide +kernel
theorem dX7_look_93 : decode cX7_look 93 = .ok (.iinc 7 1, 3) := by decide +kernel
theorem dX7_look_96 : decode cX7_look 96 = .ok (.goto (-38), 3) := by decide +kernel
theorem dX7_look_99 : decode cX7_look 99 = .ok (.iconst 0, 1) := by decide +kernel
theorem dX7_look_100 : decode cX7_look 100 = .ok (.istore 7, 2) := by decide +kernel
theorem dX7_look_102 : decode cX7_look 102 = .ok (.iconst 0, 1) := by decide +kernel
theorem dX7_look_103 : decode cX7_look 103 = .ok (.istore 8, 2) := by decide +kernel
theorem dX7_look_105 : decode cX7_look 105 = .ok (.iload 8, 2) := by decide +kernel
theorem dX7_look_107 : decode cX7_look 107 = .ok (.bipush 11, 2) := by decide +kernel
theorem dX7_look_109 : decode cX7_look 109 = .ok (.if_icmp .ge 47, 3) := by decide +kernel
theorem dX7_look_112 : decode cX7_look 112 = .ok (.aload_n 0, 1) := by decide +kernel
theorem dX7_look_113 : decode cX7_look 113 = .ok (.getfield 54, 3) := by decide +kernel
theorem dX7_look_116 : decode cX7_look 116 = .ok (.bipush 11, 2) := by decide +kernel
theorem dX7_look_118 : decode cX7_look 118 = .ok (.iload 5, 2) := by decide +kernel
theorem dX7_look_120 : decode cX7_look 120 = .ok (.imul, 1) := by decide +kernel
theorem dX7_look_121 : decode cX7_look 121 = .ok (.iload 8, 2) := by decide +kernel
theorem dX7_look_123 : decode cX7_look 123 = .ok (.iadd, 1) := by decide +kernel
theorem dX7_look_124 : decode cX7_look 124 = .ok (.iaload, 1) := by decide +kernel
theorem dX7_look_125 : decode cX7_look 125 = .ok (.iload 7, 2) := by decide +kernel
theorem dX7_look_127 : decode cX7_look 127 = .ok (.if_icmp .le 19, 3) := by decide +kernel
theorem dX7_look_130 : decode cX7_look 130 = .ok (.aload_n 0, 1) := by decide +kernel
theorem dX7_look_131 : decode cX7_look 131 = .ok (.getfield 54, 3) := by decide +kernel
theorem dX7_look_134 : decode cX7_look 134 = .ok (.bipush 11, 2) := by decide +kernel
theorem dX7_look_136 : decode cX7_look 136 = .ok (.iload 5, 2) := by decide +kernel
theorem dX7_look_138 : decode cX7_look 138 = .ok (.imul, 1) := by decide +kernel
theorem dX7_look_139 : decode cX7_look 139 = .ok (.iload 8, 2) := by decide +kernel
theorem dX7_look_141 : decode cX7_look 141 = .ok (.iadd, 1) := by decide +kernel
theorem dX7_look_142 : decode cX7_look 142 = .ok (.iaload, 1) := by decide +kernel
theorem dX7_look_143 : decode cX7_look 143 = .ok (.goto 5, 3) := by decide +kernel
theorem dX7_look_146 : decode cX7_look 146 = .ok (.iload 7, 2) := by decide +kernel
theorem dX7_look_148 : decode cX7_look 148 = .ok (.istore 7, 2) := by decide +kernel
theorem dX7_look_150 : decode cX7_look 150 = .ok (.iinc 8 1, 3) := by decide +kernel
theorem dX7_look_153 : decode cX7_look 153 = .ok (.goto (-48), 3) := by decide +kernel
theorem dX7_look_156 : decode cX7_look 156 = .ok (.iload 6, 2) := by decide +kernel
theorem dX7_look_158 : decode cX7_look 158 = .ok (.ifCond .ne 14, 3) := by decide +kernel
theorem dX7_look_161 : decode cX7_look 161 = .ok (.iload 7, 2) := by decide +kernel
theorem dX7_look_163 : decode cX7_look 163 = .ok (.iload 4, 2) := by decide +kernel
theorem dX7_look_165 : decode cX7_look 165 = .ok (.if_icmp .ge 7, 3) := by decide +kernel
theorem dX7_look_168 : decode cX7_look 168 = .ok (.iconst 1, 1) := by decide +kernel
theorem dX7_look_169 : decode cX7_look 169 = .ok (.goto 4, 3) := by decide +kernel
theorem dX7_look_172 : decode cX7_look 172 = .ok (.iconst 0, 1) := by decide +kernel
theorem dX7_look_173 : decode cX7_look 173 = .ok (.istore 8, 2) := by decide +kernel
theorem dX7_look_175 : decode cX7_look 175 = .ok (.iload 8, 2) := by decide +kernel
theorem dX7_look_177 : decode cX7_look 177 = .ok (.ifCond .eq 8, 3) := by decide +kernel
theorem dX7_look_180 : decode cX7_look 180 = .ok (.iload 5, 2) := by decide +kernel
theorem dX7_look_182 : decode cX7_look 182 = .ok (.goto 4, 3) := by decide +kernel
theorem dX7_look_185 : decode cX7_look 185 = .ok (.iload_n 3, 1) := by decide +kernel
theorem dX7_look_186 : decode cX7_look 186 = .ok (.istore_n 3, 1) := by decide +kernel
theorem dX7_look_187 : decode cX7_look 187 = .ok (.iload 8, 2) := by decide +kernel
theorem dX7_look_189 : decode cX7_look 189 = .ok (.ifCond .eq 8, 3) := by decide +kernel
theorem dX7_look_192 : decode cX7_look 192 = .ok (.iload 7, 2) := by decide +kernel
theorem dX7_look_194 : decode cX7_look 194 = .ok (.goto 5, 3) := by decide +kernel
theorem dX7_look_197 : decode cX7_look 197 = .ok (.iload 4, 2) := by decide +kernel
theorem dX7_look_199 : decode cX7_look 199 = .ok (.istore 4, 2) := by decide +kernel
theorem dX7_look_201 : decode cX7_look 201 = .ok (.iinc 5 1, 3) := by decide +kernel
theorem dX7_look_204 : decode cX7_look 204 = .ok (.goto (-168), 3) := by decide +kernel
theorem dX7_look_207 : decode cX7_look 207 = .ok (.iload_n 3, 1) := by decide +kernel
theorem dX7_look_208 : decode cX7_look 208 = .ok (.ifCond .lt 7, 3) := by decide +kernel
theorem dX7_look_211 : decode cX7_look 211 = .ok (.iload_n 2, 1) := by decide +kernel
theorem dX7_look_212 : decode cX7_look 212 = .ok (.ifCond .ne 7, 3) := by decide +kernel
theorem dX7_look_215 : decode cX7_look 215 = .ok (.iload_n 3, 1) := by decide +kernel
theorem dX7_look_216 : decode cX7_look 216 = .ok (.goto 5, 3) := by decide +kernel
theorem dX7_look_219 : decode cX7_look 219 = .ok (.iload 4, 2) := by decide +kernel
theorem dX7_look_221 : decode cX7_look 221 = .ok (.ireturn, 1) := by decide +kernel
set_option maxRecDepth 20000 in
theorem ggX7_weak_X7_in : GoodIn wsX7_weak wsX7_in := goodIn_r _ [9] (by decide +kernel) (by decide +kernel)
set_option maxRecDepth 20000 in
theorem gX7_weak_X7_in : GoodIn wsX7_weak (va_wsS RX7 73 yX7_in wsX7_in) := goodIn_app (goodIn_of _ (by decide +kernel)) ggX7_weak_X7_in
set_option maxRecDepth 20000 in
theorem ggX7_weak_X7_asNow : GoodIn wsX7_weak wsX7_asNow := goodIn_r _ [13, 14, 15, 16, 17, 49, 50, 51, 52, 53, 54, 55, 56, 57, 58, 59, 60, 61, 62, 63, 64, 65, 66, 67, 68, 69, 70, 71, 72, 73, 74] (by decide +kernel) (by decide +kernel)
set_option maxRecDepth 20000 in
theorem gX7_weak_X7_asNow : GoodIn wsX7_weak (wsV RX7 124 RX7 yX7_asNow wsX7_asNow) := goodIn_app (goodIn_of _ (by decide +kernel)) ggX7_weak_X7_asNow
set_option maxRecDepth 20000 in
theorem ggX7_weak_X7_layLoads : GoodIn wsX7_weak wsX7_layLoads := goodIn_r _ [21, 3, 14, 4, 22, 16, 23, 24, 25, 26, 8, 27, 28, 29, 30, 31, 32, 33, 34, 35, 36, 37, 38, 39, 49, 50, 51, 52, 53, 54, 55, 56, 57, 58, 59, 60, 61, 62, 63, 64, 65, 66, 67, 68, 69, 70, 71, 72, 73, 74] (by decide +kernel) (by decide +kernel)
set_option maxRecDepth 20000 in
theorem gX7_weak_X7_layLoads : GoodIn wsX7_weak (wsV RX7 114 RX7 yX7_layLoads wsX7_layLoads) := goodIn_app (goodIn_of _ (by decide +kernel)) ggX7_weak_X7_layLoads
set_option maxRecDepth 20000 in
theorem ggX7_weak_X7_isIn : GoodIn wsX7_weak wsX7_isIn := goodIn_r _ [39, 14, 49, 50, 51, 52, 53, 54, 55, 56, 57, 58, 59, 60, 61, 62, 63, 64, 65, 66, 67, 68, 69, 70, 71, 72, 73, 74] (by decide +kernel) (by decide +kernel)
set_option maxRecDepth 20000 in
theorem gX7_weak_X7_isIn : GoodIn wsX7_weak (wsV RX7 88 RX7 yX7_isIn wsX7_isIn) := goodIn_app (goodIn_of _ (by decide +kernel)) ggX7_weak_X7_isIn
set_option maxRecDepth 20000 in
theorem ggX7_weak_X7_bits : GoodIn wsX7_weak wsX7_bits := goodIn_r _ [42] (by decide +kernel) (by decide +kernel)
set_option maxRecDepth 20000 in
theorem gX7_weak_X7_bits : GoodIn wsX7_weak (va_wsS RX7 77 yX7_bits wsX7_bits) := goodIn_app (goodIn_of _ (by decide +kernel)) ggX7_weak_X7_bits
set_option maxRecDepth 20000 in
theorem ggX7_weak_X7_has : GoodIn wsX7_weak wsX7_has := goodIn_r _ [45] (by decide +kernel) (by decide +kernel)
set_option maxRecDepth 20000 in
theorem gX7_weak_X7_has : GoodIn wsX7_weak (va_wsS RX7 108 yX7_has wsX7_has) := goodIn_app (goodIn_of _ (by decide +kernel)) ggX7_weak_X7_has
set_option maxRecDepth 20000 in
theorem ggX7_weak_X7_part : GoodIn wsX7_weak wsX7_part := goodIn_r _ [48] (by decide +kernel) (by decide +kernel)
set_option maxRecDepth 20000 in
theorem gX7_weak_X7_part : GoodIn wsX7_weak (va_wsS RX7 148 yX7_part wsX7_part) := goodIn_app (goodIn_of _ (by decide +kernel)) ggX7_weak_X7_part
theorem dX7_weak_0 : decode cX7_weak 0 = .ok (.iload_n 1, 1) := by decide +kernel
theorem dX7_weak_1 : decode cX7_weak 1 = .ok (.iconst 0, 1) := by decide +kernel
theorem dX7_weak_2 : decode cX7_weak 2 = .ok (.bipush 10, 2) := by decide +kernel
theorem dX7_weak_4 : decode cX7_weak 4 = .ok (.invokestatic 73, 3) := by decide +kernel
theorem dX7_weak_7 : decode cX7_weak 7 = .ok (.ifCond .eq 21, 3) := by decide +kernel
theorem dX7_weak_10 : decode cX7_weak 10 = .ok (.iload_n 2, 1) := by decide +kernel
theorem dX7_weak_11 : decode cX7_weak 11 = .ok (.iconst 0, 1) := by decide +kernel
theorem dX7_weak_12 : decode cX7_weak 12 = .ok (.iconst 1, 1) := by decide +kernel
theorem dX7_weak_13 : decode cX7_weak 13 = .ok (.invokestatic 73, 3) := by decide +kernel
theorem dX7_weak_16 : decode cX7_weak 16 = .ok (.ifCond .eq 12, 3) := by decide +kernel
theorem dX7_weak_19 : decode cX7_weak 19 = .ok (.iload_n 3, 1) := by decide +kernel
theorem dX7_weak_20 : decode cX7_weak 20 = .ok (.iconst 0, 1) := by decide +kernel
theorem dX7_weak_21 : decode cX7_weak 21 = .ok (.iconst 1, 1) := by decide +kernel
theorem dX7_weak_22 : decode cX7_weak 22 = .ok (.invokestatic 73, 3) := by decide +kernel
theorem dX7_weak_25 : decode cX7_weak 25 = .ok (.ifCond .ne 7, 3) := by decide +kernel
theorem dX7_weak_28 : decode cX7_weak 28 = .ok (.ldc2_w 144, 3) := by decide +kernel
theorem dX7_weak_31 : decode cX7_weak 31 = .ok (.lreturn, 1) := by decide +kernel
theorem dX7_weak_32 : decode cX7_weak 32 = .ok (.aload_n 0, 1) := by decide +kernel
theorem dX7_weak_33 : decode cX7_weak 33 = .ok (.invokevirtual 124, 3) := by decide +kernel
theorem dX7_weak_36 : decode cX7_weak 36 = .ok (.aload_n 0, 1) := by decide +kernel
theorem dX7_weak_37 : decode cX7_weak 37 = .ok (.invokevirtual 114, 3) := by decide +kernel
theorem dX7_weak_40 : decode cX7_weak 40 = .ok (.iconst 0, 1) := by decide +kernel
theorem dX7_weak_41 : decode cX7_weak 41 = .ok (.istore 4, 2) := by decide +kernel
theorem dX7_weak_43 : decode cX7_weak 43 = .ok (.iconst 0, 1) := by decide +kernel
theorem dX7_weak_44 : decode cX7_weak 44 = .ok (.istore 5, 2) := by decide +kernel
theorem dX7_weak_46 : decode cX7_weak 46 = .ok (.iload 5, 2) := by decide +kernel
theorem dX7_weak_48 : decode cX7_weak 48 = .ok (.bipush 10, 2) := by decide +kernel
theorem dX7_weak_50 : decode cX7_weak 50 = .ok (.if_icmp .ge 31, 3) := by decide +kernel
theorem dX7_weak_53 : decode cX7_weak 53 = .ok (.iload 4, 2) := by decide +kernel
theorem dX7_weak_55 : decode cX7_weak 55 = .ok (.aload_n 0, 1) := by decide +kernel
theorem dX7_weak_56 : decode cX7_weak 56 = .ok (.iload 5, 2) := by decide +kernel
theorem dX7_weak_58 : decode cX7_weak 58 = .ok (.invokevirtual 88, 3) := by decide +kernel
theorem dX7_weak_61 : decode cX7_weak 61 = .ok (.ifCond .eq 10, 3) := by decide +kernel
theorem dX7_weak_64 : decode cX7_weak 64 = .ok (.iconst 1, 1) := by decide +kernel
theorem dX7_weak_65 : decode cX7_weak 65 = .ok (.iload 5, 2) := by decide +kernel
theorem dX7_weak_67 : decode cX7_weak 67 = .ok (.ishl, 1) := by decide +kernel
theorem dX7_weak_68 : decode cX7_weak 68 = .ok (.goto 4, 3) := by decide +kernel
theorem dX7_weak_71 : decode cX7_weak 71 = .ok (.iconst 0, 1) := by decide +kernel
theorem dX7_weak_72 : decode cX7_weak 72 = .ok (.ior, 1) := by decide +kernel
theorem dX7_weak_73 : decode cX7_weak 73 = .ok (.istore 4, 2) := by decide +kernel
theorem dX7_weak_75 : decode cX7_weak 75 = .ok (.iinc 5 1, 3) := by decide +kernel
theorem dX7_weak_78 : decode cX7_weak 78 = .ok (.goto (-32), 3) := by decide +kernel
theorem dX7_weak_81 : decode cX7_weak 81 = .ok (.lconst 1, 1) := by decide +kernel
theorem dX7_weak_82 : decode cX7_weak 82 = .ok (.lstore 5, 2) := by decide +kernel
theorem dX7_weak_84 : decode cX7_weak 84 = .ok (.iconst 0, 1) := by decide +kernel
theorem dX7_weak_85 : decode cX7_weak 85 = .ok (.istore 7, 2) := by decide +kernel
theorem dX7_weak_87 : decode cX7_weak 87 = .ok (.iload 7, 2) := by decide +kernel
theorem dX7_weak_89 : decode cX7_weak 89 = .ok (.iload 4, 2) := by decide +kernel
theorem dX7_weak_91 : decode cX7_weak 91 = .ok (.invokestatic 77, 3) := by decide +kernel
theorem dX7_weak_94 : decode cX7_weak 94 = .ok (.if_icmp .ge 17, 3) := by decide +kernel
theorem dX7_weak_97 : decode cX7_weak 97 = .ok (.lload 5, 2) := by decide +kernel
theorem dX7_weak_99 : decode cX7_weak 99 = .ok (.ldc2_w 204, 3) := by decide +kernel
theorem dX7_weak_102 : decode cX7_weak 102 = .ok (.lmul, 1) := by decide +kernel
theorem dX7_weak_103 : decode cX7_weak 103 = .ok (.lstore 5, 2) := by decide +kernel
theorem dX7_weak_105 : decode cX7_weak 105 = .ok (.iinc 7 1, 3) := by decide +kernel
theorem dX7_weak_108 : decode cX7_weak 108 = .ok (.goto (-21), 3) := by decide +kernel
theorem dX7_weak_111 : decode cX7_weak 111 = .ok (.lconst 0, 1) := by decide +kernel
theorem dX7_weak_112 : decode cX7_weak 112 = .ok (.lstore 7, 2) := by decide +kernel
theorem dX7_weak_114 : decode cX7_weak 114 = .ok (.iconst 0, 1) := by decide +kernel
theorem dX7_weak_115 : decode cX7_weak 115 = .ok (.istore 9, 2) := by decide +kernel
theorem dX7_weak_117 : decode cX7_weak 117 = .ok (.iload 9, 2) := by decide +kernel
theorem dX7_weak_119 : decode cX7_weak 119 = .ok (.sipush 1024, 3) := by decide +kernel
theorem dX7_weak_122 : decode cX7_weak 122 = .ok (.if_icmp .ge 160, 3) := by decide +kernel
theorem dX7_weak_125 : decode cX7_weak 125 = .ok (.iload 9, 2) := by decide +kernel
theorem dX7_weak_127 : decode cX7_weak 127 = .ok (.iload 4, 2) := by decide +kernel
theorem dX7_weak_129 : decode cX7_weak 129 = .ok (.iconst (-1), 1) := by decide +kernel
theorem dX7_weak_130 : decode cX7_weak 130 = .ok (.ixor, 1) := by decide +kernel
theorem dX7_weak_131 : decode cX7_weak 131 = .ok (.iand, 1) := by decide +kernel
theorem dX7_weak_132 : decode cX7_weak 132 = .ok (.ifCond .ne 144, 3) := by decide +kernel
theorem dX7_weak_135 : decode cX7_weak 135 = .ok (.lconst 1, 1) := by decide +kernel
theorem dX7_weak_136 : decode cX7_weak 136 = .ok (.lstore 10, 2) := by decide +kernel
theorem dX7_weak_138 : decode cX7_weak 138 = .ok (.iconst 0, 1) := by decide +kernel
theorem dX7_weak_139 : decode cX7_weak 139 = .ok (.istore 12, 2) := by decide +kernel
theorem dX7_weak_141 : decode cX7_weak 141 = .ok (.iconst 0, 1) := by decide +kernel
theorem dX7_weak_142 : decode cX7_weak 142 = .ok (.istore 13, 2) := by decide +kernel
theorem dX7_weak_144 : decode cX7_weak 144 = .ok (.iload 13, 2) := by decide +kernel
theorem dX7_weak_146 : decode cX7_weak 146 = .ok (.bipush 10, 2) := by decide +kernel
theorem dX7_weak_148 : decode cX7_weak 148 = .ok (.if_icmp .ge 98, 3) := by decide +kernel
theorem dX7_weak_151 : decode cX7_weak 151 = .ok (.aload_n 0, 1) := by decide +kernel
theorem dX7_weak_152 : decode cX7_weak 152 = .ok (.iload 13, 2) := by decide +kernel
theorem dX7_weak_154 : decode cX7_weak 154 = .ok (.invokevirtual 88, 3) := by decide +kernel
theorem dX7_weak_157 : decode cX7_weak 157 = .ok (.ifCond .eq 83, 3) := by decide +kernel
theorem dX7_weak_160 : decode cX7_weak 160 = .ok (.lload 10, 2) := by decide +kernel
theorem dX7_weak_162 : decode cX7_weak 162 = .ok (.iload 9, 2) := by decide +kernel
theorem dX7_weak_164 : decode cX7_weak 164 = .ok (.iload 13, 2) := by decide +kernel
theorem dX7_weak_166 : decode cX7_weak 166 = .ok (.invokestatic 108, 3) := by decide +kernel
theorem dX7_weak_169 : decode cX7_weak 169 = .ok (.ifCond .eq 8, 3) := by decide +kernel
theorem dX7_weak_172 : decode cX7_weak 172 = .ok (.iload_n 1, 1) := by decide +kernel
theorem dX7_weak_173 : decode cX7_weak 173 = .ok (.i2l, 1) := by decide +kernel
theorem dX7_weak_174 : decode cX7_weak 174 = .ok (.goto 8, 3) := by decide +kernel
theorem dX7_weak_177 : decode cX7_weak 177 = .ok (.bipush 10, 2) := by decide +kernel
theorem dX7_weak_179 : decode cX7_weak 179 = .ok (.iload_n 1, 1) := by decide +kernel
theorem dX7_weak_180 : decode cX7_weak 180 = .ok (.isub, 1) := by decide +kernel
theorem dX7_weak_181 : decode cX7_weak 181 = .ok (.i2l, 1) := by decide +kernel
theorem dX7_weak_182 : decode cX7_weak 182 = .ok (.lmul, 1) := by decide +kernel
theorem dX7_weak_183 : decode cX7_weak 183 = .ok (.lstore 10, 2) := by decide +kernel
theorem dX7_weak_185 : decode cX7_weak 185 = .ok (.iload 12, 2) := by decide +kernel
theorem dX7_weak_187 : decode cX7_weak 187 = .ok (.aload_n 0, 1) := by decide +kernel
theorem dX7_weak_188 : decode cX7_weak 188 = .ok (.getfield 41, 3) := by decide +kernel
theorem dX7_weak_191 : decode cX7_weak 191 = .ok (.iload 13, 2) := by decide +kernel
theorem dX7_weak_193 : decode cX7_weak 193 = .ok (.laload, 1) := by decide +kernel
theorem dX7_weak_194 : decode cX7_weak 194 = .ok (.ldc2_w 106, 3) := by decide +kernel
theorem dX7_weak_197 : decode cX7_weak 197 = .ok (.iload 9, 2) := by decide +kernel
theorem dX7_weak_199 : decode cX7_weak 199 = .ok (.iload 13, 2) := by decide +kernel
theorem dX7_weak_201 : decode cX7_weak 201 = .ok (.invokestatic 108, 3) := by decide +kernel
theorem dX7_weak_204 : decode cX7_weak 204 = .ok (.ifCond .eq 15, 3) := by decide +kernel
theorem dX7_weak_207 : decode cX7_weak 207 = .ok (.aload_n 0, 1) := by decide +kernel
theorem dX7_weak_208 : decode cX7_weak 208 = .ok (.getfield 20, 3) := by decide +kernel
theorem dX7_weak_211 : decode cX7_weak 211 = .ok (.iload 13, 2) := by decide +kernel
theorem dX7_weak_213 : decode cX7_weak 213 = .ok (.iaload, 1) := by decide +kernel
theorem dX7_weak_214 : decode cX7_weak 214 = .ok (.iconst 2, 1) := by decide +kernel
theorem dX7_weak_215 : decode cX7_weak 215 = .ok (.idiv, 1) := by decide +kernel
theorem dX7_weak_216 : decode cX7_weak 216 = .ok (.goto 10, 3) := by decide +kernel
theorem dX7_weak_219 : decode cX7_weak 219 = .ok (.aload_n 0, 1) := by decide +kernel
theorem dX7_weak_220 : decode cX7_weak 220 = .ok (.getfield 20, 3) := by decide +kernel
theorem dX7_weak_223 : decode cX7_weak 223 = .ok (.iload 13, 2) := by decide +kernel
theorem dX7_weak_225 : decode cX7_weak 225 = .ok (.iaload, 1) := by decide +kernel
theorem dX7_weak_226 : decode cX7_weak 226 = .ok (.i2l, 1) := by decide +kernel
theorem dX7_weak_227 : decode cX7_weak 227 = .ok (.lmul, 1) := by decide +kernel
theorem dX7_weak_228 : decode cX7_weak 228 = .ok (.lcmp, 1) := by decide +kernel
theorem dX7_weak_229 : decode cX7_weak 229 = .ok (.ifCond .le 7, 3) := by decide +kernel
theorem dX7_weak_232 : decode cX7_weak 232 = .ok (.iconst 1, 1) := by decide +kernel
theorem dX7_weak_233 : decode cX7_weak 233 = .ok (.goto 4, 3) := by decide +kernel
theorem dX7_weak_236 : decode cX7_weak 236 = .ok (.iconst 0, 1) := by decide +kernel
theorem dX7_weak_237 : decode cX7_weak 237 = .ok (.iadd, 1) := by decide +kernel
theorem dX7_weak_238 : decode cX7_weak 238 = .ok (.istore 12, 2) := by decide +kernel
theorem dX7_weak_240 : decode cX7_weak 240 = .ok (.iinc 13 1, 3) := by decide +kernel
theorem dX7_weak_243 : decode cX7_weak 243 = .ok (.goto (-99), 3) := by decide +kernel
theorem dX7_weak_246 : decode cX7_weak 246 = .ok (.lload 7, 2) := by decide +kernel
theorem dX7_weak_248 : decode cX7_weak 248 = .ok (.iload_n 2, 1) := by decide +kernel
theorem dX7_weak_249 : decode cX7_weak 249 = .ok (.iconst 1, 1) := by decide +kernel
theorem dX7_weak_250 : decode cX7_weak 250 = .ok (.if_icmp .ne 12, 3) := by decide +kernel
theorem dX7_weak_253 : decode cX7_weak 253 = .ok (.lload 10, 2) := by decide +kernel
theorem dX7_weak_255 : decode cX7_weak 255 = .ok (.iload 12, 2) := by decide +kernel
theorem dX7_weak_257 : decode cX7_weak 257 = .ok (.i2l, 1) := by decide +kernel
theorem dX7_weak_258 : decode cX7_weak 258 = .ok (.lmul, 1) := by decide +kernel
theorem dX7_weak_259 : decode cX7_weak 259 = .ok (.goto 14, 3) := by decide +kernel
theorem dX7_weak_262 : decode cX7_weak 262 = .ok (.iload 12, 2) := by decide +kernel
theorem dX7_weak_264 : decode cX7_weak 264 = .ok (.ifCond .ne 8, 3) := by decide +kernel
theorem dX7_weak_267 : decode cX7_weak 267 = .ok (.lload 10, 2) := by decide +kernel
theorem dX7_weak_269 : decode cX7_weak 269 = .ok (.goto 4, 3) := by decide +kernel
theorem dX7_weak_272 : decode cX7_weak 272 = .ok (.lconst 0, 1) := by decide +kernel
theorem dX7_weak_273 : decode cX7_weak 273 = .ok (.ladd, 1) := by decide +kernel
theorem dX7_weak_274 : decode cX7_weak 274 = .ok (.lstore 7, 2) := by decide +kernel
theorem dX7_weak_276 : decode cX7_weak 276 = .ok (.iinc 9 1, 3) := by decide +kernel
theorem dX7_weak_279 : decode cX7_weak 279 = .ok (.goto (-162), 3) := by decide +kernel
theorem dX7_weak_282 : decode cX7_weak 282 = .ok (.lload 7, 2) := by decide +kernel
theorem dX7_weak_284 : decode cX7_weak 284 = .ok (.lload 5, 2) := by decide +kernel
theorem dX7_weak_286 : decode cX7_weak 286 = .ok (.iload_n 3, 1) := by decide +kernel
theorem dX7_weak_287 : decode cX7_weak 287 = .ok (.invokestatic 148, 3) := by decide +kernel
theorem dX7_weak_290 : decode cX7_weak 290 = .ok (.lreturn, 1) := by decide +kernel
set_option maxRecDepth 20000 in
theorem ggX7_year_X7_in : GoodIn wsX7_year wsX7_in := goodIn_r _ [6] (by decide +kernel) (by decide +kernel)
set_option maxRecDepth 20000 in
theorem gX7_year_X7_in : GoodIn wsX7_year (va_wsS RX7 73 yX7_in wsX7_in) := goodIn_app (goodIn_of _ (by decide +kernel)) ggX7_year_X7_in
set_option maxRecDepth 20000 in
theorem ggX7_year_X7_asNow : GoodIn wsX7_year wsX7_asNow := goodIn_r _ [10, 11, 12, 13, 14, 72, 73, 74, 75, 76, 77, 78, 79, 80, 81, 82, 83, 84, 85, 86, 87, 88, 89, 90, 91, 92, 93, 94, 95, 96, 97] (by decide +kernel) (by decide +kernel)
set_option maxRecDepth 20000 in
theorem gX7_year_X7_asNow : GoodIn wsX7_year (wsV RX7 124 RX7 yX7_asNow wsX7_asNow) := goodIn_app (goodIn_of _ (by decide +kernel)) ggX7_year_X7_asNow
set_option maxRecDepth 20000 in
theorem ggX7_year_X7_put : GoodIn wsX7_year wsX7_put := goodIn_r _ [18, 19, 20, 2, 11, 13, 21, 22, 5, 23, 24, 25, 26, 27, 28, 29, 30, 31, 32, 33, 34, 35, 36, 37, 38, 39, 40, 41, 42, 43, 44, 45, 46, 47, 48, 49, 50, 51, 52, 53, 54, 55, 56, 57, 58, 59, 60, 61, 62, 63, 72, 73, 74, 75, 76, 77, 78, 79, 80, 81, 82, 83, 84, 85, 86, 87, 88, 89, 90, 91, 92, 93, 94, 95, 96, 97] (by decide +kernel) (by decide +kernel)
set_option maxRecDepth 20000 in
theorem gX7_year_X7_put : GoodIn wsX7_year (wsV RX7 133 RX7 yX7_put wsX7_put) := goodIn_app (goodIn_of _ (by decide +kernel)) ggX7_year_X7_put
set_option maxRecDepth 20000 in
theorem ggX7_year_X7_whyNotTake : GoodIn wsX7_year wsX7_whyNotTake := goodIn_r _ [67, 13, 20, 11, 24, 25, 26, 5, 27, 44, 45, 46, 47, 32, 33, 34, 35, 72, 73, 74, 75, 76, 77, 78, 79, 80, 81, 82, 83, 84, 85, 86, 87, 88, 89, 90, 91, 92, 93, 94, 95, 96, 97] (by decide +kernel) (by decide +kernel)
set_option maxRecDepth 20000 in
theorem gX7_year_X7_whyNotTake : GoodIn wsX7_year (wsV RX7 127 RX7 yX7_whyNotTake wsX7_whyNotTake) := goodIn_app (goodIn_of _ (by decide +kernel)) ggX7_year_X7_whyNotTake
set_option maxRecDepth 20000 in
theorem ggX7_year_X7_take : GoodIn wsX7_year wsX7_take := goodIn_r _ [63, 11, 13, 72, 73, 74, 75, 76, 77, 78, 79, 80, 81, 82, 83, 84, 85, 86, 87, 88, 89, 90, 91, 92, 93, 94, 95, 96, 97] (by decide +kernel) (by decide +kernel)
set_option maxRecDepth 20000 in
theorem gX7_year_X7_take : GoodIn wsX7_year (wsV RX7 120 RX7 yX7_take wsX7_take) := goodIn_app (goodIn_of _ (by decide +kernel)) ggX7_year_X7_take
set_option maxRecDepth 20000 in
theorem ggX7_year_X7_highest : GoodIn wsX7_year wsX7_highest := goodIn_r _ [71, 2, 28, 29, 30, 5, 31, 11, 32, 33, 34, 35, 13, 20, 24, 25, 26, 27, 72, 73, 74, 75, 76, 77, 78, 79, 80, 81, 82, 83, 84, 85, 86, 87, 88, 89, 90, 91, 92, 93, 94, 95, 96, 97] (by decide +kernel) (by decide +kernel)
set_option maxRecDepth 20000 in
theorem gX7_year_X7_highest : GoodIn wsX7_year (wsV RX7 186 RX7 yX7_highest wsX7_highest) := goodIn_app (goodIn_of _ (by decide +kernel)) ggX7_year_X7_highest
theorem dX7_year_0 : decode cX7_year 0 = .ok (.iload_n 1, 1) := by decide +kernel
theorem dX7_year_1 : decode cX7_year 1 = .ok (.iconst 0, 1) := by decide +kernel
theorem dX7_year_2 : decode cX7_year 2 = .ok (.sipush 9999, 3) := by decide +kernel
theorem dX7_year_5 : decode cX7_year 5 = .ok (.invokestatic 73, 3) := by decide +kernel
theorem dX7_year_8 : decode cX7_year 8 = .ok (.ifCond .eq 22, 3) := by decide +kernel
theorem dX7_year_11 : decode cX7_year 11 = .ok (.iload_n 2, 1) := by decide +kernel
theorem dX7_year_12 : decode cX7_year 12 = .ok (.iconst 1, 1) := by decide +kernel
theorem dX7_year_13 : decode cX7_year 13 = .ok (.bipush 99, 2) := by decide +kernel
theorem dX7_year_15 : decode cX7_year 15 = .ok (.invokestatic 73, 3) := by decide +kernel
theorem dX7_year_18 : decode cX7_year 18 = .ok (.ifCond .eq 12, 3) := by decide +kernel
theorem dX7_year_21 : decode cX7_year 21 = .ok (.iload_n 3, 1) := by decide +kernel
theorem dX7_year_22 : decode cX7_year 22 = .ok (.iconst 0, 1) := by decide +kernel
theorem dX7_year_23 : decode cX7_year 23 = .ok (.iconst 2, 1) := by decide +kernel
theorem dX7_year_24 : decode cX7_year 24 = .ok (.invokestatic 73, 3) := by decide +kernel
theorem dX7_year_27 : decode cX7_year 27 = .ok (.ifCond .ne 6, 3) := by decide +kernel
theorem dX7_year_30 : decode cX7_year 30 = .ok (.bipush (-2), 2) := by decide +kernel
theorem dX7_year_32 : decode cX7_year 32 = .ok (.ireturn, 1) := by decide +kernel
theorem dX7_year_33 : decode cX7_year 33 = .ok (.aload_n 0, 1) := by decide +kernel
theorem dX7_year_34 : decode cX7_year 34 = .ok (.invokevirtual 124, 3) := by decide +kernel
theorem dX7_year_37 : decode cX7_year 37 = .ok (.iload_n 1, 1) := by decide +kernel
theorem dX7_year_38 : decode cX7_year 38 = .ok (.istore 4, 2) := by decide +kernel
theorem dX7_year_40 : decode cX7_year 40 = .ok (.iconst 0, 1) := by decide +kernel
theorem dX7_year_41 : decode cX7_year 41 = .ok (.istore 5, 2) := by decide +kernel
theorem dX7_year_43 : decode cX7_year 43 = .ok (.iconst 0, 1) := by decide +kernel
theorem dX7_year_44 : decode cX7_year 44 = .ok (.istore 6, 2) := by decide +kernel
theorem dX7_year_46 : decode cX7_year 46 = .ok (.iconst 0, 1) := by decide +kernel
theorem dX7_year_47 : decode cX7_year 47 = .ok (.istore 7, 2) := by decide +kernel
theorem dX7_year_49 : decode cX7_year 49 = .ok (.iconst 0, 1) := by decide +kernel
theorem dX7_year_50 : decode cX7_year 50 = .ok (.istore 8, 2) := by decide +kernel
theorem dX7_year_52 : decode cX7_year 52 = .ok (.iload 8, 2) := by decide +kernel
theorem dX7_year_54 : decode cX7_year 54 = .ok (.iload_n 2, 1) := by decide +kernel
theorem dX7_year_55 : decode cX7_year 55 = .ok (.if_icmp .ge 92, 3) := by decide +kernel
theorem dX7_year_58 : decode cX7_year 58 = .ok (.bipush 75, 2) := by decide +kernel
theorem dX7_year_60 : decode cX7_year 60 = .ok (.iload 4, 2) := by decide +kernel
theorem dX7_year_62 : decode cX7_year 62 = .ok (.imul, 1) := by decide +kernel
theorem dX7_year_63 : decode cX7_year 63 = .ok (.bipush 74, 2) := by decide +kernel
theorem dX7_year_65 : decode cX7_year 65 = .ok (.iadd, 1) := by decide +kernel
theorem dX7_year_66 : decode cX7_year 66 = .ok (.ldc 206, 2) := by decide +kernel
theorem dX7_year_68 : decode cX7_year 68 = .ok (.irem, 1) := by decide +kernel
theorem dX7_year_69 : decode cX7_year 69 = .ok (.istore 4, 2) := by decide +kernel
theorem dX7_year_71 : decode cX7_year 71 = .ok (.iload 4, 2) := by decide +kernel
theorem dX7_year_73 : decode cX7_year 73 = .ok (.bipush 10, 2) := by decide +kernel
theorem dX7_year_75 : decode cX7_year 75 = .ok (.irem, 1) := by decide +kernel
theorem dX7_year_76 : decode cX7_year 76 = .ok (.istore 9, 2) := by decide +kernel
theorem dX7_year_78 : decode cX7_year 78 = .ok (.aload_n 0, 1) := by decide +kernel
theorem dX7_year_79 : decode cX7_year 79 = .ok (.iload 9, 2) := by decide +kernel
theorem dX7_year_81 : decode cX7_year 81 = .ok (.iload 4, 2) := by decide +kernel
theorem dX7_year_83 : decode cX7_year 83 = .ok (.bipush 10, 2) := by decide +kernel
theorem dX7_year_85 : decode cX7_year 85 = .ok (.idiv, 1) := by decide +kernel
theorem dX7_year_86 : decode cX7_year 86 = .ok (.aload_n 0, 1) := by decide +kernel
theorem dX7_year_87 : decode cX7_year 87 = .ok (.getfield 7, 3) := by decide +kernel
theorem dX7_year_90 : decode cX7_year 90 = .ok (.irem, 1) := by decide +kernel
theorem dX7_year_91 : decode cX7_year 91 = .ok (.invokevirtual 133, 3) := by decide +kernel
theorem dX7_year_94 : decode cX7_year 94 = .ok (.ifCond .ne 9, 3) := by decide +kernel
theorem dX7_year_97 : decode cX7_year 97 = .ok (.iinc 5 1, 3) := by decide +kernel
theorem dX7_year_100 : decode cX7_year 100 = .ok (.goto 21, 3) := by decide +kernel
theorem dX7_year_103 : decode cX7_year 103 = .ok (.aload_n 0, 1) := by decide +kernel
theorem dX7_year_104 : decode cX7_year 104 = .ok (.iload 9, 2) := by decide +kernel
theorem dX7_year_106 : decode cX7_year 106 = .ok (.invokevirtual 127, 3) := by decide +kernel
theorem dX7_year_109 : decode cX7_year 109 = .ok (.ifCond .ne 12, 3) := by decide +kernel
theorem dX7_year_112 : decode cX7_year 112 = .ok (.aload_n 0, 1) := by decide +kernel
theorem dX7_year_113 : decode cX7_year 113 = .ok (.iload 9, 2) := by decide +kernel
theorem dX7_year_115 : decode cX7_year 115 = .ok (.invokevirtual 120, 3) := by decide +kernel
theorem dX7_year_118 : decode cX7_year 118 = .ok (.iinc 6 1, 3) := by decide +kernel
theorem dX7_year_121 : decode cX7_year 121 = .ok (.aload_n 0, 1) := by decide +kernel
theorem dX7_year_122 : decode cX7_year 122 = .ok (.invokevirtual 186, 3) := by decide +kernel
theorem dX7_year_125 : decode cX7_year 125 = .ok (.iload 7, 2) := by decide +kernel
theorem dX7_year_127 : decode cX7_year 127 = .ok (.if_icmp .le 10, 3) := by decide +kernel
theorem dX7_year_130 : decode cX7_year 130 = .ok (.aload_n 0, 1) := by decide +kernel
theorem dX7_year_131 : decode cX7_year 131 = .ok (.invokevirtual 186, 3) := by decide +kernel
theorem dX7_year_134 : decode cX7_year 134 = .ok (.goto 5, 3) := by decide +kernel
theorem dX7_year_137 : decode cX7_year 137 = .ok (.iload 7, 2) := by decide +kernel
theorem dX7_year_139 : decode cX7_year 139 = .ok (.istore 7, 2) := by decide +kernel
theorem dX7_year_141 : decode cX7_year 141 = .ok (.iinc 8 1, 3) := by decide +kernel
theorem dX7_year_144 : decode cX7_year 144 = .ok (.goto (-92), 3) := by decide +kernel
theorem dX7_year_147 : decode cX7_year 147 = .ok (.iload_n 3, 1) := by decide +kernel
theorem dX7_year_148 : decode cX7_year 148 = .ok (.ifCond .ne 8, 3) := by decide +kernel
theorem dX7_year_151 : decode cX7_year 151 = .ok (.iload 5, 2) := by decide +kernel
theorem dX7_year_153 : decode cX7_year 153 = .ok (.goto 15, 3) := by decide +kernel
theorem dX7_year_156 : decode cX7_year 156 = .ok (.iload_n 3, 1) := by decide +kernel
theorem dX7_year_157 : decode cX7_year 157 = .ok (.iconst 1, 1) := by decide +kernel
theorem dX7_year_158 : decode cX7_year 158 = .ok (.if_icmp .ne 8, 3) := by decide +kernel
theorem dX7_year_161 : decode cX7_year 161 = .ok (.iload 6, 2) := by decide +kernel
theorem dX7_year_163 : decode cX7_year 163 = .ok (.goto 5, 3) := by decide +kernel
theorem dX7_year_166 : decode cX7_year 166 = .ok (.iload 7, 2) := by decide +kernel
theorem dX7_year_168 : decode cX7_year 168 = .ok (.ireturn, 1) := by decide +kernel
set_option maxRecDepth 20000 in
theorem ggX7_image_X7_in : GoodIn wsX7_image wsX7_in := goodIn_r _ [15] (by decide +kernel) (by decide +kernel)
set_option maxRecDepth 20000 in
theorem gX7_image_X7_in : GoodIn wsX7_image (va_wsS RX7 73 yX7_in wsX7_in) := goodIn_app (goodIn_of _ (by decide +kernel)) ggX7_image_X7_in
theorem dX7_image_0 : decode cX7_image 0 = .ok (.iload_n 1, 1) := by decide +kernel
theorem dX7_image_1 : decode cX7_image 1 = .ok (.iconst 0, 1) := by decide +kernel
theorem dX7_image_2 : decode cX7_image 2 = .ok (.iconst 1, 1) := by decide +kernel
theorem dX7_image_3 : decode cX7_image 3 = .ok (.invokestatic 73, 3) := by decide +kernel
theorem dX7_image_6 : decode cX7_image 6 = .ok (.ifCond .ne 6, 3) := by decide +kernel
theorem dX7_image_9 : decode cX7_image 9 = .ok (.bipush (-2), 2) := by decide +kernel
theorem dX7_image_11 : decode cX7_image 11 = .ok (.ireturn, 1) := by decide +kernel
theorem dX7_image_12 : decode cX7_image 12 = .ok (.bipush 80, 2) := by decide +kernel
theorem dX7_image_14 : decode cX7_image 14 = .ok (.iload_n 1, 1) := by decide +kernel
theorem dX7_image_15 : decode cX7_image 15 = .ok (.imul, 1) := by decide +kernel
theorem dX7_image_16 : decode cX7_image 16 = .ok (.istore_n 2, 1) := by decide +kernel
theorem dX7_image_17 : decode cX7_image 17 = .ok (.iconst 0, 1) := by decide +kernel
theorem dX7_image_18 : decode cX7_image 18 = .ok (.istore_n 3, 1) := by decide +kernel
theorem dX7_image_19 : decode cX7_image 19 = .ok (.iload_n 3, 1) := by decide +kernel
theorem dX7_image_20 : decode cX7_image 20 = .ok (.bipush 10, 2) := by decide +kernel
theorem dX7_image_22 : decode cX7_image 22 = .ok (.if_icmp .ge 91, 3) := by decide +kernel
theorem dX7_image_25 : decode cX7_image 25 = .ok (.aload_n 0, 1) := by decide +kernel
theorem dX7_image_26 : decode cX7_image 26 = .ok (.getfield 57, 3) := by decide +kernel
theorem dX7_image_29 : decode cX7_image 29 = .ok (.iload_n 2, 1) := by decide +kernel
theorem dX7_image_30 : decode cX7_image 30 = .ok (.iload_n 3, 1) := by decide +kernel
theorem dX7_image_31 : decode cX7_image 31 = .ok (.iadd, 1) := by decide +kernel
theorem dX7_image_32 : decode cX7_image 32 = .ok (.aload_n 0, 1) := by decide +kernel
theorem dX7_image_33 : decode cX7_image 33 = .ok (.getfield 13, 3) := by decide +kernel
theorem dX7_image_36 : decode cX7_image 36 = .ok (.iload_n 3, 1) := by decide +kernel
theorem dX7_image_37 : decode cX7_image 37 = .ok (.iaload, 1) := by decide +kernel
theorem dX7_image_38 : decode cX7_image 38 = .ok (.iastore, 1) := by decide +kernel
theorem dX7_image_39 : decode cX7_image 39 = .ok (.aload_n 0, 1) := by decide +kernel
theorem dX7_image_40 : decode cX7_image 40 = .ok (.getfield 57, 3) := by decide +kernel
theorem dX7_image_43 : decode cX7_image 43 = .ok (.iload_n 2, 1) := by decide +kernel
theorem dX7_image_44 : decode cX7_image 44 = .ok (.bipush 10, 2) := by decide +kernel
theorem dX7_image_46 : decode cX7_image 46 = .ok (.iadd, 1) := by decide +kernel
theorem dX7_image_47 : decode cX7_image 47 = .ok (.iload_n 3, 1) := by decide +kernel
theorem dX7_image_48 : decode cX7_image 48 = .ok (.iadd, 1) := by decide +kernel
theorem dX7_image_49 : decode cX7_image 49 = .ok (.aload_n 0, 1) := by decide +kernel
theorem dX7_image_50 : decode cX7_image 50 = .ok (.getfield 17, 3) := by decide +kernel
theorem dX7_image_53 : decode cX7_image 53 = .ok (.iload_n 3, 1) := by decide +kernel
theorem dX7_image_54 : decode cX7_image 54 = .ok (.iaload, 1) := by decide +kernel
theorem dX7_image_55 : decode cX7_image 55 = .ok (.iastore, 1) := by decide +kernel
theorem dX7_image_56 : decode cX7_image 56 = .ok (.aload_n 0, 1) := by decide +kernel
theorem dX7_image_57 : decode cX7_image 57 = .ok (.getfield 57, 3) := by decide +kernel
theorem dX7_image_60 : decode cX7_image 60 = .ok (.iload_n 2, 1) := by decide +kernel
theorem dX7_image_61 : decode cX7_image 61 = .ok (.bipush 20, 2) := by decide +kernel
theorem dX7_image_63 : decode cX7_image 63 = .ok (.iadd, 1) := by decide +kernel
theorem dX7_image_64 : decode cX7_image 64 = .ok (.iload_n 3, 1) := by decide +kernel
theorem dX7_image_65 : decode cX7_image 65 = .ok (.iadd, 1) := by decide +kernel
theorem dX7_image_66 : decode cX7_image 66 = .ok (.aload_n 0, 1) := by decide +kernel
theorem dX7_image_67 : decode cX7_image 67 = .ok (.getfield 20, 3) := by decide +kernel
theorem dX7_image_70 : decode cX7_image 70 = .ok (.iload_n 3, 1) := by decide +kernel
theorem dX7_image_71 : decode cX7_image 71 = .ok (.iaload, 1) := by decide +kernel
theorem dX7_image_72 : decode cX7_image 72 = .ok (.iastore, 1) := by decide +kernel
theorem dX7_image_73 : decode cX7_image 73 = .ok (.aload_n 0, 1) := by decide +kernel
theorem dX7_image_74 : decode cX7_image 74 = .ok (.getfield 57, 3) := by decide +kernel
theorem dX7_image_77 : decode cX7_image 77 = .ok (.iload_n 2, 1) := by decide +kernel
theorem dX7_image_78 : decode cX7_image 78 = .ok (.bipush 30, 2) := by decide +kernel
theorem dX7_image_80 : decode cX7_image 80 = .ok (.iadd, 1) := by decide +kernel
theorem dX7_image_81 : decode cX7_image 81 = .ok (.iload_n 3, 1) := by decide +kernel
theorem dX7_image_82 : decode cX7_image 82 = .ok (.iadd, 1) := by decide +kernel
theorem dX7_image_83 : decode cX7_image 83 = .ok (.aload_n 0, 1) := by decide +kernel
theorem dX7_image_84 : decode cX7_image 84 = .ok (.getfield 23, 3) := by decide +kernel
theorem dX7_image_87 : decode cX7_image 87 = .ok (.iload_n 3, 1) := by decide +kernel
theorem dX7_image_88 : decode cX7_image 88 = .ok (.iaload, 1) := by decide +kernel
theorem dX7_image_89 : decode cX7_image 89 = .ok (.iastore, 1) := by decide +kernel
theorem dX7_image_90 : decode cX7_image 90 = .ok (.aload_n 0, 1) := by decide +kernel
theorem dX7_image_91 : decode cX7_image 91 = .ok (.getfield 57, 3) := by decide +kernel
theorem dX7_image_94 : decode cX7_image 94 = .ok (.iload_n 2, 1) := by decide +kernel
theorem dX7_image_95 : decode cX7_image 95 = .ok (.bipush 40, 2) := by decide +kernel
theorem dX7_image_97 : decode cX7_image 97 = .ok (.iadd, 1) := by decide +kernel
theorem dX7_image_98 : decode cX7_image 98 = .ok (.iload_n 3, 1) := by decide +kernel
theorem dX7_image_99 : decode cX7_image 99 = .ok (.iadd, 1) := by decide +kernel
theorem dX7_image_100 : decode cX7_image 100 = .ok (.aload_n 0, 1) := by decide +kernel
theorem dX7_image_101 : decode cX7_image 101 = .ok (.getfield 26, 3) := by decide +kernel
theorem dX7_image_104 : decode cX7_image 104 = .ok (.iload_n 3, 1) := by decide +kernel
theorem dX7_image_105 : decode cX7_image 105 = .ok (.iaload, 1) := by decide +kernel
theorem dX7_image_106 : decode cX7_image 106 = .ok (.iastore, 1) := by decide +kernel
theorem dX7_image_107 : decode cX7_image 107 = .ok (.iinc 3 1, 3) := by decide +kernel
theorem dX7_image_110 : decode cX7_image 110 = .ok (.goto (-91), 3) := by decide +kernel
theorem dX7_image_113 : decode cX7_image 113 = .ok (.iconst 0, 1) := by decide +kernel
theorem dX7_image_114 : decode cX7_image 114 = .ok (.istore_n 3, 1) := by decide +kernel
theorem dX7_image_115 : decode cX7_image 115 = .ok (.iload_n 3, 1) := by decide +kernel
theorem dX7_image_116 : decode cX7_image 116 = .ok (.bipush 16, 2) := by decide +kernel
theorem dX7_image_118 : decode cX7_image 118 = .ok (.if_icmp .ge 26, 3) := by decide +kernel
theorem dX7_image_121 : decode cX7_image 121 = .ok (.aload_n 0, 1) := by decide +kernel
theorem dX7_image_122 : decode cX7_image 122 = .ok (.getfield 57, 3) := by decide +kernel
theorem dX7_image_125 : decode cX7_image 125 = .ok (.iload_n 2, 1) := by decide +kernel
theorem dX7_image_126 : decode cX7_image 126 = .ok (.bipush 50, 2) := by decide +kernel
theorem dX7_image_128 : decode cX7_image 128 = .ok (.iadd, 1) := by decide +kernel
theorem dX7_image_129 : decode cX7_image 129 = .ok (.iload_n 3, 1) := by decide +kernel
theorem dX7_image_130 : decode cX7_image 130 = .ok (.iadd, 1) := by decide +kernel
theorem dX7_image_131 : decode cX7_image 131 = .ok (.aload_n 0, 1) := by decide +kernel
theorem dX7_image_132 : decode cX7_image 132 = .ok (.getfield 29, 3) := by decide +kernel
theorem dX7_image_135 : decode cX7_image 135 = .ok (.iload_n 3, 1) := by decide +kernel
theorem dX7_image_136 : decode cX7_image 136 = .ok (.iaload, 1) := by decide +kernel
theorem dX7_image_137 : decode cX7_image 137 = .ok (.iastore, 1) := by decide +kernel
theorem dX7_image_138 : decode cX7_image 138 = .ok (.iinc 3 1, 3) := by decide +kernel
theorem dX7_image_141 : decode cX7_image 141 = .ok (.goto (-26), 3) := by decide +kernel
theorem dX7_image_144 : decode cX7_image 144 = .ok (.aload_n 0, 1) := by decide +kernel
theorem dX7_image_145 : decode cX7_image 145 = .ok (.getfield 57, 3) := by decide +kernel
theorem dX7_image_148 : decode cX7_image 148 = .ok (.iload_n 2, 1) := by decide +kernel
theorem dX7_image_149 : decode cX7_image 149 = .ok (.bipush 70, 2) := by decide +kernel
theorem dX7_image_151 : decode cX7_image 151 = .ok (.iadd, 1) := by decide +kernel
theorem dX7_image_152 : decode cX7_image 152 = .ok (.aload_n 0, 1) := by decide +kernel
theorem dX7_image_153 : decode cX7_image 153 = .ok (.getfield 7, 3) := by decide +kernel
theorem dX7_image_156 : decode cX7_image 156 = .ok (.iastore, 1) := by decide +kernel
theorem dX7_image_157 : decode cX7_image 157 = .ok (.aload_n 0, 1) := by decide +kernel
theorem dX7_image_158 : decode cX7_image 158 = .ok (.getfield 57, 3) := by decide +kernel
theorem dX7_image_161 : decode cX7_image 161 = .ok (.iload_n 2, 1) := by decide +kernel
theorem dX7_image_162 : decode cX7_image 162 = .ok (.bipush 71, 2) := by decide +kernel
theorem dX7_image_164 : decode cX7_image 164 = .ok (.iadd, 1) := by decide +kernel
theorem dX7_image_165 : decode cX7_image 165 = .ok (.aload_n 0, 1) := by decide +kernel
theorem dX7_image_166 : decode cX7_image 166 = .ok (.getfield 67, 3) := by decide +kernel
theorem dX7_image_169 : decode cX7_image 169 = .ok (.iastore, 1) := by decide +kernel
theorem dX7_image_170 : decode cX7_image 170 = .ok (.aload_n 0, 1) := by decide +kernel
theorem dX7_image_171 : decode cX7_image 171 = .ok (.getfield 57, 3) := by decide +kernel
theorem dX7_image_174 : decode cX7_image 174 = .ok (.iload_n 2, 1) := by decide +kernel
theorem dX7_image_175 : decode cX7_image 175 = .ok (.bipush 72, 2) := by decide +kernel
theorem dX7_image_177 : decode cX7_image 177 = .ok (.iadd, 1) := by decide +kernel
theorem dX7_image_178 : decode cX7_image 178 = .ok (.aload_n 0, 1) := by decide +kernel
theorem dX7_image_179 : decode cX7_image 179 = .ok (.getfield 70, 3) := by decide +kernel
theorem dX7_image_182 : decode cX7_image 182 = .ok (.iastore, 1) := by decide +kernel
theorem dX7_image_183 : decode cX7_image 183 = .ok (.aload_n 0, 1) := by decide +kernel
theorem dX7_image_184 : decode cX7_image 184 = .ok (.getfield 60, 3) := by decide +kernel
theorem dX7_image_187 : decode cX7_image 187 = .ok (.iload_n 1, 1) := by decide +kernel
theorem dX7_image_188 : decode cX7_image 188 = .ok (.iconst 1, 1) := by decide +kernel
theorem dX7_image_189 : decode cX7_image 189 = .ok (.bastore, 1) := by decide +kernel
theorem dX7_image_190 : decode cX7_image 190 = .ok (.iconst 1, 1) := by decide +kernel
theorem dX7_image_191 : decode cX7_image 191 = .ok (.ireturn, 1) := by decide +kernel
set_option maxRecDepth 20000 in
theorem ggX7_restore_X7_in : GoodIn wsX7_restore wsX7_in := goodIn_r _ [15] (by decide +kernel) (by decide +kernel)
set_option maxRecDepth 20000 in
theorem gX7_restore_X7_in : GoodIn wsX7_restore (va_wsS RX7 73 yX7_in wsX7_in) := goodIn_app (goodIn_of _ (by decide +kernel)) ggX7_restore_X7_in
theorem dX7_restore_0 : decode cX7_restore 0 = .ok (.iload_n 1, 1) := by decide +kernel
theorem dX7_restore_1 : decode cX7_restore 1 = .ok (.iconst 0, 1) := by decide +kernel
theorem dX7_restore_2 : decode cX7_restore 2 = .ok (.iconst 1, 1) := by decide +kernel
theorem dX7_restore_3 : decode cX7_restore 3 = .ok (.invokestatic 73, 3) := by decide +kernel
theorem dX7_restore_6 : decode cX7_restore 6 = .ok (.ifCond .ne 6, 3) := by decide +kernel
theorem dX7_restore_9 : decode cX7_restore 9 = .ok (.bipush (-2), 2) := by decide +kernel
theorem dX7_restore_11 : decode cX7_restore 11 = .ok (.ireturn, 1) := by decide +kernel
theorem dX7_restore_12 : decode cX7_restore 12 = .ok (.aload_n 0, 1) := by decide +kernel
theorem dX7_restore_13 : decode cX7_restore 13 = .ok (.getfield 60, 3) := by decide +kernel
theorem dX7_restore_16 : decode cX7_restore 16 = .ok (.iload_n 1, 1) := by decide +kernel
theorem dX7_restore_17 : decode cX7_restore 17 = .ok (.baload, 1) := by decide +kernel
theorem dX7_restore_18 : decode cX7_restore 18 = .ok (.ifCond .ne 6, 3) := by decide +kernel
theorem dX7_restore_21 : decode cX7_restore 21 = .ok (.bipush (-3), 2) := by decide +kernel
theorem dX7_restore_23 : decode cX7_restore 23 = .ok (.ireturn, 1) := by decide +kernel
theorem dX7_restore_24 : decode cX7_restore 24 = .ok (.bipush 80, 2) := by decide +kernel
theorem dX7_restore_26 : decode cX7_restore 26 = .ok (.iload_n 1, 1) := by decide +kernel
theorem dX7_restore_27 : decode cX7_restore 27 = .ok (.imul, 1) := by decide +kernel
theorem dX7_restore_28 : decode cX7_restore 28 = .ok (.istore_n 2, 1) := by decide +kernel
theorem dX7_restore_29 : decode cX7_restore 29 = .ok (.iconst 0, 1) := by decide +kernel
theorem dX7_restore_30 : decode cX7_restore 30 = .ok (.istore_n 3, 1) := by decide +kernel
theorem dX7_restore_31 : decode cX7_restore 31 = .ok (.iload_n 3, 1) := by decide +kernel
theorem dX7_restore_32 : decode cX7_restore 32 = .ok (.bipush 10, 2) := by decide +kernel
theorem dX7_restore_34 : decode cX7_restore 34 = .ok (.if_icmp .ge 91, 3) := by decide +kernel
theorem dX7_restore_37 : decode cX7_restore 37 = .ok (.aload_n 0, 1) := by decide +kernel
theorem dX7_restore_38 : decode cX7_restore 38 = .ok (.getfield 13, 3) := by decide +kernel
theorem dX7_restore_41 : decode cX7_restore 41 = .ok (.iload_n 3, 1) := by decide +kernel
theorem dX7_restore_42 : decode cX7_restore 42 = .ok (.aload_n 0, 1) := by decide +kernel
theorem dX7_restore_43 : decode cX7_restore 43 = .ok (.getfield 57, 3) := by decide +kernel
theorem dX7_restore_46 : decode cX7_restore 46 = .ok (.iload_n 2, 1) := by decide +kernel
theorem dX7_restore_47 : decode cX7_restore 47 = .ok (.iload_n 3, 1) := by decide +kernel
theorem dX7_restore_48 : decode cX7_restore 48 = .ok (.iadd, 1) := by decide +kernel
theorem dX7_restore_49 : decode cX7_restore 49 = .ok (.iaload, 1) := by decide +kernel
theorem dX7_restore_50 : decode cX7_restore 50 = .ok (.iastore, 1) := by decide +kernel
theorem dX7_restore_51 : decode cX7_restore 51 = .ok (.aload_n 0, 1) := by decide +kernel
theorem dX7_restore_52 : decode cX7_restore 52 = .ok (.getfield 17, 3) := by decide +kernel
theorem dX7_restore_55 : decode cX7_restore 55 = .ok (.iload_n 3, 1) := by decide +kernel
theorem dX7_restore_56 : decode cX7_restore 56 = .ok (.aload_n 0, 1) := by decide +kernel
theorem dX7_restore_57 : decode cX7_restore 57 = .ok (.getfield 57, 3) := by decide +kernel
theorem dX7_restore_60 : decode cX7_restore 60 = .ok (.iload_n 2, 1) := by decide +kernel
theorem dX7_restore_61 : decode cX7_restore 61 = .ok (.bipush 10, 2) := by decide +kernel
theorem dX7_restore_63 : decode cX7_restore 63 = .ok (.iadd, 1) := by decide +kernel
theorem dX7_restore_64 : decode cX7_restore 64 = .ok (.iload_n 3, 1) := by decide +kernel
theorem dX7_restore_65 : decode cX7_restore 65 = .ok (.iadd, 1) := by decide +kernel
theorem dX7_restore_66 : decode cX7_restore 66 = .ok (.iaload, 1) := by decide +kernel
theorem dX7_restore_67 : decode cX7_restore 67 = .ok (.iastore, 1) := by decide +kernel
theorem dX7_restore_68 : decode cX7_restore 68 = .ok (.aload_n 0, 1) := by decide +kernel
theorem dX7_restore_69 : decode cX7_restore 69 = .ok (.getfield 20, 3) := by decide +kernel
theorem dX7_restore_72 : decode cX7_restore 72 = .ok (.iload_n 3, 1) := by decide +kernel
theorem dX7_restore_73 : decode cX7_restore 73 = .ok (.aload_n 0, 1) := by decide +kernel
theorem dX7_restore_74 : decode cX7_restore 74 = .ok (.getfield 57, 3) := by decide +kernel
theorem dX7_restore_77 : decode cX7_restore 77 = .ok (.iload_n 2, 1) := by decide +kernel
theorem dX7_restore_78 : decode cX7_restore 78 = .ok (.bipush 20, 2) := by decide +kernel
theorem dX7_restore_80 : decode cX7_restore 80 = .ok (.iadd, 1) := by decide +kernel
theorem dX7_restore_81 : decode cX7_restore 81 = .ok (.iload_n 3, 1) := by decide +kernel
theorem dX7_restore_82 : decode cX7_restore 82 = .ok (.iadd, 1) := by decide +kernel
theorem dX7_restore_83 : decode cX7_restore 83 = .ok (.iaload, 1) := by decide +kernel
theorem dX7_restore_84 : decode cX7_restore 84 = .ok (.iastore, 1) := by decide +kernel
theorem dX7_restore_85 : decode cX7_restore 85 = .ok (.aload_n 0, 1) := by decide +kernel
theorem dX7_restore_86 : decode cX7_restore 86 = .ok (.getfield 23, 3) := by decide +kernel
theorem dX7_restore_89 : decode cX7_restore 89 = .ok (.iload_n 3, 1) := by decide +kernel
theorem dX7_restore_90 : decode cX7_restore 90 = .ok (.aload_n 0, 1) := by decide +kernel
theorem dX7_restore_91 : decode cX7_restore 91 = .ok (.getfield 57, 3) := by decide +kernel
theorem dX7_restore_94 : decode cX7_restore 94 = .ok (.iload_n 2, 1) := by decide +kernel
theorem dX7_restore_95 : decode cX7_restore 95 = .ok (.bipush 30, 2) := by decide +kernel
theorem dX7_restore_97 : decode cX7_restore 97 = .ok (.iadd, 1) := by decide +kernel
theorem dX7_restore_98 : decode cX7_restore 98 = .ok (.iload_n 3, 1) := by decide +kernel
theorem dX7_restore_99 : decode cX7_restore 99 = .ok (.iadd, 1) := by decide +kernel
theorem dX7_restore_100 : decode cX7_restore 100 = .ok (.iaload, 1) := by decide +kernel
theorem dX7_restore_101 : decode cX7_restore 101 = .ok (.iastore, 1) := by decide +kernel
theorem dX7_restore_102 : decode cX7_restore 102 = .ok (.aload_n 0, 1) := by decide +kernel
theorem dX7_restore_103 : decode cX7_restore 103 = .ok (.getfield 26, 3) := by decide +kernel
theorem dX7_restore_106 : decode cX7_restore 106 = .ok (.iload_n 3, 1) := by decide +kernel
theorem dX7_restore_107 : decode cX7_restore 107 = .ok (.aload_n 0, 1) := by decide +kernel
theorem dX7_restore_108 : decode cX7_restore 108 = .ok (.getfield 57, 3) := by decide +kernel
theorem dX7_restore_111 : decode cX7_restore 111 = .ok (.iload_n 2, 1) := by decide +kernel
theorem dX7_restore_112 : decode cX7_restore 112 = .ok (.bipush 40, 2) := by decide +kernel
theorem dX7_restore_114 : decode cX7_restore 114 = .ok (.iadd, 1) := by decide +kernel
theorem dX7_restore_115 : decode cX7_restore 115 = .ok (.iload_n 3, 1) := by decide +kernel
theorem dX7_restore_116 : decode cX7_restore 116 = .ok (.iadd, 1) := by decide +kernel
theorem dX7_restore_117 : decode cX7_restore 117 = .ok (.iaload, 1) := by decide +kernel
theorem dX7_restore_118 : decode cX7_restore 118 = .ok (.iastore, 1) := by decide +kernel
theorem dX7_restore_119 : decode cX7_restore 119 = .ok (.iinc 3 1, 3) := by decide +kernel
theorem dX7_restore_122 : decode cX7_restore 122 = .ok (.goto (-91), 3) := by decide +kernel
theorem dX7_restore_125 : decode cX7_restore 125 = .ok (.iconst 0, 1) := by decide +kernel
theorem dX7_restore_126 : decode cX7_restore 126 = .ok (.istore_n 3, 1) := by decide +kernel
theorem dX7_restore_127 : decode cX7_restore 127 = .ok (.iload_n 3, 1) := by decide +kernel
theorem dX7_restore_128 : decode cX7_restore 128 = .ok (.bipush 16, 2) := by decide +kernel
theorem dX7_restore_130 : decode cX7_restore 130 = .ok (.if_icmp .ge 26, 3) := by decide +kernel
theorem dX7_restore_133 : decode cX7_restore 133 = .ok (.aload_n 0, 1) := by decide +kernel
theorem dX7_restore_134 : decode cX7_restore 134 = .ok (.getfield 29, 3) := by decide +kernel
theorem dX7_restore_137 : decode cX7_restore 137 = .ok (.iload_n 3, 1) := by decide +kernel
theorem dX7_restore_138 : decode cX7_restore 138 = .ok (.aload_n 0, 1) := by decide +kernel
theorem dX7_restore_139 : decode cX7_restore 139 = .ok (.getfield 57, 3) := by decide +kernel
theorem dX7_restore_142 : decode cX7_restore 142 = .ok (.iload_n 2, 1) := by decide +kernel
theorem dX7_restore_143 : decode cX7_restore 143 = .ok (.bipush 50, 2) := by decide +kernel
theorem dX7_restore_145 : decode cX7_restore 145 = .ok (.iadd, 1) := by decide +kernel
theorem dX7_restore_146 : decode cX7_restore 146 = .ok (.iload_n 3, 1) := by decide +kernel
theorem dX7_restore_147 : decode cX7_restore 147 = .ok (.iadd, 1) := by decide +kernel
theorem dX7_restore_148 : decode cX7_restore 148 = .ok (.iaload, 1) := by decide +kernel
theorem dX7_restore_149 : decode cX7_restore 149 = .ok (.iastore, 1) := by decide +kernel
theorem dX7_restore_150 : decode cX7_restore 150 = .ok (.iinc 3 1, 3) := by decide +kernel
theorem dX7_restore_153 : decode cX7_restore 153 = .ok (.goto (-26), 3) := by decide +kernel
theorem dX7_restore_156 : decode cX7_restore 156 = .ok (.aload_n 0, 1) := by decide +kernel
theorem dX7_restore_157 : decode cX7_restore 157 = .ok (.aload_n 0, 1) := by decide +kernel
theorem dX7_restore_158 : decode cX7_restore 158 = .ok (.getfield 57, 3) := by decide +kernel
theorem dX7_restore_161 : decode cX7_restore 161 = .ok (.iload_n 2, 1) := by decide +kernel
theorem dX7_restore_162 : decode cX7_restore 162 = .ok (.bipush 70, 2) := by decide +kernel
theorem dX7_restore_164 : decode cX7_restore 164 = .ok (.iadd, 1) := by decide +kernel
theorem dX7_restore_165 : decode cX7_restore 165 = .ok (.iaload, 1) := by decide +kernel
theorem dX7_restore_166 : decode cX7_restore 166 = .ok (.putfield 7, 3) := by decide +kernel
theorem dX7_restore_169 : decode cX7_restore 169 = .ok (.aload_n 0, 1) := by decide +kernel
theorem dX7_restore_170 : decode cX7_restore 170 = .ok (.aload_n 0, 1) := by decide +kernel
theorem dX7_restore_171 : decode cX7_restore 171 = .ok (.getfield 57, 3) := by decide +kernel
theorem dX7_restore_174 : decode cX7_restore 174 = .ok (.iload_n 2, 1) := by decide +kernel
theorem dX7_restore_175 : decode cX7_restore 175 = .ok (.bipush 71, 2) := by decide +kernel
theorem dX7_restore_177 : decode cX7_restore 177 = .ok (.iadd, 1) := by decide +kernel
theorem dX7_restore_178 : decode cX7_restore 178 = .ok (.iaload, 1) := by decide +kernel
theorem dX7_restore_179 : decode cX7_restore 179 = .ok (.putfield 67, 3) := by decide +kernel
theorem dX7_restore_182 : decode cX7_restore 182 = .ok (.aload_n 0, 1) := by decide +kernel
theorem dX7_restore_183 : decode cX7_restore 183 = .ok (.aload_n 0, 1) := by decide +kernel
theorem dX7_restore_184 : decode cX7_restore 184 = .ok (.getfield 57, 3) := by decide +kernel
theorem dX7_restore_187 : decode cX7_restore 187 = .ok (.iload_n 2, 1) := by decide +kernel
theorem dX7_restore_188 : decode cX7_restore 188 = .ok (.bipush 72, 2) := by decide +kernel
theorem dX7_restore_190 : decode cX7_restore 190 = .ok (.iadd, 1) := by decide +kernel
theorem dX7_restore_191 : decode cX7_restore 191 = .ok (.iaload, 1) := by decide +kernel
theorem dX7_restore_192 : decode cX7_restore 192 = .ok (.putfield 70, 3) := by decide +kernel
theorem dX7_restore_195 : decode cX7_restore 195 = .ok (.iconst 1, 1) := by decide +kernel
theorem dX7_restore_196 : decode cX7_restore 196 = .ok (.ireturn, 1) := by decide +kernel
set_option maxRecDepth 20000 in
theorem ggX7_told_X7_in : GoodIn wsX7_told wsX7_in := goodIn_r _ [12] (by decide +kernel) (by decide +kernel)
set_option maxRecDepth 20000 in
theorem gX7_told_X7_in : GoodIn wsX7_told (va_wsS RX7 73 yX7_in wsX7_in) := goodIn_app (goodIn_of _ (by decide +kernel)) ggX7_told_X7_in
set_option maxRecDepth 20000 in
theorem ggX7_told_X7_has : GoodIn wsX7_told wsX7_has := goodIn_r _ [15] (by decide +kernel) (by decide +kernel)
set_option maxRecDepth 20000 in
theorem gX7_told_X7_has : GoodIn wsX7_told (va_wsS RX7 108 yX7_has wsX7_has) := goodIn_app (goodIn_of _ (by decide +kernel)) ggX7_told_X7_has
theorem dX7_told_0 : decode cX7_told 0 = .ok (.iload_n 1, 1) := by decide +kernel
theorem dX7_told_1 : decode cX7_told 1 = .ok (.bipush 10, 2) := by decide +kernel
theorem dX7_told_3 : decode cX7_told 3 = .ok (.if_icmp .lt 99, 3) := by decide +kernel
theorem dX7_told_6 : decode cX7_told 6 = .ok (.iload_n 1, 1) := by decide +kernel
theorem dX7_told_7 : decode cX7_told 7 = .ok (.bipush 10, 2) := by decide +kernel
theorem dX7_told_9 : decode cX7_told 9 = .ok (.idiv, 1) := by decide +kernel
theorem dX7_told_10 : decode cX7_told 10 = .ok (.iconst 1, 1) := by decide +kernel
theorem dX7_told_11 : decode cX7_told 11 = .ok (.isub, 1) := by decide +kernel
theorem dX7_told_12 : decode cX7_told 12 = .ok (.istore_n 2, 1) := by decide +kernel
theorem dX7_told_13 : decode cX7_told 13 = .ok (.iload_n 2, 1) := by decide +kernel
theorem dX7_told_14 : decode cX7_told 14 = .ok (.iconst 0, 1) := by decide +kernel
theorem dX7_told_15 : decode cX7_told 15 = .ok (.bipush 9, 2) := by decide +kernel
theorem dX7_told_17 : decode cX7_told 17 = .ok (.invokestatic 73, 3) := by decide +kernel
theorem dX7_told_20 : decode cX7_told 20 = .ok (.ifCond .eq 14, 3) := by decide +kernel
theorem dX7_told_23 : decode cX7_told 23 = .ok (.aload_n 0, 1) := by decide +kernel
theorem dX7_told_24 : decode cX7_told 24 = .ok (.getfield 67, 3) := by decide +kernel
theorem dX7_told_27 : decode cX7_told 27 = .ok (.iload_n 2, 1) := by decide +kernel
theorem dX7_told_28 : decode cX7_told 28 = .ok (.invokestatic 108, 3) := by decide +kernel
theorem dX7_told_31 : decode cX7_told 31 = .ok (.ifCond .ne 6, 3) := by decide +kernel
theorem dX7_told_34 : decode cX7_told 34 = .ok (.bipush (-2), 2) := by decide +kernel
theorem dX7_told_36 : decode cX7_told 36 = .ok (.ireturn, 1) := by decide +kernel
theorem dX7_told_37 : decode cX7_told 37 = .ok (.iload_n 1, 1) := by decide +kernel
theorem dX7_told_38 : decode cX7_told 38 = .ok (.bipush 10, 2) := by decide +kernel
theorem dX7_told_40 : decode cX7_told 40 = .ok (.irem, 1) := by decide +kernel
theorem dX7_told_41 : decode cX7_told 41 = .ok (.lookupswitch 41 #[(0, 27), (1, 34)], 27) := by decide +kernel
theorem dX7_told_68 : decode cX7_told 68 = .ok (.aload_n 0, 1) := by decide +kernel
theorem dX7_told_69 : decode cX7_told 69 = .ok (.getfield 13, 3) := by decide +kernel
theorem dX7_told_72 : decode cX7_told 72 = .ok (.iload_n 2, 1) := by decide +kernel
theorem dX7_told_73 : decode cX7_told 73 = .ok (.iaload, 1) := by decide +kernel
theorem dX7_told_74 : decode cX7_told 74 = .ok (.ireturn, 1) := by decide +kernel
theorem dX7_told_75 : decode cX7_told 75 = .ok (.aload_n 0, 1) := by decide +kernel
theorem dX7_told_76 : decode cX7_told 76 = .ok (.getfield 17, 3) := by decide +kernel
theorem dX7_told_79 : decode cX7_told 79 = .ok (.iload_n 2, 1) := by decide +kernel
theorem dX7_told_80 : decode cX7_told 80 = .ok (.iaload, 1) := by decide +kernel
theorem dX7_told_81 : decode cX7_told 81 = .ok (.ireturn, 1) := by decide +kernel
theorem dX7_told_82 : decode cX7_told 82 = .ok (.iload_n 1, 1) := by decide +kernel
theorem dX7_told_83 : decode cX7_told 83 = .ok (.bipush 10, 2) := by decide +kernel
theorem dX7_told_85 : decode cX7_told 85 = .ok (.irem, 1) := by decide +kernel
theorem dX7_told_86 : decode cX7_told 86 = .ok (.iconst 2, 1) := by decide +kernel
theorem dX7_told_87 : decode cX7_told 87 = .ok (.if_icmp .ne 12, 3) := by decide +kernel
theorem dX7_told_90 : decode cX7_told 90 = .ok (.aload_n 0, 1) := by decide +kernel
theorem dX7_told_91 : decode cX7_told 91 = .ok (.getfield 20, 3) := by decide +kernel
theorem dX7_told_94 : decode cX7_told 94 = .ok (.iload_n 2, 1) := by decide +kernel
theorem dX7_told_95 : decode cX7_told 95 = .ok (.iaload, 1) := by decide +kernel
theorem dX7_told_96 : decode cX7_told 96 = .ok (.goto 5, 3) := by decide +kernel
theorem dX7_told_99 : decode cX7_told 99 = .ok (.bipush (-2), 2) := by decide +kernel
theorem dX7_told_101 : decode cX7_told 101 = .ok (.ireturn, 1) := by decide +kernel
theorem dX7_told_102 : decode cX7_told 102 = .ok (.iconst 0, 1) := by decide +kernel
theorem dX7_told_103 : decode cX7_told 103 = .ok (.istore_n 2, 1) := by decide +kernel
theorem dX7_told_104 : decode cX7_told 104 = .ok (.iconst 0, 1) := by decide +kernel
theorem dX7_told_105 : decode cX7_told 105 = .ok (.istore_n 3, 1) := by decide +kernel
theorem dX7_told_106 : decode cX7_told 106 = .ok (.iload_n 3, 1) := by decide +kernel
theorem dX7_told_107 : decode cX7_told 107 = .ok (.bipush 10, 2) := by decide +kernel
theorem dX7_told_109 : decode cX7_told 109 = .ok (.if_icmp .ge 28, 3) := by decide +kernel
theorem dX7_told_112 : decode cX7_told 112 = .ok (.iload_n 2, 1) := by decide +kernel
theorem dX7_told_113 : decode cX7_told 113 = .ok (.aload_n 0, 1) := by decide +kernel
theorem dX7_told_114 : decode cX7_told 114 = .ok (.getfield 23, 3) := by decide +kernel
theorem dX7_told_117 : decode cX7_told 117 = .ok (.iload_n 3, 1) := by decide +kernel
theorem dX7_told_118 : decode cX7_told 118 = .ok (.iaload, 1) := by decide +kernel
theorem dX7_told_119 : decode cX7_told 119 = .ok (.ifCond .lt 9, 3) := by decide +kernel
theorem dX7_told_122 : decode cX7_told 122 = .ok (.iconst 1, 1) := by decide +kernel
theorem dX7_told_123 : decode cX7_told 123 = .ok (.iload_n 3, 1) := by decide +kernel
theorem dX7_told_124 : decode cX7_told 124 = .ok (.ishl, 1) := by decide +kernel
theorem dX7_told_125 : decode cX7_told 125 = .ok (.goto 4, 3) := by decide +kernel
theorem dX7_told_128 : decode cX7_told 128 = .ok (.iconst 0, 1) := by decide +kernel
theorem dX7_told_129 : decode cX7_told 129 = .ok (.ior, 1) := by decide +kernel
theorem dX7_told_130 : decode cX7_told 130 = .ok (.istore_n 2, 1) := by decide +kernel
theorem dX7_told_131 : decode cX7_told 131 = .ok (.iinc 3 1, 3) := by decide +kernel
theorem dX7_told_134 : decode cX7_told 134 = .ok (.goto (-28), 3) := by decide +kernel
theorem dX7_told_137 : decode cX7_told 137 = .ok (.iload_n 1, 1) := by decide +kernel
theorem dX7_told_138 : decode cX7_told 138 = .ok (.tableswitch 47 0 3 #[30, 35, 40, 45], 30) := by decide +kernel
theorem dX7_told_168 : decode cX7_told 168 = .ok (.aload_n 0, 1) := by decide +kernel
theorem dX7_told_169 : decode cX7_told 169 = .ok (.getfield 81, 3) := by decide +kernel
theorem dX7_told_172 : decode cX7_told 172 = .ok (.ireturn, 1) := by decide +kernel
theorem dX7_told_173 : decode cX7_told 173 = .ok (.aload_n 0, 1) := by decide +kernel
theorem dX7_told_174 : decode cX7_told 174 = .ok (.getfield 7, 3) := by decide +kernel
theorem dX7_told_177 : decode cX7_told 177 = .ok (.ireturn, 1) := by decide +kernel
theorem dX7_told_178 : decode cX7_told 178 = .ok (.aload_n 0, 1) := by decide +kernel
theorem dX7_told_179 : decode cX7_told 179 = .ok (.getfield 67, 3) := by decide +kernel
theorem dX7_told_182 : decode cX7_told 182 = .ok (.ireturn, 1) := by decide +kernel
theorem dX7_told_183 : decode cX7_told 183 = .ok (.iload_n 2, 1) := by decide +kernel
theorem dX7_told_184 : decode cX7_told 184 = .ok (.ireturn, 1) := by decide +kernel
theorem dX7_told_185 : decode cX7_told 185 = .ok (.iload_n 1, 1) := by decide +kernel
theorem dX7_told_186 : decode cX7_told 186 = .ok (.iconst 4, 1) := by decide +kernel
theorem dX7_told_187 : decode cX7_told 187 = .ok (.if_icmp .ne 10, 3) := by decide +kernel
theorem dX7_told_190 : decode cX7_told 190 = .ok (.aload_n 0, 1) := by decide +kernel
theorem dX7_told_191 : decode cX7_told 191 = .ok (.getfield 70, 3) := by decide +kernel
theorem dX7_told_194 : decode cX7_told 194 = .ok (.goto 5, 3) := by decide +kernel
theorem dX7_told_197 : decode cX7_told 197 = .ok (.bipush (-2), 2) := by decide +kernel
theorem dX7_told_199 : decode cX7_told 199 = .ok (.ireturn, 1) := by decide +kernel
set_option maxRecDepth 20000 in
theorem ggL_law_X6_init : GoodIn wsL_law wsX6_init := goodIn_r _ [8, 9, 10, 11, 12, 13, 14, 15, 16, 17, 18, 19, 20, 21, 22, 23, 24, 25, 26, 27, 28, 29, 30, 31, 32, 33, 34, 35, 36, 37, 38, 39, 40, 41, 42, 43, 44, 45, 46, 47, 48, 49, 50, 51, 52, 53, 54, 55, 56, 57, 58, 59, 60, 61, 62, 63, 64, 65, 66, 67, 68, 69, 70, 71, 72, 73, 74, 75, 76, 77, 802, 803, 804, 805, 806, 807, 808, 809, 810, 811, 812, 768, 769, 770, 771, 772, 773, 774, 775, 813, 814, 815, 816, 817, 818, 819, 820, 821, 822, 823, 824, 825, 826, 827, 828] (by decide +kernel) (by decide +kernel)
set_option maxRecDepth 20000 in
theorem gL_law_X6_init : GoodIn wsL_law (wsX6_init) := ggL_law_X6_init
set_option maxRecDepth 20000 in
theorem ggL_law_X7_init : GoodIn wsL_law wsX7_init := goodIn_r _ [80, 81, 10, 11, 82, 42, 83, 84, 85, 86, 87, 88, 89, 90, 91, 50, 92, 93, 94, 95, 96, 97, 98, 99, 100, 101, 102, 5, 103, 104, 105, 776, 777, 778, 779, 780, 781, 782, 783, 784, 785, 786, 787, 788, 789, 790, 791, 792, 793, 794, 795, 796, 797, 798, 799, 800, 801] (by decide +kernel) (by decide +kernel)
set_option maxRecDepth 20000 in
theorem gL_law_X7_init : GoodIn wsL_law (wsX7_init) := ggL_law_X7_init
set_option maxRecDepth 20000 in
theorem ggL_law_X6_wall : GoodIn wsL_law wsX6_wall := goodIn_r _ [109, 15, 20, 110, 111, 2, 112, 113, 114, 115, 14, 116, 41, 117, 118, 48, 49, 119, 120, 768, 769, 770, 771, 772, 773, 774, 775, 802, 803, 804, 805, 806, 807, 808, 809, 810, 811, 812, 813, 814, 815] (by decide +kernel) (by decide +kernel)
set_option maxRecDepth 20000 in
theorem gL_law_X6_wall : GoodIn wsL_law (wsV RL 13 RX6 yX6_wall wsX6_wall) := goodIn_app (goodIn_of _ (by decide +kernel)) ggL_law_X6_wall
set_option maxRecDepth 20000 in
theorem ggL_law_X7_wall : GoodIn wsL_law wsX7_wall := goodIn_r _ [124, 82, 125, 126, 5, 127, 100, 101, 102, 103, 104, 105, 86, 87, 776, 777, 778, 779, 780, 781, 782, 783, 784, 785, 786, 787, 788, 789, 790, 791, 792, 793, 794, 795, 796, 797, 798, 799, 800, 801] (by decide +kernel) (by decide +kernel)
set_option maxRecDepth 20000 in
theorem gL_law_X7_wall : GoodIn wsL_law (wsV RL 17 RX7 yX7_wall wsX7_wall) := goodIn_app (goodIn_of _ (by decide +kernel)) ggL_law_X7_wall
set_option maxRecDepth 20000 in
theorem ggL_law_X6_guest : GoodIn wsL_law wsX6_guest := goodIn_r _ [131, 15, 132, 133, 2, 134, 110, 111, 112, 135, 136, 137, 14, 138, 118, 139, 140, 141, 142, 143, 144, 117, 43, 44, 45, 145, 146, 147, 148, 149, 150, 151, 152, 153, 768, 769, 770, 771, 772, 773, 774, 775, 802, 803, 804, 805, 806, 807, 808, 809, 810, 811, 812] (by decide +kernel) (by decide +kernel)
set_option maxRecDepth 20000 in
theorem gL_law_X6_guest : GoodIn wsL_law (wsV RL 18 RX6 yX6_guest wsX6_guest) := goodIn_app (goodIn_of _ (by decide +kernel)) ggL_law_X6_guest
set_option maxRecDepth 20000 in
theorem ggL_law_X7_guest : GoodIn wsL_law wsX7_guest := goodIn_r _ [157, 86, 104, 83, 84, 85, 125, 126, 5, 127, 158, 159, 160, 776, 777, 778, 779, 780, 781, 782, 783, 784, 785, 786, 787, 788, 789, 790, 791, 792, 793, 794, 795, 796, 797, 798, 799, 800, 801] (by decide +kernel) (by decide +kernel)
set_option maxRecDepth 20000 in
theorem gL_law_X7_guest : GoodIn wsL_law (wsV RL 22 RX7 yX7_guest wsX7_guest) := goodIn_app (goodIn_of _ (by decide +kernel)) ggL_law_X7_guest
set_option maxRecDepth 20000 in
theorem ggL_law_X6_say : GoodIn wsL_law wsX6_say := goodIn_r _ [164, 24, 110, 111, 2, 112, 165, 166, 167, 23, 168, 60, 169, 145, 146, 768, 769, 770, 771, 772, 773, 774, 775, 816, 817] (by decide +kernel) (by decide +kernel)
set_option maxRecDepth 20000 in
theorem gL_law_X6_say : GoodIn wsL_law (wsV RL 23 RX6 yX6_say wsX6_say) := goodIn_app (goodIn_of _ (by decide +kernel)) ggL_law_X6_say
set_option maxRecDepth 20000 in
theorem ggL_law_X7_say : GoodIn wsL_law wsX7_say := goodIn_r _ [173, 174, 89, 125, 126, 5, 127, 776, 777, 778, 779, 780, 781, 782, 783, 784, 785, 786, 787, 788, 789, 790, 791, 792, 793, 794, 795, 796, 797, 798, 799, 800, 801] (by decide +kernel) (by decide +kernel)
set_option maxRecDepth 20000 in
theorem gL_law_X7_say : GoodIn wsL_law (wsV RL 26 RX7 yX7_say wsX7_say) := goodIn_app (goodIn_of _ (by decide +kernel)) ggL_law_X7_say
set_option maxRecDepth 20000 in
theorem ggL_law_X6_wipe : GoodIn wsL_law wsX6_wipe := goodIn_r _ [178, 24, 768, 769, 770, 771, 772, 773, 774, 775, 816, 817] (by decide +kernel) (by decide +kernel)
set_option maxRecDepth 20000 in
theorem gL_law_X6_wipe : GoodIn wsL_law (wsV RL 27 RX6 yX6_wipe wsX6_wipe) := goodIn_app (goodIn_of _ (by decide +kernel)) ggL_law_X6_wipe
set_option maxRecDepth 20000 in
theorem ggL_law_X7_wipe : GoodIn wsL_law wsX7_wipe := goodIn_r _ [182, 174, 776, 777, 778, 779, 780, 781, 782, 783, 784, 785, 786, 787, 788, 789, 790, 791, 792, 793, 794, 795, 796, 797, 798, 799, 800, 801] (by decide +kernel) (by decide +kernel)
set_option maxRecDepth 20000 in
theorem gL_law_X7_wipe : GoodIn wsL_law (wsV RL 31 RX7 yX7_wipe wsX7_wipe) := goodIn_app (goodIn_of _ (by decide +kernel)) ggL_law_X7_wipe
set_option maxRecDepth 20000 in
theorem ggL_law_X6_fault : GoodIn wsL_law wsX6_fault := goodIn_r _ [186, 24, 15, 187, 188, 189, 23, 190, 169, 60, 191, 2, 192, 768, 769, 770, 771, 772, 773, 774, 775, 802, 803, 804, 805, 806, 807, 808, 809, 810, 811, 812, 816, 817] (by decide +kernel) (by decide +kernel)
set_option maxRecDepth 20000 in
theorem gL_law_X6_fault : GoodIn wsL_law (wsV RL 32 RX6 yX6_fault wsX6_fault) := goodIn_app (goodIn_of _ (by decide +kernel)) ggL_law_X6_fault
set_option maxRecDepth 20000 in
theorem ggL_law_X7_fault : GoodIn wsL_law wsX7_fault := goodIn_r _ [196, 197, 198, 199, 5, 200, 174, 89, 82, 125, 126, 127, 776, 777, 778, 779, 780, 781, 782, 783, 784, 785, 786, 787, 788, 789, 790, 791, 792, 793, 794, 795, 796, 797, 798, 799, 800, 801] (by decide +kernel) (by decide +kernel)
set_option maxRecDepth 20000 in
theorem gL_law_X7_fault : GoodIn wsL_law (wsV RL 35 RX7 yX7_fault wsX7_fault) := goodIn_app (goodIn_of _ (by decide +kernel)) ggL_law_X7_fault
set_option maxRecDepth 20000 in
theorem ggL_law_X6_judge : GoodIn wsL_law wsX6_judge := goodIn_r _ [204, 110, 111, 2, 112, 205, 206, 207, 208, 24, 15, 16, 187, 188, 189, 23, 190, 169, 60, 191, 192, 209, 210, 211, 14, 212, 41, 117, 118, 43, 44, 45, 46, 47, 48, 49, 213, 214, 215, 216, 217, 218, 219, 220, 221, 222, 223, 224, 225, 226, 227, 228, 229, 230, 231, 232, 233, 234, 235, 236, 237, 238, 239, 136, 137, 138, 139, 140, 240, 241, 242, 243, 244, 245, 246, 247, 248, 249, 250, 145, 146, 251, 252, 253, 254, 255, 256, 257, 258, 259, 260, 261, 262, 263, 264, 265, 266, 267, 268, 269, 270, 271, 272, 273, 274, 275, 276, 277, 278, 279, 280, 281, 282, 283, 284, 285, 51, 286, 287, 288, 289, 290, 291, 292, 293, 294, 295, 296, 297, 298, 299, 300, 301, 302, 303, 304, 305, 306, 307, 308, 768, 769, 770, 771, 772, 773, 774, 775, 802, 803, 804, 805, 806, 807, 808, 809, 810, 811, 812, 816, 817] (by decide +kernel) (by decide +kernel)
set_option maxRecDepth 20000 in
theorem gL_law_X6_judge : GoodIn wsL_law (wsV RL 36 RX6 yX6_judge wsX6_judge) := goodIn_app (goodIn_of _ (by decide +kernel)) ggL_law_X6_judge
set_option maxRecDepth 20000 in
theorem ggL_law_X7_judge : GoodIn wsL_law wsX7_judge := goodIn_r _ [312, 313, 125, 126, 5, 127, 197, 198, 199, 200, 174, 89, 82, 314, 315, 316, 317, 318, 319, 320, 321, 90, 86, 91, 87, 322, 323, 324, 325, 83, 326, 327, 328, 329, 330, 331, 332, 333, 334, 335, 336, 337, 338, 339, 340, 341, 342, 343, 344, 345, 104, 346, 347, 348, 349, 350, 351, 352, 353, 354, 355, 356, 357, 358, 359, 360, 361, 362, 363, 364, 92, 365, 84, 366, 367, 368, 369, 85, 776, 777, 778, 779, 780, 781, 782, 783, 784, 785, 786, 787, 788, 789, 790, 791, 792, 793, 794, 795, 796, 797, 798, 799, 800, 801] (by decide +kernel) (by decide +kernel)
set_option maxRecDepth 20000 in
theorem gL_law_X7_judge : GoodIn wsL_law (wsV RL 39 RX7 yX7_judge wsX7_judge) := goodIn_app (goodIn_of _ (by decide +kernel)) ggL_law_X7_judge
set_option maxRecDepth 20000 in
theorem ggL_law_X6_done : GoodIn wsL_law wsX6_done := goodIn_r _ [373, 24, 15, 16, 205, 206, 207, 2, 208, 187, 188, 189, 23, 190, 169, 60, 191, 192, 209, 210, 211, 14, 212, 41, 117, 118, 43, 44, 45, 46, 47, 48, 49, 213, 214, 215, 216, 217, 218, 219, 220, 221, 222, 223, 224, 225, 226, 227, 228, 229, 230, 231, 232, 233, 234, 235, 236, 237, 238, 239, 136, 137, 138, 139, 140, 240, 241, 242, 243, 244, 245, 246, 247, 248, 249, 250, 145, 146, 251, 252, 253, 254, 255, 256, 257, 258, 259, 260, 261, 262, 263, 264, 265, 266, 267, 268, 269, 270, 271, 272, 273, 274, 275, 276, 277, 278, 279, 280, 281, 282, 283, 284, 285, 51, 286, 287, 288, 289, 290, 291, 292, 293, 294, 295, 296, 297, 298, 299, 300, 301, 302, 303, 304, 305, 306, 307, 308, 768, 769, 770, 771, 772, 773, 774, 775, 816, 817, 802, 803, 804, 805, 806, 807, 808, 809, 810, 811, 812] (by decide +kernel) (by decide +kernel)
set_option maxRecDepth 20000 in
theorem gL_law_X6_done : GoodIn wsL_law (wsV RL 40 RX6 yX6_done wsX6_done) := goodIn_app (goodIn_of _ (by decide +kernel)) ggL_law_X6_done
set_option maxRecDepth 20000 in
theorem ggL_law_X7_done : GoodIn wsL_law wsX7_done := goodIn_r _ [377, 86, 90, 87, 91, 174, 378, 379, 380, 5, 381, 197, 198, 199, 200, 89, 82, 125, 126, 127, 314, 315, 316, 317, 313, 318, 319, 320, 321, 322, 323, 324, 325, 83, 326, 327, 328, 329, 330, 331, 332, 333, 334, 335, 336, 337, 338, 339, 340, 341, 342, 343, 344, 345, 104, 346, 347, 348, 349, 350, 351, 352, 353, 354, 355, 356, 357, 358, 359, 360, 361, 362, 363, 364, 92, 365, 84, 366, 367, 368, 369, 85, 776, 777, 778, 779, 780, 781, 782, 783, 784, 785, 786, 787, 788, 789, 790, 791, 792, 793, 794, 795, 796, 797, 798, 799, 800, 801] (by decide +kernel) (by decide +kernel)
set_option maxRecDepth 20000 in
theorem gL_law_X7_done : GoodIn wsL_law (wsV RL 43 RX7 yX7_done wsX7_done) := goodIn_app (goodIn_of _ (by decide +kernel)) ggL_law_X7_done
set_option maxRecDepth 20000 in
theorem ggL_law_X6_state : GoodIn wsL_law wsX6_state := goodIn_r _ [385, 15, 132, 133, 2, 134, 110, 111, 112, 386, 387, 388, 14, 389, 46, 47, 239, 136, 137, 138, 118, 139, 140, 191, 192, 768, 769, 770, 771, 772, 773, 774, 775, 802, 803, 804, 805, 806, 807, 808, 809, 810, 811, 812] (by decide +kernel) (by decide +kernel)
set_option maxRecDepth 20000 in
theorem gL_law_X6_state : GoodIn wsL_law (wsV RL 44 RX6 yX6_state wsX6_state) := goodIn_app (goodIn_of _ (by decide +kernel)) ggL_law_X6_state
set_option maxRecDepth 20000 in
theorem ggL_law_X7_state : GoodIn wsL_law wsX7_state := goodIn_r _ [393, 86, 87, 125, 126, 5, 127, 776, 777, 778, 779, 780, 781, 782, 783, 784, 785, 786, 787, 788, 789, 790, 791, 792, 793, 794, 795, 796, 797, 798, 799, 800, 801] (by decide +kernel) (by decide +kernel)
set_option maxRecDepth 20000 in
theorem gL_law_X7_state : GoodIn wsL_law (wsV RL 48 RX7 yX7_state wsX7_state) := goodIn_app (goodIn_of _ (by decide +kernel)) ggL_law_X7_state
set_option maxRecDepth 20000 in
theorem ggL_law_X6_behind : GoodIn wsL_law wsX6_behind := goodIn_r _ [397, 16, 132, 133, 2, 134, 110, 111, 112, 205, 206, 207, 208, 24, 15, 187, 188, 189, 23, 190, 169, 60, 191, 192, 209, 210, 211, 14, 212, 41, 117, 118, 43, 44, 45, 46, 47, 48, 49, 213, 214, 215, 216, 217, 218, 219, 220, 221, 222, 223, 224, 225, 226, 227, 228, 229, 230, 231, 232, 233, 234, 235, 236, 237, 238, 239, 136, 137, 138, 139, 140, 240, 241, 242, 243, 244, 245, 246, 247, 248, 249, 250, 145, 146, 251, 252, 253, 254, 255, 256, 257, 258, 259, 260, 261, 262, 263, 264, 265, 266, 267, 268, 269, 270, 271, 272, 273, 274, 275, 276, 277, 278, 279, 280, 281, 282, 283, 284, 285, 51, 286, 287, 288, 289, 290, 291, 292, 293, 294, 295, 296, 297, 298, 299, 300, 301, 302, 303, 304, 305, 306, 307, 308, 386, 387, 388, 389, 768, 769, 770, 771, 772, 773, 774, 775, 802, 803, 804, 805, 806, 807, 808, 809, 810, 811, 812, 816, 817] (by decide +kernel) (by decide +kernel)
set_option maxRecDepth 20000 in
theorem gL_law_X6_behind : GoodIn wsL_law (wsV RL 49 RX6 yX6_behind wsX6_behind) := goodIn_app (goodIn_of _ (by decide +kernel)) ggL_law_X6_behind
set_option maxRecDepth 20000 in
theorem ggL_law_X7_behind : GoodIn wsL_law wsX7_behind := goodIn_r _ [401, 90, 91, 125, 126, 5, 127, 378, 379, 380, 381, 197, 198, 199, 200, 174, 89, 82, 314, 315, 316, 317, 313, 318, 319, 320, 321, 86, 87, 322, 323, 324, 325, 83, 326, 327, 328, 329, 330, 331, 332, 333, 334, 335, 336, 337, 338, 339, 340, 341, 342, 343, 344, 345, 104, 346, 347, 348, 349, 350, 351, 352, 353, 354, 355, 356, 357, 358, 359, 360, 361, 362, 363, 364, 92, 365, 84, 366, 367, 368, 369, 85, 776, 777, 778, 779, 780, 781, 782, 783, 784, 785, 786, 787, 788, 789, 790, 791, 792, 793, 794, 795, 796, 797, 798, 799, 800, 801] (by decide +kernel) (by decide +kernel)
set_option maxRecDepth 20000 in
theorem gL_law_X7_behind : GoodIn wsL_law (wsV RL 52 RX7 yX7_behind wsX7_behind) := goodIn_app (goodIn_of _ (by decide +kernel)) ggL_law_X7_behind
set_option maxRecDepth 20000 in
theorem ggL_law_X6_height : GoodIn wsL_law wsX6_height := goodIn_r _ [405, 16, 406, 407, 408, 2, 409, 15, 110, 111, 112, 205, 206, 207, 208, 24, 187, 188, 189, 23, 190, 169, 60, 191, 192, 209, 210, 211, 14, 212, 41, 117, 118, 43, 44, 45, 46, 47, 48, 49, 213, 214, 215, 216, 217, 218, 219, 220, 221, 222, 223, 224, 225, 226, 227, 228, 229, 230, 231, 232, 233, 234, 235, 236, 237, 238, 239, 136, 137, 138, 139, 140, 240, 241, 242, 243, 244, 245, 246, 247, 248, 249, 250, 145, 146, 251, 252, 253, 254, 255, 256, 257, 258, 259, 260, 261, 262, 263, 264, 265, 266, 267, 268, 269, 270, 271, 272, 273, 274, 275, 276, 277, 278, 279, 280, 281, 282, 283, 284, 285, 51, 286, 287, 288, 289, 290, 291, 292, 293, 294, 295, 296, 297, 298, 299, 300, 301, 302, 303, 304, 305, 306, 307, 308, 410, 768, 769, 770, 771, 772, 773, 774, 775, 802, 803, 804, 805, 806, 807, 808, 809, 810, 811, 812, 816, 817] (by decide +kernel) (by decide +kernel)
set_option maxRecDepth 20000 in
theorem gL_law_X6_height : GoodIn wsL_law (wsV RL 53 RX6 yX6_height wsX6_height) := goodIn_app (goodIn_of _ (by decide +kernel)) ggL_law_X6_height
set_option maxRecDepth 20000 in
theorem ggL_law_X7_height : GoodIn wsL_law wsX7_height := goodIn_r _ [414, 82, 125, 126, 5, 127, 378, 379, 380, 381, 197, 198, 199, 200, 174, 89, 314, 315, 316, 317, 313, 318, 319, 320, 321, 90, 86, 91, 87, 322, 323, 324, 325, 83, 326, 327, 328, 329, 330, 331, 332, 333, 334, 335, 336, 337, 338, 339, 340, 341, 342, 343, 344, 345, 104, 346, 347, 348, 349, 350, 351, 352, 353, 354, 355, 356, 357, 358, 359, 360, 361, 362, 363, 364, 92, 365, 84, 366, 367, 368, 369, 85, 776, 777, 778, 779, 780, 781, 782, 783, 784, 785, 786, 787, 788, 789, 790, 791, 792, 793, 794, 795, 796, 797, 798, 799, 800, 801] (by decide +kernel) (by decide +kernel)
set_option maxRecDepth 20000 in
theorem gL_law_X7_height : GoodIn wsL_law (wsV RL 56 RX7 yX7_height wsX7_height) := goodIn_app (goodIn_of _ (by decide +kernel)) ggL_law_X7_height
set_option maxRecDepth 20000 in
theorem ggL_law_X6_load : GoodIn wsL_law wsX6_load := goodIn_r _ [418, 419, 420, 15, 421, 422, 132, 133, 2, 134, 110, 111, 112, 135, 136, 137, 14, 138, 118, 139, 140, 423, 283, 284, 285, 51, 46, 286, 287, 288, 289, 290, 291, 49, 271, 272, 217, 273, 191, 192, 239, 292, 293, 294, 295, 43, 47, 44, 296, 48, 274, 275, 276, 277, 297, 298, 244, 245, 246, 299, 300, 424, 425, 426, 427, 428, 429, 430, 768, 769, 770, 771, 772, 773, 774, 775, 802, 803, 804, 805, 806, 807, 808, 809, 810, 811, 812] (by decide +kernel) (by decide +kernel)
set_option maxRecDepth 20000 in
theorem gL_law_X6_load : GoodIn wsL_law (wsV RL 57 RX6 yX6_load wsX6_load) := goodIn_app (goodIn_of _ (by decide +kernel)) ggL_law_X6_load
set_option maxRecDepth 20000 in
theorem ggL_law_X7_load : GoodIn wsL_law wsX7_load := goodIn_r _ [434, 435, 436, 86, 437, 92, 365, 125, 126, 5, 127, 318, 319, 320, 321, 90, 91, 87, 361, 362, 363, 364, 84, 83, 357, 358, 359, 360, 330, 331, 332, 333, 334, 335, 336, 337, 326, 327, 328, 329, 438, 439, 440, 776, 777, 778, 779, 780, 781, 782, 783, 784, 785, 786, 787, 788, 789, 790, 791, 792, 793, 794, 795, 796, 797, 798, 799, 800, 801] (by decide +kernel) (by decide +kernel)
set_option maxRecDepth 20000 in
theorem gL_law_X7_load : GoodIn wsL_law (wsV RL 61 RX7 yX7_load wsX7_load) := goodIn_app (goodIn_of _ (by decide +kernel)) ggL_law_X7_load
set_option maxRecDepth 20000 in
theorem ggL_law_X6_strain : GoodIn wsL_law wsX6_strain := goodIn_r _ [444, 420, 15, 422, 110, 111, 2, 112, 423, 283, 284, 14, 285, 51, 46, 286, 287, 288, 289, 290, 291, 49, 271, 272, 217, 273, 191, 192, 239, 136, 137, 138, 118, 139, 140, 292, 293, 294, 295, 43, 47, 44, 296, 48, 274, 275, 276, 277, 297, 298, 244, 245, 246, 299, 300, 445, 446, 447, 448, 45, 449, 450, 451, 452, 453, 454, 455, 456, 457, 458, 425, 426, 427, 428, 429, 430, 768, 769, 770, 771, 772, 773, 774, 775, 802, 803, 804, 805, 806, 807, 808, 809, 810, 811, 812] (by decide +kernel) (by decide +kernel)
set_option maxRecDepth 20000 in
theorem gL_law_X6_strain : GoodIn wsL_law (wsV RL 62 RX6 yX6_strain wsX6_strain) := goodIn_app (goodIn_of _ (by decide +kernel)) ggL_law_X6_strain
set_option maxRecDepth 20000 in
theorem ggL_law_X7_strain : GoodIn wsL_law wsX7_strain := goodIn_r _ [462, 436, 463, 464, 365, 125, 126, 5, 127, 318, 319, 320, 321, 90, 86, 91, 87, 465, 466, 467, 468, 85, 92, 361, 362, 363, 364, 84, 83, 357, 358, 359, 360, 330, 331, 332, 333, 334, 335, 336, 337, 326, 327, 328, 329, 438, 439, 440, 776, 777, 778, 779, 780, 781, 782, 783, 784, 785, 786, 787, 788, 789, 790, 791, 792, 793, 794, 795, 796, 797, 798, 799, 800, 801] (by decide +kernel) (by decide +kernel)
set_option maxRecDepth 20000 in
theorem gL_law_X7_strain : GoodIn wsL_law (wsV RL 66 RX7 yX7_strain wsX7_strain) := goodIn_app (goodIn_of _ (by decide +kernel)) ggL_law_X7_strain
set_option maxRecDepth 20000 in
theorem ggL_law_X6_bulges : GoodIn wsL_law wsX6_bulges := goodIn_r _ [472, 15, 473, 474, 423, 283, 284, 14, 285, 51, 46, 286, 2, 287, 288, 289, 290, 291, 49, 271, 272, 217, 273, 191, 192, 239, 136, 137, 138, 118, 139, 140, 292, 293, 294, 295, 43, 47, 44, 296, 48, 274, 275, 276, 277, 297, 298, 244, 245, 246, 299, 300, 135, 424, 410, 768, 769, 770, 771, 772, 773, 774, 775, 802, 803, 804, 805, 806, 807, 808, 809, 810, 811, 812] (by decide +kernel) (by decide +kernel)
set_option maxRecDepth 20000 in
theorem gL_law_X6_bulges : GoodIn wsL_law (wsV RL 67 RX6 yX6_bulges wsX6_bulges) := goodIn_app (goodIn_of _ (by decide +kernel)) ggL_law_X6_bulges
set_option maxRecDepth 20000 in
theorem ggL_law_X7_bulges : GoodIn wsL_law wsX7_bulges := goodIn_r _ [478, 479, 92, 480, 85, 318, 319, 320, 5, 321, 90, 86, 91, 87, 361, 362, 363, 364, 365, 84, 83, 357, 358, 359, 360, 330, 331, 332, 333, 334, 335, 336, 337, 326, 327, 328, 329, 776, 777, 778, 779, 780, 781, 782, 783, 784, 785, 786, 787, 788, 789, 790, 791, 792, 793, 794, 795, 796, 797, 798, 799, 800, 801] (by decide +kernel) (by decide +kernel)
set_option maxRecDepth 20000 in
theorem gL_law_X7_bulges : GoodIn wsL_law (wsV RL 70 RX7 yX7_bulges wsX7_bulges) := goodIn_app (goodIn_of _ (by decide +kernel)) ggL_law_X7_bulges
set_option maxRecDepth 20000 in
theorem ggL_law_X6_touch : GoodIn wsL_law wsX6_touch := goodIn_r _ [484, 15, 485, 486, 487, 14, 488, 47, 43, 46, 489, 490, 217, 491, 239, 136, 137, 138, 118, 139, 2, 140, 191, 192, 768, 769, 770, 771, 772, 773, 774, 775, 802, 803, 804, 805, 806, 807, 808, 809, 810, 811, 812] (by decide +kernel) (by decide +kernel)
set_option maxRecDepth 20000 in
theorem gL_law_X6_touch : GoodIn wsL_law (wsV RL 71 RX6 yX6_touch wsX6_touch) := goodIn_app (goodIn_of _ (by decide +kernel)) ggL_law_X6_touch
set_option maxRecDepth 20000 in
theorem ggL_law_X7_touch : GoodIn wsL_law wsX7_touch := goodIn_r _ [495, 318, 319, 320, 5, 321, 90, 86, 91, 87, 496, 497, 498, 499, 83, 326, 327, 328, 329, 776, 777, 778, 779, 780, 781, 782, 783, 784, 785, 786, 787, 788, 789, 790, 791, 792, 793, 794, 795, 796, 797, 798, 799, 800, 801] (by decide +kernel) (by decide +kernel)
set_option maxRecDepth 20000 in
theorem gL_law_X7_touch : GoodIn wsL_law (wsV RL 74 RX7 yX7_touch wsX7_touch) := goodIn_app (goodIn_of _ (by decide +kernel)) ggL_law_X7_touch
set_option maxRecDepth 20000 in
theorem ggL_law_X6_gaps : GoodIn wsL_law wsX6_gaps := goodIn_r _ [503, 15, 406, 407, 408, 2, 409, 110, 111, 112, 504, 505, 506, 14, 507, 49, 48, 191, 192, 244, 245, 246, 768, 769, 770, 771, 772, 773, 774, 775, 802, 803, 804, 805, 806, 807, 808, 809, 810, 811, 812] (by decide +kernel) (by decide +kernel)
set_option maxRecDepth 20000 in
theorem gL_law_X6_gaps : GoodIn wsL_law (wsV RL 75 RX6 yX6_gaps wsX6_gaps) := goodIn_app (goodIn_of _ (by decide +kernel)) ggL_law_X6_gaps
set_option maxRecDepth 20000 in
theorem ggL_law_X7_gaps : GoodIn wsL_law wsX7_gaps := goodIn_r _ [511, 82, 125, 126, 5, 127, 318, 319, 320, 321, 90, 86, 91, 87, 349, 350, 351, 352, 334, 335, 336, 337, 83, 326, 327, 328, 329, 330, 331, 332, 333, 776, 777, 778, 779, 780, 781, 782, 783, 784, 785, 786, 787, 788, 789, 790, 791, 792, 793, 794, 795, 796, 797, 798, 799, 800, 801] (by decide +kernel) (by decide +kernel)
set_option maxRecDepth 20000 in
theorem gL_law_X7_gaps : GoodIn wsL_law (wsV RL 78 RX7 yX7_gaps wsX7_gaps) := goodIn_app (goodIn_of _ (by decide +kernel)) ggL_law_X7_gaps
set_option maxRecDepth 20000 in
theorem ggL_law_X6_where : GoodIn wsL_law wsX6_where := goodIn_r _ [515, 15, 16, 132, 133, 2, 134, 110, 111, 112, 516, 260, 261, 14, 262, 263, 264, 265, 266, 117, 118, 139, 140, 209, 210, 211, 212, 41, 43, 44, 45, 46, 47, 48, 49, 213, 214, 215, 216, 217, 218, 219, 220, 221, 222, 255, 256, 257, 258, 259, 191, 192, 267, 268, 269, 270, 271, 272, 273, 274, 275, 276, 277, 278, 279, 280, 281, 145, 146, 244, 245, 246, 282, 283, 284, 285, 51, 286, 287, 288, 289, 290, 291, 239, 136, 137, 138, 292, 293, 294, 295, 296, 297, 298, 299, 300, 301, 302, 303, 304, 305, 306, 307, 308, 247, 248, 249, 250, 251, 252, 253, 254, 423, 445, 446, 447, 448, 449, 450, 451, 452, 453, 454, 455, 456, 457, 458, 517, 768, 769, 770, 771, 772, 773, 774, 775, 802, 803, 804, 805, 806, 807, 808, 809, 810, 811, 812] (by decide +kernel) (by decide +kernel)
set_option maxRecDepth 20000 in
theorem gL_law_X6_where : GoodIn wsL_law (wsV RL 79 RX6 yX6_where wsX6_where) := goodIn_app (goodIn_of _ (by decide +kernel)) ggL_law_X6_where
set_option maxRecDepth 20000 in
theorem ggL_law_X7_where : GoodIn wsL_law wsX7_where := goodIn_r _ [521, 104, 86, 82, 463, 464, 125, 126, 5, 127, 346, 347, 348, 318, 319, 320, 321, 90, 91, 87, 342, 343, 344, 345, 83, 326, 327, 328, 329, 349, 350, 351, 352, 334, 335, 336, 337, 353, 354, 355, 356, 357, 358, 359, 360, 330, 331, 332, 333, 361, 362, 363, 364, 92, 365, 84, 366, 367, 368, 369, 85, 338, 339, 340, 341, 465, 466, 467, 468, 776, 777, 778, 779, 780, 781, 782, 783, 784, 785, 786, 787, 788, 789, 790, 791, 792, 793, 794, 795, 796, 797, 798, 799, 800, 801] (by decide +kernel) (by decide +kernel)
set_option maxRecDepth 20000 in
theorem gL_law_X7_where : GoodIn wsL_law (wsV RL 82 RX7 yX7_where wsX7_where) := goodIn_app (goodIn_of _ (by decide +kernel)) ggL_law_X7_where
set_option maxRecDepth 20000 in
theorem ggL_law_X6_gate : GoodIn wsL_law wsX6_gate := goodIn_r _ [525, 16, 15, 406, 407, 408, 2, 409, 110, 111, 112, 209, 210, 211, 14, 212, 41, 117, 118, 43, 44, 45, 46, 47, 48, 49, 213, 214, 215, 216, 217, 218, 219, 220, 221, 222, 410, 191, 192, 255, 256, 257, 258, 259, 260, 261, 262, 263, 264, 265, 266, 139, 140, 267, 268, 269, 270, 271, 272, 273, 274, 275, 276, 277, 278, 279, 280, 281, 145, 146, 244, 245, 246, 282, 283, 284, 285, 51, 286, 287, 288, 289, 290, 291, 239, 136, 137, 138, 292, 293, 294, 295, 296, 297, 298, 299, 300, 301, 302, 303, 304, 305, 306, 307, 308, 247, 248, 249, 250, 251, 252, 253, 254, 517, 768, 769, 770, 771, 772, 773, 774, 775, 802, 803, 804, 805, 806, 807, 808, 809, 810, 811, 812] (by decide +kernel) (by decide +kernel)
set_option maxRecDepth 20000 in
theorem gL_law_X6_gate : GoodIn wsL_law (wsV RL 83 RX6 yX6_gate wsX6_gate) := goodIn_app (goodIn_of _ (by decide +kernel)) ggL_law_X6_gate
set_option maxRecDepth 20000 in
theorem ggL_law_X7_gate : GoodIn wsL_law wsX7_gate := goodIn_r _ [529, 82, 104, 83, 90, 125, 126, 5, 127, 318, 319, 320, 321, 86, 91, 87, 346, 347, 348, 342, 343, 344, 345, 326, 327, 328, 329, 349, 350, 351, 352, 334, 335, 336, 337, 353, 354, 355, 356, 357, 358, 359, 360, 330, 331, 332, 333, 361, 362, 363, 364, 92, 365, 84, 366, 367, 368, 369, 85, 338, 339, 340, 341, 776, 777, 778, 779, 780, 781, 782, 783, 784, 785, 786, 787, 788, 789, 790, 791, 792, 793, 794, 795, 796, 797, 798, 799, 800, 801] (by decide +kernel) (by decide +kernel)
set_option maxRecDepth 20000 in
theorem gL_law_X7_gate : GoodIn wsL_law (wsV RL 87 RX7 yX7_gate wsX7_gate) := goodIn_app (goodIn_of _ (by decide +kernel)) ggL_law_X7_gate
set_option maxRecDepth 20000 in
theorem ggL_law_X6_orders : GoodIn wsL_law wsX6_orders := goodIn_r _ [533, 24, 15, 16, 37, 187, 188, 189, 23, 190, 169, 60, 191, 2, 192, 534, 535, 536, 537, 223, 224, 225, 226, 227, 228, 229, 230, 231, 232, 233, 234, 209, 210, 211, 14, 212, 41, 117, 118, 43, 44, 45, 46, 47, 48, 49, 213, 214, 215, 216, 217, 218, 219, 220, 221, 222, 538, 539, 540, 36, 541, 542, 75, 543, 544, 545, 145, 146, 546, 547, 548, 549, 550, 551, 552, 76, 77, 553, 139, 140, 410, 255, 256, 257, 258, 259, 260, 261, 262, 263, 264, 265, 266, 267, 268, 269, 270, 271, 272, 273, 274, 275, 276, 277, 278, 279, 280, 281, 244, 245, 246, 282, 283, 284, 285, 51, 286, 287, 288, 289, 290, 291, 239, 136, 137, 138, 292, 293, 294, 295, 296, 297, 298, 299, 300, 301, 302, 303, 304, 305, 306, 307, 308, 247, 248, 249, 250, 251, 252, 253, 254, 554, 517, 768, 769, 770, 771, 772, 773, 774, 775, 802, 803, 804, 805, 806, 807, 808, 809, 810, 811, 812, 825, 826, 827, 828, 816, 817] (by decide +kernel) (by decide +kernel)
set_option maxRecDepth 20000 in
theorem gL_law_X6_orders : GoodIn wsL_law (wsV RL 88 RX6 yX6_orders wsX6_orders) := goodIn_app (goodIn_of _ (by decide +kernel)) ggL_law_X6_orders
set_option maxRecDepth 20000 in
theorem ggL_law_X7_orders : GoodIn wsL_law wsX7_orders := goodIn_r _ [558, 174, 89, 93, 94, 559, 560, 561, 5, 562, 197, 198, 199, 200, 82, 125, 126, 127, 346, 347, 348, 318, 319, 320, 321, 90, 86, 91, 87, 563, 564, 565, 566, 342, 343, 344, 345, 104, 83, 326, 327, 328, 329, 349, 350, 351, 352, 334, 335, 336, 337, 353, 354, 355, 356, 357, 358, 359, 360, 330, 331, 332, 333, 361, 362, 363, 364, 92, 365, 84, 366, 367, 368, 369, 85, 338, 339, 340, 341, 776, 777, 778, 779, 780, 781, 782, 783, 784, 785, 786, 787, 788, 789, 790, 791, 792, 793, 794, 795, 796, 797, 798, 799, 800, 801] (by decide +kernel) (by decide +kernel)
set_option maxRecDepth 20000 in
theorem gL_law_X7_orders : GoodIn wsL_law (wsV RL 91 RX7 yX7_orders wsX7_orders) := goodIn_app (goodIn_of _ (by decide +kernel)) ggL_law_X7_orders
set_option maxRecDepth 20000 in
theorem ggL_law_X6_high : GoodIn wsL_law wsX6_high := goodIn_r _ [570, 15, 16, 110, 111, 2, 112, 571, 264, 265, 14, 266, 117, 118, 147, 148, 149, 150, 151, 152, 153, 209, 210, 211, 212, 41, 43, 44, 45, 46, 47, 48, 49, 213, 214, 215, 216, 217, 218, 219, 220, 221, 222, 572, 573, 574, 575, 272, 273, 576, 289, 290, 291, 271, 191, 192, 516, 260, 261, 262, 263, 139, 140, 255, 256, 257, 258, 259, 267, 268, 269, 270, 274, 275, 276, 277, 278, 279, 280, 281, 145, 146, 244, 245, 246, 282, 283, 284, 285, 51, 286, 287, 288, 239, 136, 137, 138, 292, 293, 294, 295, 296, 297, 298, 299, 300, 301, 302, 303, 304, 305, 306, 307, 308, 247, 248, 249, 250, 251, 252, 253, 254, 517, 768, 769, 770, 771, 772, 773, 774, 775, 802, 803, 804, 805, 806, 807, 808, 809, 810, 811, 812] (by decide +kernel) (by decide +kernel)
set_option maxRecDepth 20000 in
theorem gL_law_X6_high : GoodIn wsL_law (wsV RL 92 RX6 yX6_high wsX6_high) := goodIn_app (goodIn_of _ (by decide +kernel)) ggL_law_X6_high
set_option maxRecDepth 20000 in
theorem ggL_law_X7_high : GoodIn wsL_law wsX7_high := goodIn_r _ [580, 125, 126, 5, 127, 581, 582, 583, 584, 104, 86, 346, 347, 348, 158, 159, 160, 585, 586, 587, 588, 589, 590, 591, 592, 95, 82, 318, 319, 320, 321, 90, 91, 87, 342, 343, 344, 345, 83, 326, 327, 328, 329, 349, 350, 351, 352, 334, 335, 336, 337, 353, 354, 355, 356, 357, 358, 359, 360, 330, 331, 332, 333, 361, 362, 363, 364, 92, 365, 84, 366, 367, 368, 369, 85, 338, 339, 340, 341, 593, 594, 595, 596, 776, 777, 778, 779, 780, 781, 782, 783, 784, 785, 786, 787, 788, 789, 790, 791, 792, 793, 794, 795, 796, 797, 798, 799, 800, 801] (by decide +kernel) (by decide +kernel)
set_option maxRecDepth 20000 in
theorem gL_law_X7_high : GoodIn wsL_law (wsV RL 95 RX7 yX7_high wsX7_high) := goodIn_app (goodIn_of _ (by decide +kernel)) ggL_law_X7_high
set_option maxRecDepth 20000 in
theorem ggL_law_X6_falls : GoodIn wsL_law wsX6_falls := goodIn_r _ [600, 110, 111, 2, 112, 601, 602, 603, 604, 16, 15, 209, 210, 211, 14, 212, 41, 117, 118, 43, 44, 45, 46, 47, 48, 49, 213, 214, 215, 216, 217, 218, 219, 220, 221, 222, 605, 606, 607, 608, 139, 140, 247, 248, 249, 250, 239, 136, 137, 138, 191, 192, 244, 245, 246, 145, 146, 251, 252, 253, 254, 609, 610, 611, 612, 613, 614, 615, 616, 282, 283, 284, 285, 51, 286, 287, 288, 289, 290, 291, 271, 272, 273, 292, 293, 294, 295, 296, 274, 275, 276, 277, 297, 298, 299, 300, 305, 306, 307, 308, 617, 768, 769, 770, 771, 772, 773, 774, 775, 802, 803, 804, 805, 806, 807, 808, 809, 810, 811, 812] (by decide +kernel) (by decide +kernel)
set_option maxRecDepth 20000 in
theorem gL_law_X6_falls : GoodIn wsL_law (wsV RL 96 RX6 yX6_falls wsX6_falls) := goodIn_app (goodIn_of _ (by decide +kernel)) ggL_law_X6_falls
set_option maxRecDepth 20000 in
theorem ggL_law_X7_falls : GoodIn wsL_law wsX7_falls := goodIn_r _ [621, 125, 126, 5, 127, 622, 623, 624, 625, 318, 319, 320, 321, 90, 86, 91, 87, 346, 347, 348, 338, 339, 340, 341, 361, 362, 363, 364, 92, 365, 84, 83, 357, 358, 359, 360, 330, 331, 332, 333, 334, 335, 336, 337, 326, 327, 328, 329, 353, 354, 355, 356, 366, 367, 368, 369, 85, 776, 777, 778, 779, 780, 781, 782, 783, 784, 785, 786, 787, 788, 789, 790, 791, 792, 793, 794, 795, 796, 797, 798, 799, 800, 801] (by decide +kernel) (by decide +kernel)
set_option maxRecDepth 20000 in
theorem gL_law_X7_falls : GoodIn wsL_law (wsV RL 99 RX7 yX7_falls wsX7_falls) := goodIn_app (goodIn_of _ (by decide +kernel)) ggL_law_X7_falls
set_option maxRecDepth 20000 in
theorem ggL_law_X6_key : GoodIn wsL_law wsX6_key := goodIn_r _ [629, 15, 110, 111, 2, 112, 135, 136, 137, 14, 138, 118, 139, 140, 601, 602, 603, 604, 16, 209, 210, 211, 212, 41, 117, 43, 44, 45, 46, 47, 48, 49, 213, 214, 215, 216, 217, 218, 219, 220, 221, 222, 605, 606, 607, 608, 247, 248, 249, 250, 239, 191, 192, 244, 245, 246, 145, 146, 251, 252, 253, 254, 609, 610, 611, 612, 613, 614, 615, 616, 282, 283, 284, 285, 51, 286, 287, 288, 289, 290, 291, 271, 272, 273, 292, 293, 294, 295, 296, 274, 275, 276, 277, 297, 298, 299, 300, 305, 306, 307, 308, 617, 147, 148, 149, 150, 151, 152, 153, 768, 769, 770, 771, 772, 773, 774, 775, 802, 803, 804, 805, 806, 807, 808, 809, 810, 811, 812] (by decide +kernel) (by decide +kernel)
set_option maxRecDepth 20000 in
theorem gL_law_X6_key : GoodIn wsL_law (wsV RL 100 RX6 yX6_key wsX6_key) := goodIn_app (goodIn_of _ (by decide +kernel)) ggL_law_X6_key
set_option maxRecDepth 20000 in
theorem ggL_law_X7_key : GoodIn wsL_law wsX7_key := goodIn_r _ [633, 86, 125, 126, 5, 127, 622, 623, 624, 625, 318, 319, 320, 321, 90, 91, 87, 346, 347, 348, 338, 339, 340, 341, 361, 362, 363, 364, 92, 365, 84, 83, 357, 358, 359, 360, 330, 331, 332, 333, 334, 335, 336, 337, 326, 327, 328, 329, 353, 354, 355, 356, 366, 367, 368, 369, 85, 158, 159, 160, 776, 777, 778, 779, 780, 781, 782, 783, 784, 785, 786, 787, 788, 789, 790, 791, 792, 793, 794, 795, 796, 797, 798, 799, 800, 801] (by decide +kernel) (by decide +kernel)
set_option maxRecDepth 20000 in
theorem gL_law_X7_key : GoodIn wsL_law (wsV RL 103 RX7 yX7_key wsX7_key) := goodIn_app (goodIn_of _ (by decide +kernel)) ggL_law_X7_key
set_option maxRecDepth 20000 in
theorem ggL_law_X6_seen : GoodIn wsL_law wsX6_seen := goodIn_r _ [637, 20, 406, 407, 408, 2, 409, 15, 110, 111, 112, 638, 639, 640, 19, 641, 55, 642, 56, 145, 146, 768, 769, 770, 771, 772, 773, 774, 775, 813, 814, 815, 802, 803, 804, 805, 806, 807, 808, 809, 810, 811, 812] (by decide +kernel) (by decide +kernel)
set_option maxRecDepth 20000 in
theorem gL_law_X6_seen : GoodIn wsL_law (wsV RL 104 RX6 yX6_seen wsX6_seen) := goodIn_app (goodIn_of _ (by decide +kernel)) ggL_law_X6_seen
set_option maxRecDepth 20000 in
theorem ggL_law_X7_seen : GoodIn wsL_law wsX7_seen := goodIn_r _ [646, 82, 105, 88, 125, 126, 5, 127, 776, 777, 778, 779, 780, 781, 782, 783, 784, 785, 786, 787, 788, 789, 790, 791, 792, 793, 794, 795, 796, 797, 798, 799, 800, 801] (by decide +kernel) (by decide +kernel)
set_option maxRecDepth 20000 in
theorem gL_law_X7_seen : GoodIn wsL_law (wsV RL 107 RX7 yX7_seen wsX7_seen) := goodIn_app (goodIn_of _ (by decide +kernel)) ggL_law_X7_seen
set_option maxRecDepth 20000 in
theorem ggL_law_X6_forget : GoodIn wsL_law wsX6_forget := goodIn_r _ [650, 20, 768, 769, 770, 771, 772, 773, 774, 775, 813, 814, 815] (by decide +kernel) (by decide +kernel)
set_option maxRecDepth 20000 in
theorem gL_law_X6_forget : GoodIn wsL_law (wsV RL 108 RX6 yX6_forget wsX6_forget) := goodIn_app (goodIn_of _ (by decide +kernel)) ggL_law_X6_forget
set_option maxRecDepth 20000 in
theorem ggL_law_X7_forget : GoodIn wsL_law wsX7_forget := goodIn_r _ [654, 105, 776, 777, 778, 779, 780, 781, 782, 783, 784, 785, 786, 787, 788, 789, 790, 791, 792, 793, 794, 795, 796, 797, 798, 799, 800, 801] (by decide +kernel) (by decide +kernel)
set_option maxRecDepth 20000 in
theorem gL_law_X7_forget : GoodIn wsL_law (wsV RL 111 RX7 yX7_forget wsX7_forget) := goodIn_app (goodIn_of _ (by decide +kernel)) ggL_law_X7_forget
set_option maxRecDepth 20000 in
theorem ggL_law_X6_who : GoodIn wsL_law wsX6_who := goodIn_r _ [658, 33, 110, 111, 2, 112, 659, 660, 661, 662, 16, 15, 20, 209, 210, 211, 14, 212, 41, 117, 118, 43, 44, 45, 46, 47, 48, 49, 213, 214, 215, 216, 217, 218, 219, 220, 221, 222, 663, 664, 665, 32, 666, 667, 668, 669, 71, 119, 120, 670, 671, 672, 673, 674, 675, 19, 676, 642, 55, 56, 191, 192, 677, 678, 679, 680, 145, 146, 516, 260, 261, 262, 263, 264, 265, 266, 139, 140, 255, 256, 257, 258, 259, 267, 268, 269, 270, 271, 272, 273, 274, 275, 276, 277, 278, 279, 280, 281, 244, 245, 246, 282, 283, 284, 285, 51, 286, 287, 288, 289, 290, 291, 239, 136, 137, 138, 292, 293, 294, 295, 296, 297, 298, 299, 300, 301, 302, 303, 304, 305, 306, 307, 308, 247, 248, 249, 250, 251, 252, 253, 254, 517, 768, 769, 770, 771, 772, 773, 774, 775, 821, 822, 823, 824, 802, 803, 804, 805, 806, 807, 808, 809, 810, 811, 812, 813, 814, 815] (by decide +kernel) (by decide +kernel)
set_option maxRecDepth 20000 in
theorem gL_law_X6_who : GoodIn wsL_law (wsV RL 112 RX6 yX6_who wsX6_who) := goodIn_app (goodIn_of _ (by decide +kernel)) ggL_law_X6_who
set_option maxRecDepth 20000 in
theorem ggL_law_X7_who : GoodIn wsL_law wsX7_who := goodIn_r _ [684, 685, 686, 687, 125, 126, 5, 127, 688, 689, 690, 691, 96, 105, 88, 95, 82, 585, 586, 587, 588, 589, 590, 591, 592, 104, 86, 346, 347, 348, 318, 319, 320, 321, 90, 91, 87, 342, 343, 344, 345, 83, 326, 327, 328, 329, 349, 350, 351, 352, 334, 335, 336, 337, 353, 354, 355, 356, 357, 358, 359, 360, 330, 331, 332, 333, 361, 362, 363, 364, 92, 365, 84, 366, 367, 368, 369, 85, 338, 339, 340, 341, 776, 777, 778, 779, 780, 781, 782, 783, 784, 785, 786, 787, 788, 789, 790, 791, 792, 793, 794, 795, 796, 797, 798, 799, 800, 801] (by decide +kernel) (by decide +kernel)
set_option maxRecDepth 20000 in
theorem gL_law_X7_who : GoodIn wsL_law (wsV RL 115 RX7 yX7_who wsX7_who) := goodIn_app (goodIn_of _ (by decide +kernel)) ggL_law_X7_who
set_option maxRecDepth 20000 in
theorem ggL_law_X6_look : GoodIn wsL_law wsX6_look := goodIn_r _ [695, 33, 15, 20, 110, 111, 2, 112, 659, 660, 661, 662, 16, 209, 210, 211, 14, 212, 41, 117, 118, 43, 44, 45, 46, 47, 48, 49, 213, 214, 215, 216, 217, 218, 219, 220, 221, 222, 663, 664, 665, 32, 666, 667, 668, 669, 71, 119, 120, 670, 671, 672, 673, 674, 675, 19, 676, 642, 55, 56, 191, 192, 677, 678, 679, 680, 145, 146, 516, 260, 261, 262, 263, 264, 265, 266, 139, 140, 255, 256, 257, 258, 259, 267, 268, 269, 270, 271, 272, 273, 274, 275, 276, 277, 278, 279, 280, 281, 244, 245, 246, 282, 283, 284, 285, 51, 286, 287, 288, 289, 290, 291, 239, 136, 137, 138, 292, 293, 294, 295, 296, 297, 298, 299, 300, 301, 302, 303, 304, 305, 306, 307, 308, 247, 248, 249, 250, 251, 252, 253, 254, 517, 696, 697, 698, 699, 700, 701, 702, 703, 704, 768, 769, 770, 771, 772, 773, 774, 775, 821, 822, 823, 824, 802, 803, 804, 805, 806, 807, 808, 809, 810, 811, 812, 813, 814, 815] (by decide +kernel) (by decide +kernel)
set_option maxRecDepth 20000 in
theorem gL_law_X6_look : GoodIn wsL_law (wsV RL 116 RX6 yX6_look wsX6_look) := goodIn_app (goodIn_of _ (by decide +kernel)) ggL_law_X6_look
set_option maxRecDepth 20000 in
theorem ggL_law_X7_look : GoodIn wsL_law wsX7_look := goodIn_r _ [708, 588, 82, 685, 105, 88, 96, 125, 126, 5, 127, 688, 689, 690, 691, 686, 687, 95, 585, 586, 587, 589, 590, 591, 592, 104, 86, 346, 347, 348, 318, 319, 320, 321, 90, 91, 87, 342, 343, 344, 345, 83, 326, 327, 328, 329, 349, 350, 351, 352, 334, 335, 336, 337, 353, 354, 355, 356, 357, 358, 359, 360, 330, 331, 332, 333, 361, 362, 363, 364, 92, 365, 84, 366, 367, 368, 369, 85, 338, 339, 340, 341, 776, 777, 778, 779, 780, 781, 782, 783, 784, 785, 786, 787, 788, 789, 790, 791, 792, 793, 794, 795, 796, 797, 798, 799, 800, 801] (by decide +kernel) (by decide +kernel)
set_option maxRecDepth 20000 in
theorem gL_law_X7_look : GoodIn wsL_law (wsV RL 119 RX7 yX7_look wsX7_look) := goodIn_app (goodIn_of _ (by decide +kernel)) ggL_law_X7_look
set_option maxRecDepth 20000 in
theorem ggL_law_X6_weak : GoodIn wsL_law wsX6_weak := goodIn_r _ [712, 420, 15, 422, 713, 110, 111, 2, 112, 423, 283, 284, 14, 285, 51, 46, 286, 287, 288, 289, 290, 291, 49, 271, 272, 217, 273, 191, 192, 239, 136, 137, 138, 118, 139, 140, 292, 293, 294, 295, 43, 47, 44, 296, 48, 274, 275, 276, 277, 297, 298, 244, 245, 246, 299, 300, 135, 424, 410, 425, 426, 427, 428, 429, 430, 768, 769, 770, 771, 772, 773, 774, 775, 802, 803, 804, 805, 806, 807, 808, 809, 810, 811, 812] (by decide +kernel) (by decide +kernel)
set_option maxRecDepth 20000 in
theorem gL_law_X6_weak : GoodIn wsL_law (wsV RL 120 RX6 yX6_weak wsX6_weak) := goodIn_app (goodIn_of _ (by decide +kernel)) ggL_law_X6_weak
set_option maxRecDepth 20000 in
theorem ggL_law_X7_weak : GoodIn wsL_law wsX7_weak := goodIn_r _ [717, 436, 718, 92, 365, 85, 125, 126, 5, 127, 318, 319, 320, 321, 90, 86, 91, 87, 361, 362, 363, 364, 84, 83, 357, 358, 359, 360, 330, 331, 332, 333, 334, 335, 336, 337, 326, 327, 328, 329, 158, 159, 160, 346, 347, 348, 438, 439, 440, 776, 777, 778, 779, 780, 781, 782, 783, 784, 785, 786, 787, 788, 789, 790, 791, 792, 793, 794, 795, 796, 797, 798, 799, 800, 801] (by decide +kernel) (by decide +kernel)
set_option maxRecDepth 20000 in
theorem gL_law_X7_weak : GoodIn wsL_law (wsV RL 124 RX7 yX7_weak wsX7_weak) := goodIn_app (goodIn_of _ (by decide +kernel)) ggL_law_X7_weak
set_option maxRecDepth 20000 in
theorem ggL_law_X6_year : GoodIn wsL_law wsX6_year := goodIn_r _ [722, 16, 15, 723, 575, 272, 217, 273, 110, 111, 2, 112, 209, 210, 211, 14, 212, 41, 117, 118, 43, 44, 45, 46, 47, 48, 49, 213, 214, 215, 216, 218, 219, 220, 221, 222, 724, 725, 726, 255, 256, 257, 258, 259, 260, 261, 262, 263, 264, 265, 266, 139, 140, 191, 192, 267, 268, 269, 270, 271, 274, 275, 276, 277, 278, 279, 280, 281, 145, 146, 244, 245, 246, 282, 283, 284, 285, 51, 286, 287, 288, 289, 290, 291, 239, 136, 137, 138, 292, 293, 294, 295, 296, 297, 298, 299, 300, 301, 302, 303, 304, 305, 306, 307, 308, 247, 248, 249, 250, 251, 252, 253, 254, 235, 236, 237, 238, 240, 241, 242, 243, 576, 768, 769, 770, 771, 772, 773, 774, 775, 802, 803, 804, 805, 806, 807, 808, 809, 810, 811, 812] (by decide +kernel) (by decide +kernel)
set_option maxRecDepth 20000 in
theorem gL_law_X6_year : GoodIn wsL_law (wsV RL 125 RX6 yX6_year wsX6_year) := goodIn_app (goodIn_of _ (by decide +kernel)) ggL_law_X6_year
set_option maxRecDepth 20000 in
theorem ggL_law_X7_year : GoodIn wsL_law wsX7_year := goodIn_r _ [730, 731, 82, 125, 126, 5, 127, 318, 319, 320, 321, 90, 86, 91, 87, 342, 343, 344, 345, 104, 83, 346, 347, 348, 326, 327, 328, 329, 349, 350, 351, 352, 334, 335, 336, 337, 353, 354, 355, 356, 357, 358, 359, 360, 330, 331, 332, 333, 361, 362, 363, 364, 92, 365, 84, 366, 367, 368, 369, 85, 338, 339, 340, 341, 322, 323, 324, 325, 593, 594, 595, 596, 776, 777, 778, 779, 780, 781, 782, 783, 784, 785, 786, 787, 788, 789, 790, 791, 792, 793, 794, 795, 796, 797, 798, 799, 800, 801] (by decide +kernel) (by decide +kernel)
set_option maxRecDepth 20000 in
theorem gL_law_X7_year : GoodIn wsL_law (wsV RL 128 RX7 yX7_year wsX7_year) := goodIn_app (goodIn_of _ (by decide +kernel)) ggL_law_X7_year
set_option maxRecDepth 20000 in
theorem ggL_law_X6_image : GoodIn wsL_law wsX6_image := goodIn_r _ [735, 28, 29, 15, 20, 110, 111, 2, 112, 209, 210, 211, 14, 212, 41, 117, 118, 43, 44, 45, 46, 47, 48, 49, 213, 214, 215, 216, 217, 218, 219, 220, 221, 222, 736, 737, 738, 19, 739, 642, 55, 56, 768, 769, 770, 771, 772, 773, 774, 775, 818, 819, 820, 802, 803, 804, 805, 806, 807, 808, 809, 810, 811, 812, 813, 814, 815] (by decide +kernel) (by decide +kernel)
set_option maxRecDepth 20000 in
theorem gL_law_X6_image : GoodIn wsL_law (wsV RL 129 RX6 yX6_image wsX6_image) := goodIn_app (goodIn_of _ (by decide +kernel)) ggL_law_X6_image
set_option maxRecDepth 20000 in
theorem ggL_law_X7_image : GoodIn wsL_law wsX7_image := goodIn_r _ [743, 97, 83, 84, 85, 86, 87, 88, 82, 104, 105, 99, 125, 126, 5, 127, 776, 777, 778, 779, 780, 781, 782, 783, 784, 785, 786, 787, 788, 789, 790, 791, 792, 793, 794, 795, 796, 797, 798, 799, 800, 801] (by decide +kernel) (by decide +kernel)
set_option maxRecDepth 20000 in
theorem gL_law_X7_image : GoodIn wsL_law (wsV RL 132 RX7 yX7_image wsX7_image) := goodIn_app (goodIn_of _ (by decide +kernel)) ggL_law_X7_image
set_option maxRecDepth 20000 in
theorem ggL_law_X6_restore : GoodIn wsL_law wsX6_restore := goodIn_r _ [747, 28, 29, 15, 20, 110, 111, 2, 112, 209, 210, 211, 14, 212, 41, 117, 118, 43, 44, 45, 46, 47, 48, 49, 213, 214, 215, 216, 217, 218, 219, 220, 221, 222, 736, 737, 738, 19, 739, 642, 55, 56, 768, 769, 770, 771, 772, 773, 774, 775, 818, 819, 820, 802, 803, 804, 805, 806, 807, 808, 809, 810, 811, 812, 813, 814, 815] (by decide +kernel) (by decide +kernel)
set_option maxRecDepth 20000 in
theorem gL_law_X6_restore : GoodIn wsL_law (wsV RL 133 RX6 yX6_restore wsX6_restore) := goodIn_app (goodIn_of _ (by decide +kernel)) ggL_law_X6_restore
set_option maxRecDepth 20000 in
theorem ggL_law_X7_restore : GoodIn wsL_law wsX7_restore := goodIn_r _ [751, 99, 83, 97, 84, 85, 86, 87, 88, 82, 104, 105, 125, 126, 5, 127, 776, 777, 778, 779, 780, 781, 782, 783, 784, 785, 786, 787, 788, 789, 790, 791, 792, 793, 794, 795, 796, 797, 798, 799, 800, 801] (by decide +kernel) (by decide +kernel)
set_option maxRecDepth 20000 in
theorem gL_law_X7_restore : GoodIn wsL_law (wsV RL 136 RX7 yX7_restore wsX7_restore) := goodIn_app (goodIn_of _ (by decide +kernel)) ggL_law_X7_restore
set_option maxRecDepth 20000 in
theorem ggL_law_X6_told : GoodIn wsL_law wsX6_told := goodIn_r _ [755, 24, 15, 20, 756, 757, 758, 2, 759, 760, 761, 762, 14, 763, 117, 139, 140, 410, 191, 192, 768, 769, 770, 771, 772, 773, 774, 775, 816, 817, 802, 803, 804, 805, 806, 807, 808, 809, 810, 811, 812, 813, 814, 815] (by decide +kernel) (by decide +kernel)
set_option maxRecDepth 20000 in
theorem gL_law_X6_told : GoodIn wsL_law (wsV RL 137 RX6 yX6_told wsX6_told) := goodIn_app (goodIn_of _ (by decide +kernel)) ggL_law_X6_told
set_option maxRecDepth 20000 in
theorem ggL_law_X7_told : GoodIn wsL_law wsX7_told := goodIn_r _ [767, 104, 83, 84, 85, 86, 174, 82, 105, 125, 126, 5, 127, 346, 347, 348, 776, 777, 778, 779, 780, 781, 782, 783, 784, 785, 786, 787, 788, 789, 790, 791, 792, 793, 794, 795, 796, 797, 798, 799, 800, 801] (by decide +kernel) (by decide +kernel)
set_option maxRecDepth 20000 in
theorem gL_law_X7_told : GoodIn wsL_law (wsV RL 140 RX7 yX7_told wsX7_told) := goodIn_app (goodIn_of _ (by decide +kernel)) ggL_law_X7_told
theorem dL_law_0 : decode cL_law 0 = .ok (.new 7, 3) := by decide +kernel
theorem dL_law_3 : decode cL_law 3 = .ok (.dup, 1) := by decide +kernel
theorem dL_law_4 : decode cL_law 4 = .ok (.invokespecial 9, 3) := by decide +kernel
theorem dL_law_7 : decode cL_law 7 = .ok (.astore_n 1, 1) := by decide +kernel
theorem dL_law_8 : decode cL_law 8 = .ok (.new 10, 3) := by decide +kernel
theorem dL_law_11 : decode cL_law 11 = .ok (.dup, 1) := by decide +kernel
theorem dL_law_12 : decode cL_law 12 = .ok (.invokespecial 12, 3) := by decide +kernel
theorem dL_law_15 : decode cL_law 15 = .ok (.astore_n 2, 1) := by decide +kernel
theorem dL_law_16 : decode cL_law 16 = .ok (.iconst 0, 1) := by decide +kernel
theorem dL_law_17 : decode cL_law 17 = .ok (.istore_n 3, 1) := by decide +kernel
theorem dL_law_18 : decode cL_law 18 = .ok (.iload_n 3, 1) := by decide +kernel
theorem dL_law_19 : decode cL_law 19 = .ok (.aload_n 0, 1) := by decide +kernel
theorem dL_law_20 : decode cL_law 20 = .ok (.arraylength, 1) := by decide +kernel
theorem dL_law_21 : decode cL_law 21 = .ok (.iconst 5, 1) := by decide +kernel
theorem dL_law_22 : decode cL_law 22 = .ok (.isub, 1) := by decide +kernel
theorem dL_law_23 : decode cL_law 23 = .ok (.if_icmp .gt 944, 3) := by decide +kernel
theorem dL_law_26 : decode cL_law 26 = .ok (.aload_n 0, 1) := by decide +kernel
theorem dL_law_27 : decode cL_law 27 = .ok (.iload_n 3, 1) := by decide +kernel
theorem dL_law_28 : decode cL_law 28 = .ok (.iaload, 1) := by decide +kernel
theorem dL_law_29 : decode cL_law 29 = .ok (.bipush 31, 2) := by decide +kernel
theorem dL_law_31 : decode cL_law 31 = .ok (.iand, 1) := by decide +kernel
theorem dL_law_32 : decode cL_law 32 = .ok (.tableswitch 929 0 29 #[136, 159, 212, 235, 248, 261, 284, 297, 330, 363, 386, 420, 444, 457, 480, 503, 526, 569, 592, 615, 638, 661, 694, 707, 740, 773, 817, 860, 883, 906], 136) := by decide +kernel
theorem dL_law_168 : decode cL_law 168 = .ok (.aload_n 1, 1) := by decide +kernel
theorem dL_law_169 : decode cL_law 169 = .ok (.aload_n 0, 1) := by decide +kernel
theorem dL_law_170 : decode cL_law 170 = .ok (.iload_n 3, 1) := by decide +kernel
theorem dL_law_171 : decode cL_law 171 = .ok (.iconst 1, 1) := by decide +kernel
theorem dL_law_172 : decode cL_law 172 = .ok (.iadd, 1) := by decide +kernel
theorem dL_law_173 : decode cL_law 173 = .ok (.iaload, 1) := by decide +kernel
theorem dL_law_174 : decode cL_law 174 = .ok (.invokevirtual 13, 3) := by decide +kernel
theorem dL_law_177 : decode cL_law 177 = .ok (.aload_n 2, 1) := by decide +kernel
theorem dL_law_178 : decode cL_law 178 = .ok (.aload_n 0, 1) := by decide +kernel
theorem dL_law_179 : decode cL_law 179 = .ok (.iload_n 3, 1) := by decide +kernel
theorem dL_law_180 : decode cL_law 180 = .ok (.iconst 1, 1) := by decide +kernel
theorem dL_law_181 : decode cL_law 181 = .ok (.iadd, 1) := by decide +kernel
theorem dL_law_182 : decode cL_law 182 = .ok (.iaload, 1) := by decide +kernel
theorem dL_law_183 : decode cL_law 183 = .ok (.invokevirtual 17, 3) := by decide +kernel
theorem dL_law_186 : decode cL_law 186 = .ok (.if_icmp .eq 775, 3) := by decide +kernel
theorem dL_law_189 : decode cL_law 189 = .ok (.iconst 0, 1) := by decide +kernel
theorem dL_law_190 : decode cL_law 190 = .ok (.ireturn, 1) := by decide +kernel
theorem dL_law_191 : decode cL_law 191 = .ok (.aload_n 1, 1) := by decide +kernel
theorem dL_law_192 : decode cL_law 192 = .ok (.aload_n 0, 1) := by decide +kernel
theorem dL_law_193 : decode cL_law 193 = .ok (.iload_n 3, 1) := by decide +kernel
theorem dL_law_194 : decode cL_law 194 = .ok (.iconst 1, 1) := by decide +kernel
theorem dL_law_195 : decode cL_law 195 = .ok (.iadd, 1) := by decide +kernel
theorem dL_law_196 : decode cL_law 196 = .ok (.iaload, 1) := by decide +kernel
theorem dL_law_197 : decode cL_law 197 = .ok (.aload_n 0, 1) := by decide +kernel
theorem dL_law_198 : decode cL_law 198 = .ok (.iload_n 3, 1) := by decide +kernel
theorem dL_law_199 : decode cL_law 199 = .ok (.iconst 2, 1) := by decide +kernel
theorem dL_law_200 : decode cL_law 200 = .ok (.iadd, 1) := by decide +kernel
theorem dL_law_201 : decode cL_law 201 = .ok (.iaload, 1) := by decide +kernel
theorem dL_law_202 : decode cL_law 202 = .ok (.aload_n 0, 1) := by decide +kernel
theorem dL_law_203 : decode cL_law 203 = .ok (.iload_n 3, 1) := by decide +kernel
theorem dL_law_204 : decode cL_law 204 = .ok (.iconst 3, 1) := by decide +kernel
theorem dL_law_205 : decode cL_law 205 = .ok (.iadd, 1) := by decide +kernel
theorem dL_law_206 : decode cL_law 206 = .ok (.iaload, 1) := by decide +kernel
theorem dL_law_207 : decode cL_law 207 = .ok (.aload_n 0, 1) := by decide +kernel
theorem dL_law_208 : decode cL_law 208 = .ok (.iload_n 3, 1) := by decide +kernel
theorem dL_law_209 : decode cL_law 209 = .ok (.iconst 4, 1) := by decide +kernel
theorem dL_law_210 : decode cL_law 210 = .ok (.iadd, 1) := by decide +kernel
theorem dL_law_211 : decode cL_law 211 = .ok (.iaload, 1) := by decide +kernel
theorem dL_law_212 : decode cL_law 212 = .ok (.invokevirtual 18, 3) := by decide +kernel
theorem dL_law_215 : decode cL_law 215 = .ok (.aload_n 2, 1) := by decide +kernel
theorem dL_law_216 : decode cL_law 216 = .ok (.aload_n 0, 1) := by decide +kernel
theorem dL_law_217 : decode cL_law 217 = .ok (.iload_n 3, 1) := by decide +kernel
theorem dL_law_218 : decode cL_law 218 = .ok (.iconst 1, 1) := by decide +kernel
theorem dL_law_219 : decode cL_law 219 = .ok (.iadd, 1) := by decide +kernel
theorem dL_law_220 : decode cL_law 220 = .ok (.iaload, 1) := by decide +kernel
theorem dL_law_221 : decode cL_law 221 = .ok (.aload_n 0, 1) := by decide +kernel
theorem dL_law_222 : decode cL_law 222 = .ok (.iload_n 3, 1) := by decide +kernel
theorem dL_law_223 : decode cL_law 223 = .ok (.iconst 2, 1) := by decide +kernel
theorem dL_law_224 : decode cL_law 224 = .ok (.iadd, 1) := by decide +kernel
theorem dL_law_225 : decode cL_law 225 = .ok (.iaload, 1) := by decide +kernel
theorem dL_law_226 : decode cL_law 226 = .ok (.aload_n 0, 1) := by decide +kernel
theorem dL_law_227 : decode cL_law 227 = .ok (.iload_n 3, 1) := by decide +kernel
theorem dL_law_228 : decode cL_law 228 = .ok (.iconst 3, 1) := by decide +kernel
theorem dL_law_229 : decode cL_law 229 = .ok (.iadd, 1) := by decide +kernel
theorem dL_law_230 : decode cL_law 230 = .ok (.iaload, 1) := by decide +kernel
theorem dL_law_231 : decode cL_law 231 = .ok (.aload_n 0, 1) := by decide +kernel
theorem dL_law_232 : decode cL_law 232 = .ok (.iload_n 3, 1) := by decide +kernel
theorem dL_law_233 : decode cL_law 233 = .ok (.iconst 4, 1) := by decide +kernel
theorem dL_law_234 : decode cL_law 234 = .ok (.iadd, 1) := by decide +kernel
theorem dL_law_235 : decode cL_law 235 = .ok (.iaload, 1) := by decide +kernel
theorem dL_law_236 : decode cL_law 236 = .ok (.invokevirtual 22, 3) := by decide +kernel
theorem dL_law_239 : decode cL_law 239 = .ok (.if_icmp .eq 722, 3) := by decide +kernel
theorem dL_law_242 : decode cL_law 242 = .ok (.iconst 0, 1) := by decide +kernel
theorem dL_law_243 : decode cL_law 243 = .ok (.ireturn, 1) := by decide +kernel
theorem dL_law_244 : decode cL_law 244 = .ok (.aload_n 1, 1) := by decide +kernel
theorem dL_law_245 : decode cL_law 245 = .ok (.aload_n 0, 1) := by decide +kernel
theorem dL_law_246 : decode cL_law 246 = .ok (.iload_n 3, 1) := by decide +kernel
theorem dL_law_247 : decode cL_law 247 = .ok (.iconst 1, 1) := by decide +kernel
theorem dL_law_248 : decode cL_law 248 = .ok (.iadd, 1) := by decide +kernel
theorem dL_law_249 : decode cL_law 249 = .ok (.iaload, 1) := by decide +kernel
theorem dL_law_250 : decode cL_law 250 = .ok (.invokevirtual 23, 3) := by decide +kernel
theorem dL_law_253 : decode cL_law 253 = .ok (.aload_n 2, 1) := by decide +kernel
theorem dL_law_254 : decode cL_law 254 = .ok (.aload_n 0, 1) := by decide +kernel
theorem dL_law_255 : decode cL_law 255 = .ok (.iload_n 3, 1) := by decide +kernel
theorem dL_law_256 : decode cL_law 256 = .ok (.iconst 1, 1) := by decide +kernel
theorem dL_law_257 : decode cL_law 257 = .ok (.iadd, 1) := by decide +kernel
theorem dL_law_258 : decode cL_law 258 = .ok (.iaload, 1) := by decide +kernel
theorem dL_law_259 : decode cL_law 259 = .ok (.invokevirtual 26, 3) := by decide +kernel
theorem dL_law_262 : decode cL_law 262 = .ok (.if_icmp .eq 699, 3) := by decide +kernel
theorem dL_law_265 : decode cL_law 265 = .ok (.iconst 0, 1) := by decide +kernel
theorem dL_law_266 : decode cL_law 266 = .ok (.ireturn, 1) := by decide +kernel
theorem dL_law_267 : decode cL_law 267 = .ok (.aload_n 1, 1) := by decide +kernel
theorem dL_law_268 : decode cL_law 268 = .ok (.invokevirtual 27, 3) := by decide +kernel
theorem dL_law_271 : decode cL_law 271 = .ok (.aload_n 2, 1) := by decide +kernel
theorem dL_law_272 : decode cL_law 272 = .ok (.invokevirtual 31, 3) := by decide +kernel
theorem dL_law_275 : decode cL_law 275 = .ok (.if_icmp .eq 686, 3) := by decide +kernel
theorem dL_law_278 : decode cL_law 278 = .ok (.iconst 0, 1) := by decide +kernel
theorem dL_law_279 : decode cL_law 279 = .ok (.ireturn, 1) := by decide +kernel
theorem dL_law_280 : decode cL_law 280 = .ok (.aload_n 1, 1) := by decide +kernel
theorem dL_law_281 : decode cL_law 281 = .ok (.invokevirtual 32, 3) := by decide +kernel
theorem dL_law_284 : decode cL_law 284 = .ok (.aload_n 2, 1) := by decide +kernel
theorem dL_law_285 : decode cL_law 285 = .ok (.invokevirtual 35, 3) := by decide +kernel
theorem dL_law_288 : decode cL_law 288 = .ok (.if_icmp .eq 673, 3) := by decide +kernel
theorem dL_law_291 : decode cL_law 291 = .ok (.iconst 0, 1) := by decide +kernel
theorem dL_law_292 : decode cL_law 292 = .ok (.ireturn, 1) := by decide +kernel
theorem dL_law_293 : decode cL_law 293 = .ok (.aload_n 1, 1) := by decide +kernel
theorem dL_law_294 : decode cL_law 294 = .ok (.aload_n 0, 1) := by decide +kernel
theorem dL_law_295 : decode cL_law 295 = .ok (.iload_n 3, 1) := by decide +kernel
theorem dL_law_296 : decode cL_law 296 = .ok (.iconst 1, 1) := by decide +kernel
theorem dL_law_297 : decode cL_law 297 = .ok (.iadd, 1) := by decide +kernel
theorem dL_law_298 : decode cL_law 298 = .ok (.iaload, 1) := by decide +kernel
theorem dL_law_299 : decode cL_law 299 = .ok (.invokevirtual 36, 3) := by decide +kernel
theorem dL_law_302 : decode cL_law 302 = .ok (.aload_n 2, 1) := by decide +kernel
theorem dL_law_303 : decode cL_law 303 = .ok (.aload_n 0, 1) := by decide +kernel
theorem dL_law_304 : decode cL_law 304 = .ok (.iload_n 3, 1) := by decide +kernel
theorem dL_law_305 : decode cL_law 305 = .ok (.iconst 1, 1) := by decide +kernel
theorem dL_law_306 : decode cL_law 306 = .ok (.iadd, 1) := by decide +kernel
theorem dL_law_307 : decode cL_law 307 = .ok (.iaload, 1) := by decide +kernel
theorem dL_law_308 : decode cL_law 308 = .ok (.invokevirtual 39, 3) := by decide +kernel
theorem dL_law_311 : decode cL_law 311 = .ok (.if_icmp .eq 650, 3) := by decide +kernel
theorem dL_law_314 : decode cL_law 314 = .ok (.iconst 0, 1) := by decide +kernel
theorem dL_law_315 : decode cL_law 315 = .ok (.ireturn, 1) := by decide +kernel
theorem dL_law_316 : decode cL_law 316 = .ok (.aload_n 1, 1) := by decide +kernel
theorem dL_law_317 : decode cL_law 317 = .ok (.invokevirtual 40, 3) := by decide +kernel
theorem dL_law_320 : decode cL_law 320 = .ok (.aload_n 2, 1) := by decide +kernel
theorem dL_law_321 : decode cL_law 321 = .ok (.invokevirtual 43, 3) := by decide +kernel
theorem dL_law_324 : decode cL_law 324 = .ok (.if_icmp .eq 637, 3) := by decide +kernel
theorem dL_law_327 : decode cL_law 327 = .ok (.iconst 0, 1) := by decide +kernel
theorem dL_law_328 : decode cL_law 328 = .ok (.ireturn, 1) := by decide +kernel
theorem dL_law_329 : decode cL_law 329 = .ok (.aload_n 1, 1) := by decide +kernel
theorem dL_law_330 : decode cL_law 330 = .ok (.aload_n 0, 1) := by decide +kernel
theorem dL_law_331 : decode cL_law 331 = .ok (.iload_n 3, 1) := by decide +kernel
theorem dL_law_332 : decode cL_law 332 = .ok (.iconst 1, 1) := by decide +kernel
theorem dL_law_333 : decode cL_law 333 = .ok (.iadd, 1) := by decide +kernel
theorem dL_law_334 : decode cL_law 334 = .ok (.iaload, 1) := by decide +kernel
theorem dL_law_335 : decode cL_law 335 = .ok (.aload_n 0, 1) := by decide +kernel
theorem dL_law_336 : decode cL_law 336 = .ok (.iload_n 3, 1) := by decide +kernel
theorem dL_law_337 : decode cL_law 337 = .ok (.iconst 2, 1) := by decide +kernel
theorem dL_law_338 : decode cL_law 338 = .ok (.iadd, 1) := by decide +kernel
theorem dL_law_339 : decode cL_law 339 = .ok (.iaload, 1) := by decide +kernel
theorem dL_law_340 : decode cL_law 340 = .ok (.invokevirtual 44, 3) := by decide +kernel
theorem dL_law_343 : decode cL_law 343 = .ok (.aload_n 2, 1) := by decide +kernel
theorem dL_law_344 : decode cL_law 344 = .ok (.aload_n 0, 1) := by decide +kernel
theorem dL_law_345 : decode cL_law 345 = .ok (.iload_n 3, 1) := by decide +kernel
theorem dL_law_346 : decode cL_law 346 = .ok (.iconst 1, 1) := by decide +kernel
theorem dL_law_347 : decode cL_law 347 = .ok (.iadd, 1) := by decide +kernel
theorem dL_law_348 : decode cL_law 348 = .ok (.iaload, 1) := by decide +kernel
theorem dL_law_349 : decode cL_law 349 = .ok (.aload_n 0, 1) := by decide +kernel
theorem dL_law_350 : decode cL_law 350 = .ok (.iload_n 3, 1) := by decide +kernel
theorem dL_law_351 : decode cL_law 351 = .ok (.iconst 2, 1) := by decide +kernel
theorem dL_law_352 : decode cL_law 352 = .ok (.iadd, 1) := by decide +kernel
theorem dL_law_353 : decode cL_law 353 = .ok (.iaload, 1) := by decide +kernel
theorem dL_law_354 : decode cL_law 354 = .ok (.invokevirtual 48, 3) := by decide +kernel
theorem dL_law_357 : decode cL_law 357 = .ok (.if_icmp .eq 604, 3) := by decide +kernel
theorem dL_law_360 : decode cL_law 360 = .ok (.iconst 0, 1) := by decide +kernel
theorem dL_law_361 : decode cL_law 361 = .ok (.ireturn, 1) := by decide +kernel
theorem dL_law_362 : decode cL_law 362 = .ok (.aload_n 1, 1) := by decide +kernel
theorem dL_law_363 : decode cL_law 363 = .ok (.aload_n 0, 1) := by decide +kernel
theorem dL_law_364 : decode cL_law 364 = .ok (.iload_n 3, 1) := by decide +kernel
theorem dL_law_365 : decode cL_law 365 = .ok (.iconst 1, 1) := by decide +kernel
theorem dL_law_366 : decode cL_law 366 = .ok (.iadd, 1) := by decide +kernel
theorem dL_law_367 : decode cL_law 367 = .ok (.iaload, 1) := by decide +kernel
theorem dL_law_368 : decode cL_law 368 = .ok (.aload_n 0, 1) := by decide +kernel
theorem dL_law_369 : decode cL_law 369 = .ok (.iload_n 3, 1) := by decide +kernel
theorem dL_law_370 : decode cL_law 370 = .ok (.iconst 2, 1) := by decide +kernel
theorem dL_law_371 : decode cL_law 371 = .ok (.iadd, 1) := by decide +kernel
theorem dL_law_372 : decode cL_law 372 = .ok (.iaload, 1) := by decide +kernel
theorem dL_law_373 : decode cL_law 373 = .ok (.invokevirtual 49, 3) := by decide +kernel
theorem dL_law_376 : decode cL_law 376 = .ok (.aload_n 2, 1) := by decide +kernel
theorem dL_law_377 : decode cL_law 377 = .ok (.aload_n 0, 1) := by decide +kernel
theorem dL_law_378 : decode cL_law 378 = .ok (.iload_n 3, 1) := by decide +kernel
theorem dL_law_379 : decode cL_law 379 = .ok (.iconst 1, 1) := by decide +kernel
theorem dL_law_380 : decode cL_law 380 = .ok (.iadd, 1) := by decide +kernel
theorem dL_law_381 : decode cL_law 381 = .ok (.iaload, 1) := by decide +kernel
theorem dL_law_382 : decode cL_law 382 = .ok (.aload_n 0, 1) := by decide +kernel
theorem dL_law_383 : decode cL_law 383 = .ok (.iload_n 3, 1) := by decide +kernel
theorem dL_law_384 : decode cL_law 384 = .ok (.iconst 2, 1) := by decide +kernel
theorem dL_law_385 : decode cL_law 385 = .ok (.iadd, 1) := by decide +kernel
theorem dL_law_386 : decode cL_law 386 = .ok (.iaload, 1) := by decide +kernel
theorem dL_law_387 : decode cL_law 387 = .ok (.invokevirtual 52, 3) := by decide +kernel
theorem dL_law_390 : decode cL_law 390 = .ok (.if_icmp .eq 571, 3) := by decide +kernel
theorem dL_law_393 : decode cL_law 393 = .ok (.iconst 0, 1) := by decide +kernel
theorem dL_law_394 : decode cL_law 394 = .ok (.ireturn, 1) := by decide +kernel
theorem dL_law_395 : decode cL_law 395 = .ok (.aload_n 1, 1) := by decide +kernel
theorem dL_law_396 : decode cL_law 396 = .ok (.aload_n 0, 1) := by decide +kernel
theorem dL_law_397 : decode cL_law 397 = .ok (.iload_n 3, 1) := by decide +kernel
theorem dL_law_398 : decode cL_law 398 = .ok (.iconst 1, 1) := by decide +kernel
theorem dL_law_399 : decode cL_law 399 = .ok (.iadd, 1) := by decide +kernel
theorem dL_law_400 : decode cL_law 400 = .ok (.iaload, 1) := by decide +kernel
theorem dL_law_401 : decode cL_law 401 = .ok (.invokevirtual 53, 3) := by decide +kernel
theorem dL_law_404 : decode cL_law 404 = .ok (.aload_n 2, 1) := by decide +kernel
theorem dL_law_405 : decode cL_law 405 = .ok (.aload_n 0, 1) := by decide +kernel
theorem dL_law_406 : decode cL_law 406 = .ok (.iload_n 3, 1) := by decide +kernel
theorem dL_law_407 : decode cL_law 407 = .ok (.iconst 1, 1) := by decide +kernel
theorem dL_law_408 : decode cL_law 408 = .ok (.iadd, 1) := by decide +kernel
theorem dL_law_409 : decode cL_law 409 = .ok (.iaload, 1) := by decide +kernel
theorem dL_law_410 : decode cL_law 410 = .ok (.invokevirtual 56, 3) := by decide +kernel
theorem dL_law_413 : decode cL_law 413 = .ok (.if_icmp .eq 548, 3) := by decide +kernel
theorem dL_law_416 : decode cL_law 416 = .ok (.iconst 0, 1) := by decide +kernel
theorem dL_law_417 : decode cL_law 417 = .ok (.ireturn, 1) := by decide +kernel
theorem dL_law_418 : decode cL_law 418 = .ok (.aload_n 1, 1) := by decide +kernel
theorem dL_law_419 : decode cL_law 419 = .ok (.aload_n 0, 1) := by decide +kernel
theorem dL_law_420 : decode cL_law 420 = .ok (.iload_n 3, 1) := by decide +kernel
theorem dL_law_421 : decode cL_law 421 = .ok (.iconst 1, 1) := by decide +kernel
theorem dL_law_422 : decode cL_law 422 = .ok (.iadd, 1) := by decide +kernel
theorem dL_law_423 : decode cL_law 423 = .ok (.iaload, 1) := by decide +kernel
theorem dL_law_424 : decode cL_law 424 = .ok (.aload_n 0, 1) := by decide +kernel
theorem dL_law_425 : decode cL_law 425 = .ok (.iload_n 3, 1) := by decide +kernel
theorem dL_law_426 : decode cL_law 426 = .ok (.iconst 2, 1) := by decide +kernel
theorem dL_law_427 : decode cL_law 427 = .ok (.iadd, 1) := by decide +kernel
theorem dL_law_428 : decode cL_law 428 = .ok (.iaload, 1) := by decide +kernel
theorem dL_law_429 : decode cL_law 429 = .ok (.invokevirtual 57, 3) := by decide +kernel
theorem dL_law_432 : decode cL_law 432 = .ok (.aload_n 2, 1) := by decide +kernel
theorem dL_law_433 : decode cL_law 433 = .ok (.aload_n 0, 1) := by decide +kernel
theorem dL_law_434 : decode cL_law 434 = .ok (.iload_n 3, 1) := by decide +kernel
theorem dL_law_435 : decode cL_law 435 = .ok (.iconst 1, 1) := by decide +kernel
theorem dL_law_436 : decode cL_law 436 = .ok (.iadd, 1) := by decide +kernel
theorem dL_law_437 : decode cL_law 437 = .ok (.iaload, 1) := by decide +kernel
theorem dL_law_438 : decode cL_law 438 = .ok (.aload_n 0, 1) := by decide +kernel
theorem dL_law_439 : decode cL_law 439 = .ok (.iload_n 3, 1) := by decide +kernel
theorem dL_law_440 : decode cL_law 440 = .ok (.iconst 2, 1) := by decide +kernel
theorem dL_law_441 : decode cL_law 441 = .ok (.iadd, 1) := by decide +kernel
theorem dL_law_442 : decode cL_law 442 = .ok (.iaload, 1) := by decide +kernel
theorem dL_law_443 : decode cL_law 443 = .ok (.invokevirtual 61, 3) := by decide +kernel
theorem dL_law_446 : decode cL_law 446 = .ok (.lcmp, 1) := by decide +kernel
theorem dL_law_447 : decode cL_law 447 = .ok (.ifCond .eq 514, 3) := by decide +kernel
theorem dL_law_450 : decode cL_law 450 = .ok (.iconst 0, 1) := by decide +kernel
theorem dL_law_451 : decode cL_law 451 = .ok (.ireturn, 1) := by decide +kernel
theorem dL_law_452 : decode cL_law 452 = .ok (.aload_n 1, 1) := by decide +kernel
theorem dL_law_453 : decode cL_law 453 = .ok (.aload_n 0, 1) := by decide +kernel
theorem dL_law_454 : decode cL_law 454 = .ok (.iload_n 3, 1) := by decide +kernel
theorem dL_law_455 : decode cL_law 455 = .ok (.iconst 1, 1) := by decide +kernel
theorem dL_law_456 : decode cL_law 456 = .ok (.iadd, 1) := by decide +kernel
theorem dL_law_457 : decode cL_law 457 = .ok (.iaload, 1) := by decide +kernel
theorem dL_law_458 : decode cL_law 458 = .ok (.invokevirtual 62, 3) := by decide +kernel
theorem dL_law_461 : decode cL_law 461 = .ok (.aload_n 2, 1) := by decide +kernel
theorem dL_law_462 : decode cL_law 462 = .ok (.aload_n 0, 1) := by decide +kernel
theorem dL_law_463 : decode cL_law 463 = .ok (.iload_n 3, 1) := by decide +kernel
theorem dL_law_464 : decode cL_law 464 = .ok (.iconst 1, 1) := by decide +kernel
theorem dL_law_465 : decode cL_law 465 = .ok (.iadd, 1) := by decide +kernel
theorem dL_law_466 : decode cL_law 466 = .ok (.iaload, 1) := by decide +kernel
theorem dL_law_467 : decode cL_law 467 = .ok (.invokevirtual 66, 3) := by decide +kernel
theorem dL_law_470 : decode cL_law 470 = .ok (.lcmp, 1) := by decide +kernel
theorem dL_law_471 : decode cL_law 471 = .ok (.ifCond .eq 490, 3) := by decide +kernel
theorem dL_law_474 : decode cL_law 474 = .ok (.iconst 0, 1) := by decide +kernel
theorem dL_law_475 : decode cL_law 475 = .ok (.ireturn, 1) := by decide +kernel
theorem dL_law_476 : decode cL_law 476 = .ok (.aload_n 1, 1) := by decide +kernel
theorem dL_law_477 : decode cL_law 477 = .ok (.invokevirtual 67, 3) := by decide +kernel
theorem dL_law_480 : decode cL_law 480 = .ok (.aload_n 2, 1) := by decide +kernel
theorem dL_law_481 : decode cL_law 481 = .ok (.invokevirtual 70, 3) := by decide +kernel
theorem dL_law_484 : decode cL_law 484 = .ok (.if_icmp .eq 477, 3) := by decide +kernel
theorem dL_law_487 : decode cL_law 487 = .ok (.iconst 0, 1) := by decide +kernel
theorem dL_law_488 : decode cL_law 488 = .ok (.ireturn, 1) := by decide +kernel
theorem dL_law_489 : decode cL_law 489 = .ok (.aload_n 1, 1) := by decide +kernel
theorem dL_law_490 : decode cL_law 490 = .ok (.aload_n 0, 1) := by decide +kernel
theorem dL_law_491 : decode cL_law 491 = .ok (.iload_n 3, 1) := by decide +kernel
theorem dL_law_492 : decode cL_law 492 = .ok (.iconst 1, 1) := by decide +kernel
theorem dL_law_493 : decode cL_law 493 = .ok (.iadd, 1) := by decide +kernel
theorem dL_law_494 : decode cL_law 494 = .ok (.iaload, 1) := by decide +kernel
theorem dL_law_495 : decode cL_law 495 = .ok (.invokevirtual 71, 3) := by decide +kernel
theorem dL_law_498 : decode cL_law 498 = .ok (.aload_n 2, 1) := by decide +kernel
theorem dL_law_499 : decode cL_law 499 = .ok (.aload_n 0, 1) := by decide +kernel
theorem dL_law_500 : decode cL_law 500 = .ok (.iload_n 3, 1) := by decide +kernel
theorem dL_law_501 : decode cL_law 501 = .ok (.iconst 1, 1) := by decide +kernel
theorem dL_law_502 : decode cL_law 502 = .ok (.iadd, 1) := by decide +kernel
theorem dL_law_503 : decode cL_law 503 = .ok (.iaload, 1) := by decide +kernel
theorem dL_law_504 : decode cL_law 504 = .ok (.invokevirtual 74, 3) := by decide +kernel
theorem dL_law_507 : decode cL_law 507 = .ok (.if_icmp .eq 454, 3) := by decide +kernel
theorem dL_law_510 : decode cL_law 510 = .ok (.iconst 0, 1) := by decide +kernel
theorem dL_law_511 : decode cL_law 511 = .ok (.ireturn, 1) := by decide +kernel
theorem dL_law_512 : decode cL_law 512 = .ok (.aload_n 1, 1) := by decide +kernel
theorem dL_law_513 : decode cL_law 513 = .ok (.aload_n 0, 1) := by decide +kernel
theorem dL_law_514 : decode cL_law 514 = .ok (.iload_n 3, 1) := by decide +kernel
theorem dL_law_515 : decode cL_law 515 = .ok (.iconst 1, 1) := by decide +kernel
theorem dL_law_516 : decode cL_law 516 = .ok (.iadd, 1) := by decide +kernel
theorem dL_law_517 : decode cL_law 517 = .ok (.iaload, 1) := by decide +kernel
theorem dL_law_518 : decode cL_law 518 = .ok (.invokevirtual 75, 3) := by decide +kernel
theorem dL_law_521 : decode cL_law 521 = .ok (.aload_n 2, 1) := by decide +kernel
theorem dL_law_522 : decode cL_law 522 = .ok (.aload_n 0, 1) := by decide +kernel
theorem dL_law_523 : decode cL_law 523 = .ok (.iload_n 3, 1) := by decide +kernel
theorem dL_law_524 : decode cL_law 524 = .ok (.iconst 1, 1) := by decide +kernel
theorem dL_law_525 : decode cL_law 525 = .ok (.iadd, 1) := by decide +kernel
theorem dL_law_526 : decode cL_law 526 = .ok (.iaload, 1) := by decide +kernel
theorem dL_law_527 : decode cL_law 527 = .ok (.invokevirtual 78, 3) := by decide +kernel
theorem dL_law_530 : decode cL_law 530 = .ok (.if_icmp .eq 431, 3) := by decide +kernel
theorem dL_law_533 : decode cL_law 533 = .ok (.iconst 0, 1) := by decide +kernel
theorem dL_law_534 : decode cL_law 534 = .ok (.ireturn, 1) := by decide +kernel
theorem dL_law_535 : decode cL_law 535 = .ok (.aload_n 1, 1) := by decide +kernel
theorem dL_law_536 : decode cL_law 536 = .ok (.aload_n 0, 1) := by decide +kernel
theorem dL_law_537 : decode cL_law 537 = .ok (.iload_n 3, 1) := by decide +kernel
theorem dL_law_538 : decode cL_law 538 = .ok (.iconst 1, 1) := by decide +kernel
theorem dL_law_539 : decode cL_law 539 = .ok (.iadd, 1) := by decide +kernel
theorem dL_law_540 : decode cL_law 540 = .ok (.iaload, 1) := by decide +kernel
theorem dL_law_541 : decode cL_law 541 = .ok (.invokevirtual 79, 3) := by decide +kernel
theorem dL_law_544 : decode cL_law 544 = .ok (.aload_n 2, 1) := by decide +kernel
theorem dL_law_545 : decode cL_law 545 = .ok (.aload_n 0, 1) := by decide +kernel
theorem dL_law_546 : decode cL_law 546 = .ok (.iload_n 3, 1) := by decide +kernel
theorem dL_law_547 : decode cL_law 547 = .ok (.iconst 1, 1) := by decide +kernel
theorem dL_law_548 : decode cL_law 548 = .ok (.iadd, 1) := by decide +kernel
theorem dL_law_549 : decode cL_law 549 = .ok (.iaload, 1) := by decide +kernel
theorem dL_law_550 : decode cL_law 550 = .ok (.invokevirtual 82, 3) := by decide +kernel
theorem dL_law_553 : decode cL_law 553 = .ok (.if_icmp .eq 408, 3) := by decide +kernel
theorem dL_law_556 : decode cL_law 556 = .ok (.iconst 0, 1) := by decide +kernel
theorem dL_law_557 : decode cL_law 557 = .ok (.ireturn, 1) := by decide +kernel
theorem dL_law_558 : decode cL_law 558 = .ok (.aload_n 1, 1) := by decide +kernel
theorem dL_law_559 : decode cL_law 559 = .ok (.aload_n 0, 1) := by decide +kernel
theorem dL_law_560 : decode cL_law 560 = .ok (.iload_n 3, 1) := by decide +kernel
theorem dL_law_561 : decode cL_law 561 = .ok (.iconst 1, 1) := by decide +kernel
theorem dL_law_562 : decode cL_law 562 = .ok (.iadd, 1) := by decide +kernel
theorem dL_law_563 : decode cL_law 563 = .ok (.iaload, 1) := by decide +kernel
theorem dL_law_564 : decode cL_law 564 = .ok (.aload_n 0, 1) := by decide +kernel
theorem dL_law_565 : decode cL_law 565 = .ok (.iload_n 3, 1) := by decide +kernel
theorem dL_law_566 : decode cL_law 566 = .ok (.iconst 2, 1) := by decide +kernel
theorem dL_law_567 : decode cL_law 567 = .ok (.iadd, 1) := by decide +kernel
theorem dL_law_568 : decode cL_law 568 = .ok (.iaload, 1) := by decide +kernel
theorem dL_law_569 : decode cL_law 569 = .ok (.aload_n 0, 1) := by decide +kernel
theorem dL_law_570 : decode cL_law 570 = .ok (.iload_n 3, 1) := by decide +kernel
theorem dL_law_571 : decode cL_law 571 = .ok (.iconst 3, 1) := by decide +kernel
theorem dL_law_572 : decode cL_law 572 = .ok (.iadd, 1) := by decide +kernel
theorem dL_law_573 : decode cL_law 573 = .ok (.iaload, 1) := by decide +kernel
theorem dL_law_574 : decode cL_law 574 = .ok (.invokevirtual 83, 3) := by decide +kernel
theorem dL_law_577 : decode cL_law 577 = .ok (.aload_n 2, 1) := by decide +kernel
theorem dL_law_578 : decode cL_law 578 = .ok (.aload_n 0, 1) := by decide +kernel
theorem dL_law_579 : decode cL_law 579 = .ok (.iload_n 3, 1) := by decide +kernel
theorem dL_law_580 : decode cL_law 580 = .ok (.iconst 1, 1) := by decide +kernel
theorem dL_law_581 : decode cL_law 581 = .ok (.iadd, 1) := by decide +kernel
theorem dL_law_582 : decode cL_law 582 = .ok (.iaload, 1) := by decide +kernel
theorem dL_law_583 : decode cL_law 583 = .ok (.aload_n 0, 1) := by decide +kernel
theorem dL_law_584 : decode cL_law 584 = .ok (.iload_n 3, 1) := by decide +kernel
theorem dL_law_585 : decode cL_law 585 = .ok (.iconst 2, 1) := by decide +kernel
theorem dL_law_586 : decode cL_law 586 = .ok (.iadd, 1) := by decide +kernel
theorem dL_law_587 : decode cL_law 587 = .ok (.iaload, 1) := by decide +kernel
theorem dL_law_588 : decode cL_law 588 = .ok (.aload_n 0, 1) := by decide +kernel
theorem dL_law_589 : decode cL_law 589 = .ok (.iload_n 3, 1) := by decide +kernel
theorem dL_law_590 : decode cL_law 590 = .ok (.iconst 3, 1) := by decide +kernel
theorem dL_law_591 : decode cL_law 591 = .ok (.iadd, 1) := by decide +kernel
theorem dL_law_592 : decode cL_law 592 = .ok (.iaload, 1) := by decide +kernel
theorem dL_law_593 : decode cL_law 593 = .ok (.invokevirtual 87, 3) := by decide +kernel
theorem dL_law_596 : decode cL_law 596 = .ok (.if_icmp .eq 365, 3) := by decide +kernel
theorem dL_law_599 : decode cL_law 599 = .ok (.iconst 0, 1) := by decide +kernel
theorem dL_law_600 : decode cL_law 600 = .ok (.ireturn, 1) := by decide +kernel
theorem dL_law_601 : decode cL_law 601 = .ok (.aload_n 1, 1) := by decide +kernel
theorem dL_law_602 : decode cL_law 602 = .ok (.aload_n 0, 1) := by decide +kernel
theorem dL_law_603 : decode cL_law 603 = .ok (.iload_n 3, 1) := by decide +kernel
theorem dL_law_604 : decode cL_law 604 = .ok (.iconst 1, 1) := by decide +kernel
theorem dL_law_605 : decode cL_law 605 = .ok (.iadd, 1) := by decide +kernel
theorem dL_law_606 : decode cL_law 606 = .ok (.iaload, 1) := by decide +kernel
theorem dL_law_607 : decode cL_law 607 = .ok (.invokevirtual 88, 3) := by decide +kernel
theorem dL_law_610 : decode cL_law 610 = .ok (.aload_n 2, 1) := by decide +kernel
theorem dL_law_611 : decode cL_law 611 = .ok (.aload_n 0, 1) := by decide +kernel
theorem dL_law_612 : decode cL_law 612 = .ok (.iload_n 3, 1) := by decide +kernel
theorem dL_law_613 : decode cL_law 613 = .ok (.iconst 1, 1) := by decide +kernel
theorem dL_law_614 : decode cL_law 614 = .ok (.iadd, 1) := by decide +kernel
theorem dL_law_615 : decode cL_law 615 = .ok (.iaload, 1) := by decide +kernel
theorem dL_law_616 : decode cL_law 616 = .ok (.invokevirtual 91, 3) := by decide +kernel
theorem dL_law_619 : decode cL_law 619 = .ok (.if_icmp .eq 342, 3) := by decide +kernel
theorem dL_law_622 : decode cL_law 622 = .ok (.iconst 0, 1) := by decide +kernel
theorem dL_law_623 : decode cL_law 623 = .ok (.ireturn, 1) := by decide +kernel
theorem dL_law_624 : decode cL_law 624 = .ok (.aload_n 1, 1) := by decide +kernel
theorem dL_law_625 : decode cL_law 625 = .ok (.aload_n 0, 1) := by decide +kernel
theorem dL_law_626 : decode cL_law 626 = .ok (.iload_n 3, 1) := by decide +kernel
theorem dL_law_627 : decode cL_law 627 = .ok (.iconst 1, 1) := by decide +kernel
theorem dL_law_628 : decode cL_law 628 = .ok (.iadd, 1) := by decide +kernel
theorem dL_law_629 : decode cL_law 629 = .ok (.iaload, 1) := by decide +kernel
theorem dL_law_630 : decode cL_law 630 = .ok (.invokevirtual 92, 3) := by decide +kernel
theorem dL_law_633 : decode cL_law 633 = .ok (.aload_n 2, 1) := by decide +kernel
theorem dL_law_634 : decode cL_law 634 = .ok (.aload_n 0, 1) := by decide +kernel
theorem dL_law_635 : decode cL_law 635 = .ok (.iload_n 3, 1) := by decide +kernel
theorem dL_law_636 : decode cL_law 636 = .ok (.iconst 1, 1) := by decide +kernel
theorem dL_law_637 : decode cL_law 637 = .ok (.iadd, 1) := by decide +kernel
theorem dL_law_638 : decode cL_law 638 = .ok (.iaload, 1) := by decide +kernel
theorem dL_law_639 : decode cL_law 639 = .ok (.invokevirtual 95, 3) := by decide +kernel
theorem dL_law_642 : decode cL_law 642 = .ok (.if_icmp .eq 319, 3) := by decide +kernel
theorem dL_law_645 : decode cL_law 645 = .ok (.iconst 0, 1) := by decide +kernel
theorem dL_law_646 : decode cL_law 646 = .ok (.ireturn, 1) := by decide +kernel
theorem dL_law_647 : decode cL_law 647 = .ok (.aload_n 1, 1) := by decide +kernel
theorem dL_law_648 : decode cL_law 648 = .ok (.aload_n 0, 1) := by decide +kernel
theorem dL_law_649 : decode cL_law 649 = .ok (.iload_n 3, 1) := by decide +kernel
theorem dL_law_650 : decode cL_law 650 = .ok (.iconst 1, 1) := by decide +kernel
theorem dL_law_651 : decode cL_law 651 = .ok (.iadd, 1) := by decide +kernel
theorem dL_law_652 : decode cL_law 652 = .ok (.iaload, 1) := by decide +kernel
theorem dL_law_653 : decode cL_law 653 = .ok (.invokevirtual 96, 3) := by decide +kernel
theorem dL_law_656 : decode cL_law 656 = .ok (.aload_n 2, 1) := by decide +kernel
theorem dL_law_657 : decode cL_law 657 = .ok (.aload_n 0, 1) := by decide +kernel
theorem dL_law_658 : decode cL_law 658 = .ok (.iload_n 3, 1) := by decide +kernel
theorem dL_law_659 : decode cL_law 659 = .ok (.iconst 1, 1) := by decide +kernel
theorem dL_law_660 : decode cL_law 660 = .ok (.iadd, 1) := by decide +kernel
theorem dL_law_661 : decode cL_law 661 = .ok (.iaload, 1) := by decide +kernel
theorem dL_law_662 : decode cL_law 662 = .ok (.invokevirtual 99, 3) := by decide +kernel
theorem dL_law_665 : decode cL_law 665 = .ok (.if_icmp .eq 296, 3) := by decide +kernel
theorem dL_law_668 : decode cL_law 668 = .ok (.iconst 0, 1) := by decide +kernel
theorem dL_law_669 : decode cL_law 669 = .ok (.ireturn, 1) := by decide +kernel
theorem dL_law_670 : decode cL_law 670 = .ok (.aload_n 1, 1) := by decide +kernel
theorem dL_law_671 : decode cL_law 671 = .ok (.aload_n 0, 1) := by decide +kernel
theorem dL_law_672 : decode cL_law 672 = .ok (.iload_n 3, 1) := by decide +kernel
theorem dL_law_673 : decode cL_law 673 = .ok (.iconst 1, 1) := by decide +kernel
theorem dL_law_674 : decode cL_law 674 = .ok (.iadd, 1) := by decide +kernel
theorem dL_law_675 : decode cL_law 675 = .ok (.iaload, 1) := by decide +kernel
theorem dL_law_676 : decode cL_law 676 = .ok (.invokevirtual 100, 3) := by decide +kernel
theorem dL_law_679 : decode cL_law 679 = .ok (.aload_n 2, 1) := by decide +kernel
theorem dL_law_680 : decode cL_law 680 = .ok (.aload_n 0, 1) := by decide +kernel
theorem dL_law_681 : decode cL_law 681 = .ok (.iload_n 3, 1) := by decide +kernel
theorem dL_law_682 : decode cL_law 682 = .ok (.iconst 1, 1) := by decide +kernel
theorem dL_law_683 : decode cL_law 683 = .ok (.iadd, 1) := by decide +kernel
theorem dL_law_684 : decode cL_law 684 = .ok (.iaload, 1) := by decide +kernel
theorem dL_law_685 : decode cL_law 685 = .ok (.invokevirtual 103, 3) := by decide +kernel
theorem dL_law_688 : decode cL_law 688 = .ok (.if_icmp .eq 273, 3) := by decide +kernel
theorem dL_law_691 : decode cL_law 691 = .ok (.iconst 0, 1) := by decide +kernel
theorem dL_law_692 : decode cL_law 692 = .ok (.ireturn, 1) := by decide +kernel
theorem dL_law_693 : decode cL_law 693 = .ok (.aload_n 1, 1) := by decide +kernel
theorem dL_law_694 : decode cL_law 694 = .ok (.aload_n 0, 1) := by decide +kernel
theorem dL_law_695 : decode cL_law 695 = .ok (.iload_n 3, 1) := by decide +kernel
theorem dL_law_696 : decode cL_law 696 = .ok (.iconst 1, 1) := by decide +kernel
theorem dL_law_697 : decode cL_law 697 = .ok (.iadd, 1) := by decide +kernel
theorem dL_law_698 : decode cL_law 698 = .ok (.iaload, 1) := by decide +kernel
theorem dL_law_699 : decode cL_law 699 = .ok (.aload_n 0, 1) := by decide +kernel
theorem dL_law_700 : decode cL_law 700 = .ok (.iload_n 3, 1) := by decide +kernel
theorem dL_law_701 : decode cL_law 701 = .ok (.iconst 2, 1) := by decide +kernel
theorem dL_law_702 : decode cL_law 702 = .ok (.iadd, 1) := by decide +kernel
theorem dL_law_703 : decode cL_law 703 = .ok (.iaload, 1) := by decide +kernel
theorem dL_law_704 : decode cL_law 704 = .ok (.invokevirtual 104, 3) := by decide +kernel
theorem dL_law_707 : decode cL_law 707 = .ok (.aload_n 2, 1) := by decide +kernel
theorem dL_law_708 : decode cL_law 708 = .ok (.aload_n 0, 1) := by decide +kernel
theorem dL_law_709 : decode cL_law 709 = .ok (.iload_n 3, 1) := by decide +kernel
theorem dL_law_710 : decode cL_law 710 = .ok (.iconst 1, 1) := by decide +kernel
theorem dL_law_711 : decode cL_law 711 = .ok (.iadd, 1) := by decide +kernel
theorem dL_law_712 : decode cL_law 712 = .ok (.iaload, 1) := by decide +kernel
theorem dL_law_713 : decode cL_law 713 = .ok (.aload_n 0, 1) := by decide +kernel
theorem dL_law_714 : decode cL_law 714 = .ok (.iload_n 3, 1) := by decide +kernel
theorem dL_law_715 : decode cL_law 715 = .ok (.iconst 2, 1) := by decide +kernel
theorem dL_law_716 : decode cL_law 716 = .ok (.iadd, 1) := by decide +kernel
theorem dL_law_717 : decode cL_law 717 = .ok (.iaload, 1) := by decide +kernel
theorem dL_law_718 : decode cL_law 718 = .ok (.invokevirtual 107, 3) := by decide +kernel
theorem dL_law_721 : decode cL_law 721 = .ok (.if_icmp .eq 240, 3) := by decide +kernel
theorem dL_law_724 : decode cL_law 724 = .ok (.iconst 0, 1) := by decide +kernel
theorem dL_law_725 : decode cL_law 725 = .ok (.ireturn, 1) := by decide +kernel
theorem dL_law_726 : decode cL_law 726 = .ok (.aload_n 1, 1) := by decide +kernel
theorem dL_law_727 : decode cL_law 727 = .ok (.invokevirtual 108, 3) := by decide +kernel
theorem dL_law_730 : decode cL_law 730 = .ok (.aload_n 2, 1) := by decide +kernel
theorem dL_law_731 : decode cL_law 731 = .ok (.invokevirtual 111, 3) := by decide +kernel
theorem dL_law_734 : decode cL_law 734 = .ok (.if_icmp .eq 227, 3) := by decide +kernel
theorem dL_law_737 : decode cL_law 737 = .ok (.iconst 0, 1) := by decide +kernel
theorem dL_law_738 : decode cL_law 738 = .ok (.ireturn, 1) := by decide +kernel
theorem dL_law_739 : decode cL_law 739 = .ok (.aload_n 1, 1) := by decide +kernel
theorem dL_law_740 : decode cL_law 740 = .ok (.aload_n 0, 1) := by decide +kernel
theorem dL_law_741 : decode cL_law 741 = .ok (.iload_n 3, 1) := by decide +kernel
theorem dL_law_742 : decode cL_law 742 = .ok (.iconst 1, 1) := by decide +kernel
theorem dL_law_743 : decode cL_law 743 = .ok (.iadd, 1) := by decide +kernel
theorem dL_law_744 : decode cL_law 744 = .ok (.iaload, 1) := by decide +kernel
theorem dL_law_745 : decode cL_law 745 = .ok (.aload_n 0, 1) := by decide +kernel
theorem dL_law_746 : decode cL_law 746 = .ok (.iload_n 3, 1) := by decide +kernel
theorem dL_law_747 : decode cL_law 747 = .ok (.iconst 2, 1) := by decide +kernel
theorem dL_law_748 : decode cL_law 748 = .ok (.iadd, 1) := by decide +kernel
theorem dL_law_749 : decode cL_law 749 = .ok (.iaload, 1) := by decide +kernel
theorem dL_law_750 : decode cL_law 750 = .ok (.invokevirtual 112, 3) := by decide +kernel
theorem dL_law_753 : decode cL_law 753 = .ok (.aload_n 2, 1) := by decide +kernel
theorem dL_law_754 : decode cL_law 754 = .ok (.aload_n 0, 1) := by decide +kernel
theorem dL_law_755 : decode cL_law 755 = .ok (.iload_n 3, 1) := by decide +kernel
theorem dL_law_756 : decode cL_law 756 = .ok (.iconst 1, 1) := by decide +kernel
theorem dL_law_757 : decode cL_law 757 = .ok (.iadd, 1) := by decide +kernel
theorem dL_law_758 : decode cL_law 758 = .ok (.iaload, 1) := by decide +kernel
theorem dL_law_759 : decode cL_law 759 = .ok (.aload_n 0, 1) := by decide +kernel
theorem dL_law_760 : decode cL_law 760 = .ok (.iload_n 3, 1) := by decide +kernel
theorem dL_law_761 : decode cL_law 761 = .ok (.iconst 2, 1) := by decide +kernel
theorem dL_law_762 : decode cL_law 762 = .ok (.iadd, 1) := by decide +kernel
theorem dL_law_763 : decode cL_law 763 = .ok (.iaload, 1) := by decide +kernel
theorem dL_law_764 : decode cL_law 764 = .ok (.invokevirtual 115, 3) := by decide +kernel
theorem dL_law_767 : decode cL_law 767 = .ok (.if_icmp .eq 194, 3) := by decide +kernel
theorem dL_law_770 : decode cL_law 770 = .ok (.iconst 0, 1) := by decide +kernel
theorem dL_law_771 : decode cL_law 771 = .ok (.ireturn, 1) := by decide +kernel
theorem dL_law_772 : decode cL_law 772 = .ok (.aload_n 1, 1) := by decide +kernel
theorem dL_law_773 : decode cL_law 773 = .ok (.aload_n 0, 1) := by decide +kernel
theorem dL_law_774 : decode cL_law 774 = .ok (.iload_n 3, 1) := by decide +kernel
theorem dL_law_775 : decode cL_law 775 = .ok (.iconst 1, 1) := by decide +kernel
theorem dL_law_776 : decode cL_law 776 = .ok (.iadd, 1) := by decide +kernel
theorem dL_law_777 : decode cL_law 777 = .ok (.iaload, 1) := by decide +kernel
theorem dL_law_778 : decode cL_law 778 = .ok (.aload_n 0, 1) := by decide +kernel
theorem dL_law_779 : decode cL_law 779 = .ok (.iload_n 3, 1) := by decide +kernel
theorem dL_law_780 : decode cL_law 780 = .ok (.iconst 2, 1) := by decide +kernel
theorem dL_law_781 : decode cL_law 781 = .ok (.iadd, 1) := by decide +kernel
theorem dL_law_782 : decode cL_law 782 = .ok (.iaload, 1) := by decide +kernel
theorem dL_law_783 : decode cL_law 783 = .ok (.invokevirtual 116, 3) := by decide +kernel
theorem dL_law_786 : decode cL_law 786 = .ok (.aload_n 2, 1) := by decide +kernel
theorem dL_law_787 : decode cL_law 787 = .ok (.aload_n 0, 1) := by decide +kernel
theorem dL_law_788 : decode cL_law 788 = .ok (.iload_n 3, 1) := by decide +kernel
theorem dL_law_789 : decode cL_law 789 = .ok (.iconst 1, 1) := by decide +kernel
theorem dL_law_790 : decode cL_law 790 = .ok (.iadd, 1) := by decide +kernel
theorem dL_law_791 : decode cL_law 791 = .ok (.iaload, 1) := by decide +kernel
theorem dL_law_792 : decode cL_law 792 = .ok (.aload_n 0, 1) := by decide +kernel
theorem dL_law_793 : decode cL_law 793 = .ok (.iload_n 3, 1) := by decide +kernel
theorem dL_law_794 : decode cL_law 794 = .ok (.iconst 2, 1) := by decide +kernel
theorem dL_law_795 : decode cL_law 795 = .ok (.iadd, 1) := by decide +kernel
theorem dL_law_796 : decode cL_law 796 = .ok (.iaload, 1) := by decide +kernel
theorem dL_law_797 : decode cL_law 797 = .ok (.invokevirtual 119, 3) := by decide +kernel
theorem dL_law_800 : decode cL_law 800 = .ok (.if_icmp .eq 161, 3) := by decide +kernel
theorem dL_law_803 : decode cL_law 803 = .ok (.iconst 0, 1) := by decide +kernel
theorem dL_law_804 : decode cL_law 804 = .ok (.ireturn, 1) := by decide +kernel
theorem dL_law_805 : decode cL_law 805 = .ok (.aload_n 1, 1) := by decide +kernel
theorem dL_law_806 : decode cL_law 806 = .ok (.aload_n 0, 1) := by decide +kernel
theorem dL_law_807 : decode cL_law 807 = .ok (.iload_n 3, 1) := by decide +kernel
theorem dL_law_808 : decode cL_law 808 = .ok (.iconst 1, 1) := by decide +kernel
theorem dL_law_809 : decode cL_law 809 = .ok (.iadd, 1) := by decide +kernel
theorem dL_law_810 : decode cL_law 810 = .ok (.iaload, 1) := by decide +kernel
theorem dL_law_811 : decode cL_law 811 = .ok (.aload_n 0, 1) := by decide +kernel
theorem dL_law_812 : decode cL_law 812 = .ok (.iload_n 3, 1) := by decide +kernel
theorem dL_law_813 : decode cL_law 813 = .ok (.iconst 2, 1) := by decide +kernel
theorem dL_law_814 : decode cL_law 814 = .ok (.iadd, 1) := by decide +kernel
theorem dL_law_815 : decode cL_law 815 = .ok (.iaload, 1) := by decide +kernel
theorem dL_law_816 : decode cL_law 816 = .ok (.aload_n 0, 1) := by decide +kernel
theorem dL_law_817 : decode cL_law 817 = .ok (.iload_n 3, 1) := by decide +kernel
theorem dL_law_818 : decode cL_law 818 = .ok (.iconst 3, 1) := by decide +kernel
theorem dL_law_819 : decode cL_law 819 = .ok (.iadd, 1) := by decide +kernel
theorem dL_law_820 : decode cL_law 820 = .ok (.iaload, 1) := by decide +kernel
theorem dL_law_821 : decode cL_law 821 = .ok (.invokevirtual 120, 3) := by decide +kernel
theorem dL_law_824 : decode cL_law 824 = .ok (.aload_n 2, 1) := by decide +kernel
theorem dL_law_825 : decode cL_law 825 = .ok (.aload_n 0, 1) := by decide +kernel
theorem dL_law_826 : decode cL_law 826 = .ok (.iload_n 3, 1) := by decide +kernel
theorem dL_law_827 : decode cL_law 827 = .ok (.iconst 1, 1) := by decide +kernel
theorem dL_law_828 : decode cL_law 828 = .ok (.iadd, 1) := by decide +kernel
theorem dL_law_829 : decode cL_law 829 = .ok (.iaload, 1) := by decide +kernel
theorem dL_law_830 : decode cL_law 830 = .ok (.aload_n 0, 1) := by decide +kernel
theorem dL_law_831 : decode cL_law 831 = .ok (.iload_n 3, 1) := by decide +kernel
theorem dL_law_832 : decode cL_law 832 = .ok (.iconst 2, 1) := by decide +kernel
theorem dL_law_833 : decode cL_law 833 = .ok (.iadd, 1) := by decide +kernel
theorem dL_law_834 : decode cL_law 834 = .ok (.iaload, 1) := by decide +kernel
theorem dL_law_835 : decode cL_law 835 = .ok (.aload_n 0, 1) := by decide +kernel
theorem dL_law_836 : decode cL_law 836 = .ok (.iload_n 3, 1) := by decide +kernel
theorem dL_law_837 : decode cL_law 837 = .ok (.iconst 3, 1) := by decide +kernel
theorem dL_law_838 : decode cL_law 838 = .ok (.iadd, 1) := by decide +kernel
theorem dL_law_839 : decode cL_law 839 = .ok (.iaload, 1) := by decide +kernel
theorem dL_law_840 : decode cL_law 840 = .ok (.invokevirtual 124, 3) := by decide +kernel
theorem dL_law_843 : decode cL_law 843 = .ok (.lcmp, 1) := by decide +kernel
theorem dL_law_844 : decode cL_law 844 = .ok (.ifCond .eq 117, 3) := by decide +kernel
theorem dL_law_847 : decode cL_law 847 = .ok (.iconst 0, 1) := by decide +kernel
theorem dL_law_848 : decode cL_law 848 = .ok (.ireturn, 1) := by decide +kernel
theorem dL_law_849 : decode cL_law 849 = .ok (.aload_n 1, 1) := by decide +kernel
theorem dL_law_850 : decode cL_law 850 = .ok (.aload_n 0, 1) := by decide +kernel
theorem dL_law_851 : decode cL_law 851 = .ok (.iload_n 3, 1) := by decide +kernel
theorem dL_law_852 : decode cL_law 852 = .ok (.iconst 1, 1) := by decide +kernel
theorem dL_law_853 : decode cL_law 853 = .ok (.iadd, 1) := by decide +kernel
theorem dL_law_854 : decode cL_law 854 = .ok (.iaload, 1) := by decide +kernel
theorem dL_law_855 : decode cL_law 855 = .ok (.aload_n 0, 1) := by decide +kernel
theorem dL_law_856 : decode cL_law 856 = .ok (.iload_n 3, 1) := by decide +kernel
theorem dL_law_857 : decode cL_law 857 = .ok (.iconst 2, 1) := by decide +kernel
theorem dL_law_858 : decode cL_law 858 = .ok (.iadd, 1) := by decide +kernel
theorem dL_law_859 : decode cL_law 859 = .ok (.iaload, 1) := by decide +kernel
theorem dL_law_860 : decode cL_law 860 = .ok (.aload_n 0, 1) := by decide +kernel
theorem dL_law_861 : decode cL_law 861 = .ok (.iload_n 3, 1) := by decide +kernel
theorem dL_law_862 : decode cL_law 862 = .ok (.iconst 3, 1) := by decide +kernel
theorem dL_law_863 : decode cL_law 863 = .ok (.iadd, 1) := by decide +kernel
theorem dL_law_864 : decode cL_law 864 = .ok (.iaload, 1) := by decide +kernel
theorem dL_law_865 : decode cL_law 865 = .ok (.invokevirtual 125, 3) := by decide +kernel
theorem dL_law_868 : decode cL_law 868 = .ok (.aload_n 2, 1) := by decide +kernel
theorem dL_law_869 : decode cL_law 869 = .ok (.aload_n 0, 1) := by decide +kernel
theorem dL_law_870 : decode cL_law 870 = .ok (.iload_n 3, 1) := by decide +kernel
theorem dL_law_871 : decode cL_law 871 = .ok (.iconst 1, 1) := by decide +kernel
theorem dL_law_872 : decode cL_law 872 = .ok (.iadd, 1) := by decide +kernel
theorem dL_law_873 : decode cL_law 873 = .ok (.iaload, 1) := by decide +kernel
theorem dL_law_874 : decode cL_law 874 = .ok (.aload_n 0, 1) := by decide +kernel
theorem dL_law_875 : decode cL_law 875 = .ok (.iload_n 3, 1) := by decide +kernel
theorem dL_law_876 : decode cL_law 876 = .ok (.iconst 2, 1) := by decide +kernel
theorem dL_law_877 : decode cL_law 877 = .ok (.iadd, 1) := by decide +kernel
theorem dL_law_878 : decode cL_law 878 = .ok (.iaload, 1) := by decide +kernel
theorem dL_law_879 : decode cL_law 879 = .ok (.aload_n 0, 1) := by decide +kernel
theorem dL_law_880 : decode cL_law 880 = .ok (.iload_n 3, 1) := by decide +kernel
theorem dL_law_881 : decode cL_law 881 = .ok (.iconst 3, 1) := by decide +kernel
theorem dL_law_882 : decode cL_law 882 = .ok (.iadd, 1) := by decide +kernel
theorem dL_law_883 : decode cL_law 883 = .ok (.iaload, 1) := by decide +kernel
theorem dL_law_884 : decode cL_law 884 = .ok (.invokevirtual 128, 3) := by decide +kernel
theorem dL_law_887 : decode cL_law 887 = .ok (.if_icmp .eq 74, 3) := by decide +kernel
theorem dL_law_890 : decode cL_law 890 = .ok (.iconst 0, 1) := by decide +kernel
theorem dL_law_891 : decode cL_law 891 = .ok (.ireturn, 1) := by decide +kernel
theorem dL_law_892 : decode cL_law 892 = .ok (.aload_n 1, 1) := by decide +kernel
theorem dL_law_893 : decode cL_law 893 = .ok (.aload_n 0, 1) := by decide +kernel
theorem dL_law_894 : decode cL_law 894 = .ok (.iload_n 3, 1) := by decide +kernel
theorem dL_law_895 : decode cL_law 895 = .ok (.iconst 1, 1) := by decide +kernel
theorem dL_law_896 : decode cL_law 896 = .ok (.iadd, 1) := by decide +kernel
theorem dL_law_897 : decode cL_law 897 = .ok (.iaload, 1) := by decide +kernel
theorem dL_law_898 : decode cL_law 898 = .ok (.invokevirtual 129, 3) := by decide +kernel
theorem dL_law_901 : decode cL_law 901 = .ok (.aload_n 2, 1) := by decide +kernel
theorem dL_law_902 : decode cL_law 902 = .ok (.aload_n 0, 1) := by decide +kernel
theorem dL_law_903 : decode cL_law 903 = .ok (.iload_n 3, 1) := by decide +kernel
theorem dL_law_904 : decode cL_law 904 = .ok (.iconst 1, 1) := by decide +kernel
theorem dL_law_905 : decode cL_law 905 = .ok (.iadd, 1) := by decide +kernel
theorem dL_law_906 : decode cL_law 906 = .ok (.iaload, 1) := by decide +kernel
theorem dL_law_907 : decode cL_law 907 = .ok (.invokevirtual 132, 3) := by decide +kernel
theorem dL_law_910 : decode cL_law 910 = .ok (.if_icmp .eq 51, 3) := by decide +kernel
theorem dL_law_913 : decode cL_law 913 = .ok (.iconst 0, 1) := by decide +kernel
theorem dL_law_914 : decode cL_law 914 = .ok (.ireturn, 1) := by decide +kernel
theorem dL_law_915 : decode cL_law 915 = .ok (.aload_n 1, 1) := by decide +kernel
theorem dL_law_916 : decode cL_law 916 = .ok (.aload_n 0, 1) := by decide +kernel
theorem dL_law_917 : decode cL_law 917 = .ok (.iload_n 3, 1) := by decide +kernel
theorem dL_law_918 : decode cL_law 918 = .ok (.iconst 1, 1) := by decide +kernel
theorem dL_law_919 : decode cL_law 919 = .ok (.iadd, 1) := by decide +kernel
theorem dL_law_920 : decode cL_law 920 = .ok (.iaload, 1) := by decide +kernel
theorem dL_law_921 : decode cL_law 921 = .ok (.invokevirtual 133, 3) := by decide +kernel
theorem dL_law_924 : decode cL_law 924 = .ok (.aload_n 2, 1) := by decide +kernel
theorem dL_law_925 : decode cL_law 925 = .ok (.aload_n 0, 1) := by decide +kernel
theorem dL_law_926 : decode cL_law 926 = .ok (.iload_n 3, 1) := by decide +kernel
theorem dL_law_927 : decode cL_law 927 = .ok (.iconst 1, 1) := by decide +kernel
theorem dL_law_928 : decode cL_law 928 = .ok (.iadd, 1) := by decide +kernel
theorem dL_law_929 : decode cL_law 929 = .ok (.iaload, 1) := by decide +kernel
theorem dL_law_930 : decode cL_law 930 = .ok (.invokevirtual 136, 3) := by decide +kernel
theorem dL_law_933 : decode cL_law 933 = .ok (.if_icmp .eq 28, 3) := by decide +kernel
theorem dL_law_936 : decode cL_law 936 = .ok (.iconst 0, 1) := by decide +kernel
theorem dL_law_937 : decode cL_law 937 = .ok (.ireturn, 1) := by decide +kernel
theorem dL_law_938 : decode cL_law 938 = .ok (.aload_n 1, 1) := by decide +kernel
theorem dL_law_939 : decode cL_law 939 = .ok (.aload_n 0, 1) := by decide +kernel
theorem dL_law_940 : decode cL_law 940 = .ok (.iload_n 3, 1) := by decide +kernel
theorem dL_law_941 : decode cL_law 941 = .ok (.iconst 1, 1) := by decide +kernel
theorem dL_law_942 : decode cL_law 942 = .ok (.iadd, 1) := by decide +kernel
theorem dL_law_943 : decode cL_law 943 = .ok (.iaload, 1) := by decide +kernel
theorem dL_law_944 : decode cL_law 944 = .ok (.invokevirtual 137, 3) := by decide +kernel
theorem dL_law_947 : decode cL_law 947 = .ok (.aload_n 2, 1) := by decide +kernel
theorem dL_law_948 : decode cL_law 948 = .ok (.aload_n 0, 1) := by decide +kernel
theorem dL_law_949 : decode cL_law 949 = .ok (.iload_n 3, 1) := by decide +kernel
theorem dL_law_950 : decode cL_law 950 = .ok (.iconst 1, 1) := by decide +kernel
theorem dL_law_951 : decode cL_law 951 = .ok (.iadd, 1) := by decide +kernel
theorem dL_law_952 : decode cL_law 952 = .ok (.iaload, 1) := by decide +kernel
theorem dL_law_953 : decode cL_law 953 = .ok (.invokevirtual 140, 3) := by decide +kernel
theorem dL_law_956 : decode cL_law 956 = .ok (.if_icmp .eq 5, 3) := by decide +kernel
theorem dL_law_959 : decode cL_law 959 = .ok (.iconst 0, 1) := by decide +kernel
theorem dL_law_960 : decode cL_law 960 = .ok (.ireturn, 1) := by decide +kernel
theorem dL_law_961 : decode cL_law 961 = .ok (.iinc 3 5, 3) := by decide +kernel
theorem dL_law_964 : decode cL_law 964 = .ok (.goto (-946), 3) := by decide +kernel
theorem dL_law_967 : decode cL_law 967 = .ok (.iconst 1, 1) := by decide +kernel
theorem dL_law_968 : decode cL_law 968 = .ok (.ireturn, 1) := by decide +kernel
