theorem dX6_lean_7 : decode cX6_lean 7 = .ok (.iload_n 1, 1) := by decide +kernel
theorem dX6_lean_8 : decode cX6_lean 8 = .ok (.invokevirtual 82, 3) := by decide +kernel
theorem dX6_lean_11 : decode cX6_lean 11 = .ok (.ifCond .eq 13, 3) := by decide +kernel
theorem dX6_lean_14 : decode cX6_lean 14 = .ok (.iload_n 2, 1) := by decide +kernel
theorem dX6_lean_15 : decode cX6_lean 15 = .ok (.iconst (-1), 1) := by decide +kernel
theorem dX6_lean_16 : decode cX6_lean 16 = .ok (.if_icmp .lt 8, 3) := by decide +kernel
theorem dX6_lean_19 : decode cX6_lean 19 = .ok (.iload_n 2, 1) := by decide +kernel
theorem dX6_lean_20 : decode cX6_lean 20 = .ok (.iload_n 1, 1) := by decide +kernel
theorem dX6_lean_21 : decode cX6_lean 21 = .ok (.if_icmp .lt 6, 3) := by decide +kernel
theorem dX6_lean_24 : decode cX6_lean 24 = .ok (.bipush (-101), 2) := by decide +kernel
theorem dX6_lean_26 : decode cX6_lean 26 = .ok (.ireturn, 1) := by decide +kernel
theorem dX6_lean_27 : decode cX6_lean 27 = .ok (.aload_n 0, 1) := by decide +kernel
theorem dX6_lean_28 : decode cX6_lean 28 = .ok (.getfield 19, 3) := by decide +kernel
theorem dX6_lean_31 : decode cX6_lean 31 = .ok (.getfield 63, 3) := by decide +kernel
theorem dX6_lean_34 : decode cX6_lean 34 = .ok (.iload_n 1, 1) := by decide +kernel
theorem dX6_lean_35 : decode cX6_lean 35 = .ok (.invokevirtual 93, 3) := by decide +kernel
theorem dX6_lean_38 : decode cX6_lean 38 = .ok (.istore_n 3, 1) := by decide +kernel
theorem dX6_lean_39 : decode cX6_lean 39 = .ok (.aload_n 0, 1) := by decide +kernel
theorem dX6_lean_40 : decode cX6_lean 40 = .ok (.getfield 19, 3) := by decide +kernel
theorem dX6_lean_43 : decode cX6_lean 43 = .ok (.getfield 63, 3) := by decide +kernel
theorem dX6_lean_46 : decode cX6_lean 46 = .ok (.iload_n 1, 1) := by decide +kernel
theorem dX6_lean_47 : decode cX6_lean 47 = .ok (.iload_n 2, 1) := by decide +kernel
theorem dX6_lean_48 : decode cX6_lean 48 = .ok (.invokevirtual 158, 3) := by decide +kernel
theorem dX6_lean_51 : decode cX6_lean 51 = .ok (.iload_n 3, 1) := by decide +kernel
theorem dX6_lean_52 : decode cX6_lean 52 = .ok (.ireturn, 1) := by decide +kernel
set_option maxRecDepth 20000 in
theorem ggX6_force_X4_stands : GoodIn wsX6_force wsX4_stands := goodIn_r _ [7, 8, 9, 10, 11, 12, 13, 14, 105, 106, 107, 108, 109, 110, 111, 112, 113] (by decide +kernel) (by decide +kernel)
set_option maxRecDepth 20000 in
theorem gX6_force_X4_stands : GoodIn wsX6_force (wsV RX6 127 RX4 yX4_stands wsX4_stands) := goodIn_app (goodIn_of _ (by decide +kernel)) ggX6_force_X4_stands
set_option maxRecDepth 20000 in
theorem ggX6_force_X1_begin : GoodIn wsX6_force wsX1_begin := goodIn_r _ [19, 20, 21, 22, 23, 24, 25, 26, 27, 12, 28, 14, 29, 30, 31, 32, 33, 34, 35, 36, 37, 38, 39, 40, 41, 42, 43, 44, 45, 114, 115, 116, 117, 118, 105, 106, 107, 108, 109, 110, 111, 112, 113, 119, 120, 121] (by decide +kernel) (by decide +kernel)
set_option maxRecDepth 20000 in
theorem gX6_force_X1_begin : GoodIn wsX6_force (wsV RX6 105 RX1 yX1_begin wsX1_begin) := goodIn_app (goodIn_of _ (by decide +kernel)) ggX6_force_X1_begin
set_option maxRecDepth 20000 in
theorem ggX6_force_X1_forceBehind : GoodIn wsX6_force wsX1_forceBehind := goodIn_r _ [49, 22, 50, 51, 52, 18, 53, 23, 54, 55, 56, 40, 57, 43, 58, 59, 60, 61, 42, 44, 62, 63, 64, 12, 65, 14, 35, 29, 66, 67, 68, 69, 36, 34, 70, 71, 72, 73, 74, 75, 76, 77, 78, 79, 80, 81, 82, 83, 84, 85, 86, 87, 88, 89, 90, 91, 92, 93, 94, 95, 96, 97, 114, 115, 116, 117, 118, 119, 120, 121, 109, 110, 111, 112, 113] (by decide +kernel) (by decide +kernel)
set_option maxRecDepth 20000 in
theorem gX6_force_X1_forceBehind : GoodIn wsX6_force (wsV RX6 161 RX1 yX1_forceBehind wsX1_forceBehind) := goodIn_app (goodIn_of _ (by decide +kernel)) ggX6_force_X1_forceBehind
theorem dX6_force_0 : decode cX6_force 0 = .ok (.iload_n 1, 1) := by decide +kernel
theorem dX6_force_1 : decode cX6_force 1 = .ok (.ifCond .lt 9, 3) := by decide +kernel
theorem dX6_force_4 : decode cX6_force 4 = .ok (.iload_n 1, 1) := by decide +kernel
theorem dX6_force_5 : decode cX6_force 5 = .ok (.bipush 99, 2) := by decide +kernel
theorem dX6_force_7 : decode cX6_force 7 = .ok (.if_icmp .le 6, 3) := by decide +kernel
theorem dX6_force_10 : decode cX6_force 10 = .ok (.bipush (-102), 2) := by decide +kernel
theorem dX6_force_12 : decode cX6_force 12 = .ok (.ireturn, 1) := by decide +kernel
theorem dX6_force_13 : decode cX6_force 13 = .ok (.aload_n 0, 1) := by decide +kernel
theorem dX6_force_14 : decode cX6_force 14 = .ok (.getfield 19, 3) := by decide +kernel
theorem dX6_force_17 : decode cX6_force 17 = .ok (.invokevirtual 127, 3) := by decide +kernel
theorem dX6_force_20 : decode cX6_force 20 = .ok (.ifCond .ne 6, 3) := by decide +kernel
theorem dX6_force_23 : decode cX6_force 23 = .ok (.bipush (-103), 2) := by decide +kernel
theorem dX6_force_25 : decode cX6_force 25 = .ok (.ireturn, 1) := by decide +kernel
theorem dX6_force_26 : decode cX6_force 26 = .ok (.aload_n 0, 1) := by decide +kernel
theorem dX6_force_27 : decode cX6_force 27 = .ok (.getfield 29, 3) := by decide +kernel
theorem dX6_force_30 : decode cX6_force 30 = .ok (.aload_n 0, 1) := by decide +kernel
theorem dX6_force_31 : decode cX6_force 31 = .ok (.getfield 19, 3) := by decide +kernel
theorem dX6_force_34 : decode cX6_force 34 = .ok (.invokevirtual 105, 3) := by decide +kernel
theorem dX6_force_37 : decode cX6_force 37 = .ok (.aload_n 0, 1) := by decide +kernel
theorem dX6_force_38 : decode cX6_force 38 = .ok (.getfield 29, 3) := by decide +kernel
theorem dX6_force_41 : decode cX6_force 41 = .ok (.iload_n 1, 1) := by decide +kernel
theorem dX6_force_42 : decode cX6_force 42 = .ok (.invokevirtual 161, 3) := by decide +kernel
theorem dX6_force_45 : decode cX6_force 45 = .ok (.ireturn, 1) := by decide +kernel
set_option maxRecDepth 20000 in
theorem ggX6_order_X4_stands : GoodIn wsX6_order wsX4_stands := goodIn_r _ [7, 8, 9, 10, 11, 12, 13, 14, 106, 107, 108, 109, 110, 111, 112, 113, 114] (by decide +kernel) (by decide +kernel)
set_option maxRecDepth 20000 in
theorem gX6_order_X4_stands : GoodIn wsX6_order (wsV RX6 127 RX4 yX4_stands wsX4_stands) := goodIn_app (goodIn_of _ (by decide +kernel)) ggX6_order_X4_stands
set_option maxRecDepth 20000 in
theorem ggX6_order_X1_begin : GoodIn wsX6_order wsX1_begin := goodIn_r _ [19, 20, 21, 22, 23, 24, 25, 26, 27, 12, 28, 14, 29, 30, 31, 32, 33, 34, 35, 36, 37, 38, 39, 40, 41, 42, 43, 44, 45, 115, 116, 117, 118, 119, 106, 107, 108, 109, 110, 111, 112, 113, 114, 120, 121, 122] (by decide +kernel) (by decide +kernel)
set_option maxRecDepth 20000 in
theorem gX6_order_X1_begin : GoodIn wsX6_order (wsV RX6 105 RX1 yX1_begin wsX1_begin) := goodIn_app (goodIn_of _ (by decide +kernel)) ggX6_order_X1_begin
set_option maxRecDepth 20000 in
theorem ggX6_order_X1_closingOrder : GoodIn wsX6_order wsX1_closingOrder := goodIn_r _ [49, 22, 50, 51, 52, 12, 53, 14, 54, 55, 56, 57, 36, 34, 58, 59, 60, 61, 62, 10, 11, 13, 63, 64, 65, 18, 66, 23, 67, 68, 69, 40, 70, 43, 71, 72, 73, 74, 42, 44, 75, 76, 77, 78, 35, 29, 79, 80, 81, 82, 83, 84, 85, 86, 87, 88, 89, 90, 91, 92, 93, 94, 95, 96, 97, 98, 115, 116, 117, 118, 119, 110, 111, 112, 113, 114, 120, 121, 122] (by decide +kernel) (by decide +kernel)
set_option maxRecDepth 20000 in
theorem gX6_order_X1_closingOrder : GoodIn wsX6_order (wsV RX6 164 RX1 yX1_closingOrder wsX1_closingOrder) := goodIn_app (goodIn_of _ (by decide +kernel)) ggX6_order_X1_closingOrder
theorem dX6_order_0 : decode cX6_order 0 = .ok (.aload_n 0, 1) := by decide +kernel
theorem dX6_order_1 : decode cX6_order 1 = .ok (.getfield 19, 3) := by decide +kernel
theorem dX6_order_4 : decode cX6_order 4 = .ok (.invokevirtual 127, 3) := by decide +kernel
theorem dX6_order_7 : decode cX6_order 7 = .ok (.ifCond .ne 6, 3) := by decide +kernel
theorem dX6_order_10 : decode cX6_order 10 = .ok (.bipush (-103), 2) := by decide +kernel
theorem dX6_order_12 : decode cX6_order 12 = .ok (.ireturn, 1) := by decide +kernel
theorem dX6_order_13 : decode cX6_order 13 = .ok (.aload_n 0, 1) := by decide +kernel
theorem dX6_order_14 : decode cX6_order 14 = .ok (.getfield 29, 3) := by decide +kernel
theorem dX6_order_17 : decode cX6_order 17 = .ok (.aload_n 0, 1) := by decide +kernel
theorem dX6_order_18 : decode cX6_order 18 = .ok (.getfield 19, 3) := by decide +kernel
theorem dX6_order_21 : decode cX6_order 21 = .ok (.invokevirtual 105, 3) := by decide +kernel
theorem dX6_order_24 : decode cX6_order 24 = .ok (.aload_n 0, 1) := by decide +kernel
theorem dX6_order_25 : decode cX6_order 25 = .ok (.getfield 29, 3) := by decide +kernel
theorem dX6_order_28 : decode cX6_order 28 = .ok (.invokevirtual 164, 3) := by decide +kernel
theorem dX6_order_31 : decode cX6_order 31 = .ok (.ireturn, 1) := by decide +kernel
set_option maxRecDepth 20000 in
theorem ggX6_need_X0_size : GoodIn wsX6_need wsX0_size := goodIn_r _ [9, 10, 117, 118, 119, 120, 121] (by decide +kernel) (by decide +kernel)
set_option maxRecDepth 20000 in
theorem gX6_need_X0_size : GoodIn wsX6_need (wsV RX6 79 RX0 yX0_size wsX0_size) := goodIn_app (goodIn_of _ (by decide +kernel)) ggX6_need_X0_size
set_option maxRecDepth 20000 in
theorem ggX6_need_X4_stands : GoodIn wsX6_need wsX4_stands := goodIn_r _ [15, 16, 17, 6, 7, 8, 9, 10, 113, 114, 115, 116, 117, 118, 119, 120, 121] (by decide +kernel) (by decide +kernel)
set_option maxRecDepth 20000 in
theorem gX6_need_X4_stands : GoodIn wsX6_need (wsV RX6 127 RX4 yX4_stands wsX4_stands) := goodIn_app (goodIn_of _ (by decide +kernel)) ggX6_need_X4_stands
set_option maxRecDepth 20000 in
theorem ggX6_need_X1_begin : GoodIn wsX6_need wsX1_begin := goodIn_r _ [22, 23, 24, 25, 26, 27, 28, 29, 30, 8, 31, 10, 32, 33, 34, 35, 36, 37, 38, 39, 40, 41, 42, 43, 44, 45, 46, 47, 48, 122, 123, 124, 125, 126, 113, 114, 115, 116, 117, 118, 119, 120, 121, 127, 128, 129] (by decide +kernel) (by decide +kernel)
set_option maxRecDepth 20000 in
theorem gX6_need_X1_begin : GoodIn wsX6_need (wsV RX6 105 RX1 yX1_begin wsX1_begin) := goodIn_app (goodIn_of _ (by decide +kernel)) ggX6_need_X1_begin
set_option maxRecDepth 20000 in
theorem ggX6_need_X1_fewestBreaths : GoodIn wsX6_need wsX1_fewestBreaths := goodIn_r _ [52, 23, 53, 6, 7, 8, 9, 10, 54, 55, 56, 21, 57, 25, 26, 58, 59, 60, 61, 39, 33, 34, 35, 36, 62, 63, 64, 65, 66, 67, 68, 69, 70, 71, 72, 73, 74, 75, 76, 77, 78, 79, 43, 80, 46, 81, 82, 83, 84, 45, 47, 85, 86, 87, 88, 38, 32, 89, 90, 91, 92, 37, 93, 94, 95, 96, 97, 98, 99, 100, 101, 102, 122, 123, 124, 125, 126, 117, 118, 119, 120, 121, 127, 128, 129] (by decide +kernel) (by decide +kernel)
set_option maxRecDepth 20000 in
theorem gX6_need_X1_fewestBreaths : GoodIn wsX6_need (wsV RX6 167 RX1 yX1_fewestBreaths wsX1_fewestBreaths) := goodIn_app (goodIn_of _ (by decide +kernel)) ggX6_need_X1_fewestBreaths
set_option maxRecDepth 20000 in
theorem ggX6_need_X6_digitsIn : GoodIn wsX6_need wsX6_digitsIn := goodIn_r _ [105] (by decide +kernel) (by decide +kernel)
set_option maxRecDepth 20000 in
theorem gX6_need_X6_digitsIn : GoodIn wsX6_need (va_wsS RX6 171 yX6_digitsIn wsX6_digitsIn) := goodIn_app (goodIn_of _ (by decide +kernel)) ggX6_need_X6_digitsIn
theorem dX6_need_0 : decode cX6_need 0 = .ok (.iload_n 1, 1) := by decide +kernel
theorem dX6_need_1 : decode cX6_need 1 = .ok (.ifCond .lt 23, 3) := by decide +kernel
theorem dX6_need_4 : decode cX6_need 4 = .ok (.iload_n 1, 1) := by decide +kernel
theorem dX6_need_5 : decode cX6_need 5 = .ok (.iconst 1, 1) := by decide +kernel
theorem dX6_need_6 : decode cX6_need 6 = .ok (.aload_n 0, 1) := by decide +kernel
theorem dX6_need_7 : decode cX6_need 7 = .ok (.getfield 19, 3) := by decide +kernel
theorem dX6_need_10 : decode cX6_need 10 = .ok (.getfield 63, 3) := by decide +kernel
theorem dX6_need_13 : decode cX6_need 13 = .ok (.invokevirtual 79, 3) := by decide +kernel
theorem dX6_need_16 : decode cX6_need 16 = .ok (.ishl, 1) := by decide +kernel
theorem dX6_need_17 : decode cX6_need 17 = .ok (.if_icmp .ge 7, 3) := by decide +kernel
theorem dX6_need_20 : decode cX6_need 20 = .ok (.iconst 1, 1) := by decide +kernel
theorem dX6_need_21 : decode cX6_need 21 = .ok (.goto 4, 3) := by decide +kernel
theorem dX6_need_24 : decode cX6_need 24 = .ok (.iconst 0, 1) := by decide +kernel
theorem dX6_need_25 : decode cX6_need 25 = .ok (.istore 4, 2) := by decide +kernel
theorem dX6_need_27 : decode cX6_need 27 = .ok (.iload 4, 2) := by decide +kernel
theorem dX6_need_29 : decode cX6_need 29 = .ok (.ifCond .eq 22, 3) := by decide +kernel
theorem dX6_need_32 : decode cX6_need 32 = .ok (.iload_n 2, 1) := by decide +kernel
theorem dX6_need_33 : decode cX6_need 33 = .ok (.ifCond .lt 18, 3) := by decide +kernel
theorem dX6_need_36 : decode cX6_need 36 = .ok (.iload_n 2, 1) := by decide +kernel
theorem dX6_need_37 : decode cX6_need 37 = .ok (.bipush 40, 2) := by decide +kernel
theorem dX6_need_39 : decode cX6_need 39 = .ok (.if_icmp .gt 12, 3) := by decide +kernel
theorem dX6_need_42 : decode cX6_need 42 = .ok (.iload_n 3, 1) := by decide +kernel
theorem dX6_need_43 : decode cX6_need 43 = .ok (.ifCond .lt 8, 3) := by decide +kernel
theorem dX6_need_46 : decode cX6_need 46 = .ok (.iload_n 3, 1) := by decide +kernel
theorem dX6_need_47 : decode cX6_need 47 = .ok (.iconst 1, 1) := by decide +kernel
theorem dX6_need_48 : decode cX6_need 48 = .ok (.if_icmp .le 6, 3) := by decide +kernel
theorem dX6_need_51 : decode cX6_need 51 = .ok (.bipush (-102), 2) := by decide +kernel
theorem dX6_need_53 : decode cX6_need 53 = .ok (.ireturn, 1) := by decide +kernel
theorem dX6_need_54 : decode cX6_need 54 = .ok (.aload_n 0, 1) := by decide +kernel
theorem dX6_need_55 : decode cX6_need 55 = .ok (.getfield 19, 3) := by decide +kernel
theorem dX6_need_58 : decode cX6_need 58 = .ok (.invokevirtual 127, 3) := by decide +kernel
theorem dX6_need_61 : decode cX6_need 61 = .ok (.ifCond .eq 12, 3) := by decide +kernel
theorem dX6_need_64 : decode cX6_need 64 = .ok (.aload_n 0, 1) := by decide +kernel
theorem dX6_need_65 : decode cX6_need 65 = .ok (.getfield 41, 3) := by decide +kernel
theorem dX6_need_68 : decode cX6_need 68 = .ok (.bipush 20, 2) := by decide +kernel
theorem dX6_need_70 : decode cX6_need 70 = .ok (.if_icmp .lt 6, 3) := by decide +kernel
theorem dX6_need_73 : decode cX6_need 73 = .ok (.bipush (-103), 2) := by decide +kernel
theorem dX6_need_75 : decode cX6_need 75 = .ok (.ireturn, 1) := by decide +kernel
theorem dX6_need_76 : decode cX6_need 76 = .ok (.aload_n 0, 1) := by decide +kernel
theorem dX6_need_77 : decode cX6_need 77 = .ok (.dup, 1) := by decide +kernel
theorem dX6_need_78 : decode cX6_need 78 = .ok (.getfield 41, 3) := by decide +kernel
theorem dX6_need_81 : decode cX6_need 81 = .ok (.iconst 1, 1) := by decide +kernel
theorem dX6_need_82 : decode cX6_need 82 = .ok (.iadd, 1) := by decide +kernel
theorem dX6_need_83 : decode cX6_need 83 = .ok (.putfield 41, 3) := by decide +kernel
theorem dX6_need_86 : decode cX6_need 86 = .ok (.aload_n 0, 1) := by decide +kernel
theorem dX6_need_87 : decode cX6_need 87 = .ok (.getfield 29, 3) := by decide +kernel
theorem dX6_need_90 : decode cX6_need 90 = .ok (.aload_n 0, 1) := by decide +kernel
theorem dX6_need_91 : decode cX6_need 91 = .ok (.getfield 19, 3) := by decide +kernel
theorem dX6_need_94 : decode cX6_need 94 = .ok (.invokevirtual 105, 3) := by decide +kernel
theorem dX6_need_97 : decode cX6_need 97 = .ok (.aload_n 0, 1) := by decide +kernel
theorem dX6_need_98 : decode cX6_need 98 = .ok (.getfield 29, 3) := by decide +kernel
theorem dX6_need_101 : decode cX6_need 101 = .ok (.iload_n 1, 1) := by decide +kernel
theorem dX6_need_102 : decode cX6_need 102 = .ok (.iload_n 2, 1) := by decide +kernel
theorem dX6_need_103 : decode cX6_need 103 = .ok (.invokevirtual 167, 3) := by decide +kernel
theorem dX6_need_106 : decode cX6_need 106 = .ok (.istore 5, 2) := by decide +kernel
theorem dX6_need_108 : decode cX6_need 108 = .ok (.iload_n 3, 1) := by decide +kernel
theorem dX6_need_109 : decode cX6_need 109 = .ok (.iconst 1, 1) := by decide +kernel
theorem dX6_need_110 : decode cX6_need 110 = .ok (.if_icmp .eq 9, 3) := by decide +kernel
theorem dX6_need_113 : decode cX6_need 113 = .ok (.iload 5, 2) := by decide +kernel
theorem dX6_need_115 : decode cX6_need 115 = .ok (.iconst (-1), 1) := by decide +kernel
theorem dX6_need_116 : decode cX6_need 116 = .ok (.if_icmp .ne 8, 3) := by decide +kernel
theorem dX6_need_119 : decode cX6_need 119 = .ok (.iload 5, 2) := by decide +kernel
theorem dX6_need_121 : decode cX6_need 121 = .ok (.goto 8, 3) := by decide +kernel
theorem dX6_need_124 : decode cX6_need 124 = .ok (.iload 5, 2) := by decide +kernel
theorem dX6_need_126 : decode cX6_need 126 = .ok (.invokestatic 171, 3) := by decide +kernel
theorem dX6_need_129 : decode cX6_need 129 = .ok (.ireturn, 1) := by decide +kernel
set_option maxRecDepth 20000 in
theorem ggX6_race_X4_stands : GoodIn wsX6_race wsX4_stands := goodIn_r _ [7, 8, 9, 10, 11, 12, 13, 14, 40, 41, 42, 43, 44, 45, 46, 47, 48] (by decide +kernel) (by decide +kernel)
set_option maxRecDepth 20000 in
theorem gX6_race_X4_stands : GoodIn wsX6_race (wsV RX6 127 RX4 yX4_stands wsX4_stands) := goodIn_app (goodIn_of _ (by decide +kernel)) ggX6_race_X4_stands
set_option maxRecDepth 20000 in
theorem ggX6_race_X0_winningTurn : GoodIn wsX6_race wsX0_winningTurn := goodIn_r _ [18, 14, 19, 20, 21, 12, 22, 23, 24, 25, 26, 27, 28, 29, 30, 31, 32, 44, 45, 46, 47, 48] (by decide +kernel) (by decide +kernel)
set_option maxRecDepth 20000 in
theorem gX6_race_X0_winningTurn : GoodIn wsX6_race (wsV RX6 174 RX0 yX0_winningTurn wsX0_winningTurn) := goodIn_app (goodIn_of _ (by decide +kernel)) ggX6_race_X0_winningTurn
theorem dX6_race_0 : decode cX6_race 0 = .ok (.iload_n 1, 1) := by decide +kernel
theorem dX6_race_1 : decode cX6_race 1 = .ok (.ifCond .lt 8, 3) := by decide +kernel
theorem dX6_race_4 : decode cX6_race 4 = .ok (.iload_n 1, 1) := by decide +kernel
theorem dX6_race_5 : decode cX6_race 5 = .ok (.iconst 1, 1) := by decide +kernel
theorem dX6_race_6 : decode cX6_race 6 = .ok (.if_icmp .le 6, 3) := by decide +kernel
theorem dX6_race_9 : decode cX6_race 9 = .ok (.bipush (-102), 2) := by decide +kernel
theorem dX6_race_11 : decode cX6_race 11 = .ok (.ireturn, 1) := by decide +kernel
theorem dX6_race_12 : decode cX6_race 12 = .ok (.aload_n 0, 1) := by decide +kernel
theorem dX6_race_13 : decode cX6_race 13 = .ok (.getfield 19, 3) := by decide +kernel
theorem dX6_race_16 : decode cX6_race 16 = .ok (.invokevirtual 127, 3) := by decide +kernel
theorem dX6_race_19 : decode cX6_race 19 = .ok (.ifCond .ne 6, 3) := by decide +kernel
theorem dX6_race_22 : decode cX6_race 22 = .ok (.bipush (-103), 2) := by decide +kernel
theorem dX6_race_24 : decode cX6_race 24 = .ok (.ireturn, 1) := by decide +kernel
theorem dX6_race_25 : decode cX6_race 25 = .ok (.aload_n 0, 1) := by decide +kernel
theorem dX6_race_26 : decode cX6_race 26 = .ok (.getfield 19, 3) := by decide +kernel
theorem dX6_race_29 : decode cX6_race 29 = .ok (.getfield 63, 3) := by decide +kernel
theorem dX6_race_32 : decode cX6_race 32 = .ok (.invokevirtual 174, 3) := by decide +kernel
theorem dX6_race_35 : decode cX6_race 35 = .ok (.istore_n 2, 1) := by decide +kernel
theorem dX6_race_36 : decode cX6_race 36 = .ok (.iload_n 1, 1) := by decide +kernel
theorem dX6_race_37 : decode cX6_race 37 = .ok (.iconst 1, 1) := by decide +kernel
theorem dX6_race_38 : decode cX6_race 38 = .ok (.if_icmp .ne 5, 3) := by decide +kernel
theorem dX6_race_41 : decode cX6_race 41 = .ok (.iload_n 2, 1) := by decide +kernel
theorem dX6_race_42 : decode cX6_race 42 = .ok (.ireturn, 1) := by decide +kernel
theorem dX6_race_43 : decode cX6_race 43 = .ok (.iload_n 2, 1) := by decide +kernel
theorem dX6_race_44 : decode cX6_race 44 = .ok (.iconst (-1), 1) := by decide +kernel
theorem dX6_race_45 : decode cX6_race 45 = .ok (.if_icmp .ne 7, 3) := by decide +kernel
theorem dX6_race_48 : decode cX6_race 48 = .ok (.iconst 0, 1) := by decide +kernel
theorem dX6_race_49 : decode cX6_race 49 = .ok (.goto 4, 3) := by decide +kernel
theorem dX6_race_52 : decode cX6_race 52 = .ok (.iconst 1, 1) := by decide +kernel
theorem dX6_race_53 : decode cX6_race 53 = .ok (.ireturn, 1) := by decide +kernel
set_option maxRecDepth 20000 in
theorem ggX6_odds_X0_has : GoodIn wsX6_odds wsX0_has := goodIn_r _ [8, 9, 86, 87, 88, 89, 90] (by decide +kernel) (by decide +kernel)
set_option maxRecDepth 20000 in
theorem gX6_odds_X0_has : GoodIn wsX6_odds (wsV RX6 82 RX0 yX0_has wsX0_has) := goodIn_app (goodIn_of _ (by decide +kernel)) ggX6_odds_X0_has
set_option maxRecDepth 20000 in
theorem ggX6_odds_X1_begin : GoodIn wsX6_odds wsX1_begin := goodIn_r _ [14, 15, 16, 17, 18, 19, 20, 21, 22, 7, 23, 9, 24, 25, 26, 27, 28, 29, 30, 31, 32, 33, 34, 35, 36, 37, 38, 39, 40, 91, 92, 93, 94, 95, 82, 83, 84, 85, 86, 87, 88, 89, 90, 96, 97, 98] (by decide +kernel) (by decide +kernel)
set_option maxRecDepth 20000 in
theorem gX6_odds_X1_begin : GoodIn wsX6_odds (wsV RX6 105 RX1 yX1_begin wsX1_begin) := goodIn_app (goodIn_of _ (by decide +kernel)) ggX6_odds_X1_begin
set_option maxRecDepth 20000 in
theorem ggX6_odds_X1_waysClosed : GoodIn wsX6_odds wsX1_waysClosed := goodIn_r _ [44, 17, 15, 45, 46, 47, 7, 48, 31, 25, 26, 27, 28, 49, 50, 51, 52, 9, 30, 24, 53, 54, 55, 56, 29, 57, 5, 6, 8, 58, 59, 60, 61, 62, 63, 64, 65, 66, 67, 68, 69, 70, 71, 72, 73, 74, 91, 92, 93, 94, 95, 86, 87, 88, 89, 90] (by decide +kernel) (by decide +kernel)
set_option maxRecDepth 20000 in
theorem gX6_odds_X1_waysClosed : GoodIn wsX6_odds (wsV RX6 177 RX1 yX1_waysClosed wsX1_waysClosed) := goodIn_app (goodIn_of _ (by decide +kernel)) ggX6_odds_X1_waysClosed
theorem dX6_odds_0 : decode cX6_odds 0 = .ok (.aload_n 0, 1) := by decide +kernel
theorem dX6_odds_1 : decode cX6_odds 1 = .ok (.getfield 19, 3) := by decide +kernel
theorem dX6_odds_4 : decode cX6_odds 4 = .ok (.getfield 63, 3) := by decide +kernel
theorem dX6_odds_7 : decode cX6_odds 7 = .ok (.iload_n 1, 1) := by decide +kernel
theorem dX6_odds_8 : decode cX6_odds 8 = .ok (.invokevirtual 82, 3) := by decide +kernel
theorem dX6_odds_11 : decode cX6_odds 11 = .ok (.ifCond .ne 6, 3) := by decide +kernel
theorem dX6_odds_14 : decode cX6_odds 14 = .ok (.bipush (-101), 2) := by decide +kernel
theorem dX6_odds_16 : decode cX6_odds 16 = .ok (.ireturn, 1) := by decide +kernel
theorem dX6_odds_17 : decode cX6_odds 17 = .ok (.iload_n 2, 1) := by decide +kernel
theorem dX6_odds_18 : decode cX6_odds 18 = .ok (.iconst 1, 1) := by decide +kernel
theorem dX6_odds_19 : decode cX6_odds 19 = .ok (.if_icmp .lt 17, 3) := by decide +kernel
theorem dX6_odds_22 : decode cX6_odds 22 = .ok (.iload_n 2, 1) := by decide +kernel
theorem dX6_odds_23 : decode cX6_odds 23 = .ok (.iconst 4, 1) := by decide +kernel
theorem dX6_odds_24 : decode cX6_odds 24 = .ok (.if_icmp .gt 12, 3) := by decide +kernel
theorem dX6_odds_27 : decode cX6_odds 27 = .ok (.iload_n 3, 1) := by decide +kernel
theorem dX6_odds_28 : decode cX6_odds 28 = .ok (.ifCond .lt 8, 3) := by decide +kernel
theorem dX6_odds_31 : decode cX6_odds 31 = .ok (.iload_n 3, 1) := by decide +kernel
theorem dX6_odds_32 : decode cX6_odds 32 = .ok (.iconst 1, 1) := by decide +kernel
theorem dX6_odds_33 : decode cX6_odds 33 = .ok (.if_icmp .le 6, 3) := by decide +kernel
theorem dX6_odds_36 : decode cX6_odds 36 = .ok (.bipush (-102), 2) := by decide +kernel
theorem dX6_odds_38 : decode cX6_odds 38 = .ok (.ireturn, 1) := by decide +kernel
theorem dX6_odds_39 : decode cX6_odds 39 = .ok (.aload_n 0, 1) := by decide +kernel
theorem dX6_odds_40 : decode cX6_odds 40 = .ok (.getfield 29, 3) := by decide +kernel
theorem dX6_odds_43 : decode cX6_odds 43 = .ok (.aload_n 0, 1) := by decide +kernel
theorem dX6_odds_44 : decode cX6_odds 44 = .ok (.getfield 19, 3) := by decide +kernel
theorem dX6_odds_47 : decode cX6_odds 47 = .ok (.invokevirtual 105, 3) := by decide +kernel
theorem dX6_odds_50 : decode cX6_odds 50 = .ok (.iconst 1, 1) := by decide +kernel
theorem dX6_odds_51 : decode cX6_odds 51 = .ok (.iconst 2, 1) := by decide +kernel
theorem dX6_odds_52 : decode cX6_odds 52 = .ok (.iload_n 2, 1) := by decide +kernel
theorem dX6_odds_53 : decode cX6_odds 53 = .ok (.imul, 1) := by decide +kernel
theorem dX6_odds_54 : decode cX6_odds 54 = .ok (.ishl, 1) := by decide +kernel
theorem dX6_odds_55 : decode cX6_odds 55 = .ok (.istore 4, 2) := by decide +kernel
theorem dX6_odds_57 : decode cX6_odds 57 = .ok (.aload_n 0, 1) := by decide +kernel
theorem dX6_odds_58 : decode cX6_odds 58 = .ok (.getfield 29, 3) := by decide +kernel
theorem dX6_odds_61 : decode cX6_odds 61 = .ok (.iload_n 1, 1) := by decide +kernel
theorem dX6_odds_62 : decode cX6_odds 62 = .ok (.iload_n 2, 1) := by decide +kernel
theorem dX6_odds_63 : decode cX6_odds 63 = .ok (.invokevirtual 177, 3) := by decide +kernel
theorem dX6_odds_66 : decode cX6_odds 66 = .ok (.istore 5, 2) := by decide +kernel
theorem dX6_odds_68 : decode cX6_odds 68 = .ok (.iconst 0, 1) := by decide +kernel
theorem dX6_odds_69 : decode cX6_odds 69 = .ok (.istore 6, 2) := by decide +kernel
theorem dX6_odds_71 : decode cX6_odds 71 = .ok (.iload 6, 2) := by decide +kernel
theorem dX6_odds_73 : decode cX6_odds 73 = .ok (.iconst 2, 1) := by decide +kernel
theorem dX6_odds_74 : decode cX6_odds 74 = .ok (.iload_n 2, 1) := by decide +kernel
theorem dX6_odds_75 : decode cX6_odds 75 = .ok (.imul, 1) := by decide +kernel
theorem dX6_odds_76 : decode cX6_odds 76 = .ok (.if_icmp .ge 28, 3) := by decide +kernel
theorem dX6_odds_79 : decode cX6_odds 79 = .ok (.iload 5, 2) := by decide +kernel
theorem dX6_odds_81 : decode cX6_odds 81 = .ok (.iconst 2, 1) := by decide +kernel
theorem dX6_odds_82 : decode cX6_odds 82 = .ok (.irem, 1) := by decide +kernel
theorem dX6_odds_83 : decode cX6_odds 83 = .ok (.ifCond .ne 21, 3) := by decide +kernel
theorem dX6_odds_86 : decode cX6_odds 86 = .ok (.iload 5, 2) := by decide +kernel
theorem dX6_odds_88 : decode cX6_odds 88 = .ok (.iconst 2, 1) := by decide +kernel
theorem dX6_odds_89 : decode cX6_odds 89 = .ok (.idiv, 1) := by decide +kernel
theorem dX6_odds_90 : decode cX6_odds 90 = .ok (.istore 5, 2) := by decide +kernel
theorem dX6_odds_92 : decode cX6_odds 92 = .ok (.iload 4, 2) := by decide +kernel
theorem dX6_odds_94 : decode cX6_odds 94 = .ok (.iconst 2, 1) := by decide +kernel
theorem dX6_odds_95 : decode cX6_odds 95 = .ok (.idiv, 1) := by decide +kernel
theorem dX6_odds_96 : decode cX6_odds 96 = .ok (.istore 4, 2) := by decide +kernel
theorem dX6_odds_98 : decode cX6_odds 98 = .ok (.iinc 6 1, 3) := by decide +kernel
theorem dX6_odds_101 : decode cX6_odds 101 = .ok (.goto (-30), 3) := by decide +kernel
theorem dX6_odds_104 : decode cX6_odds 104 = .ok (.iload_n 3, 1) := by decide +kernel
theorem dX6_odds_105 : decode cX6_odds 105 = .ok (.ifCond .ne 8, 3) := by decide +kernel
theorem dX6_odds_108 : decode cX6_odds 108 = .ok (.iload 5, 2) := by decide +kernel
theorem dX6_odds_110 : decode cX6_odds 110 = .ok (.goto 5, 3) := by decide +kernel
theorem dX6_odds_113 : decode cX6_odds 113 = .ok (.iload 4, 2) := by decide +kernel
theorem dX6_odds_115 : decode cX6_odds 115 = .ok (.ireturn, 1) := by decide +kernel
set_option maxRecDepth 20000 in
theorem ggX6_see_X0_has : GoodIn wsX6_see wsX0_has := goodIn_r _ [8, 9, 34, 35, 36, 37, 38] (by decide +kernel) (by decide +kernel)
set_option maxRecDepth 20000 in
theorem gX6_see_X0_has : GoodIn wsX6_see (wsV RX6 82 RX0 yX0_has wsX0_has) := goodIn_app (goodIn_of _ (by decide +kernel)) ggX6_see_X0_has
set_option maxRecDepth 20000 in
theorem ggX6_see_X3_size : GoodIn wsX6_see wsX3_size := goodIn_r _ [14, 15, 39, 40, 41, 42] (by decide +kernel) (by decide +kernel)
set_option maxRecDepth 20000 in
theorem gX6_see_X3_size : GoodIn wsX6_see (wsV RX6 180 RX3 yX3_size wsX3_size) := goodIn_app (goodIn_of _ (by decide +kernel)) ggX6_see_X3_size
set_option maxRecDepth 20000 in
theorem ggX6_see_X3_add : GoodIn wsX6_see wsX3_add := goodIn_r _ [19, 15, 20, 21, 22, 39, 40, 41, 42] (by decide +kernel) (by decide +kernel)
set_option maxRecDepth 20000 in
theorem gX6_see_X3_add : GoodIn wsX6_see (wsV RX6 181 RX3 yX3_add wsX3_add) := goodIn_app (goodIn_of _ (by decide +kernel)) ggX6_see_X3_add
theorem dX6_see_0 : decode cX6_see 0 = .ok (.aload_n 0, 1) := by decide +kernel
theorem dX6_see_1 : decode cX6_see 1 = .ok (.getfield 19, 3) := by decide +kernel
theorem dX6_see_4 : decode cX6_see 4 = .ok (.getfield 63, 3) := by decide +kernel
theorem dX6_see_7 : decode cX6_see 7 = .ok (.iload_n 1, 1) := by decide +kernel
theorem dX6_see_8 : decode cX6_see 8 = .ok (.invokevirtual 82, 3) := by decide +kernel
theorem dX6_see_11 : decode cX6_see 11 = .ok (.ifCond .ne 6, 3) := by decide +kernel
theorem dX6_see_14 : decode cX6_see 14 = .ok (.bipush (-101), 2) := by decide +kernel
theorem dX6_see_16 : decode cX6_see 16 = .ok (.ireturn, 1) := by decide +kernel
theorem dX6_see_17 : decode cX6_see 17 = .ok (.iload_n 2, 1) := by decide +kernel
theorem dX6_see_18 : decode cX6_see 18 = .ok (.ifCond .lt 18, 3) := by decide +kernel
theorem dX6_see_21 : decode cX6_see 21 = .ok (.iload_n 2, 1) := by decide +kernel
theorem dX6_see_22 : decode cX6_see 22 = .ok (.iconst 3, 1) := by decide +kernel
theorem dX6_see_23 : decode cX6_see 23 = .ok (.if_icmp .gt 13, 3) := by decide +kernel
theorem dX6_see_26 : decode cX6_see 26 = .ok (.iload_n 3, 1) := by decide +kernel
theorem dX6_see_27 : decode cX6_see 27 = .ok (.ifCond .lt 9, 3) := by decide +kernel
theorem dX6_see_30 : decode cX6_see 30 = .ok (.iload_n 3, 1) := by decide +kernel
theorem dX6_see_31 : decode cX6_see 31 = .ok (.bipush 6, 2) := by decide +kernel
theorem dX6_see_33 : decode cX6_see 33 = .ok (.if_icmp .le 6, 3) := by decide +kernel
theorem dX6_see_36 : decode cX6_see 36 = .ok (.bipush (-102), 2) := by decide +kernel
theorem dX6_see_38 : decode cX6_see 38 = .ok (.ireturn, 1) := by decide +kernel
theorem dX6_see_39 : decode cX6_see 39 = .ok (.aload_n 0, 1) := by decide +kernel
theorem dX6_see_40 : decode cX6_see 40 = .ok (.getfield 19, 3) := by decide +kernel
theorem dX6_see_43 : decode cX6_see 43 = .ok (.getfield 112, 3) := by decide +kernel
theorem dX6_see_46 : decode cX6_see 46 = .ok (.invokevirtual 180, 3) := by decide +kernel
theorem dX6_see_49 : decode cX6_see 49 = .ok (.bipush 6, 2) := by decide +kernel
theorem dX6_see_51 : decode cX6_see 51 = .ok (.if_icmp .lt 6, 3) := by decide +kernel
theorem dX6_see_54 : decode cX6_see 54 = .ok (.bipush (-104), 2) := by decide +kernel
theorem dX6_see_56 : decode cX6_see 56 = .ok (.ireturn, 1) := by decide +kernel
theorem dX6_see_57 : decode cX6_see 57 = .ok (.aload_n 0, 1) := by decide +kernel
theorem dX6_see_58 : decode cX6_see 58 = .ok (.getfield 19, 3) := by decide +kernel
theorem dX6_see_61 : decode cX6_see 61 = .ok (.getfield 112, 3) := by decide +kernel
theorem dX6_see_64 : decode cX6_see 64 = .ok (.iload_n 1, 1) := by decide +kernel
theorem dX6_see_65 : decode cX6_see 65 = .ok (.iload_n 2, 1) := by decide +kernel
theorem dX6_see_66 : decode cX6_see 66 = .ok (.iload_n 3, 1) := by decide +kernel
theorem dX6_see_67 : decode cX6_see 67 = .ok (.invokevirtual 181, 3) := by decide +kernel
theorem dX6_see_70 : decode cX6_see 70 = .ok (.aload_n 0, 1) := by decide +kernel
theorem dX6_see_71 : decode cX6_see 71 = .ok (.getfield 19, 3) := by decide +kernel
theorem dX6_see_74 : decode cX6_see 74 = .ok (.getfield 112, 3) := by decide +kernel
theorem dX6_see_77 : decode cX6_see 77 = .ok (.invokevirtual 180, 3) := by decide +kernel
theorem dX6_see_80 : decode cX6_see 80 = .ok (.ireturn, 1) := by decide +kernel
set_option maxRecDepth 20000 in
theorem ggX6_forget_X3_size : GoodIn wsX6_forget wsX3_size := goodIn_r _ [7, 8, 24, 25, 26, 27] (by decide +kernel) (by decide +kernel)
set_option maxRecDepth 20000 in
theorem gX6_forget_X3_size : GoodIn wsX6_forget (wsV RX6 180 RX3 yX3_size wsX3_size) := goodIn_app (goodIn_of _ (by decide +kernel)) ggX6_forget_X3_size
set_option maxRecDepth 20000 in
theorem ggX6_forget_X3_clear : GoodIn wsX6_forget wsX3_clear := goodIn_r _ [12, 8, 24, 25, 26, 27] (by decide +kernel) (by decide +kernel)
set_option maxRecDepth 20000 in
theorem gX6_forget_X3_clear : GoodIn wsX6_forget (wsV RX6 183 RX3 yX3_clear wsX3_clear) := goodIn_app (goodIn_of _ (by decide +kernel)) ggX6_forget_X3_clear
theorem dX6_forget_0 : decode cX6_forget 0 = .ok (.aload_n 0, 1) := by decide +kernel
theorem dX6_forget_1 : decode cX6_forget 1 = .ok (.getfield 19, 3) := by decide +kernel
theorem dX6_forget_4 : decode cX6_forget 4 = .ok (.getfield 112, 3) := by decide +kernel
theorem dX6_forget_7 : decode cX6_forget 7 = .ok (.invokevirtual 180, 3) := by decide +kernel
theorem dX6_forget_10 : decode cX6_forget 10 = .ok (.istore_n 1, 1) := by decide +kernel
theorem dX6_forget_11 : decode cX6_forget 11 = .ok (.aload_n 0, 1) := by decide +kernel
theorem dX6_forget_12 : decode cX6_forget 12 = .ok (.getfield 19, 3) := by decide +kernel
theorem dX6_forget_15 : decode cX6_forget 15 = .ok (.getfield 112, 3) := by decide +kernel
theorem dX6_forget_18 : decode cX6_forget 18 = .ok (.invokevirtual 183, 3) := by decide +kernel
theorem dX6_forget_21 : decode cX6_forget 21 = .ok (.iload_n 1, 1) := by decide +kernel
theorem dX6_forget_22 : decode cX6_forget 22 = .ok (.ireturn, 1) := by decide +kernel
set_option maxRecDepth 20000 in
theorem ggX6_drawn_X4_stands : GoodIn wsX6_drawn wsX4_stands := goodIn_r _ [7, 8, 9, 10, 11, 12, 13, 14, 119, 120, 121, 122, 123, 124, 125, 126, 127] (by decide +kernel) (by decide +kernel)
set_option maxRecDepth 20000 in
theorem gX6_drawn_X4_stands : GoodIn wsX6_drawn (wsV RX6 127 RX4 yX4_stands wsX4_stands) := goodIn_app (goodIn_of _ (by decide +kernel)) ggX6_drawn_X4_stands
set_option maxRecDepth 20000 in
theorem ggX6_drawn_X1_begin : GoodIn wsX6_drawn wsX1_begin := goodIn_r _ [19, 20, 21, 22, 23, 24, 25, 26, 27, 12, 28, 14, 29, 30, 31, 32, 33, 34, 35, 36, 37, 38, 39, 40, 41, 42, 43, 44, 45, 128, 129, 130, 131, 132, 119, 120, 121, 122, 123, 124, 125, 126, 127, 133, 134, 135] (by decide +kernel) (by decide +kernel)
set_option maxRecDepth 20000 in
theorem gX6_drawn_X1_begin : GoodIn wsX6_drawn (wsV RX6 105 RX1 yX1_begin wsX1_begin) := goodIn_app (goodIn_of _ (by decide +kernel)) ggX6_drawn_X1_begin
set_option maxRecDepth 20000 in
theorem ggX6_drawn_X1_draw : GoodIn wsX6_drawn wsX1_draw := goodIn_r _ [49, 50, 51, 52, 53, 54, 22, 55, 56, 57, 58, 12, 59, 14, 35, 29, 60, 61, 62, 63, 36, 34, 64, 65, 66, 67, 68, 69, 70, 71, 72, 73, 74, 75, 76, 77, 78, 79, 80, 81, 82, 83, 84, 85, 86, 87, 88, 89, 90, 91, 128, 129, 130, 131, 132, 123, 124, 125, 126, 127] (by decide +kernel) (by decide +kernel)
set_option maxRecDepth 20000 in
theorem gX6_drawn_X1_draw : GoodIn wsX6_drawn (wsV RX6 184 RX1 yX1_draw wsX1_draw) := goodIn_app (goodIn_of _ (by decide +kernel)) ggX6_drawn_X1_draw
set_option maxRecDepth 20000 in
theorem ggX6_drawn_X1_weeksAllClosed : GoodIn wsX6_drawn wsX1_weeksAllClosed := goodIn_r _ [95, 51, 128, 129, 130, 131, 132] (by decide +kernel) (by decide +kernel)
set_option maxRecDepth 20000 in
theorem gX6_drawn_X1_weeksAllClosed : GoodIn wsX6_drawn (wsV RX6 187 RX1 yX1_weeksAllClosed wsX1_weeksAllClosed) := goodIn_app (goodIn_of _ (by decide +kernel)) ggX6_drawn_X1_weeksAllClosed
set_option maxRecDepth 20000 in
theorem ggX6_drawn_X1_mossOfAll : GoodIn wsX6_drawn wsX1_mossOfAll := goodIn_r _ [99, 22, 100, 101, 102, 12, 103, 14, 104, 105, 106, 107, 36, 64, 65, 66, 67, 128, 129, 130, 131, 132, 123, 124, 125, 126, 127] (by decide +kernel) (by decide +kernel)
set_option maxRecDepth 20000 in
theorem gX6_drawn_X1_mossOfAll : GoodIn wsX6_drawn (wsV RX6 190 RX1 yX1_mossOfAll wsX1_mossOfAll) := goodIn_app (goodIn_of _ (by decide +kernel)) ggX6_drawn_X1_mossOfAll
set_option maxRecDepth 20000 in
theorem ggX6_drawn_X1_seedThen : GoodIn wsX6_drawn wsX1_seedThen := goodIn_r _ [111, 50, 128, 129, 130, 131, 132] (by decide +kernel) (by decide +kernel)
set_option maxRecDepth 20000 in
theorem gX6_drawn_X1_seedThen : GoodIn wsX6_drawn (wsV RX6 193 RX1 yX1_seedThen wsX1_seedThen) := goodIn_app (goodIn_of _ (by decide +kernel)) ggX6_drawn_X1_seedThen
theorem dX6_drawn_0 : decode cX6_drawn 0 = .ok (.iload_n 1, 1) := by decide +kernel
theorem dX6_drawn_1 : decode cX6_drawn 1 = .ok (.iconst 1, 1) := by decide +kernel
theorem dX6_drawn_2 : decode cX6_drawn 2 = .ok (.if_icmp .lt 22, 3) := by decide +kernel
theorem dX6_drawn_5 : decode cX6_drawn 5 = .ok (.iload_n 1, 1) := by decide +kernel
theorem dX6_drawn_6 : decode cX6_drawn 6 = .ok (.bipush 60, 2) := by decide +kernel
theorem dX6_drawn_8 : decode cX6_drawn 8 = .ok (.if_icmp .gt 16, 3) := by decide +kernel
theorem dX6_drawn_11 : decode cX6_drawn 11 = .ok (.iload_n 2, 1) := by decide +kernel
theorem dX6_drawn_12 : decode cX6_drawn 12 = .ok (.ifCond .lt 12, 3) := by decide +kernel
theorem dX6_drawn_15 : decode cX6_drawn 15 = .ok (.iload_n 3, 1) := by decide +kernel
theorem dX6_drawn_16 : decode cX6_drawn 16 = .ok (.ifCond .lt 8, 3) := by decide +kernel
theorem dX6_drawn_19 : decode cX6_drawn 19 = .ok (.iload_n 3, 1) := by decide +kernel
theorem dX6_drawn_20 : decode cX6_drawn 20 = .ok (.iconst 2, 1) := by decide +kernel
theorem dX6_drawn_21 : decode cX6_drawn 21 = .ok (.if_icmp .le 6, 3) := by decide +kernel
theorem dX6_drawn_24 : decode cX6_drawn 24 = .ok (.bipush (-102), 2) := by decide +kernel
theorem dX6_drawn_26 : decode cX6_drawn 26 = .ok (.ireturn, 1) := by decide +kernel
theorem dX6_drawn_27 : decode cX6_drawn 27 = .ok (.aload_n 0, 1) := by decide +kernel
theorem dX6_drawn_28 : decode cX6_drawn 28 = .ok (.getfield 19, 3) := by decide +kernel
theorem dX6_drawn_31 : decode cX6_drawn 31 = .ok (.invokevirtual 127, 3) := by decide +kernel
theorem dX6_drawn_34 : decode cX6_drawn 34 = .ok (.ifCond .ne 6, 3) := by decide +kernel
theorem dX6_drawn_37 : decode cX6_drawn 37 = .ok (.bipush (-103), 2) := by decide +kernel
theorem dX6_drawn_39 : decode cX6_drawn 39 = .ok (.ireturn, 1) := by decide +kernel
theorem dX6_drawn_40 : decode cX6_drawn 40 = .ok (.aload_n 0, 1) := by decide +kernel
theorem dX6_drawn_41 : decode cX6_drawn 41 = .ok (.getfield 29, 3) := by decide +kernel
theorem dX6_drawn_44 : decode cX6_drawn 44 = .ok (.aload_n 0, 1) := by decide +kernel
theorem dX6_drawn_45 : decode cX6_drawn 45 = .ok (.getfield 19, 3) := by decide +kernel
theorem dX6_drawn_48 : decode cX6_drawn 48 = .ok (.invokevirtual 105, 3) := by decide +kernel
theorem dX6_drawn_51 : decode cX6_drawn 51 = .ok (.aload_n 0, 1) := by decide +kernel
theorem dX6_drawn_52 : decode cX6_drawn 52 = .ok (.getfield 29, 3) := by decide +kernel
theorem dX6_drawn_55 : decode cX6_drawn 55 = .ok (.iload_n 1, 1) := by decide +kernel
theorem dX6_drawn_56 : decode cX6_drawn 56 = .ok (.iload_n 2, 1) := by decide +kernel
theorem dX6_drawn_57 : decode cX6_drawn 57 = .ok (.invokevirtual 184, 3) := by decide +kernel
theorem dX6_drawn_60 : decode cX6_drawn 60 = .ok (.iload_n 3, 1) := by decide +kernel
theorem dX6_drawn_61 : decode cX6_drawn 61 = .ok (.lookupswitch 43 #[(0, 27), (1, 35)], 27) := by decide +kernel
theorem dX6_drawn_88 : decode cX6_drawn 88 = .ok (.aload_n 0, 1) := by decide +kernel
theorem dX6_drawn_89 : decode cX6_drawn 89 = .ok (.getfield 29, 3) := by decide +kernel
theorem dX6_drawn_92 : decode cX6_drawn 92 = .ok (.invokevirtual 187, 3) := by decide +kernel
theorem dX6_drawn_95 : decode cX6_drawn 95 = .ok (.ireturn, 1) := by decide +kernel
theorem dX6_drawn_96 : decode cX6_drawn 96 = .ok (.aload_n 0, 1) := by decide +kernel
theorem dX6_drawn_97 : decode cX6_drawn 97 = .ok (.getfield 29, 3) := by decide +kernel
theorem dX6_drawn_100 : decode cX6_drawn 100 = .ok (.invokevirtual 190, 3) := by decide +kernel
theorem dX6_drawn_103 : decode cX6_drawn 103 = .ok (.ireturn, 1) := by decide +kernel
theorem dX6_drawn_104 : decode cX6_drawn 104 = .ok (.aload_n 0, 1) := by decide +kernel
theorem dX6_drawn_105 : decode cX6_drawn 105 = .ok (.getfield 29, 3) := by decide +kernel
theorem dX6_drawn_108 : decode cX6_drawn 108 = .ok (.invokevirtual 193, 3) := by decide +kernel
theorem dX6_drawn_111 : decode cX6_drawn 111 = .ok (.ireturn, 1) := by decide +kernel
set_option maxRecDepth 20000 in
theorem ggX6_image_X4_stands : GoodIn wsX6_image wsX4_stands := goodIn_r _ [9, 10, 11, 12, 13, 14, 15, 16, 66, 67, 68, 69, 70, 71, 72, 73, 74] (by decide +kernel) (by decide +kernel)
set_option maxRecDepth 20000 in
theorem gX6_image_X4_stands : GoodIn wsX6_image (wsV RX6 127 RX4 yX4_stands wsX4_stands) := goodIn_app (goodIn_of _ (by decide +kernel)) ggX6_image_X4_stands
set_option maxRecDepth 20000 in
theorem ggX6_image_X4_copyFrom : GoodIn wsX6_image wsX4_copyFrom := goodIn_r _ [20, 10, 21, 22, 23, 24, 25, 26, 14, 27, 16, 28, 29, 30, 31, 32, 33, 34, 35, 36, 37, 38, 39, 40, 41, 42, 43, 44, 45, 46, 47, 48, 49, 50, 51, 52, 53, 54, 66, 67, 68, 69, 70, 71, 72, 73, 74, 75, 76, 77, 78, 79, 80, 81] (by decide +kernel) (by decide +kernel)
set_option maxRecDepth 20000 in
theorem gX6_image_X4_copyFrom : GoodIn wsX6_image (wsV RX6 196 RX4 yX4_copyFrom wsX4_copyFrom) := goodIn_app (goodIn_of _ (by decide +kernel)) ggX6_image_X4_copyFrom
set_option maxRecDepth 20000 in
theorem ggX6_image_X5_next : GoodIn wsX6_image wsX5_next := goodIn_r _ [58, 42, 75, 76, 77] (by decide +kernel) (by decide +kernel)
set_option maxRecDepth 20000 in
theorem gX6_image_X5_next : GoodIn wsX6_image (wsV RX6 135 RX5 yX5_next wsX5_next) := goodIn_app (goodIn_of _ (by decide +kernel)) ggX6_image_X5_next
theorem dX6_image_0 : decode cX6_image 0 = .ok (.aload_n 0, 1) := by decide +kernel
theorem dX6_image_1 : decode cX6_image 1 = .ok (.getfield 19, 3) := by decide +kernel
theorem dX6_image_4 : decode cX6_image 4 = .ok (.invokevirtual 127, 3) := by decide +kernel
theorem dX6_image_7 : decode cX6_image 7 = .ok (.ifCond .ne 6, 3) := by decide +kernel
theorem dX6_image_10 : decode cX6_image 10 = .ok (.bipush (-103), 2) := by decide +kernel
theorem dX6_image_12 : decode cX6_image 12 = .ok (.ireturn, 1) := by decide +kernel
theorem dX6_image_13 : decode cX6_image 13 = .ok (.aload_n 0, 1) := by decide +kernel
theorem dX6_image_14 : decode cX6_image 14 = .ok (.getfield 23, 3) := by decide +kernel
theorem dX6_image_17 : decode cX6_image 17 = .ok (.aload_n 0, 1) := by decide +kernel
theorem dX6_image_18 : decode cX6_image 18 = .ok (.getfield 19, 3) := by decide +kernel
theorem dX6_image_21 : decode cX6_image 21 = .ok (.invokevirtual 196, 3) := by decide +kernel
theorem dX6_image_24 : decode cX6_image 24 = .ok (.aload_n 0, 1) := by decide +kernel
theorem dX6_image_25 : decode cX6_image 25 = .ok (.iconst 1, 1) := by decide +kernel
theorem dX6_image_26 : decode cX6_image 26 = .ok (.putfield 33, 3) := by decide +kernel
theorem dX6_image_29 : decode cX6_image 29 = .ok (.aload_n 0, 1) := by decide +kernel
theorem dX6_image_30 : decode cX6_image 30 = .ok (.getfield 19, 3) := by decide +kernel
theorem dX6_image_33 : decode cX6_image 33 = .ok (.getfield 71, 3) := by decide +kernel
theorem dX6_image_36 : decode cX6_image 36 = .ok (.invokevirtual 135, 3) := by decide +kernel
theorem dX6_image_39 : decode cX6_image 39 = .ok (.ireturn, 1) := by decide +kernel
set_option maxRecDepth 20000 in
theorem ggX6_restore_X4_copyFrom : GoodIn wsX6_restore wsX4_copyFrom := goodIn_r _ [9, 10, 11, 12, 13, 14, 15, 16, 17, 18, 19, 20, 21, 22, 23, 24, 25, 26, 27, 28, 29, 30, 31, 32, 33, 34, 35, 36, 37, 38, 39, 40, 41, 42, 43, 44, 45, 46, 58, 59, 60, 61, 62, 63, 64, 65, 66, 67, 68, 69, 70, 71, 72, 73] (by decide +kernel) (by decide +kernel)
set_option maxRecDepth 20000 in
theorem gX6_restore_X4_copyFrom : GoodIn wsX6_restore (wsV RX6 196 RX4 yX4_copyFrom wsX4_copyFrom) := goodIn_app (goodIn_of _ (by decide +kernel)) ggX6_restore_X4_copyFrom
set_option maxRecDepth 20000 in
theorem ggX6_restore_X5_next : GoodIn wsX6_restore wsX5_next := goodIn_r _ [50, 34, 67, 68, 69] (by decide +kernel) (by decide +kernel)
set_option maxRecDepth 20000 in
theorem gX6_restore_X5_next : GoodIn wsX6_restore (wsV RX6 135 RX5 yX5_next wsX5_next) := goodIn_app (goodIn_of _ (by decide +kernel)) ggX6_restore_X5_next
theorem dX6_restore_0 : decode cX6_restore 0 = .ok (.aload_n 0, 1) := by decide +kernel
theorem dX6_restore_1 : decode cX6_restore 1 = .ok (.getfield 33, 3) := by decide +kernel
theorem dX6_restore_4 : decode cX6_restore 4 = .ok (.ifCond .ne 6, 3) := by decide +kernel
theorem dX6_restore_7 : decode cX6_restore 7 = .ok (.bipush (-103), 2) := by decide +kernel
theorem dX6_restore_9 : decode cX6_restore 9 = .ok (.ireturn, 1) := by decide +kernel
theorem dX6_restore_10 : decode cX6_restore 10 = .ok (.aload_n 0, 1) := by decide +kernel
theorem dX6_restore_11 : decode cX6_restore 11 = .ok (.getfield 19, 3) := by decide +kernel
theorem dX6_restore_14 : decode cX6_restore 14 = .ok (.aload_n 0, 1) := by decide +kernel
theorem dX6_restore_15 : decode cX6_restore 15 = .ok (.getfield 23, 3) := by decide +kernel
theorem dX6_restore_18 : decode cX6_restore 18 = .ok (.invokevirtual 196, 3) := by decide +kernel
theorem dX6_restore_21 : decode cX6_restore 21 = .ok (.aload_n 0, 1) := by decide +kernel
theorem dX6_restore_22 : decode cX6_restore 22 = .ok (.getfield 19, 3) := by decide +kernel
theorem dX6_restore_25 : decode cX6_restore 25 = .ok (.getfield 71, 3) := by decide +kernel
theorem dX6_restore_28 : decode cX6_restore 28 = .ok (.invokevirtual 135, 3) := by decide +kernel
theorem dX6_restore_31 : decode cX6_restore 31 = .ok (.ireturn, 1) := by decide +kernel
set_option maxRecDepth 20000 in
theorem ggX6_count_X0_size : GoodIn wsX6_count wsX0_size := goodIn_r _ [13, 14, 84, 85, 86, 87, 88] (by decide +kernel) (by decide +kernel)
set_option maxRecDepth 20000 in
theorem gX6_count_X0_size : GoodIn wsX6_count (wsV RX6 79 RX0 yX0_size wsX0_size) := goodIn_app (goodIn_of _ (by decide +kernel)) ggX6_count_X0_size
set_option maxRecDepth 20000 in
theorem ggX6_count_X5_size : GoodIn wsX6_count wsX5_size := goodIn_r _ [19, 20, 89, 90, 91] (by decide +kernel) (by decide +kernel)
set_option maxRecDepth 20000 in
theorem gX6_count_X5_size : GoodIn wsX6_count (wsV RX6 199 RX5 yX5_size wsX5_size) := goodIn_app (goodIn_of _ (by decide +kernel)) ggX6_count_X5_size
set_option maxRecDepth 20000 in
theorem ggX6_count_X5_next : GoodIn wsX6_count wsX5_next := goodIn_r _ [24, 25, 89, 90, 91] (by decide +kernel) (by decide +kernel)
set_option maxRecDepth 20000 in
theorem gX6_count_X5_next : GoodIn wsX6_count (wsV RX6 135 RX5 yX5_next wsX5_next) := goodIn_app (goodIn_of _ (by decide +kernel)) ggX6_count_X5_next
set_option maxRecDepth 20000 in
theorem ggX6_count_X0_closedBits : GoodIn wsX6_count wsX0_closedBits := goodIn_r _ [29, 14, 30, 31, 32, 12, 33, 34, 35, 36, 37, 38, 39, 84, 85, 86, 87, 88] (by decide +kernel) (by decide +kernel)
set_option maxRecDepth 20000 in
theorem gX6_count_X0_closedBits : GoodIn wsX6_count (wsV RX6 144 RX0 yX0_closedBits wsX0_closedBits) := goodIn_app (goodIn_of _ (by decide +kernel)) ggX6_count_X0_closedBits
set_option maxRecDepth 20000 in
theorem ggX6_count_J6_bitCount_0f7a4 : GoodIn wsX6_count wsJ6_bitCount_0f7a4 := goodIn_r _ [43, 44, 45, 46] (by decide +kernel) (by decide +kernel)
set_option maxRecDepth 20000 in
theorem gX6_count_J6_bitCount_0f7a4 : GoodIn wsX6_count (va_wsS RX6 200 yJ6_bitCount_0f7a4 wsJ6_bitCount_0f7a4) := goodIn_app (goodIn_of _ (by decide +kernel)) ggX6_count_J6_bitCount_0f7a4
set_option maxRecDepth 20000 in
theorem ggX6_count_X0_forceBits : GoodIn wsX6_count wsX0_forceBits := goodIn_r _ [50, 14, 51, 52, 30, 31, 32, 12, 33, 34, 35, 36, 37, 38, 39, 84, 85, 86, 87, 88] (by decide +kernel) (by decide +kernel)
set_option maxRecDepth 20000 in
theorem gX6_count_X0_forceBits : GoodIn wsX6_count (wsV RX6 102 RX0 yX0_forceBits wsX0_forceBits) := goodIn_app (goodIn_of _ (by decide +kernel)) ggX6_count_X0_forceBits
set_option maxRecDepth 20000 in
theorem ggX6_count_X0_mossOfAll : GoodIn wsX6_count wsX0_mossOfAll := goodIn_r _ [56, 14, 57, 58, 59, 12, 60, 34, 36, 37, 38, 39, 84, 85, 86, 87, 88] (by decide +kernel) (by decide +kernel)
set_option maxRecDepth 20000 in
theorem gX6_count_X0_mossOfAll : GoodIn wsX6_count (wsV RX6 205 RX0 yX0_mossOfAll wsX0_mossOfAll) := goodIn_app (goodIn_of _ (by decide +kernel)) ggX6_count_X0_mossOfAll
set_option maxRecDepth 20000 in
theorem ggX6_count_X3_size : GoodIn wsX6_count wsX3_size := goodIn_r _ [65, 66, 92, 93, 94, 95] (by decide +kernel) (by decide +kernel)
set_option maxRecDepth 20000 in
theorem gX6_count_X3_size : GoodIn wsX6_count (wsV RX6 180 RX3 yX3_size wsX3_size) := goodIn_app (goodIn_of _ (by decide +kernel)) ggX6_count_X3_size
set_option maxRecDepth 20000 in
theorem ggX6_count_X2_size : GoodIn wsX6_count wsX2_size := goodIn_r _ [71, 72, 96, 97] (by decide +kernel) (by decide +kernel)
set_option maxRecDepth 20000 in
theorem gX6_count_X2_size : GoodIn wsX6_count (wsV RX6 44 RX2 yX2_size wsX2_size) := goodIn_app (goodIn_of _ (by decide +kernel)) ggX6_count_X2_size
theorem dX6_count_0 : decode cX6_count 0 = .ok (.iload_n 1, 1) := by decide +kernel
theorem dX6_count_1 : decode cX6_count 1 = .ok (.tableswitch 168 0 10 #[59, 70, 81, 92, 106, 120, 131, 139, 150, 158, 163], 59) := by decide +kernel
theorem dX6_count_60 : decode cX6_count 60 = .ok (.aload_n 0, 1) := by decide +kernel
theorem dX6_count_61 : decode cX6_count 61 = .ok (.getfield 19, 3) := by decide +kernel
theorem dX6_count_64 : decode cX6_count 64 = .ok (.getfield 63, 3) := by decide +kernel
theorem dX6_count_67 : decode cX6_count 67 = .ok (.invokevirtual 79, 3) := by decide +kernel
theorem dX6_count_70 : decode cX6_count 70 = .ok (.ireturn, 1) := by decide +kernel
theorem dX6_count_71 : decode cX6_count 71 = .ok (.aload_n 0, 1) := by decide +kernel
theorem dX6_count_72 : decode cX6_count 72 = .ok (.getfield 19, 3) := by decide +kernel
theorem dX6_count_75 : decode cX6_count 75 = .ok (.getfield 71, 3) := by decide +kernel
theorem dX6_count_78 : decode cX6_count 78 = .ok (.invokevirtual 199, 3) := by decide +kernel
theorem dX6_count_81 : decode cX6_count 81 = .ok (.ireturn, 1) := by decide +kernel
theorem dX6_count_82 : decode cX6_count 82 = .ok (.aload_n 0, 1) := by decide +kernel
theorem dX6_count_83 : decode cX6_count 83 = .ok (.getfield 19, 3) := by decide +kernel
theorem dX6_count_86 : decode cX6_count 86 = .ok (.getfield 71, 3) := by decide +kernel
theorem dX6_count_89 : decode cX6_count 89 = .ok (.invokevirtual 135, 3) := by decide +kernel
theorem dX6_count_92 : decode cX6_count 92 = .ok (.ireturn, 1) := by decide +kernel
theorem dX6_count_93 : decode cX6_count 93 = .ok (.aload_n 0, 1) := by decide +kernel
theorem dX6_count_94 : decode cX6_count 94 = .ok (.getfield 19, 3) := by decide +kernel
theorem dX6_count_97 : decode cX6_count 97 = .ok (.getfield 63, 3) := by decide +kernel
theorem dX6_count_100 : decode cX6_count 100 = .ok (.invokevirtual 144, 3) := by decide +kernel
theorem dX6_count_103 : decode cX6_count 103 = .ok (.invokestatic 200, 3) := by decide +kernel
theorem dX6_count_106 : decode cX6_count 106 = .ok (.ireturn, 1) := by decide +kernel
theorem dX6_count_107 : decode cX6_count 107 = .ok (.aload_n 0, 1) := by decide +kernel
theorem dX6_count_108 : decode cX6_count 108 = .ok (.getfield 19, 3) := by decide +kernel
theorem dX6_count_111 : decode cX6_count 111 = .ok (.getfield 63, 3) := by decide +kernel
theorem dX6_count_114 : decode cX6_count 114 = .ok (.invokevirtual 102, 3) := by decide +kernel
theorem dX6_count_117 : decode cX6_count 117 = .ok (.invokestatic 200, 3) := by decide +kernel
theorem dX6_count_120 : decode cX6_count 120 = .ok (.ireturn, 1) := by decide +kernel
theorem dX6_count_121 : decode cX6_count 121 = .ok (.aload_n 0, 1) := by decide +kernel
theorem dX6_count_122 : decode cX6_count 122 = .ok (.getfield 19, 3) := by decide +kernel
theorem dX6_count_125 : decode cX6_count 125 = .ok (.getfield 63, 3) := by decide +kernel
theorem dX6_count_128 : decode cX6_count 128 = .ok (.invokevirtual 205, 3) := by decide +kernel
theorem dX6_count_131 : decode cX6_count 131 = .ok (.ireturn, 1) := by decide +kernel
theorem dX6_count_132 : decode cX6_count 132 = .ok (.aload_n 0, 1) := by decide +kernel
theorem dX6_count_133 : decode cX6_count 133 = .ok (.getfield 19, 3) := by decide +kernel
theorem dX6_count_136 : decode cX6_count 136 = .ok (.getfield 147, 3) := by decide +kernel
theorem dX6_count_139 : decode cX6_count 139 = .ok (.ireturn, 1) := by decide +kernel
theorem dX6_count_140 : decode cX6_count 140 = .ok (.aload_n 0, 1) := by decide +kernel
theorem dX6_count_141 : decode cX6_count 141 = .ok (.getfield 19, 3) := by decide +kernel
theorem dX6_count_144 : decode cX6_count 144 = .ok (.getfield 112, 3) := by decide +kernel
theorem dX6_count_147 : decode cX6_count 147 = .ok (.invokevirtual 180, 3) := by decide +kernel
theorem dX6_count_150 : decode cX6_count 150 = .ok (.ireturn, 1) := by decide +kernel
theorem dX6_count_151 : decode cX6_count 151 = .ok (.aload_n 0, 1) := by decide +kernel
theorem dX6_count_152 : decode cX6_count 152 = .ok (.getfield 10, 3) := by decide +kernel
theorem dX6_count_155 : decode cX6_count 155 = .ok (.invokevirtual 44, 3) := by decide +kernel
theorem dX6_count_158 : decode cX6_count 158 = .ok (.ireturn, 1) := by decide +kernel
theorem dX6_count_159 : decode cX6_count 159 = .ok (.aload_n 0, 1) := by decide +kernel
theorem dX6_count_160 : decode cX6_count 160 = .ok (.getfield 37, 3) := by decide +kernel
theorem dX6_count_163 : decode cX6_count 163 = .ok (.ireturn, 1) := by decide +kernel
theorem dX6_count_164 : decode cX6_count 164 = .ok (.aload_n 0, 1) := by decide +kernel
theorem dX6_count_165 : decode cX6_count 165 = .ok (.getfield 41, 3) := by decide +kernel
theorem dX6_count_168 : decode cX6_count 168 = .ok (.ireturn, 1) := by decide +kernel
theorem dX6_count_169 : decode cX6_count 169 = .ok (.bipush (-102), 2) := by decide +kernel
theorem dX6_count_171 : decode cX6_count 171 = .ok (.ireturn, 1) := by decide +kernel
set_option maxRecDepth 20000 in
theorem ggX6_digest_X0_size : GoodIn wsX6_digest wsX0_size := goodIn_r _ [10, 11, 255, 256, 257, 258, 259] (by decide +kernel) (by decide +kernel)
set_option maxRecDepth 20000 in
theorem gX6_digest_X0_size : GoodIn wsX6_digest (wsV RX6 79 RX0 yX0_size wsX0_size) := goodIn_app (goodIn_of _ (by decide +kernel)) ggX6_digest_X0_size
set_option maxRecDepth 20000 in
theorem ggX6_digest_X6_clause : GoodIn wsX6_digest wsX6_clause := goodIn_r _ [16, 2, 3, 17, 18, 19, 20, 21, 9, 22, 11, 23, 24, 25, 26, 27, 28, 29, 30, 31, 32, 33, 34, 35, 36, 37, 38, 39, 40, 41, 42, 43, 44, 45, 46, 47, 48, 49, 50, 51, 52, 53, 54, 55, 56, 57, 58, 59, 60, 61, 62, 63, 64, 65, 66, 67, 68, 69, 70, 71, 72, 73, 74, 75, 76, 77, 78, 79, 80, 81, 82, 83, 84, 85, 86, 87, 88, 89, 90, 91, 92, 93, 94, 95, 96, 97, 98, 99, 100, 101, 15, 102, 103, 104, 105, 106, 107, 108, 109, 110, 111, 112, 113, 114, 115, 116, 117, 118, 119, 120, 121, 122, 123, 124, 125, 126, 127, 128, 129, 130, 131, 132, 133, 134, 135, 136, 137, 138, 139, 140, 141, 244, 245, 246, 247, 248, 249, 250, 251, 252, 253, 254, 255, 256, 257, 258, 259, 260, 261, 262, 263, 264, 265, 266, 267, 268, 269, 270, 271] (by decide +kernel) (by decide +kernel)
set_option maxRecDepth 20000 in
theorem gX6_digest_X6_clause : GoodIn wsX6_digest (wsV RX6 208 RX6 yX6_clause wsX6_clause) := goodIn_app (goodIn_of _ (by decide +kernel)) ggX6_digest_X6_clause
set_option maxRecDepth 20000 in
theorem ggX6_digest_X6_mixed : GoodIn wsX6_digest wsX6_mixed := goodIn_r _ [144, 145] (by decide +kernel) (by decide +kernel)
set_option maxRecDepth 20000 in
theorem gX6_digest_X6_mixed : GoodIn wsX6_digest (va_wsS RX6 211 yX6_mixed wsX6_mixed) := goodIn_app (goodIn_of _ (by decide +kernel)) ggX6_digest_X6_mixed
set_option maxRecDepth 20000 in
theorem ggX6_digest_X6_odds : GoodIn wsX6_digest wsX6_odds := goodIn_r _ [149, 2, 3, 17, 19, 20, 21, 9, 22, 11, 53, 54, 55, 56, 57, 58, 59, 60, 61, 62, 63, 64, 65, 66, 27, 67, 68, 69, 70, 33, 38, 43, 71, 72, 73, 74, 75, 76, 77, 78, 79, 150, 151, 152, 153, 154, 155, 156, 157, 97, 98, 99, 100, 52, 45, 46, 47, 28, 101, 15, 102, 103, 104, 105, 106, 107, 108, 109, 110, 111, 112, 113, 114, 115, 84, 244, 245, 246, 247, 248, 249, 250, 251, 252, 253, 254, 255, 256, 257, 258, 259, 260, 261, 262, 263, 264, 265, 266, 267] (by decide +kernel) (by decide +kernel)
set_option maxRecDepth 20000 in
theorem gX6_digest_X6_odds : GoodIn wsX6_digest (wsV RX6 215 RX6 yX6_odds wsX6_odds) := goodIn_app (goodIn_of _ (by decide +kernel)) ggX6_digest_X6_odds
set_option maxRecDepth 20000 in
theorem ggX6_digest_X4_stands : GoodIn wsX6_digest wsX4_stands := goodIn_r _ [162, 163, 164, 7, 8, 9, 10, 11, 251, 252, 253, 254, 255, 256, 257, 258, 259] (by decide +kernel) (by decide +kernel)
set_option maxRecDepth 20000 in
theorem gX6_digest_X4_stands : GoodIn wsX6_digest (wsV RX6 127 RX4 yX4_stands wsX4_stands) := goodIn_app (goodIn_of _ (by decide +kernel)) ggX6_digest_X4_stands
set_option maxRecDepth 20000 in
theorem ggX6_digest_X6_force : GoodIn wsX6_digest wsX6_force := goodIn_r _ [168, 2, 17, 158, 159, 160, 161, 162, 163, 164, 7, 8, 9, 10, 11, 53, 54, 55, 56, 57, 58, 59, 60, 61, 62, 63, 64, 65, 66, 27, 67, 68, 69, 70, 33, 38, 43, 71, 72, 73, 74, 75, 76, 77, 78, 79, 169, 170, 171, 172, 85, 86, 87, 88, 89, 90, 91, 92, 93, 94, 95, 96, 97, 98, 99, 100, 52, 45, 46, 47, 28, 20, 21, 22, 101, 15, 102, 103, 104, 105, 106, 107, 108, 109, 110, 111, 112, 113, 114, 115, 116, 117, 118, 119, 173, 49, 50, 51, 244, 245, 246, 247, 248, 249, 250, 251, 252, 253, 254, 255, 256, 257, 258, 259, 260, 261, 262, 263, 264, 265, 266, 267] (by decide +kernel) (by decide +kernel)
set_option maxRecDepth 20000 in
theorem gX6_digest_X6_force : GoodIn wsX6_digest (wsV RX6 219 RX6 yX6_force wsX6_force) := goodIn_app (goodIn_of _ (by decide +kernel)) ggX6_digest_X6_force
set_option maxRecDepth 20000 in
theorem ggX6_digest_X6_order : GoodIn wsX6_digest wsX6_order := goodIn_r _ [177, 2, 17, 158, 159, 160, 161, 162, 163, 164, 7, 8, 9, 10, 11, 53, 54, 55, 56, 57, 58, 59, 60, 61, 62, 63, 64, 65, 66, 27, 67, 68, 69, 70, 33, 38, 43, 71, 72, 73, 74, 75, 76, 77, 78, 79, 178, 179, 180, 181, 182, 183, 184, 185, 52, 45, 46, 47, 28, 20, 21, 22, 186, 85, 86, 87, 88, 89, 90, 91, 92, 93, 94, 95, 96, 97, 98, 99, 100, 101, 15, 102, 103, 104, 105, 106, 107, 108, 109, 110, 111, 112, 113, 114, 115, 116, 117, 118, 119, 244, 245, 246, 247, 248, 249, 250, 251, 252, 253, 254, 255, 256, 257, 258, 259, 260, 261, 262, 263, 264, 265, 266, 267] (by decide +kernel) (by decide +kernel)
set_option maxRecDepth 20000 in
theorem gX6_digest_X6_order : GoodIn wsX6_digest (wsV RX6 222 RX6 yX6_order wsX6_order) := goodIn_app (goodIn_of _ (by decide +kernel)) ggX6_digest_X6_order
set_option maxRecDepth 20000 in
theorem ggX6_digest_X6_race : GoodIn wsX6_digest wsX6_race := goodIn_r _ [190, 2, 3, 158, 159, 160, 161, 162, 163, 164, 7, 8, 9, 10, 11, 191, 192, 193, 194, 195, 196, 197, 198, 33, 43, 115, 104, 105, 106, 28, 20, 21, 22, 244, 245, 246, 247, 248, 249, 250, 251, 252, 253, 254, 255, 256, 257, 258, 259] (by decide +kernel) (by decide +kernel)
set_option maxRecDepth 20000 in
theorem gX6_digest_X6_race : GoodIn wsX6_digest (wsV RX6 225 RX6 yX6_race wsX6_race) := goodIn_app (goodIn_of _ (by decide +kernel)) ggX6_digest_X6_race
set_option maxRecDepth 20000 in
theorem ggX6_digest_X5_next : GoodIn wsX6_digest wsX5_next := goodIn_r _ [92, 77, 265, 266, 267] (by decide +kernel) (by decide +kernel)
set_option maxRecDepth 20000 in
theorem gX6_digest_X5_next : GoodIn wsX6_digest (wsV RX6 135 RX5 yX5_next wsX5_next) := goodIn_app (goodIn_of _ (by decide +kernel)) ggX6_digest_X5_next
set_option maxRecDepth 20000 in
theorem ggX6_digest_X6_rain : GoodIn wsX6_digest wsX6_rain := goodIn_r _ [203, 2, 4, 158, 159, 160, 161, 162, 163, 164, 7, 8, 9, 10, 11, 204, 94, 95, 74, 96, 76, 78, 244, 245, 246, 247, 248, 249, 250, 251, 252, 253, 254, 255, 256, 257, 258, 259, 265, 266, 267] (by decide +kernel) (by decide +kernel)
set_option maxRecDepth 20000 in
theorem gX6_digest_X6_rain : GoodIn wsX6_digest (wsV RX6 228 RX6 yX6_rain wsX6_rain) := goodIn_app (goodIn_of _ (by decide +kernel)) ggX6_digest_X6_rain
set_option maxRecDepth 20000 in
theorem ggX6_digest_X2_size : GoodIn wsX6_digest wsX2_size := goodIn_r _ [209, 210, 272, 273] (by decide +kernel) (by decide +kernel)
set_option maxRecDepth 20000 in
theorem gX6_digest_X2_size : GoodIn wsX6_digest (wsV RX6 44 RX2 yX2_size wsX2_size) := goodIn_app (goodIn_of _ (by decide +kernel)) ggX6_digest_X2_size
set_option maxRecDepth 20000 in
theorem ggX6_digest_X2_codeAt : GoodIn wsX6_digest wsX2_codeAt := goodIn_r _ [214, 210, 215, 272, 273] (by decide +kernel) (by decide +kernel)
set_option maxRecDepth 20000 in
theorem gX6_digest_X2_codeAt : GoodIn wsX6_digest (wsV RX6 231 RX2 yX2_codeAt wsX2_codeAt) := goodIn_app (goodIn_of _ (by decide +kernel)) ggX6_digest_X2_codeAt
set_option maxRecDepth 20000 in
theorem ggX6_digest_X6_count : GoodIn wsX6_digest wsX6_count := goodIn_r _ [219, 2, 3, 4, 220, 18, 5, 221, 222, 6, 7, 8, 9, 10, 11, 223, 224, 225, 74, 226, 76, 199, 90, 91, 92, 77, 227, 183, 184, 185, 52, 45, 46, 47, 43, 33, 28, 20, 21, 22, 228, 229, 230, 231, 232, 233, 234, 48, 49, 50, 51, 38, 27, 235, 236, 237, 238, 239, 40, 41, 42, 240, 241, 242, 123, 243, 129, 205, 206, 207, 208, 209, 210, 244, 245, 246, 247, 248, 249, 250, 251, 252, 253, 254, 255, 256, 257, 258, 259, 265, 266, 267, 268, 269, 270, 271, 272, 273] (by decide +kernel) (by decide +kernel)
set_option maxRecDepth 20000 in
theorem gX6_digest_X6_count : GoodIn wsX6_digest (wsV RX6 234 RX6 yX6_count wsX6_count) := goodIn_app (goodIn_of _ (by decide +kernel)) ggX6_digest_X6_count
theorem dX6_digest_0 : decode cX6_digest 0 = .ok (.ldc2_w 206, 3) := by decide +kernel
theorem dX6_digest_3 : decode cX6_digest 3 = .ok (.lstore_n 1, 1) := by decide +kernel
theorem dX6_digest_4 : decode cX6_digest 4 = .ok (.iconst 0, 1) := by decide +kernel
theorem dX6_digest_5 : decode cX6_digest 5 = .ok (.istore_n 3, 1) := by decide +kernel
theorem dX6_digest_6 : decode cX6_digest 6 = .ok (.iload_n 3, 1) := by decide +kernel
theorem dX6_digest_7 : decode cX6_digest 7 = .ok (.aload_n 0, 1) := by decide +kernel
theorem dX6_digest_8 : decode cX6_digest 8 = .ok (.getfield 19, 3) := by decide +kernel
theorem dX6_digest_11 : decode cX6_digest 11 = .ok (.getfield 63, 3) := by decide +kernel
theorem dX6_digest_14 : decode cX6_digest 14 = .ok (.invokevirtual 79, 3) := by decide +kernel
theorem dX6_digest_17 : decode cX6_digest 17 = .ok (.if_icmp .ge 61, 3) := by decide +kernel
theorem dX6_digest_20 : decode cX6_digest 20 = .ok (.iconst 0, 1) := by decide +kernel
theorem dX6_digest_21 : decode cX6_digest 21 = .ok (.istore 4, 2) := by decide +kernel
theorem dX6_digest_23 : decode cX6_digest 23 = .ok (.iload 4, 2) := by decide +kernel
theorem dX6_digest_25 : decode cX6_digest 25 = .ok (.bipush 9, 2) := by decide +kernel
theorem dX6_digest_27 : decode cX6_digest 27 = .ok (.if_icmp .ge 21, 3) := by decide +kernel
theorem dX6_digest_30 : decode cX6_digest 30 = .ok (.lload_n 1, 1) := by decide +kernel
theorem dX6_digest_31 : decode cX6_digest 31 = .ok (.aload_n 0, 1) := by decide +kernel
theorem dX6_digest_32 : decode cX6_digest 32 = .ok (.iload_n 3, 1) := by decide +kernel
theorem dX6_digest_33 : decode cX6_digest 33 = .ok (.iload 4, 2) := by decide +kernel
theorem dX6_digest_35 : decode cX6_digest 35 = .ok (.invokevirtual 208, 3) := by decide +kernel
theorem dX6_digest_38 : decode cX6_digest 38 = .ok (.invokestatic 211, 3) := by decide +kernel
theorem dX6_digest_41 : decode cX6_digest 41 = .ok (.lstore_n 1, 1) := by decide +kernel
theorem dX6_digest_42 : decode cX6_digest 42 = .ok (.iinc 4 1, 3) := by decide +kernel
theorem dX6_digest_45 : decode cX6_digest 45 = .ok (.goto (-22), 3) := by decide +kernel
theorem dX6_digest_48 : decode cX6_digest 48 = .ok (.lload_n 1, 1) := by decide +kernel
theorem dX6_digest_49 : decode cX6_digest 49 = .ok (.aload_n 0, 1) := by decide +kernel
theorem dX6_digest_50 : decode cX6_digest 50 = .ok (.iload_n 3, 1) := by decide +kernel
theorem dX6_digest_51 : decode cX6_digest 51 = .ok (.iconst 2, 1) := by decide +kernel
theorem dX6_digest_52 : decode cX6_digest 52 = .ok (.iconst 0, 1) := by decide +kernel
theorem dX6_digest_53 : decode cX6_digest 53 = .ok (.invokevirtual 215, 3) := by decide +kernel
theorem dX6_digest_56 : decode cX6_digest 56 = .ok (.invokestatic 211, 3) := by decide +kernel
theorem dX6_digest_59 : decode cX6_digest 59 = .ok (.lstore_n 1, 1) := by decide +kernel
theorem dX6_digest_60 : decode cX6_digest 60 = .ok (.lload_n 1, 1) := by decide +kernel
theorem dX6_digest_61 : decode cX6_digest 61 = .ok (.aload_n 0, 1) := by decide +kernel
theorem dX6_digest_62 : decode cX6_digest 62 = .ok (.iload_n 3, 1) := by decide +kernel
theorem dX6_digest_63 : decode cX6_digest 63 = .ok (.iconst 2, 1) := by decide +kernel
theorem dX6_digest_64 : decode cX6_digest 64 = .ok (.iconst 1, 1) := by decide +kernel
theorem dX6_digest_65 : decode cX6_digest 65 = .ok (.invokevirtual 215, 3) := by decide +kernel
theorem dX6_digest_68 : decode cX6_digest 68 = .ok (.invokestatic 211, 3) := by decide +kernel
theorem dX6_digest_71 : decode cX6_digest 71 = .ok (.lstore_n 1, 1) := by decide +kernel
theorem dX6_digest_72 : decode cX6_digest 72 = .ok (.iinc 3 1, 3) := by decide +kernel
theorem dX6_digest_75 : decode cX6_digest 75 = .ok (.goto (-69), 3) := by decide +kernel
theorem dX6_digest_78 : decode cX6_digest 78 = .ok (.aload_n 0, 1) := by decide +kernel
theorem dX6_digest_79 : decode cX6_digest 79 = .ok (.getfield 19, 3) := by decide +kernel
theorem dX6_digest_82 : decode cX6_digest 82 = .ok (.invokevirtual 127, 3) := by decide +kernel
theorem dX6_digest_85 : decode cX6_digest 85 = .ok (.ifCond .eq 61, 3) := by decide +kernel
theorem dX6_digest_88 : decode cX6_digest 88 = .ok (.lload_n 1, 1) := by decide +kernel
theorem dX6_digest_89 : decode cX6_digest 89 = .ok (.aload_n 0, 1) := by decide +kernel
theorem dX6_digest_90 : decode cX6_digest 90 = .ok (.iconst 3, 1) := by decide +kernel
theorem dX6_digest_91 : decode cX6_digest 91 = .ok (.invokevirtual 219, 3) := by decide +kernel
theorem dX6_digest_94 : decode cX6_digest 94 = .ok (.invokestatic 211, 3) := by decide +kernel
theorem dX6_digest_97 : decode cX6_digest 97 = .ok (.lstore_n 1, 1) := by decide +kernel
theorem dX6_digest_98 : decode cX6_digest 98 = .ok (.lload_n 1, 1) := by decide +kernel
theorem dX6_digest_99 : decode cX6_digest 99 = .ok (.aload_n 0, 1) := by decide +kernel
theorem dX6_digest_100 : decode cX6_digest 100 = .ok (.invokevirtual 222, 3) := by decide +kernel
theorem dX6_digest_103 : decode cX6_digest 103 = .ok (.invokestatic 211, 3) := by decide +kernel
theorem dX6_digest_106 : decode cX6_digest 106 = .ok (.lstore_n 1, 1) := by decide +kernel
theorem dX6_digest_107 : decode cX6_digest 107 = .ok (.lload_n 1, 1) := by decide +kernel
theorem dX6_digest_108 : decode cX6_digest 108 = .ok (.aload_n 0, 1) := by decide +kernel
theorem dX6_digest_109 : decode cX6_digest 109 = .ok (.iconst 0, 1) := by decide +kernel
theorem dX6_digest_110 : decode cX6_digest 110 = .ok (.invokevirtual 225, 3) := by decide +kernel
theorem dX6_digest_113 : decode cX6_digest 113 = .ok (.invokestatic 211, 3) := by decide +kernel
theorem dX6_digest_116 : decode cX6_digest 116 = .ok (.lstore_n 1, 1) := by decide +kernel
theorem dX6_digest_117 : decode cX6_digest 117 = .ok (.lload_n 1, 1) := by decide +kernel
theorem dX6_digest_118 : decode cX6_digest 118 = .ok (.aload_n 0, 1) := by decide +kernel
theorem dX6_digest_119 : decode cX6_digest 119 = .ok (.iconst 1, 1) := by decide +kernel
theorem dX6_digest_120 : decode cX6_digest 120 = .ok (.invokevirtual 225, 3) := by decide +kernel
theorem dX6_digest_123 : decode cX6_digest 123 = .ok (.invokestatic 211, 3) := by decide +kernel
theorem dX6_digest_126 : decode cX6_digest 126 = .ok (.lstore_n 1, 1) := by decide +kernel
theorem dX6_digest_127 : decode cX6_digest 127 = .ok (.lload_n 1, 1) := by decide +kernel
theorem dX6_digest_128 : decode cX6_digest 128 = .ok (.aload_n 0, 1) := by decide +kernel
theorem dX6_digest_129 : decode cX6_digest 129 = .ok (.aload_n 0, 1) := by decide +kernel
theorem dX6_digest_130 : decode cX6_digest 130 = .ok (.getfield 19, 3) := by decide +kernel
theorem dX6_digest_133 : decode cX6_digest 133 = .ok (.getfield 71, 3) := by decide +kernel
theorem dX6_digest_136 : decode cX6_digest 136 = .ok (.invokevirtual 135, 3) := by decide +kernel
theorem dX6_digest_139 : decode cX6_digest 139 = .ok (.invokevirtual 228, 3) := by decide +kernel
theorem dX6_digest_142 : decode cX6_digest 142 = .ok (.invokestatic 211, 3) := by decide +kernel
theorem dX6_digest_145 : decode cX6_digest 145 = .ok (.lstore_n 1, 1) := by decide +kernel
theorem dX6_digest_146 : decode cX6_digest 146 = .ok (.iconst 0, 1) := by decide +kernel
theorem dX6_digest_147 : decode cX6_digest 147 = .ok (.istore_n 3, 1) := by decide +kernel
theorem dX6_digest_148 : decode cX6_digest 148 = .ok (.iload_n 3, 1) := by decide +kernel
theorem dX6_digest_149 : decode cX6_digest 149 = .ok (.aload_n 0, 1) := by decide +kernel
theorem dX6_digest_150 : decode cX6_digest 150 = .ok (.getfield 10, 3) := by decide +kernel
theorem dX6_digest_153 : decode cX6_digest 153 = .ok (.invokevirtual 44, 3) := by decide +kernel
theorem dX6_digest_156 : decode cX6_digest 156 = .ok (.if_icmp .ge 22, 3) := by decide +kernel
theorem dX6_digest_159 : decode cX6_digest 159 = .ok (.lload_n 1, 1) := by decide +kernel
theorem dX6_digest_160 : decode cX6_digest 160 = .ok (.aload_n 0, 1) := by decide +kernel
theorem dX6_digest_161 : decode cX6_digest 161 = .ok (.getfield 10, 3) := by decide +kernel
theorem dX6_digest_164 : decode cX6_digest 164 = .ok (.iload_n 3, 1) := by decide +kernel
theorem dX6_digest_165 : decode cX6_digest 165 = .ok (.invokevirtual 231, 3) := by decide +kernel
theorem dX6_digest_168 : decode cX6_digest 168 = .ok (.invokestatic 211, 3) := by decide +kernel
theorem dX6_digest_171 : decode cX6_digest 171 = .ok (.lstore_n 1, 1) := by decide +kernel
theorem dX6_digest_172 : decode cX6_digest 172 = .ok (.iinc 3 1, 3) := by decide +kernel
theorem dX6_digest_175 : decode cX6_digest 175 = .ok (.goto (-27), 3) := by decide +kernel
theorem dX6_digest_178 : decode cX6_digest 178 = .ok (.iconst 0, 1) := by decide +kernel
theorem dX6_digest_179 : decode cX6_digest 179 = .ok (.istore_n 3, 1) := by decide +kernel
theorem dX6_digest_180 : decode cX6_digest 180 = .ok (.iload_n 3, 1) := by decide +kernel
theorem dX6_digest_181 : decode cX6_digest 181 = .ok (.bipush 11, 2) := by decide +kernel
theorem dX6_digest_183 : decode cX6_digest 183 = .ok (.if_icmp .ge 19, 3) := by decide +kernel
theorem dX6_digest_186 : decode cX6_digest 186 = .ok (.lload_n 1, 1) := by decide +kernel
theorem dX6_digest_187 : decode cX6_digest 187 = .ok (.aload_n 0, 1) := by decide +kernel
theorem dX6_digest_188 : decode cX6_digest 188 = .ok (.iload_n 3, 1) := by decide +kernel
theorem dX6_digest_189 : decode cX6_digest 189 = .ok (.invokevirtual 234, 3) := by decide +kernel
theorem dX6_digest_192 : decode cX6_digest 192 = .ok (.invokestatic 211, 3) := by decide +kernel
theorem dX6_digest_195 : decode cX6_digest 195 = .ok (.lstore_n 1, 1) := by decide +kernel
theorem dX6_digest_196 : decode cX6_digest 196 = .ok (.iinc 3 1, 3) := by decide +kernel
theorem dX6_digest_199 : decode cX6_digest 199 = .ok (.goto (-19), 3) := by decide +kernel
theorem dX6_digest_202 : decode cX6_digest 202 = .ok (.lload_n 1, 1) := by decide +kernel
theorem dX6_digest_203 : decode cX6_digest 203 = .ok (.lreturn, 1) := by decide +kernel
theorem dX6_mixed_0 : decode cX6_mixed 0 = .ok (.ldc2_w 237, 3) := by decide +kernel
theorem dX6_mixed_3 : decode cX6_mixed 3 = .ok (.lload_n 0, 1) := by decide +kernel
theorem dX6_mixed_4 : decode cX6_mixed 4 = .ok (.lmul, 1) := by decide +kernel
theorem dX6_mixed_5 : decode cX6_mixed 5 = .ok (.iload_n 2, 1) := by decide +kernel
theorem dX6_mixed_6 : decode cX6_mixed 6 = .ok (.i2l, 1) := by decide +kernel
theorem dX6_mixed_7 : decode cX6_mixed 7 = .ok (.ladd, 1) := by decide +kernel
theorem dX6_mixed_8 : decode cX6_mixed 8 = .ok (.lreturn, 1) := by decide +kernel
theorem dX6_isKind_0 : decode cX6_isKind 0 = .ok (.iload_n 0, 1) := by decide +kernel
theorem dX6_isKind_1 : decode cX6_isKind 1 = .ok (.ifCond .lt 12, 3) := by decide +kernel
theorem dX6_isKind_4 : decode cX6_isKind 4 = .ok (.iload_n 0, 1) := by decide +kernel
theorem dX6_isKind_5 : decode cX6_isKind 5 = .ok (.iconst 5, 1) := by decide +kernel
theorem dX6_isKind_6 : decode cX6_isKind 6 = .ok (.if_icmp .ge 7, 3) := by decide +kernel
theorem dX6_isKind_9 : decode cX6_isKind 9 = .ok (.iconst 1, 1) := by decide +kernel
theorem dX6_isKind_10 : decode cX6_isKind 10 = .ok (.goto 4, 3) := by decide +kernel
theorem dX6_isKind_13 : decode cX6_isKind 13 = .ok (.iconst 0, 1) := by decide +kernel
theorem dX6_isKind_14 : decode cX6_isKind 14 = .ok (.ireturn, 1) := by decide +kernel
theorem dX6_digitsIn_0 : decode cX6_digitsIn 0 = .ok (.iconst 0, 1) := by decide +kernel
theorem dX6_digitsIn_1 : decode cX6_digitsIn 1 = .ok (.istore_n 1, 1) := by decide +kernel
theorem dX6_digitsIn_2 : decode cX6_digitsIn 2 = .ok (.iload_n 0, 1) := by decide +kernel
theorem dX6_digitsIn_3 : decode cX6_digitsIn 3 = .ok (.istore_n 2, 1) := by decide +kernel
theorem dX6_digitsIn_4 : decode cX6_digitsIn 4 = .ok (.iload_n 2, 1) := by decide +kernel
theorem dX6_digitsIn_5 : decode cX6_digitsIn 5 = .ok (.ifCond .le 14, 3) := by decide +kernel
theorem dX6_digitsIn_8 : decode cX6_digitsIn 8 = .ok (.iinc 1 1, 3) := by decide +kernel
theorem dX6_digitsIn_11 : decode cX6_digitsIn 11 = .ok (.iload_n 2, 1) := by decide +kernel
theorem dX6_digitsIn_12 : decode cX6_digitsIn 12 = .ok (.bipush 10, 2) := by decide +kernel
theorem dX6_digitsIn_14 : decode cX6_digitsIn 14 = .ok (.idiv, 1) := by decide +kernel
theorem dX6_digitsIn_15 : decode cX6_digitsIn 15 = .ok (.istore_n 2, 1) := by decide +kernel
theorem dX6_digitsIn_16 : decode cX6_digitsIn 16 = .ok (.goto (-12), 3) := by decide +kernel
theorem dX6_digitsIn_19 : decode cX6_digitsIn 19 = .ok (.iload_n 1, 1) := by decide +kernel
theorem dX6_digitsIn_20 : decode cX6_digitsIn 20 = .ok (.ireturn, 1) := by decide +kernel
theorem dX6_growth_0 : decode cX6_growth 0 = .ok (.iload_n 0, 1) := by decide +kernel
theorem dX6_growth_1 : decode cX6_growth 1 = .ok (.tableswitch 49 1 4 #[31, 39, 45, 39], 31) := by decide +kernel
theorem dX6_growth_32 : decode cX6_growth 32 = .ok (.iload_n 1, 1) := by decide +kernel
theorem dX6_growth_33 : decode cX6_growth 33 = .ok (.iconst 1, 1) := by decide +kernel
theorem dX6_growth_34 : decode cX6_growth 34 = .ok (.isub, 1) := by decide +kernel
theorem dX6_growth_35 : decode cX6_growth 35 = .ok (.iconst 0, 1) := by decide +kernel
theorem dX6_growth_36 : decode cX6_growth 36 = .ok (.invokestatic 239, 3) := by decide +kernel
theorem dX6_growth_39 : decode cX6_growth 39 = .ok (.ireturn, 1) := by decide +kernel
theorem dX6_growth_40 : decode cX6_growth 40 = .ok (.iload_n 1, 1) := by decide +kernel
theorem dX6_growth_41 : decode cX6_growth 41 = .ok (.iconst 1, 1) := by decide +kernel
theorem dX6_growth_42 : decode cX6_growth 42 = .ok (.invokestatic 244, 3) := by decide +kernel
theorem dX6_growth_45 : decode cX6_growth 45 = .ok (.ireturn, 1) := by decide +kernel
theorem dX6_growth_46 : decode cX6_growth 46 = .ok (.iconst 2, 1) := by decide +kernel
theorem dX6_growth_47 : decode cX6_growth 47 = .ok (.iload_n 1, 1) := by decide +kernel
theorem dX6_growth_48 : decode cX6_growth 48 = .ok (.imul, 1) := by decide +kernel
theorem dX6_growth_49 : decode cX6_growth 49 = .ok (.ireturn, 1) := by decide +kernel
theorem dX6_growth_50 : decode cX6_growth 50 = .ok (.iload_n 1, 1) := by decide +kernel
theorem dX6_growth_51 : decode cX6_growth 51 = .ok (.ireturn, 1) := by decide +kernel
theorem dX7_init_0 : decode cX7_init 0 = .ok (.aload_n 0, 1) := by decide +kernel
theorem dX7_init_1 : decode cX7_init 1 = .ok (.invokespecial 1, 3) := by decide +kernel
theorem dX7_init_4 : decode cX7_init 4 = .ok (.aload_n 0, 1) := by decide +kernel
theorem dX7_init_5 : decode cX7_init 5 = .ok (.bipush 36, 2) := by decide +kernel
theorem dX7_init_7 : decode cX7_init 7 = .ok (.newarray .int, 2) := by decide +kernel
theorem dX7_init_9 : decode cX7_init 9 = .ok (.putfield 7, 3) := by decide +kernel
theorem dX7_init_12 : decode cX7_init 12 = .ok (.aload_n 0, 1) := by decide +kernel
theorem dX7_init_13 : decode cX7_init 13 = .ok (.bipush 6, 2) := by decide +kernel
theorem dX7_init_15 : decode cX7_init 15 = .ok (.newarray .int, 2) := by decide +kernel
theorem dX7_init_17 : decode cX7_init 17 = .ok (.putfield 13, 3) := by decide +kernel
theorem dX7_init_20 : decode cX7_init 20 = .ok (.aload_n 0, 1) := by decide +kernel
theorem dX7_init_21 : decode cX7_init 21 = .ok (.bipush 6, 2) := by decide +kernel
theorem dX7_init_23 : decode cX7_init 23 = .ok (.newarray .int, 2) := by decide +kernel
theorem dX7_init_25 : decode cX7_init 25 = .ok (.putfield 16, 3) := by decide +kernel
theorem dX7_init_28 : decode cX7_init 28 = .ok (.aload_n 0, 1) := by decide +kernel
theorem dX7_init_29 : decode cX7_init 29 = .ok (.bipush 6, 2) := by decide +kernel
theorem dX7_init_31 : decode cX7_init 31 = .ok (.newarray .int, 2) := by decide +kernel
theorem dX7_init_33 : decode cX7_init 33 = .ok (.putfield 19, 3) := by decide +kernel
theorem dX7_init_36 : decode cX7_init 36 = .ok (.aload_n 0, 1) := by decide +kernel
theorem dX7_init_37 : decode cX7_init 37 = .ok (.bipush 6, 2) := by decide +kernel
theorem dX7_init_39 : decode cX7_init 39 = .ok (.newarray .int, 2) := by decide +kernel
theorem dX7_init_41 : decode cX7_init 41 = .ok (.putfield 22, 3) := by decide +kernel
theorem dX7_init_44 : decode cX7_init 44 = .ok (.aload_n 0, 1) := by decide +kernel
theorem dX7_init_45 : decode cX7_init 45 = .ok (.bipush 8, 2) := by decide +kernel
theorem dX7_init_47 : decode cX7_init 47 = .ok (.newarray .int, 2) := by decide +kernel
theorem dX7_init_49 : decode cX7_init 49 = .ok (.putfield 25, 3) := by decide +kernel
theorem dX7_init_52 : decode cX7_init 52 = .ok (.aload_n 0, 1) := by decide +kernel
theorem dX7_init_53 : decode cX7_init 53 = .ok (.bipush 6, 2) := by decide +kernel
theorem dX7_init_55 : decode cX7_init 55 = .ok (.newarray .int, 2) := by decide +kernel
theorem dX7_init_57 : decode cX7_init 57 = .ok (.putfield 28, 3) := by decide +kernel
theorem dX7_init_60 : decode cX7_init 60 = .ok (.aload_n 0, 1) := by decide +kernel
theorem dX7_init_61 : decode cX7_init 61 = .ok (.bipush 6, 2) := by decide +kernel
theorem dX7_init_63 : decode cX7_init 63 = .ok (.newarray .int, 2) := by decide +kernel
theorem dX7_init_65 : decode cX7_init 65 = .ok (.putfield 31, 3) := by decide +kernel
theorem dX7_init_68 : decode cX7_init 68 = .ok (.aload_n 0, 1) := by decide +kernel
theorem dX7_init_69 : decode cX7_init 69 = .ok (.bipush 18, 2) := by decide +kernel
theorem dX7_init_71 : decode cX7_init 71 = .ok (.newarray .int, 2) := by decide +kernel
theorem dX7_init_73 : decode cX7_init 73 = .ok (.putfield 34, 3) := by decide +kernel
theorem dX7_init_76 : decode cX7_init 76 = .ok (.aload_n 0, 1) := by decide +kernel
theorem dX7_init_77 : decode cX7_init 77 = .ok (.bipush 6, 2) := by decide +kernel
theorem dX7_init_79 : decode cX7_init 79 = .ok (.newarray .int, 2) := by decide +kernel
theorem dX7_init_81 : decode cX7_init 81 = .ok (.putfield 37, 3) := by decide +kernel
theorem dX7_init_84 : decode cX7_init 84 = .ok (.aload_n 0, 1) := by decide +kernel
theorem dX7_init_85 : decode cX7_init 85 = .ok (.bipush 6, 2) := by decide +kernel
theorem dX7_init_87 : decode cX7_init 87 = .ok (.newarray .int, 2) := by decide +kernel
theorem dX7_init_89 : decode cX7_init 89 = .ok (.putfield 40, 3) := by decide +kernel
theorem dX7_init_92 : decode cX7_init 92 = .ok (.aload_n 0, 1) := by decide +kernel
theorem dX7_init_93 : decode cX7_init 93 = .ok (.bipush 6, 2) := by decide +kernel
theorem dX7_init_95 : decode cX7_init 95 = .ok (.newarray .int, 2) := by decide +kernel
theorem dX7_init_97 : decode cX7_init 97 = .ok (.putfield 43, 3) := by decide +kernel
theorem dX7_init_100 : decode cX7_init 100 = .ok (.aload_n 0, 1) := by decide +kernel
theorem dX7_init_101 : decode cX7_init 101 = .ok (.bipush 6, 2) := by decide +kernel
theorem dX7_init_103 : decode cX7_init 103 = .ok (.newarray .int, 2) := by decide +kernel
theorem dX7_init_105 : decode cX7_init 105 = .ok (.putfield 46, 3) := by decide +kernel
theorem dX7_init_108 : decode cX7_init 108 = .ok (.aload_n 0, 1) := by decide +kernel
theorem dX7_init_109 : decode cX7_init 109 = .ok (.bipush 18, 2) := by decide +kernel
theorem dX7_init_111 : decode cX7_init 111 = .ok (.newarray .int, 2) := by decide +kernel
theorem dX7_init_113 : decode cX7_init 113 = .ok (.putfield 49, 3) := by decide +kernel
theorem dX7_init_116 : decode cX7_init 116 = .ok (.aload_n 0, 1) := by decide +kernel
theorem dX7_init_117 : decode cX7_init 117 = .ok (.iconst (-1), 1) := by decide +kernel
theorem dX7_init_118 : decode cX7_init 118 = .ok (.putfield 52, 3) := by decide +kernel
theorem dX7_init_121 : decode cX7_init 121 = .ok (.return_, 1) := by decide +kernel
theorem dX7_in_0 : decode cX7_in 0 = .ok (.lload_n 0, 1) := by decide +kernel
theorem dX7_in_1 : decode cX7_in 1 = .ok (.lload_n 2, 1) := by decide +kernel
theorem dX7_in_2 : decode cX7_in 2 = .ok (.lcmp, 1) := by decide +kernel
theorem dX7_in_3 : decode cX7_in 3 = .ok (.ifCond .lt 14, 3) := by decide +kernel
theorem dX7_in_6 : decode cX7_in 6 = .ok (.lload_n 0, 1) := by decide +kernel
theorem dX7_in_7 : decode cX7_in 7 = .ok (.lload 4, 2) := by decide +kernel
theorem dX7_in_9 : decode cX7_in 9 = .ok (.lcmp, 1) := by decide +kernel
theorem dX7_in_10 : decode cX7_in 10 = .ok (.ifCond .gt 7, 3) := by decide +kernel
theorem dX7_in_13 : decode cX7_in 13 = .ok (.iconst 1, 1) := by decide +kernel
theorem dX7_in_14 : decode cX7_in 14 = .ok (.goto 4, 3) := by decide +kernel
theorem dX7_in_17 : decode cX7_in 17 = .ok (.iconst 0, 1) := by decide +kernel
theorem dX7_in_18 : decode cX7_in 18 = .ok (.ireturn, 1) := by decide +kernel
theorem dX7_copy_0 : decode cX7_copy 0 = .ok (.iconst 0, 1) := by decide +kernel
theorem dX7_copy_1 : decode cX7_copy 1 = .ok (.istore_n 2, 1) := by decide +kernel
theorem dX7_copy_2 : decode cX7_copy 2 = .ok (.iload_n 2, 1) := by decide +kernel
theorem dX7_copy_3 : decode cX7_copy 3 = .ok (.aload_n 0, 1) := by decide +kernel
theorem dX7_copy_4 : decode cX7_copy 4 = .ok (.arraylength, 1) := by decide +kernel
theorem dX7_copy_5 : decode cX7_copy 5 = .ok (.if_icmp .ge 15, 3) := by decide +kernel
theorem dX7_copy_8 : decode cX7_copy 8 = .ok (.aload_n 1, 1) := by decide +kernel
theorem dX7_copy_9 : decode cX7_copy 9 = .ok (.iload_n 2, 1) := by decide +kernel
theorem dX7_copy_10 : decode cX7_copy 10 = .ok (.aload_n 0, 1) := by decide +kernel
theorem dX7_copy_11 : decode cX7_copy 11 = .ok (.iload_n 2, 1) := by decide +kernel
theorem dX7_copy_12 : decode cX7_copy 12 = .ok (.iaload, 1) := by decide +kernel
theorem dX7_copy_13 : decode cX7_copy 13 = .ok (.iastore, 1) := by decide +kernel
theorem dX7_copy_14 : decode cX7_copy 14 = .ok (.iinc 2 1, 3) := by decide +kernel
theorem dX7_copy_17 : decode cX7_copy 17 = .ok (.goto (-15), 3) := by decide +kernel
theorem dX7_copy_20 : decode cX7_copy 20 = .ok (.return_, 1) := by decide +kernel
theorem dX7_ones_0 : decode cX7_ones 0 = .ok (.iconst 0, 1) := by decide +kernel
theorem dX7_ones_1 : decode cX7_ones 1 = .ok (.istore_n 1, 1) := by decide +kernel
theorem dX7_ones_2 : decode cX7_ones 2 = .ok (.iconst 0, 1) := by decide +kernel
theorem dX7_ones_3 : decode cX7_ones 3 = .ok (.istore_n 2, 1) := by decide +kernel
theorem dX7_ones_4 : decode cX7_ones 4 = .ok (.iload_n 2, 1) := by decide +kernel
theorem dX7_ones_5 : decode cX7_ones 5 = .ok (.bipush 6, 2) := by decide +kernel
theorem dX7_ones_7 : decode cX7_ones 7 = .ok (.if_icmp .ge 17, 3) := by decide +kernel
theorem dX7_ones_10 : decode cX7_ones 10 = .ok (.iload_n 1, 1) := by decide +kernel
theorem dX7_ones_11 : decode cX7_ones 11 = .ok (.iload_n 0, 1) := by decide +kernel
theorem dX7_ones_12 : decode cX7_ones 12 = .ok (.iload_n 2, 1) := by decide +kernel
theorem dX7_ones_13 : decode cX7_ones 13 = .ok (.ishr, 1) := by decide +kernel
theorem dX7_ones_14 : decode cX7_ones 14 = .ok (.iconst 1, 1) := by decide +kernel
theorem dX7_ones_15 : decode cX7_ones 15 = .ok (.iand, 1) := by decide +kernel
theorem dX7_ones_16 : decode cX7_ones 16 = .ok (.iadd, 1) := by decide +kernel
theorem dX7_ones_17 : decode cX7_ones 17 = .ok (.istore_n 1, 1) := by decide +kernel
theorem dX7_ones_18 : decode cX7_ones 18 = .ok (.iinc 2 1, 3) := by decide +kernel
theorem dX7_ones_21 : decode cX7_ones 21 = .ok (.goto (-17), 3) := by decide +kernel
theorem dX7_ones_24 : decode cX7_ones 24 = .ok (.iload_n 1, 1) := by decide +kernel
theorem dX7_ones_25 : decode cX7_ones 25 = .ok (.ireturn, 1) := by decide +kernel
set_option maxRecDepth 20000 in
theorem ggX7_letter_X7_in : GoodIn wsX7_letter wsX7_in := goodIn_r _ [7] (by decide +kernel) (by decide +kernel)
set_option maxRecDepth 20000 in
theorem gX7_letter_X7_in : GoodIn wsX7_letter (va_wsS RX7 58 yX7_in wsX7_in) := goodIn_app (goodIn_of _ (by decide +kernel)) ggX7_letter_X7_in
theorem dX7_letter_0 : decode cX7_letter 0 = .ok (.iload_n 1, 1) := by decide +kernel
theorem dX7_letter_1 : decode cX7_letter 1 = .ok (.i2l, 1) := by decide +kernel
theorem dX7_letter_2 : decode cX7_letter 2 = .ok (.lconst 1, 1) := by decide +kernel
theorem dX7_letter_3 : decode cX7_letter 3 = .ok (.ldc2_w 56, 3) := by decide +kernel
theorem dX7_letter_6 : decode cX7_letter 6 = .ok (.invokestatic 58, 3) := by decide +kernel
theorem dX7_letter_9 : decode cX7_letter 9 = .ok (.ifCond .ne 6, 3) := by decide +kernel
theorem dX7_letter_12 : decode cX7_letter 12 = .ok (.bipush (-102), 2) := by decide +kernel
theorem dX7_letter_14 : decode cX7_letter 14 = .ok (.ireturn, 1) := by decide +kernel
theorem dX7_letter_15 : decode cX7_letter 15 = .ok (.aload_n 0, 1) := by decide +kernel
theorem dX7_letter_16 : decode cX7_letter 16 = .ok (.getfield 62, 3) := by decide +kernel
theorem dX7_letter_19 : decode cX7_letter 19 = .ok (.bipush 36, 2) := by decide +kernel
theorem dX7_letter_21 : decode cX7_letter 21 = .ok (.if_icmp .ne 6, 3) := by decide +kernel
theorem dX7_letter_24 : decode cX7_letter 24 = .ok (.bipush (-104), 2) := by decide +kernel
theorem dX7_letter_26 : decode cX7_letter 26 = .ok (.ireturn, 1) := by decide +kernel
theorem dX7_letter_27 : decode cX7_letter 27 = .ok (.aload_n 0, 1) := by decide +kernel
theorem dX7_letter_28 : decode cX7_letter 28 = .ok (.getfield 7, 3) := by decide +kernel
theorem dX7_letter_31 : decode cX7_letter 31 = .ok (.aload_n 0, 1) := by decide +kernel
theorem dX7_letter_32 : decode cX7_letter 32 = .ok (.getfield 62, 3) := by decide +kernel
theorem dX7_letter_35 : decode cX7_letter 35 = .ok (.iload_n 1, 1) := by decide +kernel
theorem dX7_letter_36 : decode cX7_letter 36 = .ok (.iastore, 1) := by decide +kernel
theorem dX7_letter_37 : decode cX7_letter 37 = .ok (.aload_n 0, 1) := by decide +kernel
theorem dX7_letter_38 : decode cX7_letter 38 = .ok (.dup, 1) := by decide +kernel
theorem dX7_letter_39 : decode cX7_letter 39 = .ok (.getfield 62, 3) := by decide +kernel
theorem dX7_letter_42 : decode cX7_letter 42 = .ok (.iconst 1, 1) := by decide +kernel
theorem dX7_letter_43 : decode cX7_letter 43 = .ok (.iadd, 1) := by decide +kernel
theorem dX7_letter_44 : decode cX7_letter 44 = .ok (.putfield 62, 3) := by decide +kernel
theorem dX7_letter_47 : decode cX7_letter 47 = .ok (.aload_n 0, 1) := by decide +kernel
theorem dX7_letter_48 : decode cX7_letter 48 = .ok (.getfield 62, 3) := by decide +kernel
theorem dX7_letter_51 : decode cX7_letter 51 = .ok (.ireturn, 1) := by decide +kernel
theorem dX7_blank_0 : decode cX7_blank 0 = .ok (.aload_n 0, 1) := by decide +kernel
theorem dX7_blank_1 : decode cX7_blank 1 = .ok (.getfield 62, 3) := by decide +kernel
theorem dX7_blank_4 : decode cX7_blank 4 = .ok (.istore_n 1, 1) := by decide +kernel
theorem dX7_blank_5 : decode cX7_blank 5 = .ok (.aload_n 0, 1) := by decide +kernel
theorem dX7_blank_6 : decode cX7_blank 6 = .ok (.iconst 0, 1) := by decide +kernel
theorem dX7_blank_7 : decode cX7_blank 7 = .ok (.putfield 62, 3) := by decide +kernel
theorem dX7_blank_10 : decode cX7_blank 10 = .ok (.iload_n 1, 1) := by decide +kernel
theorem dX7_blank_11 : decode cX7_blank 11 = .ok (.ireturn, 1) := by decide +kernel
theorem dX7_kindBy_0 : decode cX7_kindBy 0 = .ok (.iload_n 0, 1) := by decide +kernel
theorem dX7_kindBy_1 : decode cX7_kindBy 1 = .ok (.lookupswitch 61 #[(99, 51), (100, 53), (102, 57), (115, 55), (119, 59)], 51) := by decide +kernel
theorem dX7_kindBy_52 : decode cX7_kindBy 52 = .ok (.iconst 0, 1) := by decide +kernel
theorem dX7_kindBy_53 : decode cX7_kindBy 53 = .ok (.ireturn, 1) := by decide +kernel
theorem dX7_kindBy_54 : decode cX7_kindBy 54 = .ok (.iconst 1, 1) := by decide +kernel
theorem dX7_kindBy_55 : decode cX7_kindBy 55 = .ok (.ireturn, 1) := by decide +kernel
theorem dX7_kindBy_56 : decode cX7_kindBy 56 = .ok (.iconst 2, 1) := by decide +kernel
theorem dX7_kindBy_57 : decode cX7_kindBy 57 = .ok (.ireturn, 1) := by decide +kernel
theorem dX7_kindBy_58 : decode cX7_kindBy 58 = .ok (.iconst 3, 1) := by decide +kernel
theorem dX7_kindBy_59 : decode cX7_kindBy 59 = .ok (.ireturn, 1) := by decide +kernel
theorem dX7_kindBy_60 : decode cX7_kindBy 60 = .ok (.iconst 4, 1) := by decide +kernel
theorem dX7_kindBy_61 : decode cX7_kindBy 61 = .ok (.ireturn, 1) := by decide +kernel
theorem dX7_kindBy_62 : decode cX7_kindBy 62 = .ok (.iconst (-1), 1) := by decide +kernel
theorem dX7_kindBy_63 : decode cX7_kindBy 63 = .ok (.ireturn, 1) := by decide +kernel
set_option maxRecDepth 20000 in
theorem ggX7_isClauseLetter_X7_kindBy : GoodIn wsX7_isClauseLetter wsX7_kindBy := goodIn_r _ [9] (by decide +kernel) (by decide +kernel)
set_option maxRecDepth 20000 in
theorem gX7_isClauseLetter_X7_kindBy : GoodIn wsX7_isClauseLetter (va_wsS RX7 65 yX7_kindBy wsX7_kindBy) := goodIn_app (goodIn_of _ (by decide +kernel)) ggX7_isClauseLetter_X7_kindBy
set_option maxRecDepth 20000 in
theorem ggX7_isClauseLetter_X7_in : GoodIn wsX7_isClauseLetter wsX7_in := goodIn_r _ [12] (by decide +kernel) (by decide +kernel)
set_option maxRecDepth 20000 in
theorem gX7_isClauseLetter_X7_in : GoodIn wsX7_isClauseLetter (va_wsS RX7 58 yX7_in wsX7_in) := goodIn_app (goodIn_of _ (by decide +kernel)) ggX7_isClauseLetter_X7_in
theorem dX7_isClauseLetter_0 : decode cX7_isClauseLetter 0 = .ok (.aload_n 0, 1) := by decide +kernel
theorem dX7_isClauseLetter_1 : decode cX7_isClauseLetter 1 = .ok (.getfield 7, 3) := by decide +kernel
theorem dX7_isClauseLetter_4 : decode cX7_isClauseLetter 4 = .ok (.iload_n 1, 1) := by decide +kernel
theorem dX7_isClauseLetter_5 : decode cX7_isClauseLetter 5 = .ok (.iaload, 1) := by decide +kernel
theorem dX7_isClauseLetter_6 : decode cX7_isClauseLetter 6 = .ok (.istore_n 2, 1) := by decide +kernel
theorem dX7_isClauseLetter_7 : decode cX7_isClauseLetter 7 = .ok (.iload_n 1, 1) := by decide +kernel
theorem dX7_isClauseLetter_8 : decode cX7_isClauseLetter 8 = .ok (.iconst 4, 1) := by decide +kernel
theorem dX7_isClauseLetter_9 : decode cX7_isClauseLetter 9 = .ok (.irem, 1) := by decide +kernel
theorem dX7_isClauseLetter_10 : decode cX7_isClauseLetter 10 = .ok (.tableswitch 84 0 2 #[26, 40, 52], 26) := by decide +kernel
theorem dX7_isClauseLetter_36 : decode cX7_isClauseLetter 36 = .ok (.iload_n 2, 1) := by decide +kernel
theorem dX7_isClauseLetter_37 : decode cX7_isClauseLetter 37 = .ok (.invokestatic 65, 3) := by decide +kernel
theorem dX7_isClauseLetter_40 : decode cX7_isClauseLetter 40 = .ok (.iconst (-1), 1) := by decide +kernel
theorem dX7_isClauseLetter_41 : decode cX7_isClauseLetter 41 = .ok (.if_icmp .eq 7, 3) := by decide +kernel
theorem dX7_isClauseLetter_44 : decode cX7_isClauseLetter 44 = .ok (.iconst 1, 1) := by decide +kernel
theorem dX7_isClauseLetter_45 : decode cX7_isClauseLetter 45 = .ok (.goto 4, 3) := by decide +kernel
theorem dX7_isClauseLetter_48 : decode cX7_isClauseLetter 48 = .ok (.iconst 0, 1) := by decide +kernel
theorem dX7_isClauseLetter_49 : decode cX7_isClauseLetter 49 = .ok (.ireturn, 1) := by decide +kernel
theorem dX7_isClauseLetter_50 : decode cX7_isClauseLetter 50 = .ok (.iload_n 2, 1) := by decide +kernel
theorem dX7_isClauseLetter_51 : decode cX7_isClauseLetter 51 = .ok (.i2l, 1) := by decide +kernel
theorem dX7_isClauseLetter_52 : decode cX7_isClauseLetter 52 = .ok (.ldc2_w 69, 3) := by decide +kernel
theorem dX7_isClauseLetter_55 : decode cX7_isClauseLetter 55 = .ok (.ldc2_w 71, 3) := by decide +kernel
theorem dX7_isClauseLetter_58 : decode cX7_isClauseLetter 58 = .ok (.invokestatic 58, 3) := by decide +kernel
theorem dX7_isClauseLetter_61 : decode cX7_isClauseLetter 61 = .ok (.ireturn, 1) := by decide +kernel
theorem dX7_isClauseLetter_62 : decode cX7_isClauseLetter 62 = .ok (.iload_n 2, 1) := by decide +kernel
theorem dX7_isClauseLetter_63 : decode cX7_isClauseLetter 63 = .ok (.bipush 45, 2) := by decide +kernel
theorem dX7_isClauseLetter_65 : decode cX7_isClauseLetter 65 = .ok (.if_icmp .eq 23, 3) := by decide +kernel
theorem dX7_isClauseLetter_68 : decode cX7_isClauseLetter 68 = .ok (.iload_n 2, 1) := by decide +kernel
theorem dX7_isClauseLetter_69 : decode cX7_isClauseLetter 69 = .ok (.i2l, 1) := by decide +kernel
theorem dX7_isClauseLetter_70 : decode cX7_isClauseLetter 70 = .ok (.ldc2_w 73, 3) := by decide +kernel
theorem dX7_isClauseLetter_73 : decode cX7_isClauseLetter 73 = .ok (.bipush 48, 2) := by decide +kernel
theorem dX7_isClauseLetter_75 : decode cX7_isClauseLetter 75 = .ok (.iload_n 1, 1) := by decide +kernel
theorem dX7_isClauseLetter_76 : decode cX7_isClauseLetter 76 = .ok (.iconst 4, 1) := by decide +kernel
theorem dX7_isClauseLetter_77 : decode cX7_isClauseLetter 77 = .ok (.idiv, 1) := by decide +kernel
theorem dX7_isClauseLetter_78 : decode cX7_isClauseLetter 78 = .ok (.iadd, 1) := by decide +kernel
theorem dX7_isClauseLetter_79 : decode cX7_isClauseLetter 79 = .ok (.iconst 1, 1) := by decide +kernel
theorem dX7_isClauseLetter_80 : decode cX7_isClauseLetter 80 = .ok (.isub, 1) := by decide +kernel
theorem dX7_isClauseLetter_81 : decode cX7_isClauseLetter 81 = .ok (.i2l, 1) := by decide +kernel
theorem dX7_isClauseLetter_82 : decode cX7_isClauseLetter 82 = .ok (.invokestatic 58, 3) := by decide +kernel
theorem dX7_isClauseLetter_85 : decode cX7_isClauseLetter 85 = .ok (.ifCond .eq 7, 3) := by decide +kernel
theorem dX7_isClauseLetter_88 : decode cX7_isClauseLetter 88 = .ok (.iconst 1, 1) := by decide +kernel
theorem dX7_isClauseLetter_89 : decode cX7_isClauseLetter 89 = .ok (.goto 4, 3) := by decide +kernel
theorem dX7_isClauseLetter_92 : decode cX7_isClauseLetter 92 = .ok (.iconst 0, 1) := by decide +kernel
theorem dX7_isClauseLetter_93 : decode cX7_isClauseLetter 93 = .ok (.ireturn, 1) := by decide +kernel
theorem dX7_isClauseLetter_94 : decode cX7_isClauseLetter 94 = .ok (.aload_n 0, 1) := by decide +kernel
theorem dX7_isClauseLetter_95 : decode cX7_isClauseLetter 95 = .ok (.iload_n 2, 1) := by decide +kernel
theorem dX7_isClauseLetter_96 : decode cX7_isClauseLetter 96 = .ok (.bipush 59, 2) := by decide +kernel
theorem dX7_isClauseLetter_98 : decode cX7_isClauseLetter 98 = .ok (.if_icmp .ne 7, 3) := by decide +kernel
theorem dX7_isClauseLetter_101 : decode cX7_isClauseLetter 101 = .ok (.iload_n 1, 1) := by decide +kernel
theorem dX7_isClauseLetter_102 : decode cX7_isClauseLetter 102 = .ok (.goto 4, 3) := by decide +kernel
theorem dX7_isClauseLetter_105 : decode cX7_isClauseLetter 105 = .ok (.iconst 0, 1) := by decide +kernel
theorem dX7_isClauseLetter_106 : decode cX7_isClauseLetter 106 = .ok (.putfield 75, 3) := by decide +kernel
theorem dX7_isClauseLetter_109 : decode cX7_isClauseLetter 109 = .ok (.iload_n 2, 1) := by decide +kernel
theorem dX7_isClauseLetter_110 : decode cX7_isClauseLetter 110 = .ok (.bipush 59, 2) := by decide +kernel
theorem dX7_isClauseLetter_112 : decode cX7_isClauseLetter 112 = .ok (.if_icmp .eq 15, 3) := by decide +kernel
theorem dX7_isClauseLetter_115 : decode cX7_isClauseLetter 115 = .ok (.iload_n 2, 1) := by decide +kernel
theorem dX7_isClauseLetter_116 : decode cX7_isClauseLetter 116 = .ok (.bipush 44, 2) := by decide +kernel
theorem dX7_isClauseLetter_118 : decode cX7_isClauseLetter 118 = .ok (.if_icmp .ne 13, 3) := by decide +kernel
theorem dX7_isClauseLetter_121 : decode cX7_isClauseLetter 121 = .ok (.iload_n 1, 1) := by decide +kernel
theorem dX7_isClauseLetter_122 : decode cX7_isClauseLetter 122 = .ok (.bipush 23, 2) := by decide +kernel
theorem dX7_isClauseLetter_124 : decode cX7_isClauseLetter 124 = .ok (.if_icmp .ge 7, 3) := by decide +kernel
theorem dX7_isClauseLetter_127 : decode cX7_isClauseLetter 127 = .ok (.iconst 1, 1) := by decide +kernel
theorem dX7_isClauseLetter_128 : decode cX7_isClauseLetter 128 = .ok (.goto 4, 3) := by decide +kernel
theorem dX7_isClauseLetter_131 : decode cX7_isClauseLetter 131 = .ok (.iconst 0, 1) := by decide +kernel
theorem dX7_isClauseLetter_132 : decode cX7_isClauseLetter 132 = .ok (.ireturn, 1) := by decide +kernel
set_option maxRecDepth 20000 in
theorem ggX7_faultOf_X7_isClauseLetter : GoodIn wsX7_faultOf wsX7_isClauseLetter := goodIn_r _ [10, 3, 11, 12, 4, 1, 13, 14, 9, 15, 16, 17, 18, 19, 20, 21, 22, 23, 24, 25, 26, 27, 28, 29, 30, 31, 32, 33, 34, 35, 36, 37, 38, 39, 40, 41, 42, 43, 44, 45, 46, 47] (by decide +kernel) (by decide +kernel)
set_option maxRecDepth 20000 in
theorem gX7_faultOf_X7_isClauseLetter : GoodIn wsX7_faultOf (wsV RX7 78 RX7 yX7_isClauseLetter wsX7_isClauseLetter) := goodIn_app (goodIn_of _ (by decide +kernel)) ggX7_faultOf_X7_isClauseLetter
set_option maxRecDepth 20000 in
theorem ggX7_faultOf_X7_in : GoodIn wsX7_faultOf wsX7_in := goodIn_r _ [18] (by decide +kernel) (by decide +kernel)
set_option maxRecDepth 20000 in
theorem gX7_faultOf_X7_in : GoodIn wsX7_faultOf (va_wsS RX7 58 yX7_in wsX7_in) := goodIn_app (goodIn_of _ (by decide +kernel)) ggX7_faultOf_X7_in
theorem dX7_faultOf_0 : decode cX7_faultOf 0 = .ok (.aload_n 0, 1) := by decide +kernel
theorem dX7_faultOf_1 : decode cX7_faultOf 1 = .ok (.iconst 0, 1) := by decide +kernel
theorem dX7_faultOf_2 : decode cX7_faultOf 2 = .ok (.putfield 75, 3) := by decide +kernel
theorem dX7_faultOf_5 : decode cX7_faultOf 5 = .ok (.iconst 0, 1) := by decide +kernel
theorem dX7_faultOf_6 : decode cX7_faultOf 6 = .ok (.istore_n 1, 1) := by decide +kernel
theorem dX7_faultOf_7 : decode cX7_faultOf 7 = .ok (.iload_n 1, 1) := by decide +kernel
theorem dX7_faultOf_8 : decode cX7_faultOf 8 = .ok (.aload_n 0, 1) := by decide +kernel
theorem dX7_faultOf_9 : decode cX7_faultOf 9 = .ok (.getfield 62, 3) := by decide +kernel
theorem dX7_faultOf_12 : decode cX7_faultOf 12 = .ok (.if_icmp .ge 57, 3) := by decide +kernel
theorem dX7_faultOf_15 : decode cX7_faultOf 15 = .ok (.aload_n 0, 1) := by decide +kernel
theorem dX7_faultOf_16 : decode cX7_faultOf 16 = .ok (.getfield 75, 3) := by decide +kernel
theorem dX7_faultOf_19 : decode cX7_faultOf 19 = .ok (.ifCond .ne 14, 3) := by decide +kernel
theorem dX7_faultOf_22 : decode cX7_faultOf 22 = .ok (.aload_n 0, 1) := by decide +kernel
theorem dX7_faultOf_23 : decode cX7_faultOf 23 = .ok (.iload_n 1, 1) := by decide +kernel
theorem dX7_faultOf_24 : decode cX7_faultOf 24 = .ok (.invokevirtual 78, 3) := by decide +kernel
theorem dX7_faultOf_27 : decode cX7_faultOf 27 = .ok (.ifCond .eq 42, 3) := by decide +kernel
theorem dX7_faultOf_30 : decode cX7_faultOf 30 = .ok (.goto 33, 3) := by decide +kernel
theorem dX7_faultOf_33 : decode cX7_faultOf 33 = .ok (.iload_n 1, 1) := by decide +kernel
theorem dX7_faultOf_34 : decode cX7_faultOf 34 = .ok (.aload_n 0, 1) := by decide +kernel
theorem dX7_faultOf_35 : decode cX7_faultOf 35 = .ok (.getfield 75, 3) := by decide +kernel
theorem dX7_faultOf_38 : decode cX7_faultOf 38 = .ok (.bipush 8, 2) := by decide +kernel
theorem dX7_faultOf_40 : decode cX7_faultOf 40 = .ok (.iadd, 1) := by decide +kernel
theorem dX7_faultOf_41 : decode cX7_faultOf 41 = .ok (.if_icmp .gt 28, 3) := by decide +kernel
theorem dX7_faultOf_44 : decode cX7_faultOf 44 = .ok (.aload_n 0, 1) := by decide +kernel
theorem dX7_faultOf_45 : decode cX7_faultOf 45 = .ok (.getfield 7, 3) := by decide +kernel
theorem dX7_faultOf_48 : decode cX7_faultOf 48 = .ok (.iload_n 1, 1) := by decide +kernel
theorem dX7_faultOf_49 : decode cX7_faultOf 49 = .ok (.iaload, 1) := by decide +kernel
theorem dX7_faultOf_50 : decode cX7_faultOf 50 = .ok (.i2l, 1) := by decide +kernel
theorem dX7_faultOf_51 : decode cX7_faultOf 51 = .ok (.ldc2_w 73, 3) := by decide +kernel
theorem dX7_faultOf_54 : decode cX7_faultOf 54 = .ok (.ldc2_w 82, 3) := by decide +kernel
theorem dX7_faultOf_57 : decode cX7_faultOf 57 = .ok (.invokestatic 58, 3) := by decide +kernel
theorem dX7_faultOf_60 : decode cX7_faultOf 60 = .ok (.ifCond .eq 9, 3) := by decide +kernel
theorem dX7_faultOf_63 : decode cX7_faultOf 63 = .ok (.iinc 1 1, 3) := by decide +kernel
theorem dX7_faultOf_66 : decode cX7_faultOf 66 = .ok (.goto (-59), 3) := by decide +kernel
theorem dX7_faultOf_69 : decode cX7_faultOf 69 = .ok (.iload_n 1, 1) := by decide +kernel
theorem dX7_faultOf_70 : decode cX7_faultOf 70 = .ok (.ireturn, 1) := by decide +kernel
set_option maxRecDepth 20000 in
theorem ggX7_fault_X7_faultOf : GoodIn wsX7_fault wsX7_faultOf := goodIn_r _ [5, 6, 7, 8, 9, 10, 11, 12, 13, 4, 14, 15, 16, 17, 18, 19, 20, 21, 22, 23, 24, 25, 26, 27, 28, 29, 30, 31, 32, 33, 34, 35, 36, 37, 38, 39, 40, 41, 42, 43, 44, 45, 46, 47, 48, 49, 50, 51] (by decide +kernel) (by decide +kernel)
set_option maxRecDepth 20000 in
theorem gX7_fault_X7_faultOf : GoodIn wsX7_fault (wsV RX7 84 RX7 yX7_faultOf wsX7_faultOf) := goodIn_app (goodIn_of _ (by decide +kernel)) ggX7_fault_X7_faultOf
theorem dX7_fault_0 : decode cX7_fault 0 = .ok (.aload_n 0, 1) := by decide +kernel
theorem dX7_fault_1 : decode cX7_fault 1 = .ok (.invokevirtual 84, 3) := by decide +kernel
theorem dX7_fault_4 : decode cX7_fault 4 = .ok (.ireturn, 1) := by decide +kernel
set_option maxRecDepth 20000 in
theorem ggX7_wall_X7_faultOf : GoodIn wsX7_wall wsX7_faultOf := goodIn_r _ [19, 2, 1, 6, 20, 21, 22, 23, 24, 18, 25, 26, 27, 28, 29, 30, 31, 32, 33, 34, 35, 36, 37, 38, 39, 40, 41, 42, 43, 44, 45, 46, 47, 48, 49, 50, 51, 52, 53, 54, 55, 56, 57, 58, 59, 60, 61, 62] (by decide +kernel) (by decide +kernel)
set_option maxRecDepth 20000 in
theorem gX7_wall_X7_faultOf : GoodIn wsX7_wall (wsV RX7 84 RX7 yX7_faultOf wsX7_faultOf) := goodIn_app (goodIn_of _ (by decide +kernel)) ggX7_wall_X7_faultOf
set_option maxRecDepth 20000 in
theorem ggX7_wall_X7_kindBy : GoodIn wsX7_wall wsX7_kindBy := goodIn_r _ [30] (by decide +kernel) (by decide +kernel)
set_option maxRecDepth 20000 in
theorem gX7_wall_X7_kindBy : GoodIn wsX7_wall (va_wsS RX7 65 yX7_kindBy wsX7_kindBy) := goodIn_app (goodIn_of _ (by decide +kernel)) ggX7_wall_X7_kindBy
theorem dX7_wall_0 : decode cX7_wall 0 = .ok (.aload_n 0, 1) := by decide +kernel
theorem dX7_wall_1 : decode cX7_wall 1 = .ok (.invokevirtual 84, 3) := by decide +kernel
theorem dX7_wall_4 : decode cX7_wall 4 = .ok (.istore_n 1, 1) := by decide +kernel
theorem dX7_wall_5 : decode cX7_wall 5 = .ok (.iload_n 1, 1) := by decide +kernel
theorem dX7_wall_6 : decode cX7_wall 6 = .ok (.aload_n 0, 1) := by decide +kernel
theorem dX7_wall_7 : decode cX7_wall 7 = .ok (.getfield 62, 3) := by decide +kernel
theorem dX7_wall_10 : decode cX7_wall 10 = .ok (.if_icmp .lt 23, 3) := by decide +kernel
theorem dX7_wall_13 : decode cX7_wall 13 = .ok (.aload_n 0, 1) := by decide +kernel
theorem dX7_wall_14 : decode cX7_wall 14 = .ok (.getfield 75, 3) := by decide +kernel
theorem dX7_wall_17 : decode cX7_wall 17 = .ok (.ifCond .eq 16, 3) := by decide +kernel
theorem dX7_wall_20 : decode cX7_wall 20 = .ok (.aload_n 0, 1) := by decide +kernel
theorem dX7_wall_21 : decode cX7_wall 21 = .ok (.getfield 62, 3) := by decide +kernel
theorem dX7_wall_24 : decode cX7_wall 24 = .ok (.aload_n 0, 1) := by decide +kernel
theorem dX7_wall_25 : decode cX7_wall 25 = .ok (.getfield 75, 3) := by decide +kernel
theorem dX7_wall_28 : decode cX7_wall 28 = .ok (.iconst 1, 1) := by decide +kernel
theorem dX7_wall_29 : decode cX7_wall 29 = .ok (.iadd, 1) := by decide +kernel
theorem dX7_wall_30 : decode cX7_wall 30 = .ok (.if_icmp .ne 6, 3) := by decide +kernel
theorem dX7_wall_33 : decode cX7_wall 33 = .ok (.bipush (-103), 2) := by decide +kernel
theorem dX7_wall_35 : decode cX7_wall 35 = .ok (.ireturn, 1) := by decide +kernel
theorem dX7_wall_36 : decode cX7_wall 36 = .ok (.aload_n 0, 1) := by decide +kernel
theorem dX7_wall_37 : decode cX7_wall 37 = .ok (.aload_n 0, 1) := by decide +kernel
theorem dX7_wall_38 : decode cX7_wall 38 = .ok (.getfield 75, 3) := by decide +kernel
theorem dX7_wall_41 : decode cX7_wall 41 = .ok (.iconst 1, 1) := by decide +kernel
theorem dX7_wall_42 : decode cX7_wall 42 = .ok (.iadd, 1) := by decide +kernel
theorem dX7_wall_43 : decode cX7_wall 43 = .ok (.iconst 4, 1) := by decide +kernel
theorem dX7_wall_44 : decode cX7_wall 44 = .ok (.idiv, 1) := by decide +kernel
theorem dX7_wall_45 : decode cX7_wall 45 = .ok (.putfield 88, 3) := by decide +kernel
theorem dX7_wall_48 : decode cX7_wall 48 = .ok (.aload_n 0, 1) := by decide +kernel
theorem dX7_wall_49 : decode cX7_wall 49 = .ok (.aload_n 0, 1) := by decide +kernel
theorem dX7_wall_50 : decode cX7_wall 50 = .ok (.getfield 62, 3) := by decide +kernel
theorem dX7_wall_53 : decode cX7_wall 53 = .ok (.aload_n 0, 1) := by decide +kernel
theorem dX7_wall_54 : decode cX7_wall 54 = .ok (.getfield 75, 3) := by decide +kernel
theorem dX7_wall_57 : decode cX7_wall 57 = .ok (.isub, 1) := by decide +kernel
theorem dX7_wall_58 : decode cX7_wall 58 = .ok (.iconst 1, 1) := by decide +kernel
theorem dX7_wall_59 : decode cX7_wall 59 = .ok (.isub, 1) := by decide +kernel
theorem dX7_wall_60 : decode cX7_wall 60 = .ok (.putfield 91, 3) := by decide +kernel
theorem dX7_wall_63 : decode cX7_wall 63 = .ok (.iconst 0, 1) := by decide +kernel
theorem dX7_wall_64 : decode cX7_wall 64 = .ok (.istore_n 2, 1) := by decide +kernel
theorem dX7_wall_65 : decode cX7_wall 65 = .ok (.iload_n 2, 1) := by decide +kernel
theorem dX7_wall_66 : decode cX7_wall 66 = .ok (.aload_n 0, 1) := by decide +kernel
theorem dX7_wall_67 : decode cX7_wall 67 = .ok (.getfield 88, 3) := by decide +kernel
theorem dX7_wall_70 : decode cX7_wall 70 = .ok (.if_icmp .ge 90, 3) := by decide +kernel
theorem dX7_wall_73 : decode cX7_wall 73 = .ok (.aload_n 0, 1) := by decide +kernel
theorem dX7_wall_74 : decode cX7_wall 74 = .ok (.getfield 13, 3) := by decide +kernel
theorem dX7_wall_77 : decode cX7_wall 77 = .ok (.iload_n 2, 1) := by decide +kernel
theorem dX7_wall_78 : decode cX7_wall 78 = .ok (.aload_n 0, 1) := by decide +kernel
theorem dX7_wall_79 : decode cX7_wall 79 = .ok (.getfield 7, 3) := by decide +kernel
theorem dX7_wall_82 : decode cX7_wall 82 = .ok (.iconst 4, 1) := by decide +kernel
theorem dX7_wall_83 : decode cX7_wall 83 = .ok (.iload_n 2, 1) := by decide +kernel
theorem dX7_wall_84 : decode cX7_wall 84 = .ok (.imul, 1) := by decide +kernel
theorem dX7_wall_85 : decode cX7_wall 85 = .ok (.iaload, 1) := by decide +kernel
theorem dX7_wall_86 : decode cX7_wall 86 = .ok (.invokestatic 65, 3) := by decide +kernel
theorem dX7_wall_89 : decode cX7_wall 89 = .ok (.iastore, 1) := by decide +kernel
theorem dX7_wall_90 : decode cX7_wall 90 = .ok (.aload_n 0, 1) := by decide +kernel
theorem dX7_wall_91 : decode cX7_wall 91 = .ok (.getfield 16, 3) := by decide +kernel
theorem dX7_wall_94 : decode cX7_wall 94 = .ok (.iload_n 2, 1) := by decide +kernel
theorem dX7_wall_95 : decode cX7_wall 95 = .ok (.aload_n 0, 1) := by decide +kernel
theorem dX7_wall_96 : decode cX7_wall 96 = .ok (.getfield 7, 3) := by decide +kernel
theorem dX7_wall_99 : decode cX7_wall 99 = .ok (.iconst 4, 1) := by decide +kernel
theorem dX7_wall_100 : decode cX7_wall 100 = .ok (.iload_n 2, 1) := by decide +kernel
theorem dX7_wall_101 : decode cX7_wall 101 = .ok (.imul, 1) := by decide +kernel
theorem dX7_wall_102 : decode cX7_wall 102 = .ok (.iconst 1, 1) := by decide +kernel
theorem dX7_wall_103 : decode cX7_wall 103 = .ok (.iadd, 1) := by decide +kernel
theorem dX7_wall_104 : decode cX7_wall 104 = .ok (.iaload, 1) := by decide +kernel
theorem dX7_wall_105 : decode cX7_wall 105 = .ok (.bipush 48, 2) := by decide +kernel
theorem dX7_wall_107 : decode cX7_wall 107 = .ok (.isub, 1) := by decide +kernel
theorem dX7_wall_108 : decode cX7_wall 108 = .ok (.iastore, 1) := by decide +kernel
theorem dX7_wall_109 : decode cX7_wall 109 = .ok (.aload_n 0, 1) := by decide +kernel
theorem dX7_wall_110 : decode cX7_wall 110 = .ok (.getfield 19, 3) := by decide +kernel
theorem dX7_wall_113 : decode cX7_wall 113 = .ok (.iload_n 2, 1) := by decide +kernel
theorem dX7_wall_114 : decode cX7_wall 114 = .ok (.aload_n 0, 1) := by decide +kernel
theorem dX7_wall_115 : decode cX7_wall 115 = .ok (.getfield 7, 3) := by decide +kernel
theorem dX7_wall_118 : decode cX7_wall 118 = .ok (.iconst 4, 1) := by decide +kernel
theorem dX7_wall_119 : decode cX7_wall 119 = .ok (.iload_n 2, 1) := by decide +kernel
