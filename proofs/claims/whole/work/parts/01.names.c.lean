theorem dX2_copyClauses_51 : decode cX2_copyClauses 51 = .ok (.iadd, 1) := by decide +kernel
theorem dX2_copyClauses_52 : decode cX2_copyClauses 52 = .ok (.invokevirtual 36, 3) := by decide +kernel
theorem dX2_copyClauses_55 : decode cX2_copyClauses 55 = .ok (.bipush 48, 2) := by decide +kernel
theorem dX2_copyClauses_57 : decode cX2_copyClauses 57 = .ok (.isub, 1) := by decide +kernel
theorem dX2_copyClauses_58 : decode cX2_copyClauses 58 = .ok (.istore 5, 2) := by decide +kernel
theorem dX2_copyClauses_60 : decode cX2_copyClauses 60 = .ok (.aload_n 1, 1) := by decide +kernel
theorem dX2_copyClauses_61 : decode cX2_copyClauses 61 = .ok (.iload 4, 2) := by decide +kernel
theorem dX2_copyClauses_63 : decode cX2_copyClauses 63 = .ok (.aload_n 0, 1) := by decide +kernel
theorem dX2_copyClauses_64 : decode cX2_copyClauses 64 = .ok (.iload_n 3, 1) := by decide +kernel
theorem dX2_copyClauses_65 : decode cX2_copyClauses 65 = .ok (.iconst 1, 1) := by decide +kernel
theorem dX2_copyClauses_66 : decode cX2_copyClauses 66 = .ok (.iadd, 1) := by decide +kernel
theorem dX2_copyClauses_67 : decode cX2_copyClauses 67 = .ok (.invokevirtual 36, 3) := by decide +kernel
theorem dX2_copyClauses_70 : decode cX2_copyClauses 70 = .ok (.bipush 48, 2) := by decide +kernel
theorem dX2_copyClauses_72 : decode cX2_copyClauses 72 = .ok (.isub, 1) := by decide +kernel
theorem dX2_copyClauses_73 : decode cX2_copyClauses 73 = .ok (.iload 5, 2) := by decide +kernel
theorem dX2_copyClauses_75 : decode cX2_copyClauses 75 = .ok (.invokevirtual 45, 3) := by decide +kernel
theorem dX2_copyClauses_78 : decode cX2_copyClauses 78 = .ok (.iinc 3 4, 3) := by decide +kernel
theorem dX2_copyClauses_81 : decode cX2_copyClauses 81 = .ok (.goto (-69), 3) := by decide +kernel
theorem dX2_copyClauses_84 : decode cX2_copyClauses 84 = .ok (.return_, 1) := by decide +kernel
set_option maxRecDepth 20000 in
theorem ggX2_copyRain_X2_rainPlace : GoodIn wsX2_copyRain wsX2_rainPlace := goodIn_r _ [6, 1, 7, 19, 20] (by decide +kernel) (by decide +kernel)
set_option maxRecDepth 20000 in
theorem gX2_copyRain_X2_rainPlace : GoodIn wsX2_copyRain (wsV RX2 19 RX2 yX2_rainPlace wsX2_rainPlace) := goodIn_app (goodIn_of _ (by decide +kernel)) ggX2_copyRain_X2_rainPlace
set_option maxRecDepth 20000 in
theorem ggX2_copyRain_X2_codeAt : GoodIn wsX2_copyRain wsX2_codeAt := goodIn_r _ [11, 1, 7, 19, 20] (by decide +kernel) (by decide +kernel)
set_option maxRecDepth 20000 in
theorem gX2_copyRain_X2_codeAt : GoodIn wsX2_copyRain (wsV RX2 36 RX2 yX2_codeAt wsX2_codeAt) := goodIn_app (goodIn_of _ (by decide +kernel)) ggX2_copyRain_X2_codeAt
set_option maxRecDepth 20000 in
theorem ggX2_copyRain_X5_add : GoodIn wsX2_copyRain wsX5_add := goodIn_r _ [16, 17, 18, 21, 22, 23] (by decide +kernel) (by decide +kernel)
set_option maxRecDepth 20000 in
theorem gX2_copyRain_X5_add : GoodIn wsX2_copyRain (wsV RX2 51 RX5 yX5_add wsX5_add) := goodIn_app (goodIn_of _ (by decide +kernel)) ggX2_copyRain_X5_add
theorem dX2_copyRain_0 : decode cX2_copyRain 0 = .ok (.aload_n 1, 1) := by decide +kernel
theorem dX2_copyRain_1 : decode cX2_copyRain 1 = .ok (.ifnonnull 4, 3) := by decide +kernel
theorem dX2_copyRain_4 : decode cX2_copyRain 4 = .ok (.return_, 1) := by decide +kernel
theorem dX2_copyRain_5 : decode cX2_copyRain 5 = .ok (.aload_n 0, 1) := by decide +kernel
theorem dX2_copyRain_6 : decode cX2_copyRain 6 = .ok (.invokevirtual 19, 3) := by decide +kernel
theorem dX2_copyRain_9 : decode cX2_copyRain 9 = .ok (.istore_n 2, 1) := by decide +kernel
theorem dX2_copyRain_10 : decode cX2_copyRain 10 = .ok (.iload_n 2, 1) := by decide +kernel
theorem dX2_copyRain_11 : decode cX2_copyRain 11 = .ok (.aload_n 0, 1) := by decide +kernel
theorem dX2_copyRain_12 : decode cX2_copyRain 12 = .ok (.getfield 15, 3) := by decide +kernel
theorem dX2_copyRain_15 : decode cX2_copyRain 15 = .ok (.if_icmp .ge 21, 3) := by decide +kernel
theorem dX2_copyRain_18 : decode cX2_copyRain 18 = .ok (.aload_n 1, 1) := by decide +kernel
theorem dX2_copyRain_19 : decode cX2_copyRain 19 = .ok (.aload_n 0, 1) := by decide +kernel
theorem dX2_copyRain_20 : decode cX2_copyRain 20 = .ok (.iload_n 2, 1) := by decide +kernel
theorem dX2_copyRain_21 : decode cX2_copyRain 21 = .ok (.invokevirtual 36, 3) := by decide +kernel
theorem dX2_copyRain_24 : decode cX2_copyRain 24 = .ok (.bipush 48, 2) := by decide +kernel
theorem dX2_copyRain_26 : decode cX2_copyRain 26 = .ok (.isub, 1) := by decide +kernel
theorem dX2_copyRain_27 : decode cX2_copyRain 27 = .ok (.invokevirtual 51, 3) := by decide +kernel
theorem dX2_copyRain_30 : decode cX2_copyRain 30 = .ok (.iinc 2 1, 3) := by decide +kernel
theorem dX2_copyRain_33 : decode cX2_copyRain 33 = .ok (.goto (-23), 3) := by decide +kernel
theorem dX2_copyRain_36 : decode cX2_copyRain 36 = .ok (.return_, 1) := by decide +kernel
theorem dX2_rainPlace_0 : decode cX2_rainPlace 0 = .ok (.iconst 0, 1) := by decide +kernel
theorem dX2_rainPlace_1 : decode cX2_rainPlace 1 = .ok (.istore_n 1, 1) := by decide +kernel
theorem dX2_rainPlace_2 : decode cX2_rainPlace 2 = .ok (.iload_n 1, 1) := by decide +kernel
theorem dX2_rainPlace_3 : decode cX2_rainPlace 3 = .ok (.aload_n 0, 1) := by decide +kernel
theorem dX2_rainPlace_4 : decode cX2_rainPlace 4 = .ok (.getfield 15, 3) := by decide +kernel
theorem dX2_rainPlace_7 : decode cX2_rainPlace 7 = .ok (.if_icmp .ge 24, 3) := by decide +kernel
theorem dX2_rainPlace_10 : decode cX2_rainPlace 10 = .ok (.aload_n 0, 1) := by decide +kernel
theorem dX2_rainPlace_11 : decode cX2_rainPlace 11 = .ok (.getfield 9, 3) := by decide +kernel
theorem dX2_rainPlace_14 : decode cX2_rainPlace 14 = .ok (.iload_n 1, 1) := by decide +kernel
theorem dX2_rainPlace_15 : decode cX2_rainPlace 15 = .ok (.iaload, 1) := by decide +kernel
theorem dX2_rainPlace_16 : decode cX2_rainPlace 16 = .ok (.bipush 59, 2) := by decide +kernel
theorem dX2_rainPlace_18 : decode cX2_rainPlace 18 = .ok (.if_icmp .ne 7, 3) := by decide +kernel
theorem dX2_rainPlace_21 : decode cX2_rainPlace 21 = .ok (.iload_n 1, 1) := by decide +kernel
theorem dX2_rainPlace_22 : decode cX2_rainPlace 22 = .ok (.iconst 1, 1) := by decide +kernel
theorem dX2_rainPlace_23 : decode cX2_rainPlace 23 = .ok (.iadd, 1) := by decide +kernel
theorem dX2_rainPlace_24 : decode cX2_rainPlace 24 = .ok (.ireturn, 1) := by decide +kernel
theorem dX2_rainPlace_25 : decode cX2_rainPlace 25 = .ok (.iinc 1 1, 3) := by decide +kernel
theorem dX2_rainPlace_28 : decode cX2_rainPlace 28 = .ok (.goto (-26), 3) := by decide +kernel
theorem dX2_rainPlace_31 : decode cX2_rainPlace 31 = .ok (.aload_n 0, 1) := by decide +kernel
theorem dX2_rainPlace_32 : decode cX2_rainPlace 32 = .ok (.getfield 15, 3) := by decide +kernel
theorem dX2_rainPlace_35 : decode cX2_rainPlace 35 = .ok (.ireturn, 1) := by decide +kernel
set_option maxRecDepth 20000 in
theorem ggX2_fitsClause_J0_indexOf_0f7a4 : GoodIn wsX2_fitsClause wsJ0_indexOf_0f7a4 := goodIn_r _ [5, 6, 7, 8, 4, 9, 10, 11, 12, 13, 14, 15, 16, 17, 18, 19, 20, 21, 22, 23, 24, 25, 26, 27, 28, 29, 30, 31, 32, 33, 34, 35, 36, 37, 38, 39, 40, 41, 42, 43, 44, 45, 46, 47, 48, 49, 50, 51, 52, 53, 54, 55, 56, 57, 58, 59, 60, 61, 62, 63, 64, 65, 66, 67, 68, 69, 70, 71, 72, 73, 74, 75, 76, 77, 78, 79, 80, 81, 82, 83, 84, 85, 86, 87, 88, 89] (by decide +kernel) (by decide +kernel)
set_option maxRecDepth 20000 in
theorem gX2_fitsClause_J0_indexOf_0f7a4 : GoodIn wsX2_fitsClause (wsV RX2 40 RJ0 yJ0_indexOf_0f7a4 wsJ0_indexOf_0f7a4) := goodIn_app (goodIn_of _ (by decide +kernel)) ggX2_fitsClause_J0_indexOf_0f7a4
theorem dX2_fitsClause_0 : decode cX2_fitsClause 0 = .ok (.iload_n 0, 1) := by decide +kernel
theorem dX2_fitsClause_1 : decode cX2_fitsClause 1 = .ok (.bipush 6, 2) := by decide +kernel
theorem dX2_fitsClause_3 : decode cX2_fitsClause 3 = .ok (.if_icmp .lt 5, 3) := by decide +kernel
theorem dX2_fitsClause_6 : decode cX2_fitsClause 6 = .ok (.iconst 0, 1) := by decide +kernel
theorem dX2_fitsClause_7 : decode cX2_fitsClause 7 = .ok (.ireturn, 1) := by decide +kernel
theorem dX2_fitsClause_8 : decode cX2_fitsClause 8 = .ok (.iload_n 1, 1) := by decide +kernel
theorem dX2_fitsClause_9 : decode cX2_fitsClause 9 = .ok (.tableswitch 87 0 2 #[27, 43, 61], 27) := by decide +kernel
theorem dX2_fitsClause_36 : decode cX2_fitsClause 36 = .ok (.ldc 34, 2) := by decide +kernel
theorem dX2_fitsClause_38 : decode cX2_fitsClause 38 = .ok (.iload_n 2, 1) := by decide +kernel
theorem dX2_fitsClause_39 : decode cX2_fitsClause 39 = .ok (.i2c, 1) := by decide +kernel
theorem dX2_fitsClause_40 : decode cX2_fitsClause 40 = .ok (.invokevirtual 40, 3) := by decide +kernel
theorem dX2_fitsClause_43 : decode cX2_fitsClause 43 = .ok (.ifCond .lt 7, 3) := by decide +kernel
theorem dX2_fitsClause_46 : decode cX2_fitsClause 46 = .ok (.iconst 1, 1) := by decide +kernel
theorem dX2_fitsClause_47 : decode cX2_fitsClause 47 = .ok (.goto 4, 3) := by decide +kernel
theorem dX2_fitsClause_50 : decode cX2_fitsClause 50 = .ok (.iconst 0, 1) := by decide +kernel
theorem dX2_fitsClause_51 : decode cX2_fitsClause 51 = .ok (.ireturn, 1) := by decide +kernel
theorem dX2_fitsClause_52 : decode cX2_fitsClause 52 = .ok (.iload_n 2, 1) := by decide +kernel
theorem dX2_fitsClause_53 : decode cX2_fitsClause 53 = .ok (.bipush 49, 2) := by decide +kernel
theorem dX2_fitsClause_55 : decode cX2_fitsClause 55 = .ok (.if_icmp .lt 13, 3) := by decide +kernel
theorem dX2_fitsClause_58 : decode cX2_fitsClause 58 = .ok (.iload_n 2, 1) := by decide +kernel
theorem dX2_fitsClause_59 : decode cX2_fitsClause 59 = .ok (.bipush 57, 2) := by decide +kernel
theorem dX2_fitsClause_61 : decode cX2_fitsClause 61 = .ok (.if_icmp .gt 7, 3) := by decide +kernel
theorem dX2_fitsClause_64 : decode cX2_fitsClause 64 = .ok (.iconst 1, 1) := by decide +kernel
theorem dX2_fitsClause_65 : decode cX2_fitsClause 65 = .ok (.goto 4, 3) := by decide +kernel
theorem dX2_fitsClause_68 : decode cX2_fitsClause 68 = .ok (.iconst 0, 1) := by decide +kernel
theorem dX2_fitsClause_69 : decode cX2_fitsClause 69 = .ok (.ireturn, 1) := by decide +kernel
theorem dX2_fitsClause_70 : decode cX2_fitsClause 70 = .ok (.iload_n 2, 1) := by decide +kernel
theorem dX2_fitsClause_71 : decode cX2_fitsClause 71 = .ok (.bipush 45, 2) := by decide +kernel
theorem dX2_fitsClause_73 : decode cX2_fitsClause 73 = .ok (.if_icmp .eq 17, 3) := by decide +kernel
theorem dX2_fitsClause_76 : decode cX2_fitsClause 76 = .ok (.iload_n 2, 1) := by decide +kernel
theorem dX2_fitsClause_77 : decode cX2_fitsClause 77 = .ok (.bipush 48, 2) := by decide +kernel
theorem dX2_fitsClause_79 : decode cX2_fitsClause 79 = .ok (.if_icmp .lt 15, 3) := by decide +kernel
theorem dX2_fitsClause_82 : decode cX2_fitsClause 82 = .ok (.iload_n 2, 1) := by decide +kernel
theorem dX2_fitsClause_83 : decode cX2_fitsClause 83 = .ok (.bipush 48, 2) := by decide +kernel
theorem dX2_fitsClause_85 : decode cX2_fitsClause 85 = .ok (.iload_n 0, 1) := by decide +kernel
theorem dX2_fitsClause_86 : decode cX2_fitsClause 86 = .ok (.iadd, 1) := by decide +kernel
theorem dX2_fitsClause_87 : decode cX2_fitsClause 87 = .ok (.if_icmp .ge 7, 3) := by decide +kernel
theorem dX2_fitsClause_90 : decode cX2_fitsClause 90 = .ok (.iconst 1, 1) := by decide +kernel
theorem dX2_fitsClause_91 : decode cX2_fitsClause 91 = .ok (.goto 4, 3) := by decide +kernel
theorem dX2_fitsClause_94 : decode cX2_fitsClause 94 = .ok (.iconst 0, 1) := by decide +kernel
theorem dX2_fitsClause_95 : decode cX2_fitsClause 95 = .ok (.ireturn, 1) := by decide +kernel
theorem dX2_fitsClause_96 : decode cX2_fitsClause 96 = .ok (.iload_n 2, 1) := by decide +kernel
theorem dX2_fitsClause_97 : decode cX2_fitsClause 97 = .ok (.bipush 59, 2) := by decide +kernel
theorem dX2_fitsClause_99 : decode cX2_fitsClause 99 = .ok (.if_icmp .eq 14, 3) := by decide +kernel
theorem dX2_fitsClause_102 : decode cX2_fitsClause 102 = .ok (.iload_n 2, 1) := by decide +kernel
theorem dX2_fitsClause_103 : decode cX2_fitsClause 103 = .ok (.bipush 44, 2) := by decide +kernel
theorem dX2_fitsClause_105 : decode cX2_fitsClause 105 = .ok (.if_icmp .ne 12, 3) := by decide +kernel
theorem dX2_fitsClause_108 : decode cX2_fitsClause 108 = .ok (.iload_n 0, 1) := by decide +kernel
theorem dX2_fitsClause_109 : decode cX2_fitsClause 109 = .ok (.iconst 5, 1) := by decide +kernel
theorem dX2_fitsClause_110 : decode cX2_fitsClause 110 = .ok (.if_icmp .ge 7, 3) := by decide +kernel
theorem dX2_fitsClause_113 : decode cX2_fitsClause 113 = .ok (.iconst 1, 1) := by decide +kernel
theorem dX2_fitsClause_114 : decode cX2_fitsClause 114 = .ok (.goto 4, 3) := by decide +kernel
theorem dX2_fitsClause_117 : decode cX2_fitsClause 117 = .ok (.iconst 0, 1) := by decide +kernel
theorem dX2_fitsClause_118 : decode cX2_fitsClause 118 = .ok (.ireturn, 1) := by decide +kernel
theorem dX2_fitsRain_0 : decode cX2_fitsRain 0 = .ok (.iload_n 0, 1) := by decide +kernel
theorem dX2_fitsRain_1 : decode cX2_fitsRain 1 = .ok (.bipush 8, 2) := by decide +kernel
theorem dX2_fitsRain_3 : decode cX2_fitsRain 3 = .ok (.if_icmp .ge 19, 3) := by decide +kernel
theorem dX2_fitsRain_6 : decode cX2_fitsRain 6 = .ok (.iload_n 1, 1) := by decide +kernel
theorem dX2_fitsRain_7 : decode cX2_fitsRain 7 = .ok (.bipush 48, 2) := by decide +kernel
theorem dX2_fitsRain_9 : decode cX2_fitsRain 9 = .ok (.if_icmp .lt 13, 3) := by decide +kernel
theorem dX2_fitsRain_12 : decode cX2_fitsRain 12 = .ok (.iload_n 1, 1) := by decide +kernel
theorem dX2_fitsRain_13 : decode cX2_fitsRain 13 = .ok (.bipush 51, 2) := by decide +kernel
theorem dX2_fitsRain_15 : decode cX2_fitsRain 15 = .ok (.if_icmp .gt 7, 3) := by decide +kernel
theorem dX2_fitsRain_18 : decode cX2_fitsRain 18 = .ok (.iconst 1, 1) := by decide +kernel
theorem dX2_fitsRain_19 : decode cX2_fitsRain 19 = .ok (.goto 4, 3) := by decide +kernel
theorem dX2_fitsRain_22 : decode cX2_fitsRain 22 = .ok (.iconst 0, 1) := by decide +kernel
theorem dX2_fitsRain_23 : decode cX2_fitsRain 23 = .ok (.ireturn, 1) := by decide +kernel
theorem dX3_init_0 : decode cX3_init 0 = .ok (.aload_n 0, 1) := by decide +kernel
theorem dX3_init_1 : decode cX3_init 1 = .ok (.invokespecial 3, 3) := by decide +kernel
theorem dX3_init_4 : decode cX3_init 4 = .ok (.aload_n 0, 1) := by decide +kernel
theorem dX3_init_5 : decode cX3_init 5 = .ok (.bipush 6, 2) := by decide +kernel
theorem dX3_init_7 : decode cX3_init 7 = .ok (.newarray .int, 2) := by decide +kernel
theorem dX3_init_9 : decode cX3_init 9 = .ok (.putfield 9, 3) := by decide +kernel
theorem dX3_init_12 : decode cX3_init 12 = .ok (.aload_n 0, 1) := by decide +kernel
theorem dX3_init_13 : decode cX3_init 13 = .ok (.bipush 6, 2) := by decide +kernel
theorem dX3_init_15 : decode cX3_init 15 = .ok (.newarray .int, 2) := by decide +kernel
theorem dX3_init_17 : decode cX3_init 17 = .ok (.putfield 15, 3) := by decide +kernel
theorem dX3_init_20 : decode cX3_init 20 = .ok (.aload_n 0, 1) := by decide +kernel
theorem dX3_init_21 : decode cX3_init 21 = .ok (.bipush 6, 2) := by decide +kernel
theorem dX3_init_23 : decode cX3_init 23 = .ok (.newarray .int, 2) := by decide +kernel
theorem dX3_init_25 : decode cX3_init 25 = .ok (.putfield 18, 3) := by decide +kernel
theorem dX3_init_28 : decode cX3_init 28 = .ok (.aload_n 0, 1) := by decide +kernel
theorem dX3_init_29 : decode cX3_init 29 = .ok (.iconst 0, 1) := by decide +kernel
theorem dX3_init_30 : decode cX3_init 30 = .ok (.putfield 21, 3) := by decide +kernel
theorem dX3_init_33 : decode cX3_init 33 = .ok (.return_, 1) := by decide +kernel
theorem dX3_size_0 : decode cX3_size 0 = .ok (.aload_n 0, 1) := by decide +kernel
theorem dX3_size_1 : decode cX3_size 1 = .ok (.getfield 21, 3) := by decide +kernel
theorem dX3_size_4 : decode cX3_size 4 = .ok (.ireturn, 1) := by decide +kernel
theorem dX3_clear_0 : decode cX3_clear 0 = .ok (.aload_n 0, 1) := by decide +kernel
theorem dX3_clear_1 : decode cX3_clear 1 = .ok (.iconst 0, 1) := by decide +kernel
theorem dX3_clear_2 : decode cX3_clear 2 = .ok (.putfield 21, 3) := by decide +kernel
theorem dX3_clear_5 : decode cX3_clear 5 = .ok (.return_, 1) := by decide +kernel
theorem dX3_add_0 : decode cX3_add 0 = .ok (.aload_n 0, 1) := by decide +kernel
theorem dX3_add_1 : decode cX3_add 1 = .ok (.getfield 21, 3) := by decide +kernel
theorem dX3_add_4 : decode cX3_add 4 = .ok (.bipush 6, 2) := by decide +kernel
theorem dX3_add_6 : decode cX3_add 6 = .ok (.if_icmp .ge 43, 3) := by decide +kernel
theorem dX3_add_9 : decode cX3_add 9 = .ok (.aload_n 0, 1) := by decide +kernel
theorem dX3_add_10 : decode cX3_add 10 = .ok (.getfield 9, 3) := by decide +kernel
theorem dX3_add_13 : decode cX3_add 13 = .ok (.aload_n 0, 1) := by decide +kernel
theorem dX3_add_14 : decode cX3_add 14 = .ok (.getfield 21, 3) := by decide +kernel
theorem dX3_add_17 : decode cX3_add 17 = .ok (.iload_n 1, 1) := by decide +kernel
theorem dX3_add_18 : decode cX3_add 18 = .ok (.iastore, 1) := by decide +kernel
theorem dX3_add_19 : decode cX3_add 19 = .ok (.aload_n 0, 1) := by decide +kernel
theorem dX3_add_20 : decode cX3_add 20 = .ok (.getfield 15, 3) := by decide +kernel
theorem dX3_add_23 : decode cX3_add 23 = .ok (.aload_n 0, 1) := by decide +kernel
theorem dX3_add_24 : decode cX3_add 24 = .ok (.getfield 21, 3) := by decide +kernel
theorem dX3_add_27 : decode cX3_add 27 = .ok (.iload_n 2, 1) := by decide +kernel
theorem dX3_add_28 : decode cX3_add 28 = .ok (.iastore, 1) := by decide +kernel
theorem dX3_add_29 : decode cX3_add 29 = .ok (.aload_n 0, 1) := by decide +kernel
theorem dX3_add_30 : decode cX3_add 30 = .ok (.getfield 18, 3) := by decide +kernel
theorem dX3_add_33 : decode cX3_add 33 = .ok (.aload_n 0, 1) := by decide +kernel
theorem dX3_add_34 : decode cX3_add 34 = .ok (.getfield 21, 3) := by decide +kernel
theorem dX3_add_37 : decode cX3_add 37 = .ok (.iload_n 3, 1) := by decide +kernel
theorem dX3_add_38 : decode cX3_add 38 = .ok (.iastore, 1) := by decide +kernel
theorem dX3_add_39 : decode cX3_add 39 = .ok (.aload_n 0, 1) := by decide +kernel
theorem dX3_add_40 : decode cX3_add 40 = .ok (.dup, 1) := by decide +kernel
theorem dX3_add_41 : decode cX3_add 41 = .ok (.getfield 21, 3) := by decide +kernel
theorem dX3_add_44 : decode cX3_add 44 = .ok (.iconst 1, 1) := by decide +kernel
theorem dX3_add_45 : decode cX3_add 45 = .ok (.iadd, 1) := by decide +kernel
theorem dX3_add_46 : decode cX3_add 46 = .ok (.putfield 21, 3) := by decide +kernel
theorem dX3_add_49 : decode cX3_add 49 = .ok (.return_, 1) := by decide +kernel
theorem dX3_copyFrom_0 : decode cX3_copyFrom 0 = .ok (.aload_n 1, 1) := by decide +kernel
theorem dX3_copyFrom_1 : decode cX3_copyFrom 1 = .ok (.ifnonnull 4, 3) := by decide +kernel
theorem dX3_copyFrom_4 : decode cX3_copyFrom 4 = .ok (.return_, 1) := by decide +kernel
theorem dX3_copyFrom_5 : decode cX3_copyFrom 5 = .ok (.aload_n 0, 1) := by decide +kernel
theorem dX3_copyFrom_6 : decode cX3_copyFrom 6 = .ok (.aload_n 1, 1) := by decide +kernel
theorem dX3_copyFrom_7 : decode cX3_copyFrom 7 = .ok (.getfield 21, 3) := by decide +kernel
theorem dX3_copyFrom_10 : decode cX3_copyFrom 10 = .ok (.putfield 21, 3) := by decide +kernel
theorem dX3_copyFrom_13 : decode cX3_copyFrom 13 = .ok (.aload_n 1, 1) := by decide +kernel
theorem dX3_copyFrom_14 : decode cX3_copyFrom 14 = .ok (.getfield 9, 3) := by decide +kernel
theorem dX3_copyFrom_17 : decode cX3_copyFrom 17 = .ok (.iconst 0, 1) := by decide +kernel
theorem dX3_copyFrom_18 : decode cX3_copyFrom 18 = .ok (.aload_n 0, 1) := by decide +kernel
theorem dX3_copyFrom_19 : decode cX3_copyFrom 19 = .ok (.getfield 9, 3) := by decide +kernel
theorem dX3_copyFrom_22 : decode cX3_copyFrom 22 = .ok (.iconst 0, 1) := by decide +kernel
theorem dX3_copyFrom_23 : decode cX3_copyFrom 23 = .ok (.bipush 6, 2) := by decide +kernel
theorem dX3_copyFrom_25 : decode cX3_copyFrom 25 = .ok (.invokestatic 25, 3) := by decide +kernel
theorem dX3_copyFrom_28 : decode cX3_copyFrom 28 = .ok (.aload_n 1, 1) := by decide +kernel
theorem dX3_copyFrom_29 : decode cX3_copyFrom 29 = .ok (.getfield 15, 3) := by decide +kernel
theorem dX3_copyFrom_32 : decode cX3_copyFrom 32 = .ok (.iconst 0, 1) := by decide +kernel
theorem dX3_copyFrom_33 : decode cX3_copyFrom 33 = .ok (.aload_n 0, 1) := by decide +kernel
theorem dX3_copyFrom_34 : decode cX3_copyFrom 34 = .ok (.getfield 15, 3) := by decide +kernel
theorem dX3_copyFrom_37 : decode cX3_copyFrom 37 = .ok (.iconst 0, 1) := by decide +kernel
theorem dX3_copyFrom_38 : decode cX3_copyFrom 38 = .ok (.bipush 6, 2) := by decide +kernel
theorem dX3_copyFrom_40 : decode cX3_copyFrom 40 = .ok (.invokestatic 25, 3) := by decide +kernel
theorem dX3_copyFrom_43 : decode cX3_copyFrom 43 = .ok (.aload_n 1, 1) := by decide +kernel
theorem dX3_copyFrom_44 : decode cX3_copyFrom 44 = .ok (.getfield 18, 3) := by decide +kernel
theorem dX3_copyFrom_47 : decode cX3_copyFrom 47 = .ok (.iconst 0, 1) := by decide +kernel
theorem dX3_copyFrom_48 : decode cX3_copyFrom 48 = .ok (.aload_n 0, 1) := by decide +kernel
theorem dX3_copyFrom_49 : decode cX3_copyFrom 49 = .ok (.getfield 18, 3) := by decide +kernel
theorem dX3_copyFrom_52 : decode cX3_copyFrom 52 = .ok (.iconst 0, 1) := by decide +kernel
theorem dX3_copyFrom_53 : decode cX3_copyFrom 53 = .ok (.bipush 6, 2) := by decide +kernel
theorem dX3_copyFrom_55 : decode cX3_copyFrom 55 = .ok (.invokestatic 25, 3) := by decide +kernel
theorem dX3_copyFrom_58 : decode cX3_copyFrom 58 = .ok (.return_, 1) := by decide +kernel
set_option maxRecDepth 20000 in
theorem ggX3_sortsOf_X3_canBe : GoodIn wsX3_sortsOf wsX3_canBe := goodIn_r _ [5, 6, 7, 8, 9, 10, 11, 12, 13, 14, 15, 16, 17, 18, 19, 20, 21, 22, 23] (by decide +kernel) (by decide +kernel)
set_option maxRecDepth 20000 in
theorem gX3_sortsOf_X3_canBe : GoodIn wsX3_sortsOf (wsV RX3 31 RX3 yX3_canBe wsX3_canBe) := goodIn_app (goodIn_of _ (by decide +kernel)) ggX3_sortsOf_X3_canBe
theorem dX3_sortsOf_0 : decode cX3_sortsOf 0 = .ok (.iconst 0, 1) := by decide +kernel
theorem dX3_sortsOf_1 : decode cX3_sortsOf 1 = .ok (.istore_n 2, 1) := by decide +kernel
theorem dX3_sortsOf_2 : decode cX3_sortsOf 2 = .ok (.iconst 0, 1) := by decide +kernel
theorem dX3_sortsOf_3 : decode cX3_sortsOf 3 = .ok (.istore_n 3, 1) := by decide +kernel
theorem dX3_sortsOf_4 : decode cX3_sortsOf 4 = .ok (.iload_n 3, 1) := by decide +kernel
theorem dX3_sortsOf_5 : decode cX3_sortsOf 5 = .ok (.iconst 5, 1) := by decide +kernel
theorem dX3_sortsOf_6 : decode cX3_sortsOf 6 = .ok (.if_icmp .ge 24, 3) := by decide +kernel
theorem dX3_sortsOf_9 : decode cX3_sortsOf 9 = .ok (.aload_n 0, 1) := by decide +kernel
theorem dX3_sortsOf_10 : decode cX3_sortsOf 10 = .ok (.iload_n 1, 1) := by decide +kernel
theorem dX3_sortsOf_11 : decode cX3_sortsOf 11 = .ok (.iload_n 3, 1) := by decide +kernel
theorem dX3_sortsOf_12 : decode cX3_sortsOf 12 = .ok (.invokevirtual 31, 3) := by decide +kernel
theorem dX3_sortsOf_15 : decode cX3_sortsOf 15 = .ok (.ifCond .eq 9, 3) := by decide +kernel
theorem dX3_sortsOf_18 : decode cX3_sortsOf 18 = .ok (.iload_n 2, 1) := by decide +kernel
theorem dX3_sortsOf_19 : decode cX3_sortsOf 19 = .ok (.iconst 1, 1) := by decide +kernel
theorem dX3_sortsOf_20 : decode cX3_sortsOf 20 = .ok (.iload_n 3, 1) := by decide +kernel
theorem dX3_sortsOf_21 : decode cX3_sortsOf 21 = .ok (.ishl, 1) := by decide +kernel
theorem dX3_sortsOf_22 : decode cX3_sortsOf 22 = .ok (.ior, 1) := by decide +kernel
theorem dX3_sortsOf_23 : decode cX3_sortsOf 23 = .ok (.istore_n 2, 1) := by decide +kernel
theorem dX3_sortsOf_24 : decode cX3_sortsOf 24 = .ok (.iinc 3 1, 3) := by decide +kernel
theorem dX3_sortsOf_27 : decode cX3_sortsOf 27 = .ok (.goto (-23), 3) := by decide +kernel
theorem dX3_sortsOf_30 : decode cX3_sortsOf 30 = .ok (.iload_n 2, 1) := by decide +kernel
theorem dX3_sortsOf_31 : decode cX3_sortsOf 31 = .ok (.ireturn, 1) := by decide +kernel
set_option maxRecDepth 20000 in
theorem ggX3_rainToTry_X3_sortsOf : GoodIn wsX3_rainToTry wsX3_sortsOf := goodIn_r _ [5, 6, 7, 8, 4, 9, 10, 11, 12, 13, 14, 15, 16, 17, 18, 19, 20, 21, 22, 23, 28, 29, 30, 31] (by decide +kernel) (by decide +kernel)
set_option maxRecDepth 20000 in
theorem gX3_rainToTry_X3_sortsOf : GoodIn wsX3_rainToTry (wsV RX3 35 RX3 yX3_sortsOf wsX3_sortsOf) := goodIn_app (goodIn_of _ (by decide +kernel)) ggX3_rainToTry_X3_sortsOf
set_option maxRecDepth 20000 in
theorem ggX3_rainToTry_X3_leftAtWorst : GoodIn wsX3_rainToTry wsX3_leftAtWorst := goodIn_r _ [26, 27, 18, 19, 20, 14, 15, 16, 17, 21, 22, 23] (by decide +kernel) (by decide +kernel)
set_option maxRecDepth 20000 in
theorem gX3_rainToTry_X3_leftAtWorst : GoodIn wsX3_rainToTry (va_wsS RX3 39 yX3_leftAtWorst wsX3_leftAtWorst) := goodIn_app (goodIn_of _ (by decide +kernel)) ggX3_rainToTry_X3_leftAtWorst
theorem dX3_rainToTry_0 : decode cX3_rainToTry 0 = .ok (.aload_n 0, 1) := by decide +kernel
theorem dX3_rainToTry_1 : decode cX3_rainToTry 1 = .ok (.iload_n 1, 1) := by decide +kernel
theorem dX3_rainToTry_2 : decode cX3_rainToTry 2 = .ok (.invokevirtual 35, 3) := by decide +kernel
theorem dX3_rainToTry_5 : decode cX3_rainToTry 5 = .ok (.istore_n 2, 1) := by decide +kernel
theorem dX3_rainToTry_6 : decode cX3_rainToTry 6 = .ok (.iload_n 2, 1) := by decide +kernel
theorem dX3_rainToTry_7 : decode cX3_rainToTry 7 = .ok (.ifCond .ne 5, 3) := by decide +kernel
theorem dX3_rainToTry_10 : decode cX3_rainToTry 10 = .ok (.iconst (-1), 1) := by decide +kernel
theorem dX3_rainToTry_11 : decode cX3_rainToTry 11 = .ok (.ireturn, 1) := by decide +kernel
theorem dX3_rainToTry_12 : decode cX3_rainToTry 12 = .ok (.iconst 0, 1) := by decide +kernel
theorem dX3_rainToTry_13 : decode cX3_rainToTry 13 = .ok (.istore_n 3, 1) := by decide +kernel
theorem dX3_rainToTry_14 : decode cX3_rainToTry 14 = .ok (.iconst 1, 1) := by decide +kernel
theorem dX3_rainToTry_15 : decode cX3_rainToTry 15 = .ok (.istore 4, 2) := by decide +kernel
theorem dX3_rainToTry_17 : decode cX3_rainToTry 17 = .ok (.iload 4, 2) := by decide +kernel
theorem dX3_rainToTry_19 : decode cX3_rainToTry 19 = .ok (.iconst 3, 1) := by decide +kernel
theorem dX3_rainToTry_20 : decode cX3_rainToTry 20 = .ok (.if_icmp .gt 26, 3) := by decide +kernel
theorem dX3_rainToTry_23 : decode cX3_rainToTry 23 = .ok (.iload_n 2, 1) := by decide +kernel
theorem dX3_rainToTry_24 : decode cX3_rainToTry 24 = .ok (.iload 4, 2) := by decide +kernel
theorem dX3_rainToTry_26 : decode cX3_rainToTry 26 = .ok (.invokestatic 39, 3) := by decide +kernel
theorem dX3_rainToTry_29 : decode cX3_rainToTry 29 = .ok (.iload_n 2, 1) := by decide +kernel
theorem dX3_rainToTry_30 : decode cX3_rainToTry 30 = .ok (.iload_n 3, 1) := by decide +kernel
theorem dX3_rainToTry_31 : decode cX3_rainToTry 31 = .ok (.invokestatic 39, 3) := by decide +kernel
theorem dX3_rainToTry_34 : decode cX3_rainToTry 34 = .ok (.if_icmp .ge 6, 3) := by decide +kernel
theorem dX3_rainToTry_37 : decode cX3_rainToTry 37 = .ok (.iload 4, 2) := by decide +kernel
theorem dX3_rainToTry_39 : decode cX3_rainToTry 39 = .ok (.istore_n 3, 1) := by decide +kernel
theorem dX3_rainToTry_40 : decode cX3_rainToTry 40 = .ok (.iinc 4 1, 3) := by decide +kernel
theorem dX3_rainToTry_43 : decode cX3_rainToTry 43 = .ok (.goto (-26), 3) := by decide +kernel
theorem dX3_rainToTry_46 : decode cX3_rainToTry 46 = .ok (.iload_n 3, 1) := by decide +kernel
theorem dX3_rainToTry_47 : decode cX3_rainToTry 47 = .ok (.ireturn, 1) := by decide +kernel
set_option maxRecDepth 20000 in
theorem ggX3_canBe_X6_growth : GoodIn wsX3_canBe wsX6_growth := goodIn_r _ [7, 8, 9, 10, 11, 12, 13, 14] (by decide +kernel) (by decide +kernel)
set_option maxRecDepth 20000 in
theorem gX3_canBe_X6_growth_n43 : GoodIn wsX3_canBe (wsX6_growth) := ggX3_canBe_X6_growth
theorem dX3_canBe_0 : decode cX3_canBe 0 = .ok (.iconst 0, 1) := by decide +kernel
theorem dX3_canBe_1 : decode cX3_canBe 1 = .ok (.istore_n 3, 1) := by decide +kernel
theorem dX3_canBe_2 : decode cX3_canBe 2 = .ok (.iload_n 3, 1) := by decide +kernel
theorem dX3_canBe_3 : decode cX3_canBe 3 = .ok (.aload_n 0, 1) := by decide +kernel
theorem dX3_canBe_4 : decode cX3_canBe 4 = .ok (.getfield 21, 3) := by decide +kernel
theorem dX3_canBe_7 : decode cX3_canBe 7 = .ok (.if_icmp .ge 40, 3) := by decide +kernel
theorem dX3_canBe_10 : decode cX3_canBe 10 = .ok (.aload_n 0, 1) := by decide +kernel
theorem dX3_canBe_11 : decode cX3_canBe 11 = .ok (.getfield 9, 3) := by decide +kernel
theorem dX3_canBe_14 : decode cX3_canBe 14 = .ok (.iload_n 3, 1) := by decide +kernel
theorem dX3_canBe_15 : decode cX3_canBe 15 = .ok (.iaload, 1) := by decide +kernel
theorem dX3_canBe_16 : decode cX3_canBe 16 = .ok (.iload_n 1, 1) := by decide +kernel
theorem dX3_canBe_17 : decode cX3_canBe 17 = .ok (.if_icmp .ne 24, 3) := by decide +kernel
theorem dX3_canBe_20 : decode cX3_canBe 20 = .ok (.iload_n 2, 1) := by decide +kernel
theorem dX3_canBe_21 : decode cX3_canBe 21 = .ok (.aload_n 0, 1) := by decide +kernel
theorem dX3_canBe_22 : decode cX3_canBe 22 = .ok (.getfield 15, 3) := by decide +kernel
theorem dX3_canBe_25 : decode cX3_canBe 25 = .ok (.iload_n 3, 1) := by decide +kernel
theorem dX3_canBe_26 : decode cX3_canBe 26 = .ok (.iaload, 1) := by decide +kernel
theorem dX3_canBe_27 : decode cX3_canBe 27 = .ok (.invokestatic 43, 3) := by decide +kernel
theorem dX3_canBe_30 : decode cX3_canBe 30 = .ok (.aload_n 0, 1) := by decide +kernel
theorem dX3_canBe_31 : decode cX3_canBe 31 = .ok (.getfield 18, 3) := by decide +kernel
theorem dX3_canBe_34 : decode cX3_canBe 34 = .ok (.iload_n 3, 1) := by decide +kernel
theorem dX3_canBe_35 : decode cX3_canBe 35 = .ok (.iaload, 1) := by decide +kernel
theorem dX3_canBe_36 : decode cX3_canBe 36 = .ok (.if_icmp .eq 5, 3) := by decide +kernel
theorem dX3_canBe_39 : decode cX3_canBe 39 = .ok (.iconst 0, 1) := by decide +kernel
theorem dX3_canBe_40 : decode cX3_canBe 40 = .ok (.ireturn, 1) := by decide +kernel
theorem dX3_canBe_41 : decode cX3_canBe 41 = .ok (.iinc 3 1, 3) := by decide +kernel
theorem dX3_canBe_44 : decode cX3_canBe 44 = .ok (.goto (-42), 3) := by decide +kernel
theorem dX3_canBe_47 : decode cX3_canBe 47 = .ok (.iconst 1, 1) := by decide +kernel
theorem dX3_canBe_48 : decode cX3_canBe 48 = .ok (.ireturn, 1) := by decide +kernel
set_option maxRecDepth 20000 in
theorem ggX3_leftAtWorst_X6_growth : GoodIn wsX3_leftAtWorst wsX6_growth := goodIn_r _ [7, 8, 2, 3, 4, 9, 10, 11] (by decide +kernel) (by decide +kernel)
set_option maxRecDepth 20000 in
theorem gX3_leftAtWorst_X6_growth_n43 : GoodIn wsX3_leftAtWorst (wsX6_growth) := ggX3_leftAtWorst_X6_growth
theorem dX3_leftAtWorst_0 : decode cX3_leftAtWorst 0 = .ok (.iconst 0, 1) := by decide +kernel
theorem dX3_leftAtWorst_1 : decode cX3_leftAtWorst 1 = .ok (.istore_n 2, 1) := by decide +kernel
theorem dX3_leftAtWorst_2 : decode cX3_leftAtWorst 2 = .ok (.iconst 0, 1) := by decide +kernel
theorem dX3_leftAtWorst_3 : decode cX3_leftAtWorst 3 = .ok (.istore_n 3, 1) := by decide +kernel
theorem dX3_leftAtWorst_4 : decode cX3_leftAtWorst 4 = .ok (.iload_n 3, 1) := by decide +kernel
theorem dX3_leftAtWorst_5 : decode cX3_leftAtWorst 5 = .ok (.bipush 6, 2) := by decide +kernel
theorem dX3_leftAtWorst_7 : decode cX3_leftAtWorst 7 = .ok (.if_icmp .gt 57, 3) := by decide +kernel
theorem dX3_leftAtWorst_10 : decode cX3_leftAtWorst 10 = .ok (.iconst 0, 1) := by decide +kernel
theorem dX3_leftAtWorst_11 : decode cX3_leftAtWorst 11 = .ok (.istore 4, 2) := by decide +kernel
theorem dX3_leftAtWorst_13 : decode cX3_leftAtWorst 13 = .ok (.iconst 0, 1) := by decide +kernel
theorem dX3_leftAtWorst_14 : decode cX3_leftAtWorst 14 = .ok (.istore 5, 2) := by decide +kernel
theorem dX3_leftAtWorst_16 : decode cX3_leftAtWorst 16 = .ok (.iload 5, 2) := by decide +kernel
theorem dX3_leftAtWorst_18 : decode cX3_leftAtWorst 18 = .ok (.iconst 5, 1) := by decide +kernel
theorem dX3_leftAtWorst_19 : decode cX3_leftAtWorst 19 = .ok (.if_icmp .ge 32, 3) := by decide +kernel
theorem dX3_leftAtWorst_22 : decode cX3_leftAtWorst 22 = .ok (.iload_n 0, 1) := by decide +kernel
theorem dX3_leftAtWorst_23 : decode cX3_leftAtWorst 23 = .ok (.iload 5, 2) := by decide +kernel
theorem dX3_leftAtWorst_25 : decode cX3_leftAtWorst 25 = .ok (.ishr, 1) := by decide +kernel
theorem dX3_leftAtWorst_26 : decode cX3_leftAtWorst 26 = .ok (.iconst 1, 1) := by decide +kernel
theorem dX3_leftAtWorst_27 : decode cX3_leftAtWorst 27 = .ok (.iand, 1) := by decide +kernel
theorem dX3_leftAtWorst_28 : decode cX3_leftAtWorst 28 = .ok (.iconst 1, 1) := by decide +kernel
theorem dX3_leftAtWorst_29 : decode cX3_leftAtWorst 29 = .ok (.if_icmp .ne 16, 3) := by decide +kernel
theorem dX3_leftAtWorst_32 : decode cX3_leftAtWorst 32 = .ok (.iload 5, 2) := by decide +kernel
theorem dX3_leftAtWorst_34 : decode cX3_leftAtWorst 34 = .ok (.iload_n 1, 1) := by decide +kernel
theorem dX3_leftAtWorst_35 : decode cX3_leftAtWorst 35 = .ok (.invokestatic 43, 3) := by decide +kernel
theorem dX3_leftAtWorst_38 : decode cX3_leftAtWorst 38 = .ok (.iload_n 3, 1) := by decide +kernel
theorem dX3_leftAtWorst_39 : decode cX3_leftAtWorst 39 = .ok (.if_icmp .ne 6, 3) := by decide +kernel
theorem dX3_leftAtWorst_42 : decode cX3_leftAtWorst 42 = .ok (.iinc 4 1, 3) := by decide +kernel
theorem dX3_leftAtWorst_45 : decode cX3_leftAtWorst 45 = .ok (.iinc 5 1, 3) := by decide +kernel
theorem dX3_leftAtWorst_48 : decode cX3_leftAtWorst 48 = .ok (.goto (-32), 3) := by decide +kernel
theorem dX3_leftAtWorst_51 : decode cX3_leftAtWorst 51 = .ok (.iload_n 2, 1) := by decide +kernel
theorem dX3_leftAtWorst_52 : decode cX3_leftAtWorst 52 = .ok (.iload 4, 2) := by decide +kernel
theorem dX3_leftAtWorst_54 : decode cX3_leftAtWorst 54 = .ok (.invokestatic 46, 3) := by decide +kernel
theorem dX3_leftAtWorst_57 : decode cX3_leftAtWorst 57 = .ok (.istore_n 2, 1) := by decide +kernel
theorem dX3_leftAtWorst_58 : decode cX3_leftAtWorst 58 = .ok (.iinc 3 1, 3) := by decide +kernel
theorem dX3_leftAtWorst_61 : decode cX3_leftAtWorst 61 = .ok (.goto (-57), 3) := by decide +kernel
theorem dX3_leftAtWorst_64 : decode cX3_leftAtWorst 64 = .ok (.iload_n 2, 1) := by decide +kernel
theorem dX3_leftAtWorst_65 : decode cX3_leftAtWorst 65 = .ok (.ireturn, 1) := by decide +kernel
set_option maxRecDepth 20000 in
theorem ggX4_init_X0_init : GoodIn wsX4_init wsX0_init := goodIn_r _ [18, 19, 2, 3, 20, 21, 22, 23, 24, 25, 39, 40, 41, 42, 43] (by decide +kernel) (by decide +kernel)
set_option maxRecDepth 20000 in
theorem gX4_init_X0_init_n9 : GoodIn wsX4_init (wsX0_init) := ggX4_init_X0_init
set_option maxRecDepth 20000 in
theorem ggX4_init_X5_init : GoodIn wsX4_init wsX5_init := goodIn_r _ [27, 28, 2, 3, 20, 29, 30, 31, 48, 49, 50] (by decide +kernel) (by decide +kernel)
set_option maxRecDepth 20000 in
theorem gX4_init_X5_init_n18 : GoodIn wsX4_init (wsX5_init) := ggX4_init_X5_init
set_option maxRecDepth 20000 in
theorem ggX4_init_X3_init : GoodIn wsX4_init wsX3_init := goodIn_r _ [33, 34, 2, 3, 20, 35, 36, 37, 38, 51, 52, 53, 54] (by decide +kernel) (by decide +kernel)
set_option maxRecDepth 20000 in
theorem gX4_init_X3_init_n25 : GoodIn wsX4_init (wsX3_init) := ggX4_init_X3_init
theorem dX4_init_0 : decode cX4_init 0 = .ok (.aload_n 0, 1) := by decide +kernel
theorem dX4_init_1 : decode cX4_init 1 = .ok (.invokespecial 1, 3) := by decide +kernel
theorem dX4_init_4 : decode cX4_init 4 = .ok (.aload_n 0, 1) := by decide +kernel
theorem dX4_init_5 : decode cX4_init 5 = .ok (.new 7, 3) := by decide +kernel
theorem dX4_init_8 : decode cX4_init 8 = .ok (.dup, 1) := by decide +kernel
theorem dX4_init_9 : decode cX4_init 9 = .ok (.invokespecial 9, 3) := by decide +kernel
theorem dX4_init_12 : decode cX4_init 12 = .ok (.putfield 10, 3) := by decide +kernel
theorem dX4_init_15 : decode cX4_init 15 = .ok (.aload_n 0, 1) := by decide +kernel
theorem dX4_init_16 : decode cX4_init 16 = .ok (.new 16, 3) := by decide +kernel
theorem dX4_init_19 : decode cX4_init 19 = .ok (.dup, 1) := by decide +kernel
theorem dX4_init_20 : decode cX4_init 20 = .ok (.invokespecial 18, 3) := by decide +kernel
theorem dX4_init_23 : decode cX4_init 23 = .ok (.putfield 19, 3) := by decide +kernel
theorem dX4_init_26 : decode cX4_init 26 = .ok (.aload_n 0, 1) := by decide +kernel
theorem dX4_init_27 : decode cX4_init 27 = .ok (.new 23, 3) := by decide +kernel
theorem dX4_init_30 : decode cX4_init 30 = .ok (.dup, 1) := by decide +kernel
theorem dX4_init_31 : decode cX4_init 31 = .ok (.invokespecial 25, 3) := by decide +kernel
theorem dX4_init_34 : decode cX4_init 34 = .ok (.putfield 26, 3) := by decide +kernel
theorem dX4_init_37 : decode cX4_init 37 = .ok (.aload_n 0, 1) := by decide +kernel
theorem dX4_init_38 : decode cX4_init 38 = .ok (.iconst 0, 1) := by decide +kernel
theorem dX4_init_39 : decode cX4_init 39 = .ok (.putfield 30, 3) := by decide +kernel
theorem dX4_init_42 : decode cX4_init 42 = .ok (.return_, 1) := by decide +kernel
set_option maxRecDepth 20000 in
theorem ggX4_stands_X0_size : GoodIn wsX4_stands wsX0_size := goodIn_r _ [6, 7, 12, 13, 14, 15, 16] (by decide +kernel) (by decide +kernel)
set_option maxRecDepth 20000 in
theorem gX4_stands_X0_size : GoodIn wsX4_stands (wsV RX4 34 RX0 yX0_size wsX0_size) := goodIn_app (goodIn_of _ (by decide +kernel)) ggX4_stands_X0_size
theorem dX4_stands_0 : decode cX4_stands 0 = .ok (.aload_n 0, 1) := by decide +kernel
theorem dX4_stands_1 : decode cX4_stands 1 = .ok (.getfield 10, 3) := by decide +kernel
theorem dX4_stands_4 : decode cX4_stands 4 = .ok (.invokevirtual 34, 3) := by decide +kernel
theorem dX4_stands_7 : decode cX4_stands 7 = .ok (.ifCond .le 7, 3) := by decide +kernel
theorem dX4_stands_10 : decode cX4_stands 10 = .ok (.iconst 1, 1) := by decide +kernel
theorem dX4_stands_11 : decode cX4_stands 11 = .ok (.goto 4, 3) := by decide +kernel
theorem dX4_stands_14 : decode cX4_stands 14 = .ok (.iconst 0, 1) := by decide +kernel
theorem dX4_stands_15 : decode cX4_stands 15 = .ok (.ireturn, 1) := by decide +kernel
set_option maxRecDepth 20000 in
theorem ggX4_clear_X0_clear : GoodIn wsX4_clear wsX0_clear := goodIn_r _ [9, 10, 28, 29, 30, 31, 32] (by decide +kernel) (by decide +kernel)
set_option maxRecDepth 20000 in
theorem gX4_clear_X0_clear : GoodIn wsX4_clear (wsV RX4 38 RX0 yX0_clear wsX0_clear) := goodIn_app (goodIn_of _ (by decide +kernel)) ggX4_clear_X0_clear
set_option maxRecDepth 20000 in
theorem ggX4_clear_X5_clear : GoodIn wsX4_clear wsX5_clear := goodIn_r _ [15, 16, 17, 33, 34, 35] (by decide +kernel) (by decide +kernel)
set_option maxRecDepth 20000 in
theorem gX4_clear_X5_clear : GoodIn wsX4_clear (wsV RX4 41 RX5 yX5_clear wsX5_clear) := goodIn_app (goodIn_of _ (by decide +kernel)) ggX4_clear_X5_clear
set_option maxRecDepth 20000 in
theorem ggX4_clear_X3_clear : GoodIn wsX4_clear wsX3_clear := goodIn_r _ [22, 23, 36, 37, 38, 39] (by decide +kernel) (by decide +kernel)
set_option maxRecDepth 20000 in
theorem gX4_clear_X3_clear : GoodIn wsX4_clear (wsV RX4 42 RX3 yX3_clear wsX3_clear) := goodIn_app (goodIn_of _ (by decide +kernel)) ggX4_clear_X3_clear
theorem dX4_clear_0 : decode cX4_clear 0 = .ok (.aload_n 0, 1) := by decide +kernel
theorem dX4_clear_1 : decode cX4_clear 1 = .ok (.getfield 10, 3) := by decide +kernel
theorem dX4_clear_4 : decode cX4_clear 4 = .ok (.invokevirtual 38, 3) := by decide +kernel
theorem dX4_clear_7 : decode cX4_clear 7 = .ok (.aload_n 0, 1) := by decide +kernel
theorem dX4_clear_8 : decode cX4_clear 8 = .ok (.getfield 19, 3) := by decide +kernel
theorem dX4_clear_11 : decode cX4_clear 11 = .ok (.invokevirtual 41, 3) := by decide +kernel
theorem dX4_clear_14 : decode cX4_clear 14 = .ok (.aload_n 0, 1) := by decide +kernel
theorem dX4_clear_15 : decode cX4_clear 15 = .ok (.getfield 26, 3) := by decide +kernel
theorem dX4_clear_18 : decode cX4_clear 18 = .ok (.invokevirtual 42, 3) := by decide +kernel
theorem dX4_clear_21 : decode cX4_clear 21 = .ok (.aload_n 0, 1) := by decide +kernel
theorem dX4_clear_22 : decode cX4_clear 22 = .ok (.iconst 0, 1) := by decide +kernel
theorem dX4_clear_23 : decode cX4_clear 23 = .ok (.putfield 30, 3) := by decide +kernel
theorem dX4_clear_26 : decode cX4_clear 26 = .ok (.return_, 1) := by decide +kernel
set_option maxRecDepth 20000 in
theorem ggX4_copyFrom_X0_copyFrom : GoodIn wsX4_copyFrom wsX0_copyFrom := goodIn_r _ [9, 10, 11, 12, 13, 14, 15, 16, 17, 18, 42, 43, 44, 45, 46] (by decide +kernel) (by decide +kernel)
set_option maxRecDepth 20000 in
theorem gX4_copyFrom_X0_copyFrom : GoodIn wsX4_copyFrom (wsV RX4 43 RX0 yX0_copyFrom wsX0_copyFrom) := goodIn_app (goodIn_of _ (by decide +kernel)) ggX4_copyFrom_X0_copyFrom
set_option maxRecDepth 20000 in
theorem ggX4_copyFrom_X5_copyFrom : GoodIn wsX4_copyFrom wsX5_copyFrom := goodIn_r _ [23, 24, 25, 26, 27, 13, 14, 15, 47, 48, 49] (by decide +kernel) (by decide +kernel)
set_option maxRecDepth 20000 in
theorem gX4_copyFrom_X5_copyFrom : GoodIn wsX4_copyFrom (wsV RX4 47 RX5 yX5_copyFrom wsX5_copyFrom) := goodIn_app (goodIn_of _ (by decide +kernel)) ggX4_copyFrom_X5_copyFrom
set_option maxRecDepth 20000 in
theorem ggX4_copyFrom_X3_copyFrom : GoodIn wsX4_copyFrom wsX3_copyFrom := goodIn_r _ [32, 33, 34, 35, 13, 14, 15, 36, 37, 50, 51, 52, 53] (by decide +kernel) (by decide +kernel)
set_option maxRecDepth 20000 in
theorem gX4_copyFrom_X3_copyFrom : GoodIn wsX4_copyFrom (wsV RX4 50 RX3 yX3_copyFrom wsX3_copyFrom) := goodIn_app (goodIn_of _ (by decide +kernel)) ggX4_copyFrom_X3_copyFrom
theorem dX4_copyFrom_0 : decode cX4_copyFrom 0 = .ok (.aload_n 1, 1) := by decide +kernel
theorem dX4_copyFrom_1 : decode cX4_copyFrom 1 = .ok (.ifnonnull 4, 3) := by decide +kernel
theorem dX4_copyFrom_4 : decode cX4_copyFrom 4 = .ok (.return_, 1) := by decide +kernel
theorem dX4_copyFrom_5 : decode cX4_copyFrom 5 = .ok (.aload_n 0, 1) := by decide +kernel
theorem dX4_copyFrom_6 : decode cX4_copyFrom 6 = .ok (.getfield 10, 3) := by decide +kernel
theorem dX4_copyFrom_9 : decode cX4_copyFrom 9 = .ok (.aload_n 1, 1) := by decide +kernel
theorem dX4_copyFrom_10 : decode cX4_copyFrom 10 = .ok (.getfield 10, 3) := by decide +kernel
theorem dX4_copyFrom_13 : decode cX4_copyFrom 13 = .ok (.invokevirtual 43, 3) := by decide +kernel
theorem dX4_copyFrom_16 : decode cX4_copyFrom 16 = .ok (.aload_n 0, 1) := by decide +kernel
theorem dX4_copyFrom_17 : decode cX4_copyFrom 17 = .ok (.getfield 19, 3) := by decide +kernel
theorem dX4_copyFrom_20 : decode cX4_copyFrom 20 = .ok (.aload_n 1, 1) := by decide +kernel
theorem dX4_copyFrom_21 : decode cX4_copyFrom 21 = .ok (.getfield 19, 3) := by decide +kernel
theorem dX4_copyFrom_24 : decode cX4_copyFrom 24 = .ok (.invokevirtual 47, 3) := by decide +kernel
theorem dX4_copyFrom_27 : decode cX4_copyFrom 27 = .ok (.aload_n 0, 1) := by decide +kernel
theorem dX4_copyFrom_28 : decode cX4_copyFrom 28 = .ok (.getfield 26, 3) := by decide +kernel
theorem dX4_copyFrom_31 : decode cX4_copyFrom 31 = .ok (.aload_n 1, 1) := by decide +kernel
theorem dX4_copyFrom_32 : decode cX4_copyFrom 32 = .ok (.getfield 26, 3) := by decide +kernel
theorem dX4_copyFrom_35 : decode cX4_copyFrom 35 = .ok (.invokevirtual 50, 3) := by decide +kernel
theorem dX4_copyFrom_38 : decode cX4_copyFrom 38 = .ok (.aload_n 0, 1) := by decide +kernel
theorem dX4_copyFrom_39 : decode cX4_copyFrom 39 = .ok (.aload_n 1, 1) := by decide +kernel
theorem dX4_copyFrom_40 : decode cX4_copyFrom 40 = .ok (.getfield 30, 3) := by decide +kernel
theorem dX4_copyFrom_43 : decode cX4_copyFrom 43 = .ok (.putfield 30, 3) := by decide +kernel
theorem dX4_copyFrom_46 : decode cX4_copyFrom 46 = .ok (.return_, 1) := by decide +kernel
theorem dX5_init_0 : decode cX5_init 0 = .ok (.aload_n 0, 1) := by decide +kernel
theorem dX5_init_1 : decode cX5_init 1 = .ok (.invokespecial 3, 3) := by decide +kernel
theorem dX5_init_4 : decode cX5_init 4 = .ok (.aload_n 0, 1) := by decide +kernel
theorem dX5_init_5 : decode cX5_init 5 = .ok (.bipush 8, 2) := by decide +kernel
theorem dX5_init_7 : decode cX5_init 7 = .ok (.newarray .int, 2) := by decide +kernel
theorem dX5_init_9 : decode cX5_init 9 = .ok (.putfield 9, 3) := by decide +kernel
theorem dX5_init_12 : decode cX5_init 12 = .ok (.aload_n 0, 1) := by decide +kernel
theorem dX5_init_13 : decode cX5_init 13 = .ok (.iconst 0, 1) := by decide +kernel
theorem dX5_init_14 : decode cX5_init 14 = .ok (.putfield 15, 3) := by decide +kernel
theorem dX5_init_17 : decode cX5_init 17 = .ok (.aload_n 0, 1) := by decide +kernel
theorem dX5_init_18 : decode cX5_init 18 = .ok (.iconst 0, 1) := by decide +kernel
theorem dX5_init_19 : decode cX5_init 19 = .ok (.putfield 19, 3) := by decide +kernel
theorem dX5_init_22 : decode cX5_init 22 = .ok (.return_, 1) := by decide +kernel
theorem dX5_size_0 : decode cX5_size 0 = .ok (.aload_n 0, 1) := by decide +kernel
theorem dX5_size_1 : decode cX5_size 1 = .ok (.getfield 15, 3) := by decide +kernel
theorem dX5_size_4 : decode cX5_size 4 = .ok (.ireturn, 1) := by decide +kernel
theorem dX5_next_0 : decode cX5_next 0 = .ok (.aload_n 0, 1) := by decide +kernel
theorem dX5_next_1 : decode cX5_next 1 = .ok (.getfield 19, 3) := by decide +kernel
theorem dX5_next_4 : decode cX5_next 4 = .ok (.ireturn, 1) := by decide +kernel
theorem dX5_rainOf_0 : decode cX5_rainOf 0 = .ok (.aload_n 0, 1) := by decide +kernel
theorem dX5_rainOf_1 : decode cX5_rainOf 1 = .ok (.getfield 15, 3) := by decide +kernel
theorem dX5_rainOf_4 : decode cX5_rainOf 4 = .ok (.ifCond .le 21, 3) := by decide +kernel
theorem dX5_rainOf_7 : decode cX5_rainOf 7 = .ok (.iload_n 1, 1) := by decide +kernel
theorem dX5_rainOf_8 : decode cX5_rainOf 8 = .ok (.ifCond .lt 17, 3) := by decide +kernel
theorem dX5_rainOf_11 : decode cX5_rainOf 11 = .ok (.aload_n 0, 1) := by decide +kernel
theorem dX5_rainOf_12 : decode cX5_rainOf 12 = .ok (.getfield 9, 3) := by decide +kernel
theorem dX5_rainOf_15 : decode cX5_rainOf 15 = .ok (.iload_n 1, 1) := by decide +kernel
theorem dX5_rainOf_16 : decode cX5_rainOf 16 = .ok (.aload_n 0, 1) := by decide +kernel
theorem dX5_rainOf_17 : decode cX5_rainOf 17 = .ok (.getfield 15, 3) := by decide +kernel
theorem dX5_rainOf_20 : decode cX5_rainOf 20 = .ok (.irem, 1) := by decide +kernel
theorem dX5_rainOf_21 : decode cX5_rainOf 21 = .ok (.iaload, 1) := by decide +kernel
theorem dX5_rainOf_22 : decode cX5_rainOf 22 = .ok (.goto 4, 3) := by decide +kernel
theorem dX5_rainOf_25 : decode cX5_rainOf 25 = .ok (.iconst 0, 1) := by decide +kernel
theorem dX5_rainOf_26 : decode cX5_rainOf 26 = .ok (.ireturn, 1) := by decide +kernel
theorem dX5_clear_0 : decode cX5_clear 0 = .ok (.aload_n 0, 1) := by decide +kernel
theorem dX5_clear_1 : decode cX5_clear 1 = .ok (.iconst 0, 1) := by decide +kernel
theorem dX5_clear_2 : decode cX5_clear 2 = .ok (.putfield 15, 3) := by decide +kernel
theorem dX5_clear_5 : decode cX5_clear 5 = .ok (.aload_n 0, 1) := by decide +kernel
theorem dX5_clear_6 : decode cX5_clear 6 = .ok (.iconst 0, 1) := by decide +kernel
theorem dX5_clear_7 : decode cX5_clear 7 = .ok (.putfield 19, 3) := by decide +kernel
theorem dX5_clear_10 : decode cX5_clear 10 = .ok (.return_, 1) := by decide +kernel
theorem dX5_add_0 : decode cX5_add 0 = .ok (.aload_n 0, 1) := by decide +kernel
theorem dX5_add_1 : decode cX5_add 1 = .ok (.getfield 15, 3) := by decide +kernel
theorem dX5_add_4 : decode cX5_add 4 = .ok (.bipush 8, 2) := by decide +kernel
theorem dX5_add_6 : decode cX5_add 6 = .ok (.if_icmp .ge 23, 3) := by decide +kernel
theorem dX5_add_9 : decode cX5_add 9 = .ok (.aload_n 0, 1) := by decide +kernel
theorem dX5_add_10 : decode cX5_add 10 = .ok (.getfield 9, 3) := by decide +kernel
theorem dX5_add_13 : decode cX5_add 13 = .ok (.aload_n 0, 1) := by decide +kernel
theorem dX5_add_14 : decode cX5_add 14 = .ok (.getfield 15, 3) := by decide +kernel
theorem dX5_add_17 : decode cX5_add 17 = .ok (.iload_n 1, 1) := by decide +kernel
theorem dX5_add_18 : decode cX5_add 18 = .ok (.iastore, 1) := by decide +kernel
theorem dX5_add_19 : decode cX5_add 19 = .ok (.aload_n 0, 1) := by decide +kernel
theorem dX5_add_20 : decode cX5_add 20 = .ok (.dup, 1) := by decide +kernel
theorem dX5_add_21 : decode cX5_add 21 = .ok (.getfield 15, 3) := by decide +kernel
theorem dX5_add_24 : decode cX5_add 24 = .ok (.iconst 1, 1) := by decide +kernel
theorem dX5_add_25 : decode cX5_add 25 = .ok (.iadd, 1) := by decide +kernel
theorem dX5_add_26 : decode cX5_add 26 = .ok (.putfield 15, 3) := by decide +kernel
theorem dX5_add_29 : decode cX5_add 29 = .ok (.return_, 1) := by decide +kernel
theorem dX5_goOn_0 : decode cX5_goOn 0 = .ok (.aload_n 0, 1) := by decide +kernel
theorem dX5_goOn_1 : decode cX5_goOn 1 = .ok (.dup, 1) := by decide +kernel
theorem dX5_goOn_2 : decode cX5_goOn 2 = .ok (.getfield 19, 3) := by decide +kernel
theorem dX5_goOn_5 : decode cX5_goOn 5 = .ok (.iconst 1, 1) := by decide +kernel
theorem dX5_goOn_6 : decode cX5_goOn 6 = .ok (.iadd, 1) := by decide +kernel
theorem dX5_goOn_7 : decode cX5_goOn 7 = .ok (.putfield 19, 3) := by decide +kernel
theorem dX5_goOn_10 : decode cX5_goOn 10 = .ok (.return_, 1) := by decide +kernel
theorem dX5_copyFrom_0 : decode cX5_copyFrom 0 = .ok (.aload_n 1, 1) := by decide +kernel
theorem dX5_copyFrom_1 : decode cX5_copyFrom 1 = .ok (.ifnonnull 4, 3) := by decide +kernel
theorem dX5_copyFrom_4 : decode cX5_copyFrom 4 = .ok (.return_, 1) := by decide +kernel
theorem dX5_copyFrom_5 : decode cX5_copyFrom 5 = .ok (.aload_n 0, 1) := by decide +kernel
theorem dX5_copyFrom_6 : decode cX5_copyFrom 6 = .ok (.aload_n 1, 1) := by decide +kernel
theorem dX5_copyFrom_7 : decode cX5_copyFrom 7 = .ok (.getfield 15, 3) := by decide +kernel
theorem dX5_copyFrom_10 : decode cX5_copyFrom 10 = .ok (.putfield 15, 3) := by decide +kernel
theorem dX5_copyFrom_13 : decode cX5_copyFrom 13 = .ok (.aload_n 0, 1) := by decide +kernel
theorem dX5_copyFrom_14 : decode cX5_copyFrom 14 = .ok (.aload_n 1, 1) := by decide +kernel
theorem dX5_copyFrom_15 : decode cX5_copyFrom 15 = .ok (.getfield 19, 3) := by decide +kernel
theorem dX5_copyFrom_18 : decode cX5_copyFrom 18 = .ok (.putfield 19, 3) := by decide +kernel
theorem dX5_copyFrom_21 : decode cX5_copyFrom 21 = .ok (.aload_n 1, 1) := by decide +kernel
theorem dX5_copyFrom_22 : decode cX5_copyFrom 22 = .ok (.getfield 9, 3) := by decide +kernel
theorem dX5_copyFrom_25 : decode cX5_copyFrom 25 = .ok (.iconst 0, 1) := by decide +kernel
theorem dX5_copyFrom_26 : decode cX5_copyFrom 26 = .ok (.aload_n 0, 1) := by decide +kernel
theorem dX5_copyFrom_27 : decode cX5_copyFrom 27 = .ok (.getfield 9, 3) := by decide +kernel
theorem dX5_copyFrom_30 : decode cX5_copyFrom 30 = .ok (.iconst 0, 1) := by decide +kernel
theorem dX5_copyFrom_31 : decode cX5_copyFrom 31 = .ok (.bipush 8, 2) := by decide +kernel
theorem dX5_copyFrom_33 : decode cX5_copyFrom 33 = .ok (.invokestatic 22, 3) := by decide +kernel
theorem dX5_copyFrom_36 : decode cX5_copyFrom 36 = .ok (.return_, 1) := by decide +kernel
set_option maxRecDepth 20000 in
theorem ggX6_init_X2_init : GoodIn wsX6_init wsX2_init := goodIn_r _ [21, 22, 2, 3, 23, 24, 25, 73, 74] (by decide +kernel) (by decide +kernel)
set_option maxRecDepth 20000 in
theorem gX6_init_X2_init_n9 : GoodIn wsX6_init (wsX2_init) := ggX6_init_X2_init
set_option maxRecDepth 20000 in
theorem ggX6_init_X4_init : GoodIn wsX6_init wsX4_init := goodIn_r _ [27, 28, 2, 3, 29, 30, 31, 32, 33, 34, 35, 36, 37, 38, 39, 40, 41, 42, 43, 44, 23, 45, 46, 47, 48, 49, 50, 51, 52, 53, 54, 55, 56, 57, 58, 59, 60, 61, 62, 91, 92, 93, 94, 95, 82, 83, 84, 85, 96, 97, 98, 99, 100, 101, 102] (by decide +kernel) (by decide +kernel)
set_option maxRecDepth 20000 in
theorem gX6_init_X4_init_n18 : GoodIn wsX6_init (wsX4_init) := ggX6_init_X4_init
set_option maxRecDepth 20000 in
theorem ggX6_init_X1_init : GoodIn wsX6_init wsX1_init := goodIn_r _ [64, 65, 2, 3, 66, 30, 31, 67, 68, 69, 34, 35, 70, 71, 72, 42, 43, 44, 23, 45, 46, 47, 48, 49, 50, 51, 52, 53, 54, 55, 91, 92, 93, 94, 95, 86, 87, 88, 89, 90, 96, 97, 98] (by decide +kernel) (by decide +kernel)
set_option maxRecDepth 20000 in
theorem gX6_init_X1_init_n28 : GoodIn wsX6_init (wsX1_init) := ggX6_init_X1_init
theorem dX6_init_0 : decode cX6_init 0 = .ok (.aload_n 0, 1) := by decide +kernel
theorem dX6_init_1 : decode cX6_init 1 = .ok (.invokespecial 1, 3) := by decide +kernel
theorem dX6_init_4 : decode cX6_init 4 = .ok (.aload_n 0, 1) := by decide +kernel
theorem dX6_init_5 : decode cX6_init 5 = .ok (.new 7, 3) := by decide +kernel
theorem dX6_init_8 : decode cX6_init 8 = .ok (.dup, 1) := by decide +kernel
theorem dX6_init_9 : decode cX6_init 9 = .ok (.invokespecial 9, 3) := by decide +kernel
theorem dX6_init_12 : decode cX6_init 12 = .ok (.putfield 10, 3) := by decide +kernel
theorem dX6_init_15 : decode cX6_init 15 = .ok (.aload_n 0, 1) := by decide +kernel
theorem dX6_init_16 : decode cX6_init 16 = .ok (.new 16, 3) := by decide +kernel
theorem dX6_init_19 : decode cX6_init 19 = .ok (.dup, 1) := by decide +kernel
theorem dX6_init_20 : decode cX6_init 20 = .ok (.invokespecial 18, 3) := by decide +kernel
theorem dX6_init_23 : decode cX6_init 23 = .ok (.putfield 19, 3) := by decide +kernel
theorem dX6_init_26 : decode cX6_init 26 = .ok (.aload_n 0, 1) := by decide +kernel
theorem dX6_init_27 : decode cX6_init 27 = .ok (.new 16, 3) := by decide +kernel
theorem dX6_init_30 : decode cX6_init 30 = .ok (.dup, 1) := by decide +kernel
theorem dX6_init_31 : decode cX6_init 31 = .ok (.invokespecial 18, 3) := by decide +kernel
theorem dX6_init_34 : decode cX6_init 34 = .ok (.putfield 23, 3) := by decide +kernel
theorem dX6_init_37 : decode cX6_init 37 = .ok (.aload_n 0, 1) := by decide +kernel
theorem dX6_init_38 : decode cX6_init 38 = .ok (.new 26, 3) := by decide +kernel
theorem dX6_init_41 : decode cX6_init 41 = .ok (.dup, 1) := by decide +kernel
theorem dX6_init_42 : decode cX6_init 42 = .ok (.invokespecial 28, 3) := by decide +kernel
theorem dX6_init_45 : decode cX6_init 45 = .ok (.putfield 29, 3) := by decide +kernel
theorem dX6_init_48 : decode cX6_init 48 = .ok (.aload_n 0, 1) := by decide +kernel
theorem dX6_init_49 : decode cX6_init 49 = .ok (.iconst 0, 1) := by decide +kernel
theorem dX6_init_50 : decode cX6_init 50 = .ok (.putfield 33, 3) := by decide +kernel
theorem dX6_init_53 : decode cX6_init 53 = .ok (.aload_n 0, 1) := by decide +kernel
theorem dX6_init_54 : decode cX6_init 54 = .ok (.iconst 0, 1) := by decide +kernel
theorem dX6_init_55 : decode cX6_init 55 = .ok (.putfield 37, 3) := by decide +kernel
theorem dX6_init_58 : decode cX6_init 58 = .ok (.aload_n 0, 1) := by decide +kernel
theorem dX6_init_59 : decode cX6_init 59 = .ok (.iconst 0, 1) := by decide +kernel
theorem dX6_init_60 : decode cX6_init 60 = .ok (.putfield 41, 3) := by decide +kernel
theorem dX6_init_63 : decode cX6_init 63 = .ok (.return_, 1) := by decide +kernel
set_option maxRecDepth 20000 in
theorem ggX6_letter_X2_size : GoodIn wsX6_letter wsX2_size := goodIn_r _ [6, 7, 20, 21] (by decide +kernel) (by decide +kernel)
set_option maxRecDepth 20000 in
theorem gX6_letter_X2_size : GoodIn wsX6_letter (wsV RX6 44 RX2 yX2_size wsX2_size) := goodIn_app (goodIn_of _ (by decide +kernel)) ggX6_letter_X2_size
set_option maxRecDepth 20000 in
theorem ggX6_letter_X2_add : GoodIn wsX6_letter wsX2_add := goodIn_r _ [11, 7, 12, 20, 21] (by decide +kernel) (by decide +kernel)
set_option maxRecDepth 20000 in
theorem gX6_letter_X2_add : GoodIn wsX6_letter (wsV RX6 48 RX2 yX2_add wsX2_add) := goodIn_app (goodIn_of _ (by decide +kernel)) ggX6_letter_X2_add
theorem dX6_letter_0 : decode cX6_letter 0 = .ok (.iload_n 1, 1) := by decide +kernel
theorem dX6_letter_1 : decode cX6_letter 1 = .ok (.iconst 1, 1) := by decide +kernel
theorem dX6_letter_2 : decode cX6_letter 2 = .ok (.if_icmp .lt 9, 3) := by decide +kernel
theorem dX6_letter_5 : decode cX6_letter 5 = .ok (.iload_n 1, 1) := by decide +kernel
theorem dX6_letter_6 : decode cX6_letter 6 = .ok (.bipush 126, 2) := by decide +kernel
theorem dX6_letter_8 : decode cX6_letter 8 = .ok (.if_icmp .le 6, 3) := by decide +kernel
theorem dX6_letter_11 : decode cX6_letter 11 = .ok (.bipush (-102), 2) := by decide +kernel
theorem dX6_letter_13 : decode cX6_letter 13 = .ok (.ireturn, 1) := by decide +kernel
theorem dX6_letter_14 : decode cX6_letter 14 = .ok (.aload_n 0, 1) := by decide +kernel
theorem dX6_letter_15 : decode cX6_letter 15 = .ok (.getfield 10, 3) := by decide +kernel
theorem dX6_letter_18 : decode cX6_letter 18 = .ok (.invokevirtual 44, 3) := by decide +kernel
theorem dX6_letter_21 : decode cX6_letter 21 = .ok (.bipush 36, 2) := by decide +kernel
theorem dX6_letter_23 : decode cX6_letter 23 = .ok (.if_icmp .lt 6, 3) := by decide +kernel
theorem dX6_letter_26 : decode cX6_letter 26 = .ok (.bipush (-104), 2) := by decide +kernel
theorem dX6_letter_28 : decode cX6_letter 28 = .ok (.ireturn, 1) := by decide +kernel
theorem dX6_letter_29 : decode cX6_letter 29 = .ok (.aload_n 0, 1) := by decide +kernel
theorem dX6_letter_30 : decode cX6_letter 30 = .ok (.getfield 10, 3) := by decide +kernel
theorem dX6_letter_33 : decode cX6_letter 33 = .ok (.iload_n 1, 1) := by decide +kernel
theorem dX6_letter_34 : decode cX6_letter 34 = .ok (.invokevirtual 48, 3) := by decide +kernel
theorem dX6_letter_37 : decode cX6_letter 37 = .ok (.aload_n 0, 1) := by decide +kernel
theorem dX6_letter_38 : decode cX6_letter 38 = .ok (.getfield 10, 3) := by decide +kernel
theorem dX6_letter_41 : decode cX6_letter 41 = .ok (.invokevirtual 44, 3) := by decide +kernel
theorem dX6_letter_44 : decode cX6_letter 44 = .ok (.ireturn, 1) := by decide +kernel
set_option maxRecDepth 20000 in
theorem ggX6_blank_X2_size : GoodIn wsX6_blank wsX2_size := goodIn_r _ [6, 7, 19, 20] (by decide +kernel) (by decide +kernel)
set_option maxRecDepth 20000 in
theorem gX6_blank_X2_size : GoodIn wsX6_blank (wsV RX6 44 RX2 yX2_size wsX2_size) := goodIn_app (goodIn_of _ (by decide +kernel)) ggX6_blank_X2_size
set_option maxRecDepth 20000 in
theorem ggX6_blank_X2_clear : GoodIn wsX6_blank wsX2_clear := goodIn_r _ [11, 7, 19, 20] (by decide +kernel) (by decide +kernel)
set_option maxRecDepth 20000 in
theorem gX6_blank_X2_clear : GoodIn wsX6_blank (wsV RX6 52 RX2 yX2_clear wsX2_clear) := goodIn_app (goodIn_of _ (by decide +kernel)) ggX6_blank_X2_clear
theorem dX6_blank_0 : decode cX6_blank 0 = .ok (.aload_n 0, 1) := by decide +kernel
theorem dX6_blank_1 : decode cX6_blank 1 = .ok (.getfield 10, 3) := by decide +kernel
theorem dX6_blank_4 : decode cX6_blank 4 = .ok (.invokevirtual 44, 3) := by decide +kernel
theorem dX6_blank_7 : decode cX6_blank 7 = .ok (.istore_n 1, 1) := by decide +kernel
theorem dX6_blank_8 : decode cX6_blank 8 = .ok (.aload_n 0, 1) := by decide +kernel
theorem dX6_blank_9 : decode cX6_blank 9 = .ok (.getfield 10, 3) := by decide +kernel
theorem dX6_blank_12 : decode cX6_blank 12 = .ok (.invokevirtual 52, 3) := by decide +kernel
theorem dX6_blank_15 : decode cX6_blank 15 = .ok (.iload_n 1, 1) := by decide +kernel
theorem dX6_blank_16 : decode cX6_blank 16 = .ok (.ireturn, 1) := by decide +kernel
set_option maxRecDepth 20000 in
theorem ggX6_fault_X2_faultPlace : GoodIn wsX6_fault wsX2_faultPlace := goodIn_r _ [6, 7, 8, 9, 10, 11, 5, 12, 13, 14, 15, 16, 17, 18, 19, 20, 21, 22, 23, 24, 25, 26, 27, 28, 29, 30, 31, 32, 33, 34, 35, 36, 37, 38, 39, 40, 41, 42, 43, 44, 45, 46, 47, 48, 49, 50, 51, 52, 53, 54, 55, 56, 57, 58, 59, 60, 61, 62, 63, 64, 65, 66, 67, 68, 69, 70, 71, 72, 73, 74, 75, 76, 77, 78, 79, 80, 81, 82, 83, 84, 85, 86, 87, 88, 89, 90, 91, 92, 93, 94, 95, 96, 97, 98, 99, 100, 101, 102, 103, 104, 105, 106, 107, 115, 116] (by decide +kernel) (by decide +kernel)
set_option maxRecDepth 20000 in
theorem gX6_fault_X2_faultPlace : GoodIn wsX6_fault (wsV RX6 55 RX2 yX2_faultPlace wsX2_faultPlace) := goodIn_app (goodIn_of _ (by decide +kernel)) ggX6_fault_X2_faultPlace
theorem dX6_fault_0 : decode cX6_fault 0 = .ok (.aload_n 0, 1) := by decide +kernel
theorem dX6_fault_1 : decode cX6_fault 1 = .ok (.getfield 10, 3) := by decide +kernel
theorem dX6_fault_4 : decode cX6_fault 4 = .ok (.invokevirtual 55, 3) := by decide +kernel
theorem dX6_fault_7 : decode cX6_fault 7 = .ok (.ireturn, 1) := by decide +kernel
set_option maxRecDepth 20000 in
theorem ggX6_wall_X2_isWall : GoodIn wsX6_wall wsX2_isWall := goodIn_r _ [11, 12, 13, 14, 15, 10, 16, 17, 18, 19, 20, 21, 22, 23, 24, 25, 26, 27, 28, 29, 30, 31, 32, 33, 34, 35, 36, 37, 38, 39, 40, 41, 42, 43, 44, 45, 46, 47, 48, 49, 50, 51, 52, 53, 54, 55, 56, 57, 58, 59, 60, 61, 62, 63, 64, 65, 66, 67, 68, 69, 70, 71, 72, 73, 74, 75, 76, 77, 78, 79, 80, 81, 82, 83, 84, 85, 86, 87, 88, 89, 90, 91, 92, 93, 94, 95, 96, 97, 98, 99, 100, 101, 102, 103, 104, 105, 106, 107, 108, 109, 110, 111, 112, 113, 114, 115, 116, 189, 190] (by decide +kernel) (by decide +kernel)
set_option maxRecDepth 20000 in
theorem gX6_wall_X2_isWall : GoodIn wsX6_wall (wsV RX6 58 RX2 yX2_isWall wsX2_isWall) := goodIn_app (goodIn_of _ (by decide +kernel)) ggX6_wall_X2_isWall
set_option maxRecDepth 20000 in
theorem ggX6_wall_X4_clear : GoodIn wsX6_wall wsX4_clear := goodIn_r _ [121, 122, 123, 124, 125, 126, 127, 128, 129, 130, 131, 132, 133, 134, 135, 136, 137, 138, 139, 140, 141, 142, 143, 144, 185, 186, 187, 188, 191, 192, 193, 194, 195, 196, 197, 198, 199, 200, 201, 202] (by decide +kernel) (by decide +kernel)
set_option maxRecDepth 20000 in
theorem gX6_wall_X4_clear : GoodIn wsX6_wall (wsV RX6 62 RX4 yX4_clear wsX4_clear) := goodIn_app (goodIn_of _ (by decide +kernel)) ggX6_wall_X4_clear
set_option maxRecDepth 20000 in
theorem ggX6_wall_X2_copyClauses : GoodIn wsX6_wall wsX2_copyClauses := goodIn_r _ [148, 13, 14, 15, 10, 16, 12, 17, 149, 150, 151, 152, 25, 26, 27, 28, 29, 30, 31, 32, 33, 34, 35, 36, 37, 38, 39, 40, 41, 42, 43, 44, 45, 46, 47, 48, 49, 50, 51, 52, 53, 54, 55, 56, 57, 58, 59, 60, 61, 62, 63, 64, 65, 66, 67, 68, 69, 70, 71, 72, 73, 74, 75, 76, 77, 78, 79, 80, 81, 82, 83, 84, 85, 86, 87, 88, 89, 90, 91, 92, 93, 94, 95, 96, 97, 98, 99, 100, 101, 102, 103, 104, 105, 106, 107, 108, 109, 110, 111, 112, 113, 153, 154, 155, 129, 156, 131, 157, 158, 159, 160, 189, 190, 191, 192, 193, 194, 195] (by decide +kernel) (by decide +kernel)
set_option maxRecDepth 20000 in
theorem gX6_wall_X2_copyClauses : GoodIn wsX6_wall (wsV RX6 67 RX2 yX2_copyClauses wsX2_copyClauses) := goodIn_app (goodIn_of _ (by decide +kernel)) ggX6_wall_X2_copyClauses
set_option maxRecDepth 20000 in
theorem ggX6_wall_X2_copyRain : GoodIn wsX6_wall wsX2_copyRain := goodIn_r _ [164, 12, 13, 14, 15, 10, 16, 17, 149, 150, 151, 152, 165, 166, 167, 135, 168, 137, 169, 189, 190, 196, 197, 198] (by decide +kernel) (by decide +kernel)
set_option maxRecDepth 20000 in
theorem gX6_wall_X2_copyRain : GoodIn wsX6_wall (wsV RX6 75 RX2 yX2_copyRain wsX2_copyRain) := goodIn_app (goodIn_of _ (by decide +kernel)) ggX6_wall_X2_copyRain
set_option maxRecDepth 20000 in
theorem ggX6_wall_X2_clear : GoodIn wsX6_wall wsX2_clear := goodIn_r _ [173, 12, 189, 190] (by decide +kernel) (by decide +kernel)
set_option maxRecDepth 20000 in
theorem gX6_wall_X2_clear : GoodIn wsX6_wall (wsV RX6 52 RX2 yX2_clear wsX2_clear) := goodIn_app (goodIn_of _ (by decide +kernel)) ggX6_wall_X2_clear
set_option maxRecDepth 20000 in
theorem ggX6_wall_X0_size : GoodIn wsX6_wall wsX0_size := goodIn_r _ [177, 131, 191, 192, 193, 194, 195] (by decide +kernel) (by decide +kernel)
set_option maxRecDepth 20000 in
theorem gX6_wall_X0_size : GoodIn wsX6_wall (wsV RX6 79 RX0 yX0_size wsX0_size) := goodIn_app (goodIn_of _ (by decide +kernel)) ggX6_wall_X0_size
theorem dX6_wall_0 : decode cX6_wall 0 = .ok (.aload_n 0, 1) := by decide +kernel
theorem dX6_wall_1 : decode cX6_wall 1 = .ok (.getfield 10, 3) := by decide +kernel
theorem dX6_wall_4 : decode cX6_wall 4 = .ok (.invokevirtual 58, 3) := by decide +kernel
theorem dX6_wall_7 : decode cX6_wall 7 = .ok (.ifCond .ne 6, 3) := by decide +kernel
theorem dX6_wall_10 : decode cX6_wall 10 = .ok (.bipush (-103), 2) := by decide +kernel
theorem dX6_wall_12 : decode cX6_wall 12 = .ok (.ireturn, 1) := by decide +kernel
theorem dX6_wall_13 : decode cX6_wall 13 = .ok (.aload_n 0, 1) := by decide +kernel
theorem dX6_wall_14 : decode cX6_wall 14 = .ok (.getfield 19, 3) := by decide +kernel
theorem dX6_wall_17 : decode cX6_wall 17 = .ok (.invokevirtual 62, 3) := by decide +kernel
theorem dX6_wall_20 : decode cX6_wall 20 = .ok (.aload_n 0, 1) := by decide +kernel
theorem dX6_wall_21 : decode cX6_wall 21 = .ok (.getfield 10, 3) := by decide +kernel
theorem dX6_wall_24 : decode cX6_wall 24 = .ok (.aload_n 0, 1) := by decide +kernel
theorem dX6_wall_25 : decode cX6_wall 25 = .ok (.getfield 19, 3) := by decide +kernel
theorem dX6_wall_28 : decode cX6_wall 28 = .ok (.getfield 63, 3) := by decide +kernel
theorem dX6_wall_31 : decode cX6_wall 31 = .ok (.invokevirtual 67, 3) := by decide +kernel
theorem dX6_wall_34 : decode cX6_wall 34 = .ok (.aload_n 0, 1) := by decide +kernel
theorem dX6_wall_35 : decode cX6_wall 35 = .ok (.getfield 10, 3) := by decide +kernel
theorem dX6_wall_38 : decode cX6_wall 38 = .ok (.aload_n 0, 1) := by decide +kernel
theorem dX6_wall_39 : decode cX6_wall 39 = .ok (.getfield 19, 3) := by decide +kernel
theorem dX6_wall_42 : decode cX6_wall 42 = .ok (.getfield 71, 3) := by decide +kernel
theorem dX6_wall_45 : decode cX6_wall 45 = .ok (.invokevirtual 75, 3) := by decide +kernel
theorem dX6_wall_48 : decode cX6_wall 48 = .ok (.aload_n 0, 1) := by decide +kernel
theorem dX6_wall_49 : decode cX6_wall 49 = .ok (.getfield 10, 3) := by decide +kernel
theorem dX6_wall_52 : decode cX6_wall 52 = .ok (.invokevirtual 52, 3) := by decide +kernel
theorem dX6_wall_55 : decode cX6_wall 55 = .ok (.aload_n 0, 1) := by decide +kernel
theorem dX6_wall_56 : decode cX6_wall 56 = .ok (.iconst 0, 1) := by decide +kernel
theorem dX6_wall_57 : decode cX6_wall 57 = .ok (.putfield 33, 3) := by decide +kernel
theorem dX6_wall_60 : decode cX6_wall 60 = .ok (.aload_n 0, 1) := by decide +kernel
theorem dX6_wall_61 : decode cX6_wall 61 = .ok (.dup, 1) := by decide +kernel
theorem dX6_wall_62 : decode cX6_wall 62 = .ok (.getfield 37, 3) := by decide +kernel
theorem dX6_wall_65 : decode cX6_wall 65 = .ok (.iconst 1, 1) := by decide +kernel
theorem dX6_wall_66 : decode cX6_wall 66 = .ok (.iadd, 1) := by decide +kernel
theorem dX6_wall_67 : decode cX6_wall 67 = .ok (.putfield 37, 3) := by decide +kernel
theorem dX6_wall_70 : decode cX6_wall 70 = .ok (.aload_n 0, 1) := by decide +kernel
theorem dX6_wall_71 : decode cX6_wall 71 = .ok (.getfield 19, 3) := by decide +kernel
theorem dX6_wall_74 : decode cX6_wall 74 = .ok (.getfield 63, 3) := by decide +kernel
theorem dX6_wall_77 : decode cX6_wall 77 = .ok (.invokevirtual 79, 3) := by decide +kernel
theorem dX6_wall_80 : decode cX6_wall 80 = .ok (.ireturn, 1) := by decide +kernel
set_option maxRecDepth 20000 in
theorem ggX6_clause_X0_has : GoodIn wsX6_clause wsX0_has := goodIn_r _ [9, 10, 142, 143, 144, 145, 146] (by decide +kernel) (by decide +kernel)
set_option maxRecDepth 20000 in
theorem gX6_clause_X0_has : GoodIn wsX6_clause (wsV RX6 82 RX0 yX0_has wsX0_has) := goodIn_app (goodIn_of _ (by decide +kernel)) ggX6_clause_X0_has
set_option maxRecDepth 20000 in
theorem ggX6_clause_X0_kindOf : GoodIn wsX6_clause wsX0_kindOf := goodIn_r _ [14, 15, 16, 6, 7, 8, 9, 10, 142, 143, 144, 145, 146] (by decide +kernel) (by decide +kernel)
set_option maxRecDepth 20000 in
theorem gX6_clause_X0_kindOf : GoodIn wsX6_clause (wsV RX6 86 RX0 yX0_kindOf wsX0_kindOf) := goodIn_app (goodIn_of _ (by decide +kernel)) ggX6_clause_X0_kindOf
set_option maxRecDepth 20000 in
theorem ggX6_clause_X0_deepOf : GoodIn wsX6_clause wsX0_deepOf := goodIn_r _ [20, 21, 16, 6, 7, 8, 9, 10, 142, 143, 144, 145, 146] (by decide +kernel) (by decide +kernel)
set_option maxRecDepth 20000 in
theorem gX6_clause_X0_deepOf : GoodIn wsX6_clause (wsV RX6 90 RX0 yX0_deepOf wsX0_deepOf) := goodIn_app (goodIn_of _ (by decide +kernel)) ggX6_clause_X0_deepOf
set_option maxRecDepth 20000 in
theorem ggX6_clause_X0_leanOf : GoodIn wsX6_clause wsX0_leanOf := goodIn_r _ [25, 26, 16, 6, 7, 8, 9, 10, 142, 143, 144, 145, 146] (by decide +kernel) (by decide +kernel)
set_option maxRecDepth 20000 in
theorem gX6_clause_X0_leanOf : GoodIn wsX6_clause (wsV RX6 93 RX0 yX0_leanOf wsX0_leanOf) := goodIn_app (goodIn_of _ (by decide +kernel)) ggX6_clause_X0_leanOf
set_option maxRecDepth 20000 in
theorem ggX6_clause_X0_mossOn : GoodIn wsX6_clause wsX0_mossOn := goodIn_r _ [30, 31, 16, 6, 7, 8, 9, 10, 142, 143, 144, 145, 146] (by decide +kernel) (by decide +kernel)
set_option maxRecDepth 20000 in
theorem gX6_clause_X0_mossOn : GoodIn wsX6_clause (wsV RX6 96 RX0 yX0_mossOn wsX0_mossOn) := goodIn_app (goodIn_of _ (by decide +kernel)) ggX6_clause_X0_mossOn
set_option maxRecDepth 20000 in
theorem ggX6_clause_X0_isClosed : GoodIn wsX6_clause wsX0_isClosed := goodIn_r _ [35, 31, 21, 16, 6, 7, 8, 9, 10, 142, 143, 144, 145, 146] (by decide +kernel) (by decide +kernel)
set_option maxRecDepth 20000 in
theorem gX6_clause_X0_isClosed : GoodIn wsX6_clause (wsV RX6 99 RX0 yX0_isClosed wsX0_isClosed) := goodIn_app (goodIn_of _ (by decide +kernel)) ggX6_clause_X0_isClosed
set_option maxRecDepth 20000 in
theorem ggX6_clause_X0_forceBits : GoodIn wsX6_clause wsX0_forceBits := goodIn_r _ [39, 10, 26, 15, 40, 33, 34, 8, 35, 31, 21, 16, 6, 7, 9, 142, 143, 144, 145, 146] (by decide +kernel) (by decide +kernel)
set_option maxRecDepth 20000 in
theorem gX6_clause_X0_forceBits : GoodIn wsX6_clause (wsV RX6 102 RX0 yX0_forceBits wsX0_forceBits) := goodIn_app (goodIn_of _ (by decide +kernel)) ggX6_clause_X0_forceBits
set_option maxRecDepth 20000 in
theorem ggX6_clause_X1_begin : GoodIn wsX6_clause wsX1_begin := goodIn_r _ [45, 46, 47, 48, 49, 50, 51, 52, 53, 8, 54, 10, 15, 55, 56, 57, 58, 21, 26, 31, 59, 60, 61, 62, 63, 64, 65, 66, 67, 147, 148, 149, 150, 151, 138, 139, 140, 141, 142, 143, 144, 145, 146, 152, 153, 154] (by decide +kernel) (by decide +kernel)
set_option maxRecDepth 20000 in
theorem gX6_clause_X1_begin : GoodIn wsX6_clause (wsV RX6 105 RX1 yX1_begin wsX1_begin) := goodIn_app (goodIn_of _ (by decide +kernel)) ggX6_clause_X1_begin
set_option maxRecDepth 20000 in
theorem ggX6_clause_X1_whenClosed : GoodIn wsX6_clause wsX1_whenClosed := goodIn_r _ [71, 48, 72, 33, 34, 8, 35, 31, 21, 16, 6, 7, 9, 10, 73, 74, 75, 44, 76, 49, 77, 78, 79, 62, 80, 65, 81, 82, 83, 84, 64, 66, 85, 86, 87, 88, 26, 15, 40, 89, 90, 91, 92, 93, 94, 95, 96, 97, 98, 99, 100, 101, 102, 103, 104, 105, 106, 107, 108, 147, 148, 149, 150, 151, 142, 143, 144, 145, 146, 152, 153, 154] (by decide +kernel) (by decide +kernel)
set_option maxRecDepth 20000 in
theorem gX6_clause_X1_whenClosed : GoodIn wsX6_clause (wsV RX6 109 RX1 yX1_whenClosed wsX1_whenClosed) := goodIn_app (goodIn_of _ (by decide +kernel)) ggX6_clause_X1_whenClosed
set_option maxRecDepth 20000 in
theorem ggX6_clause_X3_sortsOf : GoodIn wsX6_clause wsX3_sortsOf := goodIn_r _ [113, 114, 115, 116, 112, 117, 118, 119, 120, 121, 89, 90, 91, 92, 93, 94, 95, 96, 97, 98, 155, 156, 157, 158] (by decide +kernel) (by decide +kernel)
set_option maxRecDepth 20000 in
theorem gX6_clause_X3_sortsOf : GoodIn wsX6_clause (wsV RX6 116 RX3 yX3_sortsOf wsX3_sortsOf) := goodIn_app (goodIn_of _ (by decide +kernel)) ggX6_clause_X3_sortsOf
set_option maxRecDepth 20000 in
theorem ggX6_clause_X3_rainToTry : GoodIn wsX6_clause wsX3_rainToTry := goodIn_r _ [125, 126, 110, 111, 112, 113, 114, 115, 116, 117, 118, 119, 120, 121, 89, 90, 91, 92, 93, 94, 95, 96, 97, 98, 127, 128, 129, 130, 155, 156, 157, 158] (by decide +kernel) (by decide +kernel)
set_option maxRecDepth 20000 in
theorem gX6_clause_X3_rainToTry : GoodIn wsX6_clause (wsV RX6 121 RX3 yX3_rainToTry wsX3_rainToTry) := goodIn_app (goodIn_of _ (by decide +kernel)) ggX6_clause_X3_rainToTry
theorem dX6_clause_0 : decode cX6_clause 0 = .ok (.aload_n 0, 1) := by decide +kernel
theorem dX6_clause_1 : decode cX6_clause 1 = .ok (.getfield 19, 3) := by decide +kernel
theorem dX6_clause_4 : decode cX6_clause 4 = .ok (.getfield 63, 3) := by decide +kernel
theorem dX6_clause_7 : decode cX6_clause 7 = .ok (.iload_n 1, 1) := by decide +kernel
theorem dX6_clause_8 : decode cX6_clause 8 = .ok (.invokevirtual 82, 3) := by decide +kernel
theorem dX6_clause_11 : decode cX6_clause 11 = .ok (.ifCond .ne 6, 3) := by decide +kernel
theorem dX6_clause_14 : decode cX6_clause 14 = .ok (.bipush (-101), 2) := by decide +kernel
theorem dX6_clause_16 : decode cX6_clause 16 = .ok (.ireturn, 1) := by decide +kernel
theorem dX6_clause_17 : decode cX6_clause 17 = .ok (.iload_n 2, 1) := by decide +kernel
theorem dX6_clause_18 : decode cX6_clause 18 = .ok (.tableswitch 177 0 8 #[50, 62, 74, 86, 98, 118, 133, 153, 165], 50) := by decide +kernel
theorem dX6_clause_68 : decode cX6_clause 68 = .ok (.aload_n 0, 1) := by decide +kernel
theorem dX6_clause_69 : decode cX6_clause 69 = .ok (.getfield 19, 3) := by decide +kernel
theorem dX6_clause_72 : decode cX6_clause 72 = .ok (.getfield 63, 3) := by decide +kernel
theorem dX6_clause_75 : decode cX6_clause 75 = .ok (.iload_n 1, 1) := by decide +kernel
theorem dX6_clause_76 : decode cX6_clause 76 = .ok (.invokevirtual 86, 3) := by decide +kernel
theorem dX6_clause_79 : decode cX6_clause 79 = .ok (.ireturn, 1) := by decide +kernel
theorem dX6_clause_80 : decode cX6_clause 80 = .ok (.aload_n 0, 1) := by decide +kernel
theorem dX6_clause_81 : decode cX6_clause 81 = .ok (.getfield 19, 3) := by decide +kernel
theorem dX6_clause_84 : decode cX6_clause 84 = .ok (.getfield 63, 3) := by decide +kernel
theorem dX6_clause_87 : decode cX6_clause 87 = .ok (.iload_n 1, 1) := by decide +kernel
theorem dX6_clause_88 : decode cX6_clause 88 = .ok (.invokevirtual 90, 3) := by decide +kernel
theorem dX6_clause_91 : decode cX6_clause 91 = .ok (.ireturn, 1) := by decide +kernel
theorem dX6_clause_92 : decode cX6_clause 92 = .ok (.aload_n 0, 1) := by decide +kernel
theorem dX6_clause_93 : decode cX6_clause 93 = .ok (.getfield 19, 3) := by decide +kernel
theorem dX6_clause_96 : decode cX6_clause 96 = .ok (.getfield 63, 3) := by decide +kernel
theorem dX6_clause_99 : decode cX6_clause 99 = .ok (.iload_n 1, 1) := by decide +kernel
theorem dX6_clause_100 : decode cX6_clause 100 = .ok (.invokevirtual 93, 3) := by decide +kernel
theorem dX6_clause_103 : decode cX6_clause 103 = .ok (.ireturn, 1) := by decide +kernel
theorem dX6_clause_104 : decode cX6_clause 104 = .ok (.aload_n 0, 1) := by decide +kernel
theorem dX6_clause_105 : decode cX6_clause 105 = .ok (.getfield 19, 3) := by decide +kernel
theorem dX6_clause_108 : decode cX6_clause 108 = .ok (.getfield 63, 3) := by decide +kernel
theorem dX6_clause_111 : decode cX6_clause 111 = .ok (.iload_n 1, 1) := by decide +kernel
theorem dX6_clause_112 : decode cX6_clause 112 = .ok (.invokevirtual 96, 3) := by decide +kernel
theorem dX6_clause_115 : decode cX6_clause 115 = .ok (.ireturn, 1) := by decide +kernel
theorem dX6_clause_116 : decode cX6_clause 116 = .ok (.aload_n 0, 1) := by decide +kernel
theorem dX6_clause_117 : decode cX6_clause 117 = .ok (.getfield 19, 3) := by decide +kernel
theorem dX6_clause_120 : decode cX6_clause 120 = .ok (.getfield 63, 3) := by decide +kernel
theorem dX6_clause_123 : decode cX6_clause 123 = .ok (.iload_n 1, 1) := by decide +kernel
theorem dX6_clause_124 : decode cX6_clause 124 = .ok (.invokevirtual 99, 3) := by decide +kernel
theorem dX6_clause_127 : decode cX6_clause 127 = .ok (.ifCond .eq 7, 3) := by decide +kernel
theorem dX6_clause_130 : decode cX6_clause 130 = .ok (.iconst 1, 1) := by decide +kernel
theorem dX6_clause_131 : decode cX6_clause 131 = .ok (.goto 4, 3) := by decide +kernel
theorem dX6_clause_134 : decode cX6_clause 134 = .ok (.iconst 0, 1) := by decide +kernel
theorem dX6_clause_135 : decode cX6_clause 135 = .ok (.ireturn, 1) := by decide +kernel
theorem dX6_clause_136 : decode cX6_clause 136 = .ok (.aload_n 0, 1) := by decide +kernel
theorem dX6_clause_137 : decode cX6_clause 137 = .ok (.getfield 19, 3) := by decide +kernel
theorem dX6_clause_140 : decode cX6_clause 140 = .ok (.getfield 63, 3) := by decide +kernel
theorem dX6_clause_143 : decode cX6_clause 143 = .ok (.invokevirtual 102, 3) := by decide +kernel
theorem dX6_clause_146 : decode cX6_clause 146 = .ok (.iload_n 1, 1) := by decide +kernel
theorem dX6_clause_147 : decode cX6_clause 147 = .ok (.ishr, 1) := by decide +kernel
theorem dX6_clause_148 : decode cX6_clause 148 = .ok (.iconst 1, 1) := by decide +kernel
theorem dX6_clause_149 : decode cX6_clause 149 = .ok (.iand, 1) := by decide +kernel
theorem dX6_clause_150 : decode cX6_clause 150 = .ok (.ireturn, 1) := by decide +kernel
theorem dX6_clause_151 : decode cX6_clause 151 = .ok (.aload_n 0, 1) := by decide +kernel
theorem dX6_clause_152 : decode cX6_clause 152 = .ok (.getfield 29, 3) := by decide +kernel
theorem dX6_clause_155 : decode cX6_clause 155 = .ok (.aload_n 0, 1) := by decide +kernel
theorem dX6_clause_156 : decode cX6_clause 156 = .ok (.getfield 19, 3) := by decide +kernel
theorem dX6_clause_159 : decode cX6_clause 159 = .ok (.invokevirtual 105, 3) := by decide +kernel
theorem dX6_clause_162 : decode cX6_clause 162 = .ok (.aload_n 0, 1) := by decide +kernel
theorem dX6_clause_163 : decode cX6_clause 163 = .ok (.getfield 29, 3) := by decide +kernel
theorem dX6_clause_166 : decode cX6_clause 166 = .ok (.iload_n 1, 1) := by decide +kernel
theorem dX6_clause_167 : decode cX6_clause 167 = .ok (.invokevirtual 109, 3) := by decide +kernel
theorem dX6_clause_170 : decode cX6_clause 170 = .ok (.ireturn, 1) := by decide +kernel
theorem dX6_clause_171 : decode cX6_clause 171 = .ok (.aload_n 0, 1) := by decide +kernel
theorem dX6_clause_172 : decode cX6_clause 172 = .ok (.getfield 19, 3) := by decide +kernel
theorem dX6_clause_175 : decode cX6_clause 175 = .ok (.getfield 112, 3) := by decide +kernel
theorem dX6_clause_178 : decode cX6_clause 178 = .ok (.iload_n 1, 1) := by decide +kernel
theorem dX6_clause_179 : decode cX6_clause 179 = .ok (.invokevirtual 116, 3) := by decide +kernel
theorem dX6_clause_182 : decode cX6_clause 182 = .ok (.ireturn, 1) := by decide +kernel
theorem dX6_clause_183 : decode cX6_clause 183 = .ok (.aload_n 0, 1) := by decide +kernel
theorem dX6_clause_184 : decode cX6_clause 184 = .ok (.getfield 19, 3) := by decide +kernel
theorem dX6_clause_187 : decode cX6_clause 187 = .ok (.getfield 112, 3) := by decide +kernel
theorem dX6_clause_190 : decode cX6_clause 190 = .ok (.iload_n 1, 1) := by decide +kernel
theorem dX6_clause_191 : decode cX6_clause 191 = .ok (.invokevirtual 121, 3) := by decide +kernel
theorem dX6_clause_194 : decode cX6_clause 194 = .ok (.ireturn, 1) := by decide +kernel
theorem dX6_clause_195 : decode cX6_clause 195 = .ok (.bipush (-102), 2) := by decide +kernel
theorem dX6_clause_197 : decode cX6_clause 197 = .ok (.ireturn, 1) := by decide +kernel
set_option maxRecDepth 20000 in
theorem ggX6_as_X0_has : GoodIn wsX6_as wsX0_has := goodIn_r _ [7, 8, 30, 31, 32, 33, 34] (by decide +kernel) (by decide +kernel)
set_option maxRecDepth 20000 in
theorem gX6_as_X0_has : GoodIn wsX6_as (wsV RX6 82 RX0 yX0_has wsX0_has) := goodIn_app (goodIn_of _ (by decide +kernel)) ggX6_as_X0_has
set_option maxRecDepth 20000 in
theorem ggX6_as_X6_isKind : GoodIn wsX6_as wsX6_isKind := goodIn_r _ [12] (by decide +kernel) (by decide +kernel)
set_option maxRecDepth 20000 in
theorem gX6_as_X6_isKind : GoodIn wsX6_as (va_wsS RX6 124 yX6_isKind wsX6_isKind) := goodIn_app (goodIn_of _ (by decide +kernel)) ggX6_as_X6_isKind
set_option maxRecDepth 20000 in
theorem ggX6_as_X0_kindOf : GoodIn wsX6_as wsX0_kindOf := goodIn_r _ [16, 17, 18, 4, 5, 6, 7, 8, 30, 31, 32, 33, 34] (by decide +kernel) (by decide +kernel)
set_option maxRecDepth 20000 in
theorem gX6_as_X0_kindOf : GoodIn wsX6_as (wsV RX6 86 RX0 yX0_kindOf wsX0_kindOf) := goodIn_app (goodIn_of _ (by decide +kernel)) ggX6_as_X0_kindOf
theorem dX6_as_0 : decode cX6_as 0 = .ok (.aload_n 0, 1) := by decide +kernel
theorem dX6_as_1 : decode cX6_as 1 = .ok (.getfield 19, 3) := by decide +kernel
theorem dX6_as_4 : decode cX6_as 4 = .ok (.getfield 63, 3) := by decide +kernel
theorem dX6_as_7 : decode cX6_as 7 = .ok (.iload_n 1, 1) := by decide +kernel
theorem dX6_as_8 : decode cX6_as 8 = .ok (.invokevirtual 82, 3) := by decide +kernel
theorem dX6_as_11 : decode cX6_as 11 = .ok (.ifCond .ne 6, 3) := by decide +kernel
theorem dX6_as_14 : decode cX6_as 14 = .ok (.bipush (-101), 2) := by decide +kernel
theorem dX6_as_16 : decode cX6_as 16 = .ok (.ireturn, 1) := by decide +kernel
theorem dX6_as_17 : decode cX6_as 17 = .ok (.iload_n 2, 1) := by decide +kernel
theorem dX6_as_18 : decode cX6_as 18 = .ok (.invokestatic 124, 3) := by decide +kernel
theorem dX6_as_21 : decode cX6_as 21 = .ok (.ifCond .ne 6, 3) := by decide +kernel
theorem dX6_as_24 : decode cX6_as 24 = .ok (.bipush (-102), 2) := by decide +kernel
theorem dX6_as_26 : decode cX6_as 26 = .ok (.ireturn, 1) := by decide +kernel
theorem dX6_as_27 : decode cX6_as 27 = .ok (.aload_n 0, 1) := by decide +kernel
theorem dX6_as_28 : decode cX6_as 28 = .ok (.getfield 19, 3) := by decide +kernel
theorem dX6_as_31 : decode cX6_as 31 = .ok (.getfield 63, 3) := by decide +kernel
theorem dX6_as_34 : decode cX6_as 34 = .ok (.iload_n 1, 1) := by decide +kernel
theorem dX6_as_35 : decode cX6_as 35 = .ok (.invokevirtual 86, 3) := by decide +kernel
theorem dX6_as_38 : decode cX6_as 38 = .ok (.istore_n 3, 1) := by decide +kernel
theorem dX6_as_39 : decode cX6_as 39 = .ok (.iload_n 2, 1) := by decide +kernel
theorem dX6_as_40 : decode cX6_as 40 = .ok (.ifCond .eq 18, 3) := by decide +kernel
theorem dX6_as_43 : decode cX6_as 43 = .ok (.iload_n 2, 1) := by decide +kernel
theorem dX6_as_44 : decode cX6_as 44 = .ok (.iload_n 3, 1) := by decide +kernel
theorem dX6_as_45 : decode cX6_as 45 = .ok (.if_icmp .eq 13, 3) := by decide +kernel
theorem dX6_as_48 : decode cX6_as 48 = .ok (.iload_n 2, 1) := by decide +kernel
theorem dX6_as_49 : decode cX6_as 49 = .ok (.iconst 2, 1) := by decide +kernel
theorem dX6_as_50 : decode cX6_as 50 = .ok (.if_icmp .ne 12, 3) := by decide +kernel
theorem dX6_as_53 : decode cX6_as 53 = .ok (.iload_n 3, 1) := by decide +kernel
theorem dX6_as_54 : decode cX6_as 54 = .ok (.iconst 4, 1) := by decide +kernel
theorem dX6_as_55 : decode cX6_as 55 = .ok (.if_icmp .ne 7, 3) := by decide +kernel
theorem dX6_as_58 : decode cX6_as 58 = .ok (.iconst 1, 1) := by decide +kernel
theorem dX6_as_59 : decode cX6_as 59 = .ok (.goto 4, 3) := by decide +kernel
theorem dX6_as_62 : decode cX6_as 62 = .ok (.iconst 0, 1) := by decide +kernel
theorem dX6_as_63 : decode cX6_as 63 = .ok (.istore 4, 2) := by decide +kernel
theorem dX6_as_65 : decode cX6_as 65 = .ok (.iload 4, 2) := by decide +kernel
theorem dX6_as_67 : decode cX6_as 67 = .ok (.ifCond .eq 7, 3) := by decide +kernel
theorem dX6_as_70 : decode cX6_as 70 = .ok (.iload_n 1, 1) := by decide +kernel
theorem dX6_as_71 : decode cX6_as 71 = .ok (.goto 4, 3) := by decide +kernel
theorem dX6_as_74 : decode cX6_as 74 = .ok (.iconst (-1), 1) := by decide +kernel
theorem dX6_as_75 : decode cX6_as 75 = .ok (.ireturn, 1) := by decide +kernel
set_option maxRecDepth 20000 in
theorem ggX6_rain_X4_stands : GoodIn wsX6_rain wsX4_stands := goodIn_r _ [7, 8, 9, 10, 11, 12, 13, 14, 29, 30, 31, 32, 33, 34, 35, 36, 37] (by decide +kernel) (by decide +kernel)
set_option maxRecDepth 20000 in
theorem gX6_rain_X4_stands : GoodIn wsX6_rain (wsV RX6 127 RX4 yX4_stands wsX4_stands) := goodIn_app (goodIn_of _ (by decide +kernel)) ggX6_rain_X4_stands
set_option maxRecDepth 20000 in
theorem ggX6_rain_X5_rainOf : GoodIn wsX6_rain wsX5_rainOf := goodIn_r _ [19, 20, 21, 38, 39, 40] (by decide +kernel) (by decide +kernel)
set_option maxRecDepth 20000 in
theorem gX6_rain_X5_rainOf : GoodIn wsX6_rain (wsV RX6 130 RX5 yX5_rainOf wsX5_rainOf) := goodIn_app (goodIn_of _ (by decide +kernel)) ggX6_rain_X5_rainOf
theorem dX6_rain_0 : decode cX6_rain 0 = .ok (.iload_n 1, 1) := by decide +kernel
theorem dX6_rain_1 : decode cX6_rain 1 = .ok (.ifCond .ge 6, 3) := by decide +kernel
theorem dX6_rain_4 : decode cX6_rain 4 = .ok (.bipush (-102), 2) := by decide +kernel
theorem dX6_rain_6 : decode cX6_rain 6 = .ok (.ireturn, 1) := by decide +kernel
theorem dX6_rain_7 : decode cX6_rain 7 = .ok (.aload_n 0, 1) := by decide +kernel
theorem dX6_rain_8 : decode cX6_rain 8 = .ok (.getfield 19, 3) := by decide +kernel
theorem dX6_rain_11 : decode cX6_rain 11 = .ok (.invokevirtual 127, 3) := by decide +kernel
theorem dX6_rain_14 : decode cX6_rain 14 = .ok (.ifCond .ne 6, 3) := by decide +kernel
theorem dX6_rain_17 : decode cX6_rain 17 = .ok (.bipush (-103), 2) := by decide +kernel
theorem dX6_rain_19 : decode cX6_rain 19 = .ok (.ireturn, 1) := by decide +kernel
theorem dX6_rain_20 : decode cX6_rain 20 = .ok (.aload_n 0, 1) := by decide +kernel
theorem dX6_rain_21 : decode cX6_rain 21 = .ok (.getfield 19, 3) := by decide +kernel
theorem dX6_rain_24 : decode cX6_rain 24 = .ok (.getfield 71, 3) := by decide +kernel
theorem dX6_rain_27 : decode cX6_rain 27 = .ok (.iload_n 1, 1) := by decide +kernel
theorem dX6_rain_28 : decode cX6_rain 28 = .ok (.invokevirtual 130, 3) := by decide +kernel
theorem dX6_rain_31 : decode cX6_rain 31 = .ok (.ireturn, 1) := by decide +kernel
set_option maxRecDepth 20000 in
theorem ggX6_week_X4_stands : GoodIn wsX6_week wsX4_stands := goodIn_r _ [8, 9, 10, 11, 12, 13, 14, 15, 75, 76, 77, 78, 79, 80, 81, 82, 83] (by decide +kernel) (by decide +kernel)
set_option maxRecDepth 20000 in
theorem gX6_week_X4_stands : GoodIn wsX6_week (wsV RX6 127 RX4 yX4_stands wsX4_stands) := goodIn_app (goodIn_of _ (by decide +kernel)) ggX6_week_X4_stands
set_option maxRecDepth 20000 in
theorem ggX6_week_X5_next : GoodIn wsX6_week wsX5_next := goodIn_r _ [20, 21, 84, 85, 86] (by decide +kernel) (by decide +kernel)
set_option maxRecDepth 20000 in
theorem gX6_week_X5_next : GoodIn wsX6_week (wsV RX6 135 RX5 yX5_next wsX5_next) := goodIn_app (goodIn_of _ (by decide +kernel)) ggX6_week_X5_next
set_option maxRecDepth 20000 in
theorem ggX6_week_X5_rainOf : GoodIn wsX6_week wsX5_rainOf := goodIn_r _ [25, 26, 27, 84, 85, 86] (by decide +kernel) (by decide +kernel)
set_option maxRecDepth 20000 in
theorem gX6_week_X5_rainOf : GoodIn wsX6_week (wsV RX6 130 RX5 yX5_rainOf wsX5_rainOf) := goodIn_app (goodIn_of _ (by decide +kernel)) ggX6_week_X5_rainOf
set_option maxRecDepth 20000 in
theorem ggX6_week_X0_grow : GoodIn wsX6_week wsX0_grow := goodIn_r _ [31, 15, 32, 33, 34, 35, 36, 13, 37, 38, 39, 40, 41, 42, 43, 44, 45, 46, 47, 48, 49, 50, 51, 52, 53, 54, 55, 56, 57, 58, 59, 79, 80, 81, 82, 83] (by decide +kernel) (by decide +kernel)
set_option maxRecDepth 20000 in
theorem gX6_week_X0_grow : GoodIn wsX6_week (wsV RX6 138 RX0 yX0_grow wsX0_grow) := goodIn_app (goodIn_of _ (by decide +kernel)) ggX6_week_X0_grow
set_option maxRecDepth 20000 in
theorem ggX6_week_X5_goOn : GoodIn wsX6_week wsX5_goOn := goodIn_r _ [63, 21, 84, 85, 86] (by decide +kernel) (by decide +kernel)
set_option maxRecDepth 20000 in
theorem gX6_week_X5_goOn : GoodIn wsX6_week (wsV RX6 141 RX5 yX5_goOn wsX5_goOn) := goodIn_app (goodIn_of _ (by decide +kernel)) ggX6_week_X5_goOn
set_option maxRecDepth 20000 in
theorem ggX6_week_X0_closedBits : GoodIn wsX6_week wsX0_closedBits := goodIn_r _ [67, 15, 34, 35, 36, 13, 37, 38, 39, 40, 41, 42, 43, 79, 80, 81, 82, 83] (by decide +kernel) (by decide +kernel)
set_option maxRecDepth 20000 in
theorem gX6_week_X0_closedBits : GoodIn wsX6_week (wsV RX6 144 RX0 yX0_closedBits wsX0_closedBits) := goodIn_app (goodIn_of _ (by decide +kernel)) ggX6_week_X0_closedBits
theorem dX6_week_0 : decode cX6_week 0 = .ok (.aload_n 0, 1) := by decide +kernel
theorem dX6_week_1 : decode cX6_week 1 = .ok (.getfield 19, 3) := by decide +kernel
theorem dX6_week_4 : decode cX6_week 4 = .ok (.invokevirtual 127, 3) := by decide +kernel
theorem dX6_week_7 : decode cX6_week 7 = .ok (.ifCond .ne 6, 3) := by decide +kernel
theorem dX6_week_10 : decode cX6_week 10 = .ok (.bipush (-103), 2) := by decide +kernel
theorem dX6_week_12 : decode cX6_week 12 = .ok (.ireturn, 1) := by decide +kernel
theorem dX6_week_13 : decode cX6_week 13 = .ok (.aload_n 0, 1) := by decide +kernel
theorem dX6_week_14 : decode cX6_week 14 = .ok (.getfield 19, 3) := by decide +kernel
theorem dX6_week_17 : decode cX6_week 17 = .ok (.getfield 71, 3) := by decide +kernel
theorem dX6_week_20 : decode cX6_week 20 = .ok (.invokevirtual 135, 3) := by decide +kernel
theorem dX6_week_23 : decode cX6_week 23 = .ok (.sipush 999, 3) := by decide +kernel
theorem dX6_week_26 : decode cX6_week 26 = .ok (.if_icmp .lt 6, 3) := by decide +kernel
theorem dX6_week_29 : decode cX6_week 29 = .ok (.bipush (-104), 2) := by decide +kernel
theorem dX6_week_31 : decode cX6_week 31 = .ok (.ireturn, 1) := by decide +kernel
theorem dX6_week_32 : decode cX6_week 32 = .ok (.aload_n 0, 1) := by decide +kernel
theorem dX6_week_33 : decode cX6_week 33 = .ok (.getfield 19, 3) := by decide +kernel
theorem dX6_week_36 : decode cX6_week 36 = .ok (.getfield 63, 3) := by decide +kernel
theorem dX6_week_39 : decode cX6_week 39 = .ok (.aload_n 0, 1) := by decide +kernel
theorem dX6_week_40 : decode cX6_week 40 = .ok (.getfield 19, 3) := by decide +kernel
theorem dX6_week_43 : decode cX6_week 43 = .ok (.getfield 71, 3) := by decide +kernel
theorem dX6_week_46 : decode cX6_week 46 = .ok (.aload_n 0, 1) := by decide +kernel
theorem dX6_week_47 : decode cX6_week 47 = .ok (.getfield 19, 3) := by decide +kernel
theorem dX6_week_50 : decode cX6_week 50 = .ok (.getfield 71, 3) := by decide +kernel
theorem dX6_week_53 : decode cX6_week 53 = .ok (.invokevirtual 135, 3) := by decide +kernel
theorem dX6_week_56 : decode cX6_week 56 = .ok (.invokevirtual 130, 3) := by decide +kernel
theorem dX6_week_59 : decode cX6_week 59 = .ok (.invokevirtual 138, 3) := by decide +kernel
theorem dX6_week_62 : decode cX6_week 62 = .ok (.aload_n 0, 1) := by decide +kernel
theorem dX6_week_63 : decode cX6_week 63 = .ok (.getfield 19, 3) := by decide +kernel
theorem dX6_week_66 : decode cX6_week 66 = .ok (.getfield 71, 3) := by decide +kernel
theorem dX6_week_69 : decode cX6_week 69 = .ok (.invokevirtual 141, 3) := by decide +kernel
theorem dX6_week_72 : decode cX6_week 72 = .ok (.aload_n 0, 1) := by decide +kernel
theorem dX6_week_73 : decode cX6_week 73 = .ok (.getfield 19, 3) := by decide +kernel
theorem dX6_week_76 : decode cX6_week 76 = .ok (.getfield 63, 3) := by decide +kernel
theorem dX6_week_79 : decode cX6_week 79 = .ok (.invokevirtual 144, 3) := by decide +kernel
theorem dX6_week_82 : decode cX6_week 82 = .ok (.ireturn, 1) := by decide +kernel
set_option maxRecDepth 20000 in
theorem ggX6_breathe_X0_has : GoodIn wsX6_breathe wsX0_has := goodIn_r _ [8, 9, 43, 44, 45, 46, 47] (by decide +kernel) (by decide +kernel)
set_option maxRecDepth 20000 in
theorem gX6_breathe_X0_has : GoodIn wsX6_breathe (wsV RX6 82 RX0 yX0_has wsX0_has) := goodIn_app (goodIn_of _ (by decide +kernel)) ggX6_breathe_X0_has
set_option maxRecDepth 20000 in
theorem ggX6_breathe_X0_isClosed : GoodIn wsX6_breathe wsX0_isClosed := goodIn_r _ [13, 14, 15, 16, 5, 6, 7, 8, 9, 43, 44, 45, 46, 47] (by decide +kernel) (by decide +kernel)
set_option maxRecDepth 20000 in
theorem gX6_breathe_X0_isClosed : GoodIn wsX6_breathe (wsV RX6 99 RX0 yX0_isClosed wsX0_isClosed) := goodIn_app (goodIn_of _ (by decide +kernel)) ggX6_breathe_X0_isClosed
set_option maxRecDepth 20000 in
theorem ggX6_breathe_X0_addMoss : GoodIn wsX6_breathe wsX0_addMoss := goodIn_r _ [20, 14, 21, 22, 23, 24, 25, 26, 27, 16, 5, 6, 7, 8, 9, 43, 44, 45, 46, 47] (by decide +kernel) (by decide +kernel)
set_option maxRecDepth 20000 in
theorem gX6_breathe_X0_addMoss : GoodIn wsX6_breathe (wsV RX6 150 RX0 yX0_addMoss wsX0_addMoss) := goodIn_app (goodIn_of _ (by decide +kernel)) ggX6_breathe_X0_addMoss
set_option maxRecDepth 20000 in
theorem ggX6_breathe_X0_mossOn : GoodIn wsX6_breathe wsX0_mossOn := goodIn_r _ [31, 14, 16, 5, 6, 7, 8, 9, 43, 44, 45, 46, 47] (by decide +kernel) (by decide +kernel)
set_option maxRecDepth 20000 in
theorem gX6_breathe_X0_mossOn : GoodIn wsX6_breathe (wsV RX6 96 RX0 yX0_mossOn wsX0_mossOn) := goodIn_app (goodIn_of _ (by decide +kernel)) ggX6_breathe_X0_mossOn
theorem dX6_breathe_0 : decode cX6_breathe 0 = .ok (.aload_n 0, 1) := by decide +kernel
theorem dX6_breathe_1 : decode cX6_breathe 1 = .ok (.getfield 19, 3) := by decide +kernel
theorem dX6_breathe_4 : decode cX6_breathe 4 = .ok (.getfield 63, 3) := by decide +kernel
theorem dX6_breathe_7 : decode cX6_breathe 7 = .ok (.iload_n 1, 1) := by decide +kernel
theorem dX6_breathe_8 : decode cX6_breathe 8 = .ok (.invokevirtual 82, 3) := by decide +kernel
theorem dX6_breathe_11 : decode cX6_breathe 11 = .ok (.ifCond .ne 6, 3) := by decide +kernel
theorem dX6_breathe_14 : decode cX6_breathe 14 = .ok (.bipush (-101), 2) := by decide +kernel
theorem dX6_breathe_16 : decode cX6_breathe 16 = .ok (.ireturn, 1) := by decide +kernel
theorem dX6_breathe_17 : decode cX6_breathe 17 = .ok (.aload_n 0, 1) := by decide +kernel
theorem dX6_breathe_18 : decode cX6_breathe 18 = .ok (.getfield 19, 3) := by decide +kernel
theorem dX6_breathe_21 : decode cX6_breathe 21 = .ok (.getfield 63, 3) := by decide +kernel
theorem dX6_breathe_24 : decode cX6_breathe 24 = .ok (.iload_n 1, 1) := by decide +kernel
theorem dX6_breathe_25 : decode cX6_breathe 25 = .ok (.invokevirtual 99, 3) := by decide +kernel
theorem dX6_breathe_28 : decode cX6_breathe 28 = .ok (.ifCond .eq 6, 3) := by decide +kernel
theorem dX6_breathe_31 : decode cX6_breathe 31 = .ok (.bipush (-103), 2) := by decide +kernel
theorem dX6_breathe_33 : decode cX6_breathe 33 = .ok (.ireturn, 1) := by decide +kernel
theorem dX6_breathe_34 : decode cX6_breathe 34 = .ok (.aload_n 0, 1) := by decide +kernel
theorem dX6_breathe_35 : decode cX6_breathe 35 = .ok (.getfield 19, 3) := by decide +kernel
theorem dX6_breathe_38 : decode cX6_breathe 38 = .ok (.getfield 147, 3) := by decide +kernel
theorem dX6_breathe_41 : decode cX6_breathe 41 = .ok (.sipush 9999, 3) := by decide +kernel
theorem dX6_breathe_44 : decode cX6_breathe 44 = .ok (.if_icmp .lt 6, 3) := by decide +kernel
theorem dX6_breathe_47 : decode cX6_breathe 47 = .ok (.bipush (-104), 2) := by decide +kernel
theorem dX6_breathe_49 : decode cX6_breathe 49 = .ok (.ireturn, 1) := by decide +kernel
theorem dX6_breathe_50 : decode cX6_breathe 50 = .ok (.aload_n 0, 1) := by decide +kernel
theorem dX6_breathe_51 : decode cX6_breathe 51 = .ok (.getfield 19, 3) := by decide +kernel
theorem dX6_breathe_54 : decode cX6_breathe 54 = .ok (.getfield 63, 3) := by decide +kernel
theorem dX6_breathe_57 : decode cX6_breathe 57 = .ok (.iload_n 1, 1) := by decide +kernel
theorem dX6_breathe_58 : decode cX6_breathe 58 = .ok (.iconst 1, 1) := by decide +kernel
theorem dX6_breathe_59 : decode cX6_breathe 59 = .ok (.invokevirtual 150, 3) := by decide +kernel
theorem dX6_breathe_62 : decode cX6_breathe 62 = .ok (.aload_n 0, 1) := by decide +kernel
theorem dX6_breathe_63 : decode cX6_breathe 63 = .ok (.getfield 19, 3) := by decide +kernel
theorem dX6_breathe_66 : decode cX6_breathe 66 = .ok (.dup, 1) := by decide +kernel
theorem dX6_breathe_67 : decode cX6_breathe 67 = .ok (.getfield 147, 3) := by decide +kernel
theorem dX6_breathe_70 : decode cX6_breathe 70 = .ok (.iconst 1, 1) := by decide +kernel
theorem dX6_breathe_71 : decode cX6_breathe 71 = .ok (.iadd, 1) := by decide +kernel
theorem dX6_breathe_72 : decode cX6_breathe 72 = .ok (.putfield 147, 3) := by decide +kernel
theorem dX6_breathe_75 : decode cX6_breathe 75 = .ok (.aload_n 0, 1) := by decide +kernel
theorem dX6_breathe_76 : decode cX6_breathe 76 = .ok (.getfield 19, 3) := by decide +kernel
theorem dX6_breathe_79 : decode cX6_breathe 79 = .ok (.getfield 63, 3) := by decide +kernel
theorem dX6_breathe_82 : decode cX6_breathe 82 = .ok (.iload_n 1, 1) := by decide +kernel
theorem dX6_breathe_83 : decode cX6_breathe 83 = .ok (.invokevirtual 96, 3) := by decide +kernel
theorem dX6_breathe_86 : decode cX6_breathe 86 = .ok (.ireturn, 1) := by decide +kernel
set_option maxRecDepth 20000 in
theorem ggX6_scrape_X0_has : GoodIn wsX6_scrape wsX0_has := goodIn_r _ [7, 8, 42, 43, 44, 45, 46] (by decide +kernel) (by decide +kernel)
set_option maxRecDepth 20000 in
theorem gX6_scrape_X0_has : GoodIn wsX6_scrape (wsV RX6 82 RX0 yX0_has wsX0_has) := goodIn_app (goodIn_of _ (by decide +kernel)) ggX6_scrape_X0_has
set_option maxRecDepth 20000 in
theorem ggX6_scrape_X0_mossOn : GoodIn wsX6_scrape wsX0_mossOn := goodIn_r _ [12, 13, 14, 4, 5, 6, 7, 8, 42, 43, 44, 45, 46] (by decide +kernel) (by decide +kernel)
set_option maxRecDepth 20000 in
theorem gX6_scrape_X0_mossOn : GoodIn wsX6_scrape (wsV RX6 96 RX0 yX0_mossOn wsX0_mossOn) := goodIn_app (goodIn_of _ (by decide +kernel)) ggX6_scrape_X0_mossOn
set_option maxRecDepth 20000 in
theorem ggX6_scrape_X0_kindOf : GoodIn wsX6_scrape wsX0_kindOf := goodIn_r _ [18, 19, 14, 4, 5, 6, 7, 8, 42, 43, 44, 45, 46] (by decide +kernel) (by decide +kernel)
set_option maxRecDepth 20000 in
theorem gX6_scrape_X0_kindOf : GoodIn wsX6_scrape (wsV RX6 86 RX0 yX0_kindOf wsX0_kindOf) := goodIn_app (goodIn_of _ (by decide +kernel)) ggX6_scrape_X0_kindOf
set_option maxRecDepth 20000 in
theorem ggX6_scrape_X0_addMoss : GoodIn wsX6_scrape wsX0_addMoss := goodIn_r _ [23, 13, 24, 25, 26, 27, 28, 29, 30, 14, 4, 5, 6, 7, 8, 42, 43, 44, 45, 46] (by decide +kernel) (by decide +kernel)
set_option maxRecDepth 20000 in
theorem gX6_scrape_X0_addMoss : GoodIn wsX6_scrape (wsV RX6 150 RX0 yX0_addMoss wsX0_addMoss) := goodIn_app (goodIn_of _ (by decide +kernel)) ggX6_scrape_X0_addMoss
theorem dX6_scrape_0 : decode cX6_scrape 0 = .ok (.aload_n 0, 1) := by decide +kernel
theorem dX6_scrape_1 : decode cX6_scrape 1 = .ok (.getfield 19, 3) := by decide +kernel
theorem dX6_scrape_4 : decode cX6_scrape 4 = .ok (.getfield 63, 3) := by decide +kernel
theorem dX6_scrape_7 : decode cX6_scrape 7 = .ok (.iload_n 1, 1) := by decide +kernel
theorem dX6_scrape_8 : decode cX6_scrape 8 = .ok (.invokevirtual 82, 3) := by decide +kernel
theorem dX6_scrape_11 : decode cX6_scrape 11 = .ok (.ifCond .ne 6, 3) := by decide +kernel
theorem dX6_scrape_14 : decode cX6_scrape 14 = .ok (.bipush (-101), 2) := by decide +kernel
theorem dX6_scrape_16 : decode cX6_scrape 16 = .ok (.ireturn, 1) := by decide +kernel
theorem dX6_scrape_17 : decode cX6_scrape 17 = .ok (.aload_n 0, 1) := by decide +kernel
theorem dX6_scrape_18 : decode cX6_scrape 18 = .ok (.getfield 19, 3) := by decide +kernel
theorem dX6_scrape_21 : decode cX6_scrape 21 = .ok (.getfield 63, 3) := by decide +kernel
theorem dX6_scrape_24 : decode cX6_scrape 24 = .ok (.iload_n 1, 1) := by decide +kernel
theorem dX6_scrape_25 : decode cX6_scrape 25 = .ok (.invokevirtual 96, 3) := by decide +kernel
theorem dX6_scrape_28 : decode cX6_scrape 28 = .ok (.istore_n 2, 1) := by decide +kernel
theorem dX6_scrape_29 : decode cX6_scrape 29 = .ok (.iload_n 2, 1) := by decide +kernel
theorem dX6_scrape_30 : decode cX6_scrape 30 = .ok (.ifCond .ne 6, 3) := by decide +kernel
theorem dX6_scrape_33 : decode cX6_scrape 33 = .ok (.bipush (-103), 2) := by decide +kernel
theorem dX6_scrape_35 : decode cX6_scrape 35 = .ok (.ireturn, 1) := by decide +kernel
theorem dX6_scrape_36 : decode cX6_scrape 36 = .ok (.aload_n 0, 1) := by decide +kernel
theorem dX6_scrape_37 : decode cX6_scrape 37 = .ok (.getfield 19, 3) := by decide +kernel
theorem dX6_scrape_40 : decode cX6_scrape 40 = .ok (.getfield 63, 3) := by decide +kernel
theorem dX6_scrape_43 : decode cX6_scrape 43 = .ok (.iload_n 1, 1) := by decide +kernel
theorem dX6_scrape_44 : decode cX6_scrape 44 = .ok (.invokevirtual 86, 3) := by decide +kernel
theorem dX6_scrape_47 : decode cX6_scrape 47 = .ok (.iconst 4, 1) := by decide +kernel
theorem dX6_scrape_48 : decode cX6_scrape 48 = .ok (.if_icmp .ne 7, 3) := by decide +kernel
theorem dX6_scrape_51 : decode cX6_scrape 51 = .ok (.iconst 1, 1) := by decide +kernel
theorem dX6_scrape_52 : decode cX6_scrape 52 = .ok (.goto 4, 3) := by decide +kernel
theorem dX6_scrape_55 : decode cX6_scrape 55 = .ok (.iload_n 2, 1) := by decide +kernel
theorem dX6_scrape_56 : decode cX6_scrape 56 = .ok (.istore_n 3, 1) := by decide +kernel
theorem dX6_scrape_57 : decode cX6_scrape 57 = .ok (.aload_n 0, 1) := by decide +kernel
theorem dX6_scrape_58 : decode cX6_scrape 58 = .ok (.getfield 19, 3) := by decide +kernel
theorem dX6_scrape_61 : decode cX6_scrape 61 = .ok (.getfield 63, 3) := by decide +kernel
theorem dX6_scrape_64 : decode cX6_scrape 64 = .ok (.iload_n 1, 1) := by decide +kernel
theorem dX6_scrape_65 : decode cX6_scrape 65 = .ok (.iload_n 3, 1) := by decide +kernel
theorem dX6_scrape_66 : decode cX6_scrape 66 = .ok (.ineg, 1) := by decide +kernel
theorem dX6_scrape_67 : decode cX6_scrape 67 = .ok (.invokevirtual 150, 3) := by decide +kernel
theorem dX6_scrape_70 : decode cX6_scrape 70 = .ok (.iload_n 3, 1) := by decide +kernel
theorem dX6_scrape_71 : decode cX6_scrape 71 = .ok (.ireturn, 1) := by decide +kernel
set_option maxRecDepth 20000 in
theorem ggX6_change_X0_has : GoodIn wsX6_change wsX0_has := goodIn_r _ [7, 8, 35, 36, 37, 38, 39] (by decide +kernel) (by decide +kernel)
set_option maxRecDepth 20000 in
theorem gX6_change_X0_has : GoodIn wsX6_change (wsV RX6 82 RX0 yX0_has wsX0_has) := goodIn_app (goodIn_of _ (by decide +kernel)) ggX6_change_X0_has
set_option maxRecDepth 20000 in
theorem ggX6_change_X6_isKind : GoodIn wsX6_change wsX6_isKind := goodIn_r _ [12] (by decide +kernel) (by decide +kernel)
set_option maxRecDepth 20000 in
theorem gX6_change_X6_isKind : GoodIn wsX6_change (va_wsS RX6 124 yX6_isKind wsX6_isKind) := goodIn_app (goodIn_of _ (by decide +kernel)) ggX6_change_X6_isKind
set_option maxRecDepth 20000 in
theorem ggX6_change_X0_kindOf : GoodIn wsX6_change wsX0_kindOf := goodIn_r _ [16, 17, 18, 4, 5, 6, 7, 8, 35, 36, 37, 38, 39] (by decide +kernel) (by decide +kernel)
set_option maxRecDepth 20000 in
theorem gX6_change_X0_kindOf : GoodIn wsX6_change (wsV RX6 86 RX0 yX0_kindOf wsX0_kindOf) := goodIn_app (goodIn_of _ (by decide +kernel)) ggX6_change_X0_kindOf
set_option maxRecDepth 20000 in
theorem ggX6_change_X0_setKind : GoodIn wsX6_change wsX0_setKind := goodIn_r _ [22, 17, 23, 18, 4, 5, 6, 7, 8, 35, 36, 37, 38, 39] (by decide +kernel) (by decide +kernel)
set_option maxRecDepth 20000 in
theorem gX6_change_X0_setKind : GoodIn wsX6_change (wsV RX6 154 RX0 yX0_setKind wsX0_setKind) := goodIn_app (goodIn_of _ (by decide +kernel)) ggX6_change_X0_setKind
theorem dX6_change_0 : decode cX6_change 0 = .ok (.aload_n 0, 1) := by decide +kernel
theorem dX6_change_1 : decode cX6_change 1 = .ok (.getfield 19, 3) := by decide +kernel
theorem dX6_change_4 : decode cX6_change 4 = .ok (.getfield 63, 3) := by decide +kernel
theorem dX6_change_7 : decode cX6_change 7 = .ok (.iload_n 1, 1) := by decide +kernel
theorem dX6_change_8 : decode cX6_change 8 = .ok (.invokevirtual 82, 3) := by decide +kernel
theorem dX6_change_11 : decode cX6_change 11 = .ok (.ifCond .ne 6, 3) := by decide +kernel
theorem dX6_change_14 : decode cX6_change 14 = .ok (.bipush (-101), 2) := by decide +kernel
theorem dX6_change_16 : decode cX6_change 16 = .ok (.ireturn, 1) := by decide +kernel
theorem dX6_change_17 : decode cX6_change 17 = .ok (.iload_n 2, 1) := by decide +kernel
theorem dX6_change_18 : decode cX6_change 18 = .ok (.invokestatic 124, 3) := by decide +kernel
theorem dX6_change_21 : decode cX6_change 21 = .ok (.ifCond .eq 14, 3) := by decide +kernel
theorem dX6_change_24 : decode cX6_change 24 = .ok (.iload_n 3, 1) := by decide +kernel
theorem dX6_change_25 : decode cX6_change 25 = .ok (.iconst 1, 1) := by decide +kernel
theorem dX6_change_26 : decode cX6_change 26 = .ok (.if_icmp .lt 9, 3) := by decide +kernel
theorem dX6_change_29 : decode cX6_change 29 = .ok (.iload_n 3, 1) := by decide +kernel
theorem dX6_change_30 : decode cX6_change 30 = .ok (.bipush 9, 2) := by decide +kernel
theorem dX6_change_32 : decode cX6_change 32 = .ok (.if_icmp .le 6, 3) := by decide +kernel
theorem dX6_change_35 : decode cX6_change 35 = .ok (.bipush (-102), 2) := by decide +kernel
theorem dX6_change_37 : decode cX6_change 37 = .ok (.ireturn, 1) := by decide +kernel
theorem dX6_change_38 : decode cX6_change 38 = .ok (.aload_n 0, 1) := by decide +kernel
theorem dX6_change_39 : decode cX6_change 39 = .ok (.getfield 19, 3) := by decide +kernel
theorem dX6_change_42 : decode cX6_change 42 = .ok (.getfield 63, 3) := by decide +kernel
theorem dX6_change_45 : decode cX6_change 45 = .ok (.iload_n 1, 1) := by decide +kernel
theorem dX6_change_46 : decode cX6_change 46 = .ok (.invokevirtual 86, 3) := by decide +kernel
theorem dX6_change_49 : decode cX6_change 49 = .ok (.istore 4, 2) := by decide +kernel
theorem dX6_change_51 : decode cX6_change 51 = .ok (.aload_n 0, 1) := by decide +kernel
theorem dX6_change_52 : decode cX6_change 52 = .ok (.getfield 19, 3) := by decide +kernel
theorem dX6_change_55 : decode cX6_change 55 = .ok (.getfield 63, 3) := by decide +kernel
theorem dX6_change_58 : decode cX6_change 58 = .ok (.iload_n 1, 1) := by decide +kernel
theorem dX6_change_59 : decode cX6_change 59 = .ok (.iload_n 2, 1) := by decide +kernel
theorem dX6_change_60 : decode cX6_change 60 = .ok (.iload_n 3, 1) := by decide +kernel
theorem dX6_change_61 : decode cX6_change 61 = .ok (.invokevirtual 154, 3) := by decide +kernel
theorem dX6_change_64 : decode cX6_change 64 = .ok (.iload 4, 2) := by decide +kernel
theorem dX6_change_66 : decode cX6_change 66 = .ok (.ireturn, 1) := by decide +kernel
set_option maxRecDepth 20000 in
theorem ggX6_lean_X0_has : GoodIn wsX6_lean wsX0_has := goodIn_r _ [7, 8, 30, 31, 32, 33, 34] (by decide +kernel) (by decide +kernel)
set_option maxRecDepth 20000 in
theorem gX6_lean_X0_has : GoodIn wsX6_lean (wsV RX6 82 RX0 yX0_has wsX0_has) := goodIn_app (goodIn_of _ (by decide +kernel)) ggX6_lean_X0_has
set_option maxRecDepth 20000 in
theorem ggX6_lean_X0_leanOf : GoodIn wsX6_lean wsX0_leanOf := goodIn_r _ [12, 13, 14, 4, 5, 6, 7, 8, 30, 31, 32, 33, 34] (by decide +kernel) (by decide +kernel)
set_option maxRecDepth 20000 in
theorem gX6_lean_X0_leanOf : GoodIn wsX6_lean (wsV RX6 93 RX0 yX0_leanOf wsX0_leanOf) := goodIn_app (goodIn_of _ (by decide +kernel)) ggX6_lean_X0_leanOf
set_option maxRecDepth 20000 in
theorem ggX6_lean_X0_setLean : GoodIn wsX6_lean wsX0_setLean := goodIn_r _ [18, 13, 14, 4, 5, 6, 7, 8, 30, 31, 32, 33, 34] (by decide +kernel) (by decide +kernel)
set_option maxRecDepth 20000 in
theorem gX6_lean_X0_setLean : GoodIn wsX6_lean (wsV RX6 158 RX0 yX0_setLean wsX0_setLean) := goodIn_app (goodIn_of _ (by decide +kernel)) ggX6_lean_X0_setLean
theorem dX6_lean_0 : decode cX6_lean 0 = .ok (.aload_n 0, 1) := by decide +kernel
theorem dX6_lean_1 : decode cX6_lean 1 = .ok (.getfield 19, 3) := by decide +kernel
theorem dX6_lean_4 : decode cX6_lean 4 = .ok (.getfield 63, 3) := by decide +kernel
