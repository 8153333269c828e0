theorem dX0_init_0 : decode cX0_init 0 = .ok (.aload_n 0, 1) := by decide +kernel
theorem dX0_init_1 : decode cX0_init 1 = .ok (.invokespecial 3, 3) := by decide +kernel
theorem dX0_init_4 : decode cX0_init 4 = .ok (.aload_n 0, 1) := by decide +kernel
theorem dX0_init_5 : decode cX0_init 5 = .ok (.bipush 6, 2) := by decide +kernel
theorem dX0_init_7 : decode cX0_init 7 = .ok (.newarray .int, 2) := by decide +kernel
theorem dX0_init_9 : decode cX0_init 9 = .ok (.putfield 9, 3) := by decide +kernel
theorem dX0_init_12 : decode cX0_init 12 = .ok (.aload_n 0, 1) := by decide +kernel
theorem dX0_init_13 : decode cX0_init 13 = .ok (.bipush 6, 2) := by decide +kernel
theorem dX0_init_15 : decode cX0_init 15 = .ok (.newarray .int, 2) := by decide +kernel
theorem dX0_init_17 : decode cX0_init 17 = .ok (.putfield 15, 3) := by decide +kernel
theorem dX0_init_20 : decode cX0_init 20 = .ok (.aload_n 0, 1) := by decide +kernel
theorem dX0_init_21 : decode cX0_init 21 = .ok (.bipush 6, 2) := by decide +kernel
theorem dX0_init_23 : decode cX0_init 23 = .ok (.newarray .int, 2) := by decide +kernel
theorem dX0_init_25 : decode cX0_init 25 = .ok (.putfield 18, 3) := by decide +kernel
theorem dX0_init_28 : decode cX0_init 28 = .ok (.aload_n 0, 1) := by decide +kernel
theorem dX0_init_29 : decode cX0_init 29 = .ok (.bipush 6, 2) := by decide +kernel
theorem dX0_init_31 : decode cX0_init 31 = .ok (.newarray .int, 2) := by decide +kernel
theorem dX0_init_33 : decode cX0_init 33 = .ok (.putfield 21, 3) := by decide +kernel
theorem dX0_init_36 : decode cX0_init 36 = .ok (.aload_n 0, 1) := by decide +kernel
theorem dX0_init_37 : decode cX0_init 37 = .ok (.iconst 0, 1) := by decide +kernel
theorem dX0_init_38 : decode cX0_init 38 = .ok (.putfield 24, 3) := by decide +kernel
theorem dX0_init_41 : decode cX0_init 41 = .ok (.return_, 1) := by decide +kernel
theorem dX0_size_0 : decode cX0_size 0 = .ok (.aload_n 0, 1) := by decide +kernel
theorem dX0_size_1 : decode cX0_size 1 = .ok (.getfield 24, 3) := by decide +kernel
theorem dX0_size_4 : decode cX0_size 4 = .ok (.ireturn, 1) := by decide +kernel
theorem dX0_has_0 : decode cX0_has 0 = .ok (.iload_n 1, 1) := by decide +kernel
theorem dX0_has_1 : decode cX0_has 1 = .ok (.ifCond .lt 15, 3) := by decide +kernel
theorem dX0_has_4 : decode cX0_has 4 = .ok (.iload_n 1, 1) := by decide +kernel
theorem dX0_has_5 : decode cX0_has 5 = .ok (.aload_n 0, 1) := by decide +kernel
theorem dX0_has_6 : decode cX0_has 6 = .ok (.getfield 24, 3) := by decide +kernel
theorem dX0_has_9 : decode cX0_has 9 = .ok (.if_icmp .ge 7, 3) := by decide +kernel
theorem dX0_has_12 : decode cX0_has 12 = .ok (.iconst 1, 1) := by decide +kernel
theorem dX0_has_13 : decode cX0_has 13 = .ok (.goto 4, 3) := by decide +kernel
theorem dX0_has_16 : decode cX0_has 16 = .ok (.iconst 0, 1) := by decide +kernel
theorem dX0_has_17 : decode cX0_has 17 = .ok (.ireturn, 1) := by decide +kernel
set_option maxRecDepth 20000 in
theorem ggX0_kindOf_X0_has : GoodIn wsX0_kindOf wsX0_has := goodIn_r _ [6, 7, 8, 9, 10, 11, 12] (by decide +kernel) (by decide +kernel)
set_option maxRecDepth 20000 in
theorem gX0_kindOf_X0_has : GoodIn wsX0_kindOf (wsV RX0 28 RX0 yX0_has wsX0_has) := goodIn_app (goodIn_of _ (by decide +kernel)) ggX0_kindOf_X0_has
theorem dX0_kindOf_0 : decode cX0_kindOf 0 = .ok (.aload_n 0, 1) := by decide +kernel
theorem dX0_kindOf_1 : decode cX0_kindOf 1 = .ok (.iload_n 1, 1) := by decide +kernel
theorem dX0_kindOf_2 : decode cX0_kindOf 2 = .ok (.invokevirtual 28, 3) := by decide +kernel
theorem dX0_kindOf_5 : decode cX0_kindOf 5 = .ok (.ifCond .eq 12, 3) := by decide +kernel
theorem dX0_kindOf_8 : decode cX0_kindOf 8 = .ok (.aload_n 0, 1) := by decide +kernel
theorem dX0_kindOf_9 : decode cX0_kindOf 9 = .ok (.getfield 9, 3) := by decide +kernel
theorem dX0_kindOf_12 : decode cX0_kindOf 12 = .ok (.iload_n 1, 1) := by decide +kernel
theorem dX0_kindOf_13 : decode cX0_kindOf 13 = .ok (.iaload, 1) := by decide +kernel
theorem dX0_kindOf_14 : decode cX0_kindOf 14 = .ok (.goto 4, 3) := by decide +kernel
theorem dX0_kindOf_17 : decode cX0_kindOf 17 = .ok (.iconst (-1), 1) := by decide +kernel
theorem dX0_kindOf_18 : decode cX0_kindOf 18 = .ok (.ireturn, 1) := by decide +kernel
set_option maxRecDepth 20000 in
theorem ggX0_deepOf_X0_has : GoodIn wsX0_deepOf wsX0_has := goodIn_r _ [6, 7, 8, 9, 10, 11, 12] (by decide +kernel) (by decide +kernel)
set_option maxRecDepth 20000 in
theorem gX0_deepOf_X0_has : GoodIn wsX0_deepOf (wsV RX0 28 RX0 yX0_has wsX0_has) := goodIn_app (goodIn_of _ (by decide +kernel)) ggX0_deepOf_X0_has
theorem dX0_deepOf_0 : decode cX0_deepOf 0 = .ok (.aload_n 0, 1) := by decide +kernel
theorem dX0_deepOf_1 : decode cX0_deepOf 1 = .ok (.iload_n 1, 1) := by decide +kernel
theorem dX0_deepOf_2 : decode cX0_deepOf 2 = .ok (.invokevirtual 28, 3) := by decide +kernel
theorem dX0_deepOf_5 : decode cX0_deepOf 5 = .ok (.ifCond .eq 12, 3) := by decide +kernel
theorem dX0_deepOf_8 : decode cX0_deepOf 8 = .ok (.aload_n 0, 1) := by decide +kernel
theorem dX0_deepOf_9 : decode cX0_deepOf 9 = .ok (.getfield 15, 3) := by decide +kernel
theorem dX0_deepOf_12 : decode cX0_deepOf 12 = .ok (.iload_n 1, 1) := by decide +kernel
theorem dX0_deepOf_13 : decode cX0_deepOf 13 = .ok (.iaload, 1) := by decide +kernel
theorem dX0_deepOf_14 : decode cX0_deepOf 14 = .ok (.goto 4, 3) := by decide +kernel
theorem dX0_deepOf_17 : decode cX0_deepOf 17 = .ok (.iconst 0, 1) := by decide +kernel
theorem dX0_deepOf_18 : decode cX0_deepOf 18 = .ok (.ireturn, 1) := by decide +kernel
set_option maxRecDepth 20000 in
theorem ggX0_leanOf_X0_has : GoodIn wsX0_leanOf wsX0_has := goodIn_r _ [6, 7, 8, 9, 10, 11, 12] (by decide +kernel) (by decide +kernel)
set_option maxRecDepth 20000 in
theorem gX0_leanOf_X0_has : GoodIn wsX0_leanOf (wsV RX0 28 RX0 yX0_has wsX0_has) := goodIn_app (goodIn_of _ (by decide +kernel)) ggX0_leanOf_X0_has
theorem dX0_leanOf_0 : decode cX0_leanOf 0 = .ok (.aload_n 0, 1) := by decide +kernel
theorem dX0_leanOf_1 : decode cX0_leanOf 1 = .ok (.iload_n 1, 1) := by decide +kernel
theorem dX0_leanOf_2 : decode cX0_leanOf 2 = .ok (.invokevirtual 28, 3) := by decide +kernel
theorem dX0_leanOf_5 : decode cX0_leanOf 5 = .ok (.ifCond .eq 12, 3) := by decide +kernel
theorem dX0_leanOf_8 : decode cX0_leanOf 8 = .ok (.aload_n 0, 1) := by decide +kernel
theorem dX0_leanOf_9 : decode cX0_leanOf 9 = .ok (.getfield 18, 3) := by decide +kernel
theorem dX0_leanOf_12 : decode cX0_leanOf 12 = .ok (.iload_n 1, 1) := by decide +kernel
theorem dX0_leanOf_13 : decode cX0_leanOf 13 = .ok (.iaload, 1) := by decide +kernel
theorem dX0_leanOf_14 : decode cX0_leanOf 14 = .ok (.goto 4, 3) := by decide +kernel
theorem dX0_leanOf_17 : decode cX0_leanOf 17 = .ok (.iconst (-1), 1) := by decide +kernel
theorem dX0_leanOf_18 : decode cX0_leanOf 18 = .ok (.ireturn, 1) := by decide +kernel
set_option maxRecDepth 20000 in
theorem ggX0_mossOn_X0_has : GoodIn wsX0_mossOn wsX0_has := goodIn_r _ [6, 7, 8, 9, 10, 11, 12] (by decide +kernel) (by decide +kernel)
set_option maxRecDepth 20000 in
theorem gX0_mossOn_X0_has : GoodIn wsX0_mossOn (wsV RX0 28 RX0 yX0_has wsX0_has) := goodIn_app (goodIn_of _ (by decide +kernel)) ggX0_mossOn_X0_has
theorem dX0_mossOn_0 : decode cX0_mossOn 0 = .ok (.aload_n 0, 1) := by decide +kernel
theorem dX0_mossOn_1 : decode cX0_mossOn 1 = .ok (.iload_n 1, 1) := by decide +kernel
theorem dX0_mossOn_2 : decode cX0_mossOn 2 = .ok (.invokevirtual 28, 3) := by decide +kernel
theorem dX0_mossOn_5 : decode cX0_mossOn 5 = .ok (.ifCond .eq 12, 3) := by decide +kernel
theorem dX0_mossOn_8 : decode cX0_mossOn 8 = .ok (.aload_n 0, 1) := by decide +kernel
theorem dX0_mossOn_9 : decode cX0_mossOn 9 = .ok (.getfield 21, 3) := by decide +kernel
theorem dX0_mossOn_12 : decode cX0_mossOn 12 = .ok (.iload_n 1, 1) := by decide +kernel
theorem dX0_mossOn_13 : decode cX0_mossOn 13 = .ok (.iaload, 1) := by decide +kernel
theorem dX0_mossOn_14 : decode cX0_mossOn 14 = .ok (.goto 4, 3) := by decide +kernel
theorem dX0_mossOn_17 : decode cX0_mossOn 17 = .ok (.iconst 0, 1) := by decide +kernel
theorem dX0_mossOn_18 : decode cX0_mossOn 18 = .ok (.ireturn, 1) := by decide +kernel
theorem dX0_clear_0 : decode cX0_clear 0 = .ok (.aload_n 0, 1) := by decide +kernel
theorem dX0_clear_1 : decode cX0_clear 1 = .ok (.iconst 0, 1) := by decide +kernel
theorem dX0_clear_2 : decode cX0_clear 2 = .ok (.putfield 24, 3) := by decide +kernel
theorem dX0_clear_5 : decode cX0_clear 5 = .ok (.return_, 1) := by decide +kernel
theorem dX0_add_0 : decode cX0_add 0 = .ok (.aload_n 0, 1) := by decide +kernel
theorem dX0_add_1 : decode cX0_add 1 = .ok (.getfield 24, 3) := by decide +kernel
theorem dX0_add_4 : decode cX0_add 4 = .ok (.bipush 6, 2) := by decide +kernel
theorem dX0_add_6 : decode cX0_add 6 = .ok (.if_icmp .ge 53, 3) := by decide +kernel
theorem dX0_add_9 : decode cX0_add 9 = .ok (.aload_n 0, 1) := by decide +kernel
theorem dX0_add_10 : decode cX0_add 10 = .ok (.getfield 9, 3) := by decide +kernel
theorem dX0_add_13 : decode cX0_add 13 = .ok (.aload_n 0, 1) := by decide +kernel
theorem dX0_add_14 : decode cX0_add 14 = .ok (.getfield 24, 3) := by decide +kernel
theorem dX0_add_17 : decode cX0_add 17 = .ok (.iload_n 1, 1) := by decide +kernel
theorem dX0_add_18 : decode cX0_add 18 = .ok (.iastore, 1) := by decide +kernel
theorem dX0_add_19 : decode cX0_add 19 = .ok (.aload_n 0, 1) := by decide +kernel
theorem dX0_add_20 : decode cX0_add 20 = .ok (.getfield 15, 3) := by decide +kernel
theorem dX0_add_23 : decode cX0_add 23 = .ok (.aload_n 0, 1) := by decide +kernel
theorem dX0_add_24 : decode cX0_add 24 = .ok (.getfield 24, 3) := by decide +kernel
theorem dX0_add_27 : decode cX0_add 27 = .ok (.iload_n 2, 1) := by decide +kernel
theorem dX0_add_28 : decode cX0_add 28 = .ok (.iastore, 1) := by decide +kernel
theorem dX0_add_29 : decode cX0_add 29 = .ok (.aload_n 0, 1) := by decide +kernel
theorem dX0_add_30 : decode cX0_add 30 = .ok (.getfield 18, 3) := by decide +kernel
theorem dX0_add_33 : decode cX0_add 33 = .ok (.aload_n 0, 1) := by decide +kernel
theorem dX0_add_34 : decode cX0_add 34 = .ok (.getfield 24, 3) := by decide +kernel
theorem dX0_add_37 : decode cX0_add 37 = .ok (.iload_n 3, 1) := by decide +kernel
theorem dX0_add_38 : decode cX0_add 38 = .ok (.iastore, 1) := by decide +kernel
theorem dX0_add_39 : decode cX0_add 39 = .ok (.aload_n 0, 1) := by decide +kernel
theorem dX0_add_40 : decode cX0_add 40 = .ok (.getfield 21, 3) := by decide +kernel
theorem dX0_add_43 : decode cX0_add 43 = .ok (.aload_n 0, 1) := by decide +kernel
theorem dX0_add_44 : decode cX0_add 44 = .ok (.getfield 24, 3) := by decide +kernel
theorem dX0_add_47 : decode cX0_add 47 = .ok (.iconst 0, 1) := by decide +kernel
theorem dX0_add_48 : decode cX0_add 48 = .ok (.iastore, 1) := by decide +kernel
theorem dX0_add_49 : decode cX0_add 49 = .ok (.aload_n 0, 1) := by decide +kernel
theorem dX0_add_50 : decode cX0_add 50 = .ok (.dup, 1) := by decide +kernel
theorem dX0_add_51 : decode cX0_add 51 = .ok (.getfield 24, 3) := by decide +kernel
theorem dX0_add_54 : decode cX0_add 54 = .ok (.iconst 1, 1) := by decide +kernel
theorem dX0_add_55 : decode cX0_add 55 = .ok (.iadd, 1) := by decide +kernel
theorem dX0_add_56 : decode cX0_add 56 = .ok (.putfield 24, 3) := by decide +kernel
theorem dX0_add_59 : decode cX0_add 59 = .ok (.return_, 1) := by decide +kernel
set_option maxRecDepth 20000 in
theorem ggX0_setKind_X0_has : GoodIn wsX0_setKind wsX0_has := goodIn_r _ [7, 8, 9, 10, 11, 12, 13] (by decide +kernel) (by decide +kernel)
set_option maxRecDepth 20000 in
theorem gX0_setKind_X0_has : GoodIn wsX0_setKind (wsV RX0 28 RX0 yX0_has wsX0_has) := goodIn_app (goodIn_of _ (by decide +kernel)) ggX0_setKind_X0_has
theorem dX0_setKind_0 : decode cX0_setKind 0 = .ok (.aload_n 0, 1) := by decide +kernel
theorem dX0_setKind_1 : decode cX0_setKind 1 = .ok (.iload_n 1, 1) := by decide +kernel
theorem dX0_setKind_2 : decode cX0_setKind 2 = .ok (.invokevirtual 28, 3) := by decide +kernel
theorem dX0_setKind_5 : decode cX0_setKind 5 = .ok (.ifCond .eq 17, 3) := by decide +kernel
theorem dX0_setKind_8 : decode cX0_setKind 8 = .ok (.aload_n 0, 1) := by decide +kernel
theorem dX0_setKind_9 : decode cX0_setKind 9 = .ok (.getfield 9, 3) := by decide +kernel
theorem dX0_setKind_12 : decode cX0_setKind 12 = .ok (.iload_n 1, 1) := by decide +kernel
theorem dX0_setKind_13 : decode cX0_setKind 13 = .ok (.iload_n 2, 1) := by decide +kernel
theorem dX0_setKind_14 : decode cX0_setKind 14 = .ok (.iastore, 1) := by decide +kernel
theorem dX0_setKind_15 : decode cX0_setKind 15 = .ok (.aload_n 0, 1) := by decide +kernel
theorem dX0_setKind_16 : decode cX0_setKind 16 = .ok (.getfield 15, 3) := by decide +kernel
theorem dX0_setKind_19 : decode cX0_setKind 19 = .ok (.iload_n 1, 1) := by decide +kernel
theorem dX0_setKind_20 : decode cX0_setKind 20 = .ok (.iload_n 3, 1) := by decide +kernel
theorem dX0_setKind_21 : decode cX0_setKind 21 = .ok (.iastore, 1) := by decide +kernel
theorem dX0_setKind_22 : decode cX0_setKind 22 = .ok (.return_, 1) := by decide +kernel
set_option maxRecDepth 20000 in
theorem ggX0_setLean_X0_has : GoodIn wsX0_setLean wsX0_has := goodIn_r _ [6, 7, 8, 9, 10, 11, 12] (by decide +kernel) (by decide +kernel)
set_option maxRecDepth 20000 in
theorem gX0_setLean_X0_has : GoodIn wsX0_setLean (wsV RX0 28 RX0 yX0_has wsX0_has) := goodIn_app (goodIn_of _ (by decide +kernel)) ggX0_setLean_X0_has
theorem dX0_setLean_0 : decode cX0_setLean 0 = .ok (.aload_n 0, 1) := by decide +kernel
theorem dX0_setLean_1 : decode cX0_setLean 1 = .ok (.iload_n 1, 1) := by decide +kernel
theorem dX0_setLean_2 : decode cX0_setLean 2 = .ok (.invokevirtual 28, 3) := by decide +kernel
theorem dX0_setLean_5 : decode cX0_setLean 5 = .ok (.ifCond .eq 10, 3) := by decide +kernel
theorem dX0_setLean_8 : decode cX0_setLean 8 = .ok (.aload_n 0, 1) := by decide +kernel
theorem dX0_setLean_9 : decode cX0_setLean 9 = .ok (.getfield 18, 3) := by decide +kernel
theorem dX0_setLean_12 : decode cX0_setLean 12 = .ok (.iload_n 1, 1) := by decide +kernel
theorem dX0_setLean_13 : decode cX0_setLean 13 = .ok (.iload_n 2, 1) := by decide +kernel
theorem dX0_setLean_14 : decode cX0_setLean 14 = .ok (.iastore, 1) := by decide +kernel
theorem dX0_setLean_15 : decode cX0_setLean 15 = .ok (.return_, 1) := by decide +kernel
set_option maxRecDepth 20000 in
theorem ggX0_addMoss_X0_has : GoodIn wsX0_addMoss wsX0_has := goodIn_r _ [13, 14, 15, 16, 17, 18, 19] (by decide +kernel) (by decide +kernel)
set_option maxRecDepth 20000 in
theorem gX0_addMoss_X0_has : GoodIn wsX0_addMoss (wsV RX0 28 RX0 yX0_has wsX0_has) := goodIn_app (goodIn_of _ (by decide +kernel)) ggX0_addMoss_X0_has
theorem dX0_addMoss_0 : decode cX0_addMoss 0 = .ok (.aload_n 0, 1) := by decide +kernel
theorem dX0_addMoss_1 : decode cX0_addMoss 1 = .ok (.iload_n 1, 1) := by decide +kernel
theorem dX0_addMoss_2 : decode cX0_addMoss 2 = .ok (.invokevirtual 28, 3) := by decide +kernel
theorem dX0_addMoss_5 : decode cX0_addMoss 5 = .ok (.ifCond .eq 26, 3) := by decide +kernel
theorem dX0_addMoss_8 : decode cX0_addMoss 8 = .ok (.aload_n 0, 1) := by decide +kernel
theorem dX0_addMoss_9 : decode cX0_addMoss 9 = .ok (.getfield 21, 3) := by decide +kernel
theorem dX0_addMoss_12 : decode cX0_addMoss 12 = .ok (.iload_n 1, 1) := by decide +kernel
theorem dX0_addMoss_13 : decode cX0_addMoss 13 = .ok (.aload_n 0, 1) := by decide +kernel
theorem dX0_addMoss_14 : decode cX0_addMoss 14 = .ok (.getfield 21, 3) := by decide +kernel
theorem dX0_addMoss_17 : decode cX0_addMoss 17 = .ok (.iload_n 1, 1) := by decide +kernel
theorem dX0_addMoss_18 : decode cX0_addMoss 18 = .ok (.iaload, 1) := by decide +kernel
theorem dX0_addMoss_19 : decode cX0_addMoss 19 = .ok (.iload_n 2, 1) := by decide +kernel
theorem dX0_addMoss_20 : decode cX0_addMoss 20 = .ok (.iadd, 1) := by decide +kernel
theorem dX0_addMoss_21 : decode cX0_addMoss 21 = .ok (.bipush 99, 2) := by decide +kernel
theorem dX0_addMoss_23 : decode cX0_addMoss 23 = .ok (.invokestatic 32, 3) := by decide +kernel
theorem dX0_addMoss_26 : decode cX0_addMoss 26 = .ok (.iconst 0, 1) := by decide +kernel
theorem dX0_addMoss_27 : decode cX0_addMoss 27 = .ok (.invokestatic 38, 3) := by decide +kernel
theorem dX0_addMoss_30 : decode cX0_addMoss 30 = .ok (.iastore, 1) := by decide +kernel
theorem dX0_addMoss_31 : decode cX0_addMoss 31 = .ok (.return_, 1) := by decide +kernel
theorem dX0_copyFrom_0 : decode cX0_copyFrom 0 = .ok (.aload_n 1, 1) := by decide +kernel
theorem dX0_copyFrom_1 : decode cX0_copyFrom 1 = .ok (.ifnonnull 4, 3) := by decide +kernel
theorem dX0_copyFrom_4 : decode cX0_copyFrom 4 = .ok (.return_, 1) := by decide +kernel
theorem dX0_copyFrom_5 : decode cX0_copyFrom 5 = .ok (.aload_n 0, 1) := by decide +kernel
theorem dX0_copyFrom_6 : decode cX0_copyFrom 6 = .ok (.aload_n 1, 1) := by decide +kernel
theorem dX0_copyFrom_7 : decode cX0_copyFrom 7 = .ok (.getfield 24, 3) := by decide +kernel
theorem dX0_copyFrom_10 : decode cX0_copyFrom 10 = .ok (.putfield 24, 3) := by decide +kernel
theorem dX0_copyFrom_13 : decode cX0_copyFrom 13 = .ok (.aload_n 1, 1) := by decide +kernel
theorem dX0_copyFrom_14 : decode cX0_copyFrom 14 = .ok (.getfield 9, 3) := by decide +kernel
theorem dX0_copyFrom_17 : decode cX0_copyFrom 17 = .ok (.iconst 0, 1) := by decide +kernel
theorem dX0_copyFrom_18 : decode cX0_copyFrom 18 = .ok (.aload_n 0, 1) := by decide +kernel
theorem dX0_copyFrom_19 : decode cX0_copyFrom 19 = .ok (.getfield 9, 3) := by decide +kernel
theorem dX0_copyFrom_22 : decode cX0_copyFrom 22 = .ok (.iconst 0, 1) := by decide +kernel
theorem dX0_copyFrom_23 : decode cX0_copyFrom 23 = .ok (.bipush 6, 2) := by decide +kernel
theorem dX0_copyFrom_25 : decode cX0_copyFrom 25 = .ok (.invokestatic 41, 3) := by decide +kernel
theorem dX0_copyFrom_28 : decode cX0_copyFrom 28 = .ok (.aload_n 1, 1) := by decide +kernel
theorem dX0_copyFrom_29 : decode cX0_copyFrom 29 = .ok (.getfield 15, 3) := by decide +kernel
theorem dX0_copyFrom_32 : decode cX0_copyFrom 32 = .ok (.iconst 0, 1) := by decide +kernel
theorem dX0_copyFrom_33 : decode cX0_copyFrom 33 = .ok (.aload_n 0, 1) := by decide +kernel
theorem dX0_copyFrom_34 : decode cX0_copyFrom 34 = .ok (.getfield 15, 3) := by decide +kernel
theorem dX0_copyFrom_37 : decode cX0_copyFrom 37 = .ok (.iconst 0, 1) := by decide +kernel
theorem dX0_copyFrom_38 : decode cX0_copyFrom 38 = .ok (.bipush 6, 2) := by decide +kernel
theorem dX0_copyFrom_40 : decode cX0_copyFrom 40 = .ok (.invokestatic 41, 3) := by decide +kernel
theorem dX0_copyFrom_43 : decode cX0_copyFrom 43 = .ok (.aload_n 1, 1) := by decide +kernel
theorem dX0_copyFrom_44 : decode cX0_copyFrom 44 = .ok (.getfield 18, 3) := by decide +kernel
theorem dX0_copyFrom_47 : decode cX0_copyFrom 47 = .ok (.iconst 0, 1) := by decide +kernel
theorem dX0_copyFrom_48 : decode cX0_copyFrom 48 = .ok (.aload_n 0, 1) := by decide +kernel
theorem dX0_copyFrom_49 : decode cX0_copyFrom 49 = .ok (.getfield 18, 3) := by decide +kernel
theorem dX0_copyFrom_52 : decode cX0_copyFrom 52 = .ok (.iconst 0, 1) := by decide +kernel
theorem dX0_copyFrom_53 : decode cX0_copyFrom 53 = .ok (.bipush 6, 2) := by decide +kernel
theorem dX0_copyFrom_55 : decode cX0_copyFrom 55 = .ok (.invokestatic 41, 3) := by decide +kernel
theorem dX0_copyFrom_58 : decode cX0_copyFrom 58 = .ok (.aload_n 1, 1) := by decide +kernel
theorem dX0_copyFrom_59 : decode cX0_copyFrom 59 = .ok (.getfield 21, 3) := by decide +kernel
theorem dX0_copyFrom_62 : decode cX0_copyFrom 62 = .ok (.iconst 0, 1) := by decide +kernel
theorem dX0_copyFrom_63 : decode cX0_copyFrom 63 = .ok (.aload_n 0, 1) := by decide +kernel
theorem dX0_copyFrom_64 : decode cX0_copyFrom 64 = .ok (.getfield 21, 3) := by decide +kernel
theorem dX0_copyFrom_67 : decode cX0_copyFrom 67 = .ok (.iconst 0, 1) := by decide +kernel
theorem dX0_copyFrom_68 : decode cX0_copyFrom 68 = .ok (.bipush 6, 2) := by decide +kernel
theorem dX0_copyFrom_70 : decode cX0_copyFrom 70 = .ok (.invokestatic 41, 3) := by decide +kernel
theorem dX0_copyFrom_73 : decode cX0_copyFrom 73 = .ok (.return_, 1) := by decide +kernel
theorem dX0_copyMoss_0 : decode cX0_copyMoss 0 = .ok (.aload_n 1, 1) := by decide +kernel
theorem dX0_copyMoss_1 : decode cX0_copyMoss 1 = .ok (.ifnull 18, 3) := by decide +kernel
theorem dX0_copyMoss_4 : decode cX0_copyMoss 4 = .ok (.aload_n 1, 1) := by decide +kernel
theorem dX0_copyMoss_5 : decode cX0_copyMoss 5 = .ok (.getfield 21, 3) := by decide +kernel
theorem dX0_copyMoss_8 : decode cX0_copyMoss 8 = .ok (.iconst 0, 1) := by decide +kernel
theorem dX0_copyMoss_9 : decode cX0_copyMoss 9 = .ok (.aload_n 0, 1) := by decide +kernel
theorem dX0_copyMoss_10 : decode cX0_copyMoss 10 = .ok (.getfield 21, 3) := by decide +kernel
theorem dX0_copyMoss_13 : decode cX0_copyMoss 13 = .ok (.iconst 0, 1) := by decide +kernel
theorem dX0_copyMoss_14 : decode cX0_copyMoss 14 = .ok (.bipush 6, 2) := by decide +kernel
theorem dX0_copyMoss_16 : decode cX0_copyMoss 16 = .ok (.invokestatic 41, 3) := by decide +kernel
theorem dX0_copyMoss_19 : decode cX0_copyMoss 19 = .ok (.return_, 1) := by decide +kernel
set_option maxRecDepth 20000 in
theorem ggX0_lacking_X0_has : GoodIn wsX0_lacking wsX0_has := goodIn_r _ [11, 12, 13, 14, 15, 16, 17] (by decide +kernel) (by decide +kernel)
set_option maxRecDepth 20000 in
theorem gX0_lacking_X0_has : GoodIn wsX0_lacking (wsV RX0 28 RX0 yX0_has wsX0_has) := goodIn_app (goodIn_of _ (by decide +kernel)) ggX0_lacking_X0_has
theorem dX0_lacking_0 : decode cX0_lacking 0 = .ok (.aload_n 0, 1) := by decide +kernel
theorem dX0_lacking_1 : decode cX0_lacking 1 = .ok (.iload_n 1, 1) := by decide +kernel
theorem dX0_lacking_2 : decode cX0_lacking 2 = .ok (.invokevirtual 28, 3) := by decide +kernel
theorem dX0_lacking_5 : decode cX0_lacking 5 = .ok (.ifCond .eq 23, 3) := by decide +kernel
theorem dX0_lacking_8 : decode cX0_lacking 8 = .ok (.aload_n 0, 1) := by decide +kernel
theorem dX0_lacking_9 : decode cX0_lacking 9 = .ok (.getfield 15, 3) := by decide +kernel
theorem dX0_lacking_12 : decode cX0_lacking 12 = .ok (.iload_n 1, 1) := by decide +kernel
theorem dX0_lacking_13 : decode cX0_lacking 13 = .ok (.iaload, 1) := by decide +kernel
theorem dX0_lacking_14 : decode cX0_lacking 14 = .ok (.aload_n 0, 1) := by decide +kernel
theorem dX0_lacking_15 : decode cX0_lacking 15 = .ok (.getfield 21, 3) := by decide +kernel
theorem dX0_lacking_18 : decode cX0_lacking 18 = .ok (.iload_n 1, 1) := by decide +kernel
theorem dX0_lacking_19 : decode cX0_lacking 19 = .ok (.iaload, 1) := by decide +kernel
theorem dX0_lacking_20 : decode cX0_lacking 20 = .ok (.isub, 1) := by decide +kernel
theorem dX0_lacking_21 : decode cX0_lacking 21 = .ok (.iconst 0, 1) := by decide +kernel
theorem dX0_lacking_22 : decode cX0_lacking 22 = .ok (.invokestatic 38, 3) := by decide +kernel
theorem dX0_lacking_25 : decode cX0_lacking 25 = .ok (.goto 4, 3) := by decide +kernel
theorem dX0_lacking_28 : decode cX0_lacking 28 = .ok (.iconst 0, 1) := by decide +kernel
theorem dX0_lacking_29 : decode cX0_lacking 29 = .ok (.ireturn, 1) := by decide +kernel
set_option maxRecDepth 20000 in
theorem ggX0_isClosed_X0_has : GoodIn wsX0_isClosed wsX0_has := goodIn_r _ [7, 8, 9, 10, 11, 12, 13] (by decide +kernel) (by decide +kernel)
set_option maxRecDepth 20000 in
theorem gX0_isClosed_X0_has : GoodIn wsX0_isClosed (wsV RX0 28 RX0 yX0_has wsX0_has) := goodIn_app (goodIn_of _ (by decide +kernel)) ggX0_isClosed_X0_has
theorem dX0_isClosed_0 : decode cX0_isClosed 0 = .ok (.aload_n 0, 1) := by decide +kernel
theorem dX0_isClosed_1 : decode cX0_isClosed 1 = .ok (.iload_n 1, 1) := by decide +kernel
theorem dX0_isClosed_2 : decode cX0_isClosed 2 = .ok (.invokevirtual 28, 3) := by decide +kernel
theorem dX0_isClosed_5 : decode cX0_isClosed 5 = .ok (.ifCond .eq 22, 3) := by decide +kernel
theorem dX0_isClosed_8 : decode cX0_isClosed 8 = .ok (.aload_n 0, 1) := by decide +kernel
theorem dX0_isClosed_9 : decode cX0_isClosed 9 = .ok (.getfield 21, 3) := by decide +kernel
theorem dX0_isClosed_12 : decode cX0_isClosed 12 = .ok (.iload_n 1, 1) := by decide +kernel
theorem dX0_isClosed_13 : decode cX0_isClosed 13 = .ok (.iaload, 1) := by decide +kernel
theorem dX0_isClosed_14 : decode cX0_isClosed 14 = .ok (.aload_n 0, 1) := by decide +kernel
theorem dX0_isClosed_15 : decode cX0_isClosed 15 = .ok (.getfield 15, 3) := by decide +kernel
theorem dX0_isClosed_18 : decode cX0_isClosed 18 = .ok (.iload_n 1, 1) := by decide +kernel
theorem dX0_isClosed_19 : decode cX0_isClosed 19 = .ok (.iaload, 1) := by decide +kernel
theorem dX0_isClosed_20 : decode cX0_isClosed 20 = .ok (.if_icmp .lt 7, 3) := by decide +kernel
theorem dX0_isClosed_23 : decode cX0_isClosed 23 = .ok (.iconst 1, 1) := by decide +kernel
theorem dX0_isClosed_24 : decode cX0_isClosed 24 = .ok (.goto 4, 3) := by decide +kernel
theorem dX0_isClosed_27 : decode cX0_isClosed 27 = .ok (.iconst 0, 1) := by decide +kernel
theorem dX0_isClosed_28 : decode cX0_isClosed 28 = .ok (.ireturn, 1) := by decide +kernel
set_option maxRecDepth 20000 in
theorem ggX0_grow_X0_isClosed : GoodIn wsX0_grow wsX0_isClosed := goodIn_r _ [8, 9, 10, 11, 12, 13, 7, 14, 1, 31, 32, 33, 34, 35] (by decide +kernel) (by decide +kernel)
set_option maxRecDepth 20000 in
theorem gX0_grow_X0_isClosed : GoodIn wsX0_grow (wsV RX0 47 RX0 yX0_isClosed wsX0_isClosed) := goodIn_app (goodIn_of _ (by decide +kernel)) ggX0_grow_X0_isClosed
set_option maxRecDepth 20000 in
theorem ggX0_grow_X6_growth : GoodIn wsX0_grow wsX6_growth := goodIn_r _ [17, 18, 19, 20, 21, 22, 23, 24] (by decide +kernel) (by decide +kernel)
set_option maxRecDepth 20000 in
theorem gX0_grow_X6_growth_n50 : GoodIn wsX0_grow (wsX6_growth) := ggX0_grow_X6_growth
set_option maxRecDepth 20000 in
theorem ggX0_grow_X0_addMoss : GoodIn wsX0_grow wsX0_addMoss := goodIn_r _ [28, 9, 29, 23, 20, 24, 30, 19, 21, 11, 12, 13, 7, 14, 1, 31, 32, 33, 34, 35] (by decide +kernel) (by decide +kernel)
set_option maxRecDepth 20000 in
theorem gX0_grow_X0_addMoss : GoodIn wsX0_grow (wsV RX0 53 RX0 yX0_addMoss wsX0_addMoss) := goodIn_app (goodIn_of _ (by decide +kernel)) ggX0_grow_X0_addMoss
theorem dX0_grow_0 : decode cX0_grow 0 = .ok (.aload_n 0, 1) := by decide +kernel
theorem dX0_grow_1 : decode cX0_grow 1 = .ok (.getfield 24, 3) := by decide +kernel
theorem dX0_grow_4 : decode cX0_grow 4 = .ok (.iconst 1, 1) := by decide +kernel
theorem dX0_grow_5 : decode cX0_grow 5 = .ok (.isub, 1) := by decide +kernel
theorem dX0_grow_6 : decode cX0_grow 6 = .ok (.istore_n 2, 1) := by decide +kernel
theorem dX0_grow_7 : decode cX0_grow 7 = .ok (.iload_n 2, 1) := by decide +kernel
theorem dX0_grow_8 : decode cX0_grow 8 = .ok (.ifCond .lt 44, 3) := by decide +kernel
theorem dX0_grow_11 : decode cX0_grow 11 = .ok (.aload_n 0, 1) := by decide +kernel
theorem dX0_grow_12 : decode cX0_grow 12 = .ok (.getfield 18, 3) := by decide +kernel
theorem dX0_grow_15 : decode cX0_grow 15 = .ok (.iload_n 2, 1) := by decide +kernel
theorem dX0_grow_16 : decode cX0_grow 16 = .ok (.iaload, 1) := by decide +kernel
theorem dX0_grow_17 : decode cX0_grow 17 = .ok (.istore_n 3, 1) := by decide +kernel
theorem dX0_grow_18 : decode cX0_grow 18 = .ok (.iload_n 3, 1) := by decide +kernel
theorem dX0_grow_19 : decode cX0_grow 19 = .ok (.iconst (-1), 1) := by decide +kernel
theorem dX0_grow_20 : decode cX0_grow 20 = .ok (.if_icmp .eq 11, 3) := by decide +kernel
theorem dX0_grow_23 : decode cX0_grow 23 = .ok (.aload_n 0, 1) := by decide +kernel
theorem dX0_grow_24 : decode cX0_grow 24 = .ok (.iload_n 3, 1) := by decide +kernel
theorem dX0_grow_25 : decode cX0_grow 25 = .ok (.invokevirtual 47, 3) := by decide +kernel
theorem dX0_grow_28 : decode cX0_grow 28 = .ok (.ifCond .eq 18, 3) := by decide +kernel
theorem dX0_grow_31 : decode cX0_grow 31 = .ok (.aload_n 0, 1) := by decide +kernel
theorem dX0_grow_32 : decode cX0_grow 32 = .ok (.iload_n 2, 1) := by decide +kernel
theorem dX0_grow_33 : decode cX0_grow 33 = .ok (.aload_n 0, 1) := by decide +kernel
theorem dX0_grow_34 : decode cX0_grow 34 = .ok (.getfield 9, 3) := by decide +kernel
theorem dX0_grow_37 : decode cX0_grow 37 = .ok (.iload_n 2, 1) := by decide +kernel
theorem dX0_grow_38 : decode cX0_grow 38 = .ok (.iaload, 1) := by decide +kernel
theorem dX0_grow_39 : decode cX0_grow 39 = .ok (.iload_n 1, 1) := by decide +kernel
theorem dX0_grow_40 : decode cX0_grow 40 = .ok (.invokestatic 50, 3) := by decide +kernel
theorem dX0_grow_43 : decode cX0_grow 43 = .ok (.invokevirtual 53, 3) := by decide +kernel
theorem dX0_grow_46 : decode cX0_grow 46 = .ok (.iinc 2 (-1), 3) := by decide +kernel
theorem dX0_grow_49 : decode cX0_grow 49 = .ok (.goto (-42), 3) := by decide +kernel
theorem dX0_grow_52 : decode cX0_grow 52 = .ok (.return_, 1) := by decide +kernel
set_option maxRecDepth 20000 in
theorem ggX0_closedBits_X0_isClosed : GoodIn wsX0_closedBits wsX0_isClosed := goodIn_r _ [6, 7, 8, 9, 10, 11, 5, 12, 1, 13, 14, 15, 16, 17] (by decide +kernel) (by decide +kernel)
set_option maxRecDepth 20000 in
theorem gX0_closedBits_X0_isClosed : GoodIn wsX0_closedBits (wsV RX0 47 RX0 yX0_isClosed wsX0_isClosed) := goodIn_app (goodIn_of _ (by decide +kernel)) ggX0_closedBits_X0_isClosed
theorem dX0_closedBits_0 : decode cX0_closedBits 0 = .ok (.iconst 0, 1) := by decide +kernel
theorem dX0_closedBits_1 : decode cX0_closedBits 1 = .ok (.istore_n 1, 1) := by decide +kernel
theorem dX0_closedBits_2 : decode cX0_closedBits 2 = .ok (.iconst 0, 1) := by decide +kernel
theorem dX0_closedBits_3 : decode cX0_closedBits 3 = .ok (.istore_n 2, 1) := by decide +kernel
theorem dX0_closedBits_4 : decode cX0_closedBits 4 = .ok (.iload_n 2, 1) := by decide +kernel
theorem dX0_closedBits_5 : decode cX0_closedBits 5 = .ok (.aload_n 0, 1) := by decide +kernel
theorem dX0_closedBits_6 : decode cX0_closedBits 6 = .ok (.getfield 24, 3) := by decide +kernel
theorem dX0_closedBits_9 : decode cX0_closedBits 9 = .ok (.if_icmp .ge 23, 3) := by decide +kernel
theorem dX0_closedBits_12 : decode cX0_closedBits 12 = .ok (.aload_n 0, 1) := by decide +kernel
theorem dX0_closedBits_13 : decode cX0_closedBits 13 = .ok (.iload_n 2, 1) := by decide +kernel
theorem dX0_closedBits_14 : decode cX0_closedBits 14 = .ok (.invokevirtual 47, 3) := by decide +kernel
theorem dX0_closedBits_17 : decode cX0_closedBits 17 = .ok (.ifCond .eq 9, 3) := by decide +kernel
theorem dX0_closedBits_20 : decode cX0_closedBits 20 = .ok (.iload_n 1, 1) := by decide +kernel
theorem dX0_closedBits_21 : decode cX0_closedBits 21 = .ok (.iconst 1, 1) := by decide +kernel
theorem dX0_closedBits_22 : decode cX0_closedBits 22 = .ok (.iload_n 2, 1) := by decide +kernel
theorem dX0_closedBits_23 : decode cX0_closedBits 23 = .ok (.ishl, 1) := by decide +kernel
theorem dX0_closedBits_24 : decode cX0_closedBits 24 = .ok (.ior, 1) := by decide +kernel
theorem dX0_closedBits_25 : decode cX0_closedBits 25 = .ok (.istore_n 1, 1) := by decide +kernel
theorem dX0_closedBits_26 : decode cX0_closedBits 26 = .ok (.iinc 2 1, 3) := by decide +kernel
theorem dX0_closedBits_29 : decode cX0_closedBits 29 = .ok (.goto (-25), 3) := by decide +kernel
theorem dX0_closedBits_32 : decode cX0_closedBits 32 = .ok (.iload_n 1, 1) := by decide +kernel
theorem dX0_closedBits_33 : decode cX0_closedBits 33 = .ok (.ireturn, 1) := by decide +kernel
set_option maxRecDepth 20000 in
theorem ggX0_allClosed_X0_closedBits : GoodIn wsX0_allClosed wsX0_closedBits := goodIn_r _ [6, 1, 7, 8, 9, 5, 10, 11, 12, 13, 14, 15, 16, 17, 18, 19, 20, 21] (by decide +kernel) (by decide +kernel)
set_option maxRecDepth 20000 in
theorem gX0_allClosed_X0_closedBits : GoodIn wsX0_allClosed (wsV RX0 57 RX0 yX0_closedBits wsX0_closedBits) := goodIn_app (goodIn_of _ (by decide +kernel)) ggX0_allClosed_X0_closedBits
theorem dX0_allClosed_0 : decode cX0_allClosed 0 = .ok (.aload_n 0, 1) := by decide +kernel
theorem dX0_allClosed_1 : decode cX0_allClosed 1 = .ok (.invokevirtual 57, 3) := by decide +kernel
theorem dX0_allClosed_4 : decode cX0_allClosed 4 = .ok (.iconst 1, 1) := by decide +kernel
theorem dX0_allClosed_5 : decode cX0_allClosed 5 = .ok (.aload_n 0, 1) := by decide +kernel
theorem dX0_allClosed_6 : decode cX0_allClosed 6 = .ok (.getfield 24, 3) := by decide +kernel
theorem dX0_allClosed_9 : decode cX0_allClosed 9 = .ok (.ishl, 1) := by decide +kernel
theorem dX0_allClosed_10 : decode cX0_allClosed 10 = .ok (.iconst 1, 1) := by decide +kernel
theorem dX0_allClosed_11 : decode cX0_allClosed 11 = .ok (.isub, 1) := by decide +kernel
theorem dX0_allClosed_12 : decode cX0_allClosed 12 = .ok (.if_icmp .ne 7, 3) := by decide +kernel
theorem dX0_allClosed_15 : decode cX0_allClosed 15 = .ok (.iconst 1, 1) := by decide +kernel
theorem dX0_allClosed_16 : decode cX0_allClosed 16 = .ok (.goto 4, 3) := by decide +kernel
theorem dX0_allClosed_19 : decode cX0_allClosed 19 = .ok (.iconst 0, 1) := by decide +kernel
theorem dX0_allClosed_20 : decode cX0_allClosed 20 = .ok (.ireturn, 1) := by decide +kernel
set_option maxRecDepth 20000 in
theorem ggX0_forceBits_X0_isClosed : GoodIn wsX0_forceBits wsX0_isClosed := goodIn_r _ [8, 9, 10, 11, 12, 13, 7, 14, 1, 15, 16, 17, 18, 19] (by decide +kernel) (by decide +kernel)
set_option maxRecDepth 20000 in
theorem gX0_forceBits_X0_isClosed : GoodIn wsX0_forceBits (wsV RX0 47 RX0 yX0_isClosed wsX0_isClosed) := goodIn_app (goodIn_of _ (by decide +kernel)) ggX0_forceBits_X0_isClosed
theorem dX0_forceBits_0 : decode cX0_forceBits 0 = .ok (.iconst 0, 1) := by decide +kernel
theorem dX0_forceBits_1 : decode cX0_forceBits 1 = .ok (.istore_n 1, 1) := by decide +kernel
theorem dX0_forceBits_2 : decode cX0_forceBits 2 = .ok (.iconst 0, 1) := by decide +kernel
theorem dX0_forceBits_3 : decode cX0_forceBits 3 = .ok (.istore_n 2, 1) := by decide +kernel
theorem dX0_forceBits_4 : decode cX0_forceBits 4 = .ok (.iload_n 2, 1) := by decide +kernel
theorem dX0_forceBits_5 : decode cX0_forceBits 5 = .ok (.aload_n 0, 1) := by decide +kernel
theorem dX0_forceBits_6 : decode cX0_forceBits 6 = .ok (.getfield 24, 3) := by decide +kernel
theorem dX0_forceBits_9 : decode cX0_forceBits 9 = .ok (.if_icmp .ge 66, 3) := by decide +kernel
theorem dX0_forceBits_12 : decode cX0_forceBits 12 = .ok (.aload_n 0, 1) := by decide +kernel
theorem dX0_forceBits_13 : decode cX0_forceBits 13 = .ok (.getfield 18, 3) := by decide +kernel
theorem dX0_forceBits_16 : decode cX0_forceBits 16 = .ok (.iload_n 2, 1) := by decide +kernel
theorem dX0_forceBits_17 : decode cX0_forceBits 17 = .ok (.iaload, 1) := by decide +kernel
theorem dX0_forceBits_18 : decode cX0_forceBits 18 = .ok (.istore_n 3, 1) := by decide +kernel
theorem dX0_forceBits_19 : decode cX0_forceBits 19 = .ok (.iload_n 3, 1) := by decide +kernel
theorem dX0_forceBits_20 : decode cX0_forceBits 20 = .ok (.iconst (-1), 1) := by decide +kernel
theorem dX0_forceBits_21 : decode cX0_forceBits 21 = .ok (.if_icmp .eq 12, 3) := by decide +kernel
theorem dX0_forceBits_24 : decode cX0_forceBits 24 = .ok (.iload_n 1, 1) := by decide +kernel
theorem dX0_forceBits_25 : decode cX0_forceBits 25 = .ok (.iload_n 3, 1) := by decide +kernel
theorem dX0_forceBits_26 : decode cX0_forceBits 26 = .ok (.ishr, 1) := by decide +kernel
theorem dX0_forceBits_27 : decode cX0_forceBits 27 = .ok (.iconst 1, 1) := by decide +kernel
theorem dX0_forceBits_28 : decode cX0_forceBits 28 = .ok (.iand, 1) := by decide +kernel
theorem dX0_forceBits_29 : decode cX0_forceBits 29 = .ok (.iconst 1, 1) := by decide +kernel
theorem dX0_forceBits_30 : decode cX0_forceBits 30 = .ok (.if_icmp .ne 7, 3) := by decide +kernel
theorem dX0_forceBits_33 : decode cX0_forceBits 33 = .ok (.iconst 1, 1) := by decide +kernel
theorem dX0_forceBits_34 : decode cX0_forceBits 34 = .ok (.goto 4, 3) := by decide +kernel
theorem dX0_forceBits_37 : decode cX0_forceBits 37 = .ok (.iconst 0, 1) := by decide +kernel
theorem dX0_forceBits_38 : decode cX0_forceBits 38 = .ok (.istore 4, 2) := by decide +kernel
theorem dX0_forceBits_40 : decode cX0_forceBits 40 = .ok (.iload 4, 2) := by decide +kernel
theorem dX0_forceBits_42 : decode cX0_forceBits 42 = .ok (.ifCond .eq 27, 3) := by decide +kernel
theorem dX0_forceBits_45 : decode cX0_forceBits 45 = .ok (.aload_n 0, 1) := by decide +kernel
theorem dX0_forceBits_46 : decode cX0_forceBits 46 = .ok (.iload_n 2, 1) := by decide +kernel
theorem dX0_forceBits_47 : decode cX0_forceBits 47 = .ok (.invokevirtual 47, 3) := by decide +kernel
theorem dX0_forceBits_50 : decode cX0_forceBits 50 = .ok (.ifCond .eq 19, 3) := by decide +kernel
theorem dX0_forceBits_53 : decode cX0_forceBits 53 = .ok (.aload_n 0, 1) := by decide +kernel
theorem dX0_forceBits_54 : decode cX0_forceBits 54 = .ok (.getfield 9, 3) := by decide +kernel
theorem dX0_forceBits_57 : decode cX0_forceBits 57 = .ok (.iload_n 2, 1) := by decide +kernel
theorem dX0_forceBits_58 : decode cX0_forceBits 58 = .ok (.iaload, 1) := by decide +kernel
theorem dX0_forceBits_59 : decode cX0_forceBits 59 = .ok (.iconst 3, 1) := by decide +kernel
theorem dX0_forceBits_60 : decode cX0_forceBits 60 = .ok (.if_icmp .eq 9, 3) := by decide +kernel
theorem dX0_forceBits_63 : decode cX0_forceBits 63 = .ok (.iload_n 1, 1) := by decide +kernel
theorem dX0_forceBits_64 : decode cX0_forceBits 64 = .ok (.iconst 1, 1) := by decide +kernel
theorem dX0_forceBits_65 : decode cX0_forceBits 65 = .ok (.iload_n 2, 1) := by decide +kernel
theorem dX0_forceBits_66 : decode cX0_forceBits 66 = .ok (.ishl, 1) := by decide +kernel
theorem dX0_forceBits_67 : decode cX0_forceBits 67 = .ok (.ior, 1) := by decide +kernel
theorem dX0_forceBits_68 : decode cX0_forceBits 68 = .ok (.istore_n 1, 1) := by decide +kernel
theorem dX0_forceBits_69 : decode cX0_forceBits 69 = .ok (.iinc 2 1, 3) := by decide +kernel
theorem dX0_forceBits_72 : decode cX0_forceBits 72 = .ok (.goto (-68), 3) := by decide +kernel
theorem dX0_forceBits_75 : decode cX0_forceBits 75 = .ok (.iload_n 1, 1) := by decide +kernel
theorem dX0_forceBits_76 : decode cX0_forceBits 76 = .ok (.ireturn, 1) := by decide +kernel
set_option maxRecDepth 20000 in
theorem ggX0_mossOfAll_X0_mossOn : GoodIn wsX0_mossOfAll wsX0_mossOn := goodIn_r _ [6, 7, 8, 9, 10, 5, 11, 1, 12, 13, 14, 15, 16] (by decide +kernel) (by decide +kernel)
set_option maxRecDepth 20000 in
theorem gX0_mossOfAll_X0_mossOn : GoodIn wsX0_mossOfAll (wsV RX0 61 RX0 yX0_mossOn wsX0_mossOn) := goodIn_app (goodIn_of _ (by decide +kernel)) ggX0_mossOfAll_X0_mossOn
theorem dX0_mossOfAll_0 : decode cX0_mossOfAll 0 = .ok (.iconst 0, 1) := by decide +kernel
theorem dX0_mossOfAll_1 : decode cX0_mossOfAll 1 = .ok (.istore_n 1, 1) := by decide +kernel
theorem dX0_mossOfAll_2 : decode cX0_mossOfAll 2 = .ok (.iconst 0, 1) := by decide +kernel
theorem dX0_mossOfAll_3 : decode cX0_mossOfAll 3 = .ok (.istore_n 2, 1) := by decide +kernel
theorem dX0_mossOfAll_4 : decode cX0_mossOfAll 4 = .ok (.iload_n 2, 1) := by decide +kernel
theorem dX0_mossOfAll_5 : decode cX0_mossOfAll 5 = .ok (.aload_n 0, 1) := by decide +kernel
theorem dX0_mossOfAll_6 : decode cX0_mossOfAll 6 = .ok (.getfield 24, 3) := by decide +kernel
theorem dX0_mossOfAll_9 : decode cX0_mossOfAll 9 = .ok (.if_icmp .ge 17, 3) := by decide +kernel
theorem dX0_mossOfAll_12 : decode cX0_mossOfAll 12 = .ok (.iload_n 1, 1) := by decide +kernel
theorem dX0_mossOfAll_13 : decode cX0_mossOfAll 13 = .ok (.aload_n 0, 1) := by decide +kernel
theorem dX0_mossOfAll_14 : decode cX0_mossOfAll 14 = .ok (.iload_n 2, 1) := by decide +kernel
theorem dX0_mossOfAll_15 : decode cX0_mossOfAll 15 = .ok (.invokevirtual 61, 3) := by decide +kernel
theorem dX0_mossOfAll_18 : decode cX0_mossOfAll 18 = .ok (.iadd, 1) := by decide +kernel
theorem dX0_mossOfAll_19 : decode cX0_mossOfAll 19 = .ok (.istore_n 1, 1) := by decide +kernel
theorem dX0_mossOfAll_20 : decode cX0_mossOfAll 20 = .ok (.iinc 2 1, 3) := by decide +kernel
theorem dX0_mossOfAll_23 : decode cX0_mossOfAll 23 = .ok (.goto (-19), 3) := by decide +kernel
theorem dX0_mossOfAll_26 : decode cX0_mossOfAll 26 = .ok (.iload_n 1, 1) := by decide +kernel
theorem dX0_mossOfAll_27 : decode cX0_mossOfAll 27 = .ok (.ireturn, 1) := by decide +kernel
set_option maxRecDepth 20000 in
theorem ggX0_winningTurn_X0_lacking : GoodIn wsX0_winningTurn wsX0_lacking := goodIn_r _ [6, 7, 8, 9, 10, 11, 12, 13, 14, 15, 5, 16, 1, 17, 18, 19, 20, 21] (by decide +kernel) (by decide +kernel)
set_option maxRecDepth 20000 in
theorem gX0_winningTurn_X0_lacking : GoodIn wsX0_winningTurn (wsV RX0 65 RX0 yX0_lacking wsX0_lacking) := goodIn_app (goodIn_of _ (by decide +kernel)) ggX0_winningTurn_X0_lacking
theorem dX0_winningTurn_0 : decode cX0_winningTurn 0 = .ok (.iconst 0, 1) := by decide +kernel
theorem dX0_winningTurn_1 : decode cX0_winningTurn 1 = .ok (.istore_n 1, 1) := by decide +kernel
theorem dX0_winningTurn_2 : decode cX0_winningTurn 2 = .ok (.iconst 0, 1) := by decide +kernel
theorem dX0_winningTurn_3 : decode cX0_winningTurn 3 = .ok (.istore_n 2, 1) := by decide +kernel
theorem dX0_winningTurn_4 : decode cX0_winningTurn 4 = .ok (.iload_n 2, 1) := by decide +kernel
theorem dX0_winningTurn_5 : decode cX0_winningTurn 5 = .ok (.aload_n 0, 1) := by decide +kernel
theorem dX0_winningTurn_6 : decode cX0_winningTurn 6 = .ok (.getfield 24, 3) := by decide +kernel
theorem dX0_winningTurn_9 : decode cX0_winningTurn 9 = .ok (.if_icmp .ge 19, 3) := by decide +kernel
theorem dX0_winningTurn_12 : decode cX0_winningTurn 12 = .ok (.iload_n 1, 1) := by decide +kernel
theorem dX0_winningTurn_13 : decode cX0_winningTurn 13 = .ok (.aload_n 0, 1) := by decide +kernel
theorem dX0_winningTurn_14 : decode cX0_winningTurn 14 = .ok (.iload_n 2, 1) := by decide +kernel
theorem dX0_winningTurn_15 : decode cX0_winningTurn 15 = .ok (.invokevirtual 65, 3) := by decide +kernel
theorem dX0_winningTurn_18 : decode cX0_winningTurn 18 = .ok (.iconst 3, 1) := by decide +kernel
theorem dX0_winningTurn_19 : decode cX0_winningTurn 19 = .ok (.irem, 1) := by decide +kernel
theorem dX0_winningTurn_20 : decode cX0_winningTurn 20 = .ok (.ixor, 1) := by decide +kernel
theorem dX0_winningTurn_21 : decode cX0_winningTurn 21 = .ok (.istore_n 1, 1) := by decide +kernel
theorem dX0_winningTurn_22 : decode cX0_winningTurn 22 = .ok (.iinc 2 1, 3) := by decide +kernel
theorem dX0_winningTurn_25 : decode cX0_winningTurn 25 = .ok (.goto (-21), 3) := by decide +kernel
theorem dX0_winningTurn_28 : decode cX0_winningTurn 28 = .ok (.iload_n 1, 1) := by decide +kernel
theorem dX0_winningTurn_29 : decode cX0_winningTurn 29 = .ok (.ifCond .ne 5, 3) := by decide +kernel
theorem dX0_winningTurn_32 : decode cX0_winningTurn 32 = .ok (.iconst (-1), 1) := by decide +kernel
theorem dX0_winningTurn_33 : decode cX0_winningTurn 33 = .ok (.ireturn, 1) := by decide +kernel
theorem dX0_winningTurn_34 : decode cX0_winningTurn 34 = .ok (.iconst 0, 1) := by decide +kernel
theorem dX0_winningTurn_35 : decode cX0_winningTurn 35 = .ok (.istore_n 2, 1) := by decide +kernel
theorem dX0_winningTurn_36 : decode cX0_winningTurn 36 = .ok (.iload_n 2, 1) := by decide +kernel
theorem dX0_winningTurn_37 : decode cX0_winningTurn 37 = .ok (.aload_n 0, 1) := by decide +kernel
theorem dX0_winningTurn_38 : decode cX0_winningTurn 38 = .ok (.getfield 24, 3) := by decide +kernel
theorem dX0_winningTurn_41 : decode cX0_winningTurn 41 = .ok (.if_icmp .ge 62, 3) := by decide +kernel
theorem dX0_winningTurn_44 : decode cX0_winningTurn 44 = .ok (.aload_n 0, 1) := by decide +kernel
theorem dX0_winningTurn_45 : decode cX0_winningTurn 45 = .ok (.iload_n 2, 1) := by decide +kernel
theorem dX0_winningTurn_46 : decode cX0_winningTurn 46 = .ok (.invokevirtual 65, 3) := by decide +kernel
theorem dX0_winningTurn_49 : decode cX0_winningTurn 49 = .ok (.istore_n 3, 1) := by decide +kernel
theorem dX0_winningTurn_50 : decode cX0_winningTurn 50 = .ok (.iload_n 1, 1) := by decide +kernel
theorem dX0_winningTurn_51 : decode cX0_winningTurn 51 = .ok (.iload_n 3, 1) := by decide +kernel
theorem dX0_winningTurn_52 : decode cX0_winningTurn 52 = .ok (.iconst 3, 1) := by decide +kernel
theorem dX0_winningTurn_53 : decode cX0_winningTurn 53 = .ok (.irem, 1) := by decide +kernel
theorem dX0_winningTurn_54 : decode cX0_winningTurn 54 = .ok (.ixor, 1) := by decide +kernel
theorem dX0_winningTurn_55 : decode cX0_winningTurn 55 = .ok (.istore 4, 2) := by decide +kernel
theorem dX0_winningTurn_57 : decode cX0_winningTurn 57 = .ok (.iconst 1, 1) := by decide +kernel
theorem dX0_winningTurn_58 : decode cX0_winningTurn 58 = .ok (.istore 5, 2) := by decide +kernel
theorem dX0_winningTurn_60 : decode cX0_winningTurn 60 = .ok (.iload 5, 2) := by decide +kernel
theorem dX0_winningTurn_62 : decode cX0_winningTurn 62 = .ok (.iconst 2, 1) := by decide +kernel
theorem dX0_winningTurn_63 : decode cX0_winningTurn 63 = .ok (.if_icmp .gt 34, 3) := by decide +kernel
theorem dX0_winningTurn_66 : decode cX0_winningTurn 66 = .ok (.iload 5, 2) := by decide +kernel
theorem dX0_winningTurn_68 : decode cX0_winningTurn 68 = .ok (.iload_n 3, 1) := by decide +kernel
theorem dX0_winningTurn_69 : decode cX0_winningTurn 69 = .ok (.if_icmp .gt 28, 3) := by decide +kernel
theorem dX0_winningTurn_72 : decode cX0_winningTurn 72 = .ok (.iload_n 3, 1) := by decide +kernel
theorem dX0_winningTurn_73 : decode cX0_winningTurn 73 = .ok (.iload 5, 2) := by decide +kernel
theorem dX0_winningTurn_75 : decode cX0_winningTurn 75 = .ok (.isub, 1) := by decide +kernel
theorem dX0_winningTurn_76 : decode cX0_winningTurn 76 = .ok (.iconst 3, 1) := by decide +kernel
theorem dX0_winningTurn_77 : decode cX0_winningTurn 77 = .ok (.irem, 1) := by decide +kernel
theorem dX0_winningTurn_78 : decode cX0_winningTurn 78 = .ok (.iload 4, 2) := by decide +kernel
theorem dX0_winningTurn_80 : decode cX0_winningTurn 80 = .ok (.if_icmp .ne 11, 3) := by decide +kernel
theorem dX0_winningTurn_83 : decode cX0_winningTurn 83 = .ok (.bipush 10, 2) := by decide +kernel
theorem dX0_winningTurn_85 : decode cX0_winningTurn 85 = .ok (.iload_n 2, 1) := by decide +kernel
theorem dX0_winningTurn_86 : decode cX0_winningTurn 86 = .ok (.imul, 1) := by decide +kernel
theorem dX0_winningTurn_87 : decode cX0_winningTurn 87 = .ok (.iload 5, 2) := by decide +kernel
theorem dX0_winningTurn_89 : decode cX0_winningTurn 89 = .ok (.iadd, 1) := by decide +kernel
theorem dX0_winningTurn_90 : decode cX0_winningTurn 90 = .ok (.ireturn, 1) := by decide +kernel
theorem dX0_winningTurn_91 : decode cX0_winningTurn 91 = .ok (.iinc 5 1, 3) := by decide +kernel
theorem dX0_winningTurn_94 : decode cX0_winningTurn 94 = .ok (.goto (-34), 3) := by decide +kernel
theorem dX0_winningTurn_97 : decode cX0_winningTurn 97 = .ok (.iinc 2 1, 3) := by decide +kernel
theorem dX0_winningTurn_100 : decode cX0_winningTurn 100 = .ok (.goto (-64), 3) := by decide +kernel
theorem dX0_winningTurn_103 : decode cX0_winningTurn 103 = .ok (.iconst (-1), 1) := by decide +kernel
theorem dX0_winningTurn_104 : decode cX0_winningTurn 104 = .ok (.ireturn, 1) := by decide +kernel
set_option maxRecDepth 20000 in
theorem ggX1_init_X0_init : GoodIn wsX1_init wsX0_init := goodIn_r _ [16, 17, 2, 3, 18, 19, 20, 21, 22, 23, 30, 31, 32, 33, 34] (by decide +kernel) (by decide +kernel)
set_option maxRecDepth 20000 in
theorem gX1_init_X0_init_n11 : GoodIn wsX1_init (wsX0_init) := ggX1_init_X0_init
set_option maxRecDepth 20000 in
theorem ggX1_init_X5_init : GoodIn wsX1_init wsX5_init := goodIn_r _ [25, 26, 2, 3, 18, 27, 28, 29, 40, 41, 42] (by decide +kernel) (by decide +kernel)
set_option maxRecDepth 20000 in
theorem gX1_init_X5_init_n23 : GoodIn wsX1_init (wsX5_init) := ggX1_init_X5_init
theorem dX1_init_0 : decode cX1_init 0 = .ok (.aload_n 0, 1) := by decide +kernel
theorem dX1_init_1 : decode cX1_init 1 = .ok (.invokespecial 3, 3) := by decide +kernel
theorem dX1_init_4 : decode cX1_init 4 = .ok (.aload_n 0, 1) := by decide +kernel
theorem dX1_init_5 : decode cX1_init 5 = .ok (.new 9, 3) := by decide +kernel
theorem dX1_init_8 : decode cX1_init 8 = .ok (.dup, 1) := by decide +kernel
theorem dX1_init_9 : decode cX1_init 9 = .ok (.invokespecial 11, 3) := by decide +kernel
theorem dX1_init_12 : decode cX1_init 12 = .ok (.putfield 12, 3) := by decide +kernel
theorem dX1_init_15 : decode cX1_init 15 = .ok (.aload_n 0, 1) := by decide +kernel
theorem dX1_init_16 : decode cX1_init 16 = .ok (.new 9, 3) := by decide +kernel
theorem dX1_init_19 : decode cX1_init 19 = .ok (.dup, 1) := by decide +kernel
theorem dX1_init_20 : decode cX1_init 20 = .ok (.invokespecial 11, 3) := by decide +kernel
theorem dX1_init_23 : decode cX1_init 23 = .ok (.putfield 18, 3) := by decide +kernel
theorem dX1_init_26 : decode cX1_init 26 = .ok (.aload_n 0, 1) := by decide +kernel
theorem dX1_init_27 : decode cX1_init 27 = .ok (.new 21, 3) := by decide +kernel
theorem dX1_init_30 : decode cX1_init 30 = .ok (.dup, 1) := by decide +kernel
theorem dX1_init_31 : decode cX1_init 31 = .ok (.invokespecial 23, 3) := by decide +kernel
theorem dX1_init_34 : decode cX1_init 34 = .ok (.putfield 24, 3) := by decide +kernel
theorem dX1_init_37 : decode cX1_init 37 = .ok (.aload_n 0, 1) := by decide +kernel
theorem dX1_init_38 : decode cX1_init 38 = .ok (.iconst 0, 1) := by decide +kernel
theorem dX1_init_39 : decode cX1_init 39 = .ok (.putfield 28, 3) := by decide +kernel
theorem dX1_init_42 : decode cX1_init 42 = .ok (.aload_n 0, 1) := by decide +kernel
theorem dX1_init_43 : decode cX1_init 43 = .ok (.iconst 0, 1) := by decide +kernel
theorem dX1_init_44 : decode cX1_init 44 = .ok (.putfield 32, 3) := by decide +kernel
theorem dX1_init_47 : decode cX1_init 47 = .ok (.return_, 1) := by decide +kernel
set_option maxRecDepth 20000 in
theorem ggX1_begin_X0_copyFrom : GoodIn wsX1_begin wsX0_copyFrom := goodIn_r _ [10, 11, 12, 13, 14, 15, 16, 17, 18, 19, 38, 39, 40, 41, 42] (by decide +kernel) (by decide +kernel)
set_option maxRecDepth 20000 in
theorem gX1_begin_X0_copyFrom : GoodIn wsX1_begin (wsV RX1 40 RX0 yX0_copyFrom wsX0_copyFrom) := goodIn_app (goodIn_of _ (by decide +kernel)) ggX1_begin_X0_copyFrom
set_option maxRecDepth 20000 in
theorem ggX1_begin_X5_copyFrom : GoodIn wsX1_begin wsX5_copyFrom := goodIn_r _ [24, 25, 26, 27, 28, 14, 15, 16, 43, 44, 45] (by decide +kernel) (by decide +kernel)
set_option maxRecDepth 20000 in
theorem gX1_begin_X5_copyFrom : GoodIn wsX1_begin (wsV RX1 45 RX5 yX5_copyFrom wsX5_copyFrom) := goodIn_app (goodIn_of _ (by decide +kernel)) ggX1_begin_X5_copyFrom
theorem dX1_begin_0 : decode cX1_begin 0 = .ok (.aload_n 1, 1) := by decide +kernel
theorem dX1_begin_1 : decode cX1_begin 1 = .ok (.ifnonnull 4, 3) := by decide +kernel
theorem dX1_begin_4 : decode cX1_begin 4 = .ok (.return_, 1) := by decide +kernel
theorem dX1_begin_5 : decode cX1_begin 5 = .ok (.aload_n 0, 1) := by decide +kernel
theorem dX1_begin_6 : decode cX1_begin 6 = .ok (.getfield 12, 3) := by decide +kernel
theorem dX1_begin_9 : decode cX1_begin 9 = .ok (.aload_n 1, 1) := by decide +kernel
theorem dX1_begin_10 : decode cX1_begin 10 = .ok (.getfield 35, 3) := by decide +kernel
theorem dX1_begin_13 : decode cX1_begin 13 = .ok (.invokevirtual 40, 3) := by decide +kernel
theorem dX1_begin_16 : decode cX1_begin 16 = .ok (.aload_n 0, 1) := by decide +kernel
theorem dX1_begin_17 : decode cX1_begin 17 = .ok (.getfield 18, 3) := by decide +kernel
theorem dX1_begin_20 : decode cX1_begin 20 = .ok (.aload_n 1, 1) := by decide +kernel
theorem dX1_begin_21 : decode cX1_begin 21 = .ok (.getfield 35, 3) := by decide +kernel
theorem dX1_begin_24 : decode cX1_begin 24 = .ok (.invokevirtual 40, 3) := by decide +kernel
theorem dX1_begin_27 : decode cX1_begin 27 = .ok (.aload_n 0, 1) := by decide +kernel
theorem dX1_begin_28 : decode cX1_begin 28 = .ok (.getfield 24, 3) := by decide +kernel
theorem dX1_begin_31 : decode cX1_begin 31 = .ok (.aload_n 1, 1) := by decide +kernel
theorem dX1_begin_32 : decode cX1_begin 32 = .ok (.getfield 44, 3) := by decide +kernel
theorem dX1_begin_35 : decode cX1_begin 35 = .ok (.invokevirtual 45, 3) := by decide +kernel
theorem dX1_begin_38 : decode cX1_begin 38 = .ok (.return_, 1) := by decide +kernel
set_option maxRecDepth 20000 in
theorem ggX1_whenClosed_X0_isClosed : GoodIn wsX1_whenClosed wsX0_isClosed := goodIn_r _ [6, 7, 8, 9, 10, 11, 5, 12, 13, 64, 65, 66, 67, 68] (by decide +kernel) (by decide +kernel)
set_option maxRecDepth 20000 in
theorem gX1_whenClosed_X0_isClosed : GoodIn wsX1_whenClosed (wsV RX1 48 RX0 yX0_isClosed wsX0_isClosed) := goodIn_app (goodIn_of _ (by decide +kernel)) ggX1_whenClosed_X0_isClosed
set_option maxRecDepth 20000 in
theorem ggX1_whenClosed_X1_goOn : GoodIn wsX1_whenClosed wsX1_goOn := goodIn_r _ [18, 1, 19, 20, 21, 22, 23, 24, 25, 26, 27, 28, 29, 30, 31, 32, 33, 34, 5, 35, 13, 36, 37, 38, 3, 4, 6, 7, 8, 9, 10, 11, 12, 39, 40, 41, 42, 43, 44, 45, 46, 47, 48, 49, 50, 51, 52, 53, 54, 55, 56, 57, 58, 59, 60, 61, 62, 63, 69, 70, 71, 64, 65, 66, 67, 68] (by decide +kernel) (by decide +kernel)
set_option maxRecDepth 20000 in
theorem gX1_whenClosed_X1_goOn : GoodIn wsX1_whenClosed (wsV RX1 52 RX1 yX1_goOn wsX1_goOn) := goodIn_app (goodIn_of _ (by decide +kernel)) ggX1_whenClosed_X1_goOn
theorem dX1_whenClosed_0 : decode cX1_whenClosed 0 = .ok (.iconst 0, 1) := by decide +kernel
theorem dX1_whenClosed_1 : decode cX1_whenClosed 1 = .ok (.istore_n 2, 1) := by decide +kernel
theorem dX1_whenClosed_2 : decode cX1_whenClosed 2 = .ok (.iload_n 2, 1) := by decide +kernel
theorem dX1_whenClosed_3 : decode cX1_whenClosed 3 = .ok (.bipush 40, 2) := by decide +kernel
theorem dX1_whenClosed_5 : decode cX1_whenClosed 5 = .ok (.if_icmp .gt 26, 3) := by decide +kernel
theorem dX1_whenClosed_8 : decode cX1_whenClosed 8 = .ok (.aload_n 0, 1) := by decide +kernel
theorem dX1_whenClosed_9 : decode cX1_whenClosed 9 = .ok (.getfield 18, 3) := by decide +kernel
theorem dX1_whenClosed_12 : decode cX1_whenClosed 12 = .ok (.iload_n 1, 1) := by decide +kernel
theorem dX1_whenClosed_13 : decode cX1_whenClosed 13 = .ok (.invokevirtual 48, 3) := by decide +kernel
theorem dX1_whenClosed_16 : decode cX1_whenClosed 16 = .ok (.ifCond .eq 5, 3) := by decide +kernel
theorem dX1_whenClosed_19 : decode cX1_whenClosed 19 = .ok (.iload_n 2, 1) := by decide +kernel
theorem dX1_whenClosed_20 : decode cX1_whenClosed 20 = .ok (.ireturn, 1) := by decide +kernel
theorem dX1_whenClosed_21 : decode cX1_whenClosed 21 = .ok (.aload_n 0, 1) := by decide +kernel
theorem dX1_whenClosed_22 : decode cX1_whenClosed 22 = .ok (.invokevirtual 52, 3) := by decide +kernel
theorem dX1_whenClosed_25 : decode cX1_whenClosed 25 = .ok (.iinc 2 1, 3) := by decide +kernel
theorem dX1_whenClosed_28 : decode cX1_whenClosed 28 = .ok (.goto (-26), 3) := by decide +kernel
theorem dX1_whenClosed_31 : decode cX1_whenClosed 31 = .ok (.iconst (-1), 1) := by decide +kernel
theorem dX1_whenClosed_32 : decode cX1_whenClosed 32 = .ok (.ireturn, 1) := by decide +kernel
set_option maxRecDepth 20000 in
theorem ggX1_forceBehind_X1_goOn : GoodIn wsX1_forceBehind wsX1_goOn := goodIn_r _ [6, 1, 7, 8, 9, 10, 11, 12, 13, 14, 15, 16, 17, 18, 19, 20, 21, 22, 23, 24, 25, 26, 27, 28, 29, 30, 31, 32, 33, 34, 35, 36, 37, 38, 39, 40, 41, 42, 43, 44, 45, 46, 47, 48, 49, 50, 51, 52, 53, 54, 55, 56, 57, 62, 63, 64, 65, 66, 67, 68, 69, 70, 71, 72, 73, 74] (by decide +kernel) (by decide +kernel)
set_option maxRecDepth 20000 in
theorem gX1_forceBehind_X1_goOn : GoodIn wsX1_forceBehind (wsV RX1 52 RX1 yX1_goOn wsX1_goOn) := goodIn_app (goodIn_of _ (by decide +kernel)) ggX1_forceBehind_X1_goOn
set_option maxRecDepth 20000 in
theorem ggX1_forceBehind_X0_forceBits : GoodIn wsX1_forceBehind wsX0_forceBits := goodIn_r _ [61, 25, 26, 27, 28, 29, 30, 23, 31, 32, 33, 34, 35, 36, 37, 70, 71, 72, 73, 74] (by decide +kernel) (by decide +kernel)
set_option maxRecDepth 20000 in
theorem gX1_forceBehind_X0_forceBits : GoodIn wsX1_forceBehind (wsV RX1 55 RX0 yX0_forceBits wsX0_forceBits) := goodIn_app (goodIn_of _ (by decide +kernel)) ggX1_forceBehind_X0_forceBits
theorem dX1_forceBehind_0 : decode cX1_forceBehind 0 = .ok (.iconst 0, 1) := by decide +kernel
theorem dX1_forceBehind_1 : decode cX1_forceBehind 1 = .ok (.istore_n 2, 1) := by decide +kernel
theorem dX1_forceBehind_2 : decode cX1_forceBehind 2 = .ok (.iload_n 2, 1) := by decide +kernel
theorem dX1_forceBehind_3 : decode cX1_forceBehind 3 = .ok (.iload_n 1, 1) := by decide +kernel
theorem dX1_forceBehind_4 : decode cX1_forceBehind 4 = .ok (.if_icmp .ge 13, 3) := by decide +kernel
theorem dX1_forceBehind_7 : decode cX1_forceBehind 7 = .ok (.aload_n 0, 1) := by decide +kernel
theorem dX1_forceBehind_8 : decode cX1_forceBehind 8 = .ok (.invokevirtual 52, 3) := by decide +kernel
theorem dX1_forceBehind_11 : decode cX1_forceBehind 11 = .ok (.iinc 2 1, 3) := by decide +kernel
theorem dX1_forceBehind_14 : decode cX1_forceBehind 14 = .ok (.goto (-12), 3) := by decide +kernel
theorem dX1_forceBehind_17 : decode cX1_forceBehind 17 = .ok (.aload_n 0, 1) := by decide +kernel
theorem dX1_forceBehind_18 : decode cX1_forceBehind 18 = .ok (.getfield 18, 3) := by decide +kernel
theorem dX1_forceBehind_21 : decode cX1_forceBehind 21 = .ok (.invokevirtual 55, 3) := by decide +kernel
theorem dX1_forceBehind_24 : decode cX1_forceBehind 24 = .ok (.ireturn, 1) := by decide +kernel
set_option maxRecDepth 20000 in
theorem ggX1_closingOrder_X0_closedBits : GoodIn wsX1_closingOrder wsX0_closedBits := goodIn_r _ [6, 7, 8, 9, 10, 5, 11, 12, 13, 14, 15, 16, 17, 71, 72, 73, 74, 75] (by decide +kernel) (by decide +kernel)
set_option maxRecDepth 20000 in
theorem gX1_closingOrder_X0_closedBits : GoodIn wsX1_closingOrder (wsV RX1 59 RX0 yX0_closedBits wsX0_closedBits) := goodIn_app (goodIn_of _ (by decide +kernel)) ggX1_closingOrder_X0_closedBits
set_option maxRecDepth 20000 in
theorem ggX1_closingOrder_X0_size : GoodIn wsX1_closingOrder wsX0_size := goodIn_r _ [21, 7, 71, 72, 73, 74, 75] (by decide +kernel) (by decide +kernel)
set_option maxRecDepth 20000 in
theorem gX1_closingOrder_X0_size : GoodIn wsX1_closingOrder (wsV RX1 62 RX0 yX0_size wsX0_size) := goodIn_app (goodIn_of _ (by decide +kernel)) ggX1_closingOrder_X0_size
set_option maxRecDepth 20000 in
theorem ggX1_closingOrder_X1_goOn : GoodIn wsX1_closingOrder wsX1_goOn := goodIn_r _ [26, 1, 27, 28, 29, 30, 31, 32, 33, 34, 35, 36, 37, 38, 39, 40, 41, 42, 5, 43, 7, 44, 45, 8, 9, 10, 11, 12, 13, 14, 15, 16, 17, 46, 47, 48, 49, 50, 51, 52, 53, 54, 55, 56, 57, 58, 59, 60, 61, 62, 63, 64, 65, 66, 67, 68, 69, 70, 76, 77, 78, 71, 72, 73, 74, 75] (by decide +kernel) (by decide +kernel)
set_option maxRecDepth 20000 in
theorem gX1_closingOrder_X1_goOn : GoodIn wsX1_closingOrder (wsV RX1 52 RX1 yX1_goOn wsX1_goOn) := goodIn_app (goodIn_of _ (by decide +kernel)) ggX1_closingOrder_X1_goOn
theorem dX1_closingOrder_0 : decode cX1_closingOrder 0 = .ok (.iconst 0, 1) := by decide +kernel
theorem dX1_closingOrder_1 : decode cX1_closingOrder 1 = .ok (.istore_n 1, 1) := by decide +kernel
theorem dX1_closingOrder_2 : decode cX1_closingOrder 2 = .ok (.iconst 0, 1) := by decide +kernel
theorem dX1_closingOrder_3 : decode cX1_closingOrder 3 = .ok (.istore_n 2, 1) := by decide +kernel
theorem dX1_closingOrder_4 : decode cX1_closingOrder 4 = .ok (.iconst 0, 1) := by decide +kernel
theorem dX1_closingOrder_5 : decode cX1_closingOrder 5 = .ok (.istore_n 3, 1) := by decide +kernel
theorem dX1_closingOrder_6 : decode cX1_closingOrder 6 = .ok (.iload_n 3, 1) := by decide +kernel
theorem dX1_closingOrder_7 : decode cX1_closingOrder 7 = .ok (.bipush 40, 2) := by decide +kernel
theorem dX1_closingOrder_9 : decode cX1_closingOrder 9 = .ok (.if_icmp .gt 73, 3) := by decide +kernel
theorem dX1_closingOrder_12 : decode cX1_closingOrder 12 = .ok (.aload_n 0, 1) := by decide +kernel
theorem dX1_closingOrder_13 : decode cX1_closingOrder 13 = .ok (.getfield 18, 3) := by decide +kernel
theorem dX1_closingOrder_16 : decode cX1_closingOrder 16 = .ok (.invokevirtual 59, 3) := by decide +kernel
theorem dX1_closingOrder_19 : decode cX1_closingOrder 19 = .ok (.iload_n 2, 1) := by decide +kernel
theorem dX1_closingOrder_20 : decode cX1_closingOrder 20 = .ok (.iconst (-1), 1) := by decide +kernel
theorem dX1_closingOrder_21 : decode cX1_closingOrder 21 = .ok (.ixor, 1) := by decide +kernel
theorem dX1_closingOrder_22 : decode cX1_closingOrder 22 = .ok (.iand, 1) := by decide +kernel
theorem dX1_closingOrder_23 : decode cX1_closingOrder 23 = .ok (.istore 4, 2) := by decide +kernel
theorem dX1_closingOrder_25 : decode cX1_closingOrder 25 = .ok (.iconst 0, 1) := by decide +kernel
theorem dX1_closingOrder_26 : decode cX1_closingOrder 26 = .ok (.istore 5, 2) := by decide +kernel
theorem dX1_closingOrder_28 : decode cX1_closingOrder 28 = .ok (.iload 5, 2) := by decide +kernel
theorem dX1_closingOrder_30 : decode cX1_closingOrder 30 = .ok (.aload_n 0, 1) := by decide +kernel
theorem dX1_closingOrder_31 : decode cX1_closingOrder 31 = .ok (.getfield 18, 3) := by decide +kernel
theorem dX1_closingOrder_34 : decode cX1_closingOrder 34 = .ok (.invokevirtual 62, 3) := by decide +kernel
theorem dX1_closingOrder_37 : decode cX1_closingOrder 37 = .ok (.if_icmp .ge 30, 3) := by decide +kernel
theorem dX1_closingOrder_40 : decode cX1_closingOrder 40 = .ok (.iload 4, 2) := by decide +kernel
theorem dX1_closingOrder_42 : decode cX1_closingOrder 42 = .ok (.iload 5, 2) := by decide +kernel
theorem dX1_closingOrder_44 : decode cX1_closingOrder 44 = .ok (.ishr, 1) := by decide +kernel
theorem dX1_closingOrder_45 : decode cX1_closingOrder 45 = .ok (.iconst 1, 1) := by decide +kernel
theorem dX1_closingOrder_46 : decode cX1_closingOrder 46 = .ok (.iand, 1) := by decide +kernel
theorem dX1_closingOrder_47 : decode cX1_closingOrder 47 = .ok (.iconst 1, 1) := by decide +kernel
theorem dX1_closingOrder_48 : decode cX1_closingOrder 48 = .ok (.if_icmp .ne 13, 3) := by decide +kernel
theorem dX1_closingOrder_51 : decode cX1_closingOrder 51 = .ok (.bipush 10, 2) := by decide +kernel
theorem dX1_closingOrder_53 : decode cX1_closingOrder 53 = .ok (.iload_n 1, 1) := by decide +kernel
theorem dX1_closingOrder_54 : decode cX1_closingOrder 54 = .ok (.imul, 1) := by decide +kernel
theorem dX1_closingOrder_55 : decode cX1_closingOrder 55 = .ok (.iload 5, 2) := by decide +kernel
theorem dX1_closingOrder_57 : decode cX1_closingOrder 57 = .ok (.iadd, 1) := by decide +kernel
theorem dX1_closingOrder_58 : decode cX1_closingOrder 58 = .ok (.iconst 1, 1) := by decide +kernel
theorem dX1_closingOrder_59 : decode cX1_closingOrder 59 = .ok (.iadd, 1) := by decide +kernel
theorem dX1_closingOrder_60 : decode cX1_closingOrder 60 = .ok (.istore_n 1, 1) := by decide +kernel
theorem dX1_closingOrder_61 : decode cX1_closingOrder 61 = .ok (.iinc 5 1, 3) := by decide +kernel
theorem dX1_closingOrder_64 : decode cX1_closingOrder 64 = .ok (.goto (-36), 3) := by decide +kernel
theorem dX1_closingOrder_67 : decode cX1_closingOrder 67 = .ok (.iload_n 2, 1) := by decide +kernel
theorem dX1_closingOrder_68 : decode cX1_closingOrder 68 = .ok (.iload 4, 2) := by decide +kernel
theorem dX1_closingOrder_70 : decode cX1_closingOrder 70 = .ok (.ior, 1) := by decide +kernel
theorem dX1_closingOrder_71 : decode cX1_closingOrder 71 = .ok (.istore_n 2, 1) := by decide +kernel
theorem dX1_closingOrder_72 : decode cX1_closingOrder 72 = .ok (.aload_n 0, 1) := by decide +kernel
theorem dX1_closingOrder_73 : decode cX1_closingOrder 73 = .ok (.invokevirtual 52, 3) := by decide +kernel
theorem dX1_closingOrder_76 : decode cX1_closingOrder 76 = .ok (.iinc 3 1, 3) := by decide +kernel
theorem dX1_closingOrder_79 : decode cX1_closingOrder 79 = .ok (.goto (-73), 3) := by decide +kernel
theorem dX1_closingOrder_82 : decode cX1_closingOrder 82 = .ok (.iload_n 1, 1) := by decide +kernel
theorem dX1_closingOrder_83 : decode cX1_closingOrder 83 = .ok (.ireturn, 1) := by decide +kernel
set_option maxRecDepth 20000 in
theorem ggX1_fewestBreaths_X0_size : GoodIn wsX1_fewestBreaths wsX0_size := goodIn_r _ [6, 7, 77, 78, 79, 80, 81] (by decide +kernel) (by decide +kernel)
set_option maxRecDepth 20000 in
theorem gX1_fewestBreaths_X0_size : GoodIn wsX1_fewestBreaths (wsV RX1 62 RX0 yX0_size wsX0_size) := goodIn_app (goodIn_of _ (by decide +kernel)) ggX1_fewestBreaths_X0_size
set_option maxRecDepth 20000 in
theorem ggX1_fewestBreaths_X1_closesInTime : GoodIn wsX1_fewestBreaths wsX1_closesInTime := goodIn_r _ [12, 13, 1, 14, 15, 16, 17, 5, 18, 19, 20, 21, 22, 23, 24, 25, 26, 27, 28, 29, 30, 31, 32, 33, 34, 35, 36, 37, 38, 7, 39, 40, 41, 42, 43, 44, 45, 46, 47, 48, 49, 50, 51, 52, 53, 54, 55, 56, 57, 58, 59, 60, 61, 62, 63, 64, 65, 66, 67, 68, 69, 70, 71, 72, 73, 74, 75, 76, 77, 78, 79, 80, 81, 82, 83, 84] (by decide +kernel) (by decide +kernel)
set_option maxRecDepth 20000 in
theorem gX1_fewestBreaths_X1_closesInTime : GoodIn wsX1_fewestBreaths (wsV RX1 65 RX1 yX1_closesInTime wsX1_closesInTime) := goodIn_app (goodIn_of _ (by decide +kernel)) ggX1_fewestBreaths_X1_closesInTime
theorem dX1_fewestBreaths_0 : decode cX1_fewestBreaths 0 = .ok (.aload_n 0, 1) := by decide +kernel
theorem dX1_fewestBreaths_1 : decode cX1_fewestBreaths 1 = .ok (.getfield 12, 3) := by decide +kernel
theorem dX1_fewestBreaths_4 : decode cX1_fewestBreaths 4 = .ok (.invokevirtual 62, 3) := by decide +kernel
theorem dX1_fewestBreaths_7 : decode cX1_fewestBreaths 7 = .ok (.istore_n 3, 1) := by decide +kernel
theorem dX1_fewestBreaths_8 : decode cX1_fewestBreaths 8 = .ok (.iconst 0, 1) := by decide +kernel
theorem dX1_fewestBreaths_9 : decode cX1_fewestBreaths 9 = .ok (.istore 4, 2) := by decide +kernel
theorem dX1_fewestBreaths_11 : decode cX1_fewestBreaths 11 = .ok (.iload 4, 2) := by decide +kernel
theorem dX1_fewestBreaths_13 : decode cX1_fewestBreaths 13 = .ok (.iload_n 3, 1) := by decide +kernel
theorem dX1_fewestBreaths_14 : decode cX1_fewestBreaths 14 = .ok (.if_icmp .gt 94, 3) := by decide +kernel
theorem dX1_fewestBreaths_17 : decode cX1_fewestBreaths 17 = .ok (.iload 4, 2) := by decide +kernel
theorem dX1_fewestBreaths_19 : decode cX1_fewestBreaths 19 = .ok (.istore 5, 2) := by decide +kernel
theorem dX1_fewestBreaths_21 : decode cX1_fewestBreaths 21 = .ok (.iload 5, 2) := by decide +kernel
theorem dX1_fewestBreaths_23 : decode cX1_fewestBreaths 23 = .ok (.iload_n 3, 1) := by decide +kernel
theorem dX1_fewestBreaths_24 : decode cX1_fewestBreaths 24 = .ok (.if_icmp .gt 78, 3) := by decide +kernel
theorem dX1_fewestBreaths_27 : decode cX1_fewestBreaths 27 = .ok (.iload 5, 2) := by decide +kernel
theorem dX1_fewestBreaths_29 : decode cX1_fewestBreaths 29 = .ok (.istore 6, 2) := by decide +kernel
theorem dX1_fewestBreaths_31 : decode cX1_fewestBreaths 31 = .ok (.iload 6, 2) := by decide +kernel
theorem dX1_fewestBreaths_33 : decode cX1_fewestBreaths 33 = .ok (.iload_n 3, 1) := by decide +kernel
theorem dX1_fewestBreaths_34 : decode cX1_fewestBreaths 34 = .ok (.if_icmp .gt 62, 3) := by decide +kernel
theorem dX1_fewestBreaths_37 : decode cX1_fewestBreaths 37 = .ok (.iload 6, 2) := by decide +kernel
theorem dX1_fewestBreaths_39 : decode cX1_fewestBreaths 39 = .ok (.istore 7, 2) := by decide +kernel
theorem dX1_fewestBreaths_41 : decode cX1_fewestBreaths 41 = .ok (.iload 7, 2) := by decide +kernel
theorem dX1_fewestBreaths_43 : decode cX1_fewestBreaths 43 = .ok (.iload_n 3, 1) := by decide +kernel
theorem dX1_fewestBreaths_44 : decode cX1_fewestBreaths 44 = .ok (.if_icmp .gt 46, 3) := by decide +kernel
theorem dX1_fewestBreaths_47 : decode cX1_fewestBreaths 47 = .ok (.sipush 1000, 3) := by decide +kernel
theorem dX1_fewestBreaths_50 : decode cX1_fewestBreaths 50 = .ok (.iload 4, 2) := by decide +kernel
theorem dX1_fewestBreaths_52 : decode cX1_fewestBreaths 52 = .ok (.imul, 1) := by decide +kernel
theorem dX1_fewestBreaths_53 : decode cX1_fewestBreaths 53 = .ok (.bipush 100, 2) := by decide +kernel
theorem dX1_fewestBreaths_55 : decode cX1_fewestBreaths 55 = .ok (.iload 5, 2) := by decide +kernel
theorem dX1_fewestBreaths_57 : decode cX1_fewestBreaths 57 = .ok (.imul, 1) := by decide +kernel
theorem dX1_fewestBreaths_58 : decode cX1_fewestBreaths 58 = .ok (.iadd, 1) := by decide +kernel
theorem dX1_fewestBreaths_59 : decode cX1_fewestBreaths 59 = .ok (.bipush 10, 2) := by decide +kernel
theorem dX1_fewestBreaths_61 : decode cX1_fewestBreaths 61 = .ok (.iload 6, 2) := by decide +kernel
theorem dX1_fewestBreaths_63 : decode cX1_fewestBreaths 63 = .ok (.imul, 1) := by decide +kernel
theorem dX1_fewestBreaths_64 : decode cX1_fewestBreaths 64 = .ok (.iadd, 1) := by decide +kernel
theorem dX1_fewestBreaths_65 : decode cX1_fewestBreaths 65 = .ok (.iload 7, 2) := by decide +kernel
theorem dX1_fewestBreaths_67 : decode cX1_fewestBreaths 67 = .ok (.iadd, 1) := by decide +kernel
theorem dX1_fewestBreaths_68 : decode cX1_fewestBreaths 68 = .ok (.istore 8, 2) := by decide +kernel
theorem dX1_fewestBreaths_70 : decode cX1_fewestBreaths 70 = .ok (.aload_n 0, 1) := by decide +kernel
theorem dX1_fewestBreaths_71 : decode cX1_fewestBreaths 71 = .ok (.iload 8, 2) := by decide +kernel
theorem dX1_fewestBreaths_73 : decode cX1_fewestBreaths 73 = .ok (.iload_n 1, 1) := by decide +kernel
theorem dX1_fewestBreaths_74 : decode cX1_fewestBreaths 74 = .ok (.iload_n 2, 1) := by decide +kernel
theorem dX1_fewestBreaths_75 : decode cX1_fewestBreaths 75 = .ok (.invokevirtual 65, 3) := by decide +kernel
theorem dX1_fewestBreaths_78 : decode cX1_fewestBreaths 78 = .ok (.ifCond .eq 6, 3) := by decide +kernel
theorem dX1_fewestBreaths_81 : decode cX1_fewestBreaths 81 = .ok (.iload 8, 2) := by decide +kernel
theorem dX1_fewestBreaths_83 : decode cX1_fewestBreaths 83 = .ok (.ireturn, 1) := by decide +kernel
theorem dX1_fewestBreaths_84 : decode cX1_fewestBreaths 84 = .ok (.iinc 7 1, 3) := by decide +kernel
theorem dX1_fewestBreaths_87 : decode cX1_fewestBreaths 87 = .ok (.goto (-46), 3) := by decide +kernel
theorem dX1_fewestBreaths_90 : decode cX1_fewestBreaths 90 = .ok (.iinc 6 1, 3) := by decide +kernel
theorem dX1_fewestBreaths_93 : decode cX1_fewestBreaths 93 = .ok (.goto (-62), 3) := by decide +kernel
theorem dX1_fewestBreaths_96 : decode cX1_fewestBreaths 96 = .ok (.iinc 5 1, 3) := by decide +kernel
theorem dX1_fewestBreaths_99 : decode cX1_fewestBreaths 99 = .ok (.goto (-78), 3) := by decide +kernel
theorem dX1_fewestBreaths_102 : decode cX1_fewestBreaths 102 = .ok (.iinc 4 1, 3) := by decide +kernel
theorem dX1_fewestBreaths_105 : decode cX1_fewestBreaths 105 = .ok (.goto (-94), 3) := by decide +kernel
theorem dX1_fewestBreaths_108 : decode cX1_fewestBreaths 108 = .ok (.iconst (-1), 1) := by decide +kernel
theorem dX1_fewestBreaths_109 : decode cX1_fewestBreaths 109 = .ok (.ireturn, 1) := by decide +kernel
set_option maxRecDepth 20000 in
theorem ggX1_closesInTime_X0_copyMoss : GoodIn wsX1_closesInTime wsX0_copyMoss := goodIn_r _ [8, 9, 10, 11, 12, 13, 68, 69, 70, 71, 72] (by decide +kernel) (by decide +kernel)
set_option maxRecDepth 20000 in
theorem gX1_closesInTime_X0_copyMoss : GoodIn wsX1_closesInTime (wsV RX1 69 RX0 yX0_copyMoss wsX0_copyMoss) := goodIn_app (goodIn_of _ (by decide +kernel)) ggX1_closesInTime_X0_copyMoss
set_option maxRecDepth 20000 in
theorem ggX1_closesInTime_X0_addMoss : GoodIn wsX1_closesInTime wsX0_addMoss := goodIn_r _ [17, 9, 18, 19, 20, 21, 22, 23, 24, 25, 26, 27, 7, 28, 29, 68, 69, 70, 71, 72] (by decide +kernel) (by decide +kernel)
set_option maxRecDepth 20000 in
theorem gX1_closesInTime_X0_addMoss : GoodIn wsX1_closesInTime (wsV RX1 72 RX0 yX0_addMoss wsX0_addMoss) := goodIn_app (goodIn_of _ (by decide +kernel)) ggX1_closesInTime_X0_addMoss
set_option maxRecDepth 20000 in
theorem ggX1_closesInTime_X5_next : GoodIn wsX1_closesInTime wsX5_next := goodIn_r _ [34, 35, 73, 74, 75] (by decide +kernel) (by decide +kernel)
set_option maxRecDepth 20000 in
theorem gX1_closesInTime_X5_next : GoodIn wsX1_closesInTime (wsV RX1 76 RX5 yX5_next wsX5_next) := goodIn_app (goodIn_of _ (by decide +kernel)) ggX1_closesInTime_X5_next
set_option maxRecDepth 20000 in
theorem ggX1_closesInTime_X5_rainOf : GoodIn wsX1_closesInTime wsX5_rainOf := goodIn_r _ [39, 40, 41, 73, 74, 75] (by decide +kernel) (by decide +kernel)
set_option maxRecDepth 20000 in
theorem gX1_closesInTime_X5_rainOf : GoodIn wsX1_closesInTime (wsV RX1 79 RX5 yX5_rainOf wsX5_rainOf) := goodIn_app (goodIn_of _ (by decide +kernel)) ggX1_closesInTime_X5_rainOf
set_option maxRecDepth 20000 in
theorem ggX1_closesInTime_X0_grow : GoodIn wsX1_closesInTime wsX0_grow := goodIn_r _ [45, 29, 46, 47, 48, 49, 50, 7, 51, 9, 52, 25, 26, 27, 28, 53, 54, 55, 56, 23, 20, 24, 57, 19, 21, 58, 15, 16, 17, 18, 22, 68, 69, 70, 71, 72] (by decide +kernel) (by decide +kernel)
set_option maxRecDepth 20000 in
theorem gX1_closesInTime_X0_grow : GoodIn wsX1_closesInTime (wsV RX1 83 RX0 yX0_grow wsX0_grow) := goodIn_app (goodIn_of _ (by decide +kernel)) ggX1_closesInTime_X0_grow
set_option maxRecDepth 20000 in
theorem ggX1_closesInTime_X0_closedBits : GoodIn wsX1_closesInTime wsX0_closedBits := goodIn_r _ [62, 29, 48, 49, 50, 7, 51, 9, 52, 25, 26, 27, 28, 68, 69, 70, 71, 72] (by decide +kernel) (by decide +kernel)
set_option maxRecDepth 20000 in
theorem gX1_closesInTime_X0_closedBits : GoodIn wsX1_closesInTime (wsV RX1 59 RX0 yX0_closedBits wsX0_closedBits) := goodIn_app (goodIn_of _ (by decide +kernel)) ggX1_closesInTime_X0_closedBits
theorem dX1_closesInTime_0 : decode cX1_closesInTime 0 = .ok (.aload_n 0, 1) := by decide +kernel
theorem dX1_closesInTime_1 : decode cX1_closesInTime 1 = .ok (.getfield 18, 3) := by decide +kernel
theorem dX1_closesInTime_4 : decode cX1_closesInTime 4 = .ok (.aload_n 0, 1) := by decide +kernel
theorem dX1_closesInTime_5 : decode cX1_closesInTime 5 = .ok (.getfield 12, 3) := by decide +kernel
theorem dX1_closesInTime_8 : decode cX1_closesInTime 8 = .ok (.invokevirtual 69, 3) := by decide +kernel
theorem dX1_closesInTime_11 : decode cX1_closesInTime 11 = .ok (.iload_n 1, 1) := by decide +kernel
theorem dX1_closesInTime_12 : decode cX1_closesInTime 12 = .ok (.istore 4, 2) := by decide +kernel
theorem dX1_closesInTime_14 : decode cX1_closesInTime 14 = .ok (.iload 4, 2) := by decide +kernel
theorem dX1_closesInTime_16 : decode cX1_closesInTime 16 = .ok (.ifCond .le 28, 3) := by decide +kernel
theorem dX1_closesInTime_19 : decode cX1_closesInTime 19 = .ok (.aload_n 0, 1) := by decide +kernel
theorem dX1_closesInTime_20 : decode cX1_closesInTime 20 = .ok (.getfield 18, 3) := by decide +kernel
theorem dX1_closesInTime_23 : decode cX1_closesInTime 23 = .ok (.iload 4, 2) := by decide +kernel
theorem dX1_closesInTime_25 : decode cX1_closesInTime 25 = .ok (.bipush 10, 2) := by decide +kernel
theorem dX1_closesInTime_27 : decode cX1_closesInTime 27 = .ok (.irem, 1) := by decide +kernel
theorem dX1_closesInTime_28 : decode cX1_closesInTime 28 = .ok (.iconst 1, 1) := by decide +kernel
theorem dX1_closesInTime_29 : decode cX1_closesInTime 29 = .ok (.isub, 1) := by decide +kernel
theorem dX1_closesInTime_30 : decode cX1_closesInTime 30 = .ok (.iconst 1, 1) := by decide +kernel
theorem dX1_closesInTime_31 : decode cX1_closesInTime 31 = .ok (.invokevirtual 72, 3) := by decide +kernel
theorem dX1_closesInTime_34 : decode cX1_closesInTime 34 = .ok (.iload 4, 2) := by decide +kernel
theorem dX1_closesInTime_36 : decode cX1_closesInTime 36 = .ok (.bipush 10, 2) := by decide +kernel
theorem dX1_closesInTime_38 : decode cX1_closesInTime 38 = .ok (.idiv, 1) := by decide +kernel
theorem dX1_closesInTime_39 : decode cX1_closesInTime 39 = .ok (.istore 4, 2) := by decide +kernel
theorem dX1_closesInTime_41 : decode cX1_closesInTime 41 = .ok (.goto (-27), 3) := by decide +kernel
theorem dX1_closesInTime_44 : decode cX1_closesInTime 44 = .ok (.aload_n 0, 1) := by decide +kernel
theorem dX1_closesInTime_45 : decode cX1_closesInTime 45 = .ok (.getfield 24, 3) := by decide +kernel
theorem dX1_closesInTime_48 : decode cX1_closesInTime 48 = .ok (.invokevirtual 76, 3) := by decide +kernel
theorem dX1_closesInTime_51 : decode cX1_closesInTime 51 = .ok (.istore 4, 2) := by decide +kernel
theorem dX1_closesInTime_53 : decode cX1_closesInTime 53 = .ok (.iconst 0, 1) := by decide +kernel
theorem dX1_closesInTime_54 : decode cX1_closesInTime 54 = .ok (.istore 5, 2) := by decide +kernel
theorem dX1_closesInTime_56 : decode cX1_closesInTime 56 = .ok (.iload 5, 2) := by decide +kernel
theorem dX1_closesInTime_58 : decode cX1_closesInTime 58 = .ok (.iload_n 3, 1) := by decide +kernel
theorem dX1_closesInTime_59 : decode cX1_closesInTime 59 = .ok (.if_icmp .ge 28, 3) := by decide +kernel
theorem dX1_closesInTime_62 : decode cX1_closesInTime 62 = .ok (.aload_n 0, 1) := by decide +kernel
theorem dX1_closesInTime_63 : decode cX1_closesInTime 63 = .ok (.getfield 18, 3) := by decide +kernel
theorem dX1_closesInTime_66 : decode cX1_closesInTime 66 = .ok (.aload_n 0, 1) := by decide +kernel
theorem dX1_closesInTime_67 : decode cX1_closesInTime 67 = .ok (.getfield 24, 3) := by decide +kernel
theorem dX1_closesInTime_70 : decode cX1_closesInTime 70 = .ok (.iload 4, 2) := by decide +kernel
theorem dX1_closesInTime_72 : decode cX1_closesInTime 72 = .ok (.iload 5, 2) := by decide +kernel
theorem dX1_closesInTime_74 : decode cX1_closesInTime 74 = .ok (.iadd, 1) := by decide +kernel
theorem dX1_closesInTime_75 : decode cX1_closesInTime 75 = .ok (.invokevirtual 79, 3) := by decide +kernel
theorem dX1_closesInTime_78 : decode cX1_closesInTime 78 = .ok (.invokevirtual 83, 3) := by decide +kernel
theorem dX1_closesInTime_81 : decode cX1_closesInTime 81 = .ok (.iinc 5 1, 3) := by decide +kernel
theorem dX1_closesInTime_84 : decode cX1_closesInTime 84 = .ok (.goto (-28), 3) := by decide +kernel
theorem dX1_closesInTime_87 : decode cX1_closesInTime 87 = .ok (.iload_n 2, 1) := by decide +kernel
theorem dX1_closesInTime_88 : decode cX1_closesInTime 88 = .ok (.aload_n 0, 1) := by decide +kernel
theorem dX1_closesInTime_89 : decode cX1_closesInTime 89 = .ok (.getfield 18, 3) := by decide +kernel
theorem dX1_closesInTime_92 : decode cX1_closesInTime 92 = .ok (.invokevirtual 59, 3) := by decide +kernel
theorem dX1_closesInTime_95 : decode cX1_closesInTime 95 = .ok (.iconst (-1), 1) := by decide +kernel
theorem dX1_closesInTime_96 : decode cX1_closesInTime 96 = .ok (.ixor, 1) := by decide +kernel
theorem dX1_closesInTime_97 : decode cX1_closesInTime 97 = .ok (.iand, 1) := by decide +kernel
theorem dX1_closesInTime_98 : decode cX1_closesInTime 98 = .ok (.ifCond .ne 7, 3) := by decide +kernel
theorem dX1_closesInTime_101 : decode cX1_closesInTime 101 = .ok (.iconst 1, 1) := by decide +kernel
theorem dX1_closesInTime_102 : decode cX1_closesInTime 102 = .ok (.goto 4, 3) := by decide +kernel
theorem dX1_closesInTime_105 : decode cX1_closesInTime 105 = .ok (.iconst 0, 1) := by decide +kernel
theorem dX1_closesInTime_106 : decode cX1_closesInTime 106 = .ok (.ireturn, 1) := by decide +kernel
set_option maxRecDepth 20000 in
theorem ggX1_waysClosed_X0_copyMoss : GoodIn wsX1_waysClosed wsX0_copyMoss := goodIn_r _ [7, 8, 9, 10, 11, 12, 51, 52, 53, 54, 55] (by decide +kernel) (by decide +kernel)
set_option maxRecDepth 20000 in
theorem gX1_waysClosed_X0_copyMoss : GoodIn wsX1_waysClosed (wsV RX1 69 RX0 yX0_copyMoss wsX0_copyMoss) := goodIn_app (goodIn_of _ (by decide +kernel)) ggX1_waysClosed_X0_copyMoss
set_option maxRecDepth 20000 in
theorem ggX1_waysClosed_X0_grow : GoodIn wsX1_waysClosed wsX0_grow := goodIn_r _ [16, 17, 18, 19, 20, 21, 22, 6, 23, 8, 24, 25, 26, 27, 28, 29, 30, 31, 32, 33, 34, 35, 36, 37, 38, 39, 40, 41, 42, 43, 44, 51, 52, 53, 54, 55] (by decide +kernel) (by decide +kernel)
set_option maxRecDepth 20000 in
theorem gX1_waysClosed_X0_grow : GoodIn wsX1_waysClosed (wsV RX1 83 RX0 yX0_grow wsX0_grow) := goodIn_app (goodIn_of _ (by decide +kernel)) ggX1_waysClosed_X0_grow
set_option maxRecDepth 20000 in
theorem ggX1_waysClosed_X0_isClosed : GoodIn wsX1_waysClosed wsX0_isClosed := goodIn_r _ [23, 8, 24, 25, 26, 27, 6, 28, 17, 51, 52, 53, 54, 55] (by decide +kernel) (by decide +kernel)
set_option maxRecDepth 20000 in
theorem gX1_waysClosed_X0_isClosed : GoodIn wsX1_waysClosed (wsV RX1 48 RX0 yX0_isClosed wsX0_isClosed) := goodIn_app (goodIn_of _ (by decide +kernel)) ggX1_waysClosed_X0_isClosed
theorem dX1_waysClosed_0 : decode cX1_waysClosed 0 = .ok (.iconst 0, 1) := by decide +kernel
theorem dX1_waysClosed_1 : decode cX1_waysClosed 1 = .ok (.istore_n 3, 1) := by decide +kernel
theorem dX1_waysClosed_2 : decode cX1_waysClosed 2 = .ok (.iconst 1, 1) := by decide +kernel
theorem dX1_waysClosed_3 : decode cX1_waysClosed 3 = .ok (.iconst 2, 1) := by decide +kernel
theorem dX1_waysClosed_4 : decode cX1_waysClosed 4 = .ok (.iload_n 2, 1) := by decide +kernel
theorem dX1_waysClosed_5 : decode cX1_waysClosed 5 = .ok (.imul, 1) := by decide +kernel
theorem dX1_waysClosed_6 : decode cX1_waysClosed 6 = .ok (.ishl, 1) := by decide +kernel
theorem dX1_waysClosed_7 : decode cX1_waysClosed 7 = .ok (.istore 4, 2) := by decide +kernel
theorem dX1_waysClosed_9 : decode cX1_waysClosed 9 = .ok (.iconst 0, 1) := by decide +kernel
theorem dX1_waysClosed_10 : decode cX1_waysClosed 10 = .ok (.istore 5, 2) := by decide +kernel
theorem dX1_waysClosed_12 : decode cX1_waysClosed 12 = .ok (.iload 5, 2) := by decide +kernel
theorem dX1_waysClosed_14 : decode cX1_waysClosed 14 = .ok (.iload 4, 2) := by decide +kernel
theorem dX1_waysClosed_16 : decode cX1_waysClosed 16 = .ok (.if_icmp .ge 65, 3) := by decide +kernel
theorem dX1_waysClosed_19 : decode cX1_waysClosed 19 = .ok (.aload_n 0, 1) := by decide +kernel
theorem dX1_waysClosed_20 : decode cX1_waysClosed 20 = .ok (.getfield 18, 3) := by decide +kernel
theorem dX1_waysClosed_23 : decode cX1_waysClosed 23 = .ok (.aload_n 0, 1) := by decide +kernel
theorem dX1_waysClosed_24 : decode cX1_waysClosed 24 = .ok (.getfield 12, 3) := by decide +kernel
theorem dX1_waysClosed_27 : decode cX1_waysClosed 27 = .ok (.invokevirtual 69, 3) := by decide +kernel
theorem dX1_waysClosed_30 : decode cX1_waysClosed 30 = .ok (.iconst 0, 1) := by decide +kernel
theorem dX1_waysClosed_31 : decode cX1_waysClosed 31 = .ok (.istore 6, 2) := by decide +kernel
theorem dX1_waysClosed_33 : decode cX1_waysClosed 33 = .ok (.iload 6, 2) := by decide +kernel
theorem dX1_waysClosed_35 : decode cX1_waysClosed 35 = .ok (.iload_n 2, 1) := by decide +kernel
theorem dX1_waysClosed_36 : decode cX1_waysClosed 36 = .ok (.if_icmp .ge 25, 3) := by decide +kernel
theorem dX1_waysClosed_39 : decode cX1_waysClosed 39 = .ok (.aload_n 0, 1) := by decide +kernel
theorem dX1_waysClosed_40 : decode cX1_waysClosed 40 = .ok (.getfield 18, 3) := by decide +kernel
theorem dX1_waysClosed_43 : decode cX1_waysClosed 43 = .ok (.iload 5, 2) := by decide +kernel
theorem dX1_waysClosed_45 : decode cX1_waysClosed 45 = .ok (.iconst 2, 1) := by decide +kernel
theorem dX1_waysClosed_46 : decode cX1_waysClosed 46 = .ok (.iload 6, 2) := by decide +kernel
theorem dX1_waysClosed_48 : decode cX1_waysClosed 48 = .ok (.imul, 1) := by decide +kernel
theorem dX1_waysClosed_49 : decode cX1_waysClosed 49 = .ok (.ishr, 1) := by decide +kernel
theorem dX1_waysClosed_50 : decode cX1_waysClosed 50 = .ok (.iconst 3, 1) := by decide +kernel
theorem dX1_waysClosed_51 : decode cX1_waysClosed 51 = .ok (.iand, 1) := by decide +kernel
theorem dX1_waysClosed_52 : decode cX1_waysClosed 52 = .ok (.invokevirtual 83, 3) := by decide +kernel
theorem dX1_waysClosed_55 : decode cX1_waysClosed 55 = .ok (.iinc 6 1, 3) := by decide +kernel
theorem dX1_waysClosed_58 : decode cX1_waysClosed 58 = .ok (.goto (-25), 3) := by decide +kernel
theorem dX1_waysClosed_61 : decode cX1_waysClosed 61 = .ok (.aload_n 0, 1) := by decide +kernel
theorem dX1_waysClosed_62 : decode cX1_waysClosed 62 = .ok (.getfield 18, 3) := by decide +kernel
theorem dX1_waysClosed_65 : decode cX1_waysClosed 65 = .ok (.iload_n 1, 1) := by decide +kernel
theorem dX1_waysClosed_66 : decode cX1_waysClosed 66 = .ok (.invokevirtual 48, 3) := by decide +kernel
theorem dX1_waysClosed_69 : decode cX1_waysClosed 69 = .ok (.ifCond .eq 6, 3) := by decide +kernel
theorem dX1_waysClosed_72 : decode cX1_waysClosed 72 = .ok (.iinc 3 1, 3) := by decide +kernel
theorem dX1_waysClosed_75 : decode cX1_waysClosed 75 = .ok (.iinc 5 1, 3) := by decide +kernel
theorem dX1_waysClosed_78 : decode cX1_waysClosed 78 = .ok (.goto (-66), 3) := by decide +kernel
theorem dX1_waysClosed_81 : decode cX1_waysClosed 81 = .ok (.iload_n 3, 1) := by decide +kernel
theorem dX1_waysClosed_82 : decode cX1_waysClosed 82 = .ok (.ireturn, 1) := by decide +kernel
set_option maxRecDepth 20000 in
theorem ggX1_draw_X0_grow : GoodIn wsX1_draw wsX0_grow := goodIn_r _ [12, 13, 14, 15, 16, 17, 18, 11, 19, 20, 21, 22, 23, 24, 25, 26, 27, 28, 29, 30, 31, 32, 33, 34, 35, 36, 37, 38, 39, 40, 41, 55, 56, 57, 58, 59] (by decide +kernel) (by decide +kernel)
set_option maxRecDepth 20000 in
theorem gX1_draw_X0_grow : GoodIn wsX1_draw (wsV RX1 83 RX0 yX0_grow wsX0_grow) := goodIn_app (goodIn_of _ (by decide +kernel)) ggX1_draw_X0_grow
set_option maxRecDepth 20000 in
theorem ggX1_draw_X0_allClosed : GoodIn wsX1_draw wsX0_allClosed := goodIn_r _ [45, 13, 46, 47, 48, 11, 49, 16, 17, 18, 19, 20, 21, 22, 23, 24, 25, 55, 56, 57, 58, 59] (by decide +kernel) (by decide +kernel)
set_option maxRecDepth 20000 in
theorem gX1_draw_X0_allClosed : GoodIn wsX1_draw (wsV RX1 94 RX0 yX0_allClosed wsX0_allClosed) := goodIn_app (goodIn_of _ (by decide +kernel)) ggX1_draw_X0_allClosed
theorem dX1_draw_0 : decode cX1_draw 0 = .ok (.aload_n 0, 1) := by decide +kernel
theorem dX1_draw_1 : decode cX1_draw 1 = .ok (.iload_n 2, 1) := by decide +kernel
theorem dX1_draw_2 : decode cX1_draw 2 = .ok (.putfield 32, 3) := by decide +kernel
theorem dX1_draw_5 : decode cX1_draw 5 = .ok (.aload_n 0, 1) := by decide +kernel
theorem dX1_draw_6 : decode cX1_draw 6 = .ok (.iconst 0, 1) := by decide +kernel
theorem dX1_draw_7 : decode cX1_draw 7 = .ok (.putfield 28, 3) := by decide +kernel
theorem dX1_draw_10 : decode cX1_draw 10 = .ok (.iconst 0, 1) := by decide +kernel
theorem dX1_draw_11 : decode cX1_draw 11 = .ok (.istore_n 3, 1) := by decide +kernel
theorem dX1_draw_12 : decode cX1_draw 12 = .ok (.iload_n 3, 1) := by decide +kernel
theorem dX1_draw_13 : decode cX1_draw 13 = .ok (.iload_n 1, 1) := by decide +kernel
theorem dX1_draw_14 : decode cX1_draw 14 = .ok (.if_icmp .ge 67, 3) := by decide +kernel
theorem dX1_draw_17 : decode cX1_draw 17 = .ok (.aload_n 0, 1) := by decide +kernel
theorem dX1_draw_18 : decode cX1_draw 18 = .ok (.ldc2_w 87, 3) := by decide +kernel
theorem dX1_draw_21 : decode cX1_draw 21 = .ok (.aload_n 0, 1) := by decide +kernel
theorem dX1_draw_22 : decode cX1_draw 22 = .ok (.getfield 32, 3) := by decide +kernel
theorem dX1_draw_25 : decode cX1_draw 25 = .ok (.i2l, 1) := by decide +kernel
theorem dX1_draw_26 : decode cX1_draw 26 = .ok (.lmul, 1) := by decide +kernel
theorem dX1_draw_27 : decode cX1_draw 27 = .ok (.ldc2_w 89, 3) := by decide +kernel
theorem dX1_draw_30 : decode cX1_draw 30 = .ok (.ladd, 1) := by decide +kernel
theorem dX1_draw_31 : decode cX1_draw 31 = .ok (.ldc2_w 91, 3) := by decide +kernel
theorem dX1_draw_34 : decode cX1_draw 34 = .ok (.lrem, 1) := by decide +kernel
theorem dX1_draw_35 : decode cX1_draw 35 = .ok (.l2i, 1) := by decide +kernel
theorem dX1_draw_36 : decode cX1_draw 36 = .ok (.putfield 32, 3) := by decide +kernel
theorem dX1_draw_39 : decode cX1_draw 39 = .ok (.aload_n 0, 1) := by decide +kernel
theorem dX1_draw_40 : decode cX1_draw 40 = .ok (.getfield 18, 3) := by decide +kernel
theorem dX1_draw_43 : decode cX1_draw 43 = .ok (.aload_n 0, 1) := by decide +kernel
theorem dX1_draw_44 : decode cX1_draw 44 = .ok (.getfield 32, 3) := by decide +kernel
theorem dX1_draw_47 : decode cX1_draw 47 = .ok (.ldc 93, 2) := by decide +kernel
theorem dX1_draw_49 : decode cX1_draw 49 = .ok (.idiv, 1) := by decide +kernel
theorem dX1_draw_50 : decode cX1_draw 50 = .ok (.iconst 4, 1) := by decide +kernel
theorem dX1_draw_51 : decode cX1_draw 51 = .ok (.irem, 1) := by decide +kernel
theorem dX1_draw_52 : decode cX1_draw 52 = .ok (.invokevirtual 83, 3) := by decide +kernel
theorem dX1_draw_55 : decode cX1_draw 55 = .ok (.aload_n 0, 1) := by decide +kernel
theorem dX1_draw_56 : decode cX1_draw 56 = .ok (.getfield 18, 3) := by decide +kernel
theorem dX1_draw_59 : decode cX1_draw 59 = .ok (.invokevirtual 94, 3) := by decide +kernel
theorem dX1_draw_62 : decode cX1_draw 62 = .ok (.ifCond .eq 13, 3) := by decide +kernel
theorem dX1_draw_65 : decode cX1_draw 65 = .ok (.aload_n 0, 1) := by decide +kernel
theorem dX1_draw_66 : decode cX1_draw 66 = .ok (.dup, 1) := by decide +kernel
theorem dX1_draw_67 : decode cX1_draw 67 = .ok (.getfield 28, 3) := by decide +kernel
theorem dX1_draw_70 : decode cX1_draw 70 = .ok (.iconst 1, 1) := by decide +kernel
theorem dX1_draw_71 : decode cX1_draw 71 = .ok (.iadd, 1) := by decide +kernel
theorem dX1_draw_72 : decode cX1_draw 72 = .ok (.putfield 28, 3) := by decide +kernel
theorem dX1_draw_75 : decode cX1_draw 75 = .ok (.iinc 3 1, 3) := by decide +kernel
theorem dX1_draw_78 : decode cX1_draw 78 = .ok (.goto (-66), 3) := by decide +kernel
theorem dX1_draw_81 : decode cX1_draw 81 = .ok (.return_, 1) := by decide +kernel
theorem dX1_weeksAllClosed_0 : decode cX1_weeksAllClosed 0 = .ok (.aload_n 0, 1) := by decide +kernel
theorem dX1_weeksAllClosed_1 : decode cX1_weeksAllClosed 1 = .ok (.getfield 28, 3) := by decide +kernel
theorem dX1_weeksAllClosed_4 : decode cX1_weeksAllClosed 4 = .ok (.ireturn, 1) := by decide +kernel
theorem dX1_seedThen_0 : decode cX1_seedThen 0 = .ok (.aload_n 0, 1) := by decide +kernel
theorem dX1_seedThen_1 : decode cX1_seedThen 1 = .ok (.getfield 32, 3) := by decide +kernel
theorem dX1_seedThen_4 : decode cX1_seedThen 4 = .ok (.ireturn, 1) := by decide +kernel
set_option maxRecDepth 20000 in
theorem ggX1_mossOfAll_X0_mossOfAll : GoodIn wsX1_mossOfAll wsX0_mossOfAll := goodIn_r _ [6, 7, 8, 9, 10, 5, 11, 12, 13, 14, 15, 16, 22, 23, 24, 25, 26] (by decide +kernel) (by decide +kernel)
set_option maxRecDepth 20000 in
theorem gX1_mossOfAll_X0_mossOfAll : GoodIn wsX1_mossOfAll (wsV RX1 98 RX0 yX0_mossOfAll wsX0_mossOfAll) := goodIn_app (goodIn_of _ (by decide +kernel)) ggX1_mossOfAll_X0_mossOfAll
theorem dX1_mossOfAll_0 : decode cX1_mossOfAll 0 = .ok (.aload_n 0, 1) := by decide +kernel
theorem dX1_mossOfAll_1 : decode cX1_mossOfAll 1 = .ok (.getfield 18, 3) := by decide +kernel
theorem dX1_mossOfAll_4 : decode cX1_mossOfAll 4 = .ok (.invokevirtual 98, 3) := by decide +kernel
theorem dX1_mossOfAll_7 : decode cX1_mossOfAll 7 = .ok (.ireturn, 1) := by decide +kernel
set_option maxRecDepth 20000 in
theorem ggX1_goOn_X5_next : GoodIn wsX1_goOn wsX5_next := goodIn_r _ [7, 8, 58, 59, 60] (by decide +kernel) (by decide +kernel)
set_option maxRecDepth 20000 in
theorem gX1_goOn_X5_next : GoodIn wsX1_goOn (wsV RX1 76 RX5 yX5_next wsX5_next) := goodIn_app (goodIn_of _ (by decide +kernel)) ggX1_goOn_X5_next
set_option maxRecDepth 20000 in
theorem ggX1_goOn_X5_rainOf : GoodIn wsX1_goOn wsX5_rainOf := goodIn_r _ [12, 13, 14, 58, 59, 60] (by decide +kernel) (by decide +kernel)
set_option maxRecDepth 20000 in
theorem gX1_goOn_X5_rainOf : GoodIn wsX1_goOn (wsV RX1 79 RX5 yX5_rainOf wsX5_rainOf) := goodIn_app (goodIn_of _ (by decide +kernel)) ggX1_goOn_X5_rainOf
set_option maxRecDepth 20000 in
theorem ggX1_goOn_X0_grow : GoodIn wsX1_goOn wsX0_grow := goodIn_r _ [19, 20, 21, 22, 23, 24, 25, 18, 26, 27, 28, 29, 30, 31, 32, 33, 34, 35, 36, 37, 38, 39, 40, 41, 42, 43, 44, 45, 46, 47, 48, 61, 62, 63, 64, 65] (by decide +kernel) (by decide +kernel)
set_option maxRecDepth 20000 in
theorem gX1_goOn_X0_grow : GoodIn wsX1_goOn (wsV RX1 83 RX0 yX0_grow wsX0_grow) := goodIn_app (goodIn_of _ (by decide +kernel)) ggX1_goOn_X0_grow
set_option maxRecDepth 20000 in
theorem ggX1_goOn_X5_goOn : GoodIn wsX1_goOn wsX5_goOn := goodIn_r _ [52, 8, 58, 59, 60] (by decide +kernel) (by decide +kernel)
set_option maxRecDepth 20000 in
theorem gX1_goOn_X5_goOn : GoodIn wsX1_goOn (wsV RX1 101 RX5 yX5_goOn wsX5_goOn) := goodIn_app (goodIn_of _ (by decide +kernel)) ggX1_goOn_X5_goOn
theorem dX1_goOn_0 : decode cX1_goOn 0 = .ok (.aload_n 0, 1) := by decide +kernel
theorem dX1_goOn_1 : decode cX1_goOn 1 = .ok (.getfield 18, 3) := by decide +kernel
theorem dX1_goOn_4 : decode cX1_goOn 4 = .ok (.aload_n 0, 1) := by decide +kernel
theorem dX1_goOn_5 : decode cX1_goOn 5 = .ok (.getfield 24, 3) := by decide +kernel
theorem dX1_goOn_8 : decode cX1_goOn 8 = .ok (.aload_n 0, 1) := by decide +kernel
theorem dX1_goOn_9 : decode cX1_goOn 9 = .ok (.getfield 24, 3) := by decide +kernel
theorem dX1_goOn_12 : decode cX1_goOn 12 = .ok (.invokevirtual 76, 3) := by decide +kernel
theorem dX1_goOn_15 : decode cX1_goOn 15 = .ok (.invokevirtual 79, 3) := by decide +kernel
theorem dX1_goOn_18 : decode cX1_goOn 18 = .ok (.invokevirtual 83, 3) := by decide +kernel
theorem dX1_goOn_21 : decode cX1_goOn 21 = .ok (.aload_n 0, 1) := by decide +kernel
theorem dX1_goOn_22 : decode cX1_goOn 22 = .ok (.getfield 24, 3) := by decide +kernel
theorem dX1_goOn_25 : decode cX1_goOn 25 = .ok (.invokevirtual 101, 3) := by decide +kernel
theorem dX1_goOn_28 : decode cX1_goOn 28 = .ok (.return_, 1) := by decide +kernel
theorem dX2_init_0 : decode cX2_init 0 = .ok (.aload_n 0, 1) := by decide +kernel
theorem dX2_init_1 : decode cX2_init 1 = .ok (.invokespecial 3, 3) := by decide +kernel
theorem dX2_init_4 : decode cX2_init 4 = .ok (.aload_n 0, 1) := by decide +kernel
theorem dX2_init_5 : decode cX2_init 5 = .ok (.bipush 36, 2) := by decide +kernel
theorem dX2_init_7 : decode cX2_init 7 = .ok (.newarray .int, 2) := by decide +kernel
theorem dX2_init_9 : decode cX2_init 9 = .ok (.putfield 9, 3) := by decide +kernel
theorem dX2_init_12 : decode cX2_init 12 = .ok (.aload_n 0, 1) := by decide +kernel
theorem dX2_init_13 : decode cX2_init 13 = .ok (.iconst 0, 1) := by decide +kernel
theorem dX2_init_14 : decode cX2_init 14 = .ok (.putfield 15, 3) := by decide +kernel
theorem dX2_init_17 : decode cX2_init 17 = .ok (.return_, 1) := by decide +kernel
theorem dX2_size_0 : decode cX2_size 0 = .ok (.aload_n 0, 1) := by decide +kernel
theorem dX2_size_1 : decode cX2_size 1 = .ok (.getfield 15, 3) := by decide +kernel
theorem dX2_size_4 : decode cX2_size 4 = .ok (.ireturn, 1) := by decide +kernel
theorem dX2_codeAt_0 : decode cX2_codeAt 0 = .ok (.iload_n 1, 1) := by decide +kernel
theorem dX2_codeAt_1 : decode cX2_codeAt 1 = .ok (.ifCond .lt 20, 3) := by decide +kernel
theorem dX2_codeAt_4 : decode cX2_codeAt 4 = .ok (.iload_n 1, 1) := by decide +kernel
theorem dX2_codeAt_5 : decode cX2_codeAt 5 = .ok (.aload_n 0, 1) := by decide +kernel
theorem dX2_codeAt_6 : decode cX2_codeAt 6 = .ok (.getfield 15, 3) := by decide +kernel
theorem dX2_codeAt_9 : decode cX2_codeAt 9 = .ok (.if_icmp .ge 12, 3) := by decide +kernel
theorem dX2_codeAt_12 : decode cX2_codeAt 12 = .ok (.aload_n 0, 1) := by decide +kernel
theorem dX2_codeAt_13 : decode cX2_codeAt 13 = .ok (.getfield 9, 3) := by decide +kernel
theorem dX2_codeAt_16 : decode cX2_codeAt 16 = .ok (.iload_n 1, 1) := by decide +kernel
theorem dX2_codeAt_17 : decode cX2_codeAt 17 = .ok (.iaload, 1) := by decide +kernel
theorem dX2_codeAt_18 : decode cX2_codeAt 18 = .ok (.goto 4, 3) := by decide +kernel
theorem dX2_codeAt_21 : decode cX2_codeAt 21 = .ok (.iconst (-1), 1) := by decide +kernel
theorem dX2_codeAt_22 : decode cX2_codeAt 22 = .ok (.ireturn, 1) := by decide +kernel
theorem dX2_add_0 : decode cX2_add 0 = .ok (.aload_n 0, 1) := by decide +kernel
theorem dX2_add_1 : decode cX2_add 1 = .ok (.getfield 15, 3) := by decide +kernel
theorem dX2_add_4 : decode cX2_add 4 = .ok (.bipush 36, 2) := by decide +kernel
theorem dX2_add_6 : decode cX2_add 6 = .ok (.if_icmp .ge 23, 3) := by decide +kernel
theorem dX2_add_9 : decode cX2_add 9 = .ok (.aload_n 0, 1) := by decide +kernel
theorem dX2_add_10 : decode cX2_add 10 = .ok (.getfield 9, 3) := by decide +kernel
theorem dX2_add_13 : decode cX2_add 13 = .ok (.aload_n 0, 1) := by decide +kernel
theorem dX2_add_14 : decode cX2_add 14 = .ok (.getfield 15, 3) := by decide +kernel
theorem dX2_add_17 : decode cX2_add 17 = .ok (.iload_n 1, 1) := by decide +kernel
theorem dX2_add_18 : decode cX2_add 18 = .ok (.iastore, 1) := by decide +kernel
theorem dX2_add_19 : decode cX2_add 19 = .ok (.aload_n 0, 1) := by decide +kernel
theorem dX2_add_20 : decode cX2_add 20 = .ok (.dup, 1) := by decide +kernel
theorem dX2_add_21 : decode cX2_add 21 = .ok (.getfield 15, 3) := by decide +kernel
theorem dX2_add_24 : decode cX2_add 24 = .ok (.iconst 1, 1) := by decide +kernel
theorem dX2_add_25 : decode cX2_add 25 = .ok (.iadd, 1) := by decide +kernel
theorem dX2_add_26 : decode cX2_add 26 = .ok (.putfield 15, 3) := by decide +kernel
theorem dX2_add_29 : decode cX2_add 29 = .ok (.return_, 1) := by decide +kernel
theorem dX2_clear_0 : decode cX2_clear 0 = .ok (.aload_n 0, 1) := by decide +kernel
theorem dX2_clear_1 : decode cX2_clear 1 = .ok (.iconst 0, 1) := by decide +kernel
theorem dX2_clear_2 : decode cX2_clear 2 = .ok (.putfield 15, 3) := by decide +kernel
theorem dX2_clear_5 : decode cX2_clear 5 = .ok (.return_, 1) := by decide +kernel
set_option maxRecDepth 20000 in
theorem ggX2_faultPlace_X2_rainPlace : GoodIn wsX2_faultPlace wsX2_rainPlace := goodIn_r _ [7, 1, 2, 103, 104] (by decide +kernel) (by decide +kernel)
set_option maxRecDepth 20000 in
theorem gX2_faultPlace_X2_rainPlace : GoodIn wsX2_faultPlace (wsV RX2 19 RX2 yX2_rainPlace wsX2_rainPlace) := goodIn_app (goodIn_of _ (by decide +kernel)) ggX2_faultPlace_X2_rainPlace
set_option maxRecDepth 20000 in
theorem ggX2_faultPlace_X2_fitsClause : GoodIn wsX2_faultPlace wsX2_fitsClause := goodIn_r _ [10, 11, 12, 13, 14, 15, 16, 17, 18, 19, 20, 21, 22, 23, 24, 25, 26, 27, 28, 29, 30, 31, 32, 33, 34, 35, 36, 37, 38, 39, 40, 41, 42, 43, 44, 45, 46, 47, 48, 49, 50, 51, 52, 53, 54, 55, 56, 57, 58, 59, 60, 61, 62, 63, 64, 65, 66, 67, 68, 69, 70, 71, 72, 73, 74, 75, 76, 77, 78, 79, 80, 81, 82, 83, 84, 85, 86, 87, 88, 89, 90, 91, 92, 93, 94, 95, 96, 97, 98, 99] (by decide +kernel) (by decide +kernel)
set_option maxRecDepth 20000 in
theorem gX2_faultPlace_X2_fitsClause : GoodIn wsX2_faultPlace (va_wsS RX2 23 yX2_fitsClause wsX2_fitsClause) := goodIn_app (goodIn_of _ (by decide +kernel)) ggX2_faultPlace_X2_fitsClause
set_option maxRecDepth 20000 in
theorem ggX2_faultPlace_X2_fitsRain : GoodIn wsX2_faultPlace wsX2_fitsRain := goodIn_r _ [102] (by decide +kernel) (by decide +kernel)
set_option maxRecDepth 20000 in
theorem gX2_faultPlace_X2_fitsRain : GoodIn wsX2_faultPlace (va_wsS RX2 27 yX2_fitsRain wsX2_fitsRain) := goodIn_app (goodIn_of _ (by decide +kernel)) ggX2_faultPlace_X2_fitsRain
theorem dX2_faultPlace_0 : decode cX2_faultPlace 0 = .ok (.aload_n 0, 1) := by decide +kernel
theorem dX2_faultPlace_1 : decode cX2_faultPlace 1 = .ok (.invokevirtual 19, 3) := by decide +kernel
theorem dX2_faultPlace_4 : decode cX2_faultPlace 4 = .ok (.istore_n 1, 1) := by decide +kernel
theorem dX2_faultPlace_5 : decode cX2_faultPlace 5 = .ok (.iconst 0, 1) := by decide +kernel
theorem dX2_faultPlace_6 : decode cX2_faultPlace 6 = .ok (.istore_n 2, 1) := by decide +kernel
theorem dX2_faultPlace_7 : decode cX2_faultPlace 7 = .ok (.iload_n 2, 1) := by decide +kernel
theorem dX2_faultPlace_8 : decode cX2_faultPlace 8 = .ok (.aload_n 0, 1) := by decide +kernel
theorem dX2_faultPlace_9 : decode cX2_faultPlace 9 = .ok (.getfield 15, 3) := by decide +kernel
theorem dX2_faultPlace_12 : decode cX2_faultPlace 12 = .ok (.if_icmp .ge 51, 3) := by decide +kernel
theorem dX2_faultPlace_15 : decode cX2_faultPlace 15 = .ok (.iload_n 2, 1) := by decide +kernel
theorem dX2_faultPlace_16 : decode cX2_faultPlace 16 = .ok (.iload_n 1, 1) := by decide +kernel
theorem dX2_faultPlace_17 : decode cX2_faultPlace 17 = .ok (.if_icmp .ge 21, 3) := by decide +kernel
theorem dX2_faultPlace_20 : decode cX2_faultPlace 20 = .ok (.iload_n 2, 1) := by decide +kernel
theorem dX2_faultPlace_21 : decode cX2_faultPlace 21 = .ok (.iconst 4, 1) := by decide +kernel
theorem dX2_faultPlace_22 : decode cX2_faultPlace 22 = .ok (.idiv, 1) := by decide +kernel
theorem dX2_faultPlace_23 : decode cX2_faultPlace 23 = .ok (.iload_n 2, 1) := by decide +kernel
theorem dX2_faultPlace_24 : decode cX2_faultPlace 24 = .ok (.iconst 4, 1) := by decide +kernel
theorem dX2_faultPlace_25 : decode cX2_faultPlace 25 = .ok (.irem, 1) := by decide +kernel
theorem dX2_faultPlace_26 : decode cX2_faultPlace 26 = .ok (.aload_n 0, 1) := by decide +kernel
theorem dX2_faultPlace_27 : decode cX2_faultPlace 27 = .ok (.getfield 9, 3) := by decide +kernel
theorem dX2_faultPlace_30 : decode cX2_faultPlace 30 = .ok (.iload_n 2, 1) := by decide +kernel
theorem dX2_faultPlace_31 : decode cX2_faultPlace 31 = .ok (.iaload, 1) := by decide +kernel
theorem dX2_faultPlace_32 : decode cX2_faultPlace 32 = .ok (.invokestatic 23, 3) := by decide +kernel
theorem dX2_faultPlace_35 : decode cX2_faultPlace 35 = .ok (.goto 15, 3) := by decide +kernel
theorem dX2_faultPlace_38 : decode cX2_faultPlace 38 = .ok (.iload_n 2, 1) := by decide +kernel
theorem dX2_faultPlace_39 : decode cX2_faultPlace 39 = .ok (.iload_n 1, 1) := by decide +kernel
theorem dX2_faultPlace_40 : decode cX2_faultPlace 40 = .ok (.isub, 1) := by decide +kernel
theorem dX2_faultPlace_41 : decode cX2_faultPlace 41 = .ok (.aload_n 0, 1) := by decide +kernel
theorem dX2_faultPlace_42 : decode cX2_faultPlace 42 = .ok (.getfield 9, 3) := by decide +kernel
theorem dX2_faultPlace_45 : decode cX2_faultPlace 45 = .ok (.iload_n 2, 1) := by decide +kernel
theorem dX2_faultPlace_46 : decode cX2_faultPlace 46 = .ok (.iaload, 1) := by decide +kernel
theorem dX2_faultPlace_47 : decode cX2_faultPlace 47 = .ok (.invokestatic 27, 3) := by decide +kernel
theorem dX2_faultPlace_50 : decode cX2_faultPlace 50 = .ok (.istore_n 3, 1) := by decide +kernel
theorem dX2_faultPlace_51 : decode cX2_faultPlace 51 = .ok (.iload_n 3, 1) := by decide +kernel
theorem dX2_faultPlace_52 : decode cX2_faultPlace 52 = .ok (.ifCond .ne 5, 3) := by decide +kernel
theorem dX2_faultPlace_55 : decode cX2_faultPlace 55 = .ok (.iload_n 2, 1) := by decide +kernel
theorem dX2_faultPlace_56 : decode cX2_faultPlace 56 = .ok (.ireturn, 1) := by decide +kernel
theorem dX2_faultPlace_57 : decode cX2_faultPlace 57 = .ok (.iinc 2 1, 3) := by decide +kernel
theorem dX2_faultPlace_60 : decode cX2_faultPlace 60 = .ok (.goto (-53), 3) := by decide +kernel
theorem dX2_faultPlace_63 : decode cX2_faultPlace 63 = .ok (.aload_n 0, 1) := by decide +kernel
theorem dX2_faultPlace_64 : decode cX2_faultPlace 64 = .ok (.getfield 15, 3) := by decide +kernel
theorem dX2_faultPlace_67 : decode cX2_faultPlace 67 = .ok (.ireturn, 1) := by decide +kernel
set_option maxRecDepth 20000 in
theorem ggX2_isWall_X2_rainPlace : GoodIn wsX2_isWall wsX2_rainPlace := goodIn_r _ [6, 1, 7, 107, 108] (by decide +kernel) (by decide +kernel)
set_option maxRecDepth 20000 in
theorem gX2_isWall_X2_rainPlace : GoodIn wsX2_isWall (wsV RX2 19 RX2 yX2_rainPlace wsX2_rainPlace) := goodIn_app (goodIn_of _ (by decide +kernel)) ggX2_isWall_X2_rainPlace
set_option maxRecDepth 20000 in
theorem ggX2_isWall_X2_faultPlace : GoodIn wsX2_isWall wsX2_faultPlace := goodIn_r _ [11, 1, 7, 2, 3, 4, 5, 6, 12, 13, 14, 15, 16, 17, 18, 19, 20, 21, 22, 23, 24, 25, 26, 27, 28, 29, 30, 31, 32, 33, 34, 35, 36, 37, 38, 39, 40, 41, 42, 43, 44, 45, 46, 47, 48, 49, 50, 51, 52, 53, 54, 55, 56, 57, 58, 59, 60, 61, 62, 63, 64, 65, 66, 67, 68, 69, 70, 71, 72, 73, 74, 75, 76, 77, 78, 79, 80, 81, 82, 83, 84, 85, 86, 87, 88, 89, 90, 91, 92, 93, 94, 95, 96, 97, 98, 99, 100, 101, 102, 103, 104, 105, 106, 107, 108] (by decide +kernel) (by decide +kernel)
set_option maxRecDepth 20000 in
theorem gX2_isWall_X2_faultPlace : GoodIn wsX2_isWall (wsV RX2 31 RX2 yX2_faultPlace wsX2_faultPlace) := goodIn_app (goodIn_of _ (by decide +kernel)) ggX2_isWall_X2_faultPlace
theorem dX2_isWall_0 : decode cX2_isWall 0 = .ok (.aload_n 0, 1) := by decide +kernel
theorem dX2_isWall_1 : decode cX2_isWall 1 = .ok (.invokevirtual 19, 3) := by decide +kernel
theorem dX2_isWall_4 : decode cX2_isWall 4 = .ok (.aload_n 0, 1) := by decide +kernel
theorem dX2_isWall_5 : decode cX2_isWall 5 = .ok (.getfield 15, 3) := by decide +kernel
theorem dX2_isWall_8 : decode cX2_isWall 8 = .ok (.if_icmp .ge 18, 3) := by decide +kernel
theorem dX2_isWall_11 : decode cX2_isWall 11 = .ok (.aload_n 0, 1) := by decide +kernel
theorem dX2_isWall_12 : decode cX2_isWall 12 = .ok (.invokevirtual 31, 3) := by decide +kernel
theorem dX2_isWall_15 : decode cX2_isWall 15 = .ok (.aload_n 0, 1) := by decide +kernel
theorem dX2_isWall_16 : decode cX2_isWall 16 = .ok (.getfield 15, 3) := by decide +kernel
theorem dX2_isWall_19 : decode cX2_isWall 19 = .ok (.if_icmp .ne 7, 3) := by decide +kernel
theorem dX2_isWall_22 : decode cX2_isWall 22 = .ok (.iconst 1, 1) := by decide +kernel
theorem dX2_isWall_23 : decode cX2_isWall 23 = .ok (.goto 4, 3) := by decide +kernel
theorem dX2_isWall_26 : decode cX2_isWall 26 = .ok (.iconst 0, 1) := by decide +kernel
theorem dX2_isWall_27 : decode cX2_isWall 27 = .ok (.ireturn, 1) := by decide +kernel
set_option maxRecDepth 20000 in
theorem ggX2_copyClauses_X2_rainPlace : GoodIn wsX2_copyClauses wsX2_rainPlace := goodIn_r _ [5, 6, 7, 111, 112] (by decide +kernel) (by decide +kernel)
set_option maxRecDepth 20000 in
theorem gX2_copyClauses_X2_rainPlace : GoodIn wsX2_copyClauses (wsV RX2 19 RX2 yX2_rainPlace wsX2_rainPlace) := goodIn_app (goodIn_of _ (by decide +kernel)) ggX2_copyClauses_X2_rainPlace
set_option maxRecDepth 20000 in
theorem ggX2_copyClauses_X2_codeAt : GoodIn wsX2_copyClauses wsX2_codeAt := goodIn_r _ [11, 6, 7, 111, 112] (by decide +kernel) (by decide +kernel)
set_option maxRecDepth 20000 in
theorem gX2_copyClauses_X2_codeAt : GoodIn wsX2_copyClauses (wsV RX2 36 RX2 yX2_codeAt wsX2_codeAt) := goodIn_app (goodIn_of _ (by decide +kernel)) ggX2_copyClauses_X2_codeAt
set_option maxRecDepth 20000 in
theorem ggX2_copyClauses_J0_indexOf_0f7a4 : GoodIn wsX2_copyClauses wsJ0_indexOf_0f7a4 := goodIn_r _ [16, 17, 18, 19, 15, 20, 21, 22, 23, 24, 25, 26, 27, 28, 29, 30, 31, 32, 33, 34, 35, 36, 37, 38, 39, 40, 41, 42, 43, 44, 45, 46, 47, 48, 49, 50, 51, 52, 53, 54, 55, 56, 57, 58, 59, 60, 61, 62, 63, 64, 65, 66, 67, 68, 69, 70, 71, 72, 73, 74, 75, 76, 77, 78, 79, 80, 81, 82, 83, 84, 85, 86, 87, 88, 89, 90, 91, 92, 93, 94, 95, 96, 97, 98, 99, 100] (by decide +kernel) (by decide +kernel)
set_option maxRecDepth 20000 in
theorem gX2_copyClauses_J0_indexOf_0f7a4 : GoodIn wsX2_copyClauses (wsV RX2 40 RJ0 yJ0_indexOf_0f7a4 wsJ0_indexOf_0f7a4) := goodIn_app (goodIn_of _ (by decide +kernel)) ggX2_copyClauses_J0_indexOf_0f7a4
set_option maxRecDepth 20000 in
theorem ggX2_copyClauses_X0_add : GoodIn wsX2_copyClauses wsX0_add := goodIn_r _ [105, 106, 107, 108, 109, 110, 113, 114, 115, 116, 117] (by decide +kernel) (by decide +kernel)
set_option maxRecDepth 20000 in
theorem gX2_copyClauses_X0_add : GoodIn wsX2_copyClauses (wsV RX2 45 RX0 yX0_add wsX0_add) := goodIn_app (goodIn_of _ (by decide +kernel)) ggX2_copyClauses_X0_add
theorem dX2_copyClauses_0 : decode cX2_copyClauses 0 = .ok (.aload_n 1, 1) := by decide +kernel
theorem dX2_copyClauses_1 : decode cX2_copyClauses 1 = .ok (.ifnonnull 4, 3) := by decide +kernel
theorem dX2_copyClauses_4 : decode cX2_copyClauses 4 = .ok (.return_, 1) := by decide +kernel
theorem dX2_copyClauses_5 : decode cX2_copyClauses 5 = .ok (.aload_n 0, 1) := by decide +kernel
theorem dX2_copyClauses_6 : decode cX2_copyClauses 6 = .ok (.invokevirtual 19, 3) := by decide +kernel
theorem dX2_copyClauses_9 : decode cX2_copyClauses 9 = .ok (.istore_n 2, 1) := by decide +kernel
theorem dX2_copyClauses_10 : decode cX2_copyClauses 10 = .ok (.iconst 0, 1) := by decide +kernel
theorem dX2_copyClauses_11 : decode cX2_copyClauses 11 = .ok (.istore_n 3, 1) := by decide +kernel
theorem dX2_copyClauses_12 : decode cX2_copyClauses 12 = .ok (.iload_n 3, 1) := by decide +kernel
theorem dX2_copyClauses_13 : decode cX2_copyClauses 13 = .ok (.iconst 4, 1) := by decide +kernel
theorem dX2_copyClauses_14 : decode cX2_copyClauses 14 = .ok (.iadd, 1) := by decide +kernel
theorem dX2_copyClauses_15 : decode cX2_copyClauses 15 = .ok (.iload_n 2, 1) := by decide +kernel
theorem dX2_copyClauses_16 : decode cX2_copyClauses 16 = .ok (.if_icmp .gt 68, 3) := by decide +kernel
theorem dX2_copyClauses_19 : decode cX2_copyClauses 19 = .ok (.ldc 34, 2) := by decide +kernel
theorem dX2_copyClauses_21 : decode cX2_copyClauses 21 = .ok (.aload_n 0, 1) := by decide +kernel
theorem dX2_copyClauses_22 : decode cX2_copyClauses 22 = .ok (.iload_n 3, 1) := by decide +kernel
theorem dX2_copyClauses_23 : decode cX2_copyClauses 23 = .ok (.invokevirtual 36, 3) := by decide +kernel
theorem dX2_copyClauses_26 : decode cX2_copyClauses 26 = .ok (.i2c, 1) := by decide +kernel
theorem dX2_copyClauses_27 : decode cX2_copyClauses 27 = .ok (.invokevirtual 40, 3) := by decide +kernel
theorem dX2_copyClauses_30 : decode cX2_copyClauses 30 = .ok (.istore 4, 2) := by decide +kernel
theorem dX2_copyClauses_32 : decode cX2_copyClauses 32 = .ok (.aload_n 0, 1) := by decide +kernel
theorem dX2_copyClauses_33 : decode cX2_copyClauses 33 = .ok (.iload_n 3, 1) := by decide +kernel
theorem dX2_copyClauses_34 : decode cX2_copyClauses 34 = .ok (.iconst 2, 1) := by decide +kernel
theorem dX2_copyClauses_35 : decode cX2_copyClauses 35 = .ok (.iadd, 1) := by decide +kernel
theorem dX2_copyClauses_36 : decode cX2_copyClauses 36 = .ok (.invokevirtual 36, 3) := by decide +kernel
theorem dX2_copyClauses_39 : decode cX2_copyClauses 39 = .ok (.bipush 45, 2) := by decide +kernel
theorem dX2_copyClauses_41 : decode cX2_copyClauses 41 = .ok (.if_icmp .ne 7, 3) := by decide +kernel
theorem dX2_copyClauses_44 : decode cX2_copyClauses 44 = .ok (.iconst (-1), 1) := by decide +kernel
theorem dX2_copyClauses_45 : decode cX2_copyClauses 45 = .ok (.goto 13, 3) := by decide +kernel
theorem dX2_copyClauses_48 : decode cX2_copyClauses 48 = .ok (.aload_n 0, 1) := by decide +kernel
theorem dX2_copyClauses_49 : decode cX2_copyClauses 49 = .ok (.iload_n 3, 1) := by decide +kernel
theorem dX2_copyClauses_50 : decode cX2_copyClauses 50 = .ok (.iconst 2, 1) := by decide +kernel
