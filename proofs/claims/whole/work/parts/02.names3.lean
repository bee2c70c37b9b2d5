theorem dX3_goingOnAt_11 : decode cX3_goingOnAt 11 = .ok (.aload_n 0, 1) := by decide +kernel
theorem dX3_goingOnAt_12 : decode cX3_goingOnAt 12 = .ok (.getfield 30, 3) := by decide +kernel
theorem dX3_goingOnAt_15 : decode cX3_goingOnAt 15 = .ok (.iload_n 3, 1) := by decide +kernel
theorem dX3_goingOnAt_16 : decode cX3_goingOnAt 16 = .ok (.iaload, 1) := by decide +kernel
theorem dX3_goingOnAt_17 : decode cX3_goingOnAt 17 = .ok (.ishl, 1) := by decide +kernel
theorem dX3_goingOnAt_18 : decode cX3_goingOnAt 18 = .ok (.ior, 1) := by decide +kernel
theorem dX3_goingOnAt_19 : decode cX3_goingOnAt 19 = .ok (.istore_n 2, 1) := by decide +kernel
theorem dX3_goingOnAt_20 : decode cX3_goingOnAt 20 = .ok (.iinc 3 1, 3) := by decide +kernel
theorem dX3_goingOnAt_23 : decode cX3_goingOnAt 23 = .ok (.goto (-19), 3) := by decide +kernel
theorem dX3_goingOnAt_26 : decode cX3_goingOnAt 26 = .ok (.aload_n 0, 1) := by decide +kernel
theorem dX3_goingOnAt_27 : decode cX3_goingOnAt 27 = .ok (.getfield 21, 3) := by decide +kernel
theorem dX3_goingOnAt_30 : decode cX3_goingOnAt 30 = .ok (.iload_n 2, 1) := by decide +kernel
theorem dX3_goingOnAt_31 : decode cX3_goingOnAt 31 = .ok (.iaload, 1) := by decide +kernel
theorem dX3_goingOnAt_32 : decode cX3_goingOnAt 32 = .ok (.aload_n 0, 1) := by decide +kernel
theorem dX3_goingOnAt_33 : decode cX3_goingOnAt 33 = .ok (.getfield 21, 3) := by decide +kernel
theorem dX3_goingOnAt_36 : decode cX3_goingOnAt 36 = .ok (.aload_n 0, 1) := by decide +kernel
theorem dX3_goingOnAt_37 : decode cX3_goingOnAt 37 = .ok (.invokevirtual 73, 3) := by decide +kernel
theorem dX3_goingOnAt_40 : decode cX3_goingOnAt 40 = .ok (.iload_n 2, 1) := by decide +kernel
theorem dX3_goingOnAt_41 : decode cX3_goingOnAt 41 = .ok (.iconst (-1), 1) := by decide +kernel
theorem dX3_goingOnAt_42 : decode cX3_goingOnAt 42 = .ok (.ixor, 1) := by decide +kernel
theorem dX3_goingOnAt_43 : decode cX3_goingOnAt 43 = .ok (.iand, 1) := by decide +kernel
theorem dX3_goingOnAt_44 : decode cX3_goingOnAt 44 = .ok (.iaload, 1) := by decide +kernel
theorem dX3_goingOnAt_45 : decode cX3_goingOnAt 45 = .ok (.iand, 1) := by decide +kernel
theorem dX3_goingOnAt_46 : decode cX3_goingOnAt 46 = .ok (.invokestatic 87, 3) := by decide +kernel
theorem dX3_goingOnAt_49 : decode cX3_goingOnAt 49 = .ok (.ireturn, 1) := by decide +kernel
theorem dX4_init_0 : decode cX4_init 0 = .ok (.aload_n 0, 1) := by decide +kernel
theorem dX4_init_1 : decode cX4_init 1 = .ok (.invokespecial 3, 3) := by decide +kernel
theorem dX4_init_4 : decode cX4_init 4 = .ok (.aload_n 0, 1) := by decide +kernel
theorem dX4_init_5 : decode cX4_init 5 = .ok (.bipush 12, 2) := by decide +kernel
theorem dX4_init_7 : decode cX4_init 7 = .ok (.newarray .int, 2) := by decide +kernel
theorem dX4_init_9 : decode cX4_init 9 = .ok (.putfield 9, 3) := by decide +kernel
theorem dX4_init_12 : decode cX4_init 12 = .ok (.return_, 1) := by decide +kernel
theorem dX4_isMissing_0 : decode cX4_isMissing 0 = .ok (.aload_n 0, 1) := by decide +kernel
theorem dX4_isMissing_1 : decode cX4_isMissing 1 = .ok (.getfield 15, 3) := by decide +kernel
theorem dX4_isMissing_4 : decode cX4_isMissing 4 = .ok (.ifCond .ne 7, 3) := by decide +kernel
theorem dX4_isMissing_7 : decode cX4_isMissing 7 = .ok (.iconst 1, 1) := by decide +kernel
theorem dX4_isMissing_8 : decode cX4_isMissing 8 = .ok (.goto 4, 3) := by decide +kernel
theorem dX4_isMissing_11 : decode cX4_isMissing 11 = .ok (.iconst 0, 1) := by decide +kernel
theorem dX4_isMissing_12 : decode cX4_isMissing 12 = .ok (.ireturn, 1) := by decide +kernel
theorem dX4_become_0 : decode cX4_become 0 = .ok (.aload_n 0, 1) := by decide +kernel
theorem dX4_become_1 : decode cX4_become 1 = .ok (.iload_n 1, 1) := by decide +kernel
theorem dX4_become_2 : decode cX4_become 2 = .ok (.putfield 15, 3) := by decide +kernel
theorem dX4_become_5 : decode cX4_become 5 = .ok (.aload_n 0, 1) := by decide +kernel
theorem dX4_become_6 : decode cX4_become 6 = .ok (.iload_n 1, 1) := by decide +kernel
theorem dX4_become_7 : decode cX4_become 7 = .ok (.ifCond .ne 7, 3) := by decide +kernel
theorem dX4_become_10 : decode cX4_become 10 = .ok (.iconst 0, 1) := by decide +kernel
theorem dX4_become_11 : decode cX4_become 11 = .ok (.goto 4, 3) := by decide +kernel
theorem dX4_become_14 : decode cX4_become 14 = .ok (.iload_n 2, 1) := by decide +kernel
theorem dX4_become_15 : decode cX4_become 15 = .ok (.putfield 19, 3) := by decide +kernel
theorem dX4_become_18 : decode cX4_become 18 = .ok (.iconst 0, 1) := by decide +kernel
theorem dX4_become_19 : decode cX4_become 19 = .ok (.istore_n 3, 1) := by decide +kernel
theorem dX4_become_20 : decode cX4_become 20 = .ok (.iload_n 3, 1) := by decide +kernel
theorem dX4_become_21 : decode cX4_become 21 = .ok (.bipush 12, 2) := by decide +kernel
theorem dX4_become_23 : decode cX4_become 23 = .ok (.if_icmp .ge 16, 3) := by decide +kernel
theorem dX4_become_26 : decode cX4_become 26 = .ok (.aload_n 0, 1) := by decide +kernel
theorem dX4_become_27 : decode cX4_become 27 = .ok (.getfield 9, 3) := by decide +kernel
theorem dX4_become_30 : decode cX4_become 30 = .ok (.iload_n 3, 1) := by decide +kernel
theorem dX4_become_31 : decode cX4_become 31 = .ok (.iconst 0, 1) := by decide +kernel
theorem dX4_become_32 : decode cX4_become 32 = .ok (.iastore, 1) := by decide +kernel
theorem dX4_become_33 : decode cX4_become 33 = .ok (.iinc 3 1, 3) := by decide +kernel
theorem dX4_become_36 : decode cX4_become 36 = .ok (.goto (-16), 3) := by decide +kernel
theorem dX4_become_39 : decode cX4_become 39 = .ok (.return_, 1) := by decide +kernel
theorem dX4_write_0 : decode cX4_write 0 = .ok (.aload_n 0, 1) := by decide +kernel
theorem dX4_write_1 : decode cX4_write 1 = .ok (.getfield 9, 3) := by decide +kernel
theorem dX4_write_4 : decode cX4_write 4 = .ok (.iload_n 1, 1) := by decide +kernel
theorem dX4_write_5 : decode cX4_write 5 = .ok (.aload_n 0, 1) := by decide +kernel
theorem dX4_write_6 : decode cX4_write 6 = .ok (.getfield 15, 3) := by decide +kernel
theorem dX4_write_9 : decode cX4_write 9 = .ok (.bipush 32, 2) := by decide +kernel
theorem dX4_write_11 : decode cX4_write 11 = .ok (.if_icmp .ne 7, 3) := by decide +kernel
theorem dX4_write_14 : decode cX4_write 14 = .ok (.iload_n 2, 1) := by decide +kernel
theorem dX4_write_15 : decode cX4_write 15 = .ok (.goto 13, 3) := by decide +kernel
theorem dX4_write_18 : decode cX4_write 18 = .ok (.iload_n 2, 1) := by decide +kernel
theorem dX4_write_19 : decode cX4_write 19 = .ok (.iconst 1, 1) := by decide +kernel
theorem dX4_write_20 : decode cX4_write 20 = .ok (.aload_n 0, 1) := by decide +kernel
theorem dX4_write_21 : decode cX4_write 21 = .ok (.getfield 15, 3) := by decide +kernel
theorem dX4_write_24 : decode cX4_write 24 = .ok (.ishl, 1) := by decide +kernel
theorem dX4_write_25 : decode cX4_write 25 = .ok (.iconst 1, 1) := by decide +kernel
theorem dX4_write_26 : decode cX4_write 26 = .ok (.isub, 1) := by decide +kernel
theorem dX4_write_27 : decode cX4_write 27 = .ok (.iand, 1) := by decide +kernel
theorem dX4_write_28 : decode cX4_write 28 = .ok (.iastore, 1) := by decide +kernel
theorem dX4_write_29 : decode cX4_write 29 = .ok (.return_, 1) := by decide +kernel
theorem dX4_hasStretch_0 : decode cX4_hasStretch 0 = .ok (.iload_n 1, 1) := by decide +kernel
theorem dX4_hasStretch_1 : decode cX4_hasStretch 1 = .ok (.ifCond .lt 29, 3) := by decide +kernel
theorem dX4_hasStretch_4 : decode cX4_hasStretch 4 = .ok (.iload_n 2, 1) := by decide +kernel
theorem dX4_hasStretch_5 : decode cX4_hasStretch 5 = .ok (.ifCond .lt 25, 3) := by decide +kernel
theorem dX4_hasStretch_8 : decode cX4_hasStretch 8 = .ok (.iload_n 2, 1) := by decide +kernel
theorem dX4_hasStretch_9 : decode cX4_hasStretch 9 = .ok (.aload_n 0, 1) := by decide +kernel
theorem dX4_hasStretch_10 : decode cX4_hasStretch 10 = .ok (.getfield 19, 3) := by decide +kernel
theorem dX4_hasStretch_13 : decode cX4_hasStretch 13 = .ok (.if_icmp .gt 17, 3) := by decide +kernel
theorem dX4_hasStretch_16 : decode cX4_hasStretch 16 = .ok (.iload_n 1, 1) := by decide +kernel
theorem dX4_hasStretch_17 : decode cX4_hasStretch 17 = .ok (.aload_n 0, 1) := by decide +kernel
theorem dX4_hasStretch_18 : decode cX4_hasStretch 18 = .ok (.getfield 19, 3) := by decide +kernel
theorem dX4_hasStretch_21 : decode cX4_hasStretch 21 = .ok (.iload_n 2, 1) := by decide +kernel
theorem dX4_hasStretch_22 : decode cX4_hasStretch 22 = .ok (.isub, 1) := by decide +kernel
theorem dX4_hasStretch_23 : decode cX4_hasStretch 23 = .ok (.if_icmp .gt 7, 3) := by decide +kernel
theorem dX4_hasStretch_26 : decode cX4_hasStretch 26 = .ok (.iconst 1, 1) := by decide +kernel
theorem dX4_hasStretch_27 : decode cX4_hasStretch 27 = .ok (.goto 4, 3) := by decide +kernel
theorem dX4_hasStretch_30 : decode cX4_hasStretch 30 = .ok (.iconst 0, 1) := by decide +kernel
theorem dX4_hasStretch_31 : decode cX4_hasStretch 31 = .ok (.ireturn, 1) := by decide +kernel
theorem dX4_goodsReadInto_0 : decode cX4_goodsReadInto 0 = .ok (.iload_n 1, 1) := by decide +kernel
theorem dX4_goodsReadInto_1 : decode cX4_goodsReadInto 1 = .ok (.istore_n 2, 1) := by decide +kernel
theorem dX4_goodsReadInto_2 : decode cX4_goodsReadInto 2 = .ok (.iconst 0, 1) := by decide +kernel
theorem dX4_goodsReadInto_3 : decode cX4_goodsReadInto 3 = .ok (.istore_n 3, 1) := by decide +kernel
theorem dX4_goodsReadInto_4 : decode cX4_goodsReadInto 4 = .ok (.iload_n 3, 1) := by decide +kernel
theorem dX4_goodsReadInto_5 : decode cX4_goodsReadInto 5 = .ok (.aload_n 0, 1) := by decide +kernel
theorem dX4_goodsReadInto_6 : decode cX4_goodsReadInto 6 = .ok (.getfield 19, 3) := by decide +kernel
theorem dX4_goodsReadInto_9 : decode cX4_goodsReadInto 9 = .ok (.if_icmp .ge 34, 3) := by decide +kernel
theorem dX4_goodsReadInto_12 : decode cX4_goodsReadInto 12 = .ok (.aload_n 0, 1) := by decide +kernel
theorem dX4_goodsReadInto_13 : decode cX4_goodsReadInto 13 = .ok (.getfield 9, 3) := by decide +kernel
theorem dX4_goodsReadInto_16 : decode cX4_goodsReadInto 16 = .ok (.iload_n 3, 1) := by decide +kernel
theorem dX4_goodsReadInto_17 : decode cX4_goodsReadInto 17 = .ok (.iaload, 1) := by decide +kernel
theorem dX4_goodsReadInto_18 : decode cX4_goodsReadInto 18 = .ok (.ifCond .eq 11, 3) := by decide +kernel
theorem dX4_goodsReadInto_21 : decode cX4_goodsReadInto 21 = .ok (.iload_n 2, 1) := by decide +kernel
theorem dX4_goodsReadInto_22 : decode cX4_goodsReadInto 22 = .ok (.iconst 1, 1) := by decide +kernel
theorem dX4_goodsReadInto_23 : decode cX4_goodsReadInto 23 = .ok (.iload_n 3, 1) := by decide +kernel
theorem dX4_goodsReadInto_24 : decode cX4_goodsReadInto 24 = .ok (.ishl, 1) := by decide +kernel
theorem dX4_goodsReadInto_25 : decode cX4_goodsReadInto 25 = .ok (.ior, 1) := by decide +kernel
theorem dX4_goodsReadInto_26 : decode cX4_goodsReadInto 26 = .ok (.goto 10, 3) := by decide +kernel
theorem dX4_goodsReadInto_29 : decode cX4_goodsReadInto 29 = .ok (.iload_n 2, 1) := by decide +kernel
theorem dX4_goodsReadInto_30 : decode cX4_goodsReadInto 30 = .ok (.iconst 1, 1) := by decide +kernel
theorem dX4_goodsReadInto_31 : decode cX4_goodsReadInto 31 = .ok (.iload_n 3, 1) := by decide +kernel
theorem dX4_goodsReadInto_32 : decode cX4_goodsReadInto 32 = .ok (.ishl, 1) := by decide +kernel
theorem dX4_goodsReadInto_33 : decode cX4_goodsReadInto 33 = .ok (.iconst (-1), 1) := by decide +kernel
theorem dX4_goodsReadInto_34 : decode cX4_goodsReadInto 34 = .ok (.ixor, 1) := by decide +kernel
theorem dX4_goodsReadInto_35 : decode cX4_goodsReadInto 35 = .ok (.iand, 1) := by decide +kernel
theorem dX4_goodsReadInto_36 : decode cX4_goodsReadInto 36 = .ok (.istore_n 2, 1) := by decide +kernel
theorem dX4_goodsReadInto_37 : decode cX4_goodsReadInto 37 = .ok (.iinc 3 1, 3) := by decide +kernel
theorem dX4_goodsReadInto_40 : decode cX4_goodsReadInto 40 = .ok (.goto (-36), 3) := by decide +kernel
theorem dX4_goodsReadInto_43 : decode cX4_goodsReadInto 43 = .ok (.iload_n 2, 1) := by decide +kernel
theorem dX4_goodsReadInto_44 : decode cX4_goodsReadInto 44 = .ok (.ireturn, 1) := by decide +kernel
set_option maxRecDepth 20000 in
theorem ggX5_init_X2_init : GoodIn wsX5_init wsX2_init := goodIn_r _ [23, 24, 2, 3, 25, 26, 27, 28, 29, 30, 31, 32, 33, 34, 35, 36, 57, 58, 59, 60, 61, 62, 63, 86, 87, 88, 89, 90, 91, 92, 93, 94] (by decide +kernel) (by decide +kernel)
set_option maxRecDepth 20000 in
theorem gX5_init_X2_init : GoodIn wsX5_init (wsX2_init) := ggX5_init_X2_init
set_option maxRecDepth 20000 in
theorem ggX5_init_X4_init : GoodIn wsX5_init wsX4_init := goodIn_r _ [38, 39, 2, 3, 27, 40, 71, 72, 73] (by decide +kernel) (by decide +kernel)
set_option maxRecDepth 20000 in
theorem gX5_init_X4_init_n25 : GoodIn wsX5_init (wsX4_init) := ggX5_init_X4_init
set_option maxRecDepth 20000 in
theorem ggX5_init_X3_init : GoodIn wsX5_init wsX3_init := goodIn_r _ [42, 43, 2, 3, 27, 44, 45, 46, 47, 48, 49, 50, 74, 75, 76, 77, 78, 79, 80, 81] (by decide +kernel) (by decide +kernel)
set_option maxRecDepth 20000 in
theorem gX5_init_X3_init_n28 : GoodIn wsX5_init (wsX3_init) := ggX5_init_X3_init
set_option maxRecDepth 20000 in
theorem ggX5_init_X0_init : GoodIn wsX5_init wsX0_init := goodIn_r _ [52, 53, 2, 3, 27, 54, 55, 56, 82, 83, 84, 85] (by decide +kernel) (by decide +kernel)
set_option maxRecDepth 20000 in
theorem gX5_init_X0_init_n35 : GoodIn wsX5_init (wsX0_init) := ggX5_init_X0_init
theorem dX5_init_0 : decode cX5_init 0 = .ok (.aload_n 0, 1) := by decide +kernel
theorem dX5_init_1 : decode cX5_init 1 = .ok (.invokespecial 3, 3) := by decide +kernel
theorem dX5_init_4 : decode cX5_init 4 = .ok (.aload_n 0, 1) := by decide +kernel
theorem dX5_init_5 : decode cX5_init 5 = .ok (.new 9, 3) := by decide +kernel
theorem dX5_init_8 : decode cX5_init 8 = .ok (.dup, 1) := by decide +kernel
theorem dX5_init_9 : decode cX5_init 9 = .ok (.invokespecial 11, 3) := by decide +kernel
theorem dX5_init_12 : decode cX5_init 12 = .ok (.putfield 12, 3) := by decide +kernel
theorem dX5_init_15 : decode cX5_init 15 = .ok (.aload_n 0, 1) := by decide +kernel
theorem dX5_init_16 : decode cX5_init 16 = .ok (.new 9, 3) := by decide +kernel
theorem dX5_init_19 : decode cX5_init 19 = .ok (.dup, 1) := by decide +kernel
theorem dX5_init_20 : decode cX5_init 20 = .ok (.invokespecial 11, 3) := by decide +kernel
theorem dX5_init_23 : decode cX5_init 23 = .ok (.putfield 16, 3) := by decide +kernel
theorem dX5_init_26 : decode cX5_init 26 = .ok (.aload_n 0, 1) := by decide +kernel
theorem dX5_init_27 : decode cX5_init 27 = .ok (.iconst 4, 1) := by decide +kernel
theorem dX5_init_28 : decode cX5_init 28 = .ok (.anewarray 19, 3) := by decide +kernel
theorem dX5_init_31 : decode cX5_init 31 = .ok (.putfield 21, 3) := by decide +kernel
theorem dX5_init_34 : decode cX5_init 34 = .ok (.iconst 0, 1) := by decide +kernel
theorem dX5_init_35 : decode cX5_init 35 = .ok (.istore_n 1, 1) := by decide +kernel
theorem dX5_init_36 : decode cX5_init 36 = .ok (.iload_n 1, 1) := by decide +kernel
theorem dX5_init_37 : decode cX5_init 37 = .ok (.iconst 4, 1) := by decide +kernel
theorem dX5_init_38 : decode cX5_init 38 = .ok (.if_icmp .ge 22, 3) := by decide +kernel
theorem dX5_init_41 : decode cX5_init 41 = .ok (.aload_n 0, 1) := by decide +kernel
theorem dX5_init_42 : decode cX5_init 42 = .ok (.getfield 21, 3) := by decide +kernel
theorem dX5_init_45 : decode cX5_init 45 = .ok (.iload_n 1, 1) := by decide +kernel
theorem dX5_init_46 : decode cX5_init 46 = .ok (.new 19, 3) := by decide +kernel
theorem dX5_init_49 : decode cX5_init 49 = .ok (.dup, 1) := by decide +kernel
theorem dX5_init_50 : decode cX5_init 50 = .ok (.invokespecial 25, 3) := by decide +kernel
theorem dX5_init_53 : decode cX5_init 53 = .ok (.aastore, 1) := by decide +kernel
theorem dX5_init_54 : decode cX5_init 54 = .ok (.iinc 1 1, 3) := by decide +kernel
theorem dX5_init_57 : decode cX5_init 57 = .ok (.goto (-21), 3) := by decide +kernel
theorem dX5_init_60 : decode cX5_init 60 = .ok (.aload_n 0, 1) := by decide +kernel
theorem dX5_init_61 : decode cX5_init 61 = .ok (.new 26, 3) := by decide +kernel
theorem dX5_init_64 : decode cX5_init 64 = .ok (.dup, 1) := by decide +kernel
theorem dX5_init_65 : decode cX5_init 65 = .ok (.invokespecial 28, 3) := by decide +kernel
theorem dX5_init_68 : decode cX5_init 68 = .ok (.putfield 29, 3) := by decide +kernel
theorem dX5_init_71 : decode cX5_init 71 = .ok (.aload_n 0, 1) := by decide +kernel
theorem dX5_init_72 : decode cX5_init 72 = .ok (.new 33, 3) := by decide +kernel
theorem dX5_init_75 : decode cX5_init 75 = .ok (.dup, 1) := by decide +kernel
theorem dX5_init_76 : decode cX5_init 76 = .ok (.invokespecial 35, 3) := by decide +kernel
theorem dX5_init_79 : decode cX5_init 79 = .ok (.putfield 36, 3) := by decide +kernel
theorem dX5_init_82 : decode cX5_init 82 = .ok (.return_, 1) := by decide +kernel
set_option maxRecDepth 20000 in
theorem ggX5_grave_X5_isKind : GoodIn wsX5_grave wsX5_isKind := goodIn_r _ [8] (by decide +kernel) (by decide +kernel)
set_option maxRecDepth 20000 in
theorem gX5_grave_X5_isKind : GoodIn wsX5_grave (va_wsS RX5 40 yX5_isKind wsX5_isKind) := goodIn_app (goodIn_of _ (by decide +kernel)) ggX5_grave_X5_isKind
set_option maxRecDepth 20000 in
theorem ggX5_grave_X5_isDistance : GoodIn wsX5_grave wsX5_isDistance := goodIn_r _ [11] (by decide +kernel) (by decide +kernel)
set_option maxRecDepth 20000 in
theorem gX5_grave_X5_isDistance : GoodIn wsX5_grave (va_wsS RX5 44 yX5_isDistance wsX5_isDistance) := goodIn_app (goodIn_of _ (by decide +kernel)) ggX5_grave_X5_isDistance
set_option maxRecDepth 20000 in
theorem ggX5_grave_X5_finding : GoodIn wsX5_grave wsX5_finding := goodIn_r _ [15, 16, 38, 39, 40, 41, 42, 43, 44] (by decide +kernel) (by decide +kernel)
set_option maxRecDepth 20000 in
theorem gX5_grave_X5_finding : GoodIn wsX5_grave (wsV RX5 48 RX5 yX5_finding wsX5_finding) := goodIn_app (goodIn_of _ (by decide +kernel)) ggX5_grave_X5_finding
set_option maxRecDepth 20000 in
theorem ggX5_grave_X2_open : GoodIn wsX5_grave wsX2_open := goodIn_r _ [21, 22, 23, 24, 25, 26, 27, 28, 29, 30, 31, 32, 33, 34, 35, 36, 37, 45, 46, 47, 48, 49, 50, 51, 52, 53, 54, 55, 56, 57, 58, 59, 60] (by decide +kernel) (by decide +kernel)
set_option maxRecDepth 20000 in
theorem gX5_grave_X2_open : GoodIn wsX5_grave (wsV RX5 57 RX2 yX2_open wsX2_open) := goodIn_app (goodIn_of _ (by decide +kernel)) ggX5_grave_X2_open
theorem dX5_grave_0 : decode cX5_grave 0 = .ok (.iload_n 1, 1) := by decide +kernel
theorem dX5_grave_1 : decode cX5_grave 1 = .ok (.invokestatic 40, 3) := by decide +kernel
theorem dX5_grave_4 : decode cX5_grave 4 = .ok (.ifCond .eq 17, 3) := by decide +kernel
theorem dX5_grave_7 : decode cX5_grave 7 = .ok (.iload_n 2, 1) := by decide +kernel
theorem dX5_grave_8 : decode cX5_grave 8 = .ok (.invokestatic 44, 3) := by decide +kernel
theorem dX5_grave_11 : decode cX5_grave 11 = .ok (.ifCond .eq 10, 3) := by decide +kernel
theorem dX5_grave_14 : decode cX5_grave 14 = .ok (.iload_n 3, 1) := by decide +kernel
theorem dX5_grave_15 : decode cX5_grave 15 = .ok (.invokestatic 44, 3) := by decide +kernel
theorem dX5_grave_18 : decode cX5_grave 18 = .ok (.ifCond .ne 10, 3) := by decide +kernel
theorem dX5_grave_21 : decode cX5_grave 21 = .ok (.aload_n 0, 1) := by decide +kernel
theorem dX5_grave_22 : decode cX5_grave 22 = .ok (.ldc 47, 2) := by decide +kernel
theorem dX5_grave_24 : decode cX5_grave 24 = .ok (.invokevirtual 48, 3) := by decide +kernel
theorem dX5_grave_27 : decode cX5_grave 27 = .ok (.ireturn, 1) := by decide +kernel
theorem dX5_grave_28 : decode cX5_grave 28 = .ok (.aload_n 0, 1) := by decide +kernel
theorem dX5_grave_29 : decode cX5_grave 29 = .ok (.getfield 12, 3) := by decide +kernel
theorem dX5_grave_32 : decode cX5_grave 32 = .ok (.getfield 52, 3) := by decide +kernel
theorem dX5_grave_35 : decode cX5_grave 35 = .ok (.bipush 10, 2) := by decide +kernel
theorem dX5_grave_37 : decode cX5_grave 37 = .ok (.if_icmp .lt 10, 3) := by decide +kernel
theorem dX5_grave_40 : decode cX5_grave 40 = .ok (.aload_n 0, 1) := by decide +kernel
theorem dX5_grave_41 : decode cX5_grave 41 = .ok (.ldc 56, 2) := by decide +kernel
theorem dX5_grave_43 : decode cX5_grave 43 = .ok (.invokevirtual 48, 3) := by decide +kernel
theorem dX5_grave_46 : decode cX5_grave 46 = .ok (.ireturn, 1) := by decide +kernel
theorem dX5_grave_47 : decode cX5_grave 47 = .ok (.aload_n 0, 1) := by decide +kernel
theorem dX5_grave_48 : decode cX5_grave 48 = .ok (.getfield 12, 3) := by decide +kernel
theorem dX5_grave_51 : decode cX5_grave 51 = .ok (.iload_n 1, 1) := by decide +kernel
theorem dX5_grave_52 : decode cX5_grave 52 = .ok (.iload_n 2, 1) := by decide +kernel
theorem dX5_grave_53 : decode cX5_grave 53 = .ok (.iload_n 3, 1) := by decide +kernel
theorem dX5_grave_54 : decode cX5_grave 54 = .ok (.invokevirtual 57, 3) := by decide +kernel
theorem dX5_grave_57 : decode cX5_grave 57 = .ok (.ireturn, 1) := by decide +kernel
set_option maxRecDepth 20000 in
theorem ggX5_as_X2_holds : GoodIn wsX5_as wsX2_holds := goodIn_r _ [9, 10, 34, 35, 36, 37, 38, 39, 40] (by decide +kernel) (by decide +kernel)
set_option maxRecDepth 20000 in
theorem gX5_as_X2_holds : GoodIn wsX5_as (wsV RX5 61 RX2 yX2_holds wsX2_holds) := goodIn_app (goodIn_of _ (by decide +kernel)) ggX5_as_X2_holds
set_option maxRecDepth 20000 in
theorem ggX5_as_X5_isKind : GoodIn wsX5_as wsX5_isKind := goodIn_r _ [14] (by decide +kernel) (by decide +kernel)
set_option maxRecDepth 20000 in
theorem gX5_as_X5_isKind : GoodIn wsX5_as (va_wsS RX5 40 yX5_isKind wsX5_isKind) := goodIn_app (goodIn_of _ (by decide +kernel)) ggX5_as_X5_isKind
set_option maxRecDepth 20000 in
theorem ggX5_as_X5_finding : GoodIn wsX5_as wsX5_finding := goodIn_r _ [18, 19, 27, 28, 29, 30, 31, 32, 33] (by decide +kernel) (by decide +kernel)
set_option maxRecDepth 20000 in
theorem gX5_as_X5_finding : GoodIn wsX5_as (wsV RX5 48 RX5 yX5_finding wsX5_finding) := goodIn_app (goodIn_of _ (by decide +kernel)) ggX5_as_X5_finding
set_option maxRecDepth 20000 in
theorem ggX5_as_X1_isOfKind : GoodIn wsX5_as wsX1_isOfKind := goodIn_r _ [24, 25, 26, 41, 42, 43, 44, 45, 46, 47, 48, 49] (by decide +kernel) (by decide +kernel)
set_option maxRecDepth 20000 in
theorem gX5_as_X1_isOfKind : GoodIn wsX5_as (wsV RX5 68 RX1 yX1_isOfKind wsX1_isOfKind) := goodIn_app (goodIn_of _ (by decide +kernel)) ggX5_as_X1_isOfKind
theorem dX5_as_0 : decode cX5_as 0 = .ok (.aload_n 0, 1) := by decide +kernel
theorem dX5_as_1 : decode cX5_as 1 = .ok (.getfield 12, 3) := by decide +kernel
theorem dX5_as_4 : decode cX5_as 4 = .ok (.iload_n 1, 1) := by decide +kernel
theorem dX5_as_5 : decode cX5_as 5 = .ok (.invokevirtual 61, 3) := by decide +kernel
theorem dX5_as_8 : decode cX5_as 8 = .ok (.ifCond .eq 10, 3) := by decide +kernel
theorem dX5_as_11 : decode cX5_as 11 = .ok (.iload_n 2, 1) := by decide +kernel
theorem dX5_as_12 : decode cX5_as 12 = .ok (.invokestatic 40, 3) := by decide +kernel
theorem dX5_as_15 : decode cX5_as 15 = .ok (.ifCond .ne 10, 3) := by decide +kernel
theorem dX5_as_18 : decode cX5_as 18 = .ok (.aload_n 0, 1) := by decide +kernel
theorem dX5_as_19 : decode cX5_as 19 = .ok (.ldc 47, 2) := by decide +kernel
theorem dX5_as_21 : decode cX5_as 21 = .ok (.invokevirtual 48, 3) := by decide +kernel
theorem dX5_as_24 : decode cX5_as 24 = .ok (.ireturn, 1) := by decide +kernel
theorem dX5_as_25 : decode cX5_as 25 = .ok (.aload_n 0, 1) := by decide +kernel
theorem dX5_as_26 : decode cX5_as 26 = .ok (.getfield 12, 3) := by decide +kernel
theorem dX5_as_29 : decode cX5_as 29 = .ok (.getfield 64, 3) := by decide +kernel
theorem dX5_as_32 : decode cX5_as 32 = .ok (.iload_n 1, 1) := by decide +kernel
theorem dX5_as_33 : decode cX5_as 33 = .ok (.aaload, 1) := by decide +kernel
theorem dX5_as_34 : decode cX5_as 34 = .ok (.iload_n 2, 1) := by decide +kernel
theorem dX5_as_35 : decode cX5_as 35 = .ok (.invokevirtual 68, 3) := by decide +kernel
theorem dX5_as_38 : decode cX5_as 38 = .ok (.ifCond .ne 10, 3) := by decide +kernel
theorem dX5_as_41 : decode cX5_as 41 = .ok (.aload_n 0, 1) := by decide +kernel
theorem dX5_as_42 : decode cX5_as 42 = .ok (.ldc 73, 2) := by decide +kernel
theorem dX5_as_44 : decode cX5_as 44 = .ok (.invokevirtual 48, 3) := by decide +kernel
theorem dX5_as_47 : decode cX5_as 47 = .ok (.ireturn, 1) := by decide +kernel
theorem dX5_as_48 : decode cX5_as 48 = .ok (.iload_n 1, 1) := by decide +kernel
theorem dX5_as_49 : decode cX5_as 49 = .ok (.ireturn, 1) := by decide +kernel
set_option maxRecDepth 20000 in
theorem ggX5_goods_X2_holds : GoodIn wsX5_goods wsX2_holds := goodIn_r _ [9, 10, 24, 25, 26, 27, 28, 29, 30] (by decide +kernel) (by decide +kernel)
set_option maxRecDepth 20000 in
theorem gX5_goods_X2_holds : GoodIn wsX5_goods (wsV RX5 61 RX2 yX2_holds wsX2_holds) := goodIn_app (goodIn_of _ (by decide +kernel)) ggX5_goods_X2_holds
set_option maxRecDepth 20000 in
theorem ggX5_goods_X5_finding : GoodIn wsX5_goods wsX5_finding := goodIn_r _ [15, 16, 17, 18, 19, 20, 21, 22, 23] (by decide +kernel) (by decide +kernel)
set_option maxRecDepth 20000 in
theorem gX5_goods_X5_finding : GoodIn wsX5_goods (wsV RX5 48 RX5 yX5_finding wsX5_finding) := goodIn_app (goodIn_of _ (by decide +kernel)) ggX5_goods_X5_finding
theorem dX5_goods_0 : decode cX5_goods 0 = .ok (.aload_n 0, 1) := by decide +kernel
theorem dX5_goods_1 : decode cX5_goods 1 = .ok (.getfield 12, 3) := by decide +kernel
theorem dX5_goods_4 : decode cX5_goods 4 = .ok (.iload_n 1, 1) := by decide +kernel
theorem dX5_goods_5 : decode cX5_goods 5 = .ok (.invokevirtual 61, 3) := by decide +kernel
theorem dX5_goods_8 : decode cX5_goods 8 = .ok (.ifCond .eq 14, 3) := by decide +kernel
theorem dX5_goods_11 : decode cX5_goods 11 = .ok (.iload_n 2, 1) := by decide +kernel
theorem dX5_goods_12 : decode cX5_goods 12 = .ok (.ifCond .lt 10, 3) := by decide +kernel
theorem dX5_goods_15 : decode cX5_goods 15 = .ok (.iload_n 2, 1) := by decide +kernel
theorem dX5_goods_16 : decode cX5_goods 16 = .ok (.sipush 4095, 3) := by decide +kernel
theorem dX5_goods_19 : decode cX5_goods 19 = .ok (.if_icmp .le 10, 3) := by decide +kernel
theorem dX5_goods_22 : decode cX5_goods 22 = .ok (.aload_n 0, 1) := by decide +kernel
theorem dX5_goods_23 : decode cX5_goods 23 = .ok (.ldc 47, 2) := by decide +kernel
theorem dX5_goods_25 : decode cX5_goods 25 = .ok (.invokevirtual 48, 3) := by decide +kernel
theorem dX5_goods_28 : decode cX5_goods 28 = .ok (.ireturn, 1) := by decide +kernel
theorem dX5_goods_29 : decode cX5_goods 29 = .ok (.aload_n 0, 1) := by decide +kernel
theorem dX5_goods_30 : decode cX5_goods 30 = .ok (.getfield 12, 3) := by decide +kernel
theorem dX5_goods_33 : decode cX5_goods 33 = .ok (.getfield 64, 3) := by decide +kernel
theorem dX5_goods_36 : decode cX5_goods 36 = .ok (.iload_n 1, 1) := by decide +kernel
theorem dX5_goods_37 : decode cX5_goods 37 = .ok (.aaload, 1) := by decide +kernel
theorem dX5_goods_38 : decode cX5_goods 38 = .ok (.getfield 74, 3) := by decide +kernel
theorem dX5_goods_41 : decode cX5_goods 41 = .ok (.istore_n 3, 1) := by decide +kernel
theorem dX5_goods_42 : decode cX5_goods 42 = .ok (.aload_n 0, 1) := by decide +kernel
theorem dX5_goods_43 : decode cX5_goods 43 = .ok (.getfield 12, 3) := by decide +kernel
theorem dX5_goods_46 : decode cX5_goods 46 = .ok (.getfield 64, 3) := by decide +kernel
theorem dX5_goods_49 : decode cX5_goods 49 = .ok (.iload_n 1, 1) := by decide +kernel
theorem dX5_goods_50 : decode cX5_goods 50 = .ok (.aaload, 1) := by decide +kernel
theorem dX5_goods_51 : decode cX5_goods 51 = .ok (.iload_n 2, 1) := by decide +kernel
theorem dX5_goods_52 : decode cX5_goods 52 = .ok (.putfield 74, 3) := by decide +kernel
theorem dX5_goods_55 : decode cX5_goods 55 = .ok (.iload_n 3, 1) := by decide +kernel
theorem dX5_goods_56 : decode cX5_goods 56 = .ok (.ireturn, 1) := by decide +kernel
set_option maxRecDepth 20000 in
theorem ggX5_of_X2_holds : GoodIn wsX5_of wsX2_holds := goodIn_r _ [15, 16, 45, 46, 47, 48, 49, 50, 51] (by decide +kernel) (by decide +kernel)
set_option maxRecDepth 20000 in
theorem gX5_of_X2_holds : GoodIn wsX5_of (wsV RX5 61 RX2 yX2_holds wsX2_holds) := goodIn_app (goodIn_of _ (by decide +kernel)) ggX5_of_X2_holds
set_option maxRecDepth 20000 in
theorem ggX5_of_X5_finding : GoodIn wsX5_of wsX5_finding := goodIn_r _ [21, 22, 38, 39, 40, 41, 42, 43, 44] (by decide +kernel) (by decide +kernel)
set_option maxRecDepth 20000 in
theorem gX5_of_X5_finding : GoodIn wsX5_of (wsV RX5 48 RX5 yX5_finding wsX5_finding) := goodIn_app (goodIn_of _ (by decide +kernel)) ggX5_of_X5_finding
set_option maxRecDepth 20000 in
theorem ggX5_of_J6_bitCount_0f7a4 : GoodIn wsX5_of wsJ6_bitCount_0f7a4 := goodIn_r _ [26, 27, 28, 29] (by decide +kernel) (by decide +kernel)
set_option maxRecDepth 20000 in
theorem gX5_of_J6_bitCount_0f7a4 : GoodIn wsX5_of (va_wsS RX5 95 yJ6_bitCount_0f7a4 wsJ6_bitCount_0f7a4) := goodIn_app (goodIn_of _ (by decide +kernel)) ggX5_of_J6_bitCount_0f7a4
set_option maxRecDepth 20000 in
theorem ggX5_of_X2_cuttersOf : GoodIn wsX5_of wsX2_cuttersOf := goodIn_r _ [33, 16, 34, 35, 36, 20, 37, 45, 46, 47, 48, 49, 50, 51, 52, 53, 54, 55, 56, 57, 58, 59, 60] (by decide +kernel) (by decide +kernel)
set_option maxRecDepth 20000 in
theorem gX5_of_X2_cuttersOf : GoodIn wsX5_of (wsV RX5 100 RX2 yX2_cuttersOf wsX2_cuttersOf) := goodIn_app (goodIn_of _ (by decide +kernel)) ggX5_of_X2_cuttersOf
theorem dX5_of_0 : decode cX5_of 0 = .ok (.aload_n 0, 1) := by decide +kernel
theorem dX5_of_1 : decode cX5_of 1 = .ok (.getfield 12, 3) := by decide +kernel
theorem dX5_of_4 : decode cX5_of 4 = .ok (.iload_n 1, 1) := by decide +kernel
theorem dX5_of_5 : decode cX5_of 5 = .ok (.invokevirtual 61, 3) := by decide +kernel
theorem dX5_of_8 : decode cX5_of 8 = .ok (.ifCond .ne 10, 3) := by decide +kernel
theorem dX5_of_11 : decode cX5_of 11 = .ok (.aload_n 0, 1) := by decide +kernel
theorem dX5_of_12 : decode cX5_of 12 = .ok (.ldc 47, 2) := by decide +kernel
theorem dX5_of_14 : decode cX5_of 14 = .ok (.invokevirtual 48, 3) := by decide +kernel
theorem dX5_of_17 : decode cX5_of 17 = .ok (.ireturn, 1) := by decide +kernel
theorem dX5_of_18 : decode cX5_of 18 = .ok (.aload_n 0, 1) := by decide +kernel
theorem dX5_of_19 : decode cX5_of 19 = .ok (.getfield 12, 3) := by decide +kernel
theorem dX5_of_22 : decode cX5_of 22 = .ok (.getfield 64, 3) := by decide +kernel
theorem dX5_of_25 : decode cX5_of 25 = .ok (.iload_n 1, 1) := by decide +kernel
theorem dX5_of_26 : decode cX5_of 26 = .ok (.aaload, 1) := by decide +kernel
theorem dX5_of_27 : decode cX5_of 27 = .ok (.astore_n 3, 1) := by decide +kernel
theorem dX5_of_28 : decode cX5_of 28 = .ok (.iload_n 2, 1) := by decide +kernel
theorem dX5_of_29 : decode cX5_of 29 = .ok (.tableswitch 97 0 7 #[47, 52, 57, 62, 67, 72, 77, 85], 47) := by decide +kernel
theorem dX5_of_76 : decode cX5_of 76 = .ok (.aload_n 3, 1) := by decide +kernel
theorem dX5_of_77 : decode cX5_of 77 = .ok (.getfield 77, 3) := by decide +kernel
theorem dX5_of_80 : decode cX5_of 80 = .ok (.ireturn, 1) := by decide +kernel
theorem dX5_of_81 : decode cX5_of 81 = .ok (.aload_n 3, 1) := by decide +kernel
theorem dX5_of_82 : decode cX5_of 82 = .ok (.getfield 80, 3) := by decide +kernel
theorem dX5_of_85 : decode cX5_of 85 = .ok (.ireturn, 1) := by decide +kernel
theorem dX5_of_86 : decode cX5_of 86 = .ok (.aload_n 3, 1) := by decide +kernel
theorem dX5_of_87 : decode cX5_of 87 = .ok (.getfield 83, 3) := by decide +kernel
theorem dX5_of_90 : decode cX5_of 90 = .ok (.ireturn, 1) := by decide +kernel
theorem dX5_of_91 : decode cX5_of 91 = .ok (.aload_n 3, 1) := by decide +kernel
theorem dX5_of_92 : decode cX5_of 92 = .ok (.getfield 74, 3) := by decide +kernel
theorem dX5_of_95 : decode cX5_of 95 = .ok (.ireturn, 1) := by decide +kernel
theorem dX5_of_96 : decode cX5_of 96 = .ok (.aload_n 3, 1) := by decide +kernel
theorem dX5_of_97 : decode cX5_of 97 = .ok (.getfield 86, 3) := by decide +kernel
theorem dX5_of_100 : decode cX5_of 100 = .ok (.ireturn, 1) := by decide +kernel
theorem dX5_of_101 : decode cX5_of 101 = .ok (.aload_n 3, 1) := by decide +kernel
theorem dX5_of_102 : decode cX5_of 102 = .ok (.getfield 89, 3) := by decide +kernel
theorem dX5_of_105 : decode cX5_of 105 = .ok (.ireturn, 1) := by decide +kernel
theorem dX5_of_106 : decode cX5_of 106 = .ok (.aload_n 3, 1) := by decide +kernel
theorem dX5_of_107 : decode cX5_of 107 = .ok (.getfield 92, 3) := by decide +kernel
theorem dX5_of_110 : decode cX5_of 110 = .ok (.invokestatic 95, 3) := by decide +kernel
theorem dX5_of_113 : decode cX5_of 113 = .ok (.ireturn, 1) := by decide +kernel
theorem dX5_of_114 : decode cX5_of 114 = .ok (.aload_n 0, 1) := by decide +kernel
theorem dX5_of_115 : decode cX5_of 115 = .ok (.getfield 12, 3) := by decide +kernel
theorem dX5_of_118 : decode cX5_of 118 = .ok (.iload_n 1, 1) := by decide +kernel
theorem dX5_of_119 : decode cX5_of 119 = .ok (.invokevirtual 100, 3) := by decide +kernel
theorem dX5_of_122 : decode cX5_of 122 = .ok (.invokestatic 95, 3) := by decide +kernel
theorem dX5_of_125 : decode cX5_of 125 = .ok (.ireturn, 1) := by decide +kernel
theorem dX5_of_126 : decode cX5_of 126 = .ok (.aload_n 0, 1) := by decide +kernel
theorem dX5_of_127 : decode cX5_of 127 = .ok (.ldc 47, 2) := by decide +kernel
theorem dX5_of_129 : decode cX5_of 129 = .ok (.invokevirtual 48, 3) := by decide +kernel
theorem dX5_of_132 : decode cX5_of 132 = .ok (.ireturn, 1) := by decide +kernel
set_option maxRecDepth 20000 in
theorem ggX5_span_X2_holds : GoodIn wsX5_span wsX2_holds := goodIn_r _ [11, 12, 29, 30, 31, 32, 33, 34, 35] (by decide +kernel) (by decide +kernel)
set_option maxRecDepth 20000 in
theorem gX5_span_X2_holds : GoodIn wsX5_span (wsV RX5 61 RX2 yX2_holds wsX2_holds) := goodIn_app (goodIn_of _ (by decide +kernel)) ggX5_span_X2_holds
set_option maxRecDepth 20000 in
theorem ggX5_span_X5_isYear : GoodIn wsX5_span wsX5_isYear := goodIn_r _ [16] (by decide +kernel) (by decide +kernel)
set_option maxRecDepth 20000 in
theorem gX5_span_X5_isYear : GoodIn wsX5_span (va_wsS RX5 103 yX5_isYear wsX5_isYear) := goodIn_app (goodIn_of _ (by decide +kernel)) ggX5_span_X5_isYear
set_option maxRecDepth 20000 in
theorem ggX5_span_X5_finding : GoodIn wsX5_span wsX5_finding := goodIn_r _ [20, 21, 22, 23, 24, 25, 26, 27, 28] (by decide +kernel) (by decide +kernel)
set_option maxRecDepth 20000 in
theorem gX5_span_X5_finding : GoodIn wsX5_span (wsV RX5 48 RX5 yX5_finding wsX5_finding) := goodIn_app (goodIn_of _ (by decide +kernel)) ggX5_span_X5_finding
theorem dX5_span_0 : decode cX5_span 0 = .ok (.aload_n 0, 1) := by decide +kernel
theorem dX5_span_1 : decode cX5_span 1 = .ok (.getfield 12, 3) := by decide +kernel
theorem dX5_span_4 : decode cX5_span 4 = .ok (.iload_n 1, 1) := by decide +kernel
theorem dX5_span_5 : decode cX5_span 5 = .ok (.invokevirtual 61, 3) := by decide +kernel
theorem dX5_span_8 : decode cX5_span 8 = .ok (.ifCond .eq 17, 3) := by decide +kernel
theorem dX5_span_11 : decode cX5_span 11 = .ok (.iload_n 2, 1) := by decide +kernel
theorem dX5_span_12 : decode cX5_span 12 = .ok (.invokestatic 103, 3) := by decide +kernel
theorem dX5_span_15 : decode cX5_span 15 = .ok (.ifCond .eq 10, 3) := by decide +kernel
theorem dX5_span_18 : decode cX5_span 18 = .ok (.iload_n 3, 1) := by decide +kernel
theorem dX5_span_19 : decode cX5_span 19 = .ok (.invokestatic 103, 3) := by decide +kernel
theorem dX5_span_22 : decode cX5_span 22 = .ok (.ifCond .ne 10, 3) := by decide +kernel
theorem dX5_span_25 : decode cX5_span 25 = .ok (.aload_n 0, 1) := by decide +kernel
theorem dX5_span_26 : decode cX5_span 26 = .ok (.ldc 47, 2) := by decide +kernel
theorem dX5_span_28 : decode cX5_span 28 = .ok (.invokevirtual 48, 3) := by decide +kernel
theorem dX5_span_31 : decode cX5_span 31 = .ok (.ireturn, 1) := by decide +kernel
theorem dX5_span_32 : decode cX5_span 32 = .ok (.iload_n 2, 1) := by decide +kernel
theorem dX5_span_33 : decode cX5_span 33 = .ok (.iload_n 3, 1) := by decide +kernel
theorem dX5_span_34 : decode cX5_span 34 = .ok (.if_icmp .le 10, 3) := by decide +kernel
theorem dX5_span_37 : decode cX5_span 37 = .ok (.aload_n 0, 1) := by decide +kernel
theorem dX5_span_38 : decode cX5_span 38 = .ok (.ldc 106, 2) := by decide +kernel
theorem dX5_span_40 : decode cX5_span 40 = .ok (.invokevirtual 48, 3) := by decide +kernel
theorem dX5_span_43 : decode cX5_span 43 = .ok (.ireturn, 1) := by decide +kernel
theorem dX5_span_44 : decode cX5_span 44 = .ok (.aload_n 0, 1) := by decide +kernel
theorem dX5_span_45 : decode cX5_span 45 = .ok (.getfield 12, 3) := by decide +kernel
theorem dX5_span_48 : decode cX5_span 48 = .ok (.getfield 64, 3) := by decide +kernel
theorem dX5_span_51 : decode cX5_span 51 = .ok (.iload_n 1, 1) := by decide +kernel
theorem dX5_span_52 : decode cX5_span 52 = .ok (.aaload, 1) := by decide +kernel
theorem dX5_span_53 : decode cX5_span 53 = .ok (.iload_n 2, 1) := by decide +kernel
theorem dX5_span_54 : decode cX5_span 54 = .ok (.putfield 86, 3) := by decide +kernel
theorem dX5_span_57 : decode cX5_span 57 = .ok (.aload_n 0, 1) := by decide +kernel
theorem dX5_span_58 : decode cX5_span 58 = .ok (.getfield 12, 3) := by decide +kernel
theorem dX5_span_61 : decode cX5_span 61 = .ok (.getfield 64, 3) := by decide +kernel
theorem dX5_span_64 : decode cX5_span 64 = .ok (.iload_n 1, 1) := by decide +kernel
theorem dX5_span_65 : decode cX5_span 65 = .ok (.aaload, 1) := by decide +kernel
theorem dX5_span_66 : decode cX5_span 66 = .ok (.iload_n 3, 1) := by decide +kernel
theorem dX5_span_67 : decode cX5_span 67 = .ok (.putfield 89, 3) := by decide +kernel
theorem dX5_span_70 : decode cX5_span 70 = .ok (.iconst 1, 1) := by decide +kernel
theorem dX5_span_71 : decode cX5_span 71 = .ok (.ireturn, 1) := by decide +kernel
set_option maxRecDepth 20000 in
theorem ggX5_coin_X2_holds : GoodIn wsX5_coin wsX2_holds := goodIn_r _ [16, 17, 41, 42, 43, 44, 45, 46, 47] (by decide +kernel) (by decide +kernel)
set_option maxRecDepth 20000 in
theorem gX5_coin_X2_holds : GoodIn wsX5_coin (wsV RX5 61 RX2 yX2_holds wsX2_holds) := goodIn_app (goodIn_of _ (by decide +kernel)) ggX5_coin_X2_holds
set_option maxRecDepth 20000 in
theorem ggX5_coin_X5_isYear : GoodIn wsX5_coin wsX5_isYear := goodIn_r _ [21] (by decide +kernel) (by decide +kernel)
set_option maxRecDepth 20000 in
theorem gX5_coin_X5_isYear : GoodIn wsX5_coin (va_wsS RX5 103 yX5_isYear wsX5_isYear) := goodIn_app (goodIn_of _ (by decide +kernel)) ggX5_coin_X5_isYear
set_option maxRecDepth 20000 in
theorem ggX5_coin_X5_finding : GoodIn wsX5_coin wsX5_finding := goodIn_r _ [25, 26, 34, 35, 36, 37, 38, 39, 40] (by decide +kernel) (by decide +kernel)
set_option maxRecDepth 20000 in
theorem gX5_coin_X5_finding : GoodIn wsX5_coin (wsV RX5 48 RX5 yX5_finding wsX5_finding) := goodIn_app (goodIn_of _ (by decide +kernel)) ggX5_coin_X5_finding
set_option maxRecDepth 20000 in
theorem ggX5_coin_X1_isOfKind : GoodIn wsX5_coin wsX1_isOfKind := goodIn_r _ [31, 32, 33, 48, 49, 50, 51, 52, 53, 54, 55, 56] (by decide +kernel) (by decide +kernel)
set_option maxRecDepth 20000 in
theorem gX5_coin_X1_isOfKind : GoodIn wsX5_coin (wsV RX5 68 RX1 yX1_isOfKind wsX1_isOfKind) := goodIn_app (goodIn_of _ (by decide +kernel)) ggX5_coin_X1_isOfKind
theorem dX5_coin_0 : decode cX5_coin 0 = .ok (.aload_n 0, 1) := by decide +kernel
theorem dX5_coin_1 : decode cX5_coin 1 = .ok (.getfield 12, 3) := by decide +kernel
theorem dX5_coin_4 : decode cX5_coin 4 = .ok (.iload_n 1, 1) := by decide +kernel
theorem dX5_coin_5 : decode cX5_coin 5 = .ok (.invokevirtual 61, 3) := by decide +kernel
theorem dX5_coin_8 : decode cX5_coin 8 = .ok (.ifCond .eq 10, 3) := by decide +kernel
theorem dX5_coin_11 : decode cX5_coin 11 = .ok (.iload_n 2, 1) := by decide +kernel
theorem dX5_coin_12 : decode cX5_coin 12 = .ok (.invokestatic 103, 3) := by decide +kernel
theorem dX5_coin_15 : decode cX5_coin 15 = .ok (.ifCond .ne 10, 3) := by decide +kernel
theorem dX5_coin_18 : decode cX5_coin 18 = .ok (.aload_n 0, 1) := by decide +kernel
theorem dX5_coin_19 : decode cX5_coin 19 = .ok (.ldc 47, 2) := by decide +kernel
theorem dX5_coin_21 : decode cX5_coin 21 = .ok (.invokevirtual 48, 3) := by decide +kernel
theorem dX5_coin_24 : decode cX5_coin 24 = .ok (.ireturn, 1) := by decide +kernel
theorem dX5_coin_25 : decode cX5_coin 25 = .ok (.aload_n 0, 1) := by decide +kernel
theorem dX5_coin_26 : decode cX5_coin 26 = .ok (.getfield 12, 3) := by decide +kernel
theorem dX5_coin_29 : decode cX5_coin 29 = .ok (.getfield 64, 3) := by decide +kernel
theorem dX5_coin_32 : decode cX5_coin 32 = .ok (.iload_n 1, 1) := by decide +kernel
theorem dX5_coin_33 : decode cX5_coin 33 = .ok (.aaload, 1) := by decide +kernel
theorem dX5_coin_34 : decode cX5_coin 34 = .ok (.astore_n 3, 1) := by decide +kernel
theorem dX5_coin_35 : decode cX5_coin 35 = .ok (.aload_n 3, 1) := by decide +kernel
theorem dX5_coin_36 : decode cX5_coin 36 = .ok (.iconst 3, 1) := by decide +kernel
theorem dX5_coin_37 : decode cX5_coin 37 = .ok (.invokevirtual 68, 3) := by decide +kernel
theorem dX5_coin_40 : decode cX5_coin 40 = .ok (.ifCond .ne 10, 3) := by decide +kernel
theorem dX5_coin_43 : decode cX5_coin 43 = .ok (.aload_n 0, 1) := by decide +kernel
theorem dX5_coin_44 : decode cX5_coin 44 = .ok (.ldc 73, 2) := by decide +kernel
theorem dX5_coin_46 : decode cX5_coin 46 = .ok (.invokevirtual 48, 3) := by decide +kernel
theorem dX5_coin_49 : decode cX5_coin 49 = .ok (.ireturn, 1) := by decide +kernel
theorem dX5_coin_50 : decode cX5_coin 50 = .ok (.iload_n 2, 1) := by decide +kernel
theorem dX5_coin_51 : decode cX5_coin 51 = .ok (.aload_n 3, 1) := by decide +kernel
theorem dX5_coin_52 : decode cX5_coin 52 = .ok (.getfield 89, 3) := by decide +kernel
theorem dX5_coin_55 : decode cX5_coin 55 = .ok (.if_icmp .le 10, 3) := by decide +kernel
theorem dX5_coin_58 : decode cX5_coin 58 = .ok (.aload_n 0, 1) := by decide +kernel
theorem dX5_coin_59 : decode cX5_coin 59 = .ok (.ldc 106, 2) := by decide +kernel
theorem dX5_coin_61 : decode cX5_coin 61 = .ok (.invokevirtual 48, 3) := by decide +kernel
theorem dX5_coin_64 : decode cX5_coin 64 = .ok (.ireturn, 1) := by decide +kernel
theorem dX5_coin_65 : decode cX5_coin 65 = .ok (.aload_n 3, 1) := by decide +kernel
theorem dX5_coin_66 : decode cX5_coin 66 = .ok (.aload_n 3, 1) := by decide +kernel
theorem dX5_coin_67 : decode cX5_coin 67 = .ok (.getfield 86, 3) := by decide +kernel
theorem dX5_coin_70 : decode cX5_coin 70 = .ok (.iload_n 2, 1) := by decide +kernel
theorem dX5_coin_71 : decode cX5_coin 71 = .ok (.invokestatic 107, 3) := by decide +kernel
theorem dX5_coin_74 : decode cX5_coin 74 = .ok (.putfield 86, 3) := by decide +kernel
theorem dX5_coin_77 : decode cX5_coin 77 = .ok (.aload_n 3, 1) := by decide +kernel
theorem dX5_coin_78 : decode cX5_coin 78 = .ok (.getfield 86, 3) := by decide +kernel
theorem dX5_coin_81 : decode cX5_coin 81 = .ok (.ireturn, 1) := by decide +kernel
set_option maxRecDepth 20000 in
theorem ggX5_cut_X2_holds : GoodIn wsX5_cut wsX2_holds := goodIn_r _ [9, 10, 42, 43, 44, 45, 46, 47, 48] (by decide +kernel) (by decide +kernel)
set_option maxRecDepth 20000 in
theorem gX5_cut_X2_holds : GoodIn wsX5_cut (wsV RX5 61 RX2 yX2_holds wsX2_holds) := goodIn_app (goodIn_of _ (by decide +kernel)) ggX5_cut_X2_holds
set_option maxRecDepth 20000 in
theorem ggX5_cut_X5_finding : GoodIn wsX5_cut wsX5_finding := goodIn_r _ [15, 16, 35, 36, 37, 38, 39, 40, 41] (by decide +kernel) (by decide +kernel)
set_option maxRecDepth 20000 in
theorem gX5_cut_X5_finding : GoodIn wsX5_cut (wsV RX5 48 RX5 yX5_finding wsX5_finding) := goodIn_app (goodIn_of _ (by decide +kernel)) ggX5_cut_X5_finding
set_option maxRecDepth 20000 in
theorem ggX5_cut_X2_earlierThan : GoodIn wsX5_cut wsX2_earlierThan := goodIn_r _ [20, 10, 21, 22, 23, 24, 25, 26, 8, 27, 28, 14, 29, 42, 43, 44, 45, 46, 47, 48, 49, 50, 51, 52, 53, 54, 55, 56, 57] (by decide +kernel) (by decide +kernel)
set_option maxRecDepth 20000 in
theorem gX5_cut_X2_earlierThan : GoodIn wsX5_cut (wsV RX5 113 RX2 yX2_earlierThan wsX2_earlierThan) := goodIn_app (goodIn_of _ (by decide +kernel)) ggX5_cut_X2_earlierThan
set_option maxRecDepth 20000 in
theorem ggX5_cut_X5_isIn : GoodIn wsX5_cut wsX5_isIn := goodIn_r _ [29] (by decide +kernel) (by decide +kernel)
set_option maxRecDepth 20000 in
theorem gX5_cut_X5_isIn : GoodIn wsX5_cut (va_wsS RX5 116 yX5_isIn wsX5_isIn) := goodIn_app (goodIn_of _ (by decide +kernel)) ggX5_cut_X5_isIn
set_option maxRecDepth 20000 in
theorem ggX5_cut_X2_setCut : GoodIn wsX5_cut wsX2_setCut := goodIn_r _ [34, 22, 23, 42, 43, 44, 45, 46, 47, 48, 49, 50, 51, 52, 53, 54, 55, 56, 57] (by decide +kernel) (by decide +kernel)
set_option maxRecDepth 20000 in
theorem gX5_cut_X2_setCut : GoodIn wsX5_cut (wsV RX5 121 RX2 yX2_setCut wsX2_setCut) := goodIn_app (goodIn_of _ (by decide +kernel)) ggX5_cut_X2_setCut
theorem dX5_cut_0 : decode cX5_cut 0 = .ok (.aload_n 0, 1) := by decide +kernel
theorem dX5_cut_1 : decode cX5_cut 1 = .ok (.getfield 12, 3) := by decide +kernel
theorem dX5_cut_4 : decode cX5_cut 4 = .ok (.iload_n 1, 1) := by decide +kernel
theorem dX5_cut_5 : decode cX5_cut 5 = .ok (.invokevirtual 61, 3) := by decide +kernel
theorem dX5_cut_8 : decode cX5_cut 8 = .ok (.ifCond .eq 14, 3) := by decide +kernel
theorem dX5_cut_11 : decode cX5_cut 11 = .ok (.aload_n 0, 1) := by decide +kernel
theorem dX5_cut_12 : decode cX5_cut 12 = .ok (.getfield 12, 3) := by decide +kernel
theorem dX5_cut_15 : decode cX5_cut 15 = .ok (.iload_n 2, 1) := by decide +kernel
theorem dX5_cut_16 : decode cX5_cut 16 = .ok (.invokevirtual 61, 3) := by decide +kernel
theorem dX5_cut_19 : decode cX5_cut 19 = .ok (.ifCond .ne 10, 3) := by decide +kernel
theorem dX5_cut_22 : decode cX5_cut 22 = .ok (.aload_n 0, 1) := by decide +kernel
theorem dX5_cut_23 : decode cX5_cut 23 = .ok (.ldc 47, 2) := by decide +kernel
theorem dX5_cut_25 : decode cX5_cut 25 = .ok (.invokevirtual 48, 3) := by decide +kernel
theorem dX5_cut_28 : decode cX5_cut 28 = .ok (.ireturn, 1) := by decide +kernel
theorem dX5_cut_29 : decode cX5_cut 29 = .ok (.iload_n 1, 1) := by decide +kernel
theorem dX5_cut_30 : decode cX5_cut 30 = .ok (.iload_n 2, 1) := by decide +kernel
theorem dX5_cut_31 : decode cX5_cut 31 = .ok (.if_icmp .ne 10, 3) := by decide +kernel
theorem dX5_cut_34 : decode cX5_cut 34 = .ok (.aload_n 0, 1) := by decide +kernel
theorem dX5_cut_35 : decode cX5_cut 35 = .ok (.ldc 106, 2) := by decide +kernel
theorem dX5_cut_37 : decode cX5_cut 37 = .ok (.invokevirtual 48, 3) := by decide +kernel
theorem dX5_cut_40 : decode cX5_cut 40 = .ok (.ireturn, 1) := by decide +kernel
theorem dX5_cut_41 : decode cX5_cut 41 = .ok (.iload_n 3, 1) := by decide +kernel
theorem dX5_cut_42 : decode cX5_cut 42 = .ok (.ifCond .eq 25, 3) := by decide +kernel
theorem dX5_cut_45 : decode cX5_cut 45 = .ok (.aload_n 0, 1) := by decide +kernel
theorem dX5_cut_46 : decode cX5_cut 46 = .ok (.getfield 12, 3) := by decide +kernel
theorem dX5_cut_49 : decode cX5_cut 49 = .ok (.iload_n 2, 1) := by decide +kernel
theorem dX5_cut_50 : decode cX5_cut 50 = .ok (.invokevirtual 113, 3) := by decide +kernel
theorem dX5_cut_53 : decode cX5_cut 53 = .ok (.iload_n 1, 1) := by decide +kernel
theorem dX5_cut_54 : decode cX5_cut 54 = .ok (.invokestatic 116, 3) := by decide +kernel
theorem dX5_cut_57 : decode cX5_cut 57 = .ok (.ifCond .eq 10, 3) := by decide +kernel
theorem dX5_cut_60 : decode cX5_cut 60 = .ok (.aload_n 0, 1) := by decide +kernel
theorem dX5_cut_61 : decode cX5_cut 61 = .ok (.ldc 120, 2) := by decide +kernel
theorem dX5_cut_63 : decode cX5_cut 63 = .ok (.invokevirtual 48, 3) := by decide +kernel
theorem dX5_cut_66 : decode cX5_cut 66 = .ok (.ireturn, 1) := by decide +kernel
theorem dX5_cut_67 : decode cX5_cut 67 = .ok (.aload_n 0, 1) := by decide +kernel
theorem dX5_cut_68 : decode cX5_cut 68 = .ok (.getfield 12, 3) := by decide +kernel
theorem dX5_cut_71 : decode cX5_cut 71 = .ok (.iload_n 1, 1) := by decide +kernel
theorem dX5_cut_72 : decode cX5_cut 72 = .ok (.iload_n 2, 1) := by decide +kernel
theorem dX5_cut_73 : decode cX5_cut 73 = .ok (.iload_n 3, 1) := by decide +kernel
theorem dX5_cut_74 : decode cX5_cut 74 = .ok (.invokevirtual 121, 3) := by decide +kernel
theorem dX5_cut_77 : decode cX5_cut 77 = .ok (.ifCond .eq 7, 3) := by decide +kernel
theorem dX5_cut_80 : decode cX5_cut 80 = .ok (.iconst 1, 1) := by decide +kernel
theorem dX5_cut_81 : decode cX5_cut 81 = .ok (.goto 4, 3) := by decide +kernel
theorem dX5_cut_84 : decode cX5_cut 84 = .ok (.iconst 0, 1) := by decide +kernel
theorem dX5_cut_85 : decode cX5_cut 85 = .ok (.ireturn, 1) := by decide +kernel
set_option maxRecDepth 20000 in
theorem ggX5_later_X2_holds : GoodIn wsX5_later wsX2_holds := goodIn_r _ [7, 8, 36, 37, 38, 39, 40, 41, 42] (by decide +kernel) (by decide +kernel)
set_option maxRecDepth 20000 in
theorem gX5_later_X2_holds : GoodIn wsX5_later (wsV RX5 61 RX2 yX2_holds wsX2_holds) := goodIn_app (goodIn_of _ (by decide +kernel)) ggX5_later_X2_holds
set_option maxRecDepth 20000 in
theorem ggX5_later_X5_finding : GoodIn wsX5_later wsX5_finding := goodIn_r _ [13, 14, 29, 30, 31, 32, 33, 34, 35] (by decide +kernel) (by decide +kernel)
set_option maxRecDepth 20000 in
theorem gX5_later_X5_finding : GoodIn wsX5_later (wsV RX5 48 RX5 yX5_finding wsX5_finding) := goodIn_app (goodIn_of _ (by decide +kernel)) ggX5_later_X5_finding
set_option maxRecDepth 20000 in
theorem ggX5_later_X2_earlierThan : GoodIn wsX5_later wsX2_earlierThan := goodIn_r _ [18, 8, 19, 20, 21, 22, 23, 24, 6, 25, 26, 12, 27, 36, 37, 38, 39, 40, 41, 42, 43, 44, 45, 46, 47, 48, 49, 50, 51] (by decide +kernel) (by decide +kernel)
set_option maxRecDepth 20000 in
theorem gX5_later_X2_earlierThan : GoodIn wsX5_later (wsV RX5 113 RX2 yX2_earlierThan wsX2_earlierThan) := goodIn_app (goodIn_of _ (by decide +kernel)) ggX5_later_X2_earlierThan
set_option maxRecDepth 20000 in
theorem ggX5_later_X5_isIn : GoodIn wsX5_later wsX5_isIn := goodIn_r _ [27] (by decide +kernel) (by decide +kernel)
set_option maxRecDepth 20000 in
theorem gX5_later_X5_isIn : GoodIn wsX5_later (va_wsS RX5 116 yX5_isIn wsX5_isIn) := goodIn_app (goodIn_of _ (by decide +kernel)) ggX5_later_X5_isIn
theorem dX5_later_0 : decode cX5_later 0 = .ok (.aload_n 0, 1) := by decide +kernel
theorem dX5_later_1 : decode cX5_later 1 = .ok (.getfield 12, 3) := by decide +kernel
theorem dX5_later_4 : decode cX5_later 4 = .ok (.iload_n 1, 1) := by decide +kernel
theorem dX5_later_5 : decode cX5_later 5 = .ok (.invokevirtual 61, 3) := by decide +kernel
theorem dX5_later_8 : decode cX5_later 8 = .ok (.ifCond .eq 14, 3) := by decide +kernel
theorem dX5_later_11 : decode cX5_later 11 = .ok (.aload_n 0, 1) := by decide +kernel
theorem dX5_later_12 : decode cX5_later 12 = .ok (.getfield 12, 3) := by decide +kernel
theorem dX5_later_15 : decode cX5_later 15 = .ok (.iload_n 2, 1) := by decide +kernel
theorem dX5_later_16 : decode cX5_later 16 = .ok (.invokevirtual 61, 3) := by decide +kernel
theorem dX5_later_19 : decode cX5_later 19 = .ok (.ifCond .ne 10, 3) := by decide +kernel
theorem dX5_later_22 : decode cX5_later 22 = .ok (.aload_n 0, 1) := by decide +kernel
theorem dX5_later_23 : decode cX5_later 23 = .ok (.ldc 47, 2) := by decide +kernel
theorem dX5_later_25 : decode cX5_later 25 = .ok (.invokevirtual 48, 3) := by decide +kernel
theorem dX5_later_28 : decode cX5_later 28 = .ok (.ireturn, 1) := by decide +kernel
theorem dX5_later_29 : decode cX5_later 29 = .ok (.aload_n 0, 1) := by decide +kernel
theorem dX5_later_30 : decode cX5_later 30 = .ok (.getfield 12, 3) := by decide +kernel
theorem dX5_later_33 : decode cX5_later 33 = .ok (.iload_n 1, 1) := by decide +kernel
theorem dX5_later_34 : decode cX5_later 34 = .ok (.invokevirtual 113, 3) := by decide +kernel
theorem dX5_later_37 : decode cX5_later 37 = .ok (.iload_n 2, 1) := by decide +kernel
theorem dX5_later_38 : decode cX5_later 38 = .ok (.invokestatic 116, 3) := by decide +kernel
theorem dX5_later_41 : decode cX5_later 41 = .ok (.ifCond .eq 7, 3) := by decide +kernel
theorem dX5_later_44 : decode cX5_later 44 = .ok (.iconst 1, 1) := by decide +kernel
theorem dX5_later_45 : decode cX5_later 45 = .ok (.goto 4, 3) := by decide +kernel
theorem dX5_later_48 : decode cX5_later 48 = .ok (.iconst 0, 1) := by decide +kernel
theorem dX5_later_49 : decode cX5_later 49 = .ok (.ireturn, 1) := by decide +kernel
set_option maxRecDepth 20000 in
theorem ggX5_fill_X5_finding : GoodIn wsX5_fill wsX5_finding := goodIn_r _ [8, 9, 18, 19, 20, 21, 22, 23, 24] (by decide +kernel) (by decide +kernel)
set_option maxRecDepth 20000 in
theorem gX5_fill_X5_finding : GoodIn wsX5_fill (wsV RX5 48 RX5 yX5_finding wsX5_finding) := goodIn_app (goodIn_of _ (by decide +kernel)) ggX5_fill_X5_finding
set_option maxRecDepth 20000 in
theorem ggX5_fill_X2_closeLast : GoodIn wsX5_fill wsX2_closeLast := goodIn_r _ [14, 15, 16, 17, 25, 26, 27, 28, 29, 30, 31, 32, 33, 34, 35, 36, 37, 38, 39, 40] (by decide +kernel) (by decide +kernel)
set_option maxRecDepth 20000 in
theorem gX5_fill_X2_closeLast : GoodIn wsX5_fill (wsV RX5 126 RX2 yX2_closeLast wsX2_closeLast) := goodIn_app (goodIn_of _ (by decide +kernel)) ggX5_fill_X2_closeLast
theorem dX5_fill_0 : decode cX5_fill 0 = .ok (.aload_n 0, 1) := by decide +kernel
theorem dX5_fill_1 : decode cX5_fill 1 = .ok (.getfield 12, 3) := by decide +kernel
theorem dX5_fill_4 : decode cX5_fill 4 = .ok (.getfield 52, 3) := by decide +kernel
theorem dX5_fill_7 : decode cX5_fill 7 = .ok (.ifCond .ne 10, 3) := by decide +kernel
theorem dX5_fill_10 : decode cX5_fill 10 = .ok (.aload_n 0, 1) := by decide +kernel
theorem dX5_fill_11 : decode cX5_fill 11 = .ok (.ldc 125, 2) := by decide +kernel
theorem dX5_fill_13 : decode cX5_fill 13 = .ok (.invokevirtual 48, 3) := by decide +kernel
theorem dX5_fill_16 : decode cX5_fill 16 = .ok (.ireturn, 1) := by decide +kernel
theorem dX5_fill_17 : decode cX5_fill 17 = .ok (.aload_n 0, 1) := by decide +kernel
theorem dX5_fill_18 : decode cX5_fill 18 = .ok (.getfield 12, 3) := by decide +kernel
theorem dX5_fill_21 : decode cX5_fill 21 = .ok (.invokevirtual 126, 3) := by decide +kernel
theorem dX5_fill_24 : decode cX5_fill 24 = .ok (.aload_n 0, 1) := by decide +kernel
theorem dX5_fill_25 : decode cX5_fill 25 = .ok (.getfield 12, 3) := by decide +kernel
theorem dX5_fill_28 : decode cX5_fill 28 = .ok (.getfield 52, 3) := by decide +kernel
theorem dX5_fill_31 : decode cX5_fill 31 = .ok (.ireturn, 1) := by decide +kernel
set_option maxRecDepth 20000 in
theorem ggX5_sheet_X5_isSheet : GoodIn wsX5_sheet wsX5_isSheet := goodIn_r _ [8] (by decide +kernel) (by decide +kernel)
set_option maxRecDepth 20000 in
theorem gX5_sheet_X5_isSheet : GoodIn wsX5_sheet (va_wsS RX5 129 yX5_isSheet wsX5_isSheet) := goodIn_app (goodIn_of _ (by decide +kernel)) ggX5_sheet_X5_isSheet
set_option maxRecDepth 20000 in
theorem ggX5_sheet_X5_isWidth : GoodIn wsX5_sheet wsX5_isWidth := goodIn_r _ [11] (by decide +kernel) (by decide +kernel)
set_option maxRecDepth 20000 in
theorem gX5_sheet_X5_isWidth : GoodIn wsX5_sheet (va_wsS RX5 132 yX5_isWidth wsX5_isWidth) := goodIn_app (goodIn_of _ (by decide +kernel)) ggX5_sheet_X5_isWidth
set_option maxRecDepth 20000 in
theorem ggX5_sheet_X5_finding : GoodIn wsX5_sheet wsX5_finding := goodIn_r _ [15, 16, 25, 26, 27, 28, 29, 30, 31] (by decide +kernel) (by decide +kernel)
set_option maxRecDepth 20000 in
theorem gX5_sheet_X5_finding : GoodIn wsX5_sheet (wsV RX5 48 RX5 yX5_finding wsX5_finding) := goodIn_app (goodIn_of _ (by decide +kernel)) ggX5_sheet_X5_finding
set_option maxRecDepth 20000 in
theorem ggX5_sheet_X4_become : GoodIn wsX5_sheet wsX4_become := goodIn_r _ [21, 22, 23, 24, 32, 33, 34] (by decide +kernel) (by decide +kernel)
set_option maxRecDepth 20000 in
theorem gX5_sheet_X4_become : GoodIn wsX5_sheet (wsV RX5 135 RX4 yX4_become wsX4_become) := goodIn_app (goodIn_of _ (by decide +kernel)) ggX5_sheet_X4_become
theorem dX5_sheet_0 : decode cX5_sheet 0 = .ok (.iload_n 1, 1) := by decide +kernel
theorem dX5_sheet_1 : decode cX5_sheet 1 = .ok (.invokestatic 129, 3) := by decide +kernel
theorem dX5_sheet_4 : decode cX5_sheet 4 = .ok (.ifCond .eq 10, 3) := by decide +kernel
theorem dX5_sheet_7 : decode cX5_sheet 7 = .ok (.iload_n 2, 1) := by decide +kernel
theorem dX5_sheet_8 : decode cX5_sheet 8 = .ok (.invokestatic 132, 3) := by decide +kernel
theorem dX5_sheet_11 : decode cX5_sheet 11 = .ok (.ifCond .ne 10, 3) := by decide +kernel
theorem dX5_sheet_14 : decode cX5_sheet 14 = .ok (.aload_n 0, 1) := by decide +kernel
theorem dX5_sheet_15 : decode cX5_sheet 15 = .ok (.ldc 47, 2) := by decide +kernel
theorem dX5_sheet_17 : decode cX5_sheet 17 = .ok (.invokevirtual 48, 3) := by decide +kernel
theorem dX5_sheet_20 : decode cX5_sheet 20 = .ok (.ireturn, 1) := by decide +kernel
theorem dX5_sheet_21 : decode cX5_sheet 21 = .ok (.iload_n 3, 1) := by decide +kernel
theorem dX5_sheet_22 : decode cX5_sheet 22 = .ok (.ifCond .ge 10, 3) := by decide +kernel
theorem dX5_sheet_25 : decode cX5_sheet 25 = .ok (.aload_n 0, 1) := by decide +kernel
theorem dX5_sheet_26 : decode cX5_sheet 26 = .ok (.ldc 106, 2) := by decide +kernel
theorem dX5_sheet_28 : decode cX5_sheet 28 = .ok (.invokevirtual 48, 3) := by decide +kernel
theorem dX5_sheet_31 : decode cX5_sheet 31 = .ok (.ireturn, 1) := by decide +kernel
theorem dX5_sheet_32 : decode cX5_sheet 32 = .ok (.iload_n 3, 1) := by decide +kernel
theorem dX5_sheet_33 : decode cX5_sheet 33 = .ok (.bipush 12, 2) := by decide +kernel
theorem dX5_sheet_35 : decode cX5_sheet 35 = .ok (.if_icmp .le 10, 3) := by decide +kernel
theorem dX5_sheet_38 : decode cX5_sheet 38 = .ok (.aload_n 0, 1) := by decide +kernel
theorem dX5_sheet_39 : decode cX5_sheet 39 = .ok (.ldc 47, 2) := by decide +kernel
theorem dX5_sheet_41 : decode cX5_sheet 41 = .ok (.invokevirtual 48, 3) := by decide +kernel
theorem dX5_sheet_44 : decode cX5_sheet 44 = .ok (.ireturn, 1) := by decide +kernel
theorem dX5_sheet_45 : decode cX5_sheet 45 = .ok (.aload_n 0, 1) := by decide +kernel
theorem dX5_sheet_46 : decode cX5_sheet 46 = .ok (.getfield 21, 3) := by decide +kernel
theorem dX5_sheet_49 : decode cX5_sheet 49 = .ok (.iload_n 1, 1) := by decide +kernel
theorem dX5_sheet_50 : decode cX5_sheet 50 = .ok (.aaload, 1) := by decide +kernel
theorem dX5_sheet_51 : decode cX5_sheet 51 = .ok (.iload_n 2, 1) := by decide +kernel
theorem dX5_sheet_52 : decode cX5_sheet 52 = .ok (.iload_n 3, 1) := by decide +kernel
theorem dX5_sheet_53 : decode cX5_sheet 53 = .ok (.invokevirtual 135, 3) := by decide +kernel
theorem dX5_sheet_56 : decode cX5_sheet 56 = .ok (.aload_n 0, 1) := by decide +kernel
theorem dX5_sheet_57 : decode cX5_sheet 57 = .ok (.getfield 21, 3) := by decide +kernel
theorem dX5_sheet_60 : decode cX5_sheet 60 = .ok (.iload_n 1, 1) := by decide +kernel
theorem dX5_sheet_61 : decode cX5_sheet 61 = .ok (.aaload, 1) := by decide +kernel
theorem dX5_sheet_62 : decode cX5_sheet 62 = .ok (.getfield 139, 3) := by decide +kernel
theorem dX5_sheet_65 : decode cX5_sheet 65 = .ok (.ireturn, 1) := by decide +kernel
set_option maxRecDepth 20000 in
theorem ggX5_put_X5_isSheet : GoodIn wsX5_put wsX5_isSheet := goodIn_r _ [8] (by decide +kernel) (by decide +kernel)
set_option maxRecDepth 20000 in
theorem gX5_put_X5_isSheet : GoodIn wsX5_put (va_wsS RX5 129 yX5_isSheet wsX5_isSheet) := goodIn_app (goodIn_of _ (by decide +kernel)) ggX5_put_X5_isSheet
set_option maxRecDepth 20000 in
theorem ggX5_put_X5_finding : GoodIn wsX5_put wsX5_finding := goodIn_r _ [12, 13, 25, 26, 27, 28, 29, 30, 31] (by decide +kernel) (by decide +kernel)
set_option maxRecDepth 20000 in
theorem gX5_put_X5_finding : GoodIn wsX5_put (wsV RX5 48 RX5 yX5_finding wsX5_finding) := goodIn_app (goodIn_of _ (by decide +kernel)) ggX5_put_X5_finding
set_option maxRecDepth 20000 in
theorem ggX5_put_X4_isMissing : GoodIn wsX5_put wsX4_isMissing := goodIn_r _ [18, 19, 32, 33, 34] (by decide +kernel) (by decide +kernel)
set_option maxRecDepth 20000 in
theorem gX5_put_X4_isMissing : GoodIn wsX5_put (wsV RX5 142 RX4 yX4_isMissing wsX4_isMissing) := goodIn_app (goodIn_of _ (by decide +kernel)) ggX5_put_X4_isMissing
set_option maxRecDepth 20000 in
theorem ggX5_put_X4_write : GoodIn wsX5_put wsX4_write := goodIn_r _ [23, 24, 19, 32, 33, 34] (by decide +kernel) (by decide +kernel)
set_option maxRecDepth 20000 in
theorem gX5_put_X4_write : GoodIn wsX5_put (wsV RX5 147 RX4 yX4_write wsX4_write) := goodIn_app (goodIn_of _ (by decide +kernel)) ggX5_put_X4_write
theorem dX5_put_0 : decode cX5_put 0 = .ok (.iload_n 1, 1) := by decide +kernel
theorem dX5_put_1 : decode cX5_put 1 = .ok (.invokestatic 129, 3) := by decide +kernel
theorem dX5_put_4 : decode cX5_put 4 = .ok (.ifCond .ne 10, 3) := by decide +kernel
theorem dX5_put_7 : decode cX5_put 7 = .ok (.aload_n 0, 1) := by decide +kernel
theorem dX5_put_8 : decode cX5_put 8 = .ok (.ldc 47, 2) := by decide +kernel
theorem dX5_put_10 : decode cX5_put 10 = .ok (.invokevirtual 48, 3) := by decide +kernel
theorem dX5_put_13 : decode cX5_put 13 = .ok (.ireturn, 1) := by decide +kernel
theorem dX5_put_14 : decode cX5_put 14 = .ok (.aload_n 0, 1) := by decide +kernel
theorem dX5_put_15 : decode cX5_put 15 = .ok (.getfield 21, 3) := by decide +kernel
theorem dX5_put_18 : decode cX5_put 18 = .ok (.iload_n 1, 1) := by decide +kernel
theorem dX5_put_19 : decode cX5_put 19 = .ok (.aaload, 1) := by decide +kernel
theorem dX5_put_20 : decode cX5_put 20 = .ok (.invokevirtual 142, 3) := by decide +kernel
theorem dX5_put_23 : decode cX5_put 23 = .ok (.ifCond .eq 10, 3) := by decide +kernel
theorem dX5_put_26 : decode cX5_put 26 = .ok (.aload_n 0, 1) := by decide +kernel
theorem dX5_put_27 : decode cX5_put 27 = .ok (.ldc 146, 2) := by decide +kernel
theorem dX5_put_29 : decode cX5_put 29 = .ok (.invokevirtual 48, 3) := by decide +kernel
theorem dX5_put_32 : decode cX5_put 32 = .ok (.ireturn, 1) := by decide +kernel
theorem dX5_put_33 : decode cX5_put 33 = .ok (.iload_n 2, 1) := by decide +kernel
theorem dX5_put_34 : decode cX5_put 34 = .ok (.ifCond .lt 16, 3) := by decide +kernel
theorem dX5_put_37 : decode cX5_put 37 = .ok (.iload_n 2, 1) := by decide +kernel
theorem dX5_put_38 : decode cX5_put 38 = .ok (.aload_n 0, 1) := by decide +kernel
theorem dX5_put_39 : decode cX5_put 39 = .ok (.getfield 21, 3) := by decide +kernel
theorem dX5_put_42 : decode cX5_put 42 = .ok (.iload_n 1, 1) := by decide +kernel
theorem dX5_put_43 : decode cX5_put 43 = .ok (.aaload, 1) := by decide +kernel
theorem dX5_put_44 : decode cX5_put 44 = .ok (.getfield 139, 3) := by decide +kernel
theorem dX5_put_47 : decode cX5_put 47 = .ok (.if_icmp .lt 10, 3) := by decide +kernel
theorem dX5_put_50 : decode cX5_put 50 = .ok (.aload_n 0, 1) := by decide +kernel
theorem dX5_put_51 : decode cX5_put 51 = .ok (.ldc 47, 2) := by decide +kernel
theorem dX5_put_53 : decode cX5_put 53 = .ok (.invokevirtual 48, 3) := by decide +kernel
theorem dX5_put_56 : decode cX5_put 56 = .ok (.ireturn, 1) := by decide +kernel
theorem dX5_put_57 : decode cX5_put 57 = .ok (.aload_n 0, 1) := by decide +kernel
theorem dX5_put_58 : decode cX5_put 58 = .ok (.getfield 21, 3) := by decide +kernel
theorem dX5_put_61 : decode cX5_put 61 = .ok (.iload_n 1, 1) := by decide +kernel
theorem dX5_put_62 : decode cX5_put 62 = .ok (.aaload, 1) := by decide +kernel
theorem dX5_put_63 : decode cX5_put 63 = .ok (.iload_n 2, 1) := by decide +kernel
theorem dX5_put_64 : decode cX5_put 64 = .ok (.iload_n 3, 1) := by decide +kernel
theorem dX5_put_65 : decode cX5_put 65 = .ok (.invokevirtual 147, 3) := by decide +kernel
theorem dX5_put_68 : decode cX5_put 68 = .ok (.iconst 0, 1) := by decide +kernel
theorem dX5_put_69 : decode cX5_put 69 = .ok (.ireturn, 1) := by decide +kernel
set_option maxRecDepth 20000 in
theorem ggX5_copy_X5_isSheet : GoodIn wsX5_copy wsX5_isSheet := goodIn_r _ [14] (by decide +kernel) (by decide +kernel)
set_option maxRecDepth 20000 in
theorem gX5_copy_X5_isSheet : GoodIn wsX5_copy (va_wsS RX5 129 yX5_isSheet wsX5_isSheet) := goodIn_app (goodIn_of _ (by decide +kernel)) ggX5_copy_X5_isSheet
set_option maxRecDepth 20000 in
theorem ggX5_copy_X5_finding : GoodIn wsX5_copy wsX5_finding := goodIn_r _ [18, 19, 31, 32, 33, 34, 35, 36, 37] (by decide +kernel) (by decide +kernel)
set_option maxRecDepth 20000 in
theorem gX5_copy_X5_finding : GoodIn wsX5_copy (wsV RX5 48 RX5 yX5_finding wsX5_finding) := goodIn_app (goodIn_of _ (by decide +kernel)) ggX5_copy_X5_finding
set_option maxRecDepth 20000 in
theorem ggX5_copy_X4_isMissing : GoodIn wsX5_copy wsX4_isMissing := goodIn_r _ [24, 25, 38, 39, 40] (by decide +kernel) (by decide +kernel)
set_option maxRecDepth 20000 in
theorem gX5_copy_X4_isMissing : GoodIn wsX5_copy (wsV RX5 142 RX4 yX4_isMissing wsX4_isMissing) := goodIn_app (goodIn_of _ (by decide +kernel)) ggX5_copy_X4_isMissing
set_option maxRecDepth 20000 in
theorem ggX5_copy_X4_hasStretch : GoodIn wsX5_copy wsX4_hasStretch := goodIn_r _ [29, 30, 38, 39, 40] (by decide +kernel) (by decide +kernel)
set_option maxRecDepth 20000 in
theorem gX5_copy_X4_hasStretch : GoodIn wsX5_copy (wsV RX5 153 RX4 yX4_hasStretch wsX4_hasStretch) := goodIn_app (goodIn_of _ (by decide +kernel)) ggX5_copy_X4_hasStretch
theorem dX5_copy_0 : decode cX5_copy 0 = .ok (.iload_n 1, 1) := by decide +kernel
theorem dX5_copy_1 : decode cX5_copy 1 = .ok (.invokestatic 129, 3) := by decide +kernel
theorem dX5_copy_4 : decode cX5_copy 4 = .ok (.ifCond .eq 10, 3) := by decide +kernel
theorem dX5_copy_7 : decode cX5_copy 7 = .ok (.iload_n 3, 1) := by decide +kernel
theorem dX5_copy_8 : decode cX5_copy 8 = .ok (.invokestatic 129, 3) := by decide +kernel
theorem dX5_copy_11 : decode cX5_copy 11 = .ok (.ifCond .ne 10, 3) := by decide +kernel
theorem dX5_copy_14 : decode cX5_copy 14 = .ok (.aload_n 0, 1) := by decide +kernel
theorem dX5_copy_15 : decode cX5_copy 15 = .ok (.ldc 47, 2) := by decide +kernel
theorem dX5_copy_17 : decode cX5_copy 17 = .ok (.invokevirtual 48, 3) := by decide +kernel
theorem dX5_copy_20 : decode cX5_copy 20 = .ok (.ireturn, 1) := by decide +kernel
theorem dX5_copy_21 : decode cX5_copy 21 = .ok (.aload_n 0, 1) := by decide +kernel
theorem dX5_copy_22 : decode cX5_copy 22 = .ok (.getfield 21, 3) := by decide +kernel
theorem dX5_copy_25 : decode cX5_copy 25 = .ok (.iload_n 1, 1) := by decide +kernel
theorem dX5_copy_26 : decode cX5_copy 26 = .ok (.aaload, 1) := by decide +kernel
theorem dX5_copy_27 : decode cX5_copy 27 = .ok (.astore 6, 2) := by decide +kernel
theorem dX5_copy_29 : decode cX5_copy 29 = .ok (.aload_n 0, 1) := by decide +kernel
theorem dX5_copy_30 : decode cX5_copy 30 = .ok (.getfield 21, 3) := by decide +kernel
theorem dX5_copy_33 : decode cX5_copy 33 = .ok (.iload_n 3, 1) := by decide +kernel
theorem dX5_copy_34 : decode cX5_copy 34 = .ok (.aaload, 1) := by decide +kernel
theorem dX5_copy_35 : decode cX5_copy 35 = .ok (.astore 7, 2) := by decide +kernel
theorem dX5_copy_37 : decode cX5_copy 37 = .ok (.aload 6, 2) := by decide +kernel
theorem dX5_copy_39 : decode cX5_copy 39 = .ok (.invokevirtual 142, 3) := by decide +kernel
theorem dX5_copy_42 : decode cX5_copy 42 = .ok (.ifCond .ne 11, 3) := by decide +kernel
theorem dX5_copy_45 : decode cX5_copy 45 = .ok (.aload 7, 2) := by decide +kernel
theorem dX5_copy_47 : decode cX5_copy 47 = .ok (.invokevirtual 142, 3) := by decide +kernel
theorem dX5_copy_50 : decode cX5_copy 50 = .ok (.ifCond .eq 10, 3) := by decide +kernel
theorem dX5_copy_53 : decode cX5_copy 53 = .ok (.aload_n 0, 1) := by decide +kernel
theorem dX5_copy_54 : decode cX5_copy 54 = .ok (.ldc 146, 2) := by decide +kernel
theorem dX5_copy_56 : decode cX5_copy 56 = .ok (.invokevirtual 48, 3) := by decide +kernel
theorem dX5_copy_59 : decode cX5_copy 59 = .ok (.ireturn, 1) := by decide +kernel
theorem dX5_copy_60 : decode cX5_copy 60 = .ok (.aload 6, 2) := by decide +kernel
theorem dX5_copy_62 : decode cX5_copy 62 = .ok (.getfield 150, 3) := by decide +kernel
theorem dX5_copy_65 : decode cX5_copy 65 = .ok (.aload 7, 2) := by decide +kernel
theorem dX5_copy_67 : decode cX5_copy 67 = .ok (.getfield 150, 3) := by decide +kernel
theorem dX5_copy_70 : decode cX5_copy 70 = .ok (.if_icmp .eq 10, 3) := by decide +kernel
theorem dX5_copy_73 : decode cX5_copy 73 = .ok (.aload_n 0, 1) := by decide +kernel
theorem dX5_copy_74 : decode cX5_copy 74 = .ok (.ldc 73, 2) := by decide +kernel
theorem dX5_copy_76 : decode cX5_copy 76 = .ok (.invokevirtual 48, 3) := by decide +kernel
theorem dX5_copy_79 : decode cX5_copy 79 = .ok (.ireturn, 1) := by decide +kernel
theorem dX5_copy_80 : decode cX5_copy 80 = .ok (.aload 6, 2) := by decide +kernel
theorem dX5_copy_82 : decode cX5_copy 82 = .ok (.iload_n 2, 1) := by decide +kernel
theorem dX5_copy_83 : decode cX5_copy 83 = .ok (.iload 5, 2) := by decide +kernel
theorem dX5_copy_85 : decode cX5_copy 85 = .ok (.invokevirtual 153, 3) := by decide +kernel
theorem dX5_copy_88 : decode cX5_copy 88 = .ok (.ifCond .eq 15, 3) := by decide +kernel
theorem dX5_copy_91 : decode cX5_copy 91 = .ok (.aload 7, 2) := by decide +kernel
theorem dX5_copy_93 : decode cX5_copy 93 = .ok (.iload 4, 2) := by decide +kernel
theorem dX5_copy_95 : decode cX5_copy 95 = .ok (.iload 5, 2) := by decide +kernel
theorem dX5_copy_97 : decode cX5_copy 97 = .ok (.invokevirtual 153, 3) := by decide +kernel
theorem dX5_copy_100 : decode cX5_copy 100 = .ok (.ifCond .ne 10, 3) := by decide +kernel
theorem dX5_copy_103 : decode cX5_copy 103 = .ok (.aload_n 0, 1) := by decide +kernel
theorem dX5_copy_104 : decode cX5_copy 104 = .ok (.ldc 47, 2) := by decide +kernel
theorem dX5_copy_106 : decode cX5_copy 106 = .ok (.invokevirtual 48, 3) := by decide +kernel
theorem dX5_copy_109 : decode cX5_copy 109 = .ok (.ireturn, 1) := by decide +kernel
theorem dX5_copy_110 : decode cX5_copy 110 = .ok (.aload 6, 2) := by decide +kernel
theorem dX5_copy_112 : decode cX5_copy 112 = .ok (.getfield 156, 3) := by decide +kernel
theorem dX5_copy_115 : decode cX5_copy 115 = .ok (.iload_n 2, 1) := by decide +kernel
theorem dX5_copy_116 : decode cX5_copy 116 = .ok (.aload 7, 2) := by decide +kernel
theorem dX5_copy_118 : decode cX5_copy 118 = .ok (.getfield 156, 3) := by decide +kernel
theorem dX5_copy_121 : decode cX5_copy 121 = .ok (.iload 4, 2) := by decide +kernel
theorem dX5_copy_123 : decode cX5_copy 123 = .ok (.iload 5, 2) := by decide +kernel
theorem dX5_copy_125 : decode cX5_copy 125 = .ok (.invokestatic 160, 3) := by decide +kernel
theorem dX5_copy_128 : decode cX5_copy 128 = .ok (.iload 5, 2) := by decide +kernel
theorem dX5_copy_130 : decode cX5_copy 130 = .ok (.ireturn, 1) := by decide +kernel
set_option maxRecDepth 20000 in
theorem ggX5_read_X2_holds : GoodIn wsX5_read wsX2_holds := goodIn_r _ [11, 12, 48, 49, 50, 51, 52, 53, 54] (by decide +kernel) (by decide +kernel)
set_option maxRecDepth 20000 in
theorem gX5_read_X2_holds : GoodIn wsX5_read (wsV RX5 61 RX2 yX2_holds wsX2_holds) := goodIn_app (goodIn_of _ (by decide +kernel)) ggX5_read_X2_holds
set_option maxRecDepth 20000 in
theorem ggX5_read_X5_isSheet : GoodIn wsX5_read wsX5_isSheet := goodIn_r _ [16] (by decide +kernel) (by decide +kernel)
set_option maxRecDepth 20000 in
theorem gX5_read_X5_isSheet : GoodIn wsX5_read (va_wsS RX5 129 yX5_isSheet wsX5_isSheet) := goodIn_app (goodIn_of _ (by decide +kernel)) ggX5_read_X5_isSheet
set_option maxRecDepth 20000 in
theorem ggX5_read_X5_finding : GoodIn wsX5_read wsX5_finding := goodIn_r _ [20, 21, 41, 42, 43, 44, 45, 46, 47] (by decide +kernel) (by decide +kernel)
set_option maxRecDepth 20000 in
theorem gX5_read_X5_finding : GoodIn wsX5_read (wsV RX5 48 RX5 yX5_finding wsX5_finding) := goodIn_app (goodIn_of _ (by decide +kernel)) ggX5_read_X5_finding
set_option maxRecDepth 20000 in
theorem ggX5_read_X4_isMissing : GoodIn wsX5_read wsX4_isMissing := goodIn_r _ [26, 27, 64, 65, 66] (by decide +kernel) (by decide +kernel)
set_option maxRecDepth 20000 in
theorem gX5_read_X4_isMissing : GoodIn wsX5_read (wsV RX5 142 RX4 yX4_isMissing wsX4_isMissing) := goodIn_app (goodIn_of _ (by decide +kernel)) ggX5_read_X4_isMissing
set_option maxRecDepth 20000 in
theorem ggX5_read_X4_goodsReadInto : GoodIn wsX5_read wsX4_goodsReadInto := goodIn_r _ [31, 32, 33, 64, 65, 66] (by decide +kernel) (by decide +kernel)
set_option maxRecDepth 20000 in
theorem gX5_read_X4_goodsReadInto : GoodIn wsX5_read (wsV RX5 166 RX4 yX4_goodsReadInto wsX4_goodsReadInto) := goodIn_app (goodIn_of _ (by decide +kernel)) ggX5_read_X4_goodsReadInto
set_option maxRecDepth 20000 in
theorem ggX5_read_J6_bitCount_0f7a4 : GoodIn wsX5_read wsJ6_bitCount_0f7a4 := goodIn_r _ [37, 38, 39, 40] (by decide +kernel) (by decide +kernel)
set_option maxRecDepth 20000 in
theorem gX5_read_J6_bitCount_0f7a4 : GoodIn wsX5_read (va_wsS RX5 95 yJ6_bitCount_0f7a4 wsJ6_bitCount_0f7a4) := goodIn_app (goodIn_of _ (by decide +kernel)) ggX5_read_J6_bitCount_0f7a4
theorem dX5_read_0 : decode cX5_read 0 = .ok (.aload_n 0, 1) := by decide +kernel
theorem dX5_read_1 : decode cX5_read 1 = .ok (.getfield 12, 3) := by decide +kernel
theorem dX5_read_4 : decode cX5_read 4 = .ok (.iload_n 1, 1) := by decide +kernel
theorem dX5_read_5 : decode cX5_read 5 = .ok (.invokevirtual 61, 3) := by decide +kernel
theorem dX5_read_8 : decode cX5_read 8 = .ok (.ifCond .eq 10, 3) := by decide +kernel
theorem dX5_read_11 : decode cX5_read 11 = .ok (.iload_n 2, 1) := by decide +kernel
theorem dX5_read_12 : decode cX5_read 12 = .ok (.invokestatic 129, 3) := by decide +kernel
theorem dX5_read_15 : decode cX5_read 15 = .ok (.ifCond .ne 10, 3) := by decide +kernel
theorem dX5_read_18 : decode cX5_read 18 = .ok (.aload_n 0, 1) := by decide +kernel
theorem dX5_read_19 : decode cX5_read 19 = .ok (.ldc 47, 2) := by decide +kernel
theorem dX5_read_21 : decode cX5_read 21 = .ok (.invokevirtual 48, 3) := by decide +kernel
theorem dX5_read_24 : decode cX5_read 24 = .ok (.ireturn, 1) := by decide +kernel
theorem dX5_read_25 : decode cX5_read 25 = .ok (.aload_n 0, 1) := by decide +kernel
theorem dX5_read_26 : decode cX5_read 26 = .ok (.getfield 21, 3) := by decide +kernel
theorem dX5_read_29 : decode cX5_read 29 = .ok (.iload_n 2, 1) := by decide +kernel
theorem dX5_read_30 : decode cX5_read 30 = .ok (.aaload, 1) := by decide +kernel
theorem dX5_read_31 : decode cX5_read 31 = .ok (.invokevirtual 142, 3) := by decide +kernel
theorem dX5_read_34 : decode cX5_read 34 = .ok (.ifCond .eq 10, 3) := by decide +kernel
theorem dX5_read_37 : decode cX5_read 37 = .ok (.aload_n 0, 1) := by decide +kernel
theorem dX5_read_38 : decode cX5_read 38 = .ok (.ldc 146, 2) := by decide +kernel
theorem dX5_read_40 : decode cX5_read 40 = .ok (.invokevirtual 48, 3) := by decide +kernel
theorem dX5_read_43 : decode cX5_read 43 = .ok (.ireturn, 1) := by decide +kernel
theorem dX5_read_44 : decode cX5_read 44 = .ok (.aload_n 0, 1) := by decide +kernel
theorem dX5_read_45 : decode cX5_read 45 = .ok (.getfield 12, 3) := by decide +kernel
theorem dX5_read_48 : decode cX5_read 48 = .ok (.getfield 64, 3) := by decide +kernel
theorem dX5_read_51 : decode cX5_read 51 = .ok (.iload_n 1, 1) := by decide +kernel
theorem dX5_read_52 : decode cX5_read 52 = .ok (.aaload, 1) := by decide +kernel
theorem dX5_read_53 : decode cX5_read 53 = .ok (.astore_n 3, 1) := by decide +kernel
theorem dX5_read_54 : decode cX5_read 54 = .ok (.aload_n 3, 1) := by decide +kernel
theorem dX5_read_55 : decode cX5_read 55 = .ok (.aload_n 0, 1) := by decide +kernel
theorem dX5_read_56 : decode cX5_read 56 = .ok (.getfield 21, 3) := by decide +kernel
theorem dX5_read_59 : decode cX5_read 59 = .ok (.iload_n 2, 1) := by decide +kernel
theorem dX5_read_60 : decode cX5_read 60 = .ok (.aaload, 1) := by decide +kernel
theorem dX5_read_61 : decode cX5_read 61 = .ok (.aload_n 3, 1) := by decide +kernel
theorem dX5_read_62 : decode cX5_read 62 = .ok (.getfield 74, 3) := by decide +kernel
theorem dX5_read_65 : decode cX5_read 65 = .ok (.invokevirtual 166, 3) := by decide +kernel
theorem dX5_read_68 : decode cX5_read 68 = .ok (.putfield 74, 3) := by decide +kernel
theorem dX5_read_71 : decode cX5_read 71 = .ok (.aload_n 3, 1) := by decide +kernel
theorem dX5_read_72 : decode cX5_read 72 = .ok (.getfield 74, 3) := by decide +kernel
theorem dX5_read_75 : decode cX5_read 75 = .ok (.invokestatic 95, 3) := by decide +kernel
theorem dX5_read_78 : decode cX5_read 78 = .ok (.ireturn, 1) := by decide +kernel
set_option maxRecDepth 20000 in
theorem ggX5_order_X5_orderHindrance : GoodIn wsX5_order wsX5_orderHindrance := goodIn_r _ [7, 2, 8, 9, 10, 91, 92, 93, 94, 95, 96, 97, 98, 99, 100, 101, 102, 103, 104] (by decide +kernel) (by decide +kernel)
set_option maxRecDepth 20000 in
theorem gX5_order_X5_orderHindrance : GoodIn wsX5_order (wsV RX5 169 RX5 yX5_orderHindrance wsX5_orderHindrance) := goodIn_app (goodIn_of _ (by decide +kernel)) ggX5_order_X5_orderHindrance
set_option maxRecDepth 20000 in
theorem ggX5_order_X5_finding : GoodIn wsX5_order wsX5_finding := goodIn_r _ [14, 15, 91, 92, 93, 94, 95, 96, 97] (by decide +kernel) (by decide +kernel)
set_option maxRecDepth 20000 in
theorem gX5_order_X5_finding : GoodIn wsX5_order (wsV RX5 48 RX5 yX5_finding wsX5_finding) := goodIn_app (goodIn_of _ (by decide +kernel)) ggX5_order_X5_finding
set_option maxRecDepth 20000 in
theorem ggX5_order_X3_solve : GoodIn wsX5_order wsX3_solve := goodIn_r _ [20, 21, 22, 23, 19, 24, 25, 26, 27, 28, 29, 30, 31, 32, 33, 34, 35, 36, 37, 38, 39, 40, 41, 42, 43, 44, 45, 46, 47, 48, 49, 50, 51, 52, 53, 54, 55, 56, 57, 58, 59, 60, 61, 62, 63, 64, 65, 66, 67, 68, 69, 6, 70, 71, 72, 73, 74, 75, 76, 77, 78, 79, 80, 81, 82, 83, 84, 85, 86, 105, 106, 107, 108, 109, 110, 111, 112, 98, 99, 100, 101, 102, 103, 104, 113, 114, 115, 116, 117, 118, 119, 120, 121] (by decide +kernel) (by decide +kernel)
set_option maxRecDepth 20000 in
theorem gX5_order_X3_solve : GoodIn wsX5_order (wsV RX5 173 RX3 yX3_solve wsX3_solve) := goodIn_app (goodIn_of _ (by decide +kernel)) ggX5_order_X3_solve
set_option maxRecDepth 20000 in
theorem ggX5_order_X3_leastCost : GoodIn wsX5_order wsX3_leastCost := goodIn_r _ [90, 58, 105, 106, 107, 108, 109, 110, 111, 112] (by decide +kernel) (by decide +kernel)
set_option maxRecDepth 20000 in
theorem gX5_order_X3_leastCost : GoodIn wsX5_order (wsV RX5 177 RX3 yX3_leastCost wsX3_leastCost) := goodIn_app (goodIn_of _ (by decide +kernel)) ggX5_order_X3_leastCost
theorem dX5_order_0 : decode cX5_order 0 = .ok (.aload_n 0, 1) := by decide +kernel
theorem dX5_order_1 : decode cX5_order 1 = .ok (.invokevirtual 169, 3) := by decide +kernel
theorem dX5_order_4 : decode cX5_order 4 = .ok (.istore_n 1, 1) := by decide +kernel
theorem dX5_order_5 : decode cX5_order 5 = .ok (.iload_n 1, 1) := by decide +kernel
theorem dX5_order_6 : decode cX5_order 6 = .ok (.ifCond .eq 9, 3) := by decide +kernel
theorem dX5_order_9 : decode cX5_order 9 = .ok (.aload_n 0, 1) := by decide +kernel
theorem dX5_order_10 : decode cX5_order 10 = .ok (.iload_n 1, 1) := by decide +kernel
theorem dX5_order_11 : decode cX5_order 11 = .ok (.invokevirtual 48, 3) := by decide +kernel
theorem dX5_order_14 : decode cX5_order 14 = .ok (.ireturn, 1) := by decide +kernel
theorem dX5_order_15 : decode cX5_order 15 = .ok (.aload_n 0, 1) := by decide +kernel
theorem dX5_order_16 : decode cX5_order 16 = .ok (.getfield 29, 3) := by decide +kernel
theorem dX5_order_19 : decode cX5_order 19 = .ok (.aload_n 0, 1) := by decide +kernel
theorem dX5_order_20 : decode cX5_order 20 = .ok (.getfield 12, 3) := by decide +kernel
theorem dX5_order_23 : decode cX5_order 23 = .ok (.sipush 4095, 3) := by decide +kernel
theorem dX5_order_26 : decode cX5_order 26 = .ok (.invokevirtual 173, 3) := by decide +kernel
theorem dX5_order_29 : decode cX5_order 29 = .ok (.aload_n 0, 1) := by decide +kernel
theorem dX5_order_30 : decode cX5_order 30 = .ok (.getfield 29, 3) := by decide +kernel
theorem dX5_order_33 : decode cX5_order 33 = .ok (.invokevirtual 177, 3) := by decide +kernel
theorem dX5_order_36 : decode cX5_order 36 = .ok (.ireturn, 1) := by decide +kernel
set_option maxRecDepth 20000 in
theorem ggX5_at_X5_orderHindrance : GoodIn wsX5_at wsX5_orderHindrance := goodIn_r _ [10, 1, 2, 11, 12, 89, 90, 91, 92, 93, 94, 95, 96, 97, 98, 99, 100, 101, 102] (by decide +kernel) (by decide +kernel)
set_option maxRecDepth 20000 in
theorem gX5_at_X5_orderHindrance : GoodIn wsX5_at (wsV RX5 169 RX5 yX5_orderHindrance wsX5_orderHindrance) := goodIn_app (goodIn_of _ (by decide +kernel)) ggX5_at_X5_orderHindrance
set_option maxRecDepth 20000 in
theorem ggX5_at_X5_finding : GoodIn wsX5_at wsX5_finding := goodIn_r _ [16, 17, 89, 90, 91, 92, 93, 94, 95] (by decide +kernel) (by decide +kernel)
set_option maxRecDepth 20000 in
theorem gX5_at_X5_finding : GoodIn wsX5_at (wsV RX5 48 RX5 yX5_finding wsX5_finding) := goodIn_app (goodIn_of _ (by decide +kernel)) ggX5_at_X5_finding
set_option maxRecDepth 20000 in
theorem ggX5_at_X3_solve : GoodIn wsX5_at wsX3_solve := goodIn_r _ [22, 23, 24, 25, 21, 26, 27, 28, 29, 30, 31, 32, 33, 34, 35, 36, 37, 38, 39, 40, 41, 42, 43, 44, 45, 46, 47, 48, 49, 50, 51, 52, 53, 54, 55, 56, 57, 58, 59, 60, 61, 62, 63, 64, 65, 66, 67, 68, 69, 70, 71, 9, 72, 73, 74, 75, 76, 77, 78, 79, 80, 81, 82, 83, 84, 85, 86, 87, 88, 103, 104, 105, 106, 107, 108, 109, 110, 96, 97, 98, 99, 100, 101, 102, 111, 112, 113, 114, 115, 116, 117, 118, 119] (by decide +kernel) (by decide +kernel)
set_option maxRecDepth 20000 in
theorem gX5_at_X3_solve : GoodIn wsX5_at (wsV RX5 173 RX3 yX3_solve wsX3_solve) := goodIn_app (goodIn_of _ (by decide +kernel)) ggX5_at_X3_solve
theorem dX5_at_0 : decode cX5_at 0 = .ok (.aload_n 0, 1) := by decide +kernel
theorem dX5_at_1 : decode cX5_at 1 = .ok (.invokevirtual 169, 3) := by decide +kernel
theorem dX5_at_4 : decode cX5_at 4 = .ok (.istore_n 2, 1) := by decide +kernel
theorem dX5_at_5 : decode cX5_at 5 = .ok (.iload_n 2, 1) := by decide +kernel
theorem dX5_at_6 : decode cX5_at 6 = .ok (.ifCond .eq 9, 3) := by decide +kernel
theorem dX5_at_9 : decode cX5_at 9 = .ok (.aload_n 0, 1) := by decide +kernel
theorem dX5_at_10 : decode cX5_at 10 = .ok (.iload_n 2, 1) := by decide +kernel
theorem dX5_at_11 : decode cX5_at 11 = .ok (.invokevirtual 48, 3) := by decide +kernel
theorem dX5_at_14 : decode cX5_at 14 = .ok (.ireturn, 1) := by decide +kernel
theorem dX5_at_15 : decode cX5_at 15 = .ok (.iload_n 1, 1) := by decide +kernel
theorem dX5_at_16 : decode cX5_at 16 = .ok (.ifCond .lt 14, 3) := by decide +kernel
theorem dX5_at_19 : decode cX5_at 19 = .ok (.iload_n 1, 1) := by decide +kernel
theorem dX5_at_20 : decode cX5_at 20 = .ok (.aload_n 0, 1) := by decide +kernel
theorem dX5_at_21 : decode cX5_at 21 = .ok (.getfield 12, 3) := by decide +kernel
theorem dX5_at_24 : decode cX5_at 24 = .ok (.getfield 52, 3) := by decide +kernel
theorem dX5_at_27 : decode cX5_at 27 = .ok (.if_icmp .lt 10, 3) := by decide +kernel
theorem dX5_at_30 : decode cX5_at 30 = .ok (.aload_n 0, 1) := by decide +kernel
theorem dX5_at_31 : decode cX5_at 31 = .ok (.ldc 47, 2) := by decide +kernel
theorem dX5_at_33 : decode cX5_at 33 = .ok (.invokevirtual 48, 3) := by decide +kernel
theorem dX5_at_36 : decode cX5_at 36 = .ok (.ireturn, 1) := by decide +kernel
theorem dX5_at_37 : decode cX5_at 37 = .ok (.aload_n 0, 1) := by decide +kernel
theorem dX5_at_38 : decode cX5_at 38 = .ok (.getfield 29, 3) := by decide +kernel
theorem dX5_at_41 : decode cX5_at 41 = .ok (.aload_n 0, 1) := by decide +kernel
theorem dX5_at_42 : decode cX5_at 42 = .ok (.getfield 12, 3) := by decide +kernel
theorem dX5_at_45 : decode cX5_at 45 = .ok (.sipush 4095, 3) := by decide +kernel
theorem dX5_at_48 : decode cX5_at 48 = .ok (.invokevirtual 173, 3) := by decide +kernel
theorem dX5_at_51 : decode cX5_at 51 = .ok (.aload_n 0, 1) := by decide +kernel
theorem dX5_at_52 : decode cX5_at 52 = .ok (.getfield 29, 3) := by decide +kernel
theorem dX5_at_55 : decode cX5_at 55 = .ok (.getfield 180, 3) := by decide +kernel
theorem dX5_at_58 : decode cX5_at 58 = .ok (.iload_n 1, 1) := by decide +kernel
theorem dX5_at_59 : decode cX5_at 59 = .ok (.iaload, 1) := by decide +kernel
theorem dX5_at_60 : decode cX5_at 60 = .ok (.ireturn, 1) := by decide +kernel
set_option maxRecDepth 20000 in
theorem ggX5_holes_X5_isGood : GoodIn wsX5_holes wsX5_isGood := goodIn_r _ [7] (by decide +kernel) (by decide +kernel)
set_option maxRecDepth 20000 in
theorem gX5_holes_X5_isGood : GoodIn wsX5_holes (va_wsS RX5 183 yX5_isGood wsX5_isGood) := goodIn_app (goodIn_of _ (by decide +kernel)) ggX5_holes_X5_isGood
set_option maxRecDepth 20000 in
theorem ggX5_holes_X5_finding : GoodIn wsX5_holes wsX5_finding := goodIn_r _ [11, 12, 103, 104, 105, 106, 107, 108, 109] (by decide +kernel) (by decide +kernel)
set_option maxRecDepth 20000 in
theorem gX5_holes_X5_finding : GoodIn wsX5_holes (wsV RX5 48 RX5 yX5_finding wsX5_finding) := goodIn_app (goodIn_of _ (by decide +kernel)) ggX5_holes_X5_finding
set_option maxRecDepth 20000 in
theorem ggX5_holes_X5_orderHindrance : GoodIn wsX5_holes wsX5_orderHindrance := goodIn_r _ [16, 3, 17, 18, 19, 103, 104, 105, 106, 107, 108, 109, 110, 111, 112, 113, 114, 115, 116] (by decide +kernel) (by decide +kernel)
set_option maxRecDepth 20000 in
theorem gX5_holes_X5_orderHindrance : GoodIn wsX5_holes (wsV RX5 169 RX5 yX5_orderHindrance wsX5_orderHindrance) := goodIn_app (goodIn_of _ (by decide +kernel)) ggX5_holes_X5_orderHindrance
set_option maxRecDepth 20000 in
theorem ggX5_holes_X3_solve : GoodIn wsX5_holes wsX3_solve := goodIn_r _ [24, 25, 26, 27, 23, 28, 29, 30, 31, 32, 33, 34, 35, 36, 37, 38, 39, 40, 41, 42, 43, 44, 45, 46, 47, 48, 49, 50, 51, 52, 53, 54, 55, 56, 57, 58, 59, 60, 61, 62, 63, 64, 65, 66, 67, 68, 69, 70, 71, 72, 73, 6, 74, 75, 76, 77, 78, 79, 80, 81, 82, 83, 84, 85, 86, 87, 88, 89, 90, 117, 118, 119, 120, 121, 122, 123, 124, 110, 111, 112, 113, 114, 115, 116, 125, 126, 127, 128, 129, 130, 131, 132, 133] (by decide +kernel) (by decide +kernel)
set_option maxRecDepth 20000 in
theorem gX5_holes_X3_solve : GoodIn wsX5_holes (wsV RX5 173 RX3 yX3_solve wsX3_solve) := goodIn_app (goodIn_of _ (by decide +kernel)) ggX5_holes_X3_solve
set_option maxRecDepth 20000 in
theorem ggX5_holes_X3_holesOf : GoodIn wsX5_holes wsX3_holesOf := goodIn_r _ [94, 38, 90, 95, 96, 97, 23, 98, 29, 37, 73, 6, 74, 99, 100, 101, 102, 117, 118, 119, 120, 121, 122, 123, 124] (by decide +kernel) (by decide +kernel)
set_option maxRecDepth 20000 in
theorem gX5_holes_X3_holesOf : GoodIn wsX5_holes (wsV RX5 186 RX3 yX3_holesOf wsX3_holesOf) := goodIn_app (goodIn_of _ (by decide +kernel)) ggX5_holes_X3_holesOf
theorem dX5_holes_0 : decode cX5_holes 0 = .ok (.iload_n 1, 1) := by decide +kernel
theorem dX5_holes_1 : decode cX5_holes 1 = .ok (.invokestatic 183, 3) := by decide +kernel
theorem dX5_holes_4 : decode cX5_holes 4 = .ok (.ifCond .ne 10, 3) := by decide +kernel
theorem dX5_holes_7 : decode cX5_holes 7 = .ok (.aload_n 0, 1) := by decide +kernel
theorem dX5_holes_8 : decode cX5_holes 8 = .ok (.ldc 47, 2) := by decide +kernel
theorem dX5_holes_10 : decode cX5_holes 10 = .ok (.invokevirtual 48, 3) := by decide +kernel
theorem dX5_holes_13 : decode cX5_holes 13 = .ok (.ireturn, 1) := by decide +kernel
theorem dX5_holes_14 : decode cX5_holes 14 = .ok (.aload_n 0, 1) := by decide +kernel
theorem dX5_holes_15 : decode cX5_holes 15 = .ok (.invokevirtual 169, 3) := by decide +kernel
theorem dX5_holes_18 : decode cX5_holes 18 = .ok (.istore_n 2, 1) := by decide +kernel
theorem dX5_holes_19 : decode cX5_holes 19 = .ok (.iload_n 2, 1) := by decide +kernel
theorem dX5_holes_20 : decode cX5_holes 20 = .ok (.ifCond .eq 9, 3) := by decide +kernel
theorem dX5_holes_23 : decode cX5_holes 23 = .ok (.aload_n 0, 1) := by decide +kernel
theorem dX5_holes_24 : decode cX5_holes 24 = .ok (.iload_n 2, 1) := by decide +kernel
theorem dX5_holes_25 : decode cX5_holes 25 = .ok (.invokevirtual 48, 3) := by decide +kernel
theorem dX5_holes_28 : decode cX5_holes 28 = .ok (.ireturn, 1) := by decide +kernel
theorem dX5_holes_29 : decode cX5_holes 29 = .ok (.aload_n 0, 1) := by decide +kernel
theorem dX5_holes_30 : decode cX5_holes 30 = .ok (.getfield 29, 3) := by decide +kernel
theorem dX5_holes_33 : decode cX5_holes 33 = .ok (.aload_n 0, 1) := by decide +kernel
theorem dX5_holes_34 : decode cX5_holes 34 = .ok (.getfield 12, 3) := by decide +kernel
theorem dX5_holes_37 : decode cX5_holes 37 = .ok (.sipush 4095, 3) := by decide +kernel
theorem dX5_holes_40 : decode cX5_holes 40 = .ok (.invokevirtual 173, 3) := by decide +kernel
theorem dX5_holes_43 : decode cX5_holes 43 = .ok (.aload_n 0, 1) := by decide +kernel
theorem dX5_holes_44 : decode cX5_holes 44 = .ok (.getfield 29, 3) := by decide +kernel
theorem dX5_holes_47 : decode cX5_holes 47 = .ok (.iload_n 1, 1) := by decide +kernel
theorem dX5_holes_48 : decode cX5_holes 48 = .ok (.invokevirtual 186, 3) := by decide +kernel
theorem dX5_holes_51 : decode cX5_holes 51 = .ok (.ireturn, 1) := by decide +kernel
set_option maxRecDepth 20000 in
theorem ggX5_good_X5_isGood : GoodIn wsX5_good wsX5_isGood := goodIn_r _ [8] (by decide +kernel) (by decide +kernel)
set_option maxRecDepth 20000 in
theorem gX5_good_X5_isGood : GoodIn wsX5_good (va_wsS RX5 183 yX5_isGood wsX5_isGood) := goodIn_app (goodIn_of _ (by decide +kernel)) ggX5_good_X5_isGood
set_option maxRecDepth 20000 in
theorem ggX5_good_X5_finding : GoodIn wsX5_good wsX5_finding := goodIn_r _ [12, 13, 107, 108, 109, 110, 111, 112, 113] (by decide +kernel) (by decide +kernel)
set_option maxRecDepth 20000 in
theorem gX5_good_X5_finding : GoodIn wsX5_good (wsV RX5 48 RX5 yX5_finding wsX5_finding) := goodIn_app (goodIn_of _ (by decide +kernel)) ggX5_good_X5_finding
set_option maxRecDepth 20000 in
theorem ggX5_good_X2_havers : GoodIn wsX5_good wsX2_havers := goodIn_r _ [18, 19, 20, 21, 22, 7, 23, 114, 115, 116, 117, 118, 119, 120, 121, 122, 123, 124, 125, 126, 127, 128, 129] (by decide +kernel) (by decide +kernel)
set_option maxRecDepth 20000 in
theorem gX5_good_X2_havers : GoodIn wsX5_good (wsV RX5 189 RX2 yX2_havers wsX2_havers) := goodIn_app (goodIn_of _ (by decide +kernel)) ggX5_good_X2_havers
set_option maxRecDepth 20000 in
theorem ggX5_good_X5_orderHindrance : GoodIn wsX5_good wsX5_orderHindrance := goodIn_r _ [27, 2, 28, 3, 29, 107, 108, 109, 110, 111, 112, 113, 114, 115, 116, 117, 118, 119, 120] (by decide +kernel) (by decide +kernel)
set_option maxRecDepth 20000 in
theorem gX5_good_X5_orderHindrance : GoodIn wsX5_good (wsV RX5 169 RX5 yX5_orderHindrance wsX5_orderHindrance) := goodIn_app (goodIn_of _ (by decide +kernel)) ggX5_good_X5_orderHindrance
set_option maxRecDepth 20000 in
theorem ggX5_good_X3_solve : GoodIn wsX5_good wsX3_solve := goodIn_r _ [34, 35, 36, 37, 33, 38, 39, 40, 41, 42, 43, 44, 45, 46, 47, 48, 49, 50, 51, 52, 53, 54, 55, 56, 57, 58, 59, 60, 61, 62, 63, 64, 65, 66, 67, 68, 69, 70, 71, 72, 73, 74, 75, 76, 77, 78, 79, 80, 81, 82, 22, 7, 23, 83, 84, 85, 86, 87, 88, 89, 90, 91, 92, 93, 94, 95, 96, 97, 98, 130, 131, 132, 133, 134, 135, 136, 137, 114, 115, 116, 117, 118, 119, 120, 121, 122, 123, 124, 125, 126, 127, 128, 129] (by decide +kernel) (by decide +kernel)
set_option maxRecDepth 20000 in
theorem gX5_good_X3_solve : GoodIn wsX5_good (wsV RX5 173 RX3 yX3_solve wsX3_solve) := goodIn_app (goodIn_of _ (by decide +kernel)) ggX5_good_X3_solve
set_option maxRecDepth 20000 in
theorem ggX5_good_X3_lastPlaceOf : GoodIn wsX5_good wsX3_lastPlaceOf := goodIn_r _ [102, 39, 47, 98, 22, 7, 23, 130, 131, 132, 133, 134, 135, 136, 137] (by decide +kernel) (by decide +kernel)
set_option maxRecDepth 20000 in
theorem gX5_good_X3_lastPlaceOf : GoodIn wsX5_good (wsV RX5 192 RX3 yX3_lastPlaceOf wsX3_lastPlaceOf) := goodIn_app (goodIn_of _ (by decide +kernel)) ggX5_good_X3_lastPlaceOf
set_option maxRecDepth 20000 in
theorem ggX5_good_X3_firstPlaceOf : GoodIn wsX5_good wsX3_firstPlaceOf := goodIn_r _ [106, 39, 47, 98, 22, 7, 23, 130, 131, 132, 133, 134, 135, 136, 137] (by decide +kernel) (by decide +kernel)
set_option maxRecDepth 20000 in
theorem gX5_good_X3_firstPlaceOf : GoodIn wsX5_good (wsV RX5 195 RX3 yX3_firstPlaceOf wsX3_firstPlaceOf) := goodIn_app (goodIn_of _ (by decide +kernel)) ggX5_good_X3_firstPlaceOf
theorem dX5_good_0 : decode cX5_good 0 = .ok (.iload_n 1, 1) := by decide +kernel
theorem dX5_good_1 : decode cX5_good 1 = .ok (.invokestatic 183, 3) := by decide +kernel
theorem dX5_good_4 : decode cX5_good 4 = .ok (.ifCond .ne 10, 3) := by decide +kernel
theorem dX5_good_7 : decode cX5_good 7 = .ok (.aload_n 0, 1) := by decide +kernel
theorem dX5_good_8 : decode cX5_good 8 = .ok (.ldc 47, 2) := by decide +kernel
theorem dX5_good_10 : decode cX5_good 10 = .ok (.invokevirtual 48, 3) := by decide +kernel
theorem dX5_good_13 : decode cX5_good 13 = .ok (.ireturn, 1) := by decide +kernel
theorem dX5_good_14 : decode cX5_good 14 = .ok (.aload_n 0, 1) := by decide +kernel
theorem dX5_good_15 : decode cX5_good 15 = .ok (.getfield 12, 3) := by decide +kernel
theorem dX5_good_18 : decode cX5_good 18 = .ok (.iload_n 1, 1) := by decide +kernel
theorem dX5_good_19 : decode cX5_good 19 = .ok (.invokevirtual 189, 3) := by decide +kernel
theorem dX5_good_22 : decode cX5_good 22 = .ok (.ifCond .ne 10, 3) := by decide +kernel
theorem dX5_good_25 : decode cX5_good 25 = .ok (.aload_n 0, 1) := by decide +kernel
theorem dX5_good_26 : decode cX5_good 26 = .ok (.ldc 125, 2) := by decide +kernel
theorem dX5_good_28 : decode cX5_good 28 = .ok (.invokevirtual 48, 3) := by decide +kernel
theorem dX5_good_31 : decode cX5_good 31 = .ok (.ireturn, 1) := by decide +kernel
theorem dX5_good_32 : decode cX5_good 32 = .ok (.aload_n 0, 1) := by decide +kernel
theorem dX5_good_33 : decode cX5_good 33 = .ok (.invokevirtual 169, 3) := by decide +kernel
theorem dX5_good_36 : decode cX5_good 36 = .ok (.istore_n 3, 1) := by decide +kernel
theorem dX5_good_37 : decode cX5_good 37 = .ok (.iload_n 3, 1) := by decide +kernel
theorem dX5_good_38 : decode cX5_good 38 = .ok (.ifCond .eq 9, 3) := by decide +kernel
theorem dX5_good_41 : decode cX5_good 41 = .ok (.aload_n 0, 1) := by decide +kernel
theorem dX5_good_42 : decode cX5_good 42 = .ok (.iload_n 3, 1) := by decide +kernel
theorem dX5_good_43 : decode cX5_good 43 = .ok (.invokevirtual 48, 3) := by decide +kernel
theorem dX5_good_46 : decode cX5_good 46 = .ok (.ireturn, 1) := by decide +kernel
theorem dX5_good_47 : decode cX5_good 47 = .ok (.aload_n 0, 1) := by decide +kernel
theorem dX5_good_48 : decode cX5_good 48 = .ok (.getfield 29, 3) := by decide +kernel
theorem dX5_good_51 : decode cX5_good 51 = .ok (.aload_n 0, 1) := by decide +kernel
theorem dX5_good_52 : decode cX5_good 52 = .ok (.getfield 12, 3) := by decide +kernel
theorem dX5_good_55 : decode cX5_good 55 = .ok (.sipush 4095, 3) := by decide +kernel
theorem dX5_good_58 : decode cX5_good 58 = .ok (.invokevirtual 173, 3) := by decide +kernel
theorem dX5_good_61 : decode cX5_good 61 = .ok (.iload_n 2, 1) := by decide +kernel
theorem dX5_good_62 : decode cX5_good 62 = .ok (.ifCond .eq 14, 3) := by decide +kernel
theorem dX5_good_65 : decode cX5_good 65 = .ok (.aload_n 0, 1) := by decide +kernel
theorem dX5_good_66 : decode cX5_good 66 = .ok (.getfield 29, 3) := by decide +kernel
theorem dX5_good_69 : decode cX5_good 69 = .ok (.iload_n 1, 1) := by decide +kernel
theorem dX5_good_70 : decode cX5_good 70 = .ok (.invokevirtual 192, 3) := by decide +kernel
theorem dX5_good_73 : decode cX5_good 73 = .ok (.goto 11, 3) := by decide +kernel
theorem dX5_good_76 : decode cX5_good 76 = .ok (.aload_n 0, 1) := by decide +kernel
theorem dX5_good_77 : decode cX5_good 77 = .ok (.getfield 29, 3) := by decide +kernel
theorem dX5_good_80 : decode cX5_good 80 = .ok (.iload_n 1, 1) := by decide +kernel
theorem dX5_good_81 : decode cX5_good 81 = .ok (.invokevirtual 195, 3) := by decide +kernel
theorem dX5_good_84 : decode cX5_good 84 = .ok (.ireturn, 1) := by decide +kernel
set_option maxRecDepth 20000 in
theorem ggX5_tell_X5_finding : GoodIn wsX5_tell wsX5_finding := goodIn_r _ [9, 10, 11, 12, 13, 14, 15, 16, 17] (by decide +kernel) (by decide +kernel)
set_option maxRecDepth 20000 in
theorem gX5_tell_X5_finding : GoodIn wsX5_tell (wsV RX5 48 RX5 yX5_finding wsX5_finding) := goodIn_app (goodIn_of _ (by decide +kernel)) ggX5_tell_X5_finding
theorem dX5_tell_0 : decode cX5_tell 0 = .ok (.aload_n 0, 1) := by decide +kernel
theorem dX5_tell_1 : decode cX5_tell 1 = .ok (.getfield 12, 3) := by decide +kernel
theorem dX5_tell_4 : decode cX5_tell 4 = .ok (.getfield 198, 3) := by decide +kernel
theorem dX5_tell_7 : decode cX5_tell 7 = .ok (.bipush 12, 2) := by decide +kernel
theorem dX5_tell_9 : decode cX5_tell 9 = .ok (.if_icmp .lt 10, 3) := by decide +kernel
theorem dX5_tell_12 : decode cX5_tell 12 = .ok (.aload_n 0, 1) := by decide +kernel
theorem dX5_tell_13 : decode cX5_tell 13 = .ok (.ldc 56, 2) := by decide +kernel
theorem dX5_tell_15 : decode cX5_tell 15 = .ok (.invokevirtual 48, 3) := by decide +kernel
theorem dX5_tell_18 : decode cX5_tell 18 = .ok (.ireturn, 1) := by decide +kernel
theorem dX5_tell_19 : decode cX5_tell 19 = .ok (.aload_n 0, 1) := by decide +kernel
theorem dX5_tell_20 : decode cX5_tell 20 = .ok (.getfield 12, 3) := by decide +kernel
theorem dX5_tell_23 : decode cX5_tell 23 = .ok (.getfield 201, 3) := by decide +kernel
theorem dX5_tell_26 : decode cX5_tell 26 = .ok (.aload_n 0, 1) := by decide +kernel
theorem dX5_tell_27 : decode cX5_tell 27 = .ok (.getfield 12, 3) := by decide +kernel
theorem dX5_tell_30 : decode cX5_tell 30 = .ok (.getfield 198, 3) := by decide +kernel
theorem dX5_tell_33 : decode cX5_tell 33 = .ok (.iload_n 1, 1) := by decide +kernel
theorem dX5_tell_34 : decode cX5_tell 34 = .ok (.iastore, 1) := by decide +kernel
theorem dX5_tell_35 : decode cX5_tell 35 = .ok (.aload_n 0, 1) := by decide +kernel
theorem dX5_tell_36 : decode cX5_tell 36 = .ok (.getfield 12, 3) := by decide +kernel
theorem dX5_tell_39 : decode cX5_tell 39 = .ok (.dup, 1) := by decide +kernel
theorem dX5_tell_40 : decode cX5_tell 40 = .ok (.getfield 198, 3) := by decide +kernel
theorem dX5_tell_43 : decode cX5_tell 43 = .ok (.iconst 1, 1) := by decide +kernel
theorem dX5_tell_44 : decode cX5_tell 44 = .ok (.iadd, 1) := by decide +kernel
theorem dX5_tell_45 : decode cX5_tell 45 = .ok (.putfield 198, 3) := by decide +kernel
theorem dX5_tell_48 : decode cX5_tell 48 = .ok (.aload_n 0, 1) := by decide +kernel
theorem dX5_tell_49 : decode cX5_tell 49 = .ok (.getfield 12, 3) := by decide +kernel
theorem dX5_tell_52 : decode cX5_tell 52 = .ok (.getfield 198, 3) := by decide +kernel
theorem dX5_tell_55 : decode cX5_tell 55 = .ok (.ireturn, 1) := by decide +kernel
set_option maxRecDepth 20000 in
theorem ggX5_check_X5_finding : GoodIn wsX5_check wsX5_finding := goodIn_r _ [10, 11, 51, 52, 53, 54, 55, 56, 57] (by decide +kernel) (by decide +kernel)
set_option maxRecDepth 20000 in
theorem gX5_check_X5_finding : GoodIn wsX5_check (wsV RX5 48 RX5 yX5_finding wsX5_finding) := goodIn_app (goodIn_of _ (by decide +kernel)) ggX5_check_X5_finding
set_option maxRecDepth 20000 in
theorem ggX5_check_X2_fitsBehind : GoodIn wsX5_check wsX2_fitsBehind := goodIn_r _ [16, 17, 18, 19, 20, 21, 22, 15, 23, 24, 25, 9, 26, 58, 59, 60, 61, 62, 63, 64, 65, 66, 67, 68, 69, 70, 71, 72, 73] (by decide +kernel) (by decide +kernel)
set_option maxRecDepth 20000 in
theorem gX5_check_X2_fitsBehind : GoodIn wsX5_check (wsV RX5 204 RX2 yX2_fitsBehind wsX2_fitsBehind) := goodIn_app (goodIn_of _ (by decide +kernel)) ggX5_check_X2_fitsBehind
set_option maxRecDepth 20000 in
theorem ggX5_check_X2_costOfWaiting : GoodIn wsX5_check wsX2_costOfWaiting := goodIn_r _ [30, 24, 18, 17, 31, 32, 33, 34, 35, 36, 37, 38, 39, 40, 41, 42, 43, 44, 45, 46, 47, 48, 49, 50, 58, 59, 60, 61, 62, 63, 64, 65, 66, 67, 68, 69, 70, 71, 72, 73] (by decide +kernel) (by decide +kernel)
set_option maxRecDepth 20000 in
theorem gX5_check_X2_costOfWaiting : GoodIn wsX5_check (wsV RX5 208 RX2 yX2_costOfWaiting wsX2_costOfWaiting) := goodIn_app (goodIn_of _ (by decide +kernel)) ggX5_check_X2_costOfWaiting
theorem dX5_check_0 : decode cX5_check 0 = .ok (.aload_n 0, 1) := by decide +kernel
theorem dX5_check_1 : decode cX5_check 1 = .ok (.getfield 12, 3) := by decide +kernel
theorem dX5_check_4 : decode cX5_check 4 = .ok (.getfield 198, 3) := by decide +kernel
theorem dX5_check_7 : decode cX5_check 7 = .ok (.istore_n 1, 1) := by decide +kernel
theorem dX5_check_8 : decode cX5_check 8 = .ok (.aload_n 0, 1) := by decide +kernel
theorem dX5_check_9 : decode cX5_check 9 = .ok (.getfield 12, 3) := by decide +kernel
theorem dX5_check_12 : decode cX5_check 12 = .ok (.iconst 0, 1) := by decide +kernel
theorem dX5_check_13 : decode cX5_check 13 = .ok (.putfield 198, 3) := by decide +kernel
theorem dX5_check_16 : decode cX5_check 16 = .ok (.aload_n 0, 1) := by decide +kernel
theorem dX5_check_17 : decode cX5_check 17 = .ok (.getfield 12, 3) := by decide +kernel
theorem dX5_check_20 : decode cX5_check 20 = .ok (.getfield 52, 3) := by decide +kernel
theorem dX5_check_23 : decode cX5_check 23 = .ok (.ifCond .ne 10, 3) := by decide +kernel
theorem dX5_check_26 : decode cX5_check 26 = .ok (.aload_n 0, 1) := by decide +kernel
theorem dX5_check_27 : decode cX5_check 27 = .ok (.ldc 125, 2) := by decide +kernel
theorem dX5_check_29 : decode cX5_check 29 = .ok (.invokevirtual 48, 3) := by decide +kernel
theorem dX5_check_32 : decode cX5_check 32 = .ok (.ireturn, 1) := by decide +kernel
theorem dX5_check_33 : decode cX5_check 33 = .ok (.iconst 0, 1) := by decide +kernel
theorem dX5_check_34 : decode cX5_check 34 = .ok (.istore_n 2, 1) := by decide +kernel
theorem dX5_check_35 : decode cX5_check 35 = .ok (.iconst 0, 1) := by decide +kernel
theorem dX5_check_36 : decode cX5_check 36 = .ok (.istore_n 3, 1) := by decide +kernel
theorem dX5_check_37 : decode cX5_check 37 = .ok (.iload_n 3, 1) := by decide +kernel
theorem dX5_check_38 : decode cX5_check 38 = .ok (.aload_n 0, 1) := by decide +kernel
theorem dX5_check_39 : decode cX5_check 39 = .ok (.getfield 12, 3) := by decide +kernel
theorem dX5_check_42 : decode cX5_check 42 = .ok (.getfield 52, 3) := by decide +kernel
theorem dX5_check_45 : decode cX5_check 45 = .ok (.if_icmp .ge 40, 3) := by decide +kernel
theorem dX5_check_48 : decode cX5_check 48 = .ok (.aload_n 0, 1) := by decide +kernel
theorem dX5_check_49 : decode cX5_check 49 = .ok (.getfield 12, 3) := by decide +kernel
theorem dX5_check_52 : decode cX5_check 52 = .ok (.iload_n 2, 1) := by decide +kernel
theorem dX5_check_53 : decode cX5_check 53 = .ok (.iload_n 3, 1) := by decide +kernel
theorem dX5_check_54 : decode cX5_check 54 = .ok (.iload_n 1, 1) := by decide +kernel
theorem dX5_check_55 : decode cX5_check 55 = .ok (.invokevirtual 204, 3) := by decide +kernel
theorem dX5_check_58 : decode cX5_check 58 = .ok (.ifCond .ne 7, 3) := by decide +kernel
theorem dX5_check_61 : decode cX5_check 61 = .ok (.iconst (-1), 1) := by decide +kernel
theorem dX5_check_62 : decode cX5_check 62 = .ok (.iload_n 3, 1) := by decide +kernel
theorem dX5_check_63 : decode cX5_check 63 = .ok (.isub, 1) := by decide +kernel
theorem dX5_check_64 : decode cX5_check 64 = .ok (.ireturn, 1) := by decide +kernel
theorem dX5_check_65 : decode cX5_check 65 = .ok (.iload_n 2, 1) := by decide +kernel
theorem dX5_check_66 : decode cX5_check 66 = .ok (.iconst 1, 1) := by decide +kernel
theorem dX5_check_67 : decode cX5_check 67 = .ok (.aload_n 0, 1) := by decide +kernel
theorem dX5_check_68 : decode cX5_check 68 = .ok (.getfield 12, 3) := by decide +kernel
theorem dX5_check_71 : decode cX5_check 71 = .ok (.getfield 201, 3) := by decide +kernel
theorem dX5_check_74 : decode cX5_check 74 = .ok (.iload_n 3, 1) := by decide +kernel
theorem dX5_check_75 : decode cX5_check 75 = .ok (.iaload, 1) := by decide +kernel
theorem dX5_check_76 : decode cX5_check 76 = .ok (.ishl, 1) := by decide +kernel
theorem dX5_check_77 : decode cX5_check 77 = .ok (.ior, 1) := by decide +kernel
theorem dX5_check_78 : decode cX5_check 78 = .ok (.istore_n 2, 1) := by decide +kernel
theorem dX5_check_79 : decode cX5_check 79 = .ok (.iinc 3 1, 3) := by decide +kernel
theorem dX5_check_82 : decode cX5_check 82 = .ok (.goto (-45), 3) := by decide +kernel
theorem dX5_check_85 : decode cX5_check 85 = .ok (.iload_n 1, 1) := by decide +kernel
theorem dX5_check_86 : decode cX5_check 86 = .ok (.aload_n 0, 1) := by decide +kernel
theorem dX5_check_87 : decode cX5_check 87 = .ok (.getfield 12, 3) := by decide +kernel
theorem dX5_check_90 : decode cX5_check 90 = .ok (.getfield 52, 3) := by decide +kernel
theorem dX5_check_93 : decode cX5_check 93 = .ok (.if_icmp .le 6, 3) := by decide +kernel
theorem dX5_check_96 : decode cX5_check 96 = .ok (.bipush (-12), 2) := by decide +kernel
theorem dX5_check_98 : decode cX5_check 98 = .ok (.ireturn, 1) := by decide +kernel
theorem dX5_check_99 : decode cX5_check 99 = .ok (.aload_n 0, 1) := by decide +kernel
theorem dX5_check_100 : decode cX5_check 100 = .ok (.getfield 12, 3) := by decide +kernel
theorem dX5_check_103 : decode cX5_check 103 = .ok (.invokevirtual 208, 3) := by decide +kernel
theorem dX5_check_106 : decode cX5_check 106 = .ok (.ireturn, 1) := by decide +kernel
set_option maxRecDepth 20000 in
theorem ggX5_without_X5_isGood : GoodIn wsX5_without wsX5_isGood := goodIn_r _ [7] (by decide +kernel) (by decide +kernel)
set_option maxRecDepth 20000 in
theorem gX5_without_X5_isGood : GoodIn wsX5_without (va_wsS RX5 183 yX5_isGood wsX5_isGood) := goodIn_app (goodIn_of _ (by decide +kernel)) ggX5_without_X5_isGood
set_option maxRecDepth 20000 in
theorem ggX5_without_X5_finding : GoodIn wsX5_without wsX5_finding := goodIn_r _ [11, 12, 95, 96, 97, 98, 99, 100, 101] (by decide +kernel) (by decide +kernel)
set_option maxRecDepth 20000 in
theorem gX5_without_X5_finding : GoodIn wsX5_without (wsV RX5 48 RX5 yX5_finding wsX5_finding) := goodIn_app (goodIn_of _ (by decide +kernel)) ggX5_without_X5_finding
set_option maxRecDepth 20000 in
theorem ggX5_without_X5_orderHindrance : GoodIn wsX5_without wsX5_orderHindrance := goodIn_r _ [16, 3, 17, 18, 19, 95, 96, 97, 98, 99, 100, 101, 102, 103, 104, 105, 106, 107, 108] (by decide +kernel) (by decide +kernel)
set_option maxRecDepth 20000 in
theorem gX5_without_X5_orderHindrance : GoodIn wsX5_without (wsV RX5 169 RX5 yX5_orderHindrance wsX5_orderHindrance) := goodIn_app (goodIn_of _ (by decide +kernel)) ggX5_without_X5_orderHindrance
set_option maxRecDepth 20000 in
theorem ggX5_without_X3_solve : GoodIn wsX5_without wsX3_solve := goodIn_r _ [24, 25, 26, 27, 23, 28, 29, 30, 31, 32, 33, 34, 35, 36, 37, 38, 39, 40, 41, 42, 43, 44, 45, 46, 47, 48, 49, 50, 51, 52, 53, 54, 55, 56, 57, 58, 59, 60, 61, 62, 63, 64, 65, 66, 67, 68, 69, 70, 71, 72, 73, 6, 74, 75, 76, 77, 78, 79, 80, 81, 82, 83, 84, 85, 86, 87, 88, 89, 90, 109, 110, 111, 112, 113, 114, 115, 116, 102, 103, 104, 105, 106, 107, 108, 117, 118, 119, 120, 121, 122, 123, 124, 125] (by decide +kernel) (by decide +kernel)
set_option maxRecDepth 20000 in
theorem gX5_without_X3_solve : GoodIn wsX5_without (wsV RX5 173 RX3 yX3_solve wsX3_solve) := goodIn_app (goodIn_of _ (by decide +kernel)) ggX5_without_X3_solve
set_option maxRecDepth 20000 in
theorem ggX5_without_X3_leastCost : GoodIn wsX5_without wsX3_leastCost := goodIn_r _ [94, 62, 109, 110, 111, 112, 113, 114, 115, 116] (by decide +kernel) (by decide +kernel)
set_option maxRecDepth 20000 in
theorem gX5_without_X3_leastCost : GoodIn wsX5_without (wsV RX5 177 RX3 yX3_leastCost wsX3_leastCost) := goodIn_app (goodIn_of _ (by decide +kernel)) ggX5_without_X3_leastCost
theorem dX5_without_0 : decode cX5_without 0 = .ok (.iload_n 1, 1) := by decide +kernel
theorem dX5_without_1 : decode cX5_without 1 = .ok (.invokestatic 183, 3) := by decide +kernel
theorem dX5_without_4 : decode cX5_without 4 = .ok (.ifCond .ne 10, 3) := by decide +kernel
theorem dX5_without_7 : decode cX5_without 7 = .ok (.aload_n 0, 1) := by decide +kernel
theorem dX5_without_8 : decode cX5_without 8 = .ok (.ldc 47, 2) := by decide +kernel
theorem dX5_without_10 : decode cX5_without 10 = .ok (.invokevirtual 48, 3) := by decide +kernel
theorem dX5_without_13 : decode cX5_without 13 = .ok (.ireturn, 1) := by decide +kernel
theorem dX5_without_14 : decode cX5_without 14 = .ok (.aload_n 0, 1) := by decide +kernel
theorem dX5_without_15 : decode cX5_without 15 = .ok (.invokevirtual 169, 3) := by decide +kernel
theorem dX5_without_18 : decode cX5_without 18 = .ok (.istore_n 2, 1) := by decide +kernel
theorem dX5_without_19 : decode cX5_without 19 = .ok (.iload_n 2, 1) := by decide +kernel
theorem dX5_without_20 : decode cX5_without 20 = .ok (.ifCond .eq 9, 3) := by decide +kernel
theorem dX5_without_23 : decode cX5_without 23 = .ok (.aload_n 0, 1) := by decide +kernel
theorem dX5_without_24 : decode cX5_without 24 = .ok (.iload_n 2, 1) := by decide +kernel
theorem dX5_without_25 : decode cX5_without 25 = .ok (.invokevirtual 48, 3) := by decide +kernel
theorem dX5_without_28 : decode cX5_without 28 = .ok (.ireturn, 1) := by decide +kernel
theorem dX5_without_29 : decode cX5_without 29 = .ok (.aload_n 0, 1) := by decide +kernel
theorem dX5_without_30 : decode cX5_without 30 = .ok (.getfield 29, 3) := by decide +kernel
theorem dX5_without_33 : decode cX5_without 33 = .ok (.aload_n 0, 1) := by decide +kernel
theorem dX5_without_34 : decode cX5_without 34 = .ok (.getfield 12, 3) := by decide +kernel
theorem dX5_without_37 : decode cX5_without 37 = .ok (.sipush 4095, 3) := by decide +kernel
theorem dX5_without_40 : decode cX5_without 40 = .ok (.iconst 1, 1) := by decide +kernel
theorem dX5_without_41 : decode cX5_without 41 = .ok (.iload_n 1, 1) := by decide +kernel
theorem dX5_without_42 : decode cX5_without 42 = .ok (.ishl, 1) := by decide +kernel
theorem dX5_without_43 : decode cX5_without 43 = .ok (.iconst (-1), 1) := by decide +kernel
theorem dX5_without_44 : decode cX5_without 44 = .ok (.ixor, 1) := by decide +kernel
theorem dX5_without_45 : decode cX5_without 45 = .ok (.iand, 1) := by decide +kernel
theorem dX5_without_46 : decode cX5_without 46 = .ok (.invokevirtual 173, 3) := by decide +kernel
theorem dX5_without_49 : decode cX5_without 49 = .ok (.aload_n 0, 1) := by decide +kernel
theorem dX5_without_50 : decode cX5_without 50 = .ok (.getfield 29, 3) := by decide +kernel
theorem dX5_without_53 : decode cX5_without 53 = .ok (.invokevirtual 177, 3) := by decide +kernel
theorem dX5_without_56 : decode cX5_without 56 = .ok (.ireturn, 1) := by decide +kernel
set_option maxRecDepth 20000 in
theorem ggX5_ways_X5_orderHindrance : GoodIn wsX5_ways wsX5_orderHindrance := goodIn_r _ [7, 2, 8, 9, 10, 91, 92, 93, 94, 95, 96, 97, 98, 99, 100, 101, 102, 103, 104] (by decide +kernel) (by decide +kernel)
set_option maxRecDepth 20000 in
theorem gX5_ways_X5_orderHindrance : GoodIn wsX5_ways (wsV RX5 169 RX5 yX5_orderHindrance wsX5_orderHindrance) := goodIn_app (goodIn_of _ (by decide +kernel)) ggX5_ways_X5_orderHindrance
set_option maxRecDepth 20000 in
theorem ggX5_ways_X5_finding : GoodIn wsX5_ways wsX5_finding := goodIn_r _ [14, 15, 91, 92, 93, 94, 95, 96, 97] (by decide +kernel) (by decide +kernel)
set_option maxRecDepth 20000 in
theorem gX5_ways_X5_finding : GoodIn wsX5_ways (wsV RX5 48 RX5 yX5_finding wsX5_finding) := goodIn_app (goodIn_of _ (by decide +kernel)) ggX5_ways_X5_finding
set_option maxRecDepth 20000 in
theorem ggX5_ways_X3_solve : GoodIn wsX5_ways wsX3_solve := goodIn_r _ [20, 21, 22, 23, 19, 24, 25, 26, 27, 28, 29, 30, 31, 32, 33, 34, 35, 36, 37, 38, 39, 40, 41, 42, 43, 44, 45, 46, 47, 48, 49, 50, 51, 52, 53, 54, 55, 56, 57, 58, 59, 60, 61, 62, 63, 64, 65, 66, 67, 68, 69, 6, 70, 71, 72, 73, 74, 75, 76, 77, 78, 79, 80, 81, 82, 83, 84, 85, 86, 105, 106, 107, 108, 109, 110, 111, 112, 98, 99, 100, 101, 102, 103, 104, 113, 114, 115, 116, 117, 118, 119, 120, 121] (by decide +kernel) (by decide +kernel)
set_option maxRecDepth 20000 in
theorem gX5_ways_X3_solve : GoodIn wsX5_ways (wsV RX5 173 RX3 yX3_solve wsX3_solve) := goodIn_app (goodIn_of _ (by decide +kernel)) ggX5_ways_X3_solve
set_option maxRecDepth 20000 in
theorem ggX5_ways_X3_leastWays : GoodIn wsX5_ways wsX3_leastWays := goodIn_r _ [90, 59, 105, 106, 107, 108, 109, 110, 111, 112] (by decide +kernel) (by decide +kernel)
set_option maxRecDepth 20000 in
theorem gX5_ways_X3_leastWays : GoodIn wsX5_ways (wsV RX5 211 RX3 yX3_leastWays wsX3_leastWays) := goodIn_app (goodIn_of _ (by decide +kernel)) ggX5_ways_X3_leastWays
theorem dX5_ways_0 : decode cX5_ways 0 = .ok (.aload_n 0, 1) := by decide +kernel
theorem dX5_ways_1 : decode cX5_ways 1 = .ok (.invokevirtual 169, 3) := by decide +kernel
theorem dX5_ways_4 : decode cX5_ways 4 = .ok (.istore_n 1, 1) := by decide +kernel
theorem dX5_ways_5 : decode cX5_ways 5 = .ok (.iload_n 1, 1) := by decide +kernel
theorem dX5_ways_6 : decode cX5_ways 6 = .ok (.ifCond .eq 9, 3) := by decide +kernel
theorem dX5_ways_9 : decode cX5_ways 9 = .ok (.aload_n 0, 1) := by decide +kernel
theorem dX5_ways_10 : decode cX5_ways 10 = .ok (.iload_n 1, 1) := by decide +kernel
theorem dX5_ways_11 : decode cX5_ways 11 = .ok (.invokevirtual 48, 3) := by decide +kernel
theorem dX5_ways_14 : decode cX5_ways 14 = .ok (.ireturn, 1) := by decide +kernel
theorem dX5_ways_15 : decode cX5_ways 15 = .ok (.aload_n 0, 1) := by decide +kernel
theorem dX5_ways_16 : decode cX5_ways 16 = .ok (.getfield 29, 3) := by decide +kernel
theorem dX5_ways_19 : decode cX5_ways 19 = .ok (.aload_n 0, 1) := by decide +kernel
theorem dX5_ways_20 : decode cX5_ways 20 = .ok (.getfield 12, 3) := by decide +kernel
theorem dX5_ways_23 : decode cX5_ways 23 = .ok (.sipush 4095, 3) := by decide +kernel
theorem dX5_ways_26 : decode cX5_ways 26 = .ok (.invokevirtual 173, 3) := by decide +kernel
theorem dX5_ways_29 : decode cX5_ways 29 = .ok (.aload_n 0, 1) := by decide +kernel
theorem dX5_ways_30 : decode cX5_ways 30 = .ok (.getfield 29, 3) := by decide +kernel
theorem dX5_ways_33 : decode cX5_ways 33 = .ok (.invokevirtual 211, 3) := by decide +kernel
theorem dX5_ways_36 : decode cX5_ways 36 = .ok (.ireturn, 1) := by decide +kernel
set_option maxRecDepth 20000 in
theorem ggX5_stretches_X5_stretchHindrance : GoodIn wsX5_stretches wsX5_stretchHindrance := goodIn_r _ [9, 2, 10, 11, 12, 13, 14, 8, 15, 16, 17, 112, 113, 114, 115, 116, 117, 118, 123, 124, 125, 126, 127, 128, 129] (by decide +kernel) (by decide +kernel)
set_option maxRecDepth 20000 in
theorem gX5_stretches_X5_stretchHindrance : GoodIn wsX5_stretches (wsV RX5 214 RX5 yX5_stretchHindrance wsX5_stretchHindrance) := goodIn_app (goodIn_of _ (by decide +kernel)) ggX5_stretches_X5_stretchHindrance
set_option maxRecDepth 20000 in
theorem ggX5_stretches_X5_finding : GoodIn wsX5_stretches wsX5_finding := goodIn_r _ [21, 22, 112, 113, 114, 115, 116, 117, 118] (by decide +kernel) (by decide +kernel)
set_option maxRecDepth 20000 in
theorem gX5_stretches_X5_finding : GoodIn wsX5_stretches (wsV RX5 48 RX5 yX5_finding wsX5_finding) := goodIn_app (goodIn_of _ (by decide +kernel)) ggX5_stretches_X5_finding
set_option maxRecDepth 20000 in
theorem ggX5_stretches_X3_solve : GoodIn wsX5_stretches wsX3_solve := goodIn_r _ [27, 28, 29, 30, 26, 31, 32, 33, 34, 35, 36, 37, 38, 39, 40, 41, 42, 43, 44, 45, 46, 47, 48, 49, 50, 51, 52, 53, 54, 55, 56, 57, 58, 59, 60, 61, 62, 63, 64, 65, 66, 67, 68, 69, 70, 71, 72, 73, 74, 75, 76, 8, 77, 78, 79, 80, 81, 82, 83, 84, 85, 86, 87, 88, 89, 90, 91, 92, 93, 130, 131, 132, 133, 134, 135, 136, 137, 123, 124, 125, 126, 127, 128, 129, 138, 139, 140, 141, 142, 143, 144, 145, 146] (by decide +kernel) (by decide +kernel)
set_option maxRecDepth 20000 in
theorem gX5_stretches_X3_solve : GoodIn wsX5_stretches (wsV RX5 173 RX3 yX3_solve wsX3_solve) := goodIn_app (goodIn_of _ (by decide +kernel)) ggX5_stretches_X3_solve
set_option maxRecDepth 20000 in
theorem ggX5_stretches_X0_choose : GoodIn wsX5_stretches wsX0_choose := goodIn_r _ [98, 99, 100, 101, 102, 103, 104, 105, 106, 26, 107, 93, 60, 68, 69, 70, 71, 32, 82, 83, 84, 85, 86, 87, 88, 108, 109, 110, 97, 111, 130, 131, 132, 133, 134, 135, 136, 137, 119, 120, 121, 122] (by decide +kernel) (by decide +kernel)
set_option maxRecDepth 20000 in
theorem gX5_stretches_X0_choose : GoodIn wsX5_stretches (wsV RX5 217 RX0 yX0_choose wsX0_choose) := goodIn_app (goodIn_of _ (by decide +kernel)) ggX5_stretches_X0_choose
theorem dX5_stretches_0 : decode cX5_stretches 0 = .ok (.aload_n 0, 1) := by decide +kernel
theorem dX5_stretches_1 : decode cX5_stretches 1 = .ok (.iload_n 1, 1) := by decide +kernel
theorem dX5_stretches_2 : decode cX5_stretches 2 = .ok (.invokevirtual 214, 3) := by decide +kernel
theorem dX5_stretches_5 : decode cX5_stretches 5 = .ok (.istore_n 2, 1) := by decide +kernel
theorem dX5_stretches_6 : decode cX5_stretches 6 = .ok (.iload_n 2, 1) := by decide +kernel
theorem dX5_stretches_7 : decode cX5_stretches 7 = .ok (.ifCond .eq 9, 3) := by decide +kernel
theorem dX5_stretches_10 : decode cX5_stretches 10 = .ok (.aload_n 0, 1) := by decide +kernel
theorem dX5_stretches_11 : decode cX5_stretches 11 = .ok (.iload_n 2, 1) := by decide +kernel
theorem dX5_stretches_12 : decode cX5_stretches 12 = .ok (.invokevirtual 48, 3) := by decide +kernel
theorem dX5_stretches_15 : decode cX5_stretches 15 = .ok (.ireturn, 1) := by decide +kernel
theorem dX5_stretches_16 : decode cX5_stretches 16 = .ok (.aload_n 0, 1) := by decide +kernel
theorem dX5_stretches_17 : decode cX5_stretches 17 = .ok (.getfield 29, 3) := by decide +kernel
theorem dX5_stretches_20 : decode cX5_stretches 20 = .ok (.aload_n 0, 1) := by decide +kernel
theorem dX5_stretches_21 : decode cX5_stretches 21 = .ok (.getfield 12, 3) := by decide +kernel
theorem dX5_stretches_24 : decode cX5_stretches 24 = .ok (.sipush 4095, 3) := by decide +kernel
theorem dX5_stretches_27 : decode cX5_stretches 27 = .ok (.invokevirtual 173, 3) := by decide +kernel
theorem dX5_stretches_30 : decode cX5_stretches 30 = .ok (.aload_n 0, 1) := by decide +kernel
theorem dX5_stretches_31 : decode cX5_stretches 31 = .ok (.getfield 36, 3) := by decide +kernel
theorem dX5_stretches_34 : decode cX5_stretches 34 = .ok (.aload_n 0, 1) := by decide +kernel
theorem dX5_stretches_35 : decode cX5_stretches 35 = .ok (.getfield 29, 3) := by decide +kernel
theorem dX5_stretches_38 : decode cX5_stretches 38 = .ok (.iload_n 1, 1) := by decide +kernel
theorem dX5_stretches_39 : decode cX5_stretches 39 = .ok (.invokevirtual 217, 3) := by decide +kernel
theorem dX5_stretches_42 : decode cX5_stretches 42 = .ok (.aload_n 0, 1) := by decide +kernel
theorem dX5_stretches_43 : decode cX5_stretches 43 = .ok (.getfield 36, 3) := by decide +kernel
theorem dX5_stretches_46 : decode cX5_stretches 46 = .ok (.getfield 221, 3) := by decide +kernel
theorem dX5_stretches_49 : decode cX5_stretches 49 = .ok (.ireturn, 1) := by decide +kernel
set_option maxRecDepth 20000 in
theorem ggX5_border_X5_stretchHindrance : GoodIn wsX5_border wsX5_stretchHindrance := goodIn_r _ [9, 3, 10, 1, 11, 12, 13, 8, 14, 15, 16, 115, 116, 117, 118, 119, 120, 121, 122, 123, 124, 125, 126, 127, 128] (by decide +kernel) (by decide +kernel)
set_option maxRecDepth 20000 in
theorem gX5_border_X5_stretchHindrance : GoodIn wsX5_border (wsV RX5 214 RX5 yX5_stretchHindrance wsX5_stretchHindrance) := goodIn_app (goodIn_of _ (by decide +kernel)) ggX5_border_X5_stretchHindrance
set_option maxRecDepth 20000 in
theorem ggX5_border_X5_finding : GoodIn wsX5_border wsX5_finding := goodIn_r _ [20, 21, 115, 116, 117, 118, 119, 120, 121] (by decide +kernel) (by decide +kernel)
set_option maxRecDepth 20000 in
theorem gX5_border_X5_finding : GoodIn wsX5_border (wsV RX5 48 RX5 yX5_finding wsX5_finding) := goodIn_app (goodIn_of _ (by decide +kernel)) ggX5_border_X5_finding
set_option maxRecDepth 20000 in
theorem ggX5_border_X3_solve : GoodIn wsX5_border wsX3_solve := goodIn_r _ [26, 27, 28, 29, 25, 30, 31, 32, 33, 34, 35, 36, 37, 38, 39, 40, 41, 42, 43, 44, 45, 46, 47, 48, 49, 50, 51, 52, 53, 54, 55, 56, 57, 58, 59, 60, 61, 62, 63, 64, 65, 66, 67, 68, 69, 70, 71, 72, 73, 74, 75, 8, 76, 77, 78, 79, 80, 81, 82, 83, 84, 85, 86, 87, 88, 89, 90, 91, 92, 129, 130, 131, 132, 133, 134, 135, 136, 122, 123, 124, 125, 126, 127, 128, 137, 138, 139, 140, 141, 142, 143, 144, 145] (by decide +kernel) (by decide +kernel)
set_option maxRecDepth 20000 in
theorem gX5_border_X3_solve : GoodIn wsX5_border (wsV RX5 173 RX3 yX3_solve wsX3_solve) := goodIn_app (goodIn_of _ (by decide +kernel)) ggX5_border_X3_solve
set_option maxRecDepth 20000 in
theorem ggX5_border_X0_choose : GoodIn wsX5_border wsX0_choose := goodIn_r _ [97, 98, 99, 100, 101, 102, 103, 104, 105, 25, 106, 92, 59, 67, 68, 69, 70, 31, 81, 82, 83, 84, 85, 86, 87, 107, 108, 109, 96, 110, 129, 130, 131, 132, 133, 134, 135, 136, 146, 147, 148, 149] (by decide +kernel) (by decide +kernel)
set_option maxRecDepth 20000 in
theorem gX5_border_X0_choose : GoodIn wsX5_border (wsV RX5 217 RX0 yX0_choose wsX0_choose) := goodIn_app (goodIn_of _ (by decide +kernel)) ggX5_border_X0_choose
set_option maxRecDepth 20000 in
theorem ggX5_border_X0_beginOf : GoodIn wsX5_border wsX0_beginOf := goodIn_r _ [114, 99, 102, 146, 147, 148, 149] (by decide +kernel) (by decide +kernel)
set_option maxRecDepth 20000 in
theorem gX5_border_X0_beginOf : GoodIn wsX5_border (wsV RX5 224 RX0 yX0_beginOf wsX0_beginOf) := goodIn_app (goodIn_of _ (by decide +kernel)) ggX5_border_X0_beginOf
theorem dX5_border_0 : decode cX5_border 0 = .ok (.aload_n 0, 1) := by decide +kernel
theorem dX5_border_1 : decode cX5_border 1 = .ok (.iload_n 1, 1) := by decide +kernel
theorem dX5_border_2 : decode cX5_border 2 = .ok (.invokevirtual 214, 3) := by decide +kernel
theorem dX5_border_5 : decode cX5_border 5 = .ok (.istore_n 3, 1) := by decide +kernel
theorem dX5_border_6 : decode cX5_border 6 = .ok (.iload_n 3, 1) := by decide +kernel
theorem dX5_border_7 : decode cX5_border 7 = .ok (.ifCond .eq 9, 3) := by decide +kernel
theorem dX5_border_10 : decode cX5_border 10 = .ok (.aload_n 0, 1) := by decide +kernel
theorem dX5_border_11 : decode cX5_border 11 = .ok (.iload_n 3, 1) := by decide +kernel
theorem dX5_border_12 : decode cX5_border 12 = .ok (.invokevirtual 48, 3) := by decide +kernel
theorem dX5_border_15 : decode cX5_border 15 = .ok (.ireturn, 1) := by decide +kernel
theorem dX5_border_16 : decode cX5_border 16 = .ok (.iload_n 2, 1) := by decide +kernel
theorem dX5_border_17 : decode cX5_border 17 = .ok (.ifCond .lt 8, 3) := by decide +kernel
theorem dX5_border_20 : decode cX5_border 20 = .ok (.iload_n 2, 1) := by decide +kernel
theorem dX5_border_21 : decode cX5_border 21 = .ok (.iload_n 1, 1) := by decide +kernel
theorem dX5_border_22 : decode cX5_border 22 = .ok (.if_icmp .lt 10, 3) := by decide +kernel
theorem dX5_border_25 : decode cX5_border 25 = .ok (.aload_n 0, 1) := by decide +kernel
theorem dX5_border_26 : decode cX5_border 26 = .ok (.ldc 47, 2) := by decide +kernel
theorem dX5_border_28 : decode cX5_border 28 = .ok (.invokevirtual 48, 3) := by decide +kernel
theorem dX5_border_31 : decode cX5_border 31 = .ok (.ireturn, 1) := by decide +kernel
theorem dX5_border_32 : decode cX5_border 32 = .ok (.aload_n 0, 1) := by decide +kernel
theorem dX5_border_33 : decode cX5_border 33 = .ok (.getfield 29, 3) := by decide +kernel
theorem dX5_border_36 : decode cX5_border 36 = .ok (.aload_n 0, 1) := by decide +kernel
theorem dX5_border_37 : decode cX5_border 37 = .ok (.getfield 12, 3) := by decide +kernel
theorem dX5_border_40 : decode cX5_border 40 = .ok (.sipush 4095, 3) := by decide +kernel
theorem dX5_border_43 : decode cX5_border 43 = .ok (.invokevirtual 173, 3) := by decide +kernel
theorem dX5_border_46 : decode cX5_border 46 = .ok (.aload_n 0, 1) := by decide +kernel
theorem dX5_border_47 : decode cX5_border 47 = .ok (.getfield 36, 3) := by decide +kernel
theorem dX5_border_50 : decode cX5_border 50 = .ok (.aload_n 0, 1) := by decide +kernel
theorem dX5_border_51 : decode cX5_border 51 = .ok (.getfield 29, 3) := by decide +kernel
theorem dX5_border_54 : decode cX5_border 54 = .ok (.iload_n 1, 1) := by decide +kernel
theorem dX5_border_55 : decode cX5_border 55 = .ok (.invokevirtual 217, 3) := by decide +kernel
theorem dX5_border_58 : decode cX5_border 58 = .ok (.aload_n 0, 1) := by decide +kernel
theorem dX5_border_59 : decode cX5_border 59 = .ok (.getfield 36, 3) := by decide +kernel
theorem dX5_border_62 : decode cX5_border 62 = .ok (.iload_n 2, 1) := by decide +kernel
theorem dX5_border_63 : decode cX5_border 63 = .ok (.invokevirtual 224, 3) := by decide +kernel
theorem dX5_border_66 : decode cX5_border 66 = .ok (.ireturn, 1) := by decide +kernel
set_option maxRecDepth 20000 in
theorem ggX5_year_X2_holds : GoodIn wsX5_year wsX2_holds := goodIn_r _ [7, 8, 60, 61, 62, 63, 64, 65, 66] (by decide +kernel) (by decide +kernel)
set_option maxRecDepth 20000 in
theorem gX5_year_X2_holds : GoodIn wsX5_year (wsV RX5 61 RX2 yX2_holds wsX2_holds) := goodIn_app (goodIn_of _ (by decide +kernel)) ggX5_year_X2_holds
set_option maxRecDepth 20000 in
theorem ggX5_year_X5_finding : GoodIn wsX5_year wsX5_finding := goodIn_r _ [13, 14, 53, 54, 55, 56, 57, 58, 59] (by decide +kernel) (by decide +kernel)
set_option maxRecDepth 20000 in
theorem gX5_year_X5_finding : GoodIn wsX5_year (wsV RX5 48 RX5 yX5_finding wsX5_finding) := goodIn_app (goodIn_of _ (by decide +kernel)) ggX5_year_X5_finding
set_option maxRecDepth 20000 in
theorem ggX5_year_X2_latestOf : GoodIn wsX5_year wsX2_latestOf := goodIn_r _ [18, 8, 19, 20, 21, 22, 23, 24, 25, 26, 27, 6, 28, 29, 30, 31, 32, 33, 34, 35, 12, 36, 37, 38, 39, 40, 60, 61, 62, 63, 64, 65, 66, 67, 68, 69, 70, 71, 72, 73, 74, 75] (by decide +kernel) (by decide +kernel)
set_option maxRecDepth 20000 in
theorem gX5_year_X2_latestOf : GoodIn wsX5_year (wsV RX5 227 RX2 yX2_latestOf wsX2_latestOf) := goodIn_app (goodIn_of _ (by decide +kernel)) ggX5_year_X2_latestOf
set_option maxRecDepth 20000 in
theorem ggX5_year_X2_earliestOf : GoodIn wsX5_year wsX2_earliestOf := goodIn_r _ [44, 8, 19, 45, 46, 47, 23, 48, 49, 50, 51, 6, 52, 29, 34, 37, 38, 39, 40, 35, 12, 36, 60, 61, 62, 63, 64, 65, 66, 67, 68, 69, 70, 71, 72, 73, 74, 75] (by decide +kernel) (by decide +kernel)
set_option maxRecDepth 20000 in
theorem gX5_year_X2_earliestOf : GoodIn wsX5_year (wsV RX5 230 RX2 yX2_earliestOf wsX2_earliestOf) := goodIn_app (goodIn_of _ (by decide +kernel)) ggX5_year_X2_earliestOf
theorem dX5_year_0 : decode cX5_year 0 = .ok (.aload_n 0, 1) := by decide +kernel
theorem dX5_year_1 : decode cX5_year 1 = .ok (.getfield 12, 3) := by decide +kernel
theorem dX5_year_4 : decode cX5_year 4 = .ok (.iload_n 1, 1) := by decide +kernel
theorem dX5_year_5 : decode cX5_year 5 = .ok (.invokevirtual 61, 3) := by decide +kernel
theorem dX5_year_8 : decode cX5_year 8 = .ok (.ifCond .ne 10, 3) := by decide +kernel
theorem dX5_year_11 : decode cX5_year 11 = .ok (.aload_n 0, 1) := by decide +kernel
theorem dX5_year_12 : decode cX5_year 12 = .ok (.ldc 47, 2) := by decide +kernel
theorem dX5_year_14 : decode cX5_year 14 = .ok (.invokevirtual 48, 3) := by decide +kernel
theorem dX5_year_17 : decode cX5_year 17 = .ok (.ireturn, 1) := by decide +kernel
theorem dX5_year_18 : decode cX5_year 18 = .ok (.iload_n 2, 1) := by decide +kernel
theorem dX5_year_19 : decode cX5_year 19 = .ok (.ifCond .eq 14, 3) := by decide +kernel
theorem dX5_year_22 : decode cX5_year 22 = .ok (.aload_n 0, 1) := by decide +kernel
theorem dX5_year_23 : decode cX5_year 23 = .ok (.getfield 12, 3) := by decide +kernel
theorem dX5_year_26 : decode cX5_year 26 = .ok (.iload_n 1, 1) := by decide +kernel
theorem dX5_year_27 : decode cX5_year 27 = .ok (.invokevirtual 227, 3) := by decide +kernel
theorem dX5_year_30 : decode cX5_year 30 = .ok (.goto 11, 3) := by decide +kernel
theorem dX5_year_33 : decode cX5_year 33 = .ok (.aload_n 0, 1) := by decide +kernel
theorem dX5_year_34 : decode cX5_year 34 = .ok (.getfield 12, 3) := by decide +kernel
theorem dX5_year_37 : decode cX5_year 37 = .ok (.iload_n 1, 1) := by decide +kernel
theorem dX5_year_38 : decode cX5_year 38 = .ok (.invokevirtual 230, 3) := by decide +kernel
theorem dX5_year_41 : decode cX5_year 41 = .ok (.ireturn, 1) := by decide +kernel
set_option maxRecDepth 20000 in
theorem ggX5_wrong_X2_earliestOf : GoodIn wsX5_wrong wsX2_earliestOf := goodIn_r _ [7, 8, 9, 10, 11, 12, 13, 14, 15, 16, 17, 6, 18, 19, 20, 21, 22, 23, 24, 25, 26, 27, 51, 52, 53, 54, 55, 56, 57, 58, 59, 60, 61, 62, 63, 64, 65, 66] (by decide +kernel) (by decide +kernel)
set_option maxRecDepth 20000 in
theorem gX5_wrong_X2_earliestOf : GoodIn wsX5_wrong (wsV RX5 230 RX2 yX2_earliestOf wsX2_earliestOf) := goodIn_app (goodIn_of _ (by decide +kernel)) ggX5_wrong_X2_earliestOf
set_option maxRecDepth 20000 in
theorem ggX5_wrong_X2_latestOf : GoodIn wsX5_wrong wsX2_latestOf := goodIn_r _ [31, 8, 9, 32, 33, 34, 13, 35, 36, 37, 38, 6, 39, 19, 40, 41, 42, 43, 20, 25, 26, 27, 21, 22, 23, 24, 51, 52, 53, 54, 55, 56, 57, 58, 59, 60, 61, 62, 63, 64, 65, 66] (by decide +kernel) (by decide +kernel)
set_option maxRecDepth 20000 in
theorem gX5_wrong_X2_latestOf : GoodIn wsX5_wrong (wsV RX5 227 RX2 yX2_latestOf wsX2_latestOf) := goodIn_app (goodIn_of _ (by decide +kernel)) ggX5_wrong_X2_latestOf
theorem dX5_wrong_0 : decode cX5_wrong 0 = .ok (.iconst 0, 1) := by decide +kernel
theorem dX5_wrong_1 : decode cX5_wrong 1 = .ok (.istore_n 1, 1) := by decide +kernel
theorem dX5_wrong_2 : decode cX5_wrong 2 = .ok (.iload_n 1, 1) := by decide +kernel
theorem dX5_wrong_3 : decode cX5_wrong 3 = .ok (.aload_n 0, 1) := by decide +kernel
theorem dX5_wrong_4 : decode cX5_wrong 4 = .ok (.getfield 12, 3) := by decide +kernel
theorem dX5_wrong_7 : decode cX5_wrong 7 = .ok (.getfield 52, 3) := by decide +kernel
theorem dX5_wrong_10 : decode cX5_wrong 10 = .ok (.if_icmp .ge 30, 3) := by decide +kernel
theorem dX5_wrong_13 : decode cX5_wrong 13 = .ok (.aload_n 0, 1) := by decide +kernel
theorem dX5_wrong_14 : decode cX5_wrong 14 = .ok (.getfield 12, 3) := by decide +kernel
theorem dX5_wrong_17 : decode cX5_wrong 17 = .ok (.iload_n 1, 1) := by decide +kernel
theorem dX5_wrong_18 : decode cX5_wrong 18 = .ok (.invokevirtual 230, 3) := by decide +kernel
theorem dX5_wrong_21 : decode cX5_wrong 21 = .ok (.aload_n 0, 1) := by decide +kernel
theorem dX5_wrong_22 : decode cX5_wrong 22 = .ok (.getfield 12, 3) := by decide +kernel
theorem dX5_wrong_25 : decode cX5_wrong 25 = .ok (.iload_n 1, 1) := by decide +kernel
theorem dX5_wrong_26 : decode cX5_wrong 26 = .ok (.invokevirtual 227, 3) := by decide +kernel
theorem dX5_wrong_29 : decode cX5_wrong 29 = .ok (.if_icmp .le 5, 3) := by decide +kernel
theorem dX5_wrong_32 : decode cX5_wrong 32 = .ok (.iload_n 1, 1) := by decide +kernel
theorem dX5_wrong_33 : decode cX5_wrong 33 = .ok (.ireturn, 1) := by decide +kernel
theorem dX5_wrong_34 : decode cX5_wrong 34 = .ok (.iinc 1 1, 3) := by decide +kernel
theorem dX5_wrong_37 : decode cX5_wrong 37 = .ok (.goto (-35), 3) := by decide +kernel
theorem dX5_wrong_40 : decode cX5_wrong 40 = .ok (.iconst (-1), 1) := by decide +kernel
theorem dX5_wrong_41 : decode cX5_wrong 41 = .ok (.ireturn, 1) := by decide +kernel
set_option maxRecDepth 20000 in
theorem ggX5_in_X5_isYear : GoodIn wsX5_in wsX5_isYear := goodIn_r _ [7] (by decide +kernel) (by decide +kernel)
set_option maxRecDepth 20000 in
theorem gX5_in_X5_isYear : GoodIn wsX5_in (va_wsS RX5 103 yX5_isYear wsX5_isYear) := goodIn_app (goodIn_of _ (by decide +kernel)) ggX5_in_X5_isYear
set_option maxRecDepth 20000 in
theorem ggX5_in_X5_finding : GoodIn wsX5_in wsX5_finding := goodIn_r _ [11, 12, 53, 54, 55, 56, 57, 58, 59] (by decide +kernel) (by decide +kernel)
set_option maxRecDepth 20000 in
theorem gX5_in_X5_finding : GoodIn wsX5_in (wsV RX5 48 RX5 yX5_finding wsX5_finding) := goodIn_app (goodIn_of _ (by decide +kernel)) ggX5_in_X5_finding
set_option maxRecDepth 20000 in
theorem ggX5_in_X2_earliestOf : GoodIn wsX5_in wsX2_earliestOf := goodIn_r _ [17, 18, 19, 20, 21, 22, 23, 24, 25, 26, 27, 16, 28, 29, 30, 31, 32, 33, 34, 35, 6, 36, 60, 61, 62, 63, 64, 65, 66, 67, 68, 69, 70, 71, 72, 73, 74, 75] (by decide +kernel) (by decide +kernel)
set_option maxRecDepth 20000 in
theorem gX5_in_X2_earliestOf : GoodIn wsX5_in (wsV RX5 230 RX2 yX2_earliestOf wsX2_earliestOf) := goodIn_app (goodIn_of _ (by decide +kernel)) ggX5_in_X2_earliestOf
set_option maxRecDepth 20000 in
theorem ggX5_in_X2_latestOf : GoodIn wsX5_in wsX2_latestOf := goodIn_r _ [40, 18, 19, 41, 42, 43, 23, 44, 45, 46, 47, 16, 48, 29, 49, 50, 51, 52, 30, 35, 6, 36, 31, 32, 33, 34, 60, 61, 62, 63, 64, 65, 66, 67, 68, 69, 70, 71, 72, 73, 74, 75] (by decide +kernel) (by decide +kernel)
set_option maxRecDepth 20000 in
theorem gX5_in_X2_latestOf : GoodIn wsX5_in (wsV RX5 227 RX2 yX2_latestOf wsX2_latestOf) := goodIn_app (goodIn_of _ (by decide +kernel)) ggX5_in_X2_latestOf
theorem dX5_in_0 : decode cX5_in 0 = .ok (.iload_n 1, 1) := by decide +kernel
theorem dX5_in_1 : decode cX5_in 1 = .ok (.invokestatic 103, 3) := by decide +kernel
theorem dX5_in_4 : decode cX5_in 4 = .ok (.ifCond .ne 10, 3) := by decide +kernel
theorem dX5_in_7 : decode cX5_in 7 = .ok (.aload_n 0, 1) := by decide +kernel
theorem dX5_in_8 : decode cX5_in 8 = .ok (.ldc 47, 2) := by decide +kernel
theorem dX5_in_10 : decode cX5_in 10 = .ok (.invokevirtual 48, 3) := by decide +kernel
theorem dX5_in_13 : decode cX5_in 13 = .ok (.ireturn, 1) := by decide +kernel
theorem dX5_in_14 : decode cX5_in 14 = .ok (.iconst 0, 1) := by decide +kernel
theorem dX5_in_15 : decode cX5_in 15 = .ok (.istore_n 2, 1) := by decide +kernel
theorem dX5_in_16 : decode cX5_in 16 = .ok (.iconst 0, 1) := by decide +kernel
theorem dX5_in_17 : decode cX5_in 17 = .ok (.istore_n 3, 1) := by decide +kernel
theorem dX5_in_18 : decode cX5_in 18 = .ok (.iload_n 3, 1) := by decide +kernel
theorem dX5_in_19 : decode cX5_in 19 = .ok (.aload_n 0, 1) := by decide +kernel
theorem dX5_in_20 : decode cX5_in 20 = .ok (.getfield 12, 3) := by decide +kernel
theorem dX5_in_23 : decode cX5_in 23 = .ok (.getfield 52, 3) := by decide +kernel
theorem dX5_in_26 : decode cX5_in 26 = .ok (.if_icmp .ge 36, 3) := by decide +kernel
theorem dX5_in_29 : decode cX5_in 29 = .ok (.aload_n 0, 1) := by decide +kernel
theorem dX5_in_30 : decode cX5_in 30 = .ok (.getfield 12, 3) := by decide +kernel
theorem dX5_in_33 : decode cX5_in 33 = .ok (.iload_n 3, 1) := by decide +kernel
theorem dX5_in_34 : decode cX5_in 34 = .ok (.invokevirtual 230, 3) := by decide +kernel
theorem dX5_in_37 : decode cX5_in 37 = .ok (.iload_n 1, 1) := by decide +kernel
theorem dX5_in_38 : decode cX5_in 38 = .ok (.if_icmp .gt 18, 3) := by decide +kernel
theorem dX5_in_41 : decode cX5_in 41 = .ok (.iload_n 1, 1) := by decide +kernel
theorem dX5_in_42 : decode cX5_in 42 = .ok (.aload_n 0, 1) := by decide +kernel
theorem dX5_in_43 : decode cX5_in 43 = .ok (.getfield 12, 3) := by decide +kernel
theorem dX5_in_46 : decode cX5_in 46 = .ok (.iload_n 3, 1) := by decide +kernel
theorem dX5_in_47 : decode cX5_in 47 = .ok (.invokevirtual 227, 3) := by decide +kernel
theorem dX5_in_50 : decode cX5_in 50 = .ok (.if_icmp .gt 6, 3) := by decide +kernel
theorem dX5_in_53 : decode cX5_in 53 = .ok (.iinc 2 1, 3) := by decide +kernel
theorem dX5_in_56 : decode cX5_in 56 = .ok (.iinc 3 1, 3) := by decide +kernel
theorem dX5_in_59 : decode cX5_in 59 = .ok (.goto (-41), 3) := by decide +kernel
theorem dX5_in_62 : decode cX5_in 62 = .ok (.iload_n 2, 1) := by decide +kernel
theorem dX5_in_63 : decode cX5_in 63 = .ok (.ireturn, 1) := by decide +kernel
set_option maxRecDepth 20000 in
theorem ggX5_used_X5_isGood : GoodIn wsX5_used wsX5_isGood := goodIn_r _ [7] (by decide +kernel) (by decide +kernel)
set_option maxRecDepth 20000 in
theorem gX5_used_X5_isGood : GoodIn wsX5_used (va_wsS RX5 183 yX5_isGood wsX5_isGood) := goodIn_app (goodIn_of _ (by decide +kernel)) ggX5_used_X5_isGood
set_option maxRecDepth 20000 in
theorem ggX5_used_X5_finding : GoodIn wsX5_used wsX5_finding := goodIn_r _ [11, 12, 66, 67, 68, 69, 70, 71, 72] (by decide +kernel) (by decide +kernel)
set_option maxRecDepth 20000 in
theorem gX5_used_X5_finding : GoodIn wsX5_used (wsV RX5 48 RX5 yX5_finding wsX5_finding) := goodIn_app (goodIn_of _ (by decide +kernel)) ggX5_used_X5_finding
set_option maxRecDepth 20000 in
theorem ggX5_used_X2_havers : GoodIn wsX5_used wsX2_havers := goodIn_r _ [17, 18, 19, 20, 21, 6, 22, 73, 74, 75, 76, 77, 78, 79, 80, 81, 82, 83, 84, 85, 86, 87, 88] (by decide +kernel) (by decide +kernel)
set_option maxRecDepth 20000 in
theorem gX5_used_X2_havers : GoodIn wsX5_used (wsV RX5 189 RX2 yX2_havers wsX2_havers) := goodIn_app (goodIn_of _ (by decide +kernel)) ggX5_used_X2_havers
set_option maxRecDepth 20000 in
theorem ggX5_used_X2_greatestLatest : GoodIn wsX5_used wsX2_greatestLatest := goodIn_r _ [26, 18, 27, 28, 29, 30, 21, 6, 22, 31, 32, 33, 16, 34, 19, 35, 36, 37, 38, 39, 40, 41, 42, 43, 44, 45, 46, 47, 48, 49, 50, 51, 52, 73, 74, 75, 76, 77, 78, 79, 80, 81, 82, 83, 84, 85, 86, 87, 88] (by decide +kernel) (by decide +kernel)
set_option maxRecDepth 20000 in
theorem gX5_used_X2_greatestLatest : GoodIn wsX5_used (wsV RX5 233 RX2 yX2_greatestLatest wsX2_greatestLatest) := goodIn_app (goodIn_of _ (by decide +kernel)) ggX5_used_X2_greatestLatest
set_option maxRecDepth 20000 in
theorem ggX5_used_X2_leastEarliest : GoodIn wsX5_used wsX2_leastEarliest := goodIn_r _ [56, 18, 36, 37, 29, 38, 21, 6, 22, 57, 58, 59, 16, 60, 19, 61, 27, 28, 30, 62, 63, 64, 65, 43, 48, 49, 50, 51, 52, 73, 74, 75, 76, 77, 78, 79, 80, 81, 82, 83, 84, 85, 86, 87, 88] (by decide +kernel) (by decide +kernel)
set_option maxRecDepth 20000 in
theorem gX5_used_X2_leastEarliest : GoodIn wsX5_used (wsV RX5 236 RX2 yX2_leastEarliest wsX2_leastEarliest) := goodIn_app (goodIn_of _ (by decide +kernel)) ggX5_used_X2_leastEarliest
theorem dX5_used_0 : decode cX5_used 0 = .ok (.iload_n 1, 1) := by decide +kernel
theorem dX5_used_1 : decode cX5_used 1 = .ok (.invokestatic 183, 3) := by decide +kernel
theorem dX5_used_4 : decode cX5_used 4 = .ok (.ifCond .ne 10, 3) := by decide +kernel
theorem dX5_used_7 : decode cX5_used 7 = .ok (.aload_n 0, 1) := by decide +kernel
theorem dX5_used_8 : decode cX5_used 8 = .ok (.ldc 47, 2) := by decide +kernel
theorem dX5_used_10 : decode cX5_used 10 = .ok (.invokevirtual 48, 3) := by decide +kernel
theorem dX5_used_13 : decode cX5_used 13 = .ok (.ireturn, 1) := by decide +kernel
theorem dX5_used_14 : decode cX5_used 14 = .ok (.aload_n 0, 1) := by decide +kernel
theorem dX5_used_15 : decode cX5_used 15 = .ok (.getfield 12, 3) := by decide +kernel
theorem dX5_used_18 : decode cX5_used 18 = .ok (.iload_n 1, 1) := by decide +kernel
theorem dX5_used_19 : decode cX5_used 19 = .ok (.invokevirtual 189, 3) := by decide +kernel
theorem dX5_used_22 : decode cX5_used 22 = .ok (.istore_n 3, 1) := by decide +kernel
theorem dX5_used_23 : decode cX5_used 23 = .ok (.iload_n 3, 1) := by decide +kernel
theorem dX5_used_24 : decode cX5_used 24 = .ok (.ifCond .ne 10, 3) := by decide +kernel
theorem dX5_used_27 : decode cX5_used 27 = .ok (.aload_n 0, 1) := by decide +kernel
theorem dX5_used_28 : decode cX5_used 28 = .ok (.ldc 125, 2) := by decide +kernel
theorem dX5_used_30 : decode cX5_used 30 = .ok (.invokevirtual 48, 3) := by decide +kernel
theorem dX5_used_33 : decode cX5_used 33 = .ok (.ireturn, 1) := by decide +kernel
theorem dX5_used_34 : decode cX5_used 34 = .ok (.iload_n 2, 1) := by decide +kernel
theorem dX5_used_35 : decode cX5_used 35 = .ok (.ifCond .eq 14, 3) := by decide +kernel
theorem dX5_used_38 : decode cX5_used 38 = .ok (.aload_n 0, 1) := by decide +kernel
theorem dX5_used_39 : decode cX5_used 39 = .ok (.getfield 12, 3) := by decide +kernel
theorem dX5_used_42 : decode cX5_used 42 = .ok (.iload_n 3, 1) := by decide +kernel
theorem dX5_used_43 : decode cX5_used 43 = .ok (.invokevirtual 233, 3) := by decide +kernel
theorem dX5_used_46 : decode cX5_used 46 = .ok (.goto 11, 3) := by decide +kernel
theorem dX5_used_49 : decode cX5_used 49 = .ok (.aload_n 0, 1) := by decide +kernel
theorem dX5_used_50 : decode cX5_used 50 = .ok (.getfield 12, 3) := by decide +kernel
theorem dX5_used_53 : decode cX5_used 53 = .ok (.iload_n 3, 1) := by decide +kernel
theorem dX5_used_54 : decode cX5_used 54 = .ok (.invokevirtual 236, 3) := by decide +kernel
theorem dX5_used_57 : decode cX5_used 57 = .ok (.ireturn, 1) := by decide +kernel
set_option maxRecDepth 20000 in
theorem ggX5_family_X2_holds : GoodIn wsX5_family wsX2_holds := goodIn_r _ [7, 8, 52, 53, 54, 55, 56, 57, 58] (by decide +kernel) (by decide +kernel)
set_option maxRecDepth 20000 in
theorem gX5_family_X2_holds : GoodIn wsX5_family (wsV RX5 61 RX2 yX2_holds wsX2_holds) := goodIn_app (goodIn_of _ (by decide +kernel)) ggX5_family_X2_holds
set_option maxRecDepth 20000 in
theorem ggX5_family_X5_isDistance : GoodIn wsX5_family wsX5_isDistance := goodIn_r _ [12] (by decide +kernel) (by decide +kernel)
set_option maxRecDepth 20000 in
theorem gX5_family_X5_isDistance : GoodIn wsX5_family (va_wsS RX5 44 yX5_isDistance wsX5_isDistance) := goodIn_app (goodIn_of _ (by decide +kernel)) ggX5_family_X5_isDistance
set_option maxRecDepth 20000 in
theorem ggX5_family_X5_finding : GoodIn wsX5_family wsX5_finding := goodIn_r _ [16, 17, 45, 46, 47, 48, 49, 50, 51] (by decide +kernel) (by decide +kernel)
set_option maxRecDepth 20000 in
theorem gX5_family_X5_finding : GoodIn wsX5_family (wsV RX5 48 RX5 yX5_finding wsX5_finding) := goodIn_app (goodIn_of _ (by decide +kernel)) ggX5_family_X5_finding
set_option maxRecDepth 20000 in
theorem ggX5_family_X2_familyOf : GoodIn wsX5_family wsX2_familyOf := goodIn_r _ [21, 8, 22, 23, 24, 25, 6, 26, 27, 28, 29, 30, 31, 32, 33, 34, 35, 36, 37, 38, 39, 40, 41, 42, 43, 11, 44, 52, 53, 54, 55, 56, 57, 58, 59, 60, 61, 62, 63, 64, 65, 66, 67] (by decide +kernel) (by decide +kernel)
set_option maxRecDepth 20000 in
theorem gX5_family_X2_familyOf : GoodIn wsX5_family (wsV RX5 239 RX2 yX2_familyOf wsX2_familyOf) := goodIn_app (goodIn_of _ (by decide +kernel)) ggX5_family_X2_familyOf
theorem dX5_family_0 : decode cX5_family 0 = .ok (.aload_n 0, 1) := by decide +kernel
theorem dX5_family_1 : decode cX5_family 1 = .ok (.getfield 12, 3) := by decide +kernel
theorem dX5_family_4 : decode cX5_family 4 = .ok (.iload_n 1, 1) := by decide +kernel
theorem dX5_family_5 : decode cX5_family 5 = .ok (.invokevirtual 61, 3) := by decide +kernel
theorem dX5_family_8 : decode cX5_family 8 = .ok (.ifCond .eq 10, 3) := by decide +kernel
theorem dX5_family_11 : decode cX5_family 11 = .ok (.iload_n 2, 1) := by decide +kernel
theorem dX5_family_12 : decode cX5_family 12 = .ok (.invokestatic 44, 3) := by decide +kernel
theorem dX5_family_15 : decode cX5_family 15 = .ok (.ifCond .ne 10, 3) := by decide +kernel
theorem dX5_family_18 : decode cX5_family 18 = .ok (.aload_n 0, 1) := by decide +kernel
theorem dX5_family_19 : decode cX5_family 19 = .ok (.ldc 47, 2) := by decide +kernel
theorem dX5_family_21 : decode cX5_family 21 = .ok (.invokevirtual 48, 3) := by decide +kernel
theorem dX5_family_24 : decode cX5_family 24 = .ok (.ireturn, 1) := by decide +kernel
theorem dX5_family_25 : decode cX5_family 25 = .ok (.aload_n 0, 1) := by decide +kernel
theorem dX5_family_26 : decode cX5_family 26 = .ok (.getfield 12, 3) := by decide +kernel
theorem dX5_family_29 : decode cX5_family 29 = .ok (.iload_n 1, 1) := by decide +kernel
theorem dX5_family_30 : decode cX5_family 30 = .ok (.iload_n 2, 1) := by decide +kernel
theorem dX5_family_31 : decode cX5_family 31 = .ok (.invokevirtual 239, 3) := by decide +kernel
theorem dX5_family_34 : decode cX5_family 34 = .ok (.ireturn, 1) := by decide +kernel
set_option maxRecDepth 20000 in
theorem ggX5_families_X5_isDistance : GoodIn wsX5_families wsX5_isDistance := goodIn_r _ [7] (by decide +kernel) (by decide +kernel)
set_option maxRecDepth 20000 in
theorem gX5_families_X5_isDistance : GoodIn wsX5_families (va_wsS RX5 44 yX5_isDistance wsX5_isDistance) := goodIn_app (goodIn_of _ (by decide +kernel)) ggX5_families_X5_isDistance
set_option maxRecDepth 20000 in
theorem ggX5_families_X5_finding : GoodIn wsX5_families wsX5_finding := goodIn_r _ [11, 12, 42, 43, 44, 45, 46, 47, 48] (by decide +kernel) (by decide +kernel)
set_option maxRecDepth 20000 in
theorem gX5_families_X5_finding : GoodIn wsX5_families (wsV RX5 48 RX5 yX5_finding wsX5_finding) := goodIn_app (goodIn_of _ (by decide +kernel)) ggX5_families_X5_finding
set_option maxRecDepth 20000 in
theorem ggX5_families_X2_familyOf : GoodIn wsX5_families wsX2_familyOf := goodIn_r _ [17, 18, 19, 20, 21, 22, 16, 23, 24, 25, 26, 27, 28, 29, 30, 31, 32, 33, 34, 35, 36, 37, 38, 39, 40, 6, 41, 49, 50, 51, 52, 53, 54, 55, 56, 57, 58, 59, 60, 61, 62, 63, 64] (by decide +kernel) (by decide +kernel)
set_option maxRecDepth 20000 in
theorem gX5_families_X2_familyOf : GoodIn wsX5_families (wsV RX5 239 RX2 yX2_familyOf wsX2_familyOf) := goodIn_app (goodIn_of _ (by decide +kernel)) ggX5_families_X2_familyOf
theorem dX5_families_0 : decode cX5_families 0 = .ok (.iload_n 1, 1) := by decide +kernel
theorem dX5_families_1 : decode cX5_families 1 = .ok (.invokestatic 44, 3) := by decide +kernel
theorem dX5_families_4 : decode cX5_families 4 = .ok (.ifCond .ne 10, 3) := by decide +kernel
theorem dX5_families_7 : decode cX5_families 7 = .ok (.aload_n 0, 1) := by decide +kernel
theorem dX5_families_8 : decode cX5_families 8 = .ok (.ldc 47, 2) := by decide +kernel
theorem dX5_families_10 : decode cX5_families 10 = .ok (.invokevirtual 48, 3) := by decide +kernel
theorem dX5_families_13 : decode cX5_families 13 = .ok (.ireturn, 1) := by decide +kernel
theorem dX5_families_14 : decode cX5_families 14 = .ok (.iconst 0, 1) := by decide +kernel
theorem dX5_families_15 : decode cX5_families 15 = .ok (.istore_n 2, 1) := by decide +kernel
theorem dX5_families_16 : decode cX5_families 16 = .ok (.iconst 0, 1) := by decide +kernel
theorem dX5_families_17 : decode cX5_families 17 = .ok (.istore_n 3, 1) := by decide +kernel
theorem dX5_families_18 : decode cX5_families 18 = .ok (.iload_n 3, 1) := by decide +kernel
theorem dX5_families_19 : decode cX5_families 19 = .ok (.aload_n 0, 1) := by decide +kernel
theorem dX5_families_20 : decode cX5_families 20 = .ok (.getfield 12, 3) := by decide +kernel
theorem dX5_families_23 : decode cX5_families 23 = .ok (.getfield 52, 3) := by decide +kernel
theorem dX5_families_26 : decode cX5_families 26 = .ok (.if_icmp .ge 25, 3) := by decide +kernel
theorem dX5_families_29 : decode cX5_families 29 = .ok (.aload_n 0, 1) := by decide +kernel
theorem dX5_families_30 : decode cX5_families 30 = .ok (.getfield 12, 3) := by decide +kernel
theorem dX5_families_33 : decode cX5_families 33 = .ok (.iload_n 3, 1) := by decide +kernel
theorem dX5_families_34 : decode cX5_families 34 = .ok (.iload_n 1, 1) := by decide +kernel
theorem dX5_families_35 : decode cX5_families 35 = .ok (.invokevirtual 239, 3) := by decide +kernel
theorem dX5_families_38 : decode cX5_families 38 = .ok (.iload_n 3, 1) := by decide +kernel
theorem dX5_families_39 : decode cX5_families 39 = .ok (.if_icmp .ne 6, 3) := by decide +kernel
theorem dX5_families_42 : decode cX5_families 42 = .ok (.iinc 2 1, 3) := by decide +kernel
theorem dX5_families_45 : decode cX5_families 45 = .ok (.iinc 3 1, 3) := by decide +kernel
theorem dX5_families_48 : decode cX5_families 48 = .ok (.goto (-30), 3) := by decide +kernel
theorem dX5_families_51 : decode cX5_families 51 = .ok (.iload_n 2, 1) := by decide +kernel
theorem dX5_families_52 : decode cX5_families 52 = .ok (.ireturn, 1) := by decide +kernel
set_option maxRecDepth 20000 in
theorem ggX5_like_X2_holds : GoodIn wsX5_like wsX2_holds := goodIn_r _ [7, 8, 46, 47, 48, 49, 50, 51, 52] (by decide +kernel) (by decide +kernel)
set_option maxRecDepth 20000 in
theorem gX5_like_X2_holds : GoodIn wsX5_like (wsV RX5 61 RX2 yX2_holds wsX2_holds) := goodIn_app (goodIn_of _ (by decide +kernel)) ggX5_like_X2_holds
set_option maxRecDepth 20000 in
theorem ggX5_like_X5_finding : GoodIn wsX5_like wsX5_finding := goodIn_r _ [13, 14, 39, 40, 41, 42, 43, 44, 45] (by decide +kernel) (by decide +kernel)
set_option maxRecDepth 20000 in
theorem gX5_like_X5_finding : GoodIn wsX5_like (wsV RX5 48 RX5 yX5_finding wsX5_finding) := goodIn_app (goodIn_of _ (by decide +kernel)) ggX5_like_X5_finding
set_option maxRecDepth 20000 in
theorem ggX5_like_X2_sharedGoods : GoodIn wsX5_like wsX2_sharedGoods := goodIn_r _ [18, 19, 20, 21, 22, 23, 24, 25, 26, 27, 46, 47, 48, 49, 50, 51, 52, 53, 54, 55, 56, 57, 58, 59, 60, 61] (by decide +kernel) (by decide +kernel)
