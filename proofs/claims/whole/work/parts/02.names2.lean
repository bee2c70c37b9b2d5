theorem dX0_init_0 : decode cX0_init 0 = .ok (.aload_n 0, 1) := by decide +kernel
theorem dX0_init_1 : decode cX0_init 1 = .ok (.invokespecial 3, 3) := by decide +kernel
theorem dX0_init_4 : decode cX0_init 4 = .ok (.aload_n 0, 1) := by decide +kernel
theorem dX0_init_5 : decode cX0_init 5 = .ok (.bipush 8, 2) := by decide +kernel
theorem dX0_init_7 : decode cX0_init 7 = .ok (.newarray .int, 2) := by decide +kernel
theorem dX0_init_9 : decode cX0_init 9 = .ok (.putfield 9, 3) := by decide +kernel
theorem dX0_init_12 : decode cX0_init 12 = .ok (.aload_n 0, 1) := by decide +kernel
theorem dX0_init_13 : decode cX0_init 13 = .ok (.bipush 8, 2) := by decide +kernel
theorem dX0_init_15 : decode cX0_init 15 = .ok (.newarray .boolean, 2) := by decide +kernel
theorem dX0_init_17 : decode cX0_init 17 = .ok (.putfield 15, 3) := by decide +kernel
theorem dX0_init_20 : decode cX0_init 20 = .ok (.return_, 1) := by decide +kernel
set_option maxRecDepth 20000 in
theorem ggX0_choose_X3_goingOnAt : GoodIn wsX0_choose wsX3_goingOnAt := goodIn_r _ [10, 11, 12, 13, 14, 15, 9, 16, 17, 18, 19, 20, 21, 22, 23, 24, 30, 31, 32, 33, 34, 35, 36, 37] (by decide +kernel) (by decide +kernel)
set_option maxRecDepth 20000 in
theorem gX0_choose_X3_goingOnAt : GoodIn wsX0_choose (wsV RX0 29 RX3 yX3_goingOnAt wsX3_goingOnAt) := goodIn_app (goodIn_of _ (by decide +kernel)) ggX0_choose_X3_goingOnAt
set_option maxRecDepth 20000 in
theorem ggX0_choose_X0_cheapestFree : GoodIn wsX0_choose wsX0_cheapestFree := goodIn_r _ [29, 2, 5, 4, 38, 39, 40, 41] (by decide +kernel) (by decide +kernel)
set_option maxRecDepth 20000 in
theorem gX0_choose_X0_cheapestFree : GoodIn wsX0_choose (wsV RX0 33 RX0 yX0_cheapestFree wsX0_cheapestFree) := goodIn_app (goodIn_of _ (by decide +kernel)) ggX0_choose_X0_cheapestFree
theorem dX0_choose_0 : decode cX0_choose 0 = .ok (.aload_n 0, 1) := by decide +kernel
theorem dX0_choose_1 : decode cX0_choose 1 = .ok (.aload_n 1, 1) := by decide +kernel
theorem dX0_choose_2 : decode cX0_choose 2 = .ok (.getfield 19, 3) := by decide +kernel
theorem dX0_choose_5 : decode cX0_choose 5 = .ok (.putfield 25, 3) := by decide +kernel
theorem dX0_choose_8 : decode cX0_choose 8 = .ok (.aload_n 0, 1) := by decide +kernel
theorem dX0_choose_9 : decode cX0_choose 9 = .ok (.iconst 0, 1) := by decide +kernel
theorem dX0_choose_10 : decode cX0_choose 10 = .ok (.putfield 26, 3) := by decide +kernel
theorem dX0_choose_13 : decode cX0_choose 13 = .ok (.iconst 0, 1) := by decide +kernel
theorem dX0_choose_14 : decode cX0_choose 14 = .ok (.istore_n 3, 1) := by decide +kernel
theorem dX0_choose_15 : decode cX0_choose 15 = .ok (.iload_n 3, 1) := by decide +kernel
theorem dX0_choose_16 : decode cX0_choose 16 = .ok (.aload_n 0, 1) := by decide +kernel
theorem dX0_choose_17 : decode cX0_choose 17 = .ok (.getfield 25, 3) := by decide +kernel
theorem dX0_choose_20 : decode cX0_choose 20 = .ok (.if_icmp .ge 27, 3) := by decide +kernel
theorem dX0_choose_23 : decode cX0_choose 23 = .ok (.aload_n 0, 1) := by decide +kernel
theorem dX0_choose_24 : decode cX0_choose 24 = .ok (.getfield 9, 3) := by decide +kernel
theorem dX0_choose_27 : decode cX0_choose 27 = .ok (.iload_n 3, 1) := by decide +kernel
theorem dX0_choose_28 : decode cX0_choose 28 = .ok (.aload_n 1, 1) := by decide +kernel
theorem dX0_choose_29 : decode cX0_choose 29 = .ok (.iload_n 3, 1) := by decide +kernel
theorem dX0_choose_30 : decode cX0_choose 30 = .ok (.invokevirtual 29, 3) := by decide +kernel
theorem dX0_choose_33 : decode cX0_choose 33 = .ok (.iastore, 1) := by decide +kernel
theorem dX0_choose_34 : decode cX0_choose 34 = .ok (.aload_n 0, 1) := by decide +kernel
theorem dX0_choose_35 : decode cX0_choose 35 = .ok (.getfield 15, 3) := by decide +kernel
theorem dX0_choose_38 : decode cX0_choose 38 = .ok (.iload_n 3, 1) := by decide +kernel
theorem dX0_choose_39 : decode cX0_choose 39 = .ok (.iconst 0, 1) := by decide +kernel
theorem dX0_choose_40 : decode cX0_choose 40 = .ok (.bastore, 1) := by decide +kernel
theorem dX0_choose_41 : decode cX0_choose 41 = .ok (.iinc 3 1, 3) := by decide +kernel
theorem dX0_choose_44 : decode cX0_choose 44 = .ok (.goto (-29), 3) := by decide +kernel
theorem dX0_choose_47 : decode cX0_choose 47 = .ok (.iconst 1, 1) := by decide +kernel
theorem dX0_choose_48 : decode cX0_choose 48 = .ok (.istore_n 3, 1) := by decide +kernel
theorem dX0_choose_49 : decode cX0_choose 49 = .ok (.iload_n 3, 1) := by decide +kernel
theorem dX0_choose_50 : decode cX0_choose 50 = .ok (.iload_n 2, 1) := by decide +kernel
theorem dX0_choose_51 : decode cX0_choose 51 = .ok (.if_icmp .ge 44, 3) := by decide +kernel
theorem dX0_choose_54 : decode cX0_choose 54 = .ok (.aload_n 0, 1) := by decide +kernel
theorem dX0_choose_55 : decode cX0_choose 55 = .ok (.invokevirtual 33, 3) := by decide +kernel
theorem dX0_choose_58 : decode cX0_choose 58 = .ok (.istore 4, 2) := by decide +kernel
theorem dX0_choose_60 : decode cX0_choose 60 = .ok (.iload 4, 2) := by decide +kernel
theorem dX0_choose_62 : decode cX0_choose 62 = .ok (.ifCond .le 27, 3) := by decide +kernel
theorem dX0_choose_65 : decode cX0_choose 65 = .ok (.aload_n 0, 1) := by decide +kernel
theorem dX0_choose_66 : decode cX0_choose 66 = .ok (.getfield 15, 3) := by decide +kernel
theorem dX0_choose_69 : decode cX0_choose 69 = .ok (.iload 4, 2) := by decide +kernel
theorem dX0_choose_71 : decode cX0_choose 71 = .ok (.iconst 1, 1) := by decide +kernel
theorem dX0_choose_72 : decode cX0_choose 72 = .ok (.bastore, 1) := by decide +kernel
theorem dX0_choose_73 : decode cX0_choose 73 = .ok (.aload_n 0, 1) := by decide +kernel
theorem dX0_choose_74 : decode cX0_choose 74 = .ok (.dup, 1) := by decide +kernel
theorem dX0_choose_75 : decode cX0_choose 75 = .ok (.getfield 26, 3) := by decide +kernel
theorem dX0_choose_78 : decode cX0_choose 78 = .ok (.aload_n 0, 1) := by decide +kernel
theorem dX0_choose_79 : decode cX0_choose 79 = .ok (.getfield 9, 3) := by decide +kernel
theorem dX0_choose_82 : decode cX0_choose 82 = .ok (.iload 4, 2) := by decide +kernel
theorem dX0_choose_84 : decode cX0_choose 84 = .ok (.iaload, 1) := by decide +kernel
theorem dX0_choose_85 : decode cX0_choose 85 = .ok (.iadd, 1) := by decide +kernel
theorem dX0_choose_86 : decode cX0_choose 86 = .ok (.putfield 26, 3) := by decide +kernel
theorem dX0_choose_89 : decode cX0_choose 89 = .ok (.iinc 3 1, 3) := by decide +kernel
theorem dX0_choose_92 : decode cX0_choose 92 = .ok (.goto (-43), 3) := by decide +kernel
theorem dX0_choose_95 : decode cX0_choose 95 = .ok (.return_, 1) := by decide +kernel
theorem dX0_cheapestFree_0 : decode cX0_cheapestFree 0 = .ok (.iconst 0, 1) := by decide +kernel
theorem dX0_cheapestFree_1 : decode cX0_cheapestFree 1 = .ok (.istore_n 1, 1) := by decide +kernel
theorem dX0_cheapestFree_2 : decode cX0_cheapestFree 2 = .ok (.iconst 1, 1) := by decide +kernel
theorem dX0_cheapestFree_3 : decode cX0_cheapestFree 3 = .ok (.istore_n 2, 1) := by decide +kernel
theorem dX0_cheapestFree_4 : decode cX0_cheapestFree 4 = .ok (.iload_n 2, 1) := by decide +kernel
theorem dX0_cheapestFree_5 : decode cX0_cheapestFree 5 = .ok (.aload_n 0, 1) := by decide +kernel
theorem dX0_cheapestFree_6 : decode cX0_cheapestFree 6 = .ok (.getfield 25, 3) := by decide +kernel
theorem dX0_cheapestFree_9 : decode cX0_cheapestFree 9 = .ok (.if_icmp .ge 39, 3) := by decide +kernel
theorem dX0_cheapestFree_12 : decode cX0_cheapestFree 12 = .ok (.aload_n 0, 1) := by decide +kernel
theorem dX0_cheapestFree_13 : decode cX0_cheapestFree 13 = .ok (.getfield 15, 3) := by decide +kernel
theorem dX0_cheapestFree_16 : decode cX0_cheapestFree 16 = .ok (.iload_n 2, 1) := by decide +kernel
theorem dX0_cheapestFree_17 : decode cX0_cheapestFree 17 = .ok (.baload, 1) := by decide +kernel
theorem dX0_cheapestFree_18 : decode cX0_cheapestFree 18 = .ok (.ifCond .ne 24, 3) := by decide +kernel
theorem dX0_cheapestFree_21 : decode cX0_cheapestFree 21 = .ok (.iload_n 1, 1) := by decide +kernel
theorem dX0_cheapestFree_22 : decode cX0_cheapestFree 22 = .ok (.ifCond .eq 18, 3) := by decide +kernel
theorem dX0_cheapestFree_25 : decode cX0_cheapestFree 25 = .ok (.aload_n 0, 1) := by decide +kernel
theorem dX0_cheapestFree_26 : decode cX0_cheapestFree 26 = .ok (.getfield 9, 3) := by decide +kernel
theorem dX0_cheapestFree_29 : decode cX0_cheapestFree 29 = .ok (.iload_n 2, 1) := by decide +kernel
theorem dX0_cheapestFree_30 : decode cX0_cheapestFree 30 = .ok (.iaload, 1) := by decide +kernel
theorem dX0_cheapestFree_31 : decode cX0_cheapestFree 31 = .ok (.aload_n 0, 1) := by decide +kernel
theorem dX0_cheapestFree_32 : decode cX0_cheapestFree 32 = .ok (.getfield 9, 3) := by decide +kernel
theorem dX0_cheapestFree_35 : decode cX0_cheapestFree 35 = .ok (.iload_n 1, 1) := by decide +kernel
theorem dX0_cheapestFree_36 : decode cX0_cheapestFree 36 = .ok (.iaload, 1) := by decide +kernel
theorem dX0_cheapestFree_37 : decode cX0_cheapestFree 37 = .ok (.if_icmp .ge 5, 3) := by decide +kernel
theorem dX0_cheapestFree_40 : decode cX0_cheapestFree 40 = .ok (.iload_n 2, 1) := by decide +kernel
theorem dX0_cheapestFree_41 : decode cX0_cheapestFree 41 = .ok (.istore_n 1, 1) := by decide +kernel
theorem dX0_cheapestFree_42 : decode cX0_cheapestFree 42 = .ok (.iinc 2 1, 3) := by decide +kernel
theorem dX0_cheapestFree_45 : decode cX0_cheapestFree 45 = .ok (.goto (-41), 3) := by decide +kernel
theorem dX0_cheapestFree_48 : decode cX0_cheapestFree 48 = .ok (.iload_n 1, 1) := by decide +kernel
theorem dX0_cheapestFree_49 : decode cX0_cheapestFree 49 = .ok (.ireturn, 1) := by decide +kernel
theorem dX0_beginOf_0 : decode cX0_beginOf 0 = .ok (.iconst 0, 1) := by decide +kernel
theorem dX0_beginOf_1 : decode cX0_beginOf 1 = .ok (.istore_n 2, 1) := by decide +kernel
theorem dX0_beginOf_2 : decode cX0_beginOf 2 = .ok (.iconst 1, 1) := by decide +kernel
theorem dX0_beginOf_3 : decode cX0_beginOf 3 = .ok (.istore_n 3, 1) := by decide +kernel
theorem dX0_beginOf_4 : decode cX0_beginOf 4 = .ok (.iload_n 3, 1) := by decide +kernel
theorem dX0_beginOf_5 : decode cX0_beginOf 5 = .ok (.aload_n 0, 1) := by decide +kernel
theorem dX0_beginOf_6 : decode cX0_beginOf 6 = .ok (.getfield 25, 3) := by decide +kernel
theorem dX0_beginOf_9 : decode cX0_beginOf 9 = .ok (.if_icmp .ge 28, 3) := by decide +kernel
theorem dX0_beginOf_12 : decode cX0_beginOf 12 = .ok (.aload_n 0, 1) := by decide +kernel
theorem dX0_beginOf_13 : decode cX0_beginOf 13 = .ok (.getfield 15, 3) := by decide +kernel
theorem dX0_beginOf_16 : decode cX0_beginOf 16 = .ok (.iload_n 3, 1) := by decide +kernel
theorem dX0_beginOf_17 : decode cX0_beginOf 17 = .ok (.baload, 1) := by decide +kernel
theorem dX0_beginOf_18 : decode cX0_beginOf 18 = .ok (.ifCond .eq 13, 3) := by decide +kernel
theorem dX0_beginOf_21 : decode cX0_beginOf 21 = .ok (.iinc 2 1, 3) := by decide +kernel
theorem dX0_beginOf_24 : decode cX0_beginOf 24 = .ok (.iload_n 2, 1) := by decide +kernel
theorem dX0_beginOf_25 : decode cX0_beginOf 25 = .ok (.iload_n 1, 1) := by decide +kernel
theorem dX0_beginOf_26 : decode cX0_beginOf 26 = .ok (.if_icmp .ne 5, 3) := by decide +kernel
theorem dX0_beginOf_29 : decode cX0_beginOf 29 = .ok (.iload_n 3, 1) := by decide +kernel
theorem dX0_beginOf_30 : decode cX0_beginOf 30 = .ok (.ireturn, 1) := by decide +kernel
theorem dX0_beginOf_31 : decode cX0_beginOf 31 = .ok (.iinc 3 1, 3) := by decide +kernel
theorem dX0_beginOf_34 : decode cX0_beginOf 34 = .ok (.goto (-30), 3) := by decide +kernel
theorem dX0_beginOf_37 : decode cX0_beginOf 37 = .ok (.iconst 0, 1) := by decide +kernel
theorem dX0_beginOf_38 : decode cX0_beginOf 38 = .ok (.ireturn, 1) := by decide +kernel
theorem dX1_init_0 : decode cX1_init 0 = .ok (.aload_n 0, 1) := by decide +kernel
theorem dX1_init_1 : decode cX1_init 1 = .ok (.invokespecial 3, 3) := by decide +kernel
theorem dX1_init_4 : decode cX1_init 4 = .ok (.return_, 1) := by decide +kernel
theorem dX1_become_0 : decode cX1_become 0 = .ok (.aload_n 0, 1) := by decide +kernel
theorem dX1_become_1 : decode cX1_become 1 = .ok (.aload_n 1, 1) := by decide +kernel
theorem dX1_become_2 : decode cX1_become 2 = .ok (.getfield 9, 3) := by decide +kernel
theorem dX1_become_5 : decode cX1_become 5 = .ok (.putfield 9, 3) := by decide +kernel
theorem dX1_become_8 : decode cX1_become 8 = .ok (.aload_n 0, 1) := by decide +kernel
theorem dX1_become_9 : decode cX1_become 9 = .ok (.aload_n 1, 1) := by decide +kernel
theorem dX1_become_10 : decode cX1_become 10 = .ok (.getfield 15, 3) := by decide +kernel
theorem dX1_become_13 : decode cX1_become 13 = .ok (.putfield 15, 3) := by decide +kernel
theorem dX1_become_16 : decode cX1_become 16 = .ok (.aload_n 0, 1) := by decide +kernel
theorem dX1_become_17 : decode cX1_become 17 = .ok (.aload_n 1, 1) := by decide +kernel
theorem dX1_become_18 : decode cX1_become 18 = .ok (.getfield 18, 3) := by decide +kernel
theorem dX1_become_21 : decode cX1_become 21 = .ok (.putfield 18, 3) := by decide +kernel
theorem dX1_become_24 : decode cX1_become 24 = .ok (.aload_n 0, 1) := by decide +kernel
theorem dX1_become_25 : decode cX1_become 25 = .ok (.aload_n 1, 1) := by decide +kernel
theorem dX1_become_26 : decode cX1_become 26 = .ok (.getfield 21, 3) := by decide +kernel
theorem dX1_become_29 : decode cX1_become 29 = .ok (.putfield 21, 3) := by decide +kernel
theorem dX1_become_32 : decode cX1_become 32 = .ok (.aload_n 0, 1) := by decide +kernel
theorem dX1_become_33 : decode cX1_become 33 = .ok (.aload_n 1, 1) := by decide +kernel
theorem dX1_become_34 : decode cX1_become 34 = .ok (.getfield 24, 3) := by decide +kernel
theorem dX1_become_37 : decode cX1_become 37 = .ok (.putfield 24, 3) := by decide +kernel
theorem dX1_become_40 : decode cX1_become 40 = .ok (.aload_n 0, 1) := by decide +kernel
theorem dX1_become_41 : decode cX1_become 41 = .ok (.aload_n 1, 1) := by decide +kernel
theorem dX1_become_42 : decode cX1_become 42 = .ok (.getfield 27, 3) := by decide +kernel
theorem dX1_become_45 : decode cX1_become 45 = .ok (.putfield 27, 3) := by decide +kernel
theorem dX1_become_48 : decode cX1_become 48 = .ok (.aload_n 0, 1) := by decide +kernel
theorem dX1_become_49 : decode cX1_become 49 = .ok (.aload_n 1, 1) := by decide +kernel
theorem dX1_become_50 : decode cX1_become 50 = .ok (.getfield 30, 3) := by decide +kernel
theorem dX1_become_53 : decode cX1_become 53 = .ok (.putfield 30, 3) := by decide +kernel
theorem dX1_become_56 : decode cX1_become 56 = .ok (.aload_n 0, 1) := by decide +kernel
theorem dX1_become_57 : decode cX1_become 57 = .ok (.aload_n 1, 1) := by decide +kernel
theorem dX1_become_58 : decode cX1_become 58 = .ok (.getfield 33, 3) := by decide +kernel
theorem dX1_become_61 : decode cX1_become 61 = .ok (.putfield 33, 3) := by decide +kernel
theorem dX1_become_64 : decode cX1_become 64 = .ok (.aload_n 0, 1) := by decide +kernel
theorem dX1_become_65 : decode cX1_become 65 = .ok (.aload_n 1, 1) := by decide +kernel
theorem dX1_become_66 : decode cX1_become 66 = .ok (.getfield 36, 3) := by decide +kernel
theorem dX1_become_69 : decode cX1_become 69 = .ok (.putfield 36, 3) := by decide +kernel
theorem dX1_become_72 : decode cX1_become 72 = .ok (.return_, 1) := by decide +kernel
theorem dX1_beginAs_0 : decode cX1_beginAs 0 = .ok (.aload_n 0, 1) := by decide +kernel
theorem dX1_beginAs_1 : decode cX1_beginAs 1 = .ok (.iload_n 1, 1) := by decide +kernel
theorem dX1_beginAs_2 : decode cX1_beginAs 2 = .ok (.putfield 9, 3) := by decide +kernel
theorem dX1_beginAs_5 : decode cX1_beginAs 5 = .ok (.aload_n 0, 1) := by decide +kernel
theorem dX1_beginAs_6 : decode cX1_beginAs 6 = .ok (.iload_n 2, 1) := by decide +kernel
theorem dX1_beginAs_7 : decode cX1_beginAs 7 = .ok (.putfield 15, 3) := by decide +kernel
theorem dX1_beginAs_10 : decode cX1_beginAs 10 = .ok (.aload_n 0, 1) := by decide +kernel
theorem dX1_beginAs_11 : decode cX1_beginAs 11 = .ok (.iload_n 3, 1) := by decide +kernel
theorem dX1_beginAs_12 : decode cX1_beginAs 12 = .ok (.putfield 18, 3) := by decide +kernel
theorem dX1_beginAs_15 : decode cX1_beginAs 15 = .ok (.aload_n 0, 1) := by decide +kernel
theorem dX1_beginAs_16 : decode cX1_beginAs 16 = .ok (.iconst 0, 1) := by decide +kernel
theorem dX1_beginAs_17 : decode cX1_beginAs 17 = .ok (.putfield 21, 3) := by decide +kernel
theorem dX1_beginAs_20 : decode cX1_beginAs 20 = .ok (.aload_n 0, 1) := by decide +kernel
theorem dX1_beginAs_21 : decode cX1_beginAs 21 = .ok (.sipush (-5000), 3) := by decide +kernel
theorem dX1_beginAs_24 : decode cX1_beginAs 24 = .ok (.putfield 24, 3) := by decide +kernel
theorem dX1_beginAs_27 : decode cX1_beginAs 27 = .ok (.aload_n 0, 1) := by decide +kernel
theorem dX1_beginAs_28 : decode cX1_beginAs 28 = .ok (.sipush 5000, 3) := by decide +kernel
theorem dX1_beginAs_31 : decode cX1_beginAs 31 = .ok (.putfield 27, 3) := by decide +kernel
theorem dX1_beginAs_34 : decode cX1_beginAs 34 = .ok (.aload_n 0, 1) := by decide +kernel
theorem dX1_beginAs_35 : decode cX1_beginAs 35 = .ok (.iconst 0, 1) := by decide +kernel
theorem dX1_beginAs_36 : decode cX1_beginAs 36 = .ok (.putfield 30, 3) := by decide +kernel
theorem dX1_beginAs_39 : decode cX1_beginAs 39 = .ok (.aload_n 0, 1) := by decide +kernel
theorem dX1_beginAs_40 : decode cX1_beginAs 40 = .ok (.iconst 0, 1) := by decide +kernel
theorem dX1_beginAs_41 : decode cX1_beginAs 41 = .ok (.putfield 33, 3) := by decide +kernel
theorem dX1_beginAs_44 : decode cX1_beginAs 44 = .ok (.aload_n 0, 1) := by decide +kernel
theorem dX1_beginAs_45 : decode cX1_beginAs 45 = .ok (.iconst 0, 1) := by decide +kernel
theorem dX1_beginAs_46 : decode cX1_beginAs 46 = .ok (.putfield 36, 3) := by decide +kernel
theorem dX1_beginAs_49 : decode cX1_beginAs 49 = .ok (.return_, 1) := by decide +kernel
theorem dX1_isOfKind_0 : decode cX1_isOfKind 0 = .ok (.aload_n 0, 1) := by decide +kernel
theorem dX1_isOfKind_1 : decode cX1_isOfKind 1 = .ok (.getfield 9, 3) := by decide +kernel
theorem dX1_isOfKind_4 : decode cX1_isOfKind 4 = .ok (.istore_n 2, 1) := by decide +kernel
theorem dX1_isOfKind_5 : decode cX1_isOfKind 5 = .ok (.iconst 0, 1) := by decide +kernel
theorem dX1_isOfKind_6 : decode cX1_isOfKind 6 = .ok (.istore_n 3, 1) := by decide +kernel
theorem dX1_isOfKind_7 : decode cX1_isOfKind 7 = .ok (.iload_n 3, 1) := by decide +kernel
theorem dX1_isOfKind_8 : decode cX1_isOfKind 8 = .ok (.iconst 4, 1) := by decide +kernel
theorem dX1_isOfKind_9 : decode cX1_isOfKind 9 = .ok (.if_icmp .ge 26, 3) := by decide +kernel
theorem dX1_isOfKind_12 : decode cX1_isOfKind 12 = .ok (.iload_n 2, 1) := by decide +kernel
theorem dX1_isOfKind_13 : decode cX1_isOfKind 13 = .ok (.ifCond .lt 22, 3) := by decide +kernel
theorem dX1_isOfKind_16 : decode cX1_isOfKind 16 = .ok (.iload_n 2, 1) := by decide +kernel
theorem dX1_isOfKind_17 : decode cX1_isOfKind 17 = .ok (.iload_n 1, 1) := by decide +kernel
theorem dX1_isOfKind_18 : decode cX1_isOfKind 18 = .ok (.if_icmp .ne 5, 3) := by decide +kernel
theorem dX1_isOfKind_21 : decode cX1_isOfKind 21 = .ok (.iconst 1, 1) := by decide +kernel
theorem dX1_isOfKind_22 : decode cX1_isOfKind 22 = .ok (.ireturn, 1) := by decide +kernel
theorem dX1_isOfKind_23 : decode cX1_isOfKind 23 = .ok (.getstatic 39, 3) := by decide +kernel
theorem dX1_isOfKind_26 : decode cX1_isOfKind 26 = .ok (.iload_n 2, 1) := by decide +kernel
theorem dX1_isOfKind_27 : decode cX1_isOfKind 27 = .ok (.iaload, 1) := by decide +kernel
theorem dX1_isOfKind_28 : decode cX1_isOfKind 28 = .ok (.istore_n 2, 1) := by decide +kernel
theorem dX1_isOfKind_29 : decode cX1_isOfKind 29 = .ok (.iinc 3 1, 3) := by decide +kernel
theorem dX1_isOfKind_32 : decode cX1_isOfKind 32 = .ok (.goto (-25), 3) := by decide +kernel
theorem dX1_isOfKind_35 : decode cX1_isOfKind 35 = .ok (.iconst 0, 1) := by decide +kernel
theorem dX1_isOfKind_36 : decode cX1_isOfKind 36 = .ok (.ireturn, 1) := by decide +kernel
set_option maxRecDepth 20000 in
theorem ggX1_goodsSurelyLacked_X1_isOfKind : GoodIn wsX1_goodsSurelyLacked wsX1_isOfKind := goodIn_r _ [6, 7, 8, 9, 10, 11, 12, 13, 14, 15, 16, 17] (by decide +kernel) (by decide +kernel)
set_option maxRecDepth 20000 in
theorem gX1_goodsSurelyLacked_X1_isOfKind : GoodIn wsX1_goodsSurelyLacked (wsV RX1 43 RX1 yX1_isOfKind wsX1_isOfKind) := goodIn_app (goodIn_of _ (by decide +kernel)) ggX1_goodsSurelyLacked_X1_isOfKind
theorem dX1_goodsSurelyLacked_0 : decode cX1_goodsSurelyLacked 0 = .ok (.aload_n 0, 1) := by decide +kernel
theorem dX1_goodsSurelyLacked_1 : decode cX1_goodsSurelyLacked 1 = .ok (.iconst 1, 1) := by decide +kernel
theorem dX1_goodsSurelyLacked_2 : decode cX1_goodsSurelyLacked 2 = .ok (.invokevirtual 43, 3) := by decide +kernel
theorem dX1_goodsSurelyLacked_5 : decode cX1_goodsSurelyLacked 5 = .ok (.ifCond .eq 7, 3) := by decide +kernel
theorem dX1_goodsSurelyLacked_8 : decode cX1_goodsSurelyLacked 8 = .ok (.iconst 0, 1) := by decide +kernel
theorem dX1_goodsSurelyLacked_9 : decode cX1_goodsSurelyLacked 9 = .ok (.goto 13, 3) := by decide +kernel
theorem dX1_goodsSurelyLacked_12 : decode cX1_goodsSurelyLacked 12 = .ok (.sipush 4095, 3) := by decide +kernel
theorem dX1_goodsSurelyLacked_15 : decode cX1_goodsSurelyLacked 15 = .ok (.aload_n 0, 1) := by decide +kernel
theorem dX1_goodsSurelyLacked_16 : decode cX1_goodsSurelyLacked 16 = .ok (.getfield 21, 3) := by decide +kernel
theorem dX1_goodsSurelyLacked_19 : decode cX1_goodsSurelyLacked 19 = .ok (.iconst (-1), 1) := by decide +kernel
theorem dX1_goodsSurelyLacked_20 : decode cX1_goodsSurelyLacked 20 = .ok (.ixor, 1) := by decide +kernel
theorem dX1_goodsSurelyLacked_21 : decode cX1_goodsSurelyLacked 21 = .ok (.iand, 1) := by decide +kernel
theorem dX1_goodsSurelyLacked_22 : decode cX1_goodsSurelyLacked 22 = .ok (.ireturn, 1) := by decide +kernel
theorem dX1_isWithin_0 : decode cX1_isWithin 0 = .ok (.aload_n 0, 1) := by decide +kernel
theorem dX1_isWithin_1 : decode cX1_isWithin 1 = .ok (.getfield 15, 3) := by decide +kernel
theorem dX1_isWithin_4 : decode cX1_isWithin 4 = .ok (.aload_n 2, 1) := by decide +kernel
theorem dX1_isWithin_5 : decode cX1_isWithin 5 = .ok (.getfield 15, 3) := by decide +kernel
theorem dX1_isWithin_8 : decode cX1_isWithin 8 = .ok (.isub, 1) := by decide +kernel
theorem dX1_isWithin_9 : decode cX1_isWithin 9 = .ok (.invokestatic 47, 3) := by decide +kernel
theorem dX1_isWithin_12 : decode cX1_isWithin 12 = .ok (.iload_n 1, 1) := by decide +kernel
theorem dX1_isWithin_13 : decode cX1_isWithin 13 = .ok (.if_icmp .gt 23, 3) := by decide +kernel
theorem dX1_isWithin_16 : decode cX1_isWithin 16 = .ok (.aload_n 0, 1) := by decide +kernel
theorem dX1_isWithin_17 : decode cX1_isWithin 17 = .ok (.getfield 18, 3) := by decide +kernel
theorem dX1_isWithin_20 : decode cX1_isWithin 20 = .ok (.aload_n 2, 1) := by decide +kernel
theorem dX1_isWithin_21 : decode cX1_isWithin 21 = .ok (.getfield 18, 3) := by decide +kernel
theorem dX1_isWithin_24 : decode cX1_isWithin 24 = .ok (.isub, 1) := by decide +kernel
theorem dX1_isWithin_25 : decode cX1_isWithin 25 = .ok (.invokestatic 47, 3) := by decide +kernel
theorem dX1_isWithin_28 : decode cX1_isWithin 28 = .ok (.iload_n 1, 1) := by decide +kernel
theorem dX1_isWithin_29 : decode cX1_isWithin 29 = .ok (.if_icmp .gt 7, 3) := by decide +kernel
theorem dX1_isWithin_32 : decode cX1_isWithin 32 = .ok (.iconst 1, 1) := by decide +kernel
theorem dX1_isWithin_33 : decode cX1_isWithin 33 = .ok (.goto 4, 3) := by decide +kernel
theorem dX1_isWithin_36 : decode cX1_isWithin 36 = .ok (.iconst 0, 1) := by decide +kernel
theorem dX1_isWithin_37 : decode cX1_isWithin 37 = .ok (.ireturn, 1) := by decide +kernel
theorem dX1_setMark_0 : decode cX1_setMark 0 = .ok (.iconst 1, 1) := by decide +kernel
theorem dX1_setMark_1 : decode cX1_setMark 1 = .ok (.iload_n 1, 1) := by decide +kernel
theorem dX1_setMark_2 : decode cX1_setMark 2 = .ok (.ishl, 1) := by decide +kernel
theorem dX1_setMark_3 : decode cX1_setMark 3 = .ok (.istore_n 3, 1) := by decide +kernel
theorem dX1_setMark_4 : decode cX1_setMark 4 = .ok (.aload_n 0, 1) := by decide +kernel
theorem dX1_setMark_5 : decode cX1_setMark 5 = .ok (.getfield 33, 3) := by decide +kernel
theorem dX1_setMark_8 : decode cX1_setMark 8 = .ok (.iload_n 3, 1) := by decide +kernel
theorem dX1_setMark_9 : decode cX1_setMark 9 = .ok (.iand, 1) := by decide +kernel
theorem dX1_setMark_10 : decode cX1_setMark 10 = .ok (.ifCond .ne 7, 3) := by decide +kernel
theorem dX1_setMark_13 : decode cX1_setMark 13 = .ok (.iconst 1, 1) := by decide +kernel
theorem dX1_setMark_14 : decode cX1_setMark 14 = .ok (.goto 4, 3) := by decide +kernel
theorem dX1_setMark_17 : decode cX1_setMark 17 = .ok (.iconst 0, 1) := by decide +kernel
theorem dX1_setMark_18 : decode cX1_setMark 18 = .ok (.istore 4, 2) := by decide +kernel
theorem dX1_setMark_20 : decode cX1_setMark 20 = .ok (.aload_n 0, 1) := by decide +kernel
theorem dX1_setMark_21 : decode cX1_setMark 21 = .ok (.dup, 1) := by decide +kernel
theorem dX1_setMark_22 : decode cX1_setMark 22 = .ok (.getfield 33, 3) := by decide +kernel
theorem dX1_setMark_25 : decode cX1_setMark 25 = .ok (.iload_n 3, 1) := by decide +kernel
theorem dX1_setMark_26 : decode cX1_setMark 26 = .ok (.ior, 1) := by decide +kernel
theorem dX1_setMark_27 : decode cX1_setMark 27 = .ok (.putfield 33, 3) := by decide +kernel
theorem dX1_setMark_30 : decode cX1_setMark 30 = .ok (.aload_n 0, 1) := by decide +kernel
theorem dX1_setMark_31 : decode cX1_setMark 31 = .ok (.iload_n 2, 1) := by decide +kernel
theorem dX1_setMark_32 : decode cX1_setMark 32 = .ok (.ifCond .eq 12, 3) := by decide +kernel
theorem dX1_setMark_35 : decode cX1_setMark 35 = .ok (.aload_n 0, 1) := by decide +kernel
theorem dX1_setMark_36 : decode cX1_setMark 36 = .ok (.getfield 36, 3) := by decide +kernel
theorem dX1_setMark_39 : decode cX1_setMark 39 = .ok (.iload_n 3, 1) := by decide +kernel
theorem dX1_setMark_40 : decode cX1_setMark 40 = .ok (.ior, 1) := by decide +kernel
theorem dX1_setMark_41 : decode cX1_setMark 41 = .ok (.goto 11, 3) := by decide +kernel
theorem dX1_setMark_44 : decode cX1_setMark 44 = .ok (.aload_n 0, 1) := by decide +kernel
theorem dX1_setMark_45 : decode cX1_setMark 45 = .ok (.getfield 36, 3) := by decide +kernel
theorem dX1_setMark_48 : decode cX1_setMark 48 = .ok (.iload_n 3, 1) := by decide +kernel
theorem dX1_setMark_49 : decode cX1_setMark 49 = .ok (.iconst (-1), 1) := by decide +kernel
theorem dX1_setMark_50 : decode cX1_setMark 50 = .ok (.ixor, 1) := by decide +kernel
theorem dX1_setMark_51 : decode cX1_setMark 51 = .ok (.iand, 1) := by decide +kernel
theorem dX1_setMark_52 : decode cX1_setMark 52 = .ok (.putfield 36, 3) := by decide +kernel
theorem dX1_setMark_55 : decode cX1_setMark 55 = .ok (.iload 4, 2) := by decide +kernel
theorem dX1_setMark_57 : decode cX1_setMark 57 = .ok (.ireturn, 1) := by decide +kernel
set_option maxRecDepth 20000 in
theorem ggX2_init_X1_init : GoodIn wsX2_init wsX1_init := goodIn_r _ [14, 15, 2, 3] (by decide +kernel) (by decide +kernel)
set_option maxRecDepth 20000 in
theorem gX2_init_X1_init_n30 : GoodIn wsX2_init (wsX1_init) := ggX2_init_X1_init
theorem dX2_init_0 : decode cX2_init 0 = .ok (.aload_n 0, 1) := by decide +kernel
theorem dX2_init_1 : decode cX2_init 1 = .ok (.invokespecial 3, 3) := by decide +kernel
theorem dX2_init_4 : decode cX2_init 4 = .ok (.aload_n 0, 1) := by decide +kernel
theorem dX2_init_5 : decode cX2_init 5 = .ok (.bipush 10, 2) := by decide +kernel
theorem dX2_init_7 : decode cX2_init 7 = .ok (.anewarray 9, 3) := by decide +kernel
theorem dX2_init_10 : decode cX2_init 10 = .ok (.putfield 11, 3) := by decide +kernel
theorem dX2_init_13 : decode cX2_init 13 = .ok (.aload_n 0, 1) := by decide +kernel
theorem dX2_init_14 : decode cX2_init 14 = .ok (.bipush 6, 2) := by decide +kernel
theorem dX2_init_16 : decode cX2_init 16 = .ok (.newarray .int, 2) := by decide +kernel
theorem dX2_init_18 : decode cX2_init 18 = .ok (.putfield 17, 3) := by decide +kernel
theorem dX2_init_21 : decode cX2_init 21 = .ok (.aload_n 0, 1) := by decide +kernel
theorem dX2_init_22 : decode cX2_init 22 = .ok (.bipush 6, 2) := by decide +kernel
theorem dX2_init_24 : decode cX2_init 24 = .ok (.newarray .int, 2) := by decide +kernel
theorem dX2_init_26 : decode cX2_init 26 = .ok (.putfield 21, 3) := by decide +kernel
theorem dX2_init_29 : decode cX2_init 29 = .ok (.aload_n 0, 1) := by decide +kernel
theorem dX2_init_30 : decode cX2_init 30 = .ok (.bipush 12, 2) := by decide +kernel
theorem dX2_init_32 : decode cX2_init 32 = .ok (.newarray .int, 2) := by decide +kernel
theorem dX2_init_34 : decode cX2_init 34 = .ok (.putfield 24, 3) := by decide +kernel
theorem dX2_init_37 : decode cX2_init 37 = .ok (.aload_n 0, 1) := by decide +kernel
theorem dX2_init_38 : decode cX2_init 38 = .ok (.bipush 10, 2) := by decide +kernel
theorem dX2_init_40 : decode cX2_init 40 = .ok (.newarray .int, 2) := by decide +kernel
theorem dX2_init_42 : decode cX2_init 42 = .ok (.putfield 27, 3) := by decide +kernel
theorem dX2_init_45 : decode cX2_init 45 = .ok (.iconst 0, 1) := by decide +kernel
theorem dX2_init_46 : decode cX2_init 46 = .ok (.istore_n 1, 1) := by decide +kernel
theorem dX2_init_47 : decode cX2_init 47 = .ok (.iload_n 1, 1) := by decide +kernel
theorem dX2_init_48 : decode cX2_init 48 = .ok (.bipush 10, 2) := by decide +kernel
theorem dX2_init_50 : decode cX2_init 50 = .ok (.if_icmp .ge 22, 3) := by decide +kernel
theorem dX2_init_53 : decode cX2_init 53 = .ok (.aload_n 0, 1) := by decide +kernel
theorem dX2_init_54 : decode cX2_init 54 = .ok (.getfield 11, 3) := by decide +kernel
theorem dX2_init_57 : decode cX2_init 57 = .ok (.iload_n 1, 1) := by decide +kernel
theorem dX2_init_58 : decode cX2_init 58 = .ok (.new 9, 3) := by decide +kernel
theorem dX2_init_61 : decode cX2_init 61 = .ok (.dup, 1) := by decide +kernel
theorem dX2_init_62 : decode cX2_init 62 = .ok (.invokespecial 30, 3) := by decide +kernel
theorem dX2_init_65 : decode cX2_init 65 = .ok (.aastore, 1) := by decide +kernel
theorem dX2_init_66 : decode cX2_init 66 = .ok (.iinc 1 1, 3) := by decide +kernel
theorem dX2_init_69 : decode cX2_init 69 = .ok (.goto (-22), 3) := by decide +kernel
theorem dX2_init_72 : decode cX2_init 72 = .ok (.iconst 0, 1) := by decide +kernel
theorem dX2_init_73 : decode cX2_init 73 = .ok (.istore_n 1, 1) := by decide +kernel
theorem dX2_init_74 : decode cX2_init 74 = .ok (.iload_n 1, 1) := by decide +kernel
theorem dX2_init_75 : decode cX2_init 75 = .ok (.bipush 6, 2) := by decide +kernel
theorem dX2_init_77 : decode cX2_init 77 = .ok (.if_icmp .ge 25, 3) := by decide +kernel
theorem dX2_init_80 : decode cX2_init 80 = .ok (.aload_n 0, 1) := by decide +kernel
theorem dX2_init_81 : decode cX2_init 81 = .ok (.getfield 17, 3) := by decide +kernel
theorem dX2_init_84 : decode cX2_init 84 = .ok (.iload_n 1, 1) := by decide +kernel
theorem dX2_init_85 : decode cX2_init 85 = .ok (.bipush 10, 2) := by decide +kernel
theorem dX2_init_87 : decode cX2_init 87 = .ok (.iastore, 1) := by decide +kernel
theorem dX2_init_88 : decode cX2_init 88 = .ok (.aload_n 0, 1) := by decide +kernel
theorem dX2_init_89 : decode cX2_init 89 = .ok (.getfield 21, 3) := by decide +kernel
theorem dX2_init_92 : decode cX2_init 92 = .ok (.iload_n 1, 1) := by decide +kernel
theorem dX2_init_93 : decode cX2_init 93 = .ok (.bipush 10, 2) := by decide +kernel
theorem dX2_init_95 : decode cX2_init 95 = .ok (.iastore, 1) := by decide +kernel
theorem dX2_init_96 : decode cX2_init 96 = .ok (.iinc 1 1, 3) := by decide +kernel
theorem dX2_init_99 : decode cX2_init 99 = .ok (.goto (-25), 3) := by decide +kernel
theorem dX2_init_102 : decode cX2_init 102 = .ok (.return_, 1) := by decide +kernel
set_option maxRecDepth 20000 in
theorem ggX2_become_X1_become : GoodIn wsX2_become wsX1_become := goodIn_r _ [15, 16, 17, 18, 19, 20, 21, 22, 23, 24, 32, 33, 34, 35, 36, 37, 38, 39, 40] (by decide +kernel) (by decide +kernel)
set_option maxRecDepth 20000 in
theorem gX2_become_X1_become : GoodIn wsX2_become (wsV RX2 31 RX1 yX1_become wsX1_become) := goodIn_app (goodIn_of _ (by decide +kernel)) ggX2_become_X1_become
theorem dX2_become_0 : decode cX2_become 0 = .ok (.iconst 0, 1) := by decide +kernel
theorem dX2_become_1 : decode cX2_become 1 = .ok (.istore_n 2, 1) := by decide +kernel
theorem dX2_become_2 : decode cX2_become 2 = .ok (.iload_n 2, 1) := by decide +kernel
theorem dX2_become_3 : decode cX2_become 3 = .ok (.bipush 10, 2) := by decide +kernel
theorem dX2_become_5 : decode cX2_become 5 = .ok (.if_icmp .ge 24, 3) := by decide +kernel
theorem dX2_become_8 : decode cX2_become 8 = .ok (.aload_n 0, 1) := by decide +kernel
theorem dX2_become_9 : decode cX2_become 9 = .ok (.getfield 11, 3) := by decide +kernel
theorem dX2_become_12 : decode cX2_become 12 = .ok (.iload_n 2, 1) := by decide +kernel
theorem dX2_become_13 : decode cX2_become 13 = .ok (.aaload, 1) := by decide +kernel
theorem dX2_become_14 : decode cX2_become 14 = .ok (.aload_n 1, 1) := by decide +kernel
theorem dX2_become_15 : decode cX2_become 15 = .ok (.getfield 11, 3) := by decide +kernel
theorem dX2_become_18 : decode cX2_become 18 = .ok (.iload_n 2, 1) := by decide +kernel
theorem dX2_become_19 : decode cX2_become 19 = .ok (.aaload, 1) := by decide +kernel
theorem dX2_become_20 : decode cX2_become 20 = .ok (.invokevirtual 31, 3) := by decide +kernel
theorem dX2_become_23 : decode cX2_become 23 = .ok (.iinc 2 1, 3) := by decide +kernel
theorem dX2_become_26 : decode cX2_become 26 = .ok (.goto (-24), 3) := by decide +kernel
theorem dX2_become_29 : decode cX2_become 29 = .ok (.aload_n 1, 1) := by decide +kernel
theorem dX2_become_30 : decode cX2_become 30 = .ok (.getfield 17, 3) := by decide +kernel
theorem dX2_become_33 : decode cX2_become 33 = .ok (.iconst 0, 1) := by decide +kernel
theorem dX2_become_34 : decode cX2_become 34 = .ok (.aload_n 0, 1) := by decide +kernel
theorem dX2_become_35 : decode cX2_become 35 = .ok (.getfield 17, 3) := by decide +kernel
theorem dX2_become_38 : decode cX2_become 38 = .ok (.iconst 0, 1) := by decide +kernel
theorem dX2_become_39 : decode cX2_become 39 = .ok (.bipush 6, 2) := by decide +kernel
theorem dX2_become_41 : decode cX2_become 41 = .ok (.invokestatic 35, 3) := by decide +kernel
theorem dX2_become_44 : decode cX2_become 44 = .ok (.aload_n 1, 1) := by decide +kernel
theorem dX2_become_45 : decode cX2_become 45 = .ok (.getfield 21, 3) := by decide +kernel
theorem dX2_become_48 : decode cX2_become 48 = .ok (.iconst 0, 1) := by decide +kernel
theorem dX2_become_49 : decode cX2_become 49 = .ok (.aload_n 0, 1) := by decide +kernel
theorem dX2_become_50 : decode cX2_become 50 = .ok (.getfield 21, 3) := by decide +kernel
theorem dX2_become_53 : decode cX2_become 53 = .ok (.iconst 0, 1) := by decide +kernel
theorem dX2_become_54 : decode cX2_become 54 = .ok (.bipush 6, 2) := by decide +kernel
theorem dX2_become_56 : decode cX2_become 56 = .ok (.invokestatic 35, 3) := by decide +kernel
theorem dX2_become_59 : decode cX2_become 59 = .ok (.aload_n 1, 1) := by decide +kernel
theorem dX2_become_60 : decode cX2_become 60 = .ok (.getfield 24, 3) := by decide +kernel
theorem dX2_become_63 : decode cX2_become 63 = .ok (.iconst 0, 1) := by decide +kernel
theorem dX2_become_64 : decode cX2_become 64 = .ok (.aload_n 0, 1) := by decide +kernel
theorem dX2_become_65 : decode cX2_become 65 = .ok (.getfield 24, 3) := by decide +kernel
theorem dX2_become_68 : decode cX2_become 68 = .ok (.iconst 0, 1) := by decide +kernel
theorem dX2_become_69 : decode cX2_become 69 = .ok (.bipush 12, 2) := by decide +kernel
theorem dX2_become_71 : decode cX2_become 71 = .ok (.invokestatic 35, 3) := by decide +kernel
theorem dX2_become_74 : decode cX2_become 74 = .ok (.aload_n 0, 1) := by decide +kernel
theorem dX2_become_75 : decode cX2_become 75 = .ok (.aload_n 1, 1) := by decide +kernel
theorem dX2_become_76 : decode cX2_become 76 = .ok (.getfield 41, 3) := by decide +kernel
theorem dX2_become_79 : decode cX2_become 79 = .ok (.putfield 41, 3) := by decide +kernel
theorem dX2_become_82 : decode cX2_become 82 = .ok (.aload_n 0, 1) := by decide +kernel
theorem dX2_become_83 : decode cX2_become 83 = .ok (.aload_n 1, 1) := by decide +kernel
theorem dX2_become_84 : decode cX2_become 84 = .ok (.getfield 45, 3) := by decide +kernel
theorem dX2_become_87 : decode cX2_become 87 = .ok (.putfield 45, 3) := by decide +kernel
theorem dX2_become_90 : decode cX2_become 90 = .ok (.return_, 1) := by decide +kernel
theorem dX2_holds_0 : decode cX2_holds 0 = .ok (.iload_n 1, 1) := by decide +kernel
theorem dX2_holds_1 : decode cX2_holds 1 = .ok (.ifCond .lt 15, 3) := by decide +kernel
theorem dX2_holds_4 : decode cX2_holds 4 = .ok (.iload_n 1, 1) := by decide +kernel
theorem dX2_holds_5 : decode cX2_holds 5 = .ok (.aload_n 0, 1) := by decide +kernel
theorem dX2_holds_6 : decode cX2_holds 6 = .ok (.getfield 41, 3) := by decide +kernel
theorem dX2_holds_9 : decode cX2_holds 9 = .ok (.if_icmp .ge 7, 3) := by decide +kernel
theorem dX2_holds_12 : decode cX2_holds 12 = .ok (.iconst 1, 1) := by decide +kernel
theorem dX2_holds_13 : decode cX2_holds 13 = .ok (.goto 4, 3) := by decide +kernel
theorem dX2_holds_16 : decode cX2_holds 16 = .ok (.iconst 0, 1) := by decide +kernel
theorem dX2_holds_17 : decode cX2_holds 17 = .ok (.ireturn, 1) := by decide +kernel
set_option maxRecDepth 20000 in
theorem ggX2_open_X1_beginAs : GoodIn wsX2_open wsX1_beginAs := goodIn_r _ [7, 8, 9, 10, 11, 12, 13, 14, 15, 16, 24, 25, 26, 27, 28, 29, 30, 31, 32] (by decide +kernel) (by decide +kernel)
set_option maxRecDepth 20000 in
theorem gX2_open_X1_beginAs : GoodIn wsX2_open (wsV RX2 48 RX1 yX1_beginAs wsX1_beginAs) := goodIn_app (goodIn_of _ (by decide +kernel)) ggX2_open_X1_beginAs
theorem dX2_open_0 : decode cX2_open 0 = .ok (.aload_n 0, 1) := by decide +kernel
theorem dX2_open_1 : decode cX2_open 1 = .ok (.getfield 11, 3) := by decide +kernel
theorem dX2_open_4 : decode cX2_open 4 = .ok (.aload_n 0, 1) := by decide +kernel
theorem dX2_open_5 : decode cX2_open 5 = .ok (.getfield 41, 3) := by decide +kernel
theorem dX2_open_8 : decode cX2_open 8 = .ok (.aaload, 1) := by decide +kernel
theorem dX2_open_9 : decode cX2_open 9 = .ok (.iload_n 1, 1) := by decide +kernel
theorem dX2_open_10 : decode cX2_open 10 = .ok (.iload_n 2, 1) := by decide +kernel
theorem dX2_open_11 : decode cX2_open 11 = .ok (.iload_n 3, 1) := by decide +kernel
theorem dX2_open_12 : decode cX2_open 12 = .ok (.invokevirtual 48, 3) := by decide +kernel
theorem dX2_open_15 : decode cX2_open 15 = .ok (.aload_n 0, 1) := by decide +kernel
theorem dX2_open_16 : decode cX2_open 16 = .ok (.dup, 1) := by decide +kernel
theorem dX2_open_17 : decode cX2_open 17 = .ok (.getfield 41, 3) := by decide +kernel
theorem dX2_open_20 : decode cX2_open 20 = .ok (.iconst 1, 1) := by decide +kernel
theorem dX2_open_21 : decode cX2_open 21 = .ok (.iadd, 1) := by decide +kernel
theorem dX2_open_22 : decode cX2_open 22 = .ok (.putfield 41, 3) := by decide +kernel
theorem dX2_open_25 : decode cX2_open 25 = .ok (.aload_n 0, 1) := by decide +kernel
theorem dX2_open_26 : decode cX2_open 26 = .ok (.getfield 41, 3) := by decide +kernel
theorem dX2_open_29 : decode cX2_open 29 = .ok (.iconst 1, 1) := by decide +kernel
theorem dX2_open_30 : decode cX2_open 30 = .ok (.isub, 1) := by decide +kernel
theorem dX2_open_31 : decode cX2_open 31 = .ok (.ireturn, 1) := by decide +kernel
theorem dX2_closeLast_0 : decode cX2_closeLast 0 = .ok (.aload_n 0, 1) := by decide +kernel
theorem dX2_closeLast_1 : decode cX2_closeLast 1 = .ok (.dup, 1) := by decide +kernel
theorem dX2_closeLast_2 : decode cX2_closeLast 2 = .ok (.getfield 41, 3) := by decide +kernel
theorem dX2_closeLast_5 : decode cX2_closeLast 5 = .ok (.iconst 1, 1) := by decide +kernel
theorem dX2_closeLast_6 : decode cX2_closeLast 6 = .ok (.isub, 1) := by decide +kernel
theorem dX2_closeLast_7 : decode cX2_closeLast 7 = .ok (.putfield 41, 3) := by decide +kernel
theorem dX2_closeLast_10 : decode cX2_closeLast 10 = .ok (.iconst 0, 1) := by decide +kernel
theorem dX2_closeLast_11 : decode cX2_closeLast 11 = .ok (.istore_n 1, 1) := by decide +kernel
theorem dX2_closeLast_12 : decode cX2_closeLast 12 = .ok (.iload_n 1, 1) := by decide +kernel
theorem dX2_closeLast_13 : decode cX2_closeLast 13 = .ok (.aload_n 0, 1) := by decide +kernel
theorem dX2_closeLast_14 : decode cX2_closeLast 14 = .ok (.getfield 41, 3) := by decide +kernel
theorem dX2_closeLast_17 : decode cX2_closeLast 17 = .ok (.if_icmp .ge 31, 3) := by decide +kernel
theorem dX2_closeLast_20 : decode cX2_closeLast 20 = .ok (.aload_n 0, 1) := by decide +kernel
theorem dX2_closeLast_21 : decode cX2_closeLast 21 = .ok (.getfield 11, 3) := by decide +kernel
theorem dX2_closeLast_24 : decode cX2_closeLast 24 = .ok (.iload_n 1, 1) := by decide +kernel
theorem dX2_closeLast_25 : decode cX2_closeLast 25 = .ok (.aaload, 1) := by decide +kernel
theorem dX2_closeLast_26 : decode cX2_closeLast 26 = .ok (.dup, 1) := by decide +kernel
theorem dX2_closeLast_27 : decode cX2_closeLast 27 = .ok (.getfield 52, 3) := by decide +kernel
theorem dX2_closeLast_30 : decode cX2_closeLast 30 = .ok (.iconst 1, 1) := by decide +kernel
theorem dX2_closeLast_31 : decode cX2_closeLast 31 = .ok (.aload_n 0, 1) := by decide +kernel
theorem dX2_closeLast_32 : decode cX2_closeLast 32 = .ok (.getfield 41, 3) := by decide +kernel
theorem dX2_closeLast_35 : decode cX2_closeLast 35 = .ok (.ishl, 1) := by decide +kernel
theorem dX2_closeLast_36 : decode cX2_closeLast 36 = .ok (.iconst (-1), 1) := by decide +kernel
theorem dX2_closeLast_37 : decode cX2_closeLast 37 = .ok (.ixor, 1) := by decide +kernel
theorem dX2_closeLast_38 : decode cX2_closeLast 38 = .ok (.iand, 1) := by decide +kernel
theorem dX2_closeLast_39 : decode cX2_closeLast 39 = .ok (.putfield 52, 3) := by decide +kernel
theorem dX2_closeLast_42 : decode cX2_closeLast 42 = .ok (.iinc 1 1, 3) := by decide +kernel
theorem dX2_closeLast_45 : decode cX2_closeLast 45 = .ok (.goto (-33), 3) := by decide +kernel
theorem dX2_closeLast_48 : decode cX2_closeLast 48 = .ok (.return_, 1) := by decide +kernel
theorem dX2_setCut_0 : decode cX2_setCut 0 = .ok (.aload_n 0, 1) := by decide +kernel
theorem dX2_setCut_1 : decode cX2_setCut 1 = .ok (.getfield 11, 3) := by decide +kernel
theorem dX2_setCut_4 : decode cX2_setCut 4 = .ok (.iload_n 1, 1) := by decide +kernel
theorem dX2_setCut_5 : decode cX2_setCut 5 = .ok (.aaload, 1) := by decide +kernel
theorem dX2_setCut_6 : decode cX2_setCut 6 = .ok (.getfield 52, 3) := by decide +kernel
theorem dX2_setCut_9 : decode cX2_setCut 9 = .ok (.istore 4, 2) := by decide +kernel
theorem dX2_setCut_11 : decode cX2_setCut 11 = .ok (.iconst 1, 1) := by decide +kernel
theorem dX2_setCut_12 : decode cX2_setCut 12 = .ok (.iload_n 2, 1) := by decide +kernel
theorem dX2_setCut_13 : decode cX2_setCut 13 = .ok (.ishl, 1) := by decide +kernel
theorem dX2_setCut_14 : decode cX2_setCut 14 = .ok (.istore 5, 2) := by decide +kernel
theorem dX2_setCut_16 : decode cX2_setCut 16 = .ok (.aload_n 0, 1) := by decide +kernel
theorem dX2_setCut_17 : decode cX2_setCut 17 = .ok (.getfield 11, 3) := by decide +kernel
theorem dX2_setCut_20 : decode cX2_setCut 20 = .ok (.iload_n 1, 1) := by decide +kernel
theorem dX2_setCut_21 : decode cX2_setCut 21 = .ok (.aaload, 1) := by decide +kernel
theorem dX2_setCut_22 : decode cX2_setCut 22 = .ok (.iload_n 3, 1) := by decide +kernel
theorem dX2_setCut_23 : decode cX2_setCut 23 = .ok (.ifCond .eq 11, 3) := by decide +kernel
theorem dX2_setCut_26 : decode cX2_setCut 26 = .ok (.iload 4, 2) := by decide +kernel
theorem dX2_setCut_28 : decode cX2_setCut 28 = .ok (.iload 5, 2) := by decide +kernel
theorem dX2_setCut_30 : decode cX2_setCut 30 = .ok (.ior, 1) := by decide +kernel
theorem dX2_setCut_31 : decode cX2_setCut 31 = .ok (.goto 10, 3) := by decide +kernel
theorem dX2_setCut_34 : decode cX2_setCut 34 = .ok (.iload 4, 2) := by decide +kernel
theorem dX2_setCut_36 : decode cX2_setCut 36 = .ok (.iload 5, 2) := by decide +kernel
theorem dX2_setCut_38 : decode cX2_setCut 38 = .ok (.iconst (-1), 1) := by decide +kernel
theorem dX2_setCut_39 : decode cX2_setCut 39 = .ok (.ixor, 1) := by decide +kernel
theorem dX2_setCut_40 : decode cX2_setCut 40 = .ok (.iand, 1) := by decide +kernel
theorem dX2_setCut_41 : decode cX2_setCut 41 = .ok (.putfield 52, 3) := by decide +kernel
theorem dX2_setCut_44 : decode cX2_setCut 44 = .ok (.aload_n 0, 1) := by decide +kernel
theorem dX2_setCut_45 : decode cX2_setCut 45 = .ok (.getfield 11, 3) := by decide +kernel
theorem dX2_setCut_48 : decode cX2_setCut 48 = .ok (.iload_n 1, 1) := by decide +kernel
theorem dX2_setCut_49 : decode cX2_setCut 49 = .ok (.aaload, 1) := by decide +kernel
theorem dX2_setCut_50 : decode cX2_setCut 50 = .ok (.getfield 52, 3) := by decide +kernel
theorem dX2_setCut_53 : decode cX2_setCut 53 = .ok (.iload 4, 2) := by decide +kernel
theorem dX2_setCut_55 : decode cX2_setCut 55 = .ok (.if_icmp .eq 7, 3) := by decide +kernel
theorem dX2_setCut_58 : decode cX2_setCut 58 = .ok (.iconst 1, 1) := by decide +kernel
theorem dX2_setCut_59 : decode cX2_setCut 59 = .ok (.goto 4, 3) := by decide +kernel
theorem dX2_setCut_62 : decode cX2_setCut 62 = .ok (.iconst 0, 1) := by decide +kernel
theorem dX2_setCut_63 : decode cX2_setCut 63 = .ok (.ireturn, 1) := by decide +kernel
set_option maxRecDepth 20000 in
theorem ggX2_countCuts_J6_bitCount_0f7a4 : GoodIn wsX2_countCuts wsJ6_bitCount_0f7a4 := goodIn_r _ [7, 8, 9, 10] (by decide +kernel) (by decide +kernel)
set_option maxRecDepth 20000 in
theorem gX2_countCuts_J6_bitCount_0f7a4 : GoodIn wsX2_countCuts (va_wsS RX2 55 yJ6_bitCount_0f7a4 wsJ6_bitCount_0f7a4) := goodIn_app (goodIn_of _ (by decide +kernel)) ggX2_countCuts_J6_bitCount_0f7a4
theorem dX2_countCuts_0 : decode cX2_countCuts 0 = .ok (.iconst 0, 1) := by decide +kernel
theorem dX2_countCuts_1 : decode cX2_countCuts 1 = .ok (.istore_n 1, 1) := by decide +kernel
theorem dX2_countCuts_2 : decode cX2_countCuts 2 = .ok (.iconst 0, 1) := by decide +kernel
theorem dX2_countCuts_3 : decode cX2_countCuts 3 = .ok (.istore_n 2, 1) := by decide +kernel
theorem dX2_countCuts_4 : decode cX2_countCuts 4 = .ok (.iload_n 2, 1) := by decide +kernel
theorem dX2_countCuts_5 : decode cX2_countCuts 5 = .ok (.aload_n 0, 1) := by decide +kernel
theorem dX2_countCuts_6 : decode cX2_countCuts 6 = .ok (.getfield 41, 3) := by decide +kernel
theorem dX2_countCuts_9 : decode cX2_countCuts 9 = .ok (.if_icmp .ge 24, 3) := by decide +kernel
theorem dX2_countCuts_12 : decode cX2_countCuts 12 = .ok (.iload_n 1, 1) := by decide +kernel
theorem dX2_countCuts_13 : decode cX2_countCuts 13 = .ok (.aload_n 0, 1) := by decide +kernel
theorem dX2_countCuts_14 : decode cX2_countCuts 14 = .ok (.getfield 11, 3) := by decide +kernel
theorem dX2_countCuts_17 : decode cX2_countCuts 17 = .ok (.iload_n 2, 1) := by decide +kernel
theorem dX2_countCuts_18 : decode cX2_countCuts 18 = .ok (.aaload, 1) := by decide +kernel
theorem dX2_countCuts_19 : decode cX2_countCuts 19 = .ok (.getfield 52, 3) := by decide +kernel
theorem dX2_countCuts_22 : decode cX2_countCuts 22 = .ok (.invokestatic 55, 3) := by decide +kernel
theorem dX2_countCuts_25 : decode cX2_countCuts 25 = .ok (.iadd, 1) := by decide +kernel
theorem dX2_countCuts_26 : decode cX2_countCuts 26 = .ok (.istore_n 1, 1) := by decide +kernel
theorem dX2_countCuts_27 : decode cX2_countCuts 27 = .ok (.iinc 2 1, 3) := by decide +kernel
theorem dX2_countCuts_30 : decode cX2_countCuts 30 = .ok (.goto (-26), 3) := by decide +kernel
theorem dX2_countCuts_33 : decode cX2_countCuts 33 = .ok (.iload_n 1, 1) := by decide +kernel
theorem dX2_countCuts_34 : decode cX2_countCuts 34 = .ok (.ireturn, 1) := by decide +kernel
set_option maxRecDepth 20000 in
theorem ggX2_cuttersOf_X5_isIn : GoodIn wsX2_cuttersOf wsX5_isIn := goodIn_r _ [6] (by decide +kernel) (by decide +kernel)
set_option maxRecDepth 20000 in
theorem gX2_cuttersOf_X5_isIn_n61 : GoodIn wsX2_cuttersOf (wsX5_isIn) := ggX2_cuttersOf_X5_isIn
theorem dX2_cuttersOf_0 : decode cX2_cuttersOf 0 = .ok (.iconst 0, 1) := by decide +kernel
theorem dX2_cuttersOf_1 : decode cX2_cuttersOf 1 = .ok (.istore_n 2, 1) := by decide +kernel
theorem dX2_cuttersOf_2 : decode cX2_cuttersOf 2 = .ok (.iconst 0, 1) := by decide +kernel
theorem dX2_cuttersOf_3 : decode cX2_cuttersOf 3 = .ok (.istore_n 3, 1) := by decide +kernel
theorem dX2_cuttersOf_4 : decode cX2_cuttersOf 4 = .ok (.iload_n 3, 1) := by decide +kernel
theorem dX2_cuttersOf_5 : decode cX2_cuttersOf 5 = .ok (.aload_n 0, 1) := by decide +kernel
theorem dX2_cuttersOf_6 : decode cX2_cuttersOf 6 = .ok (.getfield 41, 3) := by decide +kernel
theorem dX2_cuttersOf_9 : decode cX2_cuttersOf 9 = .ok (.if_icmp .ge 31, 3) := by decide +kernel
theorem dX2_cuttersOf_12 : decode cX2_cuttersOf 12 = .ok (.aload_n 0, 1) := by decide +kernel
theorem dX2_cuttersOf_13 : decode cX2_cuttersOf 13 = .ok (.getfield 11, 3) := by decide +kernel
theorem dX2_cuttersOf_16 : decode cX2_cuttersOf 16 = .ok (.iload_n 3, 1) := by decide +kernel
theorem dX2_cuttersOf_17 : decode cX2_cuttersOf 17 = .ok (.aaload, 1) := by decide +kernel
theorem dX2_cuttersOf_18 : decode cX2_cuttersOf 18 = .ok (.getfield 52, 3) := by decide +kernel
theorem dX2_cuttersOf_21 : decode cX2_cuttersOf 21 = .ok (.iload_n 1, 1) := by decide +kernel
theorem dX2_cuttersOf_22 : decode cX2_cuttersOf 22 = .ok (.invokestatic 61, 3) := by decide +kernel
theorem dX2_cuttersOf_25 : decode cX2_cuttersOf 25 = .ok (.ifCond .eq 9, 3) := by decide +kernel
theorem dX2_cuttersOf_28 : decode cX2_cuttersOf 28 = .ok (.iload_n 2, 1) := by decide +kernel
theorem dX2_cuttersOf_29 : decode cX2_cuttersOf 29 = .ok (.iconst 1, 1) := by decide +kernel
theorem dX2_cuttersOf_30 : decode cX2_cuttersOf 30 = .ok (.iload_n 3, 1) := by decide +kernel
theorem dX2_cuttersOf_31 : decode cX2_cuttersOf 31 = .ok (.ishl, 1) := by decide +kernel
theorem dX2_cuttersOf_32 : decode cX2_cuttersOf 32 = .ok (.ior, 1) := by decide +kernel
theorem dX2_cuttersOf_33 : decode cX2_cuttersOf 33 = .ok (.istore_n 2, 1) := by decide +kernel
theorem dX2_cuttersOf_34 : decode cX2_cuttersOf 34 = .ok (.iinc 3 1, 3) := by decide +kernel
theorem dX2_cuttersOf_37 : decode cX2_cuttersOf 37 = .ok (.goto (-33), 3) := by decide +kernel
theorem dX2_cuttersOf_40 : decode cX2_cuttersOf 40 = .ok (.iload_n 2, 1) := by decide +kernel
theorem dX2_cuttersOf_41 : decode cX2_cuttersOf 41 = .ok (.ireturn, 1) := by decide +kernel
set_option maxRecDepth 20000 in
theorem ggX2_earlierThan_X2_reachedFrom : GoodIn wsX2_earlierThan wsX2_reachedFrom := goodIn_r _ [9, 1, 2, 10, 11, 12, 13, 14, 15, 16, 17, 18, 19] (by decide +kernel) (by decide +kernel)
set_option maxRecDepth 20000 in
theorem gX2_earlierThan_X2_reachedFrom : GoodIn wsX2_earlierThan (wsV RX2 65 RX2 yX2_reachedFrom wsX2_reachedFrom) := goodIn_app (goodIn_of _ (by decide +kernel)) ggX2_earlierThan_X2_reachedFrom
theorem dX2_earlierThan_0 : decode cX2_earlierThan 0 = .ok (.iconst 0, 1) := by decide +kernel
theorem dX2_earlierThan_1 : decode cX2_earlierThan 1 = .ok (.istore_n 2, 1) := by decide +kernel
theorem dX2_earlierThan_2 : decode cX2_earlierThan 2 = .ok (.iload_n 2, 1) := by decide +kernel
theorem dX2_earlierThan_3 : decode cX2_earlierThan 3 = .ok (.aload_n 0, 1) := by decide +kernel
theorem dX2_earlierThan_4 : decode cX2_earlierThan 4 = .ok (.getfield 41, 3) := by decide +kernel
theorem dX2_earlierThan_7 : decode cX2_earlierThan 7 = .ok (.if_icmp .ge 24, 3) := by decide +kernel
theorem dX2_earlierThan_10 : decode cX2_earlierThan 10 = .ok (.aload_n 0, 1) := by decide +kernel
theorem dX2_earlierThan_11 : decode cX2_earlierThan 11 = .ok (.getfield 27, 3) := by decide +kernel
theorem dX2_earlierThan_14 : decode cX2_earlierThan 14 = .ok (.iload_n 2, 1) := by decide +kernel
theorem dX2_earlierThan_15 : decode cX2_earlierThan 15 = .ok (.aload_n 0, 1) := by decide +kernel
theorem dX2_earlierThan_16 : decode cX2_earlierThan 16 = .ok (.getfield 11, 3) := by decide +kernel
theorem dX2_earlierThan_19 : decode cX2_earlierThan 19 = .ok (.iload_n 2, 1) := by decide +kernel
theorem dX2_earlierThan_20 : decode cX2_earlierThan 20 = .ok (.aaload, 1) := by decide +kernel
theorem dX2_earlierThan_21 : decode cX2_earlierThan 21 = .ok (.getfield 52, 3) := by decide +kernel
theorem dX2_earlierThan_24 : decode cX2_earlierThan 24 = .ok (.iastore, 1) := by decide +kernel
theorem dX2_earlierThan_25 : decode cX2_earlierThan 25 = .ok (.iinc 2 1, 3) := by decide +kernel
theorem dX2_earlierThan_28 : decode cX2_earlierThan 28 = .ok (.goto (-26), 3) := by decide +kernel
theorem dX2_earlierThan_31 : decode cX2_earlierThan 31 = .ok (.aload_n 0, 1) := by decide +kernel
theorem dX2_earlierThan_32 : decode cX2_earlierThan 32 = .ok (.aload_n 0, 1) := by decide +kernel
theorem dX2_earlierThan_33 : decode cX2_earlierThan 33 = .ok (.getfield 27, 3) := by decide +kernel
theorem dX2_earlierThan_36 : decode cX2_earlierThan 36 = .ok (.iload_n 1, 1) := by decide +kernel
theorem dX2_earlierThan_37 : decode cX2_earlierThan 37 = .ok (.iaload, 1) := by decide +kernel
theorem dX2_earlierThan_38 : decode cX2_earlierThan 38 = .ok (.invokevirtual 65, 3) := by decide +kernel
theorem dX2_earlierThan_41 : decode cX2_earlierThan 41 = .ok (.ireturn, 1) := by decide +kernel
set_option maxRecDepth 20000 in
theorem ggX2_laterThan_X2_cuttersOf : GoodIn wsX2_laterThan wsX2_cuttersOf := goodIn_r _ [7, 1, 8, 9, 10, 11, 12, 17, 18, 19, 20, 21, 22, 23, 24, 25, 26, 27, 28, 29, 30, 31, 32] (by decide +kernel) (by decide +kernel)
set_option maxRecDepth 20000 in
theorem gX2_laterThan_X2_cuttersOf : GoodIn wsX2_laterThan (wsV RX2 68 RX2 yX2_cuttersOf wsX2_cuttersOf) := goodIn_app (goodIn_of _ (by decide +kernel)) ggX2_laterThan_X2_cuttersOf
set_option maxRecDepth 20000 in
theorem ggX2_laterThan_X2_reachedFrom : GoodIn wsX2_laterThan wsX2_reachedFrom := goodIn_r _ [16, 1, 2, 10, 11, 12, 17, 18, 19, 20, 21, 22, 23] (by decide +kernel) (by decide +kernel)
set_option maxRecDepth 20000 in
theorem gX2_laterThan_X2_reachedFrom : GoodIn wsX2_laterThan (wsV RX2 65 RX2 yX2_reachedFrom wsX2_reachedFrom) := goodIn_app (goodIn_of _ (by decide +kernel)) ggX2_laterThan_X2_reachedFrom
theorem dX2_laterThan_0 : decode cX2_laterThan 0 = .ok (.iconst 0, 1) := by decide +kernel
theorem dX2_laterThan_1 : decode cX2_laterThan 1 = .ok (.istore_n 2, 1) := by decide +kernel
theorem dX2_laterThan_2 : decode cX2_laterThan 2 = .ok (.iload_n 2, 1) := by decide +kernel
theorem dX2_laterThan_3 : decode cX2_laterThan 3 = .ok (.aload_n 0, 1) := by decide +kernel
theorem dX2_laterThan_4 : decode cX2_laterThan 4 = .ok (.getfield 41, 3) := by decide +kernel
theorem dX2_laterThan_7 : decode cX2_laterThan 7 = .ok (.if_icmp .ge 20, 3) := by decide +kernel
theorem dX2_laterThan_10 : decode cX2_laterThan 10 = .ok (.aload_n 0, 1) := by decide +kernel
theorem dX2_laterThan_11 : decode cX2_laterThan 11 = .ok (.getfield 27, 3) := by decide +kernel
theorem dX2_laterThan_14 : decode cX2_laterThan 14 = .ok (.iload_n 2, 1) := by decide +kernel
theorem dX2_laterThan_15 : decode cX2_laterThan 15 = .ok (.aload_n 0, 1) := by decide +kernel
theorem dX2_laterThan_16 : decode cX2_laterThan 16 = .ok (.iload_n 2, 1) := by decide +kernel
theorem dX2_laterThan_17 : decode cX2_laterThan 17 = .ok (.invokevirtual 68, 3) := by decide +kernel
theorem dX2_laterThan_20 : decode cX2_laterThan 20 = .ok (.iastore, 1) := by decide +kernel
theorem dX2_laterThan_21 : decode cX2_laterThan 21 = .ok (.iinc 2 1, 3) := by decide +kernel
theorem dX2_laterThan_24 : decode cX2_laterThan 24 = .ok (.goto (-22), 3) := by decide +kernel
theorem dX2_laterThan_27 : decode cX2_laterThan 27 = .ok (.aload_n 0, 1) := by decide +kernel
theorem dX2_laterThan_28 : decode cX2_laterThan 28 = .ok (.aload_n 0, 1) := by decide +kernel
theorem dX2_laterThan_29 : decode cX2_laterThan 29 = .ok (.getfield 27, 3) := by decide +kernel
theorem dX2_laterThan_32 : decode cX2_laterThan 32 = .ok (.iload_n 1, 1) := by decide +kernel
theorem dX2_laterThan_33 : decode cX2_laterThan 33 = .ok (.iaload, 1) := by decide +kernel
theorem dX2_laterThan_34 : decode cX2_laterThan 34 = .ok (.invokevirtual 65, 3) := by decide +kernel
theorem dX2_laterThan_37 : decode cX2_laterThan 37 = .ok (.ireturn, 1) := by decide +kernel
set_option maxRecDepth 20000 in
theorem ggX2_reachedFrom_X5_isIn : GoodIn wsX2_reachedFrom wsX5_isIn := goodIn_r _ [5] (by decide +kernel) (by decide +kernel)
set_option maxRecDepth 20000 in
theorem gX2_reachedFrom_X5_isIn_n61 : GoodIn wsX2_reachedFrom (wsX5_isIn) := ggX2_reachedFrom_X5_isIn
theorem dX2_reachedFrom_0 : decode cX2_reachedFrom 0 = .ok (.iload_n 1, 1) := by decide +kernel
theorem dX2_reachedFrom_1 : decode cX2_reachedFrom 1 = .ok (.istore_n 2, 1) := by decide +kernel
theorem dX2_reachedFrom_2 : decode cX2_reachedFrom 2 = .ok (.iconst 0, 1) := by decide +kernel
theorem dX2_reachedFrom_3 : decode cX2_reachedFrom 3 = .ok (.istore_n 3, 1) := by decide +kernel
theorem dX2_reachedFrom_4 : decode cX2_reachedFrom 4 = .ok (.iload_n 3, 1) := by decide +kernel
theorem dX2_reachedFrom_5 : decode cX2_reachedFrom 5 = .ok (.aload_n 0, 1) := by decide +kernel
theorem dX2_reachedFrom_6 : decode cX2_reachedFrom 6 = .ok (.getfield 41, 3) := by decide +kernel
theorem dX2_reachedFrom_9 : decode cX2_reachedFrom 9 = .ok (.if_icmp .ge 58, 3) := by decide +kernel
theorem dX2_reachedFrom_12 : decode cX2_reachedFrom 12 = .ok (.iload_n 2, 1) := by decide +kernel
theorem dX2_reachedFrom_13 : decode cX2_reachedFrom 13 = .ok (.istore 4, 2) := by decide +kernel
theorem dX2_reachedFrom_15 : decode cX2_reachedFrom 15 = .ok (.iconst 0, 1) := by decide +kernel
theorem dX2_reachedFrom_16 : decode cX2_reachedFrom 16 = .ok (.istore 5, 2) := by decide +kernel
theorem dX2_reachedFrom_18 : decode cX2_reachedFrom 18 = .ok (.iload 5, 2) := by decide +kernel
theorem dX2_reachedFrom_20 : decode cX2_reachedFrom 20 = .ok (.aload_n 0, 1) := by decide +kernel
theorem dX2_reachedFrom_21 : decode cX2_reachedFrom 21 = .ok (.getfield 41, 3) := by decide +kernel
theorem dX2_reachedFrom_24 : decode cX2_reachedFrom 24 = .ok (.if_icmp .ge 28, 3) := by decide +kernel
theorem dX2_reachedFrom_27 : decode cX2_reachedFrom 27 = .ok (.iload_n 2, 1) := by decide +kernel
theorem dX2_reachedFrom_28 : decode cX2_reachedFrom 28 = .ok (.iload 5, 2) := by decide +kernel
theorem dX2_reachedFrom_30 : decode cX2_reachedFrom 30 = .ok (.invokestatic 61, 3) := by decide +kernel
theorem dX2_reachedFrom_33 : decode cX2_reachedFrom 33 = .ok (.ifCond .eq 13, 3) := by decide +kernel
theorem dX2_reachedFrom_36 : decode cX2_reachedFrom 36 = .ok (.iload_n 2, 1) := by decide +kernel
theorem dX2_reachedFrom_37 : decode cX2_reachedFrom 37 = .ok (.aload_n 0, 1) := by decide +kernel
theorem dX2_reachedFrom_38 : decode cX2_reachedFrom 38 = .ok (.getfield 27, 3) := by decide +kernel
theorem dX2_reachedFrom_41 : decode cX2_reachedFrom 41 = .ok (.iload 5, 2) := by decide +kernel
theorem dX2_reachedFrom_43 : decode cX2_reachedFrom 43 = .ok (.iaload, 1) := by decide +kernel
theorem dX2_reachedFrom_44 : decode cX2_reachedFrom 44 = .ok (.ior, 1) := by decide +kernel
theorem dX2_reachedFrom_45 : decode cX2_reachedFrom 45 = .ok (.istore_n 2, 1) := by decide +kernel
theorem dX2_reachedFrom_46 : decode cX2_reachedFrom 46 = .ok (.iinc 5 1, 3) := by decide +kernel
theorem dX2_reachedFrom_49 : decode cX2_reachedFrom 49 = .ok (.goto (-31), 3) := by decide +kernel
theorem dX2_reachedFrom_52 : decode cX2_reachedFrom 52 = .ok (.iload_n 2, 1) := by decide +kernel
theorem dX2_reachedFrom_53 : decode cX2_reachedFrom 53 = .ok (.iload 4, 2) := by decide +kernel
theorem dX2_reachedFrom_55 : decode cX2_reachedFrom 55 = .ok (.if_icmp .ne 6, 3) := by decide +kernel
theorem dX2_reachedFrom_58 : decode cX2_reachedFrom 58 = .ok (.goto 9, 3) := by decide +kernel
theorem dX2_reachedFrom_61 : decode cX2_reachedFrom 61 = .ok (.iinc 3 1, 3) := by decide +kernel
theorem dX2_reachedFrom_64 : decode cX2_reachedFrom 64 = .ok (.goto (-60), 3) := by decide +kernel
theorem dX2_reachedFrom_67 : decode cX2_reachedFrom 67 = .ok (.iload_n 2, 1) := by decide +kernel
theorem dX2_reachedFrom_68 : decode cX2_reachedFrom 68 = .ok (.ireturn, 1) := by decide +kernel
set_option maxRecDepth 20000 in
theorem ggX2_earliestOf_X2_earlierThan : GoodIn wsX2_earliestOf wsX2_earlierThan := goodIn_r _ [12, 1, 13, 2, 14, 15, 16, 17, 11, 18, 19, 20, 21, 22, 23, 24, 25, 26, 27, 28, 29, 30, 31, 32, 33, 34, 35, 36, 37] (by decide +kernel) (by decide +kernel)
set_option maxRecDepth 20000 in
theorem gX2_earliestOf_X2_earlierThan : GoodIn wsX2_earliestOf (wsV RX2 71 RX2 yX2_earlierThan wsX2_earlierThan) := goodIn_app (goodIn_of _ (by decide +kernel)) ggX2_earliestOf_X2_earlierThan
set_option maxRecDepth 20000 in
theorem ggX2_earliestOf_X5_isIn : GoodIn wsX2_earliestOf wsX5_isIn := goodIn_r _ [21] (by decide +kernel) (by decide +kernel)
set_option maxRecDepth 20000 in
theorem gX2_earliestOf_X5_isIn_n61 : GoodIn wsX2_earliestOf (wsX5_isIn) := ggX2_earliestOf_X5_isIn
theorem dX2_earliestOf_0 : decode cX2_earliestOf 0 = .ok (.aload_n 0, 1) := by decide +kernel
theorem dX2_earliestOf_1 : decode cX2_earliestOf 1 = .ok (.iload_n 1, 1) := by decide +kernel
theorem dX2_earliestOf_2 : decode cX2_earliestOf 2 = .ok (.invokevirtual 71, 3) := by decide +kernel
theorem dX2_earliestOf_5 : decode cX2_earliestOf 5 = .ok (.iconst 1, 1) := by decide +kernel
theorem dX2_earliestOf_6 : decode cX2_earliestOf 6 = .ok (.iload_n 1, 1) := by decide +kernel
theorem dX2_earliestOf_7 : decode cX2_earliestOf 7 = .ok (.ishl, 1) := by decide +kernel
theorem dX2_earliestOf_8 : decode cX2_earliestOf 8 = .ok (.ior, 1) := by decide +kernel
theorem dX2_earliestOf_9 : decode cX2_earliestOf 9 = .ok (.istore_n 2, 1) := by decide +kernel
theorem dX2_earliestOf_10 : decode cX2_earliestOf 10 = .ok (.sipush (-5000), 3) := by decide +kernel
theorem dX2_earliestOf_13 : decode cX2_earliestOf 13 = .ok (.istore_n 3, 1) := by decide +kernel
theorem dX2_earliestOf_14 : decode cX2_earliestOf 14 = .ok (.iconst 0, 1) := by decide +kernel
theorem dX2_earliestOf_15 : decode cX2_earliestOf 15 = .ok (.istore 4, 2) := by decide +kernel
theorem dX2_earliestOf_17 : decode cX2_earliestOf 17 = .ok (.iload 4, 2) := by decide +kernel
theorem dX2_earliestOf_19 : decode cX2_earliestOf 19 = .ok (.aload_n 0, 1) := by decide +kernel
theorem dX2_earliestOf_20 : decode cX2_earliestOf 20 = .ok (.getfield 41, 3) := by decide +kernel
theorem dX2_earliestOf_23 : decode cX2_earliestOf 23 = .ok (.if_icmp .ge 33, 3) := by decide +kernel
theorem dX2_earliestOf_26 : decode cX2_earliestOf 26 = .ok (.iload_n 2, 1) := by decide +kernel
theorem dX2_earliestOf_27 : decode cX2_earliestOf 27 = .ok (.iload 4, 2) := by decide +kernel
theorem dX2_earliestOf_29 : decode cX2_earliestOf 29 = .ok (.invokestatic 61, 3) := by decide +kernel
theorem dX2_earliestOf_32 : decode cX2_earliestOf 32 = .ok (.ifCond .eq 18, 3) := by decide +kernel
theorem dX2_earliestOf_35 : decode cX2_earliestOf 35 = .ok (.iload_n 3, 1) := by decide +kernel
theorem dX2_earliestOf_36 : decode cX2_earliestOf 36 = .ok (.aload_n 0, 1) := by decide +kernel
theorem dX2_earliestOf_37 : decode cX2_earliestOf 37 = .ok (.getfield 11, 3) := by decide +kernel
theorem dX2_earliestOf_40 : decode cX2_earliestOf 40 = .ok (.iload 4, 2) := by decide +kernel
theorem dX2_earliestOf_42 : decode cX2_earliestOf 42 = .ok (.aaload, 1) := by decide +kernel
theorem dX2_earliestOf_43 : decode cX2_earliestOf 43 = .ok (.getfield 74, 3) := by decide +kernel
theorem dX2_earliestOf_46 : decode cX2_earliestOf 46 = .ok (.invokestatic 77, 3) := by decide +kernel
theorem dX2_earliestOf_49 : decode cX2_earliestOf 49 = .ok (.istore_n 3, 1) := by decide +kernel
theorem dX2_earliestOf_50 : decode cX2_earliestOf 50 = .ok (.iinc 4 1, 3) := by decide +kernel
theorem dX2_earliestOf_53 : decode cX2_earliestOf 53 = .ok (.goto (-36), 3) := by decide +kernel
theorem dX2_earliestOf_56 : decode cX2_earliestOf 56 = .ok (.iload_n 3, 1) := by decide +kernel
theorem dX2_earliestOf_57 : decode cX2_earliestOf 57 = .ok (.ireturn, 1) := by decide +kernel
set_option maxRecDepth 20000 in
theorem ggX2_latestOf_X2_laterThan : GoodIn wsX2_latestOf wsX2_laterThan := goodIn_r _ [12, 1, 13, 14, 15, 16, 11, 17, 2, 18, 19, 20, 21, 22, 23, 24, 25, 26, 27, 28, 29, 30, 31, 32, 33, 34, 35, 36, 37, 38, 39, 40, 41] (by decide +kernel) (by decide +kernel)
set_option maxRecDepth 20000 in
theorem gX2_latestOf_X2_laterThan : GoodIn wsX2_latestOf (wsV RX2 83 RX2 yX2_laterThan wsX2_laterThan) := goodIn_app (goodIn_of _ (by decide +kernel)) ggX2_latestOf_X2_laterThan
set_option maxRecDepth 20000 in
theorem ggX2_latestOf_X5_isIn : GoodIn wsX2_latestOf wsX5_isIn := goodIn_r _ [21] (by decide +kernel) (by decide +kernel)
set_option maxRecDepth 20000 in
theorem gX2_latestOf_X5_isIn_n61 : GoodIn wsX2_latestOf (wsX5_isIn) := ggX2_latestOf_X5_isIn
theorem dX2_latestOf_0 : decode cX2_latestOf 0 = .ok (.aload_n 0, 1) := by decide +kernel
theorem dX2_latestOf_1 : decode cX2_latestOf 1 = .ok (.iload_n 1, 1) := by decide +kernel
theorem dX2_latestOf_2 : decode cX2_latestOf 2 = .ok (.invokevirtual 83, 3) := by decide +kernel
theorem dX2_latestOf_5 : decode cX2_latestOf 5 = .ok (.iconst 1, 1) := by decide +kernel
theorem dX2_latestOf_6 : decode cX2_latestOf 6 = .ok (.iload_n 1, 1) := by decide +kernel
theorem dX2_latestOf_7 : decode cX2_latestOf 7 = .ok (.ishl, 1) := by decide +kernel
theorem dX2_latestOf_8 : decode cX2_latestOf 8 = .ok (.ior, 1) := by decide +kernel
theorem dX2_latestOf_9 : decode cX2_latestOf 9 = .ok (.istore_n 2, 1) := by decide +kernel
theorem dX2_latestOf_10 : decode cX2_latestOf 10 = .ok (.sipush 5000, 3) := by decide +kernel
theorem dX2_latestOf_13 : decode cX2_latestOf 13 = .ok (.istore_n 3, 1) := by decide +kernel
theorem dX2_latestOf_14 : decode cX2_latestOf 14 = .ok (.iconst 0, 1) := by decide +kernel
theorem dX2_latestOf_15 : decode cX2_latestOf 15 = .ok (.istore 4, 2) := by decide +kernel
theorem dX2_latestOf_17 : decode cX2_latestOf 17 = .ok (.iload 4, 2) := by decide +kernel
theorem dX2_latestOf_19 : decode cX2_latestOf 19 = .ok (.aload_n 0, 1) := by decide +kernel
theorem dX2_latestOf_20 : decode cX2_latestOf 20 = .ok (.getfield 41, 3) := by decide +kernel
theorem dX2_latestOf_23 : decode cX2_latestOf 23 = .ok (.if_icmp .ge 33, 3) := by decide +kernel
theorem dX2_latestOf_26 : decode cX2_latestOf 26 = .ok (.iload_n 2, 1) := by decide +kernel
theorem dX2_latestOf_27 : decode cX2_latestOf 27 = .ok (.iload 4, 2) := by decide +kernel
theorem dX2_latestOf_29 : decode cX2_latestOf 29 = .ok (.invokestatic 61, 3) := by decide +kernel
theorem dX2_latestOf_32 : decode cX2_latestOf 32 = .ok (.ifCond .eq 18, 3) := by decide +kernel
theorem dX2_latestOf_35 : decode cX2_latestOf 35 = .ok (.iload_n 3, 1) := by decide +kernel
theorem dX2_latestOf_36 : decode cX2_latestOf 36 = .ok (.aload_n 0, 1) := by decide +kernel
theorem dX2_latestOf_37 : decode cX2_latestOf 37 = .ok (.getfield 11, 3) := by decide +kernel
theorem dX2_latestOf_40 : decode cX2_latestOf 40 = .ok (.iload 4, 2) := by decide +kernel
theorem dX2_latestOf_42 : decode cX2_latestOf 42 = .ok (.aaload, 1) := by decide +kernel
theorem dX2_latestOf_43 : decode cX2_latestOf 43 = .ok (.getfield 86, 3) := by decide +kernel
theorem dX2_latestOf_46 : decode cX2_latestOf 46 = .ok (.invokestatic 89, 3) := by decide +kernel
theorem dX2_latestOf_49 : decode cX2_latestOf 49 = .ok (.istore_n 3, 1) := by decide +kernel
theorem dX2_latestOf_50 : decode cX2_latestOf 50 = .ok (.iinc 4 1, 3) := by decide +kernel
theorem dX2_latestOf_53 : decode cX2_latestOf 53 = .ok (.goto (-36), 3) := by decide +kernel
theorem dX2_latestOf_56 : decode cX2_latestOf 56 = .ok (.iload_n 3, 1) := by decide +kernel
theorem dX2_latestOf_57 : decode cX2_latestOf 57 = .ok (.ireturn, 1) := by decide +kernel
set_option maxRecDepth 20000 in
theorem ggX2_leastEarliest_X5_isIn : GoodIn wsX2_leastEarliest wsX5_isIn := goodIn_r _ [8] (by decide +kernel) (by decide +kernel)
set_option maxRecDepth 20000 in
theorem gX2_leastEarliest_X5_isIn_n61 : GoodIn wsX2_leastEarliest (wsX5_isIn) := ggX2_leastEarliest_X5_isIn
set_option maxRecDepth 20000 in
theorem ggX2_leastEarliest_X2_earliestOf : GoodIn wsX2_leastEarliest wsX2_earliestOf := goodIn_r _ [13, 1, 14, 15, 16, 17, 4, 18, 19, 20, 21, 12, 22, 23, 24, 25, 26, 27, 28, 6, 7, 8, 29, 30, 31, 32, 33, 34, 35, 36, 37, 38, 39, 40, 41, 42, 43, 44] (by decide +kernel) (by decide +kernel)
set_option maxRecDepth 20000 in
theorem gX2_leastEarliest_X2_earliestOf : GoodIn wsX2_leastEarliest (wsV RX2 92 RX2 yX2_earliestOf wsX2_earliestOf) := goodIn_app (goodIn_of _ (by decide +kernel)) ggX2_leastEarliest_X2_earliestOf
theorem dX2_leastEarliest_0 : decode cX2_leastEarliest 0 = .ok (.sipush 5000, 3) := by decide +kernel
theorem dX2_leastEarliest_3 : decode cX2_leastEarliest 3 = .ok (.istore_n 2, 1) := by decide +kernel
theorem dX2_leastEarliest_4 : decode cX2_leastEarliest 4 = .ok (.iconst 0, 1) := by decide +kernel
theorem dX2_leastEarliest_5 : decode cX2_leastEarliest 5 = .ok (.istore_n 3, 1) := by decide +kernel
theorem dX2_leastEarliest_6 : decode cX2_leastEarliest 6 = .ok (.iload_n 3, 1) := by decide +kernel
theorem dX2_leastEarliest_7 : decode cX2_leastEarliest 7 = .ok (.aload_n 0, 1) := by decide +kernel
theorem dX2_leastEarliest_8 : decode cX2_leastEarliest 8 = .ok (.getfield 41, 3) := by decide +kernel
theorem dX2_leastEarliest_11 : decode cX2_leastEarliest 11 = .ok (.if_icmp .ge 27, 3) := by decide +kernel
theorem dX2_leastEarliest_14 : decode cX2_leastEarliest 14 = .ok (.iload_n 1, 1) := by decide +kernel
theorem dX2_leastEarliest_15 : decode cX2_leastEarliest 15 = .ok (.iload_n 3, 1) := by decide +kernel
theorem dX2_leastEarliest_16 : decode cX2_leastEarliest 16 = .ok (.invokestatic 61, 3) := by decide +kernel
theorem dX2_leastEarliest_19 : decode cX2_leastEarliest 19 = .ok (.ifCond .eq 13, 3) := by decide +kernel
theorem dX2_leastEarliest_22 : decode cX2_leastEarliest 22 = .ok (.iload_n 2, 1) := by decide +kernel
theorem dX2_leastEarliest_23 : decode cX2_leastEarliest 23 = .ok (.aload_n 0, 1) := by decide +kernel
theorem dX2_leastEarliest_24 : decode cX2_leastEarliest 24 = .ok (.iload_n 3, 1) := by decide +kernel
theorem dX2_leastEarliest_25 : decode cX2_leastEarliest 25 = .ok (.invokevirtual 92, 3) := by decide +kernel
theorem dX2_leastEarliest_28 : decode cX2_leastEarliest 28 = .ok (.invokestatic 89, 3) := by decide +kernel
theorem dX2_leastEarliest_31 : decode cX2_leastEarliest 31 = .ok (.istore_n 2, 1) := by decide +kernel
theorem dX2_leastEarliest_32 : decode cX2_leastEarliest 32 = .ok (.iinc 3 1, 3) := by decide +kernel
theorem dX2_leastEarliest_35 : decode cX2_leastEarliest 35 = .ok (.goto (-29), 3) := by decide +kernel
theorem dX2_leastEarliest_38 : decode cX2_leastEarliest 38 = .ok (.iload_n 2, 1) := by decide +kernel
theorem dX2_leastEarliest_39 : decode cX2_leastEarliest 39 = .ok (.ireturn, 1) := by decide +kernel
set_option maxRecDepth 20000 in
theorem ggX2_greatestLatest_X5_isIn : GoodIn wsX2_greatestLatest wsX5_isIn := goodIn_r _ [8] (by decide +kernel) (by decide +kernel)
set_option maxRecDepth 20000 in
theorem gX2_greatestLatest_X5_isIn_n61 : GoodIn wsX2_greatestLatest (wsX5_isIn) := ggX2_greatestLatest_X5_isIn
set_option maxRecDepth 20000 in
theorem ggX2_greatestLatest_X2_latestOf : GoodIn wsX2_greatestLatest wsX2_latestOf := goodIn_r _ [13, 1, 14, 15, 16, 17, 4, 18, 19, 20, 21, 12, 22, 23, 24, 25, 26, 27, 28, 6, 7, 8, 29, 30, 31, 32, 33, 34, 35, 36, 37, 38, 39, 40, 41, 42, 43, 44, 45, 46, 47, 48] (by decide +kernel) (by decide +kernel)
set_option maxRecDepth 20000 in
theorem gX2_greatestLatest_X2_latestOf : GoodIn wsX2_greatestLatest (wsV RX2 95 RX2 yX2_latestOf wsX2_latestOf) := goodIn_app (goodIn_of _ (by decide +kernel)) ggX2_greatestLatest_X2_latestOf
theorem dX2_greatestLatest_0 : decode cX2_greatestLatest 0 = .ok (.sipush (-5000), 3) := by decide +kernel
theorem dX2_greatestLatest_3 : decode cX2_greatestLatest 3 = .ok (.istore_n 2, 1) := by decide +kernel
theorem dX2_greatestLatest_4 : decode cX2_greatestLatest 4 = .ok (.iconst 0, 1) := by decide +kernel
theorem dX2_greatestLatest_5 : decode cX2_greatestLatest 5 = .ok (.istore_n 3, 1) := by decide +kernel
theorem dX2_greatestLatest_6 : decode cX2_greatestLatest 6 = .ok (.iload_n 3, 1) := by decide +kernel
theorem dX2_greatestLatest_7 : decode cX2_greatestLatest 7 = .ok (.aload_n 0, 1) := by decide +kernel
theorem dX2_greatestLatest_8 : decode cX2_greatestLatest 8 = .ok (.getfield 41, 3) := by decide +kernel
theorem dX2_greatestLatest_11 : decode cX2_greatestLatest 11 = .ok (.if_icmp .ge 27, 3) := by decide +kernel
theorem dX2_greatestLatest_14 : decode cX2_greatestLatest 14 = .ok (.iload_n 1, 1) := by decide +kernel
theorem dX2_greatestLatest_15 : decode cX2_greatestLatest 15 = .ok (.iload_n 3, 1) := by decide +kernel
theorem dX2_greatestLatest_16 : decode cX2_greatestLatest 16 = .ok (.invokestatic 61, 3) := by decide +kernel
theorem dX2_greatestLatest_19 : decode cX2_greatestLatest 19 = .ok (.ifCond .eq 13, 3) := by decide +kernel
theorem dX2_greatestLatest_22 : decode cX2_greatestLatest 22 = .ok (.iload_n 2, 1) := by decide +kernel
theorem dX2_greatestLatest_23 : decode cX2_greatestLatest 23 = .ok (.aload_n 0, 1) := by decide +kernel
theorem dX2_greatestLatest_24 : decode cX2_greatestLatest 24 = .ok (.iload_n 3, 1) := by decide +kernel
theorem dX2_greatestLatest_25 : decode cX2_greatestLatest 25 = .ok (.invokevirtual 95, 3) := by decide +kernel
theorem dX2_greatestLatest_28 : decode cX2_greatestLatest 28 = .ok (.invokestatic 77, 3) := by decide +kernel
theorem dX2_greatestLatest_31 : decode cX2_greatestLatest 31 = .ok (.istore_n 2, 1) := by decide +kernel
theorem dX2_greatestLatest_32 : decode cX2_greatestLatest 32 = .ok (.iinc 3 1, 3) := by decide +kernel
theorem dX2_greatestLatest_35 : decode cX2_greatestLatest 35 = .ok (.goto (-29), 3) := by decide +kernel
theorem dX2_greatestLatest_38 : decode cX2_greatestLatest 38 = .ok (.iload_n 2, 1) := by decide +kernel
theorem dX2_greatestLatest_39 : decode cX2_greatestLatest 39 = .ok (.ireturn, 1) := by decide +kernel
set_option maxRecDepth 20000 in
theorem ggX2_havers_X5_isIn : GoodIn wsX2_havers wsX5_isIn := goodIn_r _ [6] (by decide +kernel) (by decide +kernel)
set_option maxRecDepth 20000 in
theorem gX2_havers_X5_isIn_n61 : GoodIn wsX2_havers (wsX5_isIn) := ggX2_havers_X5_isIn
theorem dX2_havers_0 : decode cX2_havers 0 = .ok (.iconst 0, 1) := by decide +kernel
theorem dX2_havers_1 : decode cX2_havers 1 = .ok (.istore_n 2, 1) := by decide +kernel
theorem dX2_havers_2 : decode cX2_havers 2 = .ok (.iconst 0, 1) := by decide +kernel
theorem dX2_havers_3 : decode cX2_havers 3 = .ok (.istore_n 3, 1) := by decide +kernel
theorem dX2_havers_4 : decode cX2_havers 4 = .ok (.iload_n 3, 1) := by decide +kernel
theorem dX2_havers_5 : decode cX2_havers 5 = .ok (.aload_n 0, 1) := by decide +kernel
theorem dX2_havers_6 : decode cX2_havers 6 = .ok (.getfield 41, 3) := by decide +kernel
theorem dX2_havers_9 : decode cX2_havers 9 = .ok (.if_icmp .ge 31, 3) := by decide +kernel
theorem dX2_havers_12 : decode cX2_havers 12 = .ok (.aload_n 0, 1) := by decide +kernel
theorem dX2_havers_13 : decode cX2_havers 13 = .ok (.getfield 11, 3) := by decide +kernel
theorem dX2_havers_16 : decode cX2_havers 16 = .ok (.iload_n 3, 1) := by decide +kernel
theorem dX2_havers_17 : decode cX2_havers 17 = .ok (.aaload, 1) := by decide +kernel
theorem dX2_havers_18 : decode cX2_havers 18 = .ok (.getfield 98, 3) := by decide +kernel
theorem dX2_havers_21 : decode cX2_havers 21 = .ok (.iload_n 1, 1) := by decide +kernel
theorem dX2_havers_22 : decode cX2_havers 22 = .ok (.invokestatic 61, 3) := by decide +kernel
theorem dX2_havers_25 : decode cX2_havers 25 = .ok (.ifCond .eq 9, 3) := by decide +kernel
theorem dX2_havers_28 : decode cX2_havers 28 = .ok (.iload_n 2, 1) := by decide +kernel
theorem dX2_havers_29 : decode cX2_havers 29 = .ok (.iconst 1, 1) := by decide +kernel
theorem dX2_havers_30 : decode cX2_havers 30 = .ok (.iload_n 3, 1) := by decide +kernel
theorem dX2_havers_31 : decode cX2_havers 31 = .ok (.ishl, 1) := by decide +kernel
theorem dX2_havers_32 : decode cX2_havers 32 = .ok (.ior, 1) := by decide +kernel
theorem dX2_havers_33 : decode cX2_havers 33 = .ok (.istore_n 2, 1) := by decide +kernel
theorem dX2_havers_34 : decode cX2_havers 34 = .ok (.iinc 3 1, 3) := by decide +kernel
theorem dX2_havers_37 : decode cX2_havers 37 = .ok (.goto (-33), 3) := by decide +kernel
theorem dX2_havers_40 : decode cX2_havers 40 = .ok (.iload_n 2, 1) := by decide +kernel
theorem dX2_havers_41 : decode cX2_havers 41 = .ok (.ireturn, 1) := by decide +kernel
set_option maxRecDepth 20000 in
theorem ggX2_fitsBehind_X2_holds : GoodIn wsX2_fitsBehind wsX2_holds := goodIn_r _ [8, 9, 13, 14, 15, 16, 17, 18, 19] (by decide +kernel) (by decide +kernel)
set_option maxRecDepth 20000 in
theorem gX2_fitsBehind_X2_holds : GoodIn wsX2_fitsBehind (wsV RX2 101 RX2 yX2_holds wsX2_holds) := goodIn_app (goodIn_of _ (by decide +kernel)) ggX2_fitsBehind_X2_holds
set_option maxRecDepth 20000 in
theorem ggX2_fitsBehind_X5_isIn : GoodIn wsX2_fitsBehind wsX5_isIn := goodIn_r _ [12] (by decide +kernel) (by decide +kernel)
set_option maxRecDepth 20000 in
theorem gX2_fitsBehind_X5_isIn_n61 : GoodIn wsX2_fitsBehind (wsX5_isIn) := ggX2_fitsBehind_X5_isIn
theorem dX2_fitsBehind_0 : decode cX2_fitsBehind 0 = .ok (.iload_n 2, 1) := by decide +kernel
theorem dX2_fitsBehind_1 : decode cX2_fitsBehind 1 = .ok (.iload_n 3, 1) := by decide +kernel
theorem dX2_fitsBehind_2 : decode cX2_fitsBehind 2 = .ok (.if_icmp .ge 16, 3) := by decide +kernel
theorem dX2_fitsBehind_5 : decode cX2_fitsBehind 5 = .ok (.aload_n 0, 1) := by decide +kernel
theorem dX2_fitsBehind_6 : decode cX2_fitsBehind 6 = .ok (.aload_n 0, 1) := by decide +kernel
theorem dX2_fitsBehind_7 : decode cX2_fitsBehind 7 = .ok (.getfield 24, 3) := by decide +kernel
theorem dX2_fitsBehind_10 : decode cX2_fitsBehind 10 = .ok (.iload_n 2, 1) := by decide +kernel
theorem dX2_fitsBehind_11 : decode cX2_fitsBehind 11 = .ok (.iaload, 1) := by decide +kernel
theorem dX2_fitsBehind_12 : decode cX2_fitsBehind 12 = .ok (.invokevirtual 101, 3) := by decide +kernel
theorem dX2_fitsBehind_15 : decode cX2_fitsBehind 15 = .ok (.ifCond .ne 5, 3) := by decide +kernel
theorem dX2_fitsBehind_18 : decode cX2_fitsBehind 18 = .ok (.iconst 0, 1) := by decide +kernel
theorem dX2_fitsBehind_19 : decode cX2_fitsBehind 19 = .ok (.ireturn, 1) := by decide +kernel
theorem dX2_fitsBehind_20 : decode cX2_fitsBehind 20 = .ok (.aload_n 0, 1) := by decide +kernel
theorem dX2_fitsBehind_21 : decode cX2_fitsBehind 21 = .ok (.getfield 24, 3) := by decide +kernel
theorem dX2_fitsBehind_24 : decode cX2_fitsBehind 24 = .ok (.iload_n 2, 1) := by decide +kernel
theorem dX2_fitsBehind_25 : decode cX2_fitsBehind 25 = .ok (.iaload, 1) := by decide +kernel
theorem dX2_fitsBehind_26 : decode cX2_fitsBehind 26 = .ok (.istore 4, 2) := by decide +kernel
theorem dX2_fitsBehind_28 : decode cX2_fitsBehind 28 = .ok (.iload_n 1, 1) := by decide +kernel
theorem dX2_fitsBehind_29 : decode cX2_fitsBehind 29 = .ok (.iload 4, 2) := by decide +kernel
theorem dX2_fitsBehind_31 : decode cX2_fitsBehind 31 = .ok (.invokestatic 61, 3) := by decide +kernel
theorem dX2_fitsBehind_34 : decode cX2_fitsBehind 34 = .ok (.ifCond .ne 24, 3) := by decide +kernel
theorem dX2_fitsBehind_37 : decode cX2_fitsBehind 37 = .ok (.aload_n 0, 1) := by decide +kernel
theorem dX2_fitsBehind_38 : decode cX2_fitsBehind 38 = .ok (.getfield 11, 3) := by decide +kernel
theorem dX2_fitsBehind_41 : decode cX2_fitsBehind 41 = .ok (.iload 4, 2) := by decide +kernel
theorem dX2_fitsBehind_43 : decode cX2_fitsBehind 43 = .ok (.aaload, 1) := by decide +kernel
theorem dX2_fitsBehind_44 : decode cX2_fitsBehind 44 = .ok (.getfield 52, 3) := by decide +kernel
theorem dX2_fitsBehind_47 : decode cX2_fitsBehind 47 = .ok (.iload_n 1, 1) := by decide +kernel
theorem dX2_fitsBehind_48 : decode cX2_fitsBehind 48 = .ok (.iconst (-1), 1) := by decide +kernel
theorem dX2_fitsBehind_49 : decode cX2_fitsBehind 49 = .ok (.ixor, 1) := by decide +kernel
theorem dX2_fitsBehind_50 : decode cX2_fitsBehind 50 = .ok (.iand, 1) := by decide +kernel
theorem dX2_fitsBehind_51 : decode cX2_fitsBehind 51 = .ok (.ifCond .ne 7, 3) := by decide +kernel
theorem dX2_fitsBehind_54 : decode cX2_fitsBehind 54 = .ok (.iconst 1, 1) := by decide +kernel
theorem dX2_fitsBehind_55 : decode cX2_fitsBehind 55 = .ok (.goto 4, 3) := by decide +kernel
theorem dX2_fitsBehind_58 : decode cX2_fitsBehind 58 = .ok (.iconst 0, 1) := by decide +kernel
theorem dX2_fitsBehind_59 : decode cX2_fitsBehind 59 = .ok (.ireturn, 1) := by decide +kernel
set_option maxRecDepth 20000 in
theorem ggX2_costOfWaiting_X1_goodsSurelyLacked : GoodIn wsX2_costOfWaiting wsX1_goodsSurelyLacked := goodIn_r _ [9, 10, 11, 12, 13, 8, 14, 15, 16, 31, 32, 33, 34, 35, 36, 37, 38, 39] (by decide +kernel) (by decide +kernel)
set_option maxRecDepth 20000 in
theorem gX2_costOfWaiting_X1_goodsSurelyLacked : GoodIn wsX2_costOfWaiting (wsV RX2 105 RX1 yX1_goodsSurelyLacked wsX1_goodsSurelyLacked) := goodIn_app (goodIn_of _ (by decide +kernel)) ggX2_costOfWaiting_X1_goodsSurelyLacked
set_option maxRecDepth 20000 in
theorem ggX2_costOfWaiting_J6_bitCount_0f7a4 : GoodIn wsX2_costOfWaiting wsJ6_bitCount_0f7a4 := goodIn_r _ [20, 21, 22, 23] (by decide +kernel) (by decide +kernel)
set_option maxRecDepth 20000 in
theorem gX2_costOfWaiting_J6_bitCount_0f7a4 : GoodIn wsX2_costOfWaiting (va_wsS RX2 55 yJ6_bitCount_0f7a4 wsJ6_bitCount_0f7a4) := goodIn_app (goodIn_of _ (by decide +kernel)) ggX2_costOfWaiting_J6_bitCount_0f7a4
theorem dX2_costOfWaiting_0 : decode cX2_costOfWaiting 0 = .ok (.iconst 0, 1) := by decide +kernel
theorem dX2_costOfWaiting_1 : decode cX2_costOfWaiting 1 = .ok (.istore_n 1, 1) := by decide +kernel
theorem dX2_costOfWaiting_2 : decode cX2_costOfWaiting 2 = .ok (.iconst 0, 1) := by decide +kernel
theorem dX2_costOfWaiting_3 : decode cX2_costOfWaiting 3 = .ok (.istore_n 2, 1) := by decide +kernel
theorem dX2_costOfWaiting_4 : decode cX2_costOfWaiting 4 = .ok (.iconst 0, 1) := by decide +kernel
theorem dX2_costOfWaiting_5 : decode cX2_costOfWaiting 5 = .ok (.istore_n 3, 1) := by decide +kernel
theorem dX2_costOfWaiting_6 : decode cX2_costOfWaiting 6 = .ok (.iload_n 3, 1) := by decide +kernel
theorem dX2_costOfWaiting_7 : decode cX2_costOfWaiting 7 = .ok (.aload_n 0, 1) := by decide +kernel
theorem dX2_costOfWaiting_8 : decode cX2_costOfWaiting 8 = .ok (.getfield 41, 3) := by decide +kernel
theorem dX2_costOfWaiting_11 : decode cX2_costOfWaiting 11 = .ok (.if_icmp .ge 89, 3) := by decide +kernel
theorem dX2_costOfWaiting_14 : decode cX2_costOfWaiting 14 = .ok (.aload_n 0, 1) := by decide +kernel
theorem dX2_costOfWaiting_15 : decode cX2_costOfWaiting 15 = .ok (.getfield 11, 3) := by decide +kernel
theorem dX2_costOfWaiting_18 : decode cX2_costOfWaiting 18 = .ok (.aload_n 0, 1) := by decide +kernel
theorem dX2_costOfWaiting_19 : decode cX2_costOfWaiting 19 = .ok (.getfield 24, 3) := by decide +kernel
theorem dX2_costOfWaiting_22 : decode cX2_costOfWaiting 22 = .ok (.iload_n 3, 1) := by decide +kernel
theorem dX2_costOfWaiting_23 : decode cX2_costOfWaiting 23 = .ok (.iaload, 1) := by decide +kernel
theorem dX2_costOfWaiting_24 : decode cX2_costOfWaiting 24 = .ok (.aaload, 1) := by decide +kernel
theorem dX2_costOfWaiting_25 : decode cX2_costOfWaiting 25 = .ok (.astore 4, 2) := by decide +kernel
theorem dX2_costOfWaiting_27 : decode cX2_costOfWaiting 27 = .ok (.iconst 0, 1) := by decide +kernel
theorem dX2_costOfWaiting_28 : decode cX2_costOfWaiting 28 = .ok (.istore 5, 2) := by decide +kernel
theorem dX2_costOfWaiting_30 : decode cX2_costOfWaiting 30 = .ok (.iload_n 3, 1) := by decide +kernel
theorem dX2_costOfWaiting_31 : decode cX2_costOfWaiting 31 = .ok (.iconst 1, 1) := by decide +kernel
theorem dX2_costOfWaiting_32 : decode cX2_costOfWaiting 32 = .ok (.iadd, 1) := by decide +kernel
theorem dX2_costOfWaiting_33 : decode cX2_costOfWaiting 33 = .ok (.istore 6, 2) := by decide +kernel
theorem dX2_costOfWaiting_35 : decode cX2_costOfWaiting 35 = .ok (.iload 6, 2) := by decide +kernel
theorem dX2_costOfWaiting_37 : decode cX2_costOfWaiting 37 = .ok (.aload_n 0, 1) := by decide +kernel
theorem dX2_costOfWaiting_38 : decode cX2_costOfWaiting 38 = .ok (.getfield 41, 3) := by decide +kernel
theorem dX2_costOfWaiting_41 : decode cX2_costOfWaiting 41 = .ok (.if_icmp .ge 29, 3) := by decide +kernel
theorem dX2_costOfWaiting_44 : decode cX2_costOfWaiting 44 = .ok (.iload 5, 2) := by decide +kernel
theorem dX2_costOfWaiting_46 : decode cX2_costOfWaiting 46 = .ok (.aload_n 0, 1) := by decide +kernel
theorem dX2_costOfWaiting_47 : decode cX2_costOfWaiting 47 = .ok (.getfield 11, 3) := by decide +kernel
theorem dX2_costOfWaiting_50 : decode cX2_costOfWaiting 50 = .ok (.aload_n 0, 1) := by decide +kernel
theorem dX2_costOfWaiting_51 : decode cX2_costOfWaiting 51 = .ok (.getfield 24, 3) := by decide +kernel
theorem dX2_costOfWaiting_54 : decode cX2_costOfWaiting 54 = .ok (.iload 6, 2) := by decide +kernel
theorem dX2_costOfWaiting_56 : decode cX2_costOfWaiting 56 = .ok (.iaload, 1) := by decide +kernel
theorem dX2_costOfWaiting_57 : decode cX2_costOfWaiting 57 = .ok (.aaload, 1) := by decide +kernel
theorem dX2_costOfWaiting_58 : decode cX2_costOfWaiting 58 = .ok (.getfield 98, 3) := by decide +kernel
theorem dX2_costOfWaiting_61 : decode cX2_costOfWaiting 61 = .ok (.ior, 1) := by decide +kernel
theorem dX2_costOfWaiting_62 : decode cX2_costOfWaiting 62 = .ok (.istore 5, 2) := by decide +kernel
theorem dX2_costOfWaiting_64 : decode cX2_costOfWaiting 64 = .ok (.iinc 6 1, 3) := by decide +kernel
theorem dX2_costOfWaiting_67 : decode cX2_costOfWaiting 67 = .ok (.goto (-32), 3) := by decide +kernel
theorem dX2_costOfWaiting_70 : decode cX2_costOfWaiting 70 = .ok (.iload_n 1, 1) := by decide +kernel
theorem dX2_costOfWaiting_71 : decode cX2_costOfWaiting 71 = .ok (.iload_n 2, 1) := by decide +kernel
theorem dX2_costOfWaiting_72 : decode cX2_costOfWaiting 72 = .ok (.iload 5, 2) := by decide +kernel
theorem dX2_costOfWaiting_74 : decode cX2_costOfWaiting 74 = .ok (.iand, 1) := by decide +kernel
theorem dX2_costOfWaiting_75 : decode cX2_costOfWaiting 75 = .ok (.aload 4, 2) := by decide +kernel
theorem dX2_costOfWaiting_77 : decode cX2_costOfWaiting 77 = .ok (.invokevirtual 105, 3) := by decide +kernel
theorem dX2_costOfWaiting_80 : decode cX2_costOfWaiting 80 = .ok (.iand, 1) := by decide +kernel
theorem dX2_costOfWaiting_81 : decode cX2_costOfWaiting 81 = .ok (.invokestatic 55, 3) := by decide +kernel
theorem dX2_costOfWaiting_84 : decode cX2_costOfWaiting 84 = .ok (.iadd, 1) := by decide +kernel
theorem dX2_costOfWaiting_85 : decode cX2_costOfWaiting 85 = .ok (.istore_n 1, 1) := by decide +kernel
theorem dX2_costOfWaiting_86 : decode cX2_costOfWaiting 86 = .ok (.iload_n 2, 1) := by decide +kernel
theorem dX2_costOfWaiting_87 : decode cX2_costOfWaiting 87 = .ok (.aload 4, 2) := by decide +kernel
theorem dX2_costOfWaiting_89 : decode cX2_costOfWaiting 89 = .ok (.getfield 98, 3) := by decide +kernel
theorem dX2_costOfWaiting_92 : decode cX2_costOfWaiting 92 = .ok (.ior, 1) := by decide +kernel
theorem dX2_costOfWaiting_93 : decode cX2_costOfWaiting 93 = .ok (.istore_n 2, 1) := by decide +kernel
theorem dX2_costOfWaiting_94 : decode cX2_costOfWaiting 94 = .ok (.iinc 3 1, 3) := by decide +kernel
theorem dX2_costOfWaiting_97 : decode cX2_costOfWaiting 97 = .ok (.goto (-91), 3) := by decide +kernel
theorem dX2_costOfWaiting_100 : decode cX2_costOfWaiting 100 = .ok (.iload_n 1, 1) := by decide +kernel
theorem dX2_costOfWaiting_101 : decode cX2_costOfWaiting 101 = .ok (.ireturn, 1) := by decide +kernel
set_option maxRecDepth 20000 in
theorem ggX2_familyOf_X2_neighboursOf : GoodIn wsX2_familyOf wsX2_neighboursOf := goodIn_r _ [7, 1, 8, 9, 10, 11, 12, 13, 14, 15, 16, 17, 18, 19, 27, 28, 29, 30, 31, 32, 33, 34, 35, 36, 37, 38, 39, 40, 41, 42] (by decide +kernel) (by decide +kernel)
set_option maxRecDepth 20000 in
theorem gX2_familyOf_X2_neighboursOf : GoodIn wsX2_familyOf (wsV RX2 109 RX2 yX2_neighboursOf wsX2_neighboursOf) := goodIn_app (goodIn_of _ (by decide +kernel)) ggX2_familyOf_X2_neighboursOf
set_option maxRecDepth 20000 in
theorem ggX2_familyOf_X2_reachedFrom : GoodIn wsX2_familyOf wsX2_reachedFrom := goodIn_r _ [23, 1, 2, 24, 25, 26, 27, 28, 29, 30, 31, 32, 33] (by decide +kernel) (by decide +kernel)
set_option maxRecDepth 20000 in
theorem gX2_familyOf_X2_reachedFrom : GoodIn wsX2_familyOf (wsV RX2 65 RX2 yX2_reachedFrom wsX2_reachedFrom) := goodIn_app (goodIn_of _ (by decide +kernel)) ggX2_familyOf_X2_reachedFrom
set_option maxRecDepth 20000 in
theorem ggX2_familyOf_X5_isIn : GoodIn wsX2_familyOf wsX5_isIn := goodIn_r _ [26] (by decide +kernel) (by decide +kernel)
set_option maxRecDepth 20000 in
theorem gX2_familyOf_X5_isIn_n61 : GoodIn wsX2_familyOf (wsX5_isIn) := ggX2_familyOf_X5_isIn
theorem dX2_familyOf_0 : decode cX2_familyOf 0 = .ok (.iconst 0, 1) := by decide +kernel
theorem dX2_familyOf_1 : decode cX2_familyOf 1 = .ok (.istore_n 3, 1) := by decide +kernel
theorem dX2_familyOf_2 : decode cX2_familyOf 2 = .ok (.iload_n 3, 1) := by decide +kernel
theorem dX2_familyOf_3 : decode cX2_familyOf 3 = .ok (.aload_n 0, 1) := by decide +kernel
theorem dX2_familyOf_4 : decode cX2_familyOf 4 = .ok (.getfield 41, 3) := by decide +kernel
theorem dX2_familyOf_7 : decode cX2_familyOf 7 = .ok (.if_icmp .ge 21, 3) := by decide +kernel
theorem dX2_familyOf_10 : decode cX2_familyOf 10 = .ok (.aload_n 0, 1) := by decide +kernel
theorem dX2_familyOf_11 : decode cX2_familyOf 11 = .ok (.getfield 27, 3) := by decide +kernel
theorem dX2_familyOf_14 : decode cX2_familyOf 14 = .ok (.iload_n 3, 1) := by decide +kernel
theorem dX2_familyOf_15 : decode cX2_familyOf 15 = .ok (.aload_n 0, 1) := by decide +kernel
theorem dX2_familyOf_16 : decode cX2_familyOf 16 = .ok (.iload_n 3, 1) := by decide +kernel
theorem dX2_familyOf_17 : decode cX2_familyOf 17 = .ok (.iload_n 2, 1) := by decide +kernel
theorem dX2_familyOf_18 : decode cX2_familyOf 18 = .ok (.invokevirtual 109, 3) := by decide +kernel
theorem dX2_familyOf_21 : decode cX2_familyOf 21 = .ok (.iastore, 1) := by decide +kernel
theorem dX2_familyOf_22 : decode cX2_familyOf 22 = .ok (.iinc 3 1, 3) := by decide +kernel
theorem dX2_familyOf_25 : decode cX2_familyOf 25 = .ok (.goto (-23), 3) := by decide +kernel
theorem dX2_familyOf_28 : decode cX2_familyOf 28 = .ok (.aload_n 0, 1) := by decide +kernel
theorem dX2_familyOf_29 : decode cX2_familyOf 29 = .ok (.iconst 1, 1) := by decide +kernel
theorem dX2_familyOf_30 : decode cX2_familyOf 30 = .ok (.iload_n 1, 1) := by decide +kernel
theorem dX2_familyOf_31 : decode cX2_familyOf 31 = .ok (.ishl, 1) := by decide +kernel
theorem dX2_familyOf_32 : decode cX2_familyOf 32 = .ok (.invokevirtual 65, 3) := by decide +kernel
theorem dX2_familyOf_35 : decode cX2_familyOf 35 = .ok (.istore_n 3, 1) := by decide +kernel
theorem dX2_familyOf_36 : decode cX2_familyOf 36 = .ok (.iconst 0, 1) := by decide +kernel
theorem dX2_familyOf_37 : decode cX2_familyOf 37 = .ok (.istore 4, 2) := by decide +kernel
theorem dX2_familyOf_39 : decode cX2_familyOf 39 = .ok (.iload 4, 2) := by decide +kernel
theorem dX2_familyOf_41 : decode cX2_familyOf 41 = .ok (.iload_n 1, 1) := by decide +kernel
theorem dX2_familyOf_42 : decode cX2_familyOf 42 = .ok (.if_icmp .ge 21, 3) := by decide +kernel
theorem dX2_familyOf_45 : decode cX2_familyOf 45 = .ok (.iload_n 3, 1) := by decide +kernel
theorem dX2_familyOf_46 : decode cX2_familyOf 46 = .ok (.iload 4, 2) := by decide +kernel
theorem dX2_familyOf_48 : decode cX2_familyOf 48 = .ok (.invokestatic 61, 3) := by decide +kernel
theorem dX2_familyOf_51 : decode cX2_familyOf 51 = .ok (.ifCond .eq 6, 3) := by decide +kernel
theorem dX2_familyOf_54 : decode cX2_familyOf 54 = .ok (.iload 4, 2) := by decide +kernel
theorem dX2_familyOf_56 : decode cX2_familyOf 56 = .ok (.ireturn, 1) := by decide +kernel
theorem dX2_familyOf_57 : decode cX2_familyOf 57 = .ok (.iinc 4 1, 3) := by decide +kernel
theorem dX2_familyOf_60 : decode cX2_familyOf 60 = .ok (.goto (-21), 3) := by decide +kernel
theorem dX2_familyOf_63 : decode cX2_familyOf 63 = .ok (.iload_n 1, 1) := by decide +kernel
theorem dX2_familyOf_64 : decode cX2_familyOf 64 = .ok (.ireturn, 1) := by decide +kernel
set_option maxRecDepth 20000 in
theorem ggX2_neighboursOf_X1_isWithin : GoodIn wsX2_neighboursOf wsX1_isWithin := goodIn_r _ [7, 8, 9, 10, 11, 12, 13, 21, 22, 23, 24, 25, 26, 27, 28, 29] (by decide +kernel) (by decide +kernel)
set_option maxRecDepth 20000 in
theorem gX2_neighboursOf_X1_isWithin : GoodIn wsX2_neighboursOf (wsV RX2 112 RX1 yX1_isWithin wsX1_isWithin) := goodIn_app (goodIn_of _ (by decide +kernel)) ggX2_neighboursOf_X1_isWithin
theorem dX2_neighboursOf_0 : decode cX2_neighboursOf 0 = .ok (.iconst 0, 1) := by decide +kernel
theorem dX2_neighboursOf_1 : decode cX2_neighboursOf 1 = .ok (.istore_n 3, 1) := by decide +kernel
theorem dX2_neighboursOf_2 : decode cX2_neighboursOf 2 = .ok (.iconst 0, 1) := by decide +kernel
theorem dX2_neighboursOf_3 : decode cX2_neighboursOf 3 = .ok (.istore 4, 2) := by decide +kernel
theorem dX2_neighboursOf_5 : decode cX2_neighboursOf 5 = .ok (.iload 4, 2) := by decide +kernel
theorem dX2_neighboursOf_7 : decode cX2_neighboursOf 7 = .ok (.aload_n 0, 1) := by decide +kernel
theorem dX2_neighboursOf_8 : decode cX2_neighboursOf 8 = .ok (.getfield 41, 3) := by decide +kernel
theorem dX2_neighboursOf_11 : decode cX2_neighboursOf 11 = .ok (.if_icmp .ge 36, 3) := by decide +kernel
theorem dX2_neighboursOf_14 : decode cX2_neighboursOf 14 = .ok (.aload_n 0, 1) := by decide +kernel
theorem dX2_neighboursOf_15 : decode cX2_neighboursOf 15 = .ok (.getfield 11, 3) := by decide +kernel
theorem dX2_neighboursOf_18 : decode cX2_neighboursOf 18 = .ok (.iload_n 1, 1) := by decide +kernel
theorem dX2_neighboursOf_19 : decode cX2_neighboursOf 19 = .ok (.aaload, 1) := by decide +kernel
theorem dX2_neighboursOf_20 : decode cX2_neighboursOf 20 = .ok (.iload_n 2, 1) := by decide +kernel
theorem dX2_neighboursOf_21 : decode cX2_neighboursOf 21 = .ok (.aload_n 0, 1) := by decide +kernel
theorem dX2_neighboursOf_22 : decode cX2_neighboursOf 22 = .ok (.getfield 11, 3) := by decide +kernel
theorem dX2_neighboursOf_25 : decode cX2_neighboursOf 25 = .ok (.iload 4, 2) := by decide +kernel
theorem dX2_neighboursOf_27 : decode cX2_neighboursOf 27 = .ok (.aaload, 1) := by decide +kernel
theorem dX2_neighboursOf_28 : decode cX2_neighboursOf 28 = .ok (.invokevirtual 112, 3) := by decide +kernel
theorem dX2_neighboursOf_31 : decode cX2_neighboursOf 31 = .ok (.ifCond .eq 10, 3) := by decide +kernel
theorem dX2_neighboursOf_34 : decode cX2_neighboursOf 34 = .ok (.iload_n 3, 1) := by decide +kernel
theorem dX2_neighboursOf_35 : decode cX2_neighboursOf 35 = .ok (.iconst 1, 1) := by decide +kernel
theorem dX2_neighboursOf_36 : decode cX2_neighboursOf 36 = .ok (.iload 4, 2) := by decide +kernel
theorem dX2_neighboursOf_38 : decode cX2_neighboursOf 38 = .ok (.ishl, 1) := by decide +kernel
theorem dX2_neighboursOf_39 : decode cX2_neighboursOf 39 = .ok (.ior, 1) := by decide +kernel
theorem dX2_neighboursOf_40 : decode cX2_neighboursOf 40 = .ok (.istore_n 3, 1) := by decide +kernel
theorem dX2_neighboursOf_41 : decode cX2_neighboursOf 41 = .ok (.iinc 4 1, 3) := by decide +kernel
theorem dX2_neighboursOf_44 : decode cX2_neighboursOf 44 = .ok (.goto (-39), 3) := by decide +kernel
theorem dX2_neighboursOf_47 : decode cX2_neighboursOf 47 = .ok (.iload_n 3, 1) := by decide +kernel
theorem dX2_neighboursOf_48 : decode cX2_neighboursOf 48 = .ok (.ireturn, 1) := by decide +kernel
set_option maxRecDepth 20000 in
theorem ggX2_sharedGoods_J6_bitCount_0f7a4 : GoodIn wsX2_sharedGoods wsJ6_bitCount_0f7a4 := goodIn_r _ [6, 7, 8, 9] (by decide +kernel) (by decide +kernel)
set_option maxRecDepth 20000 in
theorem gX2_sharedGoods_J6_bitCount_0f7a4 : GoodIn wsX2_sharedGoods (va_wsS RX2 55 yJ6_bitCount_0f7a4 wsJ6_bitCount_0f7a4) := goodIn_app (goodIn_of _ (by decide +kernel)) ggX2_sharedGoods_J6_bitCount_0f7a4
theorem dX2_sharedGoods_0 : decode cX2_sharedGoods 0 = .ok (.aload_n 0, 1) := by decide +kernel
theorem dX2_sharedGoods_1 : decode cX2_sharedGoods 1 = .ok (.getfield 11, 3) := by decide +kernel
theorem dX2_sharedGoods_4 : decode cX2_sharedGoods 4 = .ok (.iload_n 1, 1) := by decide +kernel
theorem dX2_sharedGoods_5 : decode cX2_sharedGoods 5 = .ok (.aaload, 1) := by decide +kernel
theorem dX2_sharedGoods_6 : decode cX2_sharedGoods 6 = .ok (.getfield 98, 3) := by decide +kernel
theorem dX2_sharedGoods_9 : decode cX2_sharedGoods 9 = .ok (.aload_n 0, 1) := by decide +kernel
theorem dX2_sharedGoods_10 : decode cX2_sharedGoods 10 = .ok (.getfield 11, 3) := by decide +kernel
theorem dX2_sharedGoods_13 : decode cX2_sharedGoods 13 = .ok (.iload_n 2, 1) := by decide +kernel
theorem dX2_sharedGoods_14 : decode cX2_sharedGoods 14 = .ok (.aaload, 1) := by decide +kernel
theorem dX2_sharedGoods_15 : decode cX2_sharedGoods 15 = .ok (.getfield 98, 3) := by decide +kernel
theorem dX2_sharedGoods_18 : decode cX2_sharedGoods 18 = .ok (.iand, 1) := by decide +kernel
theorem dX2_sharedGoods_19 : decode cX2_sharedGoods 19 = .ok (.invokestatic 55, 3) := by decide +kernel
theorem dX2_sharedGoods_22 : decode cX2_sharedGoods 22 = .ok (.ireturn, 1) := by decide +kernel
set_option maxRecDepth 20000 in
theorem ggX2_joinedGoods_J6_bitCount_0f7a4 : GoodIn wsX2_joinedGoods wsJ6_bitCount_0f7a4 := goodIn_r _ [10, 11, 12, 13] (by decide +kernel) (by decide +kernel)
set_option maxRecDepth 20000 in
theorem gX2_joinedGoods_J6_bitCount_0f7a4 : GoodIn wsX2_joinedGoods (va_wsS RX2 55 yJ6_bitCount_0f7a4 wsJ6_bitCount_0f7a4) := goodIn_app (goodIn_of _ (by decide +kernel)) ggX2_joinedGoods_J6_bitCount_0f7a4
theorem dX2_joinedGoods_0 : decode cX2_joinedGoods 0 = .ok (.iconst 1, 1) := by decide +kernel
theorem dX2_joinedGoods_1 : decode cX2_joinedGoods 1 = .ok (.aload_n 0, 1) := by decide +kernel
theorem dX2_joinedGoods_2 : decode cX2_joinedGoods 2 = .ok (.getfield 11, 3) := by decide +kernel
theorem dX2_joinedGoods_5 : decode cX2_joinedGoods 5 = .ok (.iload_n 1, 1) := by decide +kernel
theorem dX2_joinedGoods_6 : decode cX2_joinedGoods 6 = .ok (.aaload, 1) := by decide +kernel
theorem dX2_joinedGoods_7 : decode cX2_joinedGoods 7 = .ok (.getfield 98, 3) := by decide +kernel
theorem dX2_joinedGoods_10 : decode cX2_joinedGoods 10 = .ok (.aload_n 0, 1) := by decide +kernel
theorem dX2_joinedGoods_11 : decode cX2_joinedGoods 11 = .ok (.getfield 11, 3) := by decide +kernel
theorem dX2_joinedGoods_14 : decode cX2_joinedGoods 14 = .ok (.iload_n 2, 1) := by decide +kernel
theorem dX2_joinedGoods_15 : decode cX2_joinedGoods 15 = .ok (.aaload, 1) := by decide +kernel
theorem dX2_joinedGoods_16 : decode cX2_joinedGoods 16 = .ok (.getfield 98, 3) := by decide +kernel
theorem dX2_joinedGoods_19 : decode cX2_joinedGoods 19 = .ok (.ior, 1) := by decide +kernel
theorem dX2_joinedGoods_20 : decode cX2_joinedGoods 20 = .ok (.invokestatic 55, 3) := by decide +kernel
theorem dX2_joinedGoods_23 : decode cX2_joinedGoods 23 = .ok (.invokestatic 77, 3) := by decide +kernel
theorem dX2_joinedGoods_26 : decode cX2_joinedGoods 26 = .ok (.ireturn, 1) := by decide +kernel
set_option maxRecDepth 20000 in
theorem ggX2_mostLike_X2_sharedGoods : GoodIn wsX2_mostLike wsX2_sharedGoods := goodIn_r _ [6, 7, 8, 9, 10, 11, 12, 13, 14, 15, 24, 25, 26, 27, 28, 29, 30, 31, 32, 33, 34, 35, 36, 37, 38, 39] (by decide +kernel) (by decide +kernel)
set_option maxRecDepth 20000 in
theorem gX2_mostLike_X2_sharedGoods : GoodIn wsX2_mostLike (wsV RX2 116 RX2 yX2_sharedGoods wsX2_sharedGoods) := goodIn_app (goodIn_of _ (by decide +kernel)) ggX2_mostLike_X2_sharedGoods
set_option maxRecDepth 20000 in
theorem ggX2_mostLike_X2_joinedGoods : GoodIn wsX2_mostLike wsX2_joinedGoods := goodIn_r _ [19, 7, 8, 20, 21, 22, 23, 9, 10, 11, 12, 13, 14, 15, 24, 25, 26, 27, 28, 29, 30, 31, 32, 33, 34, 35, 36, 37, 38, 39] (by decide +kernel) (by decide +kernel)
set_option maxRecDepth 20000 in
theorem gX2_mostLike_X2_joinedGoods : GoodIn wsX2_mostLike (wsV RX2 119 RX2 yX2_joinedGoods wsX2_joinedGoods) := goodIn_app (goodIn_of _ (by decide +kernel)) ggX2_mostLike_X2_joinedGoods
theorem dX2_mostLike_0 : decode cX2_mostLike 0 = .ok (.iconst (-1), 1) := by decide +kernel
theorem dX2_mostLike_1 : decode cX2_mostLike 1 = .ok (.istore_n 2, 1) := by decide +kernel
theorem dX2_mostLike_2 : decode cX2_mostLike 2 = .ok (.iconst 0, 1) := by decide +kernel
theorem dX2_mostLike_3 : decode cX2_mostLike 3 = .ok (.istore_n 3, 1) := by decide +kernel
theorem dX2_mostLike_4 : decode cX2_mostLike 4 = .ok (.iconst 1, 1) := by decide +kernel
theorem dX2_mostLike_5 : decode cX2_mostLike 5 = .ok (.istore 4, 2) := by decide +kernel
theorem dX2_mostLike_7 : decode cX2_mostLike 7 = .ok (.iconst 0, 1) := by decide +kernel
theorem dX2_mostLike_8 : decode cX2_mostLike 8 = .ok (.istore 5, 2) := by decide +kernel
theorem dX2_mostLike_10 : decode cX2_mostLike 10 = .ok (.iload 5, 2) := by decide +kernel
theorem dX2_mostLike_12 : decode cX2_mostLike 12 = .ok (.aload_n 0, 1) := by decide +kernel
theorem dX2_mostLike_13 : decode cX2_mostLike 13 = .ok (.getfield 41, 3) := by decide +kernel
theorem dX2_mostLike_16 : decode cX2_mostLike 16 = .ok (.if_icmp .ge 62, 3) := by decide +kernel
theorem dX2_mostLike_19 : decode cX2_mostLike 19 = .ok (.iload 5, 2) := by decide +kernel
theorem dX2_mostLike_21 : decode cX2_mostLike 21 = .ok (.iload_n 1, 1) := by decide +kernel
theorem dX2_mostLike_22 : decode cX2_mostLike 22 = .ok (.if_icmp .ne 6, 3) := by decide +kernel
theorem dX2_mostLike_25 : decode cX2_mostLike 25 = .ok (.goto 47, 3) := by decide +kernel
theorem dX2_mostLike_28 : decode cX2_mostLike 28 = .ok (.aload_n 0, 1) := by decide +kernel
theorem dX2_mostLike_29 : decode cX2_mostLike 29 = .ok (.iload_n 1, 1) := by decide +kernel
theorem dX2_mostLike_30 : decode cX2_mostLike 30 = .ok (.iload 5, 2) := by decide +kernel
theorem dX2_mostLike_32 : decode cX2_mostLike 32 = .ok (.invokevirtual 116, 3) := by decide +kernel
theorem dX2_mostLike_35 : decode cX2_mostLike 35 = .ok (.istore 6, 2) := by decide +kernel
theorem dX2_mostLike_37 : decode cX2_mostLike 37 = .ok (.aload_n 0, 1) := by decide +kernel
theorem dX2_mostLike_38 : decode cX2_mostLike 38 = .ok (.iload_n 1, 1) := by decide +kernel
theorem dX2_mostLike_39 : decode cX2_mostLike 39 = .ok (.iload 5, 2) := by decide +kernel
theorem dX2_mostLike_41 : decode cX2_mostLike 41 = .ok (.invokevirtual 119, 3) := by decide +kernel
theorem dX2_mostLike_44 : decode cX2_mostLike 44 = .ok (.istore 7, 2) := by decide +kernel
theorem dX2_mostLike_46 : decode cX2_mostLike 46 = .ok (.iload_n 2, 1) := by decide +kernel
theorem dX2_mostLike_47 : decode cX2_mostLike 47 = .ok (.ifCond .lt 15, 3) := by decide +kernel
theorem dX2_mostLike_50 : decode cX2_mostLike 50 = .ok (.iload 6, 2) := by decide +kernel
theorem dX2_mostLike_52 : decode cX2_mostLike 52 = .ok (.iload 4, 2) := by decide +kernel
theorem dX2_mostLike_54 : decode cX2_mostLike 54 = .ok (.imul, 1) := by decide +kernel
theorem dX2_mostLike_55 : decode cX2_mostLike 55 = .ok (.iload_n 3, 1) := by decide +kernel
theorem dX2_mostLike_56 : decode cX2_mostLike 56 = .ok (.iload 7, 2) := by decide +kernel
theorem dX2_mostLike_58 : decode cX2_mostLike 58 = .ok (.imul, 1) := by decide +kernel
theorem dX2_mostLike_59 : decode cX2_mostLike 59 = .ok (.if_icmp .le 13, 3) := by decide +kernel
theorem dX2_mostLike_62 : decode cX2_mostLike 62 = .ok (.iload 5, 2) := by decide +kernel
theorem dX2_mostLike_64 : decode cX2_mostLike 64 = .ok (.istore_n 2, 1) := by decide +kernel
theorem dX2_mostLike_65 : decode cX2_mostLike 65 = .ok (.iload 6, 2) := by decide +kernel
theorem dX2_mostLike_67 : decode cX2_mostLike 67 = .ok (.istore_n 3, 1) := by decide +kernel
theorem dX2_mostLike_68 : decode cX2_mostLike 68 = .ok (.iload 7, 2) := by decide +kernel
theorem dX2_mostLike_70 : decode cX2_mostLike 70 = .ok (.istore 4, 2) := by decide +kernel
theorem dX2_mostLike_72 : decode cX2_mostLike 72 = .ok (.iinc 5 1, 3) := by decide +kernel
theorem dX2_mostLike_75 : decode cX2_mostLike 75 = .ok (.goto (-65), 3) := by decide +kernel
theorem dX2_mostLike_78 : decode cX2_mostLike 78 = .ok (.iload_n 2, 1) := by decide +kernel
theorem dX2_mostLike_79 : decode cX2_mostLike 79 = .ok (.ireturn, 1) := by decide +kernel
theorem dX2_weightsFor_0 : decode cX2_weightsFor 0 = .ok (.iload_n 1, 1) := by decide +kernel
theorem dX2_weightsFor_1 : decode cX2_weightsFor 1 = .ok (.ifCond .eq 10, 3) := by decide +kernel
theorem dX2_weightsFor_4 : decode cX2_weightsFor 4 = .ok (.aload_n 0, 1) := by decide +kernel
theorem dX2_weightsFor_5 : decode cX2_weightsFor 5 = .ok (.getfield 17, 3) := by decide +kernel
theorem dX2_weightsFor_8 : decode cX2_weightsFor 8 = .ok (.goto 7, 3) := by decide +kernel
theorem dX2_weightsFor_11 : decode cX2_weightsFor 11 = .ok (.aload_n 0, 1) := by decide +kernel
theorem dX2_weightsFor_12 : decode cX2_weightsFor 12 = .ok (.getfield 21, 3) := by decide +kernel
theorem dX2_weightsFor_15 : decode cX2_weightsFor 15 = .ok (.areturn, 1) := by decide +kernel
set_option maxRecDepth 20000 in
theorem ggX2_productOfMarks_X2_weightsFor : GoodIn wsX2_productOfMarks wsX2_weightsFor := goodIn_r _ [8, 9, 10, 14, 15, 16, 17, 18, 19, 20] (by decide +kernel) (by decide +kernel)
set_option maxRecDepth 20000 in
theorem gX2_productOfMarks_X2_weightsFor : GoodIn wsX2_productOfMarks (wsV RX2 122 RX2 yX2_weightsFor wsX2_weightsFor) := goodIn_app (goodIn_of _ (by decide +kernel)) ggX2_productOfMarks_X2_weightsFor
set_option maxRecDepth 20000 in
theorem ggX2_productOfMarks_X5_isIn : GoodIn wsX2_productOfMarks wsX5_isIn := goodIn_r _ [13] (by decide +kernel) (by decide +kernel)
set_option maxRecDepth 20000 in
theorem gX2_productOfMarks_X5_isIn_n61 : GoodIn wsX2_productOfMarks (wsX5_isIn) := ggX2_productOfMarks_X5_isIn
theorem dX2_productOfMarks_0 : decode cX2_productOfMarks 0 = .ok (.aload_n 0, 1) := by decide +kernel
theorem dX2_productOfMarks_1 : decode cX2_productOfMarks 1 = .ok (.getfield 11, 3) := by decide +kernel
theorem dX2_productOfMarks_4 : decode cX2_productOfMarks 4 = .ok (.iload_n 1, 1) := by decide +kernel
theorem dX2_productOfMarks_5 : decode cX2_productOfMarks 5 = .ok (.aaload, 1) := by decide +kernel
theorem dX2_productOfMarks_6 : decode cX2_productOfMarks 6 = .ok (.astore_n 3, 1) := by decide +kernel
theorem dX2_productOfMarks_7 : decode cX2_productOfMarks 7 = .ok (.aload_n 0, 1) := by decide +kernel
theorem dX2_productOfMarks_8 : decode cX2_productOfMarks 8 = .ok (.iload_n 2, 1) := by decide +kernel
theorem dX2_productOfMarks_9 : decode cX2_productOfMarks 9 = .ok (.invokevirtual 122, 3) := by decide +kernel
theorem dX2_productOfMarks_12 : decode cX2_productOfMarks 12 = .ok (.astore 4, 2) := by decide +kernel
theorem dX2_productOfMarks_14 : decode cX2_productOfMarks 14 = .ok (.lconst 1, 1) := by decide +kernel
theorem dX2_productOfMarks_15 : decode cX2_productOfMarks 15 = .ok (.lstore 5, 2) := by decide +kernel
theorem dX2_productOfMarks_17 : decode cX2_productOfMarks 17 = .ok (.iconst 0, 1) := by decide +kernel
theorem dX2_productOfMarks_18 : decode cX2_productOfMarks 18 = .ok (.istore 7, 2) := by decide +kernel
theorem dX2_productOfMarks_20 : decode cX2_productOfMarks 20 = .ok (.iload 7, 2) := by decide +kernel
theorem dX2_productOfMarks_22 : decode cX2_productOfMarks 22 = .ok (.bipush 6, 2) := by decide +kernel
theorem dX2_productOfMarks_24 : decode cX2_productOfMarks 24 = .ok (.if_icmp .ge 69, 3) := by decide +kernel
theorem dX2_productOfMarks_27 : decode cX2_productOfMarks 27 = .ok (.aload_n 3, 1) := by decide +kernel
theorem dX2_productOfMarks_28 : decode cX2_productOfMarks 28 = .ok (.getfield 126, 3) := by decide +kernel
theorem dX2_productOfMarks_31 : decode cX2_productOfMarks 31 = .ok (.iload 7, 2) := by decide +kernel
theorem dX2_productOfMarks_33 : decode cX2_productOfMarks 33 = .ok (.invokestatic 61, 3) := by decide +kernel
theorem dX2_productOfMarks_36 : decode cX2_productOfMarks 36 = .ok (.ifCond .eq 51, 3) := by decide +kernel
theorem dX2_productOfMarks_39 : decode cX2_productOfMarks 39 = .ok (.aload_n 3, 1) := by decide +kernel
theorem dX2_productOfMarks_40 : decode cX2_productOfMarks 40 = .ok (.getfield 129, 3) := by decide +kernel
theorem dX2_productOfMarks_43 : decode cX2_productOfMarks 43 = .ok (.iload 7, 2) := by decide +kernel
theorem dX2_productOfMarks_45 : decode cX2_productOfMarks 45 = .ok (.invokestatic 61, 3) := by decide +kernel
theorem dX2_productOfMarks_48 : decode cX2_productOfMarks 48 = .ok (.iload_n 2, 1) := by decide +kernel
theorem dX2_productOfMarks_49 : decode cX2_productOfMarks 49 = .ok (.if_icmp .ne 7, 3) := by decide +kernel
theorem dX2_productOfMarks_52 : decode cX2_productOfMarks 52 = .ok (.iconst 1, 1) := by decide +kernel
theorem dX2_productOfMarks_53 : decode cX2_productOfMarks 53 = .ok (.goto 4, 3) := by decide +kernel
theorem dX2_productOfMarks_56 : decode cX2_productOfMarks 56 = .ok (.iconst 0, 1) := by decide +kernel
theorem dX2_productOfMarks_57 : decode cX2_productOfMarks 57 = .ok (.istore 8, 2) := by decide +kernel
theorem dX2_productOfMarks_59 : decode cX2_productOfMarks 59 = .ok (.lload 5, 2) := by decide +kernel
theorem dX2_productOfMarks_61 : decode cX2_productOfMarks 61 = .ok (.iload 8, 2) := by decide +kernel
theorem dX2_productOfMarks_63 : decode cX2_productOfMarks 63 = .ok (.ifCond .eq 12, 3) := by decide +kernel
theorem dX2_productOfMarks_66 : decode cX2_productOfMarks 66 = .ok (.aload 4, 2) := by decide +kernel
theorem dX2_productOfMarks_68 : decode cX2_productOfMarks 68 = .ok (.iload 7, 2) := by decide +kernel
theorem dX2_productOfMarks_70 : decode cX2_productOfMarks 70 = .ok (.iaload, 1) := by decide +kernel
theorem dX2_productOfMarks_71 : decode cX2_productOfMarks 71 = .ok (.i2l, 1) := by decide +kernel
theorem dX2_productOfMarks_72 : decode cX2_productOfMarks 72 = .ok (.goto 12, 3) := by decide +kernel
theorem dX2_productOfMarks_75 : decode cX2_productOfMarks 75 = .ok (.bipush 21, 2) := by decide +kernel
theorem dX2_productOfMarks_77 : decode cX2_productOfMarks 77 = .ok (.aload 4, 2) := by decide +kernel
theorem dX2_productOfMarks_79 : decode cX2_productOfMarks 79 = .ok (.iload 7, 2) := by decide +kernel
theorem dX2_productOfMarks_81 : decode cX2_productOfMarks 81 = .ok (.iaload, 1) := by decide +kernel
theorem dX2_productOfMarks_82 : decode cX2_productOfMarks 82 = .ok (.isub, 1) := by decide +kernel
theorem dX2_productOfMarks_83 : decode cX2_productOfMarks 83 = .ok (.i2l, 1) := by decide +kernel
theorem dX2_productOfMarks_84 : decode cX2_productOfMarks 84 = .ok (.lmul, 1) := by decide +kernel
theorem dX2_productOfMarks_85 : decode cX2_productOfMarks 85 = .ok (.lstore 5, 2) := by decide +kernel
theorem dX2_productOfMarks_87 : decode cX2_productOfMarks 87 = .ok (.iinc 7 1, 3) := by decide +kernel
theorem dX2_productOfMarks_90 : decode cX2_productOfMarks 90 = .ok (.goto (-70), 3) := by decide +kernel
theorem dX2_productOfMarks_93 : decode cX2_productOfMarks 93 = .ok (.lload 5, 2) := by decide +kernel
theorem dX2_productOfMarks_95 : decode cX2_productOfMarks 95 = .ok (.lreturn, 1) := by decide +kernel
set_option maxRecDepth 20000 in
theorem ggX2_whose_X1_isOfKind : GoodIn wsX2_whose wsX1_isOfKind := goodIn_r _ [6, 7, 8, 32, 33, 34, 35, 36, 37, 38, 39, 40] (by decide +kernel) (by decide +kernel)
set_option maxRecDepth 20000 in
theorem gX2_whose_X1_isOfKind : GoodIn wsX2_whose (wsV RX2 132 RX1 yX1_isOfKind wsX1_isOfKind) := goodIn_app (goodIn_of _ (by decide +kernel)) ggX2_whose_X1_isOfKind
set_option maxRecDepth 20000 in
theorem ggX2_whose_X2_productOfMarks : GoodIn wsX2_whose wsX2_productOfMarks := goodIn_r _ [13, 1, 14, 15, 16, 17, 18, 12, 19, 20, 21, 22, 23, 24, 25, 26, 27, 28, 29, 30, 31, 32, 33, 34, 35, 36, 37, 38, 39, 40] (by decide +kernel) (by decide +kernel)
set_option maxRecDepth 20000 in
theorem gX2_whose_X2_productOfMarks : GoodIn wsX2_whose (wsV RX2 135 RX2 yX2_productOfMarks wsX2_productOfMarks) := goodIn_app (goodIn_of _ (by decide +kernel)) ggX2_whose_X2_productOfMarks
theorem dX2_whose_0 : decode cX2_whose 0 = .ok (.aload_n 0, 1) := by decide +kernel
theorem dX2_whose_1 : decode cX2_whose 1 = .ok (.getfield 11, 3) := by decide +kernel
theorem dX2_whose_4 : decode cX2_whose 4 = .ok (.iload_n 1, 1) := by decide +kernel
theorem dX2_whose_5 : decode cX2_whose 5 = .ok (.aaload, 1) := by decide +kernel
theorem dX2_whose_6 : decode cX2_whose 6 = .ok (.iconst 2, 1) := by decide +kernel
theorem dX2_whose_7 : decode cX2_whose 7 = .ok (.invokevirtual 132, 3) := by decide +kernel
theorem dX2_whose_10 : decode cX2_whose 10 = .ok (.ifCond .eq 5, 3) := by decide +kernel
theorem dX2_whose_13 : decode cX2_whose 13 = .ok (.iconst 2, 1) := by decide +kernel
theorem dX2_whose_14 : decode cX2_whose 14 = .ok (.ireturn, 1) := by decide +kernel
theorem dX2_whose_15 : decode cX2_whose 15 = .ok (.aload_n 0, 1) := by decide +kernel
theorem dX2_whose_16 : decode cX2_whose 16 = .ok (.iload_n 1, 1) := by decide +kernel
theorem dX2_whose_17 : decode cX2_whose 17 = .ok (.iconst 1, 1) := by decide +kernel
theorem dX2_whose_18 : decode cX2_whose 18 = .ok (.invokevirtual 135, 3) := by decide +kernel
theorem dX2_whose_21 : decode cX2_whose 21 = .ok (.lstore_n 2, 1) := by decide +kernel
theorem dX2_whose_22 : decode cX2_whose 22 = .ok (.aload_n 0, 1) := by decide +kernel
theorem dX2_whose_23 : decode cX2_whose 23 = .ok (.iload_n 1, 1) := by decide +kernel
theorem dX2_whose_24 : decode cX2_whose 24 = .ok (.iconst 0, 1) := by decide +kernel
theorem dX2_whose_25 : decode cX2_whose 25 = .ok (.invokevirtual 135, 3) := by decide +kernel
theorem dX2_whose_28 : decode cX2_whose 28 = .ok (.lstore 4, 2) := by decide +kernel
theorem dX2_whose_30 : decode cX2_whose 30 = .ok (.lload_n 2, 1) := by decide +kernel
theorem dX2_whose_31 : decode cX2_whose 31 = .ok (.lload 4, 2) := by decide +kernel
theorem dX2_whose_33 : decode cX2_whose 33 = .ok (.lcmp, 1) := by decide +kernel
theorem dX2_whose_34 : decode cX2_whose 34 = .ok (.ifCond .ne 5, 3) := by decide +kernel
theorem dX2_whose_37 : decode cX2_whose 37 = .ok (.iconst 2, 1) := by decide +kernel
theorem dX2_whose_38 : decode cX2_whose 38 = .ok (.ireturn, 1) := by decide +kernel
theorem dX2_whose_39 : decode cX2_whose 39 = .ok (.lload_n 2, 1) := by decide +kernel
theorem dX2_whose_40 : decode cX2_whose 40 = .ok (.lload 4, 2) := by decide +kernel
theorem dX2_whose_42 : decode cX2_whose 42 = .ok (.lcmp, 1) := by decide +kernel
theorem dX2_whose_43 : decode cX2_whose 43 = .ok (.ifCond .le 7, 3) := by decide +kernel
theorem dX2_whose_46 : decode cX2_whose 46 = .ok (.iconst 0, 1) := by decide +kernel
theorem dX2_whose_47 : decode cX2_whose 47 = .ok (.goto 4, 3) := by decide +kernel
theorem dX2_whose_50 : decode cX2_whose 50 = .ok (.iconst 1, 1) := by decide +kernel
theorem dX2_whose_51 : decode cX2_whose 51 = .ok (.ireturn, 1) := by decide +kernel
theorem dX3_init_0 : decode cX3_init 0 = .ok (.aload_n 0, 1) := by decide +kernel
theorem dX3_init_1 : decode cX3_init 1 = .ok (.invokespecial 3, 3) := by decide +kernel
theorem dX3_init_4 : decode cX3_init 4 = .ok (.aload_n 0, 1) := by decide +kernel
theorem dX3_init_5 : decode cX3_init 5 = .ok (.bipush 8, 2) := by decide +kernel
theorem dX3_init_7 : decode cX3_init 7 = .ok (.newarray .int, 2) := by decide +kernel
theorem dX3_init_9 : decode cX3_init 9 = .ok (.putfield 9, 3) := by decide +kernel
theorem dX3_init_12 : decode cX3_init 12 = .ok (.aload_n 0, 1) := by decide +kernel
theorem dX3_init_13 : decode cX3_init 13 = .ok (.bipush 8, 2) := by decide +kernel
theorem dX3_init_15 : decode cX3_init 15 = .ok (.newarray .int, 2) := by decide +kernel
theorem dX3_init_17 : decode cX3_init 17 = .ok (.putfield 15, 3) := by decide +kernel
theorem dX3_init_20 : decode cX3_init 20 = .ok (.aload_n 0, 1) := by decide +kernel
theorem dX3_init_21 : decode cX3_init 21 = .ok (.bipush 8, 2) := by decide +kernel
theorem dX3_init_23 : decode cX3_init 23 = .ok (.newarray .int, 2) := by decide +kernel
theorem dX3_init_25 : decode cX3_init 25 = .ok (.putfield 18, 3) := by decide +kernel
theorem dX3_init_28 : decode cX3_init 28 = .ok (.aload_n 0, 1) := by decide +kernel
theorem dX3_init_29 : decode cX3_init 29 = .ok (.sipush 256, 3) := by decide +kernel
theorem dX3_init_32 : decode cX3_init 32 = .ok (.newarray .int, 2) := by decide +kernel
theorem dX3_init_34 : decode cX3_init 34 = .ok (.putfield 21, 3) := by decide +kernel
theorem dX3_init_37 : decode cX3_init 37 = .ok (.aload_n 0, 1) := by decide +kernel
theorem dX3_init_38 : decode cX3_init 38 = .ok (.sipush 256, 3) := by decide +kernel
theorem dX3_init_41 : decode cX3_init 41 = .ok (.newarray .int, 2) := by decide +kernel
theorem dX3_init_43 : decode cX3_init 43 = .ok (.putfield 24, 3) := by decide +kernel
theorem dX3_init_46 : decode cX3_init 46 = .ok (.aload_n 0, 1) := by decide +kernel
theorem dX3_init_47 : decode cX3_init 47 = .ok (.sipush 256, 3) := by decide +kernel
theorem dX3_init_50 : decode cX3_init 50 = .ok (.newarray .int, 2) := by decide +kernel
theorem dX3_init_52 : decode cX3_init 52 = .ok (.putfield 27, 3) := by decide +kernel
theorem dX3_init_55 : decode cX3_init 55 = .ok (.aload_n 0, 1) := by decide +kernel
theorem dX3_init_56 : decode cX3_init 56 = .ok (.bipush 8, 2) := by decide +kernel
theorem dX3_init_58 : decode cX3_init 58 = .ok (.newarray .int, 2) := by decide +kernel
theorem dX3_init_60 : decode cX3_init 60 = .ok (.putfield 30, 3) := by decide +kernel
theorem dX3_init_63 : decode cX3_init 63 = .ok (.return_, 1) := by decide +kernel
set_option maxRecDepth 20000 in
theorem ggX3_solve_X3_takeIn : GoodIn wsX3_solve wsX3_takeIn := goodIn_r _ [5, 6, 7, 8, 9, 10, 11, 12, 13, 14, 15, 16, 17, 18, 19, 20, 21, 22, 23, 24, 25, 26, 27, 28, 29, 69, 70, 71, 72, 73, 74, 75, 76, 77, 78, 79, 80, 81, 82, 83, 84, 85, 86, 87, 88, 89, 90, 91, 92] (by decide +kernel) (by decide +kernel)
set_option maxRecDepth 20000 in
theorem gX3_solve_X3_takeIn : GoodIn wsX3_solve (wsV RX3 33 RX3 yX3_takeIn wsX3_takeIn) := goodIn_app (goodIn_of _ (by decide +kernel)) ggX3_solve_X3_takeIn
set_option maxRecDepth 20000 in
theorem ggX3_solve_X3_joinGoods : GoodIn wsX3_solve wsX3_joinGoods := goodIn_r _ [33, 6, 34, 14, 69, 70, 71, 72, 73, 74, 75, 76] (by decide +kernel) (by decide +kernel)
set_option maxRecDepth 20000 in
theorem gX3_solve_X3_joinGoods : GoodIn wsX3_solve (wsV RX3 37 RX3 yX3_joinGoods wsX3_joinGoods) := goodIn_app (goodIn_of _ (by decide +kernel)) ggX3_solve_X3_joinGoods
set_option maxRecDepth 20000 in
theorem ggX3_solve_X3_weighSets : GoodIn wsX3_solve wsX3_weighSets := goodIn_r _ [38, 39, 40, 41, 6, 42, 43, 44, 4, 45, 46, 47, 48, 49, 16, 50, 51, 52, 53, 54, 55, 56, 34, 15, 57, 58, 59, 60, 61, 62, 63, 69, 70, 71, 72, 73, 74, 75, 76] (by decide +kernel) (by decide +kernel)
set_option maxRecDepth 20000 in
theorem gX3_solve_X3_weighSets : GoodIn wsX3_solve (wsV RX3 40 RX3 yX3_weighSets wsX3_weighSets) := goodIn_app (goodIn_of _ (by decide +kernel)) ggX3_solve_X3_weighSets
set_option maxRecDepth 20000 in
theorem ggX3_solve_X3_walkFirstRow : GoodIn wsX3_solve wsX3_walkFirstRow := goodIn_r _ [67, 6, 39, 68, 46, 47, 48, 4, 49, 16, 50, 51, 52, 53, 54, 55, 56, 34, 15, 42, 43, 44, 45, 57, 58, 59, 60, 61, 62, 63, 69, 70, 71, 72, 73, 74, 75, 76] (by decide +kernel) (by decide +kernel)
set_option maxRecDepth 20000 in
theorem gX3_solve_X3_walkFirstRow : GoodIn wsX3_solve (wsV RX3 43 RX3 yX3_walkFirstRow wsX3_walkFirstRow) := goodIn_app (goodIn_of _ (by decide +kernel)) ggX3_solve_X3_walkFirstRow
theorem dX3_solve_0 : decode cX3_solve 0 = .ok (.aload_n 0, 1) := by decide +kernel
theorem dX3_solve_1 : decode cX3_solve 1 = .ok (.aload_n 1, 1) := by decide +kernel
theorem dX3_solve_2 : decode cX3_solve 2 = .ok (.iload_n 2, 1) := by decide +kernel
theorem dX3_solve_3 : decode cX3_solve 3 = .ok (.invokevirtual 33, 3) := by decide +kernel
theorem dX3_solve_6 : decode cX3_solve 6 = .ok (.ifCond .ne 4, 3) := by decide +kernel
theorem dX3_solve_9 : decode cX3_solve 9 = .ok (.return_, 1) := by decide +kernel
theorem dX3_solve_10 : decode cX3_solve 10 = .ok (.aload_n 0, 1) := by decide +kernel
theorem dX3_solve_11 : decode cX3_solve 11 = .ok (.invokevirtual 37, 3) := by decide +kernel
theorem dX3_solve_14 : decode cX3_solve 14 = .ok (.aload_n 0, 1) := by decide +kernel
theorem dX3_solve_15 : decode cX3_solve 15 = .ok (.invokevirtual 40, 3) := by decide +kernel
theorem dX3_solve_18 : decode cX3_solve 18 = .ok (.aload_n 0, 1) := by decide +kernel
theorem dX3_solve_19 : decode cX3_solve 19 = .ok (.invokevirtual 43, 3) := by decide +kernel
theorem dX3_solve_22 : decode cX3_solve 22 = .ok (.return_, 1) := by decide +kernel
set_option maxRecDepth 20000 in
theorem ggX3_takeIn_X1_goodsSurelyLacked : GoodIn wsX3_takeIn wsX1_goodsSurelyLacked := goodIn_r _ [17, 18, 19, 20, 21, 16, 22, 23, 24, 40, 41, 42, 43, 44, 45, 46, 47, 48] (by decide +kernel) (by decide +kernel)
set_option maxRecDepth 20000 in
theorem gX3_takeIn_X1_goodsSurelyLacked : GoodIn wsX3_takeIn (wsV RX3 67 RX1 yX1_goodsSurelyLacked wsX1_goodsSurelyLacked) := goodIn_app (goodIn_of _ (by decide +kernel)) ggX3_takeIn_X1_goodsSurelyLacked
theorem dX3_takeIn_0 : decode cX3_takeIn 0 = .ok (.aload_n 0, 1) := by decide +kernel
theorem dX3_takeIn_1 : decode cX3_takeIn 1 = .ok (.getfield 46, 3) := by decide +kernel
theorem dX3_takeIn_4 : decode cX3_takeIn 4 = .ok (.aload_n 1, 1) := by decide +kernel
theorem dX3_takeIn_5 : decode cX3_takeIn 5 = .ok (.getfield 50, 3) := by decide +kernel
theorem dX3_takeIn_8 : decode cX3_takeIn 8 = .ok (.if_icmp .eq 7, 3) := by decide +kernel
theorem dX3_takeIn_11 : decode cX3_takeIn 11 = .ok (.iconst 1, 1) := by decide +kernel
theorem dX3_takeIn_12 : decode cX3_takeIn 12 = .ok (.goto 4, 3) := by decide +kernel
theorem dX3_takeIn_15 : decode cX3_takeIn 15 = .ok (.iconst 0, 1) := by decide +kernel
theorem dX3_takeIn_16 : decode cX3_takeIn 16 = .ok (.istore_n 3, 1) := by decide +kernel
theorem dX3_takeIn_17 : decode cX3_takeIn 17 = .ok (.aload_n 0, 1) := by decide +kernel
theorem dX3_takeIn_18 : decode cX3_takeIn 18 = .ok (.aload_n 1, 1) := by decide +kernel
theorem dX3_takeIn_19 : decode cX3_takeIn 19 = .ok (.getfield 50, 3) := by decide +kernel
theorem dX3_takeIn_22 : decode cX3_takeIn 22 = .ok (.bipush 8, 2) := by decide +kernel
theorem dX3_takeIn_24 : decode cX3_takeIn 24 = .ok (.invokestatic 53, 3) := by decide +kernel
theorem dX3_takeIn_27 : decode cX3_takeIn 27 = .ok (.putfield 46, 3) := by decide +kernel
theorem dX3_takeIn_30 : decode cX3_takeIn 30 = .ok (.iconst 0, 1) := by decide +kernel
theorem dX3_takeIn_31 : decode cX3_takeIn 31 = .ok (.istore 4, 2) := by decide +kernel
theorem dX3_takeIn_33 : decode cX3_takeIn 33 = .ok (.iload 4, 2) := by decide +kernel
theorem dX3_takeIn_35 : decode cX3_takeIn 35 = .ok (.aload_n 0, 1) := by decide +kernel
theorem dX3_takeIn_36 : decode cX3_takeIn 36 = .ok (.getfield 46, 3) := by decide +kernel
theorem dX3_takeIn_39 : decode cX3_takeIn 39 = .ok (.if_icmp .ge 107, 3) := by decide +kernel
theorem dX3_takeIn_42 : decode cX3_takeIn 42 = .ok (.aload_n 1, 1) := by decide +kernel
theorem dX3_takeIn_43 : decode cX3_takeIn 43 = .ok (.getfield 59, 3) := by decide +kernel
theorem dX3_takeIn_46 : decode cX3_takeIn 46 = .ok (.iload 4, 2) := by decide +kernel
theorem dX3_takeIn_48 : decode cX3_takeIn 48 = .ok (.aaload, 1) := by decide +kernel
theorem dX3_takeIn_49 : decode cX3_takeIn 49 = .ok (.astore 5, 2) := by decide +kernel
theorem dX3_takeIn_51 : decode cX3_takeIn 51 = .ok (.aload 5, 2) := by decide +kernel
theorem dX3_takeIn_53 : decode cX3_takeIn 53 = .ok (.getfield 63, 3) := by decide +kernel
theorem dX3_takeIn_56 : decode cX3_takeIn 56 = .ok (.iload_n 2, 1) := by decide +kernel
theorem dX3_takeIn_57 : decode cX3_takeIn 57 = .ok (.iand, 1) := by decide +kernel
theorem dX3_takeIn_58 : decode cX3_takeIn 58 = .ok (.istore 6, 2) := by decide +kernel
theorem dX3_takeIn_60 : decode cX3_takeIn 60 = .ok (.aload 5, 2) := by decide +kernel
theorem dX3_takeIn_62 : decode cX3_takeIn 62 = .ok (.invokevirtual 67, 3) := by decide +kernel
theorem dX3_takeIn_65 : decode cX3_takeIn 65 = .ok (.iload_n 2, 1) := by decide +kernel
theorem dX3_takeIn_66 : decode cX3_takeIn 66 = .ok (.iand, 1) := by decide +kernel
theorem dX3_takeIn_67 : decode cX3_takeIn 67 = .ok (.istore 7, 2) := by decide +kernel
theorem dX3_takeIn_69 : decode cX3_takeIn 69 = .ok (.aload_n 0, 1) := by decide +kernel
theorem dX3_takeIn_70 : decode cX3_takeIn 70 = .ok (.getfield 9, 3) := by decide +kernel
theorem dX3_takeIn_73 : decode cX3_takeIn 73 = .ok (.iload 4, 2) := by decide +kernel
theorem dX3_takeIn_75 : decode cX3_takeIn 75 = .ok (.iaload, 1) := by decide +kernel
theorem dX3_takeIn_76 : decode cX3_takeIn 76 = .ok (.iload 6, 2) := by decide +kernel
theorem dX3_takeIn_78 : decode cX3_takeIn 78 = .ok (.if_icmp .ne 30, 3) := by decide +kernel
theorem dX3_takeIn_81 : decode cX3_takeIn 81 = .ok (.aload_n 0, 1) := by decide +kernel
theorem dX3_takeIn_82 : decode cX3_takeIn 82 = .ok (.getfield 15, 3) := by decide +kernel
theorem dX3_takeIn_85 : decode cX3_takeIn 85 = .ok (.iload 4, 2) := by decide +kernel
theorem dX3_takeIn_87 : decode cX3_takeIn 87 = .ok (.iaload, 1) := by decide +kernel
theorem dX3_takeIn_88 : decode cX3_takeIn 88 = .ok (.iload 7, 2) := by decide +kernel
theorem dX3_takeIn_90 : decode cX3_takeIn 90 = .ok (.if_icmp .ne 18, 3) := by decide +kernel
theorem dX3_takeIn_93 : decode cX3_takeIn 93 = .ok (.aload_n 0, 1) := by decide +kernel
theorem dX3_takeIn_94 : decode cX3_takeIn 94 = .ok (.getfield 18, 3) := by decide +kernel
theorem dX3_takeIn_97 : decode cX3_takeIn 97 = .ok (.iload 4, 2) := by decide +kernel
theorem dX3_takeIn_99 : decode cX3_takeIn 99 = .ok (.iaload, 1) := by decide +kernel
theorem dX3_takeIn_100 : decode cX3_takeIn 100 = .ok (.aload 5, 2) := by decide +kernel
theorem dX3_takeIn_102 : decode cX3_takeIn 102 = .ok (.getfield 71, 3) := by decide +kernel
theorem dX3_takeIn_105 : decode cX3_takeIn 105 = .ok (.if_icmp .eq 5, 3) := by decide +kernel
theorem dX3_takeIn_108 : decode cX3_takeIn 108 = .ok (.iconst 1, 1) := by decide +kernel
theorem dX3_takeIn_109 : decode cX3_takeIn 109 = .ok (.istore_n 3, 1) := by decide +kernel
theorem dX3_takeIn_110 : decode cX3_takeIn 110 = .ok (.aload_n 0, 1) := by decide +kernel
theorem dX3_takeIn_111 : decode cX3_takeIn 111 = .ok (.getfield 9, 3) := by decide +kernel
theorem dX3_takeIn_114 : decode cX3_takeIn 114 = .ok (.iload 4, 2) := by decide +kernel
theorem dX3_takeIn_116 : decode cX3_takeIn 116 = .ok (.iload 6, 2) := by decide +kernel
theorem dX3_takeIn_118 : decode cX3_takeIn 118 = .ok (.iastore, 1) := by decide +kernel
theorem dX3_takeIn_119 : decode cX3_takeIn 119 = .ok (.aload_n 0, 1) := by decide +kernel
theorem dX3_takeIn_120 : decode cX3_takeIn 120 = .ok (.getfield 15, 3) := by decide +kernel
theorem dX3_takeIn_123 : decode cX3_takeIn 123 = .ok (.iload 4, 2) := by decide +kernel
theorem dX3_takeIn_125 : decode cX3_takeIn 125 = .ok (.iload 7, 2) := by decide +kernel
theorem dX3_takeIn_127 : decode cX3_takeIn 127 = .ok (.iastore, 1) := by decide +kernel
theorem dX3_takeIn_128 : decode cX3_takeIn 128 = .ok (.aload_n 0, 1) := by decide +kernel
theorem dX3_takeIn_129 : decode cX3_takeIn 129 = .ok (.getfield 18, 3) := by decide +kernel
theorem dX3_takeIn_132 : decode cX3_takeIn 132 = .ok (.iload 4, 2) := by decide +kernel
theorem dX3_takeIn_134 : decode cX3_takeIn 134 = .ok (.aload 5, 2) := by decide +kernel
theorem dX3_takeIn_136 : decode cX3_takeIn 136 = .ok (.getfield 71, 3) := by decide +kernel
theorem dX3_takeIn_139 : decode cX3_takeIn 139 = .ok (.iastore, 1) := by decide +kernel
theorem dX3_takeIn_140 : decode cX3_takeIn 140 = .ok (.iinc 4 1, 3) := by decide +kernel
theorem dX3_takeIn_143 : decode cX3_takeIn 143 = .ok (.goto (-110), 3) := by decide +kernel
theorem dX3_takeIn_146 : decode cX3_takeIn 146 = .ok (.iload_n 3, 1) := by decide +kernel
theorem dX3_takeIn_147 : decode cX3_takeIn 147 = .ok (.ireturn, 1) := by decide +kernel
theorem dX3_allGraves_0 : decode cX3_allGraves 0 = .ok (.iconst 1, 1) := by decide +kernel
theorem dX3_allGraves_1 : decode cX3_allGraves 1 = .ok (.aload_n 0, 1) := by decide +kernel
theorem dX3_allGraves_2 : decode cX3_allGraves 2 = .ok (.getfield 46, 3) := by decide +kernel
theorem dX3_allGraves_5 : decode cX3_allGraves 5 = .ok (.ishl, 1) := by decide +kernel
theorem dX3_allGraves_6 : decode cX3_allGraves 6 = .ok (.iconst 1, 1) := by decide +kernel
theorem dX3_allGraves_7 : decode cX3_allGraves 7 = .ok (.isub, 1) := by decide +kernel
theorem dX3_allGraves_8 : decode cX3_allGraves 8 = .ok (.ireturn, 1) := by decide +kernel
theorem dX3_joinGoods_0 : decode cX3_joinGoods 0 = .ok (.iconst 0, 1) := by decide +kernel
theorem dX3_joinGoods_1 : decode cX3_joinGoods 1 = .ok (.istore_n 1, 1) := by decide +kernel
theorem dX3_joinGoods_2 : decode cX3_joinGoods 2 = .ok (.iload_n 1, 1) := by decide +kernel
theorem dX3_joinGoods_3 : decode cX3_joinGoods 3 = .ok (.aload_n 0, 1) := by decide +kernel
theorem dX3_joinGoods_4 : decode cX3_joinGoods 4 = .ok (.getfield 46, 3) := by decide +kernel
theorem dX3_joinGoods_7 : decode cX3_joinGoods 7 = .ok (.if_icmp .ge 47, 3) := by decide +kernel
theorem dX3_joinGoods_10 : decode cX3_joinGoods 10 = .ok (.iconst 1, 1) := by decide +kernel
theorem dX3_joinGoods_11 : decode cX3_joinGoods 11 = .ok (.iload_n 1, 1) := by decide +kernel
theorem dX3_joinGoods_12 : decode cX3_joinGoods 12 = .ok (.ishl, 1) := by decide +kernel
theorem dX3_joinGoods_13 : decode cX3_joinGoods 13 = .ok (.istore_n 2, 1) := by decide +kernel
theorem dX3_joinGoods_14 : decode cX3_joinGoods 14 = .ok (.iconst 0, 1) := by decide +kernel
theorem dX3_joinGoods_15 : decode cX3_joinGoods 15 = .ok (.istore_n 3, 1) := by decide +kernel
theorem dX3_joinGoods_16 : decode cX3_joinGoods 16 = .ok (.iload_n 3, 1) := by decide +kernel
theorem dX3_joinGoods_17 : decode cX3_joinGoods 17 = .ok (.iload_n 2, 1) := by decide +kernel
theorem dX3_joinGoods_18 : decode cX3_joinGoods 18 = .ok (.if_icmp .ge 30, 3) := by decide +kernel
theorem dX3_joinGoods_21 : decode cX3_joinGoods 21 = .ok (.aload_n 0, 1) := by decide +kernel
theorem dX3_joinGoods_22 : decode cX3_joinGoods 22 = .ok (.getfield 21, 3) := by decide +kernel
theorem dX3_joinGoods_25 : decode cX3_joinGoods 25 = .ok (.iload_n 2, 1) := by decide +kernel
theorem dX3_joinGoods_26 : decode cX3_joinGoods 26 = .ok (.iload_n 3, 1) := by decide +kernel
theorem dX3_joinGoods_27 : decode cX3_joinGoods 27 = .ok (.iadd, 1) := by decide +kernel
theorem dX3_joinGoods_28 : decode cX3_joinGoods 28 = .ok (.aload_n 0, 1) := by decide +kernel
theorem dX3_joinGoods_29 : decode cX3_joinGoods 29 = .ok (.getfield 21, 3) := by decide +kernel
theorem dX3_joinGoods_32 : decode cX3_joinGoods 32 = .ok (.iload_n 3, 1) := by decide +kernel
theorem dX3_joinGoods_33 : decode cX3_joinGoods 33 = .ok (.iaload, 1) := by decide +kernel
theorem dX3_joinGoods_34 : decode cX3_joinGoods 34 = .ok (.aload_n 0, 1) := by decide +kernel
theorem dX3_joinGoods_35 : decode cX3_joinGoods 35 = .ok (.getfield 9, 3) := by decide +kernel
theorem dX3_joinGoods_38 : decode cX3_joinGoods 38 = .ok (.iload_n 1, 1) := by decide +kernel
theorem dX3_joinGoods_39 : decode cX3_joinGoods 39 = .ok (.iaload, 1) := by decide +kernel
theorem dX3_joinGoods_40 : decode cX3_joinGoods 40 = .ok (.ior, 1) := by decide +kernel
theorem dX3_joinGoods_41 : decode cX3_joinGoods 41 = .ok (.iastore, 1) := by decide +kernel
theorem dX3_joinGoods_42 : decode cX3_joinGoods 42 = .ok (.iinc 3 1, 3) := by decide +kernel
theorem dX3_joinGoods_45 : decode cX3_joinGoods 45 = .ok (.goto (-29), 3) := by decide +kernel
theorem dX3_joinGoods_48 : decode cX3_joinGoods 48 = .ok (.iinc 1 1, 3) := by decide +kernel
theorem dX3_joinGoods_51 : decode cX3_joinGoods 51 = .ok (.goto (-49), 3) := by decide +kernel
theorem dX3_joinGoods_54 : decode cX3_joinGoods 54 = .ok (.return_, 1) := by decide +kernel
set_option maxRecDepth 20000 in
theorem ggX3_weighSets_X3_allGraves : GoodIn wsX3_weighSets wsX3_allGraves := goodIn_r _ [9, 4, 31, 32, 33, 34, 35, 36, 37, 38] (by decide +kernel) (by decide +kernel)
set_option maxRecDepth 20000 in
theorem gX3_weighSets_X3_allGraves : GoodIn wsX3_weighSets (wsV RX3 73 RX3 yX3_allGraves wsX3_allGraves) := goodIn_app (goodIn_of _ (by decide +kernel)) ggX3_weighSets_X3_allGraves
set_option maxRecDepth 20000 in
theorem ggX3_weighSets_X3_mayFollow : GoodIn wsX3_weighSets wsX3_mayFollow := goodIn_r _ [13, 14, 15, 16, 17, 31, 32, 33, 34, 35, 36, 37, 38] (by decide +kernel) (by decide +kernel)
set_option maxRecDepth 20000 in
theorem gX3_weighSets_X3_mayFollow : GoodIn wsX3_weighSets (wsV RX3 77 RX3 yX3_mayFollow wsX3_mayFollow) := goodIn_app (goodIn_of _ (by decide +kernel)) ggX3_weighSets_X3_mayFollow
set_option maxRecDepth 20000 in
theorem ggX3_weighSets_X3_costThrough : GoodIn wsX3_weighSets wsX3_costThrough := goodIn_r _ [21, 22, 23, 1, 5, 6, 7, 8, 9, 4, 24, 25, 26, 27, 28, 29, 30, 31, 32, 33, 34, 35, 36, 37, 38] (by decide +kernel) (by decide +kernel)
set_option maxRecDepth 20000 in
theorem gX3_weighSets_X3_costThrough : GoodIn wsX3_weighSets (wsV RX3 81 RX3 yX3_costThrough wsX3_costThrough) := goodIn_app (goodIn_of _ (by decide +kernel)) ggX3_weighSets_X3_costThrough
theorem dX3_weighSets_0 : decode cX3_weighSets 0 = .ok (.aload_n 0, 1) := by decide +kernel
theorem dX3_weighSets_1 : decode cX3_weighSets 1 = .ok (.invokevirtual 73, 3) := by decide +kernel
theorem dX3_weighSets_4 : decode cX3_weighSets 4 = .ok (.istore_n 1, 1) := by decide +kernel
theorem dX3_weighSets_5 : decode cX3_weighSets 5 = .ok (.aload_n 0, 1) := by decide +kernel
theorem dX3_weighSets_6 : decode cX3_weighSets 6 = .ok (.getfield 24, 3) := by decide +kernel
theorem dX3_weighSets_9 : decode cX3_weighSets 9 = .ok (.iload_n 1, 1) := by decide +kernel
theorem dX3_weighSets_10 : decode cX3_weighSets 10 = .ok (.iconst 0, 1) := by decide +kernel
theorem dX3_weighSets_11 : decode cX3_weighSets 11 = .ok (.iastore, 1) := by decide +kernel
theorem dX3_weighSets_12 : decode cX3_weighSets 12 = .ok (.aload_n 0, 1) := by decide +kernel
theorem dX3_weighSets_13 : decode cX3_weighSets 13 = .ok (.getfield 27, 3) := by decide +kernel
theorem dX3_weighSets_16 : decode cX3_weighSets 16 = .ok (.iload_n 1, 1) := by decide +kernel
theorem dX3_weighSets_17 : decode cX3_weighSets 17 = .ok (.iconst 1, 1) := by decide +kernel
theorem dX3_weighSets_18 : decode cX3_weighSets 18 = .ok (.iastore, 1) := by decide +kernel
theorem dX3_weighSets_19 : decode cX3_weighSets 19 = .ok (.iload_n 1, 1) := by decide +kernel
theorem dX3_weighSets_20 : decode cX3_weighSets 20 = .ok (.iconst 1, 1) := by decide +kernel
theorem dX3_weighSets_21 : decode cX3_weighSets 21 = .ok (.isub, 1) := by decide +kernel
theorem dX3_weighSets_22 : decode cX3_weighSets 22 = .ok (.istore_n 2, 1) := by decide +kernel
theorem dX3_weighSets_23 : decode cX3_weighSets 23 = .ok (.iload_n 2, 1) := by decide +kernel
theorem dX3_weighSets_24 : decode cX3_weighSets 24 = .ok (.ifCond .lt 101, 3) := by decide +kernel
theorem dX3_weighSets_27 : decode cX3_weighSets 27 = .ok (.ldc 76, 2) := by decide +kernel
theorem dX3_weighSets_29 : decode cX3_weighSets 29 = .ok (.istore_n 3, 1) := by decide +kernel
theorem dX3_weighSets_30 : decode cX3_weighSets 30 = .ok (.iconst 0, 1) := by decide +kernel
theorem dX3_weighSets_31 : decode cX3_weighSets 31 = .ok (.istore 4, 2) := by decide +kernel
theorem dX3_weighSets_33 : decode cX3_weighSets 33 = .ok (.iconst 0, 1) := by decide +kernel
theorem dX3_weighSets_34 : decode cX3_weighSets 34 = .ok (.istore 5, 2) := by decide +kernel
theorem dX3_weighSets_36 : decode cX3_weighSets 36 = .ok (.iload 5, 2) := by decide +kernel
theorem dX3_weighSets_38 : decode cX3_weighSets 38 = .ok (.aload_n 0, 1) := by decide +kernel
theorem dX3_weighSets_39 : decode cX3_weighSets 39 = .ok (.getfield 46, 3) := by decide +kernel
theorem dX3_weighSets_42 : decode cX3_weighSets 42 = .ok (.if_icmp .ge 62, 3) := by decide +kernel
theorem dX3_weighSets_45 : decode cX3_weighSets 45 = .ok (.aload_n 0, 1) := by decide +kernel
theorem dX3_weighSets_46 : decode cX3_weighSets 46 = .ok (.iload_n 2, 1) := by decide +kernel
theorem dX3_weighSets_47 : decode cX3_weighSets 47 = .ok (.iload 5, 2) := by decide +kernel
theorem dX3_weighSets_49 : decode cX3_weighSets 49 = .ok (.invokevirtual 77, 3) := by decide +kernel
theorem dX3_weighSets_52 : decode cX3_weighSets 52 = .ok (.ifCond .eq 46, 3) := by decide +kernel
theorem dX3_weighSets_55 : decode cX3_weighSets 55 = .ok (.aload_n 0, 1) := by decide +kernel
theorem dX3_weighSets_56 : decode cX3_weighSets 56 = .ok (.iload_n 2, 1) := by decide +kernel
theorem dX3_weighSets_57 : decode cX3_weighSets 57 = .ok (.iload 5, 2) := by decide +kernel
theorem dX3_weighSets_59 : decode cX3_weighSets 59 = .ok (.invokevirtual 81, 3) := by decide +kernel
theorem dX3_weighSets_62 : decode cX3_weighSets 62 = .ok (.istore 6, 2) := by decide +kernel
theorem dX3_weighSets_64 : decode cX3_weighSets 64 = .ok (.iload 6, 2) := by decide +kernel
theorem dX3_weighSets_66 : decode cX3_weighSets 66 = .ok (.iload_n 3, 1) := by decide +kernel
theorem dX3_weighSets_67 : decode cX3_weighSets 67 = .ok (.if_icmp .ge 9, 3) := by decide +kernel
theorem dX3_weighSets_70 : decode cX3_weighSets 70 = .ok (.iload 6, 2) := by decide +kernel
theorem dX3_weighSets_72 : decode cX3_weighSets 72 = .ok (.istore_n 3, 1) := by decide +kernel
theorem dX3_weighSets_73 : decode cX3_weighSets 73 = .ok (.iconst 0, 1) := by decide +kernel
theorem dX3_weighSets_74 : decode cX3_weighSets 74 = .ok (.istore 4, 2) := by decide +kernel
theorem dX3_weighSets_76 : decode cX3_weighSets 76 = .ok (.iload 6, 2) := by decide +kernel
theorem dX3_weighSets_78 : decode cX3_weighSets 78 = .ok (.iload_n 3, 1) := by decide +kernel
theorem dX3_weighSets_79 : decode cX3_weighSets 79 = .ok (.if_icmp .ne 19, 3) := by decide +kernel
theorem dX3_weighSets_82 : decode cX3_weighSets 82 = .ok (.iload 4, 2) := by decide +kernel
theorem dX3_weighSets_84 : decode cX3_weighSets 84 = .ok (.aload_n 0, 1) := by decide +kernel
theorem dX3_weighSets_85 : decode cX3_weighSets 85 = .ok (.getfield 27, 3) := by decide +kernel
theorem dX3_weighSets_88 : decode cX3_weighSets 88 = .ok (.iload_n 2, 1) := by decide +kernel
theorem dX3_weighSets_89 : decode cX3_weighSets 89 = .ok (.iconst 1, 1) := by decide +kernel
theorem dX3_weighSets_90 : decode cX3_weighSets 90 = .ok (.iload 5, 2) := by decide +kernel
theorem dX3_weighSets_92 : decode cX3_weighSets 92 = .ok (.ishl, 1) := by decide +kernel
theorem dX3_weighSets_93 : decode cX3_weighSets 93 = .ok (.ior, 1) := by decide +kernel
theorem dX3_weighSets_94 : decode cX3_weighSets 94 = .ok (.iaload, 1) := by decide +kernel
theorem dX3_weighSets_95 : decode cX3_weighSets 95 = .ok (.iadd, 1) := by decide +kernel
theorem dX3_weighSets_96 : decode cX3_weighSets 96 = .ok (.istore 4, 2) := by decide +kernel
theorem dX3_weighSets_98 : decode cX3_weighSets 98 = .ok (.iinc 5 1, 3) := by decide +kernel
theorem dX3_weighSets_101 : decode cX3_weighSets 101 = .ok (.goto (-65), 3) := by decide +kernel
theorem dX3_weighSets_104 : decode cX3_weighSets 104 = .ok (.aload_n 0, 1) := by decide +kernel
theorem dX3_weighSets_105 : decode cX3_weighSets 105 = .ok (.getfield 24, 3) := by decide +kernel
theorem dX3_weighSets_108 : decode cX3_weighSets 108 = .ok (.iload_n 2, 1) := by decide +kernel
theorem dX3_weighSets_109 : decode cX3_weighSets 109 = .ok (.iload_n 3, 1) := by decide +kernel
theorem dX3_weighSets_110 : decode cX3_weighSets 110 = .ok (.iastore, 1) := by decide +kernel
theorem dX3_weighSets_111 : decode cX3_weighSets 111 = .ok (.aload_n 0, 1) := by decide +kernel
theorem dX3_weighSets_112 : decode cX3_weighSets 112 = .ok (.getfield 27, 3) := by decide +kernel
theorem dX3_weighSets_115 : decode cX3_weighSets 115 = .ok (.iload_n 2, 1) := by decide +kernel
theorem dX3_weighSets_116 : decode cX3_weighSets 116 = .ok (.iload 4, 2) := by decide +kernel
theorem dX3_weighSets_118 : decode cX3_weighSets 118 = .ok (.iastore, 1) := by decide +kernel
theorem dX3_weighSets_119 : decode cX3_weighSets 119 = .ok (.iinc 2 (-1), 3) := by decide +kernel
theorem dX3_weighSets_122 : decode cX3_weighSets 122 = .ok (.goto (-99), 3) := by decide +kernel
theorem dX3_weighSets_125 : decode cX3_weighSets 125 = .ok (.return_, 1) := by decide +kernel
set_option maxRecDepth 20000 in
theorem ggX3_walkFirstRow_X3_mayFollow : GoodIn wsX3_walkFirstRow wsX3_mayFollow := goodIn_r _ [8, 9, 10, 11, 12, 30, 31, 32, 33, 34, 35, 36, 37] (by decide +kernel) (by decide +kernel)
set_option maxRecDepth 20000 in
theorem gX3_walkFirstRow_X3_mayFollow : GoodIn wsX3_walkFirstRow (wsV RX3 77 RX3 yX3_mayFollow wsX3_mayFollow) := goodIn_app (goodIn_of _ (by decide +kernel)) ggX3_walkFirstRow_X3_mayFollow
set_option maxRecDepth 20000 in
theorem ggX3_walkFirstRow_X3_costThrough : GoodIn wsX3_walkFirstRow wsX3_costThrough := goodIn_r _ [16, 17, 18, 2, 19, 20, 21, 7, 22, 1, 23, 24, 25, 26, 27, 28, 29, 30, 31, 32, 33, 34, 35, 36, 37] (by decide +kernel) (by decide +kernel)
set_option maxRecDepth 20000 in
theorem gX3_walkFirstRow_X3_costThrough : GoodIn wsX3_walkFirstRow (wsV RX3 81 RX3 yX3_costThrough wsX3_costThrough) := goodIn_app (goodIn_of _ (by decide +kernel)) ggX3_walkFirstRow_X3_costThrough
theorem dX3_walkFirstRow_0 : decode cX3_walkFirstRow 0 = .ok (.iconst 0, 1) := by decide +kernel
theorem dX3_walkFirstRow_1 : decode cX3_walkFirstRow 1 = .ok (.istore_n 1, 1) := by decide +kernel
theorem dX3_walkFirstRow_2 : decode cX3_walkFirstRow 2 = .ok (.iconst 0, 1) := by decide +kernel
theorem dX3_walkFirstRow_3 : decode cX3_walkFirstRow 3 = .ok (.istore_n 2, 1) := by decide +kernel
theorem dX3_walkFirstRow_4 : decode cX3_walkFirstRow 4 = .ok (.iload_n 2, 1) := by decide +kernel
theorem dX3_walkFirstRow_5 : decode cX3_walkFirstRow 5 = .ok (.aload_n 0, 1) := by decide +kernel
theorem dX3_walkFirstRow_6 : decode cX3_walkFirstRow 6 = .ok (.getfield 46, 3) := by decide +kernel
theorem dX3_walkFirstRow_9 : decode cX3_walkFirstRow 9 = .ok (.if_icmp .ge 65, 3) := by decide +kernel
theorem dX3_walkFirstRow_12 : decode cX3_walkFirstRow 12 = .ok (.iconst 0, 1) := by decide +kernel
theorem dX3_walkFirstRow_13 : decode cX3_walkFirstRow 13 = .ok (.istore_n 3, 1) := by decide +kernel
theorem dX3_walkFirstRow_14 : decode cX3_walkFirstRow 14 = .ok (.iload_n 3, 1) := by decide +kernel
theorem dX3_walkFirstRow_15 : decode cX3_walkFirstRow 15 = .ok (.aload_n 0, 1) := by decide +kernel
theorem dX3_walkFirstRow_16 : decode cX3_walkFirstRow 16 = .ok (.getfield 46, 3) := by decide +kernel
theorem dX3_walkFirstRow_19 : decode cX3_walkFirstRow 19 = .ok (.if_icmp .ge 49, 3) := by decide +kernel
theorem dX3_walkFirstRow_22 : decode cX3_walkFirstRow 22 = .ok (.aload_n 0, 1) := by decide +kernel
theorem dX3_walkFirstRow_23 : decode cX3_walkFirstRow 23 = .ok (.iload_n 1, 1) := by decide +kernel
theorem dX3_walkFirstRow_24 : decode cX3_walkFirstRow 24 = .ok (.iload_n 3, 1) := by decide +kernel
theorem dX3_walkFirstRow_25 : decode cX3_walkFirstRow 25 = .ok (.invokevirtual 77, 3) := by decide +kernel
theorem dX3_walkFirstRow_28 : decode cX3_walkFirstRow 28 = .ok (.ifCond .eq 34, 3) := by decide +kernel
theorem dX3_walkFirstRow_31 : decode cX3_walkFirstRow 31 = .ok (.aload_n 0, 1) := by decide +kernel
theorem dX3_walkFirstRow_32 : decode cX3_walkFirstRow 32 = .ok (.iload_n 1, 1) := by decide +kernel
theorem dX3_walkFirstRow_33 : decode cX3_walkFirstRow 33 = .ok (.iload_n 3, 1) := by decide +kernel
theorem dX3_walkFirstRow_34 : decode cX3_walkFirstRow 34 = .ok (.invokevirtual 81, 3) := by decide +kernel
theorem dX3_walkFirstRow_37 : decode cX3_walkFirstRow 37 = .ok (.aload_n 0, 1) := by decide +kernel
theorem dX3_walkFirstRow_38 : decode cX3_walkFirstRow 38 = .ok (.getfield 24, 3) := by decide +kernel
theorem dX3_walkFirstRow_41 : decode cX3_walkFirstRow 41 = .ok (.iload_n 1, 1) := by decide +kernel
theorem dX3_walkFirstRow_42 : decode cX3_walkFirstRow 42 = .ok (.iaload, 1) := by decide +kernel
theorem dX3_walkFirstRow_43 : decode cX3_walkFirstRow 43 = .ok (.if_icmp .ne 19, 3) := by decide +kernel
theorem dX3_walkFirstRow_46 : decode cX3_walkFirstRow 46 = .ok (.aload_n 0, 1) := by decide +kernel
theorem dX3_walkFirstRow_47 : decode cX3_walkFirstRow 47 = .ok (.getfield 30, 3) := by decide +kernel
theorem dX3_walkFirstRow_50 : decode cX3_walkFirstRow 50 = .ok (.iload_n 2, 1) := by decide +kernel
theorem dX3_walkFirstRow_51 : decode cX3_walkFirstRow 51 = .ok (.iload_n 3, 1) := by decide +kernel
theorem dX3_walkFirstRow_52 : decode cX3_walkFirstRow 52 = .ok (.iastore, 1) := by decide +kernel
theorem dX3_walkFirstRow_53 : decode cX3_walkFirstRow 53 = .ok (.iload_n 1, 1) := by decide +kernel
theorem dX3_walkFirstRow_54 : decode cX3_walkFirstRow 54 = .ok (.iconst 1, 1) := by decide +kernel
theorem dX3_walkFirstRow_55 : decode cX3_walkFirstRow 55 = .ok (.iload_n 3, 1) := by decide +kernel
theorem dX3_walkFirstRow_56 : decode cX3_walkFirstRow 56 = .ok (.ishl, 1) := by decide +kernel
theorem dX3_walkFirstRow_57 : decode cX3_walkFirstRow 57 = .ok (.ior, 1) := by decide +kernel
theorem dX3_walkFirstRow_58 : decode cX3_walkFirstRow 58 = .ok (.istore_n 1, 1) := by decide +kernel
theorem dX3_walkFirstRow_59 : decode cX3_walkFirstRow 59 = .ok (.goto 9, 3) := by decide +kernel
theorem dX3_walkFirstRow_62 : decode cX3_walkFirstRow 62 = .ok (.iinc 3 1, 3) := by decide +kernel
theorem dX3_walkFirstRow_65 : decode cX3_walkFirstRow 65 = .ok (.goto (-51), 3) := by decide +kernel
theorem dX3_walkFirstRow_68 : decode cX3_walkFirstRow 68 = .ok (.iinc 2 1, 3) := by decide +kernel
theorem dX3_walkFirstRow_71 : decode cX3_walkFirstRow 71 = .ok (.goto (-67), 3) := by decide +kernel
theorem dX3_walkFirstRow_74 : decode cX3_walkFirstRow 74 = .ok (.return_, 1) := by decide +kernel
set_option maxRecDepth 20000 in
theorem ggX3_mayFollow_X5_isIn : GoodIn wsX3_mayFollow wsX5_isIn := goodIn_r _ [4] (by decide +kernel) (by decide +kernel)
set_option maxRecDepth 20000 in
theorem gX3_mayFollow_X5_isIn_n84 : GoodIn wsX3_mayFollow (wsX5_isIn) := ggX3_mayFollow_X5_isIn
theorem dX3_mayFollow_0 : decode cX3_mayFollow 0 = .ok (.iload_n 1, 1) := by decide +kernel
theorem dX3_mayFollow_1 : decode cX3_mayFollow 1 = .ok (.iload_n 2, 1) := by decide +kernel
theorem dX3_mayFollow_2 : decode cX3_mayFollow 2 = .ok (.invokestatic 84, 3) := by decide +kernel
theorem dX3_mayFollow_5 : decode cX3_mayFollow 5 = .ok (.ifCond .ne 20, 3) := by decide +kernel
theorem dX3_mayFollow_8 : decode cX3_mayFollow 8 = .ok (.aload_n 0, 1) := by decide +kernel
theorem dX3_mayFollow_9 : decode cX3_mayFollow 9 = .ok (.getfield 18, 3) := by decide +kernel
theorem dX3_mayFollow_12 : decode cX3_mayFollow 12 = .ok (.iload_n 2, 1) := by decide +kernel
theorem dX3_mayFollow_13 : decode cX3_mayFollow 13 = .ok (.iaload, 1) := by decide +kernel
theorem dX3_mayFollow_14 : decode cX3_mayFollow 14 = .ok (.iload_n 1, 1) := by decide +kernel
theorem dX3_mayFollow_15 : decode cX3_mayFollow 15 = .ok (.iconst (-1), 1) := by decide +kernel
theorem dX3_mayFollow_16 : decode cX3_mayFollow 16 = .ok (.ixor, 1) := by decide +kernel
theorem dX3_mayFollow_17 : decode cX3_mayFollow 17 = .ok (.iand, 1) := by decide +kernel
theorem dX3_mayFollow_18 : decode cX3_mayFollow 18 = .ok (.ifCond .ne 7, 3) := by decide +kernel
theorem dX3_mayFollow_21 : decode cX3_mayFollow 21 = .ok (.iconst 1, 1) := by decide +kernel
theorem dX3_mayFollow_22 : decode cX3_mayFollow 22 = .ok (.goto 4, 3) := by decide +kernel
theorem dX3_mayFollow_25 : decode cX3_mayFollow 25 = .ok (.iconst 0, 1) := by decide +kernel
theorem dX3_mayFollow_26 : decode cX3_mayFollow 26 = .ok (.ireturn, 1) := by decide +kernel
set_option maxRecDepth 20000 in
theorem ggX3_costThrough_X3_allGraves : GoodIn wsX3_costThrough wsX3_allGraves := goodIn_r _ [8, 9, 17, 18, 19, 20, 21, 22, 23, 24] (by decide +kernel) (by decide +kernel)
set_option maxRecDepth 20000 in
theorem gX3_costThrough_X3_allGraves : GoodIn wsX3_costThrough (wsV RX3 73 RX3 yX3_allGraves wsX3_allGraves) := goodIn_app (goodIn_of _ (by decide +kernel)) ggX3_costThrough_X3_allGraves
set_option maxRecDepth 20000 in
theorem ggX3_costThrough_J6_bitCount_0f7a4 : GoodIn wsX3_costThrough wsJ6_bitCount_0f7a4 := goodIn_r _ [13, 14, 15, 16] (by decide +kernel) (by decide +kernel)
set_option maxRecDepth 20000 in
theorem gX3_costThrough_J6_bitCount_0f7a4 : GoodIn wsX3_costThrough (va_wsS RX3 87 yJ6_bitCount_0f7a4 wsJ6_bitCount_0f7a4) := goodIn_app (goodIn_of _ (by decide +kernel)) ggX3_costThrough_J6_bitCount_0f7a4
theorem dX3_costThrough_0 : decode cX3_costThrough 0 = .ok (.iload_n 1, 1) := by decide +kernel
theorem dX3_costThrough_1 : decode cX3_costThrough 1 = .ok (.iconst 1, 1) := by decide +kernel
theorem dX3_costThrough_2 : decode cX3_costThrough 2 = .ok (.iload_n 2, 1) := by decide +kernel
theorem dX3_costThrough_3 : decode cX3_costThrough 3 = .ok (.ishl, 1) := by decide +kernel
theorem dX3_costThrough_4 : decode cX3_costThrough 4 = .ok (.ior, 1) := by decide +kernel
theorem dX3_costThrough_5 : decode cX3_costThrough 5 = .ok (.istore_n 3, 1) := by decide +kernel
theorem dX3_costThrough_6 : decode cX3_costThrough 6 = .ok (.aload_n 0, 1) := by decide +kernel
theorem dX3_costThrough_7 : decode cX3_costThrough 7 = .ok (.getfield 21, 3) := by decide +kernel
theorem dX3_costThrough_10 : decode cX3_costThrough 10 = .ok (.iload_n 1, 1) := by decide +kernel
theorem dX3_costThrough_11 : decode cX3_costThrough 11 = .ok (.iaload, 1) := by decide +kernel
theorem dX3_costThrough_12 : decode cX3_costThrough 12 = .ok (.aload_n 0, 1) := by decide +kernel
theorem dX3_costThrough_13 : decode cX3_costThrough 13 = .ok (.getfield 21, 3) := by decide +kernel
theorem dX3_costThrough_16 : decode cX3_costThrough 16 = .ok (.aload_n 0, 1) := by decide +kernel
theorem dX3_costThrough_17 : decode cX3_costThrough 17 = .ok (.invokevirtual 73, 3) := by decide +kernel
theorem dX3_costThrough_20 : decode cX3_costThrough 20 = .ok (.iload_n 3, 1) := by decide +kernel
theorem dX3_costThrough_21 : decode cX3_costThrough 21 = .ok (.iconst (-1), 1) := by decide +kernel
theorem dX3_costThrough_22 : decode cX3_costThrough 22 = .ok (.ixor, 1) := by decide +kernel
theorem dX3_costThrough_23 : decode cX3_costThrough 23 = .ok (.iand, 1) := by decide +kernel
theorem dX3_costThrough_24 : decode cX3_costThrough 24 = .ok (.iaload, 1) := by decide +kernel
theorem dX3_costThrough_25 : decode cX3_costThrough 25 = .ok (.iand, 1) := by decide +kernel
theorem dX3_costThrough_26 : decode cX3_costThrough 26 = .ok (.istore 4, 2) := by decide +kernel
theorem dX3_costThrough_28 : decode cX3_costThrough 28 = .ok (.iload 4, 2) := by decide +kernel
theorem dX3_costThrough_30 : decode cX3_costThrough 30 = .ok (.aload_n 0, 1) := by decide +kernel
theorem dX3_costThrough_31 : decode cX3_costThrough 31 = .ok (.getfield 15, 3) := by decide +kernel
theorem dX3_costThrough_34 : decode cX3_costThrough 34 = .ok (.iload_n 2, 1) := by decide +kernel
theorem dX3_costThrough_35 : decode cX3_costThrough 35 = .ok (.iaload, 1) := by decide +kernel
theorem dX3_costThrough_36 : decode cX3_costThrough 36 = .ok (.iand, 1) := by decide +kernel
theorem dX3_costThrough_37 : decode cX3_costThrough 37 = .ok (.invokestatic 87, 3) := by decide +kernel
theorem dX3_costThrough_40 : decode cX3_costThrough 40 = .ok (.aload_n 0, 1) := by decide +kernel
theorem dX3_costThrough_41 : decode cX3_costThrough 41 = .ok (.getfield 24, 3) := by decide +kernel
theorem dX3_costThrough_44 : decode cX3_costThrough 44 = .ok (.iload_n 3, 1) := by decide +kernel
theorem dX3_costThrough_45 : decode cX3_costThrough 45 = .ok (.iaload, 1) := by decide +kernel
theorem dX3_costThrough_46 : decode cX3_costThrough 46 = .ok (.iadd, 1) := by decide +kernel
theorem dX3_costThrough_47 : decode cX3_costThrough 47 = .ok (.ireturn, 1) := by decide +kernel
theorem dX3_leastCost_0 : decode cX3_leastCost 0 = .ok (.aload_n 0, 1) := by decide +kernel
theorem dX3_leastCost_1 : decode cX3_leastCost 1 = .ok (.getfield 24, 3) := by decide +kernel
theorem dX3_leastCost_4 : decode cX3_leastCost 4 = .ok (.iconst 0, 1) := by decide +kernel
theorem dX3_leastCost_5 : decode cX3_leastCost 5 = .ok (.iaload, 1) := by decide +kernel
theorem dX3_leastCost_6 : decode cX3_leastCost 6 = .ok (.ireturn, 1) := by decide +kernel
theorem dX3_leastWays_0 : decode cX3_leastWays 0 = .ok (.aload_n 0, 1) := by decide +kernel
theorem dX3_leastWays_1 : decode cX3_leastWays 1 = .ok (.getfield 27, 3) := by decide +kernel
theorem dX3_leastWays_4 : decode cX3_leastWays 4 = .ok (.iconst 0, 1) := by decide +kernel
theorem dX3_leastWays_5 : decode cX3_leastWays 5 = .ok (.iaload, 1) := by decide +kernel
theorem dX3_leastWays_6 : decode cX3_leastWays 6 = .ok (.ireturn, 1) := by decide +kernel
set_option maxRecDepth 20000 in
theorem ggX3_firstPlaceOf_X5_isIn : GoodIn wsX3_firstPlaceOf wsX5_isIn := goodIn_r _ [6] (by decide +kernel) (by decide +kernel)
set_option maxRecDepth 20000 in
theorem gX3_firstPlaceOf_X5_isIn_n84 : GoodIn wsX3_firstPlaceOf (wsX5_isIn) := ggX3_firstPlaceOf_X5_isIn
theorem dX3_firstPlaceOf_0 : decode cX3_firstPlaceOf 0 = .ok (.iconst 0, 1) := by decide +kernel
theorem dX3_firstPlaceOf_1 : decode cX3_firstPlaceOf 1 = .ok (.istore_n 2, 1) := by decide +kernel
theorem dX3_firstPlaceOf_2 : decode cX3_firstPlaceOf 2 = .ok (.iload_n 2, 1) := by decide +kernel
theorem dX3_firstPlaceOf_3 : decode cX3_firstPlaceOf 3 = .ok (.aload_n 0, 1) := by decide +kernel
theorem dX3_firstPlaceOf_4 : decode cX3_firstPlaceOf 4 = .ok (.getfield 46, 3) := by decide +kernel
theorem dX3_firstPlaceOf_7 : decode cX3_firstPlaceOf 7 = .ok (.if_icmp .ge 29, 3) := by decide +kernel
theorem dX3_firstPlaceOf_10 : decode cX3_firstPlaceOf 10 = .ok (.aload_n 0, 1) := by decide +kernel
theorem dX3_firstPlaceOf_11 : decode cX3_firstPlaceOf 11 = .ok (.getfield 9, 3) := by decide +kernel
theorem dX3_firstPlaceOf_14 : decode cX3_firstPlaceOf 14 = .ok (.aload_n 0, 1) := by decide +kernel
theorem dX3_firstPlaceOf_15 : decode cX3_firstPlaceOf 15 = .ok (.getfield 30, 3) := by decide +kernel
theorem dX3_firstPlaceOf_18 : decode cX3_firstPlaceOf 18 = .ok (.iload_n 2, 1) := by decide +kernel
theorem dX3_firstPlaceOf_19 : decode cX3_firstPlaceOf 19 = .ok (.iaload, 1) := by decide +kernel
theorem dX3_firstPlaceOf_20 : decode cX3_firstPlaceOf 20 = .ok (.iaload, 1) := by decide +kernel
theorem dX3_firstPlaceOf_21 : decode cX3_firstPlaceOf 21 = .ok (.iload_n 1, 1) := by decide +kernel
theorem dX3_firstPlaceOf_22 : decode cX3_firstPlaceOf 22 = .ok (.invokestatic 84, 3) := by decide +kernel
theorem dX3_firstPlaceOf_25 : decode cX3_firstPlaceOf 25 = .ok (.ifCond .eq 5, 3) := by decide +kernel
theorem dX3_firstPlaceOf_28 : decode cX3_firstPlaceOf 28 = .ok (.iload_n 2, 1) := by decide +kernel
theorem dX3_firstPlaceOf_29 : decode cX3_firstPlaceOf 29 = .ok (.ireturn, 1) := by decide +kernel
theorem dX3_firstPlaceOf_30 : decode cX3_firstPlaceOf 30 = .ok (.iinc 2 1, 3) := by decide +kernel
theorem dX3_firstPlaceOf_33 : decode cX3_firstPlaceOf 33 = .ok (.goto (-31), 3) := by decide +kernel
theorem dX3_firstPlaceOf_36 : decode cX3_firstPlaceOf 36 = .ok (.iconst (-1), 1) := by decide +kernel
theorem dX3_firstPlaceOf_37 : decode cX3_firstPlaceOf 37 = .ok (.ireturn, 1) := by decide +kernel
set_option maxRecDepth 20000 in
theorem ggX3_lastPlaceOf_X5_isIn : GoodIn wsX3_lastPlaceOf wsX5_isIn := goodIn_r _ [6] (by decide +kernel) (by decide +kernel)
set_option maxRecDepth 20000 in
theorem gX3_lastPlaceOf_X5_isIn_n84 : GoodIn wsX3_lastPlaceOf (wsX5_isIn) := ggX3_lastPlaceOf_X5_isIn
theorem dX3_lastPlaceOf_0 : decode cX3_lastPlaceOf 0 = .ok (.aload_n 0, 1) := by decide +kernel
theorem dX3_lastPlaceOf_1 : decode cX3_lastPlaceOf 1 = .ok (.getfield 46, 3) := by decide +kernel
theorem dX3_lastPlaceOf_4 : decode cX3_lastPlaceOf 4 = .ok (.iconst 1, 1) := by decide +kernel
theorem dX3_lastPlaceOf_5 : decode cX3_lastPlaceOf 5 = .ok (.isub, 1) := by decide +kernel
theorem dX3_lastPlaceOf_6 : decode cX3_lastPlaceOf 6 = .ok (.istore_n 2, 1) := by decide +kernel
theorem dX3_lastPlaceOf_7 : decode cX3_lastPlaceOf 7 = .ok (.iload_n 2, 1) := by decide +kernel
theorem dX3_lastPlaceOf_8 : decode cX3_lastPlaceOf 8 = .ok (.ifCond .lt 29, 3) := by decide +kernel
theorem dX3_lastPlaceOf_11 : decode cX3_lastPlaceOf 11 = .ok (.aload_n 0, 1) := by decide +kernel
theorem dX3_lastPlaceOf_12 : decode cX3_lastPlaceOf 12 = .ok (.getfield 9, 3) := by decide +kernel
theorem dX3_lastPlaceOf_15 : decode cX3_lastPlaceOf 15 = .ok (.aload_n 0, 1) := by decide +kernel
theorem dX3_lastPlaceOf_16 : decode cX3_lastPlaceOf 16 = .ok (.getfield 30, 3) := by decide +kernel
theorem dX3_lastPlaceOf_19 : decode cX3_lastPlaceOf 19 = .ok (.iload_n 2, 1) := by decide +kernel
theorem dX3_lastPlaceOf_20 : decode cX3_lastPlaceOf 20 = .ok (.iaload, 1) := by decide +kernel
theorem dX3_lastPlaceOf_21 : decode cX3_lastPlaceOf 21 = .ok (.iaload, 1) := by decide +kernel
theorem dX3_lastPlaceOf_22 : decode cX3_lastPlaceOf 22 = .ok (.iload_n 1, 1) := by decide +kernel
theorem dX3_lastPlaceOf_23 : decode cX3_lastPlaceOf 23 = .ok (.invokestatic 84, 3) := by decide +kernel
theorem dX3_lastPlaceOf_26 : decode cX3_lastPlaceOf 26 = .ok (.ifCond .eq 5, 3) := by decide +kernel
theorem dX3_lastPlaceOf_29 : decode cX3_lastPlaceOf 29 = .ok (.iload_n 2, 1) := by decide +kernel
theorem dX3_lastPlaceOf_30 : decode cX3_lastPlaceOf 30 = .ok (.ireturn, 1) := by decide +kernel
theorem dX3_lastPlaceOf_31 : decode cX3_lastPlaceOf 31 = .ok (.iinc 2 (-1), 3) := by decide +kernel
theorem dX3_lastPlaceOf_34 : decode cX3_lastPlaceOf 34 = .ok (.goto (-27), 3) := by decide +kernel
theorem dX3_lastPlaceOf_37 : decode cX3_lastPlaceOf 37 = .ok (.iconst (-1), 1) := by decide +kernel
theorem dX3_lastPlaceOf_38 : decode cX3_lastPlaceOf 38 = .ok (.ireturn, 1) := by decide +kernel
set_option maxRecDepth 20000 in
theorem ggX3_holesOf_X3_lastPlaceOf : GoodIn wsX3_holesOf wsX3_lastPlaceOf := goodIn_r _ [7, 8, 9, 2, 10, 11, 12, 17, 18, 19, 20, 21, 22, 23, 24] (by decide +kernel) (by decide +kernel)
set_option maxRecDepth 20000 in
theorem gX3_holesOf_X3_lastPlaceOf : GoodIn wsX3_holesOf (wsV RX3 93 RX3 yX3_lastPlaceOf wsX3_lastPlaceOf) := goodIn_app (goodIn_of _ (by decide +kernel)) ggX3_holesOf_X3_lastPlaceOf
set_option maxRecDepth 20000 in
theorem ggX3_holesOf_X3_firstPlaceOf : GoodIn wsX3_holesOf wsX3_firstPlaceOf := goodIn_r _ [16, 8, 9, 2, 10, 11, 12, 17, 18, 19, 20, 21, 22, 23, 24] (by decide +kernel) (by decide +kernel)
set_option maxRecDepth 20000 in
theorem gX3_holesOf_X3_firstPlaceOf : GoodIn wsX3_holesOf (wsV RX3 96 RX3 yX3_firstPlaceOf wsX3_firstPlaceOf) := goodIn_app (goodIn_of _ (by decide +kernel)) ggX3_holesOf_X3_firstPlaceOf
set_option maxRecDepth 20000 in
theorem ggX3_holesOf_X5_isIn : GoodIn wsX3_holesOf wsX5_isIn := goodIn_r _ [12] (by decide +kernel) (by decide +kernel)
set_option maxRecDepth 20000 in
theorem gX3_holesOf_X5_isIn_n84 : GoodIn wsX3_holesOf (wsX5_isIn) := ggX3_holesOf_X5_isIn
theorem dX3_holesOf_0 : decode cX3_holesOf 0 = .ok (.aload_n 0, 1) := by decide +kernel
theorem dX3_holesOf_1 : decode cX3_holesOf 1 = .ok (.iload_n 1, 1) := by decide +kernel
theorem dX3_holesOf_2 : decode cX3_holesOf 2 = .ok (.invokevirtual 93, 3) := by decide +kernel
theorem dX3_holesOf_5 : decode cX3_holesOf 5 = .ok (.istore_n 2, 1) := by decide +kernel
theorem dX3_holesOf_6 : decode cX3_holesOf 6 = .ok (.iconst 0, 1) := by decide +kernel
theorem dX3_holesOf_7 : decode cX3_holesOf 7 = .ok (.istore_n 3, 1) := by decide +kernel
theorem dX3_holesOf_8 : decode cX3_holesOf 8 = .ok (.aload_n 0, 1) := by decide +kernel
theorem dX3_holesOf_9 : decode cX3_holesOf 9 = .ok (.iload_n 1, 1) := by decide +kernel
theorem dX3_holesOf_10 : decode cX3_holesOf 10 = .ok (.invokevirtual 96, 3) := by decide +kernel
theorem dX3_holesOf_13 : decode cX3_holesOf 13 = .ok (.iconst 1, 1) := by decide +kernel
theorem dX3_holesOf_14 : decode cX3_holesOf 14 = .ok (.iadd, 1) := by decide +kernel
theorem dX3_holesOf_15 : decode cX3_holesOf 15 = .ok (.istore 4, 2) := by decide +kernel
theorem dX3_holesOf_17 : decode cX3_holesOf 17 = .ok (.iload 4, 2) := by decide +kernel
theorem dX3_holesOf_19 : decode cX3_holesOf 19 = .ok (.iload_n 2, 1) := by decide +kernel
theorem dX3_holesOf_20 : decode cX3_holesOf 20 = .ok (.if_icmp .ge 31, 3) := by decide +kernel
theorem dX3_holesOf_23 : decode cX3_holesOf 23 = .ok (.aload_n 0, 1) := by decide +kernel
theorem dX3_holesOf_24 : decode cX3_holesOf 24 = .ok (.getfield 15, 3) := by decide +kernel
theorem dX3_holesOf_27 : decode cX3_holesOf 27 = .ok (.aload_n 0, 1) := by decide +kernel
theorem dX3_holesOf_28 : decode cX3_holesOf 28 = .ok (.getfield 30, 3) := by decide +kernel
theorem dX3_holesOf_31 : decode cX3_holesOf 31 = .ok (.iload 4, 2) := by decide +kernel
theorem dX3_holesOf_33 : decode cX3_holesOf 33 = .ok (.iaload, 1) := by decide +kernel
theorem dX3_holesOf_34 : decode cX3_holesOf 34 = .ok (.iaload, 1) := by decide +kernel
theorem dX3_holesOf_35 : decode cX3_holesOf 35 = .ok (.iload_n 1, 1) := by decide +kernel
theorem dX3_holesOf_36 : decode cX3_holesOf 36 = .ok (.invokestatic 84, 3) := by decide +kernel
theorem dX3_holesOf_39 : decode cX3_holesOf 39 = .ok (.ifCond .eq 6, 3) := by decide +kernel
theorem dX3_holesOf_42 : decode cX3_holesOf 42 = .ok (.iinc 3 1, 3) := by decide +kernel
theorem dX3_holesOf_45 : decode cX3_holesOf 45 = .ok (.iinc 4 1, 3) := by decide +kernel
theorem dX3_holesOf_48 : decode cX3_holesOf 48 = .ok (.goto (-31), 3) := by decide +kernel
theorem dX3_holesOf_51 : decode cX3_holesOf 51 = .ok (.iload_n 3, 1) := by decide +kernel
theorem dX3_holesOf_52 : decode cX3_holesOf 52 = .ok (.ireturn, 1) := by decide +kernel
set_option maxRecDepth 20000 in
theorem ggX3_goingOnAt_X3_allGraves : GoodIn wsX3_goingOnAt wsX3_allGraves := goodIn_r _ [7, 8, 16, 17, 18, 19, 20, 21, 22, 23] (by decide +kernel) (by decide +kernel)
set_option maxRecDepth 20000 in
theorem gX3_goingOnAt_X3_allGraves : GoodIn wsX3_goingOnAt (wsV RX3 73 RX3 yX3_allGraves wsX3_allGraves) := goodIn_app (goodIn_of _ (by decide +kernel)) ggX3_goingOnAt_X3_allGraves
set_option maxRecDepth 20000 in
theorem ggX3_goingOnAt_J6_bitCount_0f7a4 : GoodIn wsX3_goingOnAt wsJ6_bitCount_0f7a4 := goodIn_r _ [12, 13, 14, 15] (by decide +kernel) (by decide +kernel)
set_option maxRecDepth 20000 in
theorem gX3_goingOnAt_J6_bitCount_0f7a4 : GoodIn wsX3_goingOnAt (va_wsS RX3 87 yJ6_bitCount_0f7a4 wsJ6_bitCount_0f7a4) := goodIn_app (goodIn_of _ (by decide +kernel)) ggX3_goingOnAt_J6_bitCount_0f7a4
theorem dX3_goingOnAt_0 : decode cX3_goingOnAt 0 = .ok (.iconst 0, 1) := by decide +kernel
theorem dX3_goingOnAt_1 : decode cX3_goingOnAt 1 = .ok (.istore_n 2, 1) := by decide +kernel
theorem dX3_goingOnAt_2 : decode cX3_goingOnAt 2 = .ok (.iconst 0, 1) := by decide +kernel
theorem dX3_goingOnAt_3 : decode cX3_goingOnAt 3 = .ok (.istore_n 3, 1) := by decide +kernel
theorem dX3_goingOnAt_4 : decode cX3_goingOnAt 4 = .ok (.iload_n 3, 1) := by decide +kernel
theorem dX3_goingOnAt_5 : decode cX3_goingOnAt 5 = .ok (.iload_n 1, 1) := by decide +kernel
theorem dX3_goingOnAt_6 : decode cX3_goingOnAt 6 = .ok (.if_icmp .ge 20, 3) := by decide +kernel
theorem dX3_goingOnAt_9 : decode cX3_goingOnAt 9 = .ok (.iload_n 2, 1) := by decide +kernel
theorem dX3_goingOnAt_10 : decode cX3_goingOnAt 10 = .ok (.iconst 1, 1) := by decide +kernel
