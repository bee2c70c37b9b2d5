set_option maxRecDepth 20000 in
theorem gX5_like_X2_sharedGoods : GoodIn wsX5_like (wsV RX5 242 RX2 yX2_sharedGoods wsX2_sharedGoods) := goodIn_app (goodIn_of _ (by decide +kernel)) ggX5_like_X2_sharedGoods
set_option maxRecDepth 20000 in
theorem ggX5_like_X2_joinedGoods : GoodIn wsX5_like wsX2_joinedGoods := goodIn_r _ [31, 19, 20, 32, 33, 34, 35, 21, 22, 23, 24, 25, 26, 27, 46, 47, 48, 49, 50, 51, 52, 53, 54, 55, 56, 57, 58, 59, 60, 61] (by decide +kernel) (by decide +kernel)
set_option maxRecDepth 20000 in
theorem gX5_like_X2_joinedGoods : GoodIn wsX5_like (wsV RX5 245 RX2 yX2_joinedGoods wsX2_joinedGoods) := goodIn_app (goodIn_of _ (by decide +kernel)) ggX5_like_X2_joinedGoods
set_option maxRecDepth 20000 in
theorem ggX5_like_X5_commonDivisor : GoodIn wsX5_like wsX5_commonDivisor := goodIn_r _ [38] (by decide +kernel) (by decide +kernel)
set_option maxRecDepth 20000 in
theorem gX5_like_X5_commonDivisor : GoodIn wsX5_like (va_wsS RX5 248 yX5_commonDivisor wsX5_commonDivisor) := goodIn_app (goodIn_of _ (by decide +kernel)) ggX5_like_X5_commonDivisor
theorem dX5_like_0 : decode cX5_like 0 = .ok (.aload_n 0, 1) := by decide +kernel
theorem dX5_like_1 : decode cX5_like 1 = .ok (.getfield 12, 3) := by decide +kernel
theorem dX5_like_4 : decode cX5_like 4 = .ok (.iload_n 1, 1) := by decide +kernel
theorem dX5_like_5 : decode cX5_like 5 = .ok (.invokevirtual 61, 3) := by decide +kernel
theorem dX5_like_8 : decode cX5_like 8 = .ok (.ifCond .eq 14, 3) := by decide +kernel
theorem dX5_like_11 : decode cX5_like 11 = .ok (.aload_n 0, 1) := by decide +kernel
theorem dX5_like_12 : decode cX5_like 12 = .ok (.getfield 12, 3) := by decide +kernel
theorem dX5_like_15 : decode cX5_like 15 = .ok (.iload_n 2, 1) := by decide +kernel
theorem dX5_like_16 : decode cX5_like 16 = .ok (.invokevirtual 61, 3) := by decide +kernel
theorem dX5_like_19 : decode cX5_like 19 = .ok (.ifCond .ne 10, 3) := by decide +kernel
theorem dX5_like_22 : decode cX5_like 22 = .ok (.aload_n 0, 1) := by decide +kernel
theorem dX5_like_23 : decode cX5_like 23 = .ok (.ldc 47, 2) := by decide +kernel
theorem dX5_like_25 : decode cX5_like 25 = .ok (.invokevirtual 48, 3) := by decide +kernel
theorem dX5_like_28 : decode cX5_like 28 = .ok (.ireturn, 1) := by decide +kernel
theorem dX5_like_29 : decode cX5_like 29 = .ok (.aload_n 0, 1) := by decide +kernel
theorem dX5_like_30 : decode cX5_like 30 = .ok (.getfield 12, 3) := by decide +kernel
theorem dX5_like_33 : decode cX5_like 33 = .ok (.iload_n 1, 1) := by decide +kernel
theorem dX5_like_34 : decode cX5_like 34 = .ok (.iload_n 2, 1) := by decide +kernel
theorem dX5_like_35 : decode cX5_like 35 = .ok (.invokevirtual 242, 3) := by decide +kernel
theorem dX5_like_38 : decode cX5_like 38 = .ok (.istore 4, 2) := by decide +kernel
theorem dX5_like_40 : decode cX5_like 40 = .ok (.aload_n 0, 1) := by decide +kernel
theorem dX5_like_41 : decode cX5_like 41 = .ok (.getfield 12, 3) := by decide +kernel
theorem dX5_like_44 : decode cX5_like 44 = .ok (.iload_n 1, 1) := by decide +kernel
theorem dX5_like_45 : decode cX5_like 45 = .ok (.iload_n 2, 1) := by decide +kernel
theorem dX5_like_46 : decode cX5_like 46 = .ok (.invokevirtual 245, 3) := by decide +kernel
theorem dX5_like_49 : decode cX5_like 49 = .ok (.istore 5, 2) := by decide +kernel
theorem dX5_like_51 : decode cX5_like 51 = .ok (.iload 4, 2) := by decide +kernel
theorem dX5_like_53 : decode cX5_like 53 = .ok (.iload 5, 2) := by decide +kernel
theorem dX5_like_55 : decode cX5_like 55 = .ok (.invokestatic 248, 3) := by decide +kernel
theorem dX5_like_58 : decode cX5_like 58 = .ok (.istore 6, 2) := by decide +kernel
theorem dX5_like_60 : decode cX5_like 60 = .ok (.iload_n 3, 1) := by decide +kernel
theorem dX5_like_61 : decode cX5_like 61 = .ok (.ifCond .eq 8, 3) := by decide +kernel
theorem dX5_like_64 : decode cX5_like 64 = .ok (.iload 5, 2) := by decide +kernel
theorem dX5_like_66 : decode cX5_like 66 = .ok (.goto 5, 3) := by decide +kernel
theorem dX5_like_69 : decode cX5_like 69 = .ok (.iload 4, 2) := by decide +kernel
theorem dX5_like_71 : decode cX5_like 71 = .ok (.iload 6, 2) := by decide +kernel
theorem dX5_like_73 : decode cX5_like 73 = .ok (.idiv, 1) := by decide +kernel
theorem dX5_like_74 : decode cX5_like 74 = .ok (.ireturn, 1) := by decide +kernel
set_option maxRecDepth 20000 in
theorem ggX5_nearest_X2_holds : GoodIn wsX5_nearest wsX2_holds := goodIn_r _ [9, 10, 49, 50, 51, 52, 53, 54, 55] (by decide +kernel) (by decide +kernel)
set_option maxRecDepth 20000 in
theorem gX5_nearest_X2_holds : GoodIn wsX5_nearest (wsV RX5 61 RX2 yX2_holds wsX2_holds) := goodIn_app (goodIn_of _ (by decide +kernel)) ggX5_nearest_X2_holds
set_option maxRecDepth 20000 in
theorem ggX5_nearest_X5_finding : GoodIn wsX5_nearest wsX5_finding := goodIn_r _ [15, 16, 42, 43, 44, 45, 46, 47, 48] (by decide +kernel) (by decide +kernel)
set_option maxRecDepth 20000 in
theorem gX5_nearest_X5_finding : GoodIn wsX5_nearest (wsV RX5 48 RX5 yX5_finding wsX5_finding) := goodIn_app (goodIn_of _ (by decide +kernel)) ggX5_nearest_X5_finding
set_option maxRecDepth 20000 in
theorem ggX5_nearest_X2_mostLike : GoodIn wsX5_nearest wsX2_mostLike := goodIn_r _ [20, 10, 21, 22, 23, 8, 24, 25, 26, 27, 28, 29, 30, 31, 32, 33, 34, 35, 36, 37, 38, 39, 40, 41, 49, 50, 51, 52, 53, 54, 55, 56, 57, 58, 59, 60, 61, 62, 63, 64] (by decide +kernel) (by decide +kernel)
set_option maxRecDepth 20000 in
theorem gX5_nearest_X2_mostLike : GoodIn wsX5_nearest (wsV RX5 251 RX2 yX2_mostLike wsX2_mostLike) := goodIn_app (goodIn_of _ (by decide +kernel)) ggX5_nearest_X2_mostLike
theorem dX5_nearest_0 : decode cX5_nearest 0 = .ok (.aload_n 0, 1) := by decide +kernel
theorem dX5_nearest_1 : decode cX5_nearest 1 = .ok (.getfield 12, 3) := by decide +kernel
theorem dX5_nearest_4 : decode cX5_nearest 4 = .ok (.iload_n 1, 1) := by decide +kernel
theorem dX5_nearest_5 : decode cX5_nearest 5 = .ok (.invokevirtual 61, 3) := by decide +kernel
theorem dX5_nearest_8 : decode cX5_nearest 8 = .ok (.ifCond .ne 10, 3) := by decide +kernel
theorem dX5_nearest_11 : decode cX5_nearest 11 = .ok (.aload_n 0, 1) := by decide +kernel
theorem dX5_nearest_12 : decode cX5_nearest 12 = .ok (.ldc 47, 2) := by decide +kernel
theorem dX5_nearest_14 : decode cX5_nearest 14 = .ok (.invokevirtual 48, 3) := by decide +kernel
theorem dX5_nearest_17 : decode cX5_nearest 17 = .ok (.ireturn, 1) := by decide +kernel
theorem dX5_nearest_18 : decode cX5_nearest 18 = .ok (.aload_n 0, 1) := by decide +kernel
theorem dX5_nearest_19 : decode cX5_nearest 19 = .ok (.getfield 12, 3) := by decide +kernel
theorem dX5_nearest_22 : decode cX5_nearest 22 = .ok (.getfield 52, 3) := by decide +kernel
theorem dX5_nearest_25 : decode cX5_nearest 25 = .ok (.iconst 2, 1) := by decide +kernel
theorem dX5_nearest_26 : decode cX5_nearest 26 = .ok (.if_icmp .ge 10, 3) := by decide +kernel
theorem dX5_nearest_29 : decode cX5_nearest 29 = .ok (.aload_n 0, 1) := by decide +kernel
theorem dX5_nearest_30 : decode cX5_nearest 30 = .ok (.ldc 125, 2) := by decide +kernel
theorem dX5_nearest_32 : decode cX5_nearest 32 = .ok (.invokevirtual 48, 3) := by decide +kernel
theorem dX5_nearest_35 : decode cX5_nearest 35 = .ok (.ireturn, 1) := by decide +kernel
theorem dX5_nearest_36 : decode cX5_nearest 36 = .ok (.aload_n 0, 1) := by decide +kernel
theorem dX5_nearest_37 : decode cX5_nearest 37 = .ok (.getfield 12, 3) := by decide +kernel
theorem dX5_nearest_40 : decode cX5_nearest 40 = .ok (.iload_n 1, 1) := by decide +kernel
theorem dX5_nearest_41 : decode cX5_nearest 41 = .ok (.invokevirtual 251, 3) := by decide +kernel
theorem dX5_nearest_44 : decode cX5_nearest 44 = .ok (.ireturn, 1) := by decide +kernel
set_option maxRecDepth 20000 in
theorem ggX5_mark_X2_holds : GoodIn wsX5_mark wsX2_holds := goodIn_r _ [8, 9, 33, 34, 35, 36, 37, 38, 39] (by decide +kernel) (by decide +kernel)
set_option maxRecDepth 20000 in
theorem gX5_mark_X2_holds : GoodIn wsX5_mark (wsV RX5 61 RX2 yX2_holds wsX2_holds) := goodIn_app (goodIn_of _ (by decide +kernel)) ggX5_mark_X2_holds
set_option maxRecDepth 20000 in
theorem ggX5_mark_X5_isMark : GoodIn wsX5_mark wsX5_isMark := goodIn_r _ [13] (by decide +kernel) (by decide +kernel)
set_option maxRecDepth 20000 in
theorem gX5_mark_X5_isMark : GoodIn wsX5_mark (va_wsS RX5 254 yX5_isMark wsX5_isMark) := goodIn_app (goodIn_of _ (by decide +kernel)) ggX5_mark_X5_isMark
set_option maxRecDepth 20000 in
theorem ggX5_mark_X5_finding : GoodIn wsX5_mark wsX5_finding := goodIn_r _ [17, 18, 26, 27, 28, 29, 30, 31, 32] (by decide +kernel) (by decide +kernel)
set_option maxRecDepth 20000 in
theorem gX5_mark_X5_finding : GoodIn wsX5_mark (wsV RX5 48 RX5 yX5_finding wsX5_finding) := goodIn_app (goodIn_of _ (by decide +kernel)) ggX5_mark_X5_finding
set_option maxRecDepth 20000 in
theorem ggX5_mark_X1_setMark : GoodIn wsX5_mark wsX1_setMark := goodIn_r _ [23, 24, 25, 40, 41, 42, 43, 44, 45, 46, 47, 48] (by decide +kernel) (by decide +kernel)
set_option maxRecDepth 20000 in
theorem gX5_mark_X1_setMark : GoodIn wsX5_mark (wsV RX5 257 RX1 yX1_setMark wsX1_setMark) := goodIn_app (goodIn_of _ (by decide +kernel)) ggX5_mark_X1_setMark
theorem dX5_mark_0 : decode cX5_mark 0 = .ok (.aload_n 0, 1) := by decide +kernel
theorem dX5_mark_1 : decode cX5_mark 1 = .ok (.getfield 12, 3) := by decide +kernel
theorem dX5_mark_4 : decode cX5_mark 4 = .ok (.iload_n 1, 1) := by decide +kernel
theorem dX5_mark_5 : decode cX5_mark 5 = .ok (.invokevirtual 61, 3) := by decide +kernel
theorem dX5_mark_8 : decode cX5_mark 8 = .ok (.ifCond .eq 10, 3) := by decide +kernel
theorem dX5_mark_11 : decode cX5_mark 11 = .ok (.iload_n 2, 1) := by decide +kernel
theorem dX5_mark_12 : decode cX5_mark 12 = .ok (.invokestatic 254, 3) := by decide +kernel
theorem dX5_mark_15 : decode cX5_mark 15 = .ok (.ifCond .ne 10, 3) := by decide +kernel
theorem dX5_mark_18 : decode cX5_mark 18 = .ok (.aload_n 0, 1) := by decide +kernel
theorem dX5_mark_19 : decode cX5_mark 19 = .ok (.ldc 47, 2) := by decide +kernel
theorem dX5_mark_21 : decode cX5_mark 21 = .ok (.invokevirtual 48, 3) := by decide +kernel
theorem dX5_mark_24 : decode cX5_mark 24 = .ok (.ireturn, 1) := by decide +kernel
theorem dX5_mark_25 : decode cX5_mark 25 = .ok (.aload_n 0, 1) := by decide +kernel
theorem dX5_mark_26 : decode cX5_mark 26 = .ok (.getfield 12, 3) := by decide +kernel
theorem dX5_mark_29 : decode cX5_mark 29 = .ok (.getfield 64, 3) := by decide +kernel
theorem dX5_mark_32 : decode cX5_mark 32 = .ok (.iload_n 1, 1) := by decide +kernel
theorem dX5_mark_33 : decode cX5_mark 33 = .ok (.aaload, 1) := by decide +kernel
theorem dX5_mark_34 : decode cX5_mark 34 = .ok (.iload_n 2, 1) := by decide +kernel
theorem dX5_mark_35 : decode cX5_mark 35 = .ok (.iload_n 3, 1) := by decide +kernel
theorem dX5_mark_36 : decode cX5_mark 36 = .ok (.invokevirtual 257, 3) := by decide +kernel
theorem dX5_mark_39 : decode cX5_mark 39 = .ok (.ifCond .eq 7, 3) := by decide +kernel
theorem dX5_mark_42 : decode cX5_mark 42 = .ok (.iconst 1, 1) := by decide +kernel
theorem dX5_mark_43 : decode cX5_mark 43 = .ok (.goto 4, 3) := by decide +kernel
theorem dX5_mark_46 : decode cX5_mark 46 = .ok (.iconst 0, 1) := by decide +kernel
theorem dX5_mark_47 : decode cX5_mark 47 = .ok (.ireturn, 1) := by decide +kernel
set_option maxRecDepth 20000 in
theorem ggX5_weigh_X5_isMark : GoodIn wsX5_weigh wsX5_isMark := goodIn_r _ [6] (by decide +kernel) (by decide +kernel)
set_option maxRecDepth 20000 in
theorem gX5_weigh_X5_isMark : GoodIn wsX5_weigh (va_wsS RX5 254 yX5_isMark wsX5_isMark) := goodIn_app (goodIn_of _ (by decide +kernel)) ggX5_weigh_X5_isMark
set_option maxRecDepth 20000 in
theorem ggX5_weigh_X5_finding : GoodIn wsX5_weigh wsX5_finding := goodIn_r _ [10, 11, 19, 20, 21, 22, 23, 24, 25] (by decide +kernel) (by decide +kernel)
set_option maxRecDepth 20000 in
theorem gX5_weigh_X5_finding : GoodIn wsX5_weigh (wsV RX5 48 RX5 yX5_finding wsX5_finding) := goodIn_app (goodIn_of _ (by decide +kernel)) ggX5_weigh_X5_finding
set_option maxRecDepth 20000 in
theorem ggX5_weigh_X2_weightsFor : GoodIn wsX5_weigh wsX2_weightsFor := goodIn_r _ [16, 17, 18, 26, 27, 28, 29, 30, 31, 32] (by decide +kernel) (by decide +kernel)
set_option maxRecDepth 20000 in
theorem gX5_weigh_X2_weightsFor : GoodIn wsX5_weigh (wsV RX5 261 RX2 yX2_weightsFor wsX2_weightsFor) := goodIn_app (goodIn_of _ (by decide +kernel)) ggX5_weigh_X2_weightsFor
theorem dX5_weigh_0 : decode cX5_weigh 0 = .ok (.iload_n 1, 1) := by decide +kernel
theorem dX5_weigh_1 : decode cX5_weigh 1 = .ok (.invokestatic 254, 3) := by decide +kernel
theorem dX5_weigh_4 : decode cX5_weigh 4 = .ok (.ifCond .eq 14, 3) := by decide +kernel
theorem dX5_weigh_7 : decode cX5_weigh 7 = .ok (.iload_n 3, 1) := by decide +kernel
theorem dX5_weigh_8 : decode cX5_weigh 8 = .ok (.iconst 1, 1) := by decide +kernel
theorem dX5_weigh_9 : decode cX5_weigh 9 = .ok (.if_icmp .lt 9, 3) := by decide +kernel
theorem dX5_weigh_12 : decode cX5_weigh 12 = .ok (.iload_n 3, 1) := by decide +kernel
theorem dX5_weigh_13 : decode cX5_weigh 13 = .ok (.bipush 20, 2) := by decide +kernel
theorem dX5_weigh_15 : decode cX5_weigh 15 = .ok (.if_icmp .le 10, 3) := by decide +kernel
theorem dX5_weigh_18 : decode cX5_weigh 18 = .ok (.aload_n 0, 1) := by decide +kernel
theorem dX5_weigh_19 : decode cX5_weigh 19 = .ok (.ldc 47, 2) := by decide +kernel
theorem dX5_weigh_21 : decode cX5_weigh 21 = .ok (.invokevirtual 48, 3) := by decide +kernel
theorem dX5_weigh_24 : decode cX5_weigh 24 = .ok (.ireturn, 1) := by decide +kernel
theorem dX5_weigh_25 : decode cX5_weigh 25 = .ok (.aload_n 0, 1) := by decide +kernel
theorem dX5_weigh_26 : decode cX5_weigh 26 = .ok (.getfield 12, 3) := by decide +kernel
theorem dX5_weigh_29 : decode cX5_weigh 29 = .ok (.iload_n 2, 1) := by decide +kernel
theorem dX5_weigh_30 : decode cX5_weigh 30 = .ok (.invokevirtual 261, 3) := by decide +kernel
theorem dX5_weigh_33 : decode cX5_weigh 33 = .ok (.astore 4, 2) := by decide +kernel
theorem dX5_weigh_35 : decode cX5_weigh 35 = .ok (.aload 4, 2) := by decide +kernel
theorem dX5_weigh_37 : decode cX5_weigh 37 = .ok (.iload_n 1, 1) := by decide +kernel
theorem dX5_weigh_38 : decode cX5_weigh 38 = .ok (.iaload, 1) := by decide +kernel
theorem dX5_weigh_39 : decode cX5_weigh 39 = .ok (.istore 5, 2) := by decide +kernel
theorem dX5_weigh_41 : decode cX5_weigh 41 = .ok (.aload 4, 2) := by decide +kernel
theorem dX5_weigh_43 : decode cX5_weigh 43 = .ok (.iload_n 1, 1) := by decide +kernel
theorem dX5_weigh_44 : decode cX5_weigh 44 = .ok (.iload_n 3, 1) := by decide +kernel
theorem dX5_weigh_45 : decode cX5_weigh 45 = .ok (.iastore, 1) := by decide +kernel
theorem dX5_weigh_46 : decode cX5_weigh 46 = .ok (.iload 5, 2) := by decide +kernel
theorem dX5_weigh_48 : decode cX5_weigh 48 = .ok (.ireturn, 1) := by decide +kernel
set_option maxRecDepth 20000 in
theorem ggX5_share_X2_holds : GoodIn wsX5_share wsX2_holds := goodIn_r _ [9, 10, 46, 47, 48, 49, 50, 51, 52] (by decide +kernel) (by decide +kernel)
set_option maxRecDepth 20000 in
theorem gX5_share_X2_holds : GoodIn wsX5_share (wsV RX5 61 RX2 yX2_holds wsX2_holds) := goodIn_app (goodIn_of _ (by decide +kernel)) ggX5_share_X2_holds
set_option maxRecDepth 20000 in
theorem ggX5_share_X5_finding : GoodIn wsX5_share wsX5_finding := goodIn_r _ [15, 16, 39, 40, 41, 42, 43, 44, 45] (by decide +kernel) (by decide +kernel)
set_option maxRecDepth 20000 in
theorem gX5_share_X5_finding : GoodIn wsX5_share (wsV RX5 48 RX5 yX5_finding wsX5_finding) := goodIn_app (goodIn_of _ (by decide +kernel)) ggX5_share_X5_finding
set_option maxRecDepth 20000 in
theorem ggX5_share_X1_isOfKind : GoodIn wsX5_share wsX1_isOfKind := goodIn_r _ [21, 22, 23, 53, 54, 55, 56, 57, 58, 59, 60, 61] (by decide +kernel) (by decide +kernel)
set_option maxRecDepth 20000 in
theorem gX5_share_X1_isOfKind : GoodIn wsX5_share (wsV RX5 68 RX1 yX1_isOfKind wsX1_isOfKind) := goodIn_app (goodIn_of _ (by decide +kernel)) ggX5_share_X1_isOfKind
set_option maxRecDepth 20000 in
theorem ggX5_share_X2_productOfMarks : GoodIn wsX5_share wsX2_productOfMarks := goodIn_r _ [27, 28, 29, 30, 31, 32, 33, 8, 34, 35, 36, 37, 14, 38, 46, 47, 48, 49, 50, 51, 52, 53, 54, 55, 56, 57, 58, 59, 60, 61] (by decide +kernel) (by decide +kernel)
set_option maxRecDepth 20000 in
theorem gX5_share_X2_productOfMarks : GoodIn wsX5_share (wsV RX5 265 RX2 yX2_productOfMarks wsX2_productOfMarks) := goodIn_app (goodIn_of _ (by decide +kernel)) ggX5_share_X2_productOfMarks
theorem dX5_share_0 : decode cX5_share 0 = .ok (.aload_n 0, 1) := by decide +kernel
theorem dX5_share_1 : decode cX5_share 1 = .ok (.getfield 12, 3) := by decide +kernel
theorem dX5_share_4 : decode cX5_share 4 = .ok (.iload_n 1, 1) := by decide +kernel
theorem dX5_share_5 : decode cX5_share 5 = .ok (.invokevirtual 61, 3) := by decide +kernel
theorem dX5_share_8 : decode cX5_share 8 = .ok (.ifCond .ne 11, 3) := by decide +kernel
theorem dX5_share_11 : decode cX5_share 11 = .ok (.aload_n 0, 1) := by decide +kernel
theorem dX5_share_12 : decode cX5_share 12 = .ok (.ldc 47, 2) := by decide +kernel
theorem dX5_share_14 : decode cX5_share 14 = .ok (.invokevirtual 48, 3) := by decide +kernel
theorem dX5_share_17 : decode cX5_share 17 = .ok (.i2l, 1) := by decide +kernel
theorem dX5_share_18 : decode cX5_share 18 = .ok (.lreturn, 1) := by decide +kernel
theorem dX5_share_19 : decode cX5_share 19 = .ok (.aload_n 0, 1) := by decide +kernel
theorem dX5_share_20 : decode cX5_share 20 = .ok (.getfield 12, 3) := by decide +kernel
theorem dX5_share_23 : decode cX5_share 23 = .ok (.getfield 64, 3) := by decide +kernel
theorem dX5_share_26 : decode cX5_share 26 = .ok (.iload_n 1, 1) := by decide +kernel
theorem dX5_share_27 : decode cX5_share 27 = .ok (.aaload, 1) := by decide +kernel
theorem dX5_share_28 : decode cX5_share 28 = .ok (.iconst 2, 1) := by decide +kernel
theorem dX5_share_29 : decode cX5_share 29 = .ok (.invokevirtual 68, 3) := by decide +kernel
theorem dX5_share_32 : decode cX5_share 32 = .ok (.ifCond .eq 11, 3) := by decide +kernel
theorem dX5_share_35 : decode cX5_share 35 = .ok (.aload_n 0, 1) := by decide +kernel
theorem dX5_share_36 : decode cX5_share 36 = .ok (.ldc 73, 2) := by decide +kernel
theorem dX5_share_38 : decode cX5_share 38 = .ok (.invokevirtual 48, 3) := by decide +kernel
theorem dX5_share_41 : decode cX5_share 41 = .ok (.i2l, 1) := by decide +kernel
theorem dX5_share_42 : decode cX5_share 42 = .ok (.lreturn, 1) := by decide +kernel
theorem dX5_share_43 : decode cX5_share 43 = .ok (.aload_n 0, 1) := by decide +kernel
theorem dX5_share_44 : decode cX5_share 44 = .ok (.getfield 12, 3) := by decide +kernel
theorem dX5_share_47 : decode cX5_share 47 = .ok (.iload_n 1, 1) := by decide +kernel
theorem dX5_share_48 : decode cX5_share 48 = .ok (.iload_n 2, 1) := by decide +kernel
theorem dX5_share_49 : decode cX5_share 49 = .ok (.invokevirtual 265, 3) := by decide +kernel
theorem dX5_share_52 : decode cX5_share 52 = .ok (.lreturn, 1) := by decide +kernel
set_option maxRecDepth 20000 in
theorem ggX5_people_X5_finding : GoodIn wsX5_people wsX5_finding := goodIn_r _ [8, 9, 37, 38, 39, 40, 41, 42, 43] (by decide +kernel) (by decide +kernel)
set_option maxRecDepth 20000 in
theorem gX5_people_X5_finding : GoodIn wsX5_people (wsV RX5 48 RX5 yX5_finding wsX5_finding) := goodIn_app (goodIn_of _ (by decide +kernel)) ggX5_people_X5_finding
set_option maxRecDepth 20000 in
theorem ggX5_people_X2_whose : GoodIn wsX5_people wsX2_whose := goodIn_r _ [14, 15, 16, 17, 18, 19, 20, 21, 22, 23, 24, 25, 13, 26, 27, 28, 29, 30, 31, 32, 33, 34, 35, 7, 36, 44, 45, 46, 47, 48, 49, 50, 51, 52, 53, 54, 55, 56, 57, 58, 59] (by decide +kernel) (by decide +kernel)
set_option maxRecDepth 20000 in
theorem gX5_people_X2_whose : GoodIn wsX5_people (wsV RX5 269 RX2 yX2_whose wsX2_whose) := goodIn_app (goodIn_of _ (by decide +kernel)) ggX5_people_X2_whose
theorem dX5_people_0 : decode cX5_people 0 = .ok (.iload_n 1, 1) := by decide +kernel
theorem dX5_people_1 : decode cX5_people 1 = .ok (.ifCond .lt 8, 3) := by decide +kernel
theorem dX5_people_4 : decode cX5_people 4 = .ok (.iload_n 1, 1) := by decide +kernel
theorem dX5_people_5 : decode cX5_people 5 = .ok (.iconst 2, 1) := by decide +kernel
theorem dX5_people_6 : decode cX5_people 6 = .ok (.if_icmp .le 10, 3) := by decide +kernel
theorem dX5_people_9 : decode cX5_people 9 = .ok (.aload_n 0, 1) := by decide +kernel
theorem dX5_people_10 : decode cX5_people 10 = .ok (.ldc 47, 2) := by decide +kernel
theorem dX5_people_12 : decode cX5_people 12 = .ok (.invokevirtual 48, 3) := by decide +kernel
theorem dX5_people_15 : decode cX5_people 15 = .ok (.ireturn, 1) := by decide +kernel
theorem dX5_people_16 : decode cX5_people 16 = .ok (.iconst 0, 1) := by decide +kernel
theorem dX5_people_17 : decode cX5_people 17 = .ok (.istore_n 2, 1) := by decide +kernel
theorem dX5_people_18 : decode cX5_people 18 = .ok (.iconst 0, 1) := by decide +kernel
theorem dX5_people_19 : decode cX5_people 19 = .ok (.istore_n 3, 1) := by decide +kernel
theorem dX5_people_20 : decode cX5_people 20 = .ok (.iload_n 3, 1) := by decide +kernel
theorem dX5_people_21 : decode cX5_people 21 = .ok (.aload_n 0, 1) := by decide +kernel
theorem dX5_people_22 : decode cX5_people 22 = .ok (.getfield 12, 3) := by decide +kernel
theorem dX5_people_25 : decode cX5_people 25 = .ok (.getfield 52, 3) := by decide +kernel
theorem dX5_people_28 : decode cX5_people 28 = .ok (.if_icmp .ge 24, 3) := by decide +kernel
theorem dX5_people_31 : decode cX5_people 31 = .ok (.aload_n 0, 1) := by decide +kernel
theorem dX5_people_32 : decode cX5_people 32 = .ok (.getfield 12, 3) := by decide +kernel
theorem dX5_people_35 : decode cX5_people 35 = .ok (.iload_n 3, 1) := by decide +kernel
theorem dX5_people_36 : decode cX5_people 36 = .ok (.invokevirtual 269, 3) := by decide +kernel
theorem dX5_people_39 : decode cX5_people 39 = .ok (.iload_n 1, 1) := by decide +kernel
theorem dX5_people_40 : decode cX5_people 40 = .ok (.if_icmp .ne 6, 3) := by decide +kernel
theorem dX5_people_43 : decode cX5_people 43 = .ok (.iinc 2 1, 3) := by decide +kernel
theorem dX5_people_46 : decode cX5_people 46 = .ok (.iinc 3 1, 3) := by decide +kernel
theorem dX5_people_49 : decode cX5_people 49 = .ok (.goto (-29), 3) := by decide +kernel
theorem dX5_people_52 : decode cX5_people 52 = .ok (.iload_n 2, 1) := by decide +kernel
theorem dX5_people_53 : decode cX5_people 53 = .ok (.ireturn, 1) := by decide +kernel
set_option maxRecDepth 20000 in
theorem ggX5_keep_X2_become : GoodIn wsX5_keep wsX2_become := goodIn_r _ [9, 10, 11, 12, 13, 14, 15, 16, 17, 18, 19, 20, 21, 22, 23, 24, 25, 26, 27, 28, 29, 30, 31, 32, 33, 41, 42, 43, 44, 45, 46, 47, 48, 49, 50, 51, 52, 53, 54, 55, 56] (by decide +kernel) (by decide +kernel)
set_option maxRecDepth 20000 in
theorem gX5_keep_X2_become : GoodIn wsX5_keep (wsV RX5 272 RX2 yX2_become wsX2_become) := goodIn_app (goodIn_of _ (by decide +kernel)) ggX5_keep_X2_become
theorem dX5_keep_0 : decode cX5_keep 0 = .ok (.aload_n 0, 1) := by decide +kernel
theorem dX5_keep_1 : decode cX5_keep 1 = .ok (.getfield 16, 3) := by decide +kernel
theorem dX5_keep_4 : decode cX5_keep 4 = .ok (.aload_n 0, 1) := by decide +kernel
theorem dX5_keep_5 : decode cX5_keep 5 = .ok (.getfield 12, 3) := by decide +kernel
theorem dX5_keep_8 : decode cX5_keep 8 = .ok (.invokevirtual 272, 3) := by decide +kernel
theorem dX5_keep_11 : decode cX5_keep 11 = .ok (.aload_n 0, 1) := by decide +kernel
theorem dX5_keep_12 : decode cX5_keep 12 = .ok (.iconst 1, 1) := by decide +kernel
theorem dX5_keep_13 : decode cX5_keep 13 = .ok (.putfield 275, 3) := by decide +kernel
theorem dX5_keep_16 : decode cX5_keep 16 = .ok (.aload_n 0, 1) := by decide +kernel
theorem dX5_keep_17 : decode cX5_keep 17 = .ok (.getfield 12, 3) := by decide +kernel
theorem dX5_keep_20 : decode cX5_keep 20 = .ok (.getfield 52, 3) := by decide +kernel
theorem dX5_keep_23 : decode cX5_keep 23 = .ok (.ireturn, 1) := by decide +kernel
set_option maxRecDepth 20000 in
theorem ggX5_back_X5_finding : GoodIn wsX5_back wsX5_finding := goodIn_r _ [10, 11, 41, 42, 43, 44, 45, 46, 47] (by decide +kernel) (by decide +kernel)
set_option maxRecDepth 20000 in
theorem gX5_back_X5_finding : GoodIn wsX5_back (wsV RX5 48 RX5 yX5_finding wsX5_finding) := goodIn_app (goodIn_of _ (by decide +kernel)) ggX5_back_X5_finding
set_option maxRecDepth 20000 in
theorem ggX5_back_X2_become : GoodIn wsX5_back wsX2_become := goodIn_r _ [16, 17, 18, 19, 20, 21, 22, 23, 24, 25, 26, 27, 28, 29, 30, 31, 32, 33, 34, 35, 36, 37, 38, 39, 40, 48, 49, 50, 51, 52, 53, 54, 55, 56, 57, 58, 59, 60, 61, 62, 63] (by decide +kernel) (by decide +kernel)
set_option maxRecDepth 20000 in
theorem gX5_back_X2_become : GoodIn wsX5_back (wsV RX5 272 RX2 yX2_become wsX2_become) := goodIn_app (goodIn_of _ (by decide +kernel)) ggX5_back_X2_become
theorem dX5_back_0 : decode cX5_back 0 = .ok (.aload_n 0, 1) := by decide +kernel
theorem dX5_back_1 : decode cX5_back 1 = .ok (.getfield 275, 3) := by decide +kernel
theorem dX5_back_4 : decode cX5_back 4 = .ok (.ifCond .ne 10, 3) := by decide +kernel
theorem dX5_back_7 : decode cX5_back 7 = .ok (.aload_n 0, 1) := by decide +kernel
theorem dX5_back_8 : decode cX5_back 8 = .ok (.ldc 125, 2) := by decide +kernel
theorem dX5_back_10 : decode cX5_back 10 = .ok (.invokevirtual 48, 3) := by decide +kernel
theorem dX5_back_13 : decode cX5_back 13 = .ok (.ireturn, 1) := by decide +kernel
theorem dX5_back_14 : decode cX5_back 14 = .ok (.aload_n 0, 1) := by decide +kernel
theorem dX5_back_15 : decode cX5_back 15 = .ok (.getfield 12, 3) := by decide +kernel
theorem dX5_back_18 : decode cX5_back 18 = .ok (.aload_n 0, 1) := by decide +kernel
theorem dX5_back_19 : decode cX5_back 19 = .ok (.getfield 16, 3) := by decide +kernel
theorem dX5_back_22 : decode cX5_back 22 = .ok (.invokevirtual 272, 3) := by decide +kernel
theorem dX5_back_25 : decode cX5_back 25 = .ok (.aload_n 0, 1) := by decide +kernel
theorem dX5_back_26 : decode cX5_back 26 = .ok (.getfield 12, 3) := by decide +kernel
theorem dX5_back_29 : decode cX5_back 29 = .ok (.getfield 52, 3) := by decide +kernel
theorem dX5_back_32 : decode cX5_back 32 = .ok (.ireturn, 1) := by decide +kernel
set_option maxRecDepth 20000 in
theorem ggX5_told_X2_countCuts : GoodIn wsX5_told wsX2_countCuts := goodIn_r _ [10, 11, 12, 13, 14, 15, 16, 17, 18, 19, 20, 33, 34, 35, 36, 37, 38, 39, 40, 41, 42, 43, 44, 45, 46, 47, 48] (by decide +kernel) (by decide +kernel)
set_option maxRecDepth 20000 in
theorem gX5_told_X2_countCuts : GoodIn wsX5_told (wsV RX5 279 RX2 yX2_countCuts wsX2_countCuts) := goodIn_app (goodIn_of _ (by decide +kernel)) ggX5_told_X2_countCuts
set_option maxRecDepth 20000 in
theorem ggX5_told_X5_finding : GoodIn wsX5_told wsX5_finding := goodIn_r _ [25, 3, 26, 27, 28, 29, 30, 31, 32] (by decide +kernel) (by decide +kernel)
set_option maxRecDepth 20000 in
theorem gX5_told_X5_finding : GoodIn wsX5_told (wsV RX5 48 RX5 yX5_finding wsX5_finding) := goodIn_app (goodIn_of _ (by decide +kernel)) ggX5_told_X5_finding
theorem dX5_told_0 : decode cX5_told 0 = .ok (.iload_n 1, 1) := by decide +kernel
theorem dX5_told_1 : decode cX5_told 1 = .ok (.tableswitch 60 0 3 #[31, 39, 47, 52], 31) := by decide +kernel
theorem dX5_told_32 : decode cX5_told 32 = .ok (.aload_n 0, 1) := by decide +kernel
theorem dX5_told_33 : decode cX5_told 33 = .ok (.getfield 12, 3) := by decide +kernel
theorem dX5_told_36 : decode cX5_told 36 = .ok (.getfield 52, 3) := by decide +kernel
theorem dX5_told_39 : decode cX5_told 39 = .ok (.ireturn, 1) := by decide +kernel
theorem dX5_told_40 : decode cX5_told 40 = .ok (.aload_n 0, 1) := by decide +kernel
theorem dX5_told_41 : decode cX5_told 41 = .ok (.getfield 12, 3) := by decide +kernel
theorem dX5_told_44 : decode cX5_told 44 = .ok (.invokevirtual 279, 3) := by decide +kernel
theorem dX5_told_47 : decode cX5_told 47 = .ok (.ireturn, 1) := by decide +kernel
theorem dX5_told_48 : decode cX5_told 48 = .ok (.aload_n 0, 1) := by decide +kernel
theorem dX5_told_49 : decode cX5_told 49 = .ok (.getfield 282, 3) := by decide +kernel
theorem dX5_told_52 : decode cX5_told 52 = .ok (.ireturn, 1) := by decide +kernel
theorem dX5_told_53 : decode cX5_told 53 = .ok (.aload_n 0, 1) := by decide +kernel
theorem dX5_told_54 : decode cX5_told 54 = .ok (.getfield 12, 3) := by decide +kernel
theorem dX5_told_57 : decode cX5_told 57 = .ok (.getfield 198, 3) := by decide +kernel
theorem dX5_told_60 : decode cX5_told 60 = .ok (.ireturn, 1) := by decide +kernel
theorem dX5_told_61 : decode cX5_told 61 = .ok (.aload_n 0, 1) := by decide +kernel
theorem dX5_told_62 : decode cX5_told 62 = .ok (.ldc 47, 2) := by decide +kernel
theorem dX5_told_64 : decode cX5_told 64 = .ok (.invokevirtual 48, 3) := by decide +kernel
theorem dX5_told_67 : decode cX5_told 67 = .ok (.ireturn, 1) := by decide +kernel
theorem dX5_finding_0 : decode cX5_finding 0 = .ok (.aload_n 0, 1) := by decide +kernel
theorem dX5_finding_1 : decode cX5_finding 1 = .ok (.dup, 1) := by decide +kernel
theorem dX5_finding_2 : decode cX5_finding 2 = .ok (.getfield 282, 3) := by decide +kernel
theorem dX5_finding_5 : decode cX5_finding 5 = .ok (.iconst 1, 1) := by decide +kernel
theorem dX5_finding_6 : decode cX5_finding 6 = .ok (.iadd, 1) := by decide +kernel
theorem dX5_finding_7 : decode cX5_finding 7 = .ok (.putfield 282, 3) := by decide +kernel
theorem dX5_finding_10 : decode cX5_finding 10 = .ok (.iload_n 1, 1) := by decide +kernel
theorem dX5_finding_11 : decode cX5_finding 11 = .ok (.ireturn, 1) := by decide +kernel
theorem dX5_orderHindrance_0 : decode cX5_orderHindrance 0 = .ok (.aload_n 0, 1) := by decide +kernel
theorem dX5_orderHindrance_1 : decode cX5_orderHindrance 1 = .ok (.getfield 12, 3) := by decide +kernel
theorem dX5_orderHindrance_4 : decode cX5_orderHindrance 4 = .ok (.getfield 52, 3) := by decide +kernel
theorem dX5_orderHindrance_7 : decode cX5_orderHindrance 7 = .ok (.ifCond .ne 6, 3) := by decide +kernel
theorem dX5_orderHindrance_10 : decode cX5_orderHindrance 10 = .ok (.ldc 125, 2) := by decide +kernel
theorem dX5_orderHindrance_12 : decode cX5_orderHindrance 12 = .ok (.ireturn, 1) := by decide +kernel
theorem dX5_orderHindrance_13 : decode cX5_orderHindrance 13 = .ok (.aload_n 0, 1) := by decide +kernel
theorem dX5_orderHindrance_14 : decode cX5_orderHindrance 14 = .ok (.getfield 12, 3) := by decide +kernel
theorem dX5_orderHindrance_17 : decode cX5_orderHindrance 17 = .ok (.getfield 52, 3) := by decide +kernel
theorem dX5_orderHindrance_20 : decode cX5_orderHindrance 20 = .ok (.bipush 8, 2) := by decide +kernel
theorem dX5_orderHindrance_22 : decode cX5_orderHindrance 22 = .ok (.if_icmp .le 9, 3) := by decide +kernel
theorem dX5_orderHindrance_25 : decode cX5_orderHindrance 25 = .ok (.ldc_w 285, 3) := by decide +kernel
theorem dX5_orderHindrance_28 : decode cX5_orderHindrance 28 = .ok (.goto 4, 3) := by decide +kernel
theorem dX5_orderHindrance_31 : decode cX5_orderHindrance 31 = .ok (.iconst 0, 1) := by decide +kernel
theorem dX5_orderHindrance_32 : decode cX5_orderHindrance 32 = .ok (.ireturn, 1) := by decide +kernel
set_option maxRecDepth 20000 in
theorem ggX5_stretchHindrance_X5_orderHindrance : GoodIn wsX5_stretchHindrance wsX5_orderHindrance := goodIn_r _ [8, 1, 2, 9, 10, 11, 12, 13, 14, 15, 16, 17, 18, 19, 20, 21, 22, 23, 24] (by decide +kernel) (by decide +kernel)
set_option maxRecDepth 20000 in
theorem gX5_stretchHindrance_X5_orderHindrance : GoodIn wsX5_stretchHindrance (wsV RX5 169 RX5 yX5_orderHindrance wsX5_orderHindrance) := goodIn_app (goodIn_of _ (by decide +kernel)) ggX5_stretchHindrance_X5_orderHindrance
theorem dX5_stretchHindrance_0 : decode cX5_stretchHindrance 0 = .ok (.aload_n 0, 1) := by decide +kernel
theorem dX5_stretchHindrance_1 : decode cX5_stretchHindrance 1 = .ok (.invokevirtual 169, 3) := by decide +kernel
theorem dX5_stretchHindrance_4 : decode cX5_stretchHindrance 4 = .ok (.istore_n 2, 1) := by decide +kernel
theorem dX5_stretchHindrance_5 : decode cX5_stretchHindrance 5 = .ok (.iload_n 2, 1) := by decide +kernel
theorem dX5_stretchHindrance_6 : decode cX5_stretchHindrance 6 = .ok (.ifCond .eq 5, 3) := by decide +kernel
theorem dX5_stretchHindrance_9 : decode cX5_stretchHindrance 9 = .ok (.iload_n 2, 1) := by decide +kernel
theorem dX5_stretchHindrance_10 : decode cX5_stretchHindrance 10 = .ok (.ireturn, 1) := by decide +kernel
theorem dX5_stretchHindrance_11 : decode cX5_stretchHindrance 11 = .ok (.iload_n 1, 1) := by decide +kernel
theorem dX5_stretchHindrance_12 : decode cX5_stretchHindrance 12 = .ok (.iconst 1, 1) := by decide +kernel
theorem dX5_stretchHindrance_13 : decode cX5_stretchHindrance 13 = .ok (.if_icmp .lt 14, 3) := by decide +kernel
theorem dX5_stretchHindrance_16 : decode cX5_stretchHindrance 16 = .ok (.iload_n 1, 1) := by decide +kernel
theorem dX5_stretchHindrance_17 : decode cX5_stretchHindrance 17 = .ok (.aload_n 0, 1) := by decide +kernel
theorem dX5_stretchHindrance_18 : decode cX5_stretchHindrance 18 = .ok (.getfield 12, 3) := by decide +kernel
theorem dX5_stretchHindrance_21 : decode cX5_stretchHindrance 21 = .ok (.getfield 52, 3) := by decide +kernel
theorem dX5_stretchHindrance_24 : decode cX5_stretchHindrance 24 = .ok (.if_icmp .le 8, 3) := by decide +kernel
theorem dX5_stretchHindrance_27 : decode cX5_stretchHindrance 27 = .ok (.ldc 47, 2) := by decide +kernel
theorem dX5_stretchHindrance_29 : decode cX5_stretchHindrance 29 = .ok (.goto 4, 3) := by decide +kernel
theorem dX5_stretchHindrance_32 : decode cX5_stretchHindrance 32 = .ok (.iconst 0, 1) := by decide +kernel
theorem dX5_stretchHindrance_33 : decode cX5_stretchHindrance 33 = .ok (.ireturn, 1) := by decide +kernel
theorem dX5_isKind_0 : decode cX5_isKind 0 = .ok (.iload_n 0, 1) := by decide +kernel
theorem dX5_isKind_1 : decode cX5_isKind 1 = .ok (.ifCond .lt 12, 3) := by decide +kernel
theorem dX5_isKind_4 : decode cX5_isKind 4 = .ok (.iload_n 0, 1) := by decide +kernel
theorem dX5_isKind_5 : decode cX5_isKind 5 = .ok (.iconst 4, 1) := by decide +kernel
theorem dX5_isKind_6 : decode cX5_isKind 6 = .ok (.if_icmp .ge 7, 3) := by decide +kernel
theorem dX5_isKind_9 : decode cX5_isKind 9 = .ok (.iconst 1, 1) := by decide +kernel
theorem dX5_isKind_10 : decode cX5_isKind 10 = .ok (.goto 4, 3) := by decide +kernel
theorem dX5_isKind_13 : decode cX5_isKind 13 = .ok (.iconst 0, 1) := by decide +kernel
theorem dX5_isKind_14 : decode cX5_isKind 14 = .ok (.ireturn, 1) := by decide +kernel
theorem dX5_isDistance_0 : decode cX5_isDistance 0 = .ok (.iload_n 0, 1) := by decide +kernel
theorem dX5_isDistance_1 : decode cX5_isDistance 1 = .ok (.ifCond .lt 13, 3) := by decide +kernel
theorem dX5_isDistance_4 : decode cX5_isDistance 4 = .ok (.iload_n 0, 1) := by decide +kernel
theorem dX5_isDistance_5 : decode cX5_isDistance 5 = .ok (.bipush 99, 2) := by decide +kernel
theorem dX5_isDistance_7 : decode cX5_isDistance 7 = .ok (.if_icmp .gt 7, 3) := by decide +kernel
theorem dX5_isDistance_10 : decode cX5_isDistance 10 = .ok (.iconst 1, 1) := by decide +kernel
theorem dX5_isDistance_11 : decode cX5_isDistance 11 = .ok (.goto 4, 3) := by decide +kernel
theorem dX5_isDistance_14 : decode cX5_isDistance 14 = .ok (.iconst 0, 1) := by decide +kernel
theorem dX5_isDistance_15 : decode cX5_isDistance 15 = .ok (.ireturn, 1) := by decide +kernel
theorem dX5_isYear_0 : decode cX5_isYear 0 = .ok (.iload_n 0, 1) := by decide +kernel
theorem dX5_isYear_1 : decode cX5_isYear 1 = .ok (.sipush (-5000), 3) := by decide +kernel
theorem dX5_isYear_4 : decode cX5_isYear 4 = .ok (.if_icmp .lt 14, 3) := by decide +kernel
theorem dX5_isYear_7 : decode cX5_isYear 7 = .ok (.iload_n 0, 1) := by decide +kernel
theorem dX5_isYear_8 : decode cX5_isYear 8 = .ok (.sipush 5000, 3) := by decide +kernel
theorem dX5_isYear_11 : decode cX5_isYear 11 = .ok (.if_icmp .gt 7, 3) := by decide +kernel
theorem dX5_isYear_14 : decode cX5_isYear 14 = .ok (.iconst 1, 1) := by decide +kernel
theorem dX5_isYear_15 : decode cX5_isYear 15 = .ok (.goto 4, 3) := by decide +kernel
theorem dX5_isYear_18 : decode cX5_isYear 18 = .ok (.iconst 0, 1) := by decide +kernel
theorem dX5_isYear_19 : decode cX5_isYear 19 = .ok (.ireturn, 1) := by decide +kernel
theorem dX5_isGood_0 : decode cX5_isGood 0 = .ok (.iload_n 0, 1) := by decide +kernel
theorem dX5_isGood_1 : decode cX5_isGood 1 = .ok (.ifCond .lt 13, 3) := by decide +kernel
theorem dX5_isGood_4 : decode cX5_isGood 4 = .ok (.iload_n 0, 1) := by decide +kernel
theorem dX5_isGood_5 : decode cX5_isGood 5 = .ok (.bipush 12, 2) := by decide +kernel
theorem dX5_isGood_7 : decode cX5_isGood 7 = .ok (.if_icmp .ge 7, 3) := by decide +kernel
theorem dX5_isGood_10 : decode cX5_isGood 10 = .ok (.iconst 1, 1) := by decide +kernel
theorem dX5_isGood_11 : decode cX5_isGood 11 = .ok (.goto 4, 3) := by decide +kernel
theorem dX5_isGood_14 : decode cX5_isGood 14 = .ok (.iconst 0, 1) := by decide +kernel
theorem dX5_isGood_15 : decode cX5_isGood 15 = .ok (.ireturn, 1) := by decide +kernel
theorem dX5_isMark_0 : decode cX5_isMark 0 = .ok (.iload_n 0, 1) := by decide +kernel
theorem dX5_isMark_1 : decode cX5_isMark 1 = .ok (.ifCond .lt 13, 3) := by decide +kernel
theorem dX5_isMark_4 : decode cX5_isMark 4 = .ok (.iload_n 0, 1) := by decide +kernel
theorem dX5_isMark_5 : decode cX5_isMark 5 = .ok (.bipush 6, 2) := by decide +kernel
theorem dX5_isMark_7 : decode cX5_isMark 7 = .ok (.if_icmp .ge 7, 3) := by decide +kernel
theorem dX5_isMark_10 : decode cX5_isMark 10 = .ok (.iconst 1, 1) := by decide +kernel
theorem dX5_isMark_11 : decode cX5_isMark 11 = .ok (.goto 4, 3) := by decide +kernel
theorem dX5_isMark_14 : decode cX5_isMark 14 = .ok (.iconst 0, 1) := by decide +kernel
theorem dX5_isMark_15 : decode cX5_isMark 15 = .ok (.ireturn, 1) := by decide +kernel
theorem dX5_isSheet_0 : decode cX5_isSheet 0 = .ok (.iload_n 0, 1) := by decide +kernel
theorem dX5_isSheet_1 : decode cX5_isSheet 1 = .ok (.ifCond .lt 12, 3) := by decide +kernel
theorem dX5_isSheet_4 : decode cX5_isSheet 4 = .ok (.iload_n 0, 1) := by decide +kernel
theorem dX5_isSheet_5 : decode cX5_isSheet 5 = .ok (.iconst 4, 1) := by decide +kernel
theorem dX5_isSheet_6 : decode cX5_isSheet 6 = .ok (.if_icmp .ge 7, 3) := by decide +kernel
theorem dX5_isSheet_9 : decode cX5_isSheet 9 = .ok (.iconst 1, 1) := by decide +kernel
theorem dX5_isSheet_10 : decode cX5_isSheet 10 = .ok (.goto 4, 3) := by decide +kernel
theorem dX5_isSheet_13 : decode cX5_isSheet 13 = .ok (.iconst 0, 1) := by decide +kernel
theorem dX5_isSheet_14 : decode cX5_isSheet 14 = .ok (.ireturn, 1) := by decide +kernel
theorem dX5_isWidth_0 : decode cX5_isWidth 0 = .ok (.iload_n 0, 1) := by decide +kernel
theorem dX5_isWidth_1 : decode cX5_isWidth 1 = .ok (.ifCond .eq 21, 3) := by decide +kernel
theorem dX5_isWidth_4 : decode cX5_isWidth 4 = .ok (.iload_n 0, 1) := by decide +kernel
theorem dX5_isWidth_5 : decode cX5_isWidth 5 = .ok (.bipush 8, 2) := by decide +kernel
theorem dX5_isWidth_7 : decode cX5_isWidth 7 = .ok (.if_icmp .eq 15, 3) := by decide +kernel
theorem dX5_isWidth_10 : decode cX5_isWidth 10 = .ok (.iload_n 0, 1) := by decide +kernel
theorem dX5_isWidth_11 : decode cX5_isWidth 11 = .ok (.bipush 16, 2) := by decide +kernel
theorem dX5_isWidth_13 : decode cX5_isWidth 13 = .ok (.if_icmp .eq 9, 3) := by decide +kernel
theorem dX5_isWidth_16 : decode cX5_isWidth 16 = .ok (.iload_n 0, 1) := by decide +kernel
theorem dX5_isWidth_17 : decode cX5_isWidth 17 = .ok (.bipush 32, 2) := by decide +kernel
theorem dX5_isWidth_19 : decode cX5_isWidth 19 = .ok (.if_icmp .ne 7, 3) := by decide +kernel
theorem dX5_isWidth_22 : decode cX5_isWidth 22 = .ok (.iconst 1, 1) := by decide +kernel
theorem dX5_isWidth_23 : decode cX5_isWidth 23 = .ok (.goto 4, 3) := by decide +kernel
theorem dX5_isWidth_26 : decode cX5_isWidth 26 = .ok (.iconst 0, 1) := by decide +kernel
theorem dX5_isWidth_27 : decode cX5_isWidth 27 = .ok (.ireturn, 1) := by decide +kernel
theorem dX5_isIn_0 : decode cX5_isIn 0 = .ok (.iload_n 0, 1) := by decide +kernel
theorem dX5_isIn_1 : decode cX5_isIn 1 = .ok (.iload_n 1, 1) := by decide +kernel
theorem dX5_isIn_2 : decode cX5_isIn 2 = .ok (.ishr, 1) := by decide +kernel
theorem dX5_isIn_3 : decode cX5_isIn 3 = .ok (.iconst 1, 1) := by decide +kernel
theorem dX5_isIn_4 : decode cX5_isIn 4 = .ok (.iand, 1) := by decide +kernel
theorem dX5_isIn_5 : decode cX5_isIn 5 = .ok (.ifCond .eq 7, 3) := by decide +kernel
theorem dX5_isIn_8 : decode cX5_isIn 8 = .ok (.iconst 1, 1) := by decide +kernel
theorem dX5_isIn_9 : decode cX5_isIn 9 = .ok (.goto 4, 3) := by decide +kernel
theorem dX5_isIn_12 : decode cX5_isIn 12 = .ok (.iconst 0, 1) := by decide +kernel
theorem dX5_isIn_13 : decode cX5_isIn 13 = .ok (.ireturn, 1) := by decide +kernel
theorem dX5_commonDivisor_0 : decode cX5_commonDivisor 0 = .ok (.iload_n 1, 1) := by decide +kernel
theorem dX5_commonDivisor_1 : decode cX5_commonDivisor 1 = .ok (.istore_n 2, 1) := by decide +kernel
theorem dX5_commonDivisor_2 : decode cX5_commonDivisor 2 = .ok (.iload_n 2, 1) := by decide +kernel
theorem dX5_commonDivisor_3 : decode cX5_commonDivisor 3 = .ok (.iconst 1, 1) := by decide +kernel
theorem dX5_commonDivisor_4 : decode cX5_commonDivisor 4 = .ok (.if_icmp .le 23, 3) := by decide +kernel
theorem dX5_commonDivisor_7 : decode cX5_commonDivisor 7 = .ok (.iload_n 0, 1) := by decide +kernel
theorem dX5_commonDivisor_8 : decode cX5_commonDivisor 8 = .ok (.iload_n 2, 1) := by decide +kernel
theorem dX5_commonDivisor_9 : decode cX5_commonDivisor 9 = .ok (.irem, 1) := by decide +kernel
theorem dX5_commonDivisor_10 : decode cX5_commonDivisor 10 = .ok (.ifCond .ne 11, 3) := by decide +kernel
theorem dX5_commonDivisor_13 : decode cX5_commonDivisor 13 = .ok (.iload_n 1, 1) := by decide +kernel
theorem dX5_commonDivisor_14 : decode cX5_commonDivisor 14 = .ok (.iload_n 2, 1) := by decide +kernel
theorem dX5_commonDivisor_15 : decode cX5_commonDivisor 15 = .ok (.irem, 1) := by decide +kernel
theorem dX5_commonDivisor_16 : decode cX5_commonDivisor 16 = .ok (.ifCond .ne 5, 3) := by decide +kernel
theorem dX5_commonDivisor_19 : decode cX5_commonDivisor 19 = .ok (.iload_n 2, 1) := by decide +kernel
theorem dX5_commonDivisor_20 : decode cX5_commonDivisor 20 = .ok (.ireturn, 1) := by decide +kernel
theorem dX5_commonDivisor_21 : decode cX5_commonDivisor 21 = .ok (.iinc 2 (-1), 3) := by decide +kernel
theorem dX5_commonDivisor_24 : decode cX5_commonDivisor 24 = .ok (.goto (-22), 3) := by decide +kernel
theorem dX5_commonDivisor_27 : decode cX5_commonDivisor 27 = .ok (.iconst 1, 1) := by decide +kernel
theorem dX5_commonDivisor_28 : decode cX5_commonDivisor 28 = .ok (.ireturn, 1) := by decide +kernel
theorem dX6_init_0 : decode cX6_init 0 = .ok (.aload_n 0, 1) := by decide +kernel
theorem dX6_init_1 : decode cX6_init 1 = .ok (.invokespecial 3, 3) := by decide +kernel
theorem dX6_init_4 : decode cX6_init 4 = .ok (.aload_n 0, 1) := by decide +kernel
theorem dX6_init_5 : decode cX6_init 5 = .ok (.bipush 116, 2) := by decide +kernel
theorem dX6_init_7 : decode cX6_init 7 = .ok (.newarray .int, 2) := by decide +kernel
theorem dX6_init_9 : decode cX6_init 9 = .ok (.putfield 9, 3) := by decide +kernel
theorem dX6_init_12 : decode cX6_init 12 = .ok (.aload_n 0, 1) := by decide +kernel
theorem dX6_init_13 : decode cX6_init 13 = .ok (.bipush 116, 2) := by decide +kernel
theorem dX6_init_15 : decode cX6_init 15 = .ok (.newarray .int, 2) := by decide +kernel
theorem dX6_init_17 : decode cX6_init 17 = .ok (.putfield 13, 3) := by decide +kernel
theorem dX6_init_20 : decode cX6_init 20 = .ok (.aload_n 0, 1) := by decide +kernel
theorem dX6_init_21 : decode cX6_init 21 = .ok (.iconst 4, 1) := by decide +kernel
theorem dX6_init_22 : decode cX6_init 22 = .ok (.newarray .int, 2) := by decide +kernel
theorem dX6_init_24 : decode cX6_init 24 = .ok (.putfield 16, 3) := by decide +kernel
theorem dX6_init_27 : decode cX6_init 27 = .ok (.aload_n 0, 1) := by decide +kernel
theorem dX6_init_28 : decode cX6_init 28 = .ok (.iconst 4, 1) := by decide +kernel
theorem dX6_init_29 : decode cX6_init 29 = .ok (.newarray .int, 2) := by decide +kernel
theorem dX6_init_31 : decode cX6_init 31 = .ok (.putfield 19, 3) := by decide +kernel
theorem dX6_init_34 : decode cX6_init 34 = .ok (.aload_n 0, 1) := by decide +kernel
theorem dX6_init_35 : decode cX6_init 35 = .ok (.bipush 48, 2) := by decide +kernel
theorem dX6_init_37 : decode cX6_init 37 = .ok (.newarray .int, 2) := by decide +kernel
theorem dX6_init_39 : decode cX6_init 39 = .ok (.putfield 22, 3) := by decide +kernel
theorem dX6_init_42 : decode cX6_init 42 = .ok (.aload_n 0, 1) := by decide +kernel
theorem dX6_init_43 : decode cX6_init 43 = .ok (.bipush 12, 2) := by decide +kernel
theorem dX6_init_45 : decode cX6_init 45 = .ok (.newarray .int, 2) := by decide +kernel
theorem dX6_init_47 : decode cX6_init 47 = .ok (.putfield 25, 3) := by decide +kernel
theorem dX6_init_50 : decode cX6_init 50 = .ok (.aload_n 0, 1) := by decide +kernel
theorem dX6_init_51 : decode cX6_init 51 = .ok (.bipush 10, 2) := by decide +kernel
theorem dX6_init_53 : decode cX6_init 53 = .ok (.newarray .int, 2) := by decide +kernel
theorem dX6_init_55 : decode cX6_init 55 = .ok (.putfield 28, 3) := by decide +kernel
theorem dX6_init_58 : decode cX6_init 58 = .ok (.aload_n 0, 1) := by decide +kernel
theorem dX6_init_59 : decode cX6_init 59 = .ok (.bipush 10, 2) := by decide +kernel
theorem dX6_init_61 : decode cX6_init 61 = .ok (.newarray .int, 2) := by decide +kernel
theorem dX6_init_63 : decode cX6_init 63 = .ok (.putfield 31, 3) := by decide +kernel
theorem dX6_init_66 : decode cX6_init 66 = .ok (.aload_n 0, 1) := by decide +kernel
theorem dX6_init_67 : decode cX6_init 67 = .ok (.bipush 11, 2) := by decide +kernel
theorem dX6_init_69 : decode cX6_init 69 = .ok (.newarray .int, 2) := by decide +kernel
theorem dX6_init_71 : decode cX6_init 71 = .ok (.putfield 34, 3) := by decide +kernel
theorem dX6_init_74 : decode cX6_init 74 = .ok (.aload_n 0, 1) := by decide +kernel
theorem dX6_init_75 : decode cX6_init 75 = .ok (.bipush 10, 2) := by decide +kernel
theorem dX6_init_77 : decode cX6_init 77 = .ok (.newarray .int, 2) := by decide +kernel
theorem dX6_init_79 : decode cX6_init 79 = .ok (.putfield 37, 3) := by decide +kernel
theorem dX6_init_82 : decode cX6_init 82 = .ok (.iconst 0, 1) := by decide +kernel
theorem dX6_init_83 : decode cX6_init 83 = .ok (.istore_n 1, 1) := by decide +kernel
theorem dX6_init_84 : decode cX6_init 84 = .ok (.iload_n 1, 1) := by decide +kernel
theorem dX6_init_85 : decode cX6_init 85 = .ok (.bipush 6, 2) := by decide +kernel
theorem dX6_init_87 : decode cX6_init 87 = .ok (.if_icmp .ge 31, 3) := by decide +kernel
theorem dX6_init_90 : decode cX6_init 90 = .ok (.aload_n 0, 1) := by decide +kernel
theorem dX6_init_91 : decode cX6_init 91 = .ok (.getfield 9, 3) := by decide +kernel
theorem dX6_init_94 : decode cX6_init 94 = .ok (.bipush 92, 2) := by decide +kernel
theorem dX6_init_96 : decode cX6_init 96 = .ok (.iload_n 1, 1) := by decide +kernel
theorem dX6_init_97 : decode cX6_init 97 = .ok (.iadd, 1) := by decide +kernel
theorem dX6_init_98 : decode cX6_init 98 = .ok (.bipush 10, 2) := by decide +kernel
theorem dX6_init_100 : decode cX6_init 100 = .ok (.iastore, 1) := by decide +kernel
theorem dX6_init_101 : decode cX6_init 101 = .ok (.aload_n 0, 1) := by decide +kernel
theorem dX6_init_102 : decode cX6_init 102 = .ok (.getfield 9, 3) := by decide +kernel
theorem dX6_init_105 : decode cX6_init 105 = .ok (.bipush 98, 2) := by decide +kernel
theorem dX6_init_107 : decode cX6_init 107 = .ok (.iload_n 1, 1) := by decide +kernel
theorem dX6_init_108 : decode cX6_init 108 = .ok (.iadd, 1) := by decide +kernel
theorem dX6_init_109 : decode cX6_init 109 = .ok (.bipush 10, 2) := by decide +kernel
theorem dX6_init_111 : decode cX6_init 111 = .ok (.iastore, 1) := by decide +kernel
theorem dX6_init_112 : decode cX6_init 112 = .ok (.iinc 1 1, 3) := by decide +kernel
theorem dX6_init_115 : decode cX6_init 115 = .ok (.goto (-31), 3) := by decide +kernel
theorem dX6_init_118 : decode cX6_init 118 = .ok (.return_, 1) := by decide +kernel
theorem dX6_finding_0 : decode cX6_finding 0 = .ok (.aload_n 0, 1) := by decide +kernel
theorem dX6_finding_1 : decode cX6_finding 1 = .ok (.dup, 1) := by decide +kernel
theorem dX6_finding_2 : decode cX6_finding 2 = .ok (.getfield 40, 3) := by decide +kernel
theorem dX6_finding_5 : decode cX6_finding 5 = .ok (.iconst 1, 1) := by decide +kernel
theorem dX6_finding_6 : decode cX6_finding 6 = .ok (.iadd, 1) := by decide +kernel
theorem dX6_finding_7 : decode cX6_finding 7 = .ok (.putfield 40, 3) := by decide +kernel
theorem dX6_finding_10 : decode cX6_finding 10 = .ok (.iload_n 1, 1) := by decide +kernel
theorem dX6_finding_11 : decode cX6_finding 11 = .ok (.ireturn, 1) := by decide +kernel
theorem dX6_within_0 : decode cX6_within 0 = .ok (.iload_n 0, 1) := by decide +kernel
theorem dX6_within_1 : decode cX6_within 1 = .ok (.iload_n 1, 1) := by decide +kernel
theorem dX6_within_2 : decode cX6_within 2 = .ok (.if_icmp .lt 12, 3) := by decide +kernel
theorem dX6_within_5 : decode cX6_within 5 = .ok (.iload_n 0, 1) := by decide +kernel
theorem dX6_within_6 : decode cX6_within 6 = .ok (.iload_n 2, 1) := by decide +kernel
theorem dX6_within_7 : decode cX6_within 7 = .ok (.if_icmp .gt 7, 3) := by decide +kernel
theorem dX6_within_10 : decode cX6_within 10 = .ok (.iconst 1, 1) := by decide +kernel
theorem dX6_within_11 : decode cX6_within 11 = .ok (.goto 4, 3) := by decide +kernel
theorem dX6_within_14 : decode cX6_within 14 = .ok (.iconst 0, 1) := by decide +kernel
theorem dX6_within_15 : decode cX6_within 15 = .ok (.ireturn, 1) := by decide +kernel
set_option maxRecDepth 20000 in
theorem ggX6_isGrave_X6_within : GoodIn wsX6_isGrave wsX6_within := goodIn_r _ [5] (by decide +kernel) (by decide +kernel)
set_option maxRecDepth 20000 in
theorem gX6_isGrave_X6_within : GoodIn wsX6_isGrave (va_wsS RX6 44 yX6_within wsX6_within) := goodIn_app (goodIn_of _ (by decide +kernel)) ggX6_isGrave_X6_within
theorem dX6_isGrave_0 : decode cX6_isGrave 0 = .ok (.iload_n 1, 1) := by decide +kernel
theorem dX6_isGrave_1 : decode cX6_isGrave 1 = .ok (.iconst 0, 1) := by decide +kernel
theorem dX6_isGrave_2 : decode cX6_isGrave 2 = .ok (.aload_n 0, 1) := by decide +kernel
theorem dX6_isGrave_3 : decode cX6_isGrave 3 = .ok (.getfield 9, 3) := by decide +kernel
theorem dX6_isGrave_6 : decode cX6_isGrave 6 = .ok (.iconst 0, 1) := by decide +kernel
theorem dX6_isGrave_7 : decode cX6_isGrave 7 = .ok (.iaload, 1) := by decide +kernel
theorem dX6_isGrave_8 : decode cX6_isGrave 8 = .ok (.iconst 1, 1) := by decide +kernel
theorem dX6_isGrave_9 : decode cX6_isGrave 9 = .ok (.isub, 1) := by decide +kernel
theorem dX6_isGrave_10 : decode cX6_isGrave 10 = .ok (.invokestatic 44, 3) := by decide +kernel
theorem dX6_isGrave_13 : decode cX6_isGrave 13 = .ok (.ireturn, 1) := by decide +kernel
set_option maxRecDepth 20000 in
theorem ggX6_isGood_X6_within : GoodIn wsX6_isGood wsX6_within := goodIn_r _ [4] (by decide +kernel) (by decide +kernel)
set_option maxRecDepth 20000 in
theorem gX6_isGood_X6_within : GoodIn wsX6_isGood (va_wsS RX6 44 yX6_within wsX6_within) := goodIn_app (goodIn_of _ (by decide +kernel)) ggX6_isGood_X6_within
theorem dX6_isGood_0 : decode cX6_isGood 0 = .ok (.iload_n 0, 1) := by decide +kernel
theorem dX6_isGood_1 : decode cX6_isGood 1 = .ok (.iconst 0, 1) := by decide +kernel
theorem dX6_isGood_2 : decode cX6_isGood 2 = .ok (.bipush 11, 2) := by decide +kernel
theorem dX6_isGood_4 : decode cX6_isGood 4 = .ok (.invokestatic 44, 3) := by decide +kernel
theorem dX6_isGood_7 : decode cX6_isGood 7 = .ok (.ireturn, 1) := by decide +kernel
theorem dX6_many_0 : decode cX6_many 0 = .ok (.iconst 0, 1) := by decide +kernel
theorem dX6_many_1 : decode cX6_many 1 = .ok (.istore_n 1, 1) := by decide +kernel
theorem dX6_many_2 : decode cX6_many 2 = .ok (.iconst 0, 1) := by decide +kernel
theorem dX6_many_3 : decode cX6_many 3 = .ok (.istore_n 2, 1) := by decide +kernel
theorem dX6_many_4 : decode cX6_many 4 = .ok (.iload_n 2, 1) := by decide +kernel
theorem dX6_many_5 : decode cX6_many 5 = .ok (.bipush 32, 2) := by decide +kernel
theorem dX6_many_7 : decode cX6_many 7 = .ok (.if_icmp .ge 17, 3) := by decide +kernel
theorem dX6_many_10 : decode cX6_many 10 = .ok (.iload_n 1, 1) := by decide +kernel
theorem dX6_many_11 : decode cX6_many 11 = .ok (.iload_n 0, 1) := by decide +kernel
theorem dX6_many_12 : decode cX6_many 12 = .ok (.iload_n 2, 1) := by decide +kernel
theorem dX6_many_13 : decode cX6_many 13 = .ok (.iushr, 1) := by decide +kernel
theorem dX6_many_14 : decode cX6_many 14 = .ok (.iconst 1, 1) := by decide +kernel
theorem dX6_many_15 : decode cX6_many 15 = .ok (.iand, 1) := by decide +kernel
theorem dX6_many_16 : decode cX6_many 16 = .ok (.iadd, 1) := by decide +kernel
theorem dX6_many_17 : decode cX6_many 17 = .ok (.istore_n 1, 1) := by decide +kernel
theorem dX6_many_18 : decode cX6_many 18 = .ok (.iinc 2 1, 3) := by decide +kernel
theorem dX6_many_21 : decode cX6_many 21 = .ok (.goto (-17), 3) := by decide +kernel
theorem dX6_many_24 : decode cX6_many 24 = .ok (.iload_n 1, 1) := by decide +kernel
theorem dX6_many_25 : decode cX6_many 25 = .ok (.ireturn, 1) := by decide +kernel
set_option maxRecDepth 20000 in
theorem ggX6_grave_X6_within : GoodIn wsX6_grave wsX6_within := goodIn_r _ [7] (by decide +kernel) (by decide +kernel)
set_option maxRecDepth 20000 in
theorem gX6_grave_X6_within : GoodIn wsX6_grave (va_wsS RX6 44 yX6_within wsX6_within) := goodIn_app (goodIn_of _ (by decide +kernel)) ggX6_grave_X6_within
set_option maxRecDepth 20000 in
theorem ggX6_grave_X6_finding : GoodIn wsX6_grave wsX6_finding := goodIn_r _ [11, 12, 13, 14, 15, 16, 17, 18, 19, 20, 21, 22, 23, 24, 25, 26, 27, 28] (by decide +kernel) (by decide +kernel)
set_option maxRecDepth 20000 in
theorem gX6_grave_X6_finding : GoodIn wsX6_grave (wsV RX6 49 RX6 yX6_finding wsX6_finding) := goodIn_app (goodIn_of _ (by decide +kernel)) ggX6_grave_X6_finding
theorem dX6_grave_0 : decode cX6_grave 0 = .ok (.iload_n 1, 1) := by decide +kernel
theorem dX6_grave_1 : decode cX6_grave 1 = .ok (.iconst 0, 1) := by decide +kernel
theorem dX6_grave_2 : decode cX6_grave 2 = .ok (.iconst 3, 1) := by decide +kernel
theorem dX6_grave_3 : decode cX6_grave 3 = .ok (.invokestatic 44, 3) := by decide +kernel
theorem dX6_grave_6 : decode cX6_grave 6 = .ok (.ifCond .eq 23, 3) := by decide +kernel
theorem dX6_grave_9 : decode cX6_grave 9 = .ok (.iload_n 2, 1) := by decide +kernel
theorem dX6_grave_10 : decode cX6_grave 10 = .ok (.iconst 0, 1) := by decide +kernel
theorem dX6_grave_11 : decode cX6_grave 11 = .ok (.bipush 99, 2) := by decide +kernel
theorem dX6_grave_13 : decode cX6_grave 13 = .ok (.invokestatic 44, 3) := by decide +kernel
theorem dX6_grave_16 : decode cX6_grave 16 = .ok (.ifCond .eq 13, 3) := by decide +kernel
theorem dX6_grave_19 : decode cX6_grave 19 = .ok (.iload_n 3, 1) := by decide +kernel
theorem dX6_grave_20 : decode cX6_grave 20 = .ok (.iconst 0, 1) := by decide +kernel
theorem dX6_grave_21 : decode cX6_grave 21 = .ok (.bipush 99, 2) := by decide +kernel
theorem dX6_grave_23 : decode cX6_grave 23 = .ok (.invokestatic 44, 3) := by decide +kernel
theorem dX6_grave_26 : decode cX6_grave 26 = .ok (.ifCond .ne 10, 3) := by decide +kernel
theorem dX6_grave_29 : decode cX6_grave 29 = .ok (.aload_n 0, 1) := by decide +kernel
theorem dX6_grave_30 : decode cX6_grave 30 = .ok (.ldc 48, 2) := by decide +kernel
theorem dX6_grave_32 : decode cX6_grave 32 = .ok (.invokevirtual 49, 3) := by decide +kernel
theorem dX6_grave_35 : decode cX6_grave 35 = .ok (.ireturn, 1) := by decide +kernel
theorem dX6_grave_36 : decode cX6_grave 36 = .ok (.aload_n 0, 1) := by decide +kernel
theorem dX6_grave_37 : decode cX6_grave 37 = .ok (.getfield 9, 3) := by decide +kernel
theorem dX6_grave_40 : decode cX6_grave 40 = .ok (.iconst 0, 1) := by decide +kernel
theorem dX6_grave_41 : decode cX6_grave 41 = .ok (.iaload, 1) := by decide +kernel
theorem dX6_grave_42 : decode cX6_grave 42 = .ok (.istore 4, 2) := by decide +kernel
theorem dX6_grave_44 : decode cX6_grave 44 = .ok (.iload 4, 2) := by decide +kernel
theorem dX6_grave_46 : decode cX6_grave 46 = .ok (.bipush 10, 2) := by decide +kernel
theorem dX6_grave_48 : decode cX6_grave 48 = .ok (.if_icmp .ne 10, 3) := by decide +kernel
theorem dX6_grave_51 : decode cX6_grave 51 = .ok (.aload_n 0, 1) := by decide +kernel
theorem dX6_grave_52 : decode cX6_grave 52 = .ok (.ldc 53, 2) := by decide +kernel
theorem dX6_grave_54 : decode cX6_grave 54 = .ok (.invokevirtual 49, 3) := by decide +kernel
theorem dX6_grave_57 : decode cX6_grave 57 = .ok (.ireturn, 1) := by decide +kernel
theorem dX6_grave_58 : decode cX6_grave 58 = .ok (.aload_n 0, 1) := by decide +kernel
theorem dX6_grave_59 : decode cX6_grave 59 = .ok (.getfield 9, 3) := by decide +kernel
theorem dX6_grave_62 : decode cX6_grave 62 = .ok (.iconst 2, 1) := by decide +kernel
theorem dX6_grave_63 : decode cX6_grave 63 = .ok (.iload 4, 2) := by decide +kernel
theorem dX6_grave_65 : decode cX6_grave 65 = .ok (.iadd, 1) := by decide +kernel
theorem dX6_grave_66 : decode cX6_grave 66 = .ok (.iload_n 1, 1) := by decide +kernel
theorem dX6_grave_67 : decode cX6_grave 67 = .ok (.iastore, 1) := by decide +kernel
theorem dX6_grave_68 : decode cX6_grave 68 = .ok (.aload_n 0, 1) := by decide +kernel
theorem dX6_grave_69 : decode cX6_grave 69 = .ok (.getfield 9, 3) := by decide +kernel
theorem dX6_grave_72 : decode cX6_grave 72 = .ok (.bipush 12, 2) := by decide +kernel
theorem dX6_grave_74 : decode cX6_grave 74 = .ok (.iload 4, 2) := by decide +kernel
theorem dX6_grave_76 : decode cX6_grave 76 = .ok (.iadd, 1) := by decide +kernel
theorem dX6_grave_77 : decode cX6_grave 77 = .ok (.iload_n 2, 1) := by decide +kernel
theorem dX6_grave_78 : decode cX6_grave 78 = .ok (.iastore, 1) := by decide +kernel
theorem dX6_grave_79 : decode cX6_grave 79 = .ok (.aload_n 0, 1) := by decide +kernel
theorem dX6_grave_80 : decode cX6_grave 80 = .ok (.getfield 9, 3) := by decide +kernel
theorem dX6_grave_83 : decode cX6_grave 83 = .ok (.bipush 22, 2) := by decide +kernel
theorem dX6_grave_85 : decode cX6_grave 85 = .ok (.iload 4, 2) := by decide +kernel
theorem dX6_grave_87 : decode cX6_grave 87 = .ok (.iadd, 1) := by decide +kernel
theorem dX6_grave_88 : decode cX6_grave 88 = .ok (.iload_n 3, 1) := by decide +kernel
theorem dX6_grave_89 : decode cX6_grave 89 = .ok (.iastore, 1) := by decide +kernel
theorem dX6_grave_90 : decode cX6_grave 90 = .ok (.aload_n 0, 1) := by decide +kernel
theorem dX6_grave_91 : decode cX6_grave 91 = .ok (.getfield 9, 3) := by decide +kernel
theorem dX6_grave_94 : decode cX6_grave 94 = .ok (.bipush 32, 2) := by decide +kernel
theorem dX6_grave_96 : decode cX6_grave 96 = .ok (.iload 4, 2) := by decide +kernel
theorem dX6_grave_98 : decode cX6_grave 98 = .ok (.iadd, 1) := by decide +kernel
theorem dX6_grave_99 : decode cX6_grave 99 = .ok (.iconst 0, 1) := by decide +kernel
theorem dX6_grave_100 : decode cX6_grave 100 = .ok (.iastore, 1) := by decide +kernel
theorem dX6_grave_101 : decode cX6_grave 101 = .ok (.aload_n 0, 1) := by decide +kernel
theorem dX6_grave_102 : decode cX6_grave 102 = .ok (.getfield 9, 3) := by decide +kernel
theorem dX6_grave_105 : decode cX6_grave 105 = .ok (.bipush 42, 2) := by decide +kernel
theorem dX6_grave_107 : decode cX6_grave 107 = .ok (.iload 4, 2) := by decide +kernel
theorem dX6_grave_109 : decode cX6_grave 109 = .ok (.iadd, 1) := by decide +kernel
theorem dX6_grave_110 : decode cX6_grave 110 = .ok (.sipush (-5000), 3) := by decide +kernel
theorem dX6_grave_113 : decode cX6_grave 113 = .ok (.iastore, 1) := by decide +kernel
theorem dX6_grave_114 : decode cX6_grave 114 = .ok (.aload_n 0, 1) := by decide +kernel
theorem dX6_grave_115 : decode cX6_grave 115 = .ok (.getfield 9, 3) := by decide +kernel
theorem dX6_grave_118 : decode cX6_grave 118 = .ok (.bipush 52, 2) := by decide +kernel
theorem dX6_grave_120 : decode cX6_grave 120 = .ok (.iload 4, 2) := by decide +kernel
theorem dX6_grave_122 : decode cX6_grave 122 = .ok (.iadd, 1) := by decide +kernel
theorem dX6_grave_123 : decode cX6_grave 123 = .ok (.sipush 5000, 3) := by decide +kernel
theorem dX6_grave_126 : decode cX6_grave 126 = .ok (.iastore, 1) := by decide +kernel
theorem dX6_grave_127 : decode cX6_grave 127 = .ok (.aload_n 0, 1) := by decide +kernel
theorem dX6_grave_128 : decode cX6_grave 128 = .ok (.getfield 9, 3) := by decide +kernel
theorem dX6_grave_131 : decode cX6_grave 131 = .ok (.bipush 62, 2) := by decide +kernel
theorem dX6_grave_133 : decode cX6_grave 133 = .ok (.iload 4, 2) := by decide +kernel
theorem dX6_grave_135 : decode cX6_grave 135 = .ok (.iadd, 1) := by decide +kernel
theorem dX6_grave_136 : decode cX6_grave 136 = .ok (.iconst 0, 1) := by decide +kernel
theorem dX6_grave_137 : decode cX6_grave 137 = .ok (.iastore, 1) := by decide +kernel
theorem dX6_grave_138 : decode cX6_grave 138 = .ok (.aload_n 0, 1) := by decide +kernel
theorem dX6_grave_139 : decode cX6_grave 139 = .ok (.getfield 9, 3) := by decide +kernel
theorem dX6_grave_142 : decode cX6_grave 142 = .ok (.bipush 72, 2) := by decide +kernel
theorem dX6_grave_144 : decode cX6_grave 144 = .ok (.iload 4, 2) := by decide +kernel
theorem dX6_grave_146 : decode cX6_grave 146 = .ok (.iadd, 1) := by decide +kernel
theorem dX6_grave_147 : decode cX6_grave 147 = .ok (.iconst 0, 1) := by decide +kernel
theorem dX6_grave_148 : decode cX6_grave 148 = .ok (.iastore, 1) := by decide +kernel
theorem dX6_grave_149 : decode cX6_grave 149 = .ok (.aload_n 0, 1) := by decide +kernel
theorem dX6_grave_150 : decode cX6_grave 150 = .ok (.getfield 9, 3) := by decide +kernel
theorem dX6_grave_153 : decode cX6_grave 153 = .ok (.bipush 82, 2) := by decide +kernel
theorem dX6_grave_155 : decode cX6_grave 155 = .ok (.iload 4, 2) := by decide +kernel
theorem dX6_grave_157 : decode cX6_grave 157 = .ok (.iadd, 1) := by decide +kernel
theorem dX6_grave_158 : decode cX6_grave 158 = .ok (.iconst 0, 1) := by decide +kernel
theorem dX6_grave_159 : decode cX6_grave 159 = .ok (.iastore, 1) := by decide +kernel
theorem dX6_grave_160 : decode cX6_grave 160 = .ok (.aload_n 0, 1) := by decide +kernel
theorem dX6_grave_161 : decode cX6_grave 161 = .ok (.getfield 9, 3) := by decide +kernel
theorem dX6_grave_164 : decode cX6_grave 164 = .ok (.iconst 0, 1) := by decide +kernel
theorem dX6_grave_165 : decode cX6_grave 165 = .ok (.dup2, 1) := by decide +kernel
theorem dX6_grave_166 : decode cX6_grave 166 = .ok (.iaload, 1) := by decide +kernel
theorem dX6_grave_167 : decode cX6_grave 167 = .ok (.iconst 1, 1) := by decide +kernel
theorem dX6_grave_168 : decode cX6_grave 168 = .ok (.iadd, 1) := by decide +kernel
theorem dX6_grave_169 : decode cX6_grave 169 = .ok (.iastore, 1) := by decide +kernel
theorem dX6_grave_170 : decode cX6_grave 170 = .ok (.iload 4, 2) := by decide +kernel
theorem dX6_grave_172 : decode cX6_grave 172 = .ok (.ireturn, 1) := by decide +kernel
set_option maxRecDepth 20000 in
theorem ggX6_as_X6_isGrave : GoodIn wsX6_as wsX6_isGrave := goodIn_r _ [8, 2, 9, 10, 7, 11, 17, 18, 19, 20, 21, 22, 23, 24, 25, 26, 27, 28, 29, 30, 31, 32] (by decide +kernel) (by decide +kernel)
set_option maxRecDepth 20000 in
theorem gX6_as_X6_isGrave : GoodIn wsX6_as (wsV RX6 54 RX6 yX6_isGrave wsX6_isGrave) := goodIn_app (goodIn_of _ (by decide +kernel)) ggX6_as_X6_isGrave
set_option maxRecDepth 20000 in
theorem ggX6_as_X6_within : GoodIn wsX6_as wsX6_within := goodIn_r _ [11] (by decide +kernel) (by decide +kernel)
set_option maxRecDepth 20000 in
theorem gX6_as_X6_within : GoodIn wsX6_as (va_wsS RX6 44 yX6_within wsX6_within) := goodIn_app (goodIn_of _ (by decide +kernel)) ggX6_as_X6_within
set_option maxRecDepth 20000 in
theorem ggX6_as_X6_finding : GoodIn wsX6_as wsX6_finding := goodIn_r _ [15, 16, 17, 18, 19, 20, 21, 22, 23, 24, 25, 26, 27, 28, 29, 30, 31, 32] (by decide +kernel) (by decide +kernel)
set_option maxRecDepth 20000 in
theorem gX6_as_X6_finding : GoodIn wsX6_as (wsV RX6 49 RX6 yX6_finding wsX6_finding) := goodIn_app (goodIn_of _ (by decide +kernel)) ggX6_as_X6_finding
theorem dX6_as_0 : decode cX6_as 0 = .ok (.aload_n 0, 1) := by decide +kernel
theorem dX6_as_1 : decode cX6_as 1 = .ok (.iload_n 1, 1) := by decide +kernel
theorem dX6_as_2 : decode cX6_as 2 = .ok (.invokevirtual 54, 3) := by decide +kernel
theorem dX6_as_5 : decode cX6_as 5 = .ok (.ifCond .eq 12, 3) := by decide +kernel
theorem dX6_as_8 : decode cX6_as 8 = .ok (.iload_n 2, 1) := by decide +kernel
theorem dX6_as_9 : decode cX6_as 9 = .ok (.iconst 0, 1) := by decide +kernel
theorem dX6_as_10 : decode cX6_as 10 = .ok (.iconst 3, 1) := by decide +kernel
theorem dX6_as_11 : decode cX6_as 11 = .ok (.invokestatic 44, 3) := by decide +kernel
theorem dX6_as_14 : decode cX6_as 14 = .ok (.ifCond .ne 10, 3) := by decide +kernel
theorem dX6_as_17 : decode cX6_as 17 = .ok (.aload_n 0, 1) := by decide +kernel
theorem dX6_as_18 : decode cX6_as 18 = .ok (.ldc 48, 2) := by decide +kernel
theorem dX6_as_20 : decode cX6_as 20 = .ok (.invokevirtual 49, 3) := by decide +kernel
theorem dX6_as_23 : decode cX6_as 23 = .ok (.ireturn, 1) := by decide +kernel
theorem dX6_as_24 : decode cX6_as 24 = .ok (.aload_n 0, 1) := by decide +kernel
theorem dX6_as_25 : decode cX6_as 25 = .ok (.getfield 9, 3) := by decide +kernel
theorem dX6_as_28 : decode cX6_as 28 = .ok (.iconst 2, 1) := by decide +kernel
theorem dX6_as_29 : decode cX6_as 29 = .ok (.iload_n 1, 1) := by decide +kernel
theorem dX6_as_30 : decode cX6_as 30 = .ok (.iadd, 1) := by decide +kernel
theorem dX6_as_31 : decode cX6_as 31 = .ok (.iaload, 1) := by decide +kernel
theorem dX6_as_32 : decode cX6_as 32 = .ok (.istore_n 3, 1) := by decide +kernel
theorem dX6_as_33 : decode cX6_as 33 = .ok (.iload_n 2, 1) := by decide +kernel
theorem dX6_as_34 : decode cX6_as 34 = .ok (.ifCond .eq 18, 3) := by decide +kernel
theorem dX6_as_37 : decode cX6_as 37 = .ok (.iload_n 3, 1) := by decide +kernel
theorem dX6_as_38 : decode cX6_as 38 = .ok (.iload_n 2, 1) := by decide +kernel
theorem dX6_as_39 : decode cX6_as 39 = .ok (.if_icmp .eq 13, 3) := by decide +kernel
theorem dX6_as_42 : decode cX6_as 42 = .ok (.iload_n 2, 1) := by decide +kernel
theorem dX6_as_43 : decode cX6_as 43 = .ok (.iconst 1, 1) := by decide +kernel
theorem dX6_as_44 : decode cX6_as 44 = .ok (.if_icmp .ne 12, 3) := by decide +kernel
theorem dX6_as_47 : decode cX6_as 47 = .ok (.iload_n 3, 1) := by decide +kernel
theorem dX6_as_48 : decode cX6_as 48 = .ok (.iconst 3, 1) := by decide +kernel
theorem dX6_as_49 : decode cX6_as 49 = .ok (.if_icmp .ne 7, 3) := by decide +kernel
theorem dX6_as_52 : decode cX6_as 52 = .ok (.iload_n 1, 1) := by decide +kernel
theorem dX6_as_53 : decode cX6_as 53 = .ok (.goto 9, 3) := by decide +kernel
theorem dX6_as_56 : decode cX6_as 56 = .ok (.aload_n 0, 1) := by decide +kernel
theorem dX6_as_57 : decode cX6_as 57 = .ok (.ldc 58, 2) := by decide +kernel
theorem dX6_as_59 : decode cX6_as 59 = .ok (.invokevirtual 49, 3) := by decide +kernel
theorem dX6_as_62 : decode cX6_as 62 = .ok (.ireturn, 1) := by decide +kernel
set_option maxRecDepth 20000 in
theorem ggX6_goods_X6_isGrave : GoodIn wsX6_goods wsX6_isGrave := goodIn_r _ [7, 2, 8, 9, 6, 10, 16, 17, 18, 19, 20, 21, 22, 23, 24, 25, 26, 27, 28, 29, 30, 31] (by decide +kernel) (by decide +kernel)
set_option maxRecDepth 20000 in
theorem gX6_goods_X6_isGrave : GoodIn wsX6_goods (wsV RX6 54 RX6 yX6_isGrave wsX6_isGrave) := goodIn_app (goodIn_of _ (by decide +kernel)) ggX6_goods_X6_isGrave
set_option maxRecDepth 20000 in
theorem ggX6_goods_X6_within : GoodIn wsX6_goods wsX6_within := goodIn_r _ [10] (by decide +kernel) (by decide +kernel)
set_option maxRecDepth 20000 in
theorem gX6_goods_X6_within : GoodIn wsX6_goods (va_wsS RX6 44 yX6_within wsX6_within) := goodIn_app (goodIn_of _ (by decide +kernel)) ggX6_goods_X6_within
set_option maxRecDepth 20000 in
theorem ggX6_goods_X6_finding : GoodIn wsX6_goods wsX6_finding := goodIn_r _ [14, 15, 16, 17, 18, 19, 20, 21, 22, 23, 24, 25, 26, 27, 28, 29, 30, 31] (by decide +kernel) (by decide +kernel)
set_option maxRecDepth 20000 in
theorem gX6_goods_X6_finding : GoodIn wsX6_goods (wsV RX6 49 RX6 yX6_finding wsX6_finding) := goodIn_app (goodIn_of _ (by decide +kernel)) ggX6_goods_X6_finding
theorem dX6_goods_0 : decode cX6_goods 0 = .ok (.aload_n 0, 1) := by decide +kernel
theorem dX6_goods_1 : decode cX6_goods 1 = .ok (.iload_n 1, 1) := by decide +kernel
theorem dX6_goods_2 : decode cX6_goods 2 = .ok (.invokevirtual 54, 3) := by decide +kernel
theorem dX6_goods_5 : decode cX6_goods 5 = .ok (.ifCond .eq 14, 3) := by decide +kernel
theorem dX6_goods_8 : decode cX6_goods 8 = .ok (.iload_n 2, 1) := by decide +kernel
theorem dX6_goods_9 : decode cX6_goods 9 = .ok (.iconst 0, 1) := by decide +kernel
theorem dX6_goods_10 : decode cX6_goods 10 = .ok (.sipush 4095, 3) := by decide +kernel
theorem dX6_goods_13 : decode cX6_goods 13 = .ok (.invokestatic 44, 3) := by decide +kernel
theorem dX6_goods_16 : decode cX6_goods 16 = .ok (.ifCond .ne 10, 3) := by decide +kernel
theorem dX6_goods_19 : decode cX6_goods 19 = .ok (.aload_n 0, 1) := by decide +kernel
theorem dX6_goods_20 : decode cX6_goods 20 = .ok (.ldc 48, 2) := by decide +kernel
theorem dX6_goods_22 : decode cX6_goods 22 = .ok (.invokevirtual 49, 3) := by decide +kernel
theorem dX6_goods_25 : decode cX6_goods 25 = .ok (.ireturn, 1) := by decide +kernel
theorem dX6_goods_26 : decode cX6_goods 26 = .ok (.aload_n 0, 1) := by decide +kernel
theorem dX6_goods_27 : decode cX6_goods 27 = .ok (.getfield 9, 3) := by decide +kernel
theorem dX6_goods_30 : decode cX6_goods 30 = .ok (.bipush 32, 2) := by decide +kernel
theorem dX6_goods_32 : decode cX6_goods 32 = .ok (.iload_n 1, 1) := by decide +kernel
theorem dX6_goods_33 : decode cX6_goods 33 = .ok (.iadd, 1) := by decide +kernel
theorem dX6_goods_34 : decode cX6_goods 34 = .ok (.iaload, 1) := by decide +kernel
theorem dX6_goods_35 : decode cX6_goods 35 = .ok (.istore_n 3, 1) := by decide +kernel
theorem dX6_goods_36 : decode cX6_goods 36 = .ok (.aload_n 0, 1) := by decide +kernel
theorem dX6_goods_37 : decode cX6_goods 37 = .ok (.getfield 9, 3) := by decide +kernel
theorem dX6_goods_40 : decode cX6_goods 40 = .ok (.bipush 32, 2) := by decide +kernel
theorem dX6_goods_42 : decode cX6_goods 42 = .ok (.iload_n 1, 1) := by decide +kernel
theorem dX6_goods_43 : decode cX6_goods 43 = .ok (.iadd, 1) := by decide +kernel
theorem dX6_goods_44 : decode cX6_goods 44 = .ok (.iload_n 2, 1) := by decide +kernel
theorem dX6_goods_45 : decode cX6_goods 45 = .ok (.iastore, 1) := by decide +kernel
theorem dX6_goods_46 : decode cX6_goods 46 = .ok (.iload_n 3, 1) := by decide +kernel
theorem dX6_goods_47 : decode cX6_goods 47 = .ok (.ireturn, 1) := by decide +kernel
theorem dX6_doesCut_0 : decode cX6_doesCut 0 = .ok (.aload_n 0, 1) := by decide +kernel
theorem dX6_doesCut_1 : decode cX6_doesCut 1 = .ok (.getfield 9, 3) := by decide +kernel
theorem dX6_doesCut_4 : decode cX6_doesCut 4 = .ok (.bipush 62, 2) := by decide +kernel
theorem dX6_doesCut_6 : decode cX6_doesCut 6 = .ok (.iload_n 1, 1) := by decide +kernel
theorem dX6_doesCut_7 : decode cX6_doesCut 7 = .ok (.iadd, 1) := by decide +kernel
theorem dX6_doesCut_8 : decode cX6_doesCut 8 = .ok (.iaload, 1) := by decide +kernel
theorem dX6_doesCut_9 : decode cX6_doesCut 9 = .ok (.iload_n 2, 1) := by decide +kernel
theorem dX6_doesCut_10 : decode cX6_doesCut 10 = .ok (.ishr, 1) := by decide +kernel
theorem dX6_doesCut_11 : decode cX6_doesCut 11 = .ok (.iconst 1, 1) := by decide +kernel
theorem dX6_doesCut_12 : decode cX6_doesCut 12 = .ok (.iand, 1) := by decide +kernel
theorem dX6_doesCut_13 : decode cX6_doesCut 13 = .ok (.iconst 1, 1) := by decide +kernel
theorem dX6_doesCut_14 : decode cX6_doesCut 14 = .ok (.if_icmp .ne 7, 3) := by decide +kernel
theorem dX6_doesCut_17 : decode cX6_doesCut 17 = .ok (.iconst 1, 1) := by decide +kernel
theorem dX6_doesCut_18 : decode cX6_doesCut 18 = .ok (.goto 4, 3) := by decide +kernel
theorem dX6_doesCut_21 : decode cX6_doesCut 21 = .ok (.iconst 0, 1) := by decide +kernel
theorem dX6_doesCut_22 : decode cX6_doesCut 22 = .ok (.ireturn, 1) := by decide +kernel
set_option maxRecDepth 20000 in
theorem ggX6_cutBy_X6_doesCut : GoodIn wsX6_cutBy wsX6_doesCut := goodIn_r _ [6, 1, 7, 8, 9, 10, 11, 12, 13, 14, 15, 16, 17, 18, 19, 20, 21, 22] (by decide +kernel) (by decide +kernel)
set_option maxRecDepth 20000 in
theorem gX6_cutBy_X6_doesCut : GoodIn wsX6_cutBy (wsV RX6 59 RX6 yX6_doesCut wsX6_doesCut) := goodIn_app (goodIn_of _ (by decide +kernel)) ggX6_cutBy_X6_doesCut
theorem dX6_cutBy_0 : decode cX6_cutBy 0 = .ok (.iconst 0, 1) := by decide +kernel
theorem dX6_cutBy_1 : decode cX6_cutBy 1 = .ok (.istore_n 2, 1) := by decide +kernel
theorem dX6_cutBy_2 : decode cX6_cutBy 2 = .ok (.iconst 0, 1) := by decide +kernel
theorem dX6_cutBy_3 : decode cX6_cutBy 3 = .ok (.istore_n 3, 1) := by decide +kernel
theorem dX6_cutBy_4 : decode cX6_cutBy 4 = .ok (.iload_n 3, 1) := by decide +kernel
theorem dX6_cutBy_5 : decode cX6_cutBy 5 = .ok (.aload_n 0, 1) := by decide +kernel
theorem dX6_cutBy_6 : decode cX6_cutBy 6 = .ok (.getfield 9, 3) := by decide +kernel
theorem dX6_cutBy_9 : decode cX6_cutBy 9 = .ok (.iconst 0, 1) := by decide +kernel
theorem dX6_cutBy_10 : decode cX6_cutBy 10 = .ok (.iaload, 1) := by decide +kernel
theorem dX6_cutBy_11 : decode cX6_cutBy 11 = .ok (.if_icmp .ge 26, 3) := by decide +kernel
theorem dX6_cutBy_14 : decode cX6_cutBy 14 = .ok (.iload_n 2, 1) := by decide +kernel
theorem dX6_cutBy_15 : decode cX6_cutBy 15 = .ok (.aload_n 0, 1) := by decide +kernel
theorem dX6_cutBy_16 : decode cX6_cutBy 16 = .ok (.iload_n 3, 1) := by decide +kernel
theorem dX6_cutBy_17 : decode cX6_cutBy 17 = .ok (.iload_n 1, 1) := by decide +kernel
theorem dX6_cutBy_18 : decode cX6_cutBy 18 = .ok (.invokevirtual 59, 3) := by decide +kernel
theorem dX6_cutBy_21 : decode cX6_cutBy 21 = .ok (.ifCond .eq 7, 3) := by decide +kernel
theorem dX6_cutBy_24 : decode cX6_cutBy 24 = .ok (.iconst 1, 1) := by decide +kernel
theorem dX6_cutBy_25 : decode cX6_cutBy 25 = .ok (.goto 4, 3) := by decide +kernel
theorem dX6_cutBy_28 : decode cX6_cutBy 28 = .ok (.iconst 0, 1) := by decide +kernel
theorem dX6_cutBy_29 : decode cX6_cutBy 29 = .ok (.iadd, 1) := by decide +kernel
theorem dX6_cutBy_30 : decode cX6_cutBy 30 = .ok (.istore_n 2, 1) := by decide +kernel
theorem dX6_cutBy_31 : decode cX6_cutBy 31 = .ok (.iinc 3 1, 3) := by decide +kernel
theorem dX6_cutBy_34 : decode cX6_cutBy 34 = .ok (.goto (-30), 3) := by decide +kernel
theorem dX6_cutBy_37 : decode cX6_cutBy 37 = .ok (.iload_n 2, 1) := by decide +kernel
theorem dX6_cutBy_38 : decode cX6_cutBy 38 = .ok (.ireturn, 1) := by decide +kernel
set_option maxRecDepth 20000 in
theorem ggX6_of_X6_isGrave : GoodIn wsX6_of wsX6_isGrave := goodIn_r _ [7, 2, 8, 9, 6, 10, 27, 28, 29, 30, 31, 32, 33, 34, 35, 36, 37, 38, 39, 40, 41, 42] (by decide +kernel) (by decide +kernel)
set_option maxRecDepth 20000 in
theorem gX6_of_X6_isGrave : GoodIn wsX6_of (wsV RX6 54 RX6 yX6_isGrave wsX6_isGrave) := goodIn_app (goodIn_of _ (by decide +kernel)) ggX6_of_X6_isGrave
set_option maxRecDepth 20000 in
theorem ggX6_of_X6_within : GoodIn wsX6_of wsX6_within := goodIn_r _ [10] (by decide +kernel) (by decide +kernel)
set_option maxRecDepth 20000 in
theorem gX6_of_X6_within : GoodIn wsX6_of (va_wsS RX6 44 yX6_within wsX6_within) := goodIn_app (goodIn_of _ (by decide +kernel)) ggX6_of_X6_within
set_option maxRecDepth 20000 in
theorem ggX6_of_X6_finding : GoodIn wsX6_of wsX6_finding := goodIn_r _ [14, 15, 27, 28, 29, 30, 31, 32, 33, 34, 35, 36, 37, 38, 39, 40, 41, 42] (by decide +kernel) (by decide +kernel)
set_option maxRecDepth 20000 in
theorem gX6_of_X6_finding : GoodIn wsX6_of (wsV RX6 49 RX6 yX6_finding wsX6_finding) := goodIn_app (goodIn_of _ (by decide +kernel)) ggX6_of_X6_finding
set_option maxRecDepth 20000 in
theorem ggX6_of_X6_many : GoodIn wsX6_of wsX6_many := goodIn_r _ [18] (by decide +kernel) (by decide +kernel)
set_option maxRecDepth 20000 in
theorem gX6_of_X6_many : GoodIn wsX6_of (va_wsS RX6 63 yX6_many wsX6_many) := goodIn_app (goodIn_of _ (by decide +kernel)) ggX6_of_X6_many
set_option maxRecDepth 20000 in
theorem ggX6_of_X6_cutBy : GoodIn wsX6_of wsX6_cutBy := goodIn_r _ [22, 2, 23, 24, 25, 6, 26, 27, 28, 29, 30, 31, 32, 33, 34, 35, 36, 37, 38, 39, 40, 41, 42] (by decide +kernel) (by decide +kernel)
set_option maxRecDepth 20000 in
theorem gX6_of_X6_cutBy : GoodIn wsX6_of (wsV RX6 66 RX6 yX6_cutBy wsX6_cutBy) := goodIn_app (goodIn_of _ (by decide +kernel)) ggX6_of_X6_cutBy
theorem dX6_of_0 : decode cX6_of 0 = .ok (.aload_n 0, 1) := by decide +kernel
theorem dX6_of_1 : decode cX6_of 1 = .ok (.iload_n 1, 1) := by decide +kernel
theorem dX6_of_2 : decode cX6_of 2 = .ok (.invokevirtual 54, 3) := by decide +kernel
theorem dX6_of_5 : decode cX6_of 5 = .ok (.ifCond .eq 13, 3) := by decide +kernel
theorem dX6_of_8 : decode cX6_of 8 = .ok (.iload_n 2, 1) := by decide +kernel
theorem dX6_of_9 : decode cX6_of 9 = .ok (.iconst 0, 1) := by decide +kernel
theorem dX6_of_10 : decode cX6_of 10 = .ok (.bipush 7, 2) := by decide +kernel
theorem dX6_of_12 : decode cX6_of 12 = .ok (.invokestatic 44, 3) := by decide +kernel
theorem dX6_of_15 : decode cX6_of 15 = .ok (.ifCond .ne 10, 3) := by decide +kernel
theorem dX6_of_18 : decode cX6_of 18 = .ok (.aload_n 0, 1) := by decide +kernel
theorem dX6_of_19 : decode cX6_of 19 = .ok (.ldc 48, 2) := by decide +kernel
theorem dX6_of_21 : decode cX6_of 21 = .ok (.invokevirtual 49, 3) := by decide +kernel
theorem dX6_of_24 : decode cX6_of 24 = .ok (.ireturn, 1) := by decide +kernel
theorem dX6_of_25 : decode cX6_of 25 = .ok (.iload_n 2, 1) := by decide +kernel
theorem dX6_of_26 : decode cX6_of 26 = .ok (.bipush 6, 2) := by decide +kernel
theorem dX6_of_28 : decode cX6_of 28 = .ok (.if_icmp .ge 19, 3) := by decide +kernel
theorem dX6_of_31 : decode cX6_of 31 = .ok (.aload_n 0, 1) := by decide +kernel
theorem dX6_of_32 : decode cX6_of 32 = .ok (.getfield 9, 3) := by decide +kernel
theorem dX6_of_35 : decode cX6_of 35 = .ok (.iconst 2, 1) := by decide +kernel
theorem dX6_of_36 : decode cX6_of 36 = .ok (.bipush 10, 2) := by decide +kernel
theorem dX6_of_38 : decode cX6_of 38 = .ok (.iload_n 2, 1) := by decide +kernel
theorem dX6_of_39 : decode cX6_of 39 = .ok (.imul, 1) := by decide +kernel
theorem dX6_of_40 : decode cX6_of 40 = .ok (.iadd, 1) := by decide +kernel
theorem dX6_of_41 : decode cX6_of 41 = .ok (.iload_n 1, 1) := by decide +kernel
theorem dX6_of_42 : decode cX6_of 42 = .ok (.iadd, 1) := by decide +kernel
theorem dX6_of_43 : decode cX6_of 43 = .ok (.iaload, 1) := by decide +kernel
theorem dX6_of_44 : decode cX6_of 44 = .ok (.goto 29, 3) := by decide +kernel
theorem dX6_of_47 : decode cX6_of 47 = .ok (.iload_n 2, 1) := by decide +kernel
theorem dX6_of_48 : decode cX6_of 48 = .ok (.bipush 6, 2) := by decide +kernel
theorem dX6_of_50 : decode cX6_of 50 = .ok (.if_icmp .ne 18, 3) := by decide +kernel
theorem dX6_of_53 : decode cX6_of 53 = .ok (.aload_n 0, 1) := by decide +kernel
theorem dX6_of_54 : decode cX6_of 54 = .ok (.getfield 9, 3) := by decide +kernel
theorem dX6_of_57 : decode cX6_of 57 = .ok (.bipush 62, 2) := by decide +kernel
theorem dX6_of_59 : decode cX6_of 59 = .ok (.iload_n 1, 1) := by decide +kernel
theorem dX6_of_60 : decode cX6_of 60 = .ok (.iadd, 1) := by decide +kernel
theorem dX6_of_61 : decode cX6_of 61 = .ok (.iaload, 1) := by decide +kernel
theorem dX6_of_62 : decode cX6_of 62 = .ok (.invokestatic 63, 3) := by decide +kernel
theorem dX6_of_65 : decode cX6_of 65 = .ok (.goto 8, 3) := by decide +kernel
theorem dX6_of_68 : decode cX6_of 68 = .ok (.aload_n 0, 1) := by decide +kernel
theorem dX6_of_69 : decode cX6_of 69 = .ok (.iload_n 1, 1) := by decide +kernel
theorem dX6_of_70 : decode cX6_of 70 = .ok (.invokevirtual 66, 3) := by decide +kernel
theorem dX6_of_73 : decode cX6_of 73 = .ok (.ireturn, 1) := by decide +kernel
set_option maxRecDepth 20000 in
theorem ggX6_isYear_X6_within : GoodIn wsX6_isYear wsX6_within := goodIn_r _ [4] (by decide +kernel) (by decide +kernel)
set_option maxRecDepth 20000 in
theorem gX6_isYear_X6_within : GoodIn wsX6_isYear (va_wsS RX6 44 yX6_within wsX6_within) := goodIn_app (goodIn_of _ (by decide +kernel)) ggX6_isYear_X6_within
theorem dX6_isYear_0 : decode cX6_isYear 0 = .ok (.iload_n 0, 1) := by decide +kernel
theorem dX6_isYear_1 : decode cX6_isYear 1 = .ok (.sipush (-5000), 3) := by decide +kernel
theorem dX6_isYear_4 : decode cX6_isYear 4 = .ok (.sipush 5000, 3) := by decide +kernel
theorem dX6_isYear_7 : decode cX6_isYear 7 = .ok (.invokestatic 44, 3) := by decide +kernel
theorem dX6_isYear_10 : decode cX6_isYear 10 = .ok (.ireturn, 1) := by decide +kernel
set_option maxRecDepth 20000 in
theorem ggX6_span_X6_isGrave : GoodIn wsX6_span wsX6_isGrave := goodIn_r _ [8, 3, 9, 10, 7, 11, 20, 21, 22, 23, 24, 25, 26, 27, 28, 29, 30, 31, 32, 33, 34, 35] (by decide +kernel) (by decide +kernel)
set_option maxRecDepth 20000 in
theorem gX6_span_X6_isGrave : GoodIn wsX6_span (wsV RX6 54 RX6 yX6_isGrave wsX6_isGrave) := goodIn_app (goodIn_of _ (by decide +kernel)) ggX6_span_X6_isGrave
set_option maxRecDepth 20000 in
theorem ggX6_span_X6_isYear : GoodIn wsX6_span wsX6_isYear := goodIn_r _ [14, 9, 10, 7, 11] (by decide +kernel) (by decide +kernel)
set_option maxRecDepth 20000 in
theorem gX6_span_X6_isYear : GoodIn wsX6_span (va_wsS RX6 69 yX6_isYear wsX6_isYear) := goodIn_app (goodIn_of _ (by decide +kernel)) ggX6_span_X6_isYear
set_option maxRecDepth 20000 in
theorem ggX6_span_X6_finding : GoodIn wsX6_span wsX6_finding := goodIn_r _ [18, 19, 20, 21, 22, 23, 24, 25, 26, 27, 28, 29, 30, 31, 32, 33, 34, 35] (by decide +kernel) (by decide +kernel)
set_option maxRecDepth 20000 in
theorem gX6_span_X6_finding : GoodIn wsX6_span (wsV RX6 49 RX6 yX6_finding wsX6_finding) := goodIn_app (goodIn_of _ (by decide +kernel)) ggX6_span_X6_finding
theorem dX6_span_0 : decode cX6_span 0 = .ok (.aload_n 0, 1) := by decide +kernel
theorem dX6_span_1 : decode cX6_span 1 = .ok (.iload_n 1, 1) := by decide +kernel
theorem dX6_span_2 : decode cX6_span 2 = .ok (.invokevirtual 54, 3) := by decide +kernel
theorem dX6_span_5 : decode cX6_span 5 = .ok (.ifCond .eq 17, 3) := by decide +kernel
theorem dX6_span_8 : decode cX6_span 8 = .ok (.iload_n 2, 1) := by decide +kernel
theorem dX6_span_9 : decode cX6_span 9 = .ok (.invokestatic 69, 3) := by decide +kernel
theorem dX6_span_12 : decode cX6_span 12 = .ok (.ifCond .eq 10, 3) := by decide +kernel
theorem dX6_span_15 : decode cX6_span 15 = .ok (.iload_n 3, 1) := by decide +kernel
theorem dX6_span_16 : decode cX6_span 16 = .ok (.invokestatic 69, 3) := by decide +kernel
theorem dX6_span_19 : decode cX6_span 19 = .ok (.ifCond .ne 10, 3) := by decide +kernel
theorem dX6_span_22 : decode cX6_span 22 = .ok (.aload_n 0, 1) := by decide +kernel
theorem dX6_span_23 : decode cX6_span 23 = .ok (.ldc 48, 2) := by decide +kernel
theorem dX6_span_25 : decode cX6_span 25 = .ok (.invokevirtual 49, 3) := by decide +kernel
theorem dX6_span_28 : decode cX6_span 28 = .ok (.ireturn, 1) := by decide +kernel
theorem dX6_span_29 : decode cX6_span 29 = .ok (.iload_n 2, 1) := by decide +kernel
theorem dX6_span_30 : decode cX6_span 30 = .ok (.iload_n 3, 1) := by decide +kernel
theorem dX6_span_31 : decode cX6_span 31 = .ok (.if_icmp .le 10, 3) := by decide +kernel
theorem dX6_span_34 : decode cX6_span 34 = .ok (.aload_n 0, 1) := by decide +kernel
theorem dX6_span_35 : decode cX6_span 35 = .ok (.ldc 72, 2) := by decide +kernel
theorem dX6_span_37 : decode cX6_span 37 = .ok (.invokevirtual 49, 3) := by decide +kernel
theorem dX6_span_40 : decode cX6_span 40 = .ok (.ireturn, 1) := by decide +kernel
theorem dX6_span_41 : decode cX6_span 41 = .ok (.aload_n 0, 1) := by decide +kernel
theorem dX6_span_42 : decode cX6_span 42 = .ok (.getfield 9, 3) := by decide +kernel
theorem dX6_span_45 : decode cX6_span 45 = .ok (.bipush 42, 2) := by decide +kernel
theorem dX6_span_47 : decode cX6_span 47 = .ok (.iload_n 1, 1) := by decide +kernel
theorem dX6_span_48 : decode cX6_span 48 = .ok (.iadd, 1) := by decide +kernel
theorem dX6_span_49 : decode cX6_span 49 = .ok (.iload_n 2, 1) := by decide +kernel
theorem dX6_span_50 : decode cX6_span 50 = .ok (.iastore, 1) := by decide +kernel
theorem dX6_span_51 : decode cX6_span 51 = .ok (.aload_n 0, 1) := by decide +kernel
theorem dX6_span_52 : decode cX6_span 52 = .ok (.getfield 9, 3) := by decide +kernel
theorem dX6_span_55 : decode cX6_span 55 = .ok (.bipush 52, 2) := by decide +kernel
theorem dX6_span_57 : decode cX6_span 57 = .ok (.iload_n 1, 1) := by decide +kernel
theorem dX6_span_58 : decode cX6_span 58 = .ok (.iadd, 1) := by decide +kernel
theorem dX6_span_59 : decode cX6_span 59 = .ok (.iload_n 3, 1) := by decide +kernel
theorem dX6_span_60 : decode cX6_span 60 = .ok (.iastore, 1) := by decide +kernel
theorem dX6_span_61 : decode cX6_span 61 = .ok (.iconst 1, 1) := by decide +kernel
theorem dX6_span_62 : decode cX6_span 62 = .ok (.ireturn, 1) := by decide +kernel
set_option maxRecDepth 20000 in
theorem ggX6_coin_X6_isGrave : GoodIn wsX6_coin wsX6_isGrave := goodIn_r _ [13, 2, 14, 15, 12, 16, 25, 26, 27, 28, 29, 30, 31, 32, 33, 34, 35, 36, 37, 38, 39, 40] (by decide +kernel) (by decide +kernel)
set_option maxRecDepth 20000 in
theorem gX6_coin_X6_isGrave : GoodIn wsX6_coin (wsV RX6 54 RX6 yX6_isGrave wsX6_isGrave) := goodIn_app (goodIn_of _ (by decide +kernel)) ggX6_coin_X6_isGrave
set_option maxRecDepth 20000 in
theorem ggX6_coin_X6_isYear : GoodIn wsX6_coin wsX6_isYear := goodIn_r _ [19, 14, 15, 12, 16] (by decide +kernel) (by decide +kernel)
set_option maxRecDepth 20000 in
theorem gX6_coin_X6_isYear : GoodIn wsX6_coin (va_wsS RX6 69 yX6_isYear wsX6_isYear) := goodIn_app (goodIn_of _ (by decide +kernel)) ggX6_coin_X6_isYear
set_option maxRecDepth 20000 in
theorem ggX6_coin_X6_finding : GoodIn wsX6_coin wsX6_finding := goodIn_r _ [23, 24, 25, 26, 27, 28, 29, 30, 31, 32, 33, 34, 35, 36, 37, 38, 39, 40] (by decide +kernel) (by decide +kernel)
set_option maxRecDepth 20000 in
theorem gX6_coin_X6_finding : GoodIn wsX6_coin (wsV RX6 49 RX6 yX6_finding wsX6_finding) := goodIn_app (goodIn_of _ (by decide +kernel)) ggX6_coin_X6_finding
theorem dX6_coin_0 : decode cX6_coin 0 = .ok (.aload_n 0, 1) := by decide +kernel
theorem dX6_coin_1 : decode cX6_coin 1 = .ok (.iload_n 1, 1) := by decide +kernel
theorem dX6_coin_2 : decode cX6_coin 2 = .ok (.invokevirtual 54, 3) := by decide +kernel
theorem dX6_coin_5 : decode cX6_coin 5 = .ok (.ifCond .eq 10, 3) := by decide +kernel
theorem dX6_coin_8 : decode cX6_coin 8 = .ok (.iload_n 2, 1) := by decide +kernel
theorem dX6_coin_9 : decode cX6_coin 9 = .ok (.invokestatic 69, 3) := by decide +kernel
theorem dX6_coin_12 : decode cX6_coin 12 = .ok (.ifCond .ne 10, 3) := by decide +kernel
theorem dX6_coin_15 : decode cX6_coin 15 = .ok (.aload_n 0, 1) := by decide +kernel
theorem dX6_coin_16 : decode cX6_coin 16 = .ok (.ldc 48, 2) := by decide +kernel
theorem dX6_coin_18 : decode cX6_coin 18 = .ok (.invokevirtual 49, 3) := by decide +kernel
theorem dX6_coin_21 : decode cX6_coin 21 = .ok (.ireturn, 1) := by decide +kernel
theorem dX6_coin_22 : decode cX6_coin 22 = .ok (.aload_n 0, 1) := by decide +kernel
theorem dX6_coin_23 : decode cX6_coin 23 = .ok (.getfield 9, 3) := by decide +kernel
theorem dX6_coin_26 : decode cX6_coin 26 = .ok (.iconst 2, 1) := by decide +kernel
theorem dX6_coin_27 : decode cX6_coin 27 = .ok (.iload_n 1, 1) := by decide +kernel
theorem dX6_coin_28 : decode cX6_coin 28 = .ok (.iadd, 1) := by decide +kernel
theorem dX6_coin_29 : decode cX6_coin 29 = .ok (.iaload, 1) := by decide +kernel
theorem dX6_coin_30 : decode cX6_coin 30 = .ok (.iconst 3, 1) := by decide +kernel
theorem dX6_coin_31 : decode cX6_coin 31 = .ok (.if_icmp .eq 10, 3) := by decide +kernel
theorem dX6_coin_34 : decode cX6_coin 34 = .ok (.aload_n 0, 1) := by decide +kernel
theorem dX6_coin_35 : decode cX6_coin 35 = .ok (.ldc 58, 2) := by decide +kernel
theorem dX6_coin_37 : decode cX6_coin 37 = .ok (.invokevirtual 49, 3) := by decide +kernel
theorem dX6_coin_40 : decode cX6_coin 40 = .ok (.ireturn, 1) := by decide +kernel
theorem dX6_coin_41 : decode cX6_coin 41 = .ok (.iload_n 2, 1) := by decide +kernel
theorem dX6_coin_42 : decode cX6_coin 42 = .ok (.aload_n 0, 1) := by decide +kernel
theorem dX6_coin_43 : decode cX6_coin 43 = .ok (.getfield 9, 3) := by decide +kernel
theorem dX6_coin_46 : decode cX6_coin 46 = .ok (.bipush 52, 2) := by decide +kernel
theorem dX6_coin_48 : decode cX6_coin 48 = .ok (.iload_n 1, 1) := by decide +kernel
theorem dX6_coin_49 : decode cX6_coin 49 = .ok (.iadd, 1) := by decide +kernel
theorem dX6_coin_50 : decode cX6_coin 50 = .ok (.iaload, 1) := by decide +kernel
theorem dX6_coin_51 : decode cX6_coin 51 = .ok (.if_icmp .le 10, 3) := by decide +kernel
theorem dX6_coin_54 : decode cX6_coin 54 = .ok (.aload_n 0, 1) := by decide +kernel
theorem dX6_coin_55 : decode cX6_coin 55 = .ok (.ldc 72, 2) := by decide +kernel
theorem dX6_coin_57 : decode cX6_coin 57 = .ok (.invokevirtual 49, 3) := by decide +kernel
theorem dX6_coin_60 : decode cX6_coin 60 = .ok (.ireturn, 1) := by decide +kernel
theorem dX6_coin_61 : decode cX6_coin 61 = .ok (.aload_n 0, 1) := by decide +kernel
theorem dX6_coin_62 : decode cX6_coin 62 = .ok (.getfield 9, 3) := by decide +kernel
theorem dX6_coin_65 : decode cX6_coin 65 = .ok (.bipush 42, 2) := by decide +kernel
theorem dX6_coin_67 : decode cX6_coin 67 = .ok (.iload_n 1, 1) := by decide +kernel
theorem dX6_coin_68 : decode cX6_coin 68 = .ok (.iadd, 1) := by decide +kernel
theorem dX6_coin_69 : decode cX6_coin 69 = .ok (.aload_n 0, 1) := by decide +kernel
theorem dX6_coin_70 : decode cX6_coin 70 = .ok (.getfield 9, 3) := by decide +kernel
theorem dX6_coin_73 : decode cX6_coin 73 = .ok (.bipush 42, 2) := by decide +kernel
theorem dX6_coin_75 : decode cX6_coin 75 = .ok (.iload_n 1, 1) := by decide +kernel
theorem dX6_coin_76 : decode cX6_coin 76 = .ok (.iadd, 1) := by decide +kernel
theorem dX6_coin_77 : decode cX6_coin 77 = .ok (.iaload, 1) := by decide +kernel
theorem dX6_coin_78 : decode cX6_coin 78 = .ok (.iload_n 2, 1) := by decide +kernel
theorem dX6_coin_79 : decode cX6_coin 79 = .ok (.invokestatic 73, 3) := by decide +kernel
theorem dX6_coin_82 : decode cX6_coin 82 = .ok (.iastore, 1) := by decide +kernel
theorem dX6_coin_83 : decode cX6_coin 83 = .ok (.aload_n 0, 1) := by decide +kernel
theorem dX6_coin_84 : decode cX6_coin 84 = .ok (.getfield 9, 3) := by decide +kernel
theorem dX6_coin_87 : decode cX6_coin 87 = .ok (.bipush 42, 2) := by decide +kernel
theorem dX6_coin_89 : decode cX6_coin 89 = .ok (.iload_n 1, 1) := by decide +kernel
theorem dX6_coin_90 : decode cX6_coin 90 = .ok (.iadd, 1) := by decide +kernel
theorem dX6_coin_91 : decode cX6_coin 91 = .ok (.iaload, 1) := by decide +kernel
theorem dX6_coin_92 : decode cX6_coin 92 = .ok (.ireturn, 1) := by decide +kernel
theorem dX6_below_0 : decode cX6_below 0 = .ok (.aload_n 0, 1) := by decide +kernel
theorem dX6_below_1 : decode cX6_below 1 = .ok (.getfield 9, 3) := by decide +kernel
theorem dX6_below_4 : decode cX6_below 4 = .ok (.bipush 62, 2) := by decide +kernel
theorem dX6_below_6 : decode cX6_below 6 = .ok (.iload_n 1, 1) := by decide +kernel
theorem dX6_below_7 : decode cX6_below 7 = .ok (.iadd, 1) := by decide +kernel
theorem dX6_below_8 : decode cX6_below 8 = .ok (.iaload, 1) := by decide +kernel
theorem dX6_below_9 : decode cX6_below 9 = .ok (.istore_n 2, 1) := by decide +kernel
theorem dX6_below_10 : decode cX6_below 10 = .ok (.iconst (-1), 1) := by decide +kernel
theorem dX6_below_11 : decode cX6_below 11 = .ok (.istore_n 3, 1) := by decide +kernel
theorem dX6_below_12 : decode cX6_below 12 = .ok (.iload_n 2, 1) := by decide +kernel
theorem dX6_below_13 : decode cX6_below 13 = .ok (.iload_n 3, 1) := by decide +kernel
theorem dX6_below_14 : decode cX6_below 14 = .ok (.if_icmp .eq 55, 3) := by decide +kernel
theorem dX6_below_17 : decode cX6_below 17 = .ok (.iload_n 2, 1) := by decide +kernel
theorem dX6_below_18 : decode cX6_below 18 = .ok (.istore_n 3, 1) := by decide +kernel
theorem dX6_below_19 : decode cX6_below 19 = .ok (.iconst 0, 1) := by decide +kernel
theorem dX6_below_20 : decode cX6_below 20 = .ok (.istore 4, 2) := by decide +kernel
theorem dX6_below_22 : decode cX6_below 22 = .ok (.iload 4, 2) := by decide +kernel
theorem dX6_below_24 : decode cX6_below 24 = .ok (.aload_n 0, 1) := by decide +kernel
theorem dX6_below_25 : decode cX6_below 25 = .ok (.getfield 9, 3) := by decide +kernel
theorem dX6_below_28 : decode cX6_below 28 = .ok (.iconst 0, 1) := by decide +kernel
theorem dX6_below_29 : decode cX6_below 29 = .ok (.iaload, 1) := by decide +kernel
theorem dX6_below_30 : decode cX6_below 30 = .ok (.if_icmp .ge 36, 3) := by decide +kernel
theorem dX6_below_33 : decode cX6_below 33 = .ok (.iload_n 2, 1) := by decide +kernel
theorem dX6_below_34 : decode cX6_below 34 = .ok (.iload_n 2, 1) := by decide +kernel
theorem dX6_below_35 : decode cX6_below 35 = .ok (.iload 4, 2) := by decide +kernel
theorem dX6_below_37 : decode cX6_below 37 = .ok (.ishr, 1) := by decide +kernel
theorem dX6_below_38 : decode cX6_below 38 = .ok (.iconst 1, 1) := by decide +kernel
theorem dX6_below_39 : decode cX6_below 39 = .ok (.iand, 1) := by decide +kernel
theorem dX6_below_40 : decode cX6_below 40 = .ok (.iconst 1, 1) := by decide +kernel
theorem dX6_below_41 : decode cX6_below 41 = .ok (.if_icmp .ne 16, 3) := by decide +kernel
theorem dX6_below_44 : decode cX6_below 44 = .ok (.aload_n 0, 1) := by decide +kernel
theorem dX6_below_45 : decode cX6_below 45 = .ok (.getfield 9, 3) := by decide +kernel
theorem dX6_below_48 : decode cX6_below 48 = .ok (.bipush 62, 2) := by decide +kernel
theorem dX6_below_50 : decode cX6_below 50 = .ok (.iload 4, 2) := by decide +kernel
theorem dX6_below_52 : decode cX6_below 52 = .ok (.iadd, 1) := by decide +kernel
theorem dX6_below_53 : decode cX6_below 53 = .ok (.iaload, 1) := by decide +kernel
theorem dX6_below_54 : decode cX6_below 54 = .ok (.goto 4, 3) := by decide +kernel
theorem dX6_below_57 : decode cX6_below 57 = .ok (.iconst 0, 1) := by decide +kernel
theorem dX6_below_58 : decode cX6_below 58 = .ok (.ior, 1) := by decide +kernel
theorem dX6_below_59 : decode cX6_below 59 = .ok (.istore_n 2, 1) := by decide +kernel
theorem dX6_below_60 : decode cX6_below 60 = .ok (.iinc 4 1, 3) := by decide +kernel
theorem dX6_below_63 : decode cX6_below 63 = .ok (.goto (-41), 3) := by decide +kernel
theorem dX6_below_66 : decode cX6_below 66 = .ok (.goto (-54), 3) := by decide +kernel
theorem dX6_below_69 : decode cX6_below 69 = .ok (.iload_n 2, 1) := by decide +kernel
theorem dX6_below_70 : decode cX6_below 70 = .ok (.ireturn, 1) := by decide +kernel
set_option maxRecDepth 20000 in
theorem ggX6_cut_X6_isGrave : GoodIn wsX6_cut wsX6_isGrave := goodIn_r _ [9, 4, 10, 11, 8, 12, 26, 27, 28, 29, 30, 31, 32, 33, 34, 35, 36, 37, 38, 39, 40, 41] (by decide +kernel) (by decide +kernel)
set_option maxRecDepth 20000 in
theorem gX6_cut_X6_isGrave : GoodIn wsX6_cut (wsV RX6 54 RX6 yX6_isGrave wsX6_isGrave) := goodIn_app (goodIn_of _ (by decide +kernel)) ggX6_cut_X6_isGrave
set_option maxRecDepth 20000 in
theorem ggX6_cut_X6_finding : GoodIn wsX6_cut wsX6_finding := goodIn_r _ [16, 17, 26, 27, 28, 29, 30, 31, 32, 33, 34, 35, 36, 37, 38, 39, 40, 41] (by decide +kernel) (by decide +kernel)
set_option maxRecDepth 20000 in
theorem gX6_cut_X6_finding : GoodIn wsX6_cut (wsV RX6 49 RX6 yX6_finding wsX6_finding) := goodIn_app (goodIn_of _ (by decide +kernel)) ggX6_cut_X6_finding
set_option maxRecDepth 20000 in
theorem ggX6_cut_X6_below : GoodIn wsX6_cut wsX6_below := goodIn_r _ [21, 4, 26, 27, 28, 29, 30, 31, 32, 33, 34, 35, 36, 37, 38, 39, 40, 41] (by decide +kernel) (by decide +kernel)
set_option maxRecDepth 20000 in
theorem gX6_cut_X6_below : GoodIn wsX6_cut (wsV RX6 79 RX6 yX6_below wsX6_below) := goodIn_app (goodIn_of _ (by decide +kernel)) ggX6_cut_X6_below
set_option maxRecDepth 20000 in
theorem ggX6_cut_X6_doesCut : GoodIn wsX6_cut wsX6_doesCut := goodIn_r _ [25, 4, 26, 27, 28, 29, 30, 31, 32, 33, 34, 35, 36, 37, 38, 39, 40, 41] (by decide +kernel) (by decide +kernel)
set_option maxRecDepth 20000 in
theorem gX6_cut_X6_doesCut : GoodIn wsX6_cut (wsV RX6 59 RX6 yX6_doesCut wsX6_doesCut) := goodIn_app (goodIn_of _ (by decide +kernel)) ggX6_cut_X6_doesCut
theorem dX6_cut_0 : decode cX6_cut 0 = .ok (.aload_n 0, 1) := by decide +kernel
theorem dX6_cut_1 : decode cX6_cut 1 = .ok (.iload_n 1, 1) := by decide +kernel
theorem dX6_cut_2 : decode cX6_cut 2 = .ok (.invokevirtual 54, 3) := by decide +kernel
theorem dX6_cut_5 : decode cX6_cut 5 = .ok (.ifCond .eq 11, 3) := by decide +kernel
theorem dX6_cut_8 : decode cX6_cut 8 = .ok (.aload_n 0, 1) := by decide +kernel
theorem dX6_cut_9 : decode cX6_cut 9 = .ok (.iload_n 2, 1) := by decide +kernel
theorem dX6_cut_10 : decode cX6_cut 10 = .ok (.invokevirtual 54, 3) := by decide +kernel
theorem dX6_cut_13 : decode cX6_cut 13 = .ok (.ifCond .ne 10, 3) := by decide +kernel
theorem dX6_cut_16 : decode cX6_cut 16 = .ok (.aload_n 0, 1) := by decide +kernel
theorem dX6_cut_17 : decode cX6_cut 17 = .ok (.ldc 48, 2) := by decide +kernel
theorem dX6_cut_19 : decode cX6_cut 19 = .ok (.invokevirtual 49, 3) := by decide +kernel
theorem dX6_cut_22 : decode cX6_cut 22 = .ok (.ireturn, 1) := by decide +kernel
theorem dX6_cut_23 : decode cX6_cut 23 = .ok (.iload_n 1, 1) := by decide +kernel
theorem dX6_cut_24 : decode cX6_cut 24 = .ok (.iload_n 2, 1) := by decide +kernel
theorem dX6_cut_25 : decode cX6_cut 25 = .ok (.if_icmp .ne 10, 3) := by decide +kernel
theorem dX6_cut_28 : decode cX6_cut 28 = .ok (.aload_n 0, 1) := by decide +kernel
theorem dX6_cut_29 : decode cX6_cut 29 = .ok (.ldc 72, 2) := by decide +kernel
theorem dX6_cut_31 : decode cX6_cut 31 = .ok (.invokevirtual 49, 3) := by decide +kernel
theorem dX6_cut_34 : decode cX6_cut 34 = .ok (.ireturn, 1) := by decide +kernel
theorem dX6_cut_35 : decode cX6_cut 35 = .ok (.iload_n 3, 1) := by decide +kernel
theorem dX6_cut_36 : decode cX6_cut 36 = .ok (.ifCond .eq 23, 3) := by decide +kernel
theorem dX6_cut_39 : decode cX6_cut 39 = .ok (.aload_n 0, 1) := by decide +kernel
theorem dX6_cut_40 : decode cX6_cut 40 = .ok (.iload_n 2, 1) := by decide +kernel
theorem dX6_cut_41 : decode cX6_cut 41 = .ok (.invokevirtual 79, 3) := by decide +kernel
theorem dX6_cut_44 : decode cX6_cut 44 = .ok (.iload_n 1, 1) := by decide +kernel
theorem dX6_cut_45 : decode cX6_cut 45 = .ok (.ishr, 1) := by decide +kernel
theorem dX6_cut_46 : decode cX6_cut 46 = .ok (.iconst 1, 1) := by decide +kernel
theorem dX6_cut_47 : decode cX6_cut 47 = .ok (.iand, 1) := by decide +kernel
theorem dX6_cut_48 : decode cX6_cut 48 = .ok (.iconst 1, 1) := by decide +kernel
theorem dX6_cut_49 : decode cX6_cut 49 = .ok (.if_icmp .ne 10, 3) := by decide +kernel
theorem dX6_cut_52 : decode cX6_cut 52 = .ok (.aload_n 0, 1) := by decide +kernel
theorem dX6_cut_53 : decode cX6_cut 53 = .ok (.ldc 82, 2) := by decide +kernel
theorem dX6_cut_55 : decode cX6_cut 55 = .ok (.invokevirtual 49, 3) := by decide +kernel
theorem dX6_cut_58 : decode cX6_cut 58 = .ok (.ireturn, 1) := by decide +kernel
theorem dX6_cut_59 : decode cX6_cut 59 = .ok (.aload_n 0, 1) := by decide +kernel
theorem dX6_cut_60 : decode cX6_cut 60 = .ok (.iload_n 1, 1) := by decide +kernel
theorem dX6_cut_61 : decode cX6_cut 61 = .ok (.iload_n 2, 1) := by decide +kernel
theorem dX6_cut_62 : decode cX6_cut 62 = .ok (.invokevirtual 59, 3) := by decide +kernel
theorem dX6_cut_65 : decode cX6_cut 65 = .ok (.istore 4, 2) := by decide +kernel
theorem dX6_cut_67 : decode cX6_cut 67 = .ok (.aload_n 0, 1) := by decide +kernel
theorem dX6_cut_68 : decode cX6_cut 68 = .ok (.getfield 9, 3) := by decide +kernel
theorem dX6_cut_71 : decode cX6_cut 71 = .ok (.bipush 62, 2) := by decide +kernel
theorem dX6_cut_73 : decode cX6_cut 73 = .ok (.iload_n 1, 1) := by decide +kernel
theorem dX6_cut_74 : decode cX6_cut 74 = .ok (.iadd, 1) := by decide +kernel
theorem dX6_cut_75 : decode cX6_cut 75 = .ok (.iload_n 3, 1) := by decide +kernel
theorem dX6_cut_76 : decode cX6_cut 76 = .ok (.ifCond .eq 19, 3) := by decide +kernel
theorem dX6_cut_79 : decode cX6_cut 79 = .ok (.aload_n 0, 1) := by decide +kernel
theorem dX6_cut_80 : decode cX6_cut 80 = .ok (.getfield 9, 3) := by decide +kernel
theorem dX6_cut_83 : decode cX6_cut 83 = .ok (.bipush 62, 2) := by decide +kernel
theorem dX6_cut_85 : decode cX6_cut 85 = .ok (.iload_n 1, 1) := by decide +kernel
theorem dX6_cut_86 : decode cX6_cut 86 = .ok (.iadd, 1) := by decide +kernel
theorem dX6_cut_87 : decode cX6_cut 87 = .ok (.iaload, 1) := by decide +kernel
theorem dX6_cut_88 : decode cX6_cut 88 = .ok (.iconst 1, 1) := by decide +kernel
theorem dX6_cut_89 : decode cX6_cut 89 = .ok (.iload_n 2, 1) := by decide +kernel
theorem dX6_cut_90 : decode cX6_cut 90 = .ok (.ishl, 1) := by decide +kernel
theorem dX6_cut_91 : decode cX6_cut 91 = .ok (.ior, 1) := by decide +kernel
theorem dX6_cut_92 : decode cX6_cut 92 = .ok (.goto 18, 3) := by decide +kernel
theorem dX6_cut_95 : decode cX6_cut 95 = .ok (.aload_n 0, 1) := by decide +kernel
theorem dX6_cut_96 : decode cX6_cut 96 = .ok (.getfield 9, 3) := by decide +kernel
theorem dX6_cut_99 : decode cX6_cut 99 = .ok (.bipush 62, 2) := by decide +kernel
theorem dX6_cut_101 : decode cX6_cut 101 = .ok (.iload_n 1, 1) := by decide +kernel
theorem dX6_cut_102 : decode cX6_cut 102 = .ok (.iadd, 1) := by decide +kernel
theorem dX6_cut_103 : decode cX6_cut 103 = .ok (.iaload, 1) := by decide +kernel
theorem dX6_cut_104 : decode cX6_cut 104 = .ok (.iconst 1, 1) := by decide +kernel
theorem dX6_cut_105 : decode cX6_cut 105 = .ok (.iload_n 2, 1) := by decide +kernel
theorem dX6_cut_106 : decode cX6_cut 106 = .ok (.ishl, 1) := by decide +kernel
theorem dX6_cut_107 : decode cX6_cut 107 = .ok (.iconst (-1), 1) := by decide +kernel
theorem dX6_cut_108 : decode cX6_cut 108 = .ok (.ixor, 1) := by decide +kernel
theorem dX6_cut_109 : decode cX6_cut 109 = .ok (.iand, 1) := by decide +kernel
theorem dX6_cut_110 : decode cX6_cut 110 = .ok (.iastore, 1) := by decide +kernel
theorem dX6_cut_111 : decode cX6_cut 111 = .ok (.iload 4, 2) := by decide +kernel
theorem dX6_cut_113 : decode cX6_cut 113 = .ok (.iload_n 3, 1) := by decide +kernel
theorem dX6_cut_114 : decode cX6_cut 114 = .ok (.if_icmp .ne 7, 3) := by decide +kernel
theorem dX6_cut_117 : decode cX6_cut 117 = .ok (.iconst 0, 1) := by decide +kernel
theorem dX6_cut_118 : decode cX6_cut 118 = .ok (.goto 4, 3) := by decide +kernel
theorem dX6_cut_121 : decode cX6_cut 121 = .ok (.iconst 1, 1) := by decide +kernel
theorem dX6_cut_122 : decode cX6_cut 122 = .ok (.ireturn, 1) := by decide +kernel
set_option maxRecDepth 20000 in
theorem ggX6_later_X6_isGrave : GoodIn wsX6_later wsX6_isGrave := goodIn_r _ [6, 7, 8, 9, 5, 10, 20, 21, 22, 23, 24, 25, 26, 27, 28, 29, 30, 31, 32, 33, 34, 35] (by decide +kernel) (by decide +kernel)
set_option maxRecDepth 20000 in
theorem gX6_later_X6_isGrave : GoodIn wsX6_later (wsV RX6 54 RX6 yX6_isGrave wsX6_isGrave) := goodIn_app (goodIn_of _ (by decide +kernel)) ggX6_later_X6_isGrave
set_option maxRecDepth 20000 in
theorem ggX6_later_X6_finding : GoodIn wsX6_later wsX6_finding := goodIn_r _ [14, 15, 20, 21, 22, 23, 24, 25, 26, 27, 28, 29, 30, 31, 32, 33, 34, 35] (by decide +kernel) (by decide +kernel)
set_option maxRecDepth 20000 in
theorem gX6_later_X6_finding : GoodIn wsX6_later (wsV RX6 49 RX6 yX6_finding wsX6_finding) := goodIn_app (goodIn_of _ (by decide +kernel)) ggX6_later_X6_finding
set_option maxRecDepth 20000 in
theorem ggX6_later_X6_below : GoodIn wsX6_later wsX6_below := goodIn_r _ [19, 7, 20, 21, 22, 23, 24, 25, 26, 27, 28, 29, 30, 31, 32, 33, 34, 35] (by decide +kernel) (by decide +kernel)
set_option maxRecDepth 20000 in
theorem gX6_later_X6_below : GoodIn wsX6_later (wsV RX6 79 RX6 yX6_below wsX6_below) := goodIn_app (goodIn_of _ (by decide +kernel)) ggX6_later_X6_below
theorem dX6_later_0 : decode cX6_later 0 = .ok (.aload_n 0, 1) := by decide +kernel
theorem dX6_later_1 : decode cX6_later 1 = .ok (.iload_n 1, 1) := by decide +kernel
theorem dX6_later_2 : decode cX6_later 2 = .ok (.invokevirtual 54, 3) := by decide +kernel
theorem dX6_later_5 : decode cX6_later 5 = .ok (.ifCond .eq 11, 3) := by decide +kernel
theorem dX6_later_8 : decode cX6_later 8 = .ok (.aload_n 0, 1) := by decide +kernel
theorem dX6_later_9 : decode cX6_later 9 = .ok (.iload_n 2, 1) := by decide +kernel
theorem dX6_later_10 : decode cX6_later 10 = .ok (.invokevirtual 54, 3) := by decide +kernel
theorem dX6_later_13 : decode cX6_later 13 = .ok (.ifCond .ne 10, 3) := by decide +kernel
theorem dX6_later_16 : decode cX6_later 16 = .ok (.aload_n 0, 1) := by decide +kernel
theorem dX6_later_17 : decode cX6_later 17 = .ok (.ldc 48, 2) := by decide +kernel
theorem dX6_later_19 : decode cX6_later 19 = .ok (.invokevirtual 49, 3) := by decide +kernel
theorem dX6_later_22 : decode cX6_later 22 = .ok (.ireturn, 1) := by decide +kernel
theorem dX6_later_23 : decode cX6_later 23 = .ok (.aload_n 0, 1) := by decide +kernel
theorem dX6_later_24 : decode cX6_later 24 = .ok (.iload_n 1, 1) := by decide +kernel
theorem dX6_later_25 : decode cX6_later 25 = .ok (.invokevirtual 79, 3) := by decide +kernel
theorem dX6_later_28 : decode cX6_later 28 = .ok (.iload_n 2, 1) := by decide +kernel
theorem dX6_later_29 : decode cX6_later 29 = .ok (.ishr, 1) := by decide +kernel
theorem dX6_later_30 : decode cX6_later 30 = .ok (.iconst 1, 1) := by decide +kernel
theorem dX6_later_31 : decode cX6_later 31 = .ok (.iand, 1) := by decide +kernel
theorem dX6_later_32 : decode cX6_later 32 = .ok (.ireturn, 1) := by decide +kernel
set_option maxRecDepth 20000 in
theorem ggX6_fill_X6_finding : GoodIn wsX6_fill wsX6_finding := goodIn_r _ [7, 8, 9, 10, 11, 12, 13, 14, 15, 16, 17, 18, 19, 20, 21, 22, 23, 24] (by decide +kernel) (by decide +kernel)
set_option maxRecDepth 20000 in
theorem gX6_fill_X6_finding : GoodIn wsX6_fill (wsV RX6 49 RX6 yX6_finding wsX6_finding) := goodIn_app (goodIn_of _ (by decide +kernel)) ggX6_fill_X6_finding
theorem dX6_fill_0 : decode cX6_fill 0 = .ok (.aload_n 0, 1) := by decide +kernel
theorem dX6_fill_1 : decode cX6_fill 1 = .ok (.getfield 9, 3) := by decide +kernel
theorem dX6_fill_4 : decode cX6_fill 4 = .ok (.iconst 0, 1) := by decide +kernel
theorem dX6_fill_5 : decode cX6_fill 5 = .ok (.iaload, 1) := by decide +kernel
theorem dX6_fill_6 : decode cX6_fill 6 = .ok (.ifCond .ne 10, 3) := by decide +kernel
theorem dX6_fill_9 : decode cX6_fill 9 = .ok (.aload_n 0, 1) := by decide +kernel
theorem dX6_fill_10 : decode cX6_fill 10 = .ok (.ldc 83, 2) := by decide +kernel
theorem dX6_fill_12 : decode cX6_fill 12 = .ok (.invokevirtual 49, 3) := by decide +kernel
theorem dX6_fill_15 : decode cX6_fill 15 = .ok (.ireturn, 1) := by decide +kernel
theorem dX6_fill_16 : decode cX6_fill 16 = .ok (.aload_n 0, 1) := by decide +kernel
theorem dX6_fill_17 : decode cX6_fill 17 = .ok (.getfield 9, 3) := by decide +kernel
theorem dX6_fill_20 : decode cX6_fill 20 = .ok (.iconst 0, 1) := by decide +kernel
theorem dX6_fill_21 : decode cX6_fill 21 = .ok (.dup2, 1) := by decide +kernel
theorem dX6_fill_22 : decode cX6_fill 22 = .ok (.iaload, 1) := by decide +kernel
theorem dX6_fill_23 : decode cX6_fill 23 = .ok (.iconst 1, 1) := by decide +kernel
theorem dX6_fill_24 : decode cX6_fill 24 = .ok (.isub, 1) := by decide +kernel
theorem dX6_fill_25 : decode cX6_fill 25 = .ok (.iastore, 1) := by decide +kernel
theorem dX6_fill_26 : decode cX6_fill 26 = .ok (.iconst 0, 1) := by decide +kernel
theorem dX6_fill_27 : decode cX6_fill 27 = .ok (.istore_n 1, 1) := by decide +kernel
theorem dX6_fill_28 : decode cX6_fill 28 = .ok (.iload_n 1, 1) := by decide +kernel
theorem dX6_fill_29 : decode cX6_fill 29 = .ok (.aload_n 0, 1) := by decide +kernel
theorem dX6_fill_30 : decode cX6_fill 30 = .ok (.getfield 9, 3) := by decide +kernel
theorem dX6_fill_33 : decode cX6_fill 33 = .ok (.iconst 0, 1) := by decide +kernel
theorem dX6_fill_34 : decode cX6_fill 34 = .ok (.iaload, 1) := by decide +kernel
theorem dX6_fill_35 : decode cX6_fill 35 = .ok (.if_icmp .ge 31, 3) := by decide +kernel
theorem dX6_fill_38 : decode cX6_fill 38 = .ok (.aload_n 0, 1) := by decide +kernel
theorem dX6_fill_39 : decode cX6_fill 39 = .ok (.getfield 9, 3) := by decide +kernel
theorem dX6_fill_42 : decode cX6_fill 42 = .ok (.bipush 62, 2) := by decide +kernel
theorem dX6_fill_44 : decode cX6_fill 44 = .ok (.iload_n 1, 1) := by decide +kernel
theorem dX6_fill_45 : decode cX6_fill 45 = .ok (.iadd, 1) := by decide +kernel
theorem dX6_fill_46 : decode cX6_fill 46 = .ok (.dup2, 1) := by decide +kernel
theorem dX6_fill_47 : decode cX6_fill 47 = .ok (.iaload, 1) := by decide +kernel
theorem dX6_fill_48 : decode cX6_fill 48 = .ok (.iconst 1, 1) := by decide +kernel
theorem dX6_fill_49 : decode cX6_fill 49 = .ok (.aload_n 0, 1) := by decide +kernel
theorem dX6_fill_50 : decode cX6_fill 50 = .ok (.getfield 9, 3) := by decide +kernel
theorem dX6_fill_53 : decode cX6_fill 53 = .ok (.iconst 0, 1) := by decide +kernel
theorem dX6_fill_54 : decode cX6_fill 54 = .ok (.iaload, 1) := by decide +kernel
theorem dX6_fill_55 : decode cX6_fill 55 = .ok (.ishl, 1) := by decide +kernel
theorem dX6_fill_56 : decode cX6_fill 56 = .ok (.iconst (-1), 1) := by decide +kernel
theorem dX6_fill_57 : decode cX6_fill 57 = .ok (.ixor, 1) := by decide +kernel
theorem dX6_fill_58 : decode cX6_fill 58 = .ok (.iand, 1) := by decide +kernel
theorem dX6_fill_59 : decode cX6_fill 59 = .ok (.iastore, 1) := by decide +kernel
theorem dX6_fill_60 : decode cX6_fill 60 = .ok (.iinc 1 1, 3) := by decide +kernel
theorem dX6_fill_63 : decode cX6_fill 63 = .ok (.goto (-35), 3) := by decide +kernel
theorem dX6_fill_66 : decode cX6_fill 66 = .ok (.aload_n 0, 1) := by decide +kernel
theorem dX6_fill_67 : decode cX6_fill 67 = .ok (.getfield 9, 3) := by decide +kernel
theorem dX6_fill_70 : decode cX6_fill 70 = .ok (.iconst 0, 1) := by decide +kernel
theorem dX6_fill_71 : decode cX6_fill 71 = .ok (.iaload, 1) := by decide +kernel
theorem dX6_fill_72 : decode cX6_fill 72 = .ok (.ireturn, 1) := by decide +kernel
set_option maxRecDepth 20000 in
theorem ggX6_isSheet_X6_within : GoodIn wsX6_isSheet wsX6_within := goodIn_r _ [4] (by decide +kernel) (by decide +kernel)
set_option maxRecDepth 20000 in
theorem gX6_isSheet_X6_within : GoodIn wsX6_isSheet (va_wsS RX6 44 yX6_within wsX6_within) := goodIn_app (goodIn_of _ (by decide +kernel)) ggX6_isSheet_X6_within
theorem dX6_isSheet_0 : decode cX6_isSheet 0 = .ok (.iload_n 0, 1) := by decide +kernel
theorem dX6_isSheet_1 : decode cX6_isSheet 1 = .ok (.iconst 0, 1) := by decide +kernel
theorem dX6_isSheet_2 : decode cX6_isSheet 2 = .ok (.iconst 3, 1) := by decide +kernel
theorem dX6_isSheet_3 : decode cX6_isSheet 3 = .ok (.invokestatic 44, 3) := by decide +kernel
theorem dX6_isSheet_6 : decode cX6_isSheet 6 = .ok (.ireturn, 1) := by decide +kernel
set_option maxRecDepth 20000 in
theorem ggX6_sheet_X6_isSheet : GoodIn wsX6_sheet wsX6_isSheet := goodIn_r _ [9, 10, 11, 8, 12] (by decide +kernel) (by decide +kernel)
set_option maxRecDepth 20000 in
theorem gX6_sheet_X6_isSheet : GoodIn wsX6_sheet (va_wsS RX6 84 yX6_isSheet wsX6_isSheet) := goodIn_app (goodIn_of _ (by decide +kernel)) ggX6_sheet_X6_isSheet
set_option maxRecDepth 20000 in
theorem ggX6_sheet_X6_finding : GoodIn wsX6_sheet wsX6_finding := goodIn_r _ [16, 17, 18, 19, 20, 21, 22, 23, 24, 25, 26, 27, 28, 29, 30, 31, 32, 33] (by decide +kernel) (by decide +kernel)
set_option maxRecDepth 20000 in
theorem gX6_sheet_X6_finding : GoodIn wsX6_sheet (wsV RX6 49 RX6 yX6_finding wsX6_finding) := goodIn_app (goodIn_of _ (by decide +kernel)) ggX6_sheet_X6_finding
theorem dX6_sheet_0 : decode cX6_sheet 0 = .ok (.iload_n 1, 1) := by decide +kernel
theorem dX6_sheet_1 : decode cX6_sheet 1 = .ok (.invokestatic 84, 3) := by decide +kernel
theorem dX6_sheet_4 : decode cX6_sheet 4 = .ok (.ifCond .eq 25, 3) := by decide +kernel
theorem dX6_sheet_7 : decode cX6_sheet 7 = .ok (.iload_n 2, 1) := by decide +kernel
theorem dX6_sheet_8 : decode cX6_sheet 8 = .ok (.ifCond .eq 28, 3) := by decide +kernel
theorem dX6_sheet_11 : decode cX6_sheet 11 = .ok (.iload_n 2, 1) := by decide +kernel
theorem dX6_sheet_12 : decode cX6_sheet 12 = .ok (.bipush 8, 2) := by decide +kernel
theorem dX6_sheet_14 : decode cX6_sheet 14 = .ok (.if_icmp .eq 22, 3) := by decide +kernel
theorem dX6_sheet_17 : decode cX6_sheet 17 = .ok (.iload_n 2, 1) := by decide +kernel
theorem dX6_sheet_18 : decode cX6_sheet 18 = .ok (.bipush 16, 2) := by decide +kernel
theorem dX6_sheet_20 : decode cX6_sheet 20 = .ok (.if_icmp .eq 16, 3) := by decide +kernel
theorem dX6_sheet_23 : decode cX6_sheet 23 = .ok (.iload_n 2, 1) := by decide +kernel
theorem dX6_sheet_24 : decode cX6_sheet 24 = .ok (.bipush 32, 2) := by decide +kernel
theorem dX6_sheet_26 : decode cX6_sheet 26 = .ok (.if_icmp .eq 10, 3) := by decide +kernel
theorem dX6_sheet_29 : decode cX6_sheet 29 = .ok (.aload_n 0, 1) := by decide +kernel
theorem dX6_sheet_30 : decode cX6_sheet 30 = .ok (.ldc 48, 2) := by decide +kernel
theorem dX6_sheet_32 : decode cX6_sheet 32 = .ok (.invokevirtual 49, 3) := by decide +kernel
theorem dX6_sheet_35 : decode cX6_sheet 35 = .ok (.ireturn, 1) := by decide +kernel
theorem dX6_sheet_36 : decode cX6_sheet 36 = .ok (.iload_n 3, 1) := by decide +kernel
theorem dX6_sheet_37 : decode cX6_sheet 37 = .ok (.ifCond .ge 10, 3) := by decide +kernel
theorem dX6_sheet_40 : decode cX6_sheet 40 = .ok (.aload_n 0, 1) := by decide +kernel
theorem dX6_sheet_41 : decode cX6_sheet 41 = .ok (.ldc 72, 2) := by decide +kernel
theorem dX6_sheet_43 : decode cX6_sheet 43 = .ok (.invokevirtual 49, 3) := by decide +kernel
theorem dX6_sheet_46 : decode cX6_sheet 46 = .ok (.ireturn, 1) := by decide +kernel
theorem dX6_sheet_47 : decode cX6_sheet 47 = .ok (.iload_n 3, 1) := by decide +kernel
theorem dX6_sheet_48 : decode cX6_sheet 48 = .ok (.bipush 12, 2) := by decide +kernel
theorem dX6_sheet_50 : decode cX6_sheet 50 = .ok (.if_icmp .le 10, 3) := by decide +kernel
theorem dX6_sheet_53 : decode cX6_sheet 53 = .ok (.aload_n 0, 1) := by decide +kernel
theorem dX6_sheet_54 : decode cX6_sheet 54 = .ok (.ldc 48, 2) := by decide +kernel
theorem dX6_sheet_56 : decode cX6_sheet 56 = .ok (.invokevirtual 49, 3) := by decide +kernel
theorem dX6_sheet_59 : decode cX6_sheet 59 = .ok (.ireturn, 1) := by decide +kernel
theorem dX6_sheet_60 : decode cX6_sheet 60 = .ok (.aload_n 0, 1) := by decide +kernel
theorem dX6_sheet_61 : decode cX6_sheet 61 = .ok (.getfield 16, 3) := by decide +kernel
theorem dX6_sheet_64 : decode cX6_sheet 64 = .ok (.iload_n 1, 1) := by decide +kernel
theorem dX6_sheet_65 : decode cX6_sheet 65 = .ok (.iload_n 2, 1) := by decide +kernel
theorem dX6_sheet_66 : decode cX6_sheet 66 = .ok (.iastore, 1) := by decide +kernel
theorem dX6_sheet_67 : decode cX6_sheet 67 = .ok (.aload_n 0, 1) := by decide +kernel
theorem dX6_sheet_68 : decode cX6_sheet 68 = .ok (.getfield 19, 3) := by decide +kernel
theorem dX6_sheet_71 : decode cX6_sheet 71 = .ok (.iload_n 1, 1) := by decide +kernel
theorem dX6_sheet_72 : decode cX6_sheet 72 = .ok (.iload_n 2, 1) := by decide +kernel
theorem dX6_sheet_73 : decode cX6_sheet 73 = .ok (.ifCond .ne 7, 3) := by decide +kernel
theorem dX6_sheet_76 : decode cX6_sheet 76 = .ok (.iconst 0, 1) := by decide +kernel
theorem dX6_sheet_77 : decode cX6_sheet 77 = .ok (.goto 4, 3) := by decide +kernel
theorem dX6_sheet_80 : decode cX6_sheet 80 = .ok (.iload_n 3, 1) := by decide +kernel
theorem dX6_sheet_81 : decode cX6_sheet 81 = .ok (.iastore, 1) := by decide +kernel
theorem dX6_sheet_82 : decode cX6_sheet 82 = .ok (.iconst 0, 1) := by decide +kernel
theorem dX6_sheet_83 : decode cX6_sheet 83 = .ok (.istore 4, 2) := by decide +kernel
theorem dX6_sheet_85 : decode cX6_sheet 85 = .ok (.iload 4, 2) := by decide +kernel
theorem dX6_sheet_87 : decode cX6_sheet 87 = .ok (.bipush 12, 2) := by decide +kernel
theorem dX6_sheet_89 : decode cX6_sheet 89 = .ok (.if_icmp .ge 22, 3) := by decide +kernel
theorem dX6_sheet_92 : decode cX6_sheet 92 = .ok (.aload_n 0, 1) := by decide +kernel
theorem dX6_sheet_93 : decode cX6_sheet 93 = .ok (.getfield 22, 3) := by decide +kernel
theorem dX6_sheet_96 : decode cX6_sheet 96 = .ok (.bipush 12, 2) := by decide +kernel
theorem dX6_sheet_98 : decode cX6_sheet 98 = .ok (.iload_n 1, 1) := by decide +kernel
theorem dX6_sheet_99 : decode cX6_sheet 99 = .ok (.imul, 1) := by decide +kernel
theorem dX6_sheet_100 : decode cX6_sheet 100 = .ok (.iload 4, 2) := by decide +kernel
theorem dX6_sheet_102 : decode cX6_sheet 102 = .ok (.iadd, 1) := by decide +kernel
theorem dX6_sheet_103 : decode cX6_sheet 103 = .ok (.iconst 0, 1) := by decide +kernel
theorem dX6_sheet_104 : decode cX6_sheet 104 = .ok (.iastore, 1) := by decide +kernel
theorem dX6_sheet_105 : decode cX6_sheet 105 = .ok (.iinc 4 1, 3) := by decide +kernel
theorem dX6_sheet_108 : decode cX6_sheet 108 = .ok (.goto (-23), 3) := by decide +kernel
theorem dX6_sheet_111 : decode cX6_sheet 111 = .ok (.aload_n 0, 1) := by decide +kernel
theorem dX6_sheet_112 : decode cX6_sheet 112 = .ok (.getfield 19, 3) := by decide +kernel
theorem dX6_sheet_115 : decode cX6_sheet 115 = .ok (.iload_n 1, 1) := by decide +kernel
theorem dX6_sheet_116 : decode cX6_sheet 116 = .ok (.iaload, 1) := by decide +kernel
theorem dX6_sheet_117 : decode cX6_sheet 117 = .ok (.ireturn, 1) := by decide +kernel
set_option maxRecDepth 20000 in
theorem ggX6_put_X6_isSheet : GoodIn wsX6_put wsX6_isSheet := goodIn_r _ [10, 11, 12, 9, 13] (by decide +kernel) (by decide +kernel)
set_option maxRecDepth 20000 in
theorem gX6_put_X6_isSheet : GoodIn wsX6_put (va_wsS RX6 84 yX6_isSheet wsX6_isSheet) := goodIn_app (goodIn_of _ (by decide +kernel)) ggX6_put_X6_isSheet
set_option maxRecDepth 20000 in
theorem ggX6_put_X6_finding : GoodIn wsX6_put wsX6_finding := goodIn_r _ [17, 18, 19, 20, 21, 22, 23, 24, 25, 26, 27, 28, 29, 30, 31, 32, 33, 34] (by decide +kernel) (by decide +kernel)
set_option maxRecDepth 20000 in
theorem gX6_put_X6_finding : GoodIn wsX6_put (wsV RX6 49 RX6 yX6_finding wsX6_finding) := goodIn_app (goodIn_of _ (by decide +kernel)) ggX6_put_X6_finding
set_option maxRecDepth 20000 in
theorem ggX6_put_X6_within : GoodIn wsX6_put wsX6_within := goodIn_r _ [13] (by decide +kernel) (by decide +kernel)
set_option maxRecDepth 20000 in
theorem gX6_put_X6_within : GoodIn wsX6_put (va_wsS RX6 44 yX6_within wsX6_within) := goodIn_app (goodIn_of _ (by decide +kernel)) ggX6_put_X6_within
theorem dX6_put_0 : decode cX6_put 0 = .ok (.iload_n 1, 1) := by decide +kernel
theorem dX6_put_1 : decode cX6_put 1 = .ok (.invokestatic 84, 3) := by decide +kernel
theorem dX6_put_4 : decode cX6_put 4 = .ok (.ifCond .ne 10, 3) := by decide +kernel
theorem dX6_put_7 : decode cX6_put 7 = .ok (.aload_n 0, 1) := by decide +kernel
theorem dX6_put_8 : decode cX6_put 8 = .ok (.ldc 48, 2) := by decide +kernel
theorem dX6_put_10 : decode cX6_put 10 = .ok (.invokevirtual 49, 3) := by decide +kernel
theorem dX6_put_13 : decode cX6_put 13 = .ok (.ireturn, 1) := by decide +kernel
theorem dX6_put_14 : decode cX6_put 14 = .ok (.aload_n 0, 1) := by decide +kernel
theorem dX6_put_15 : decode cX6_put 15 = .ok (.getfield 16, 3) := by decide +kernel
theorem dX6_put_18 : decode cX6_put 18 = .ok (.iload_n 1, 1) := by decide +kernel
theorem dX6_put_19 : decode cX6_put 19 = .ok (.iaload, 1) := by decide +kernel
theorem dX6_put_20 : decode cX6_put 20 = .ok (.ifCond .ne 10, 3) := by decide +kernel
theorem dX6_put_23 : decode cX6_put 23 = .ok (.aload_n 0, 1) := by decide +kernel
theorem dX6_put_24 : decode cX6_put 24 = .ok (.ldc 87, 2) := by decide +kernel
theorem dX6_put_26 : decode cX6_put 26 = .ok (.invokevirtual 49, 3) := by decide +kernel
theorem dX6_put_29 : decode cX6_put 29 = .ok (.ireturn, 1) := by decide +kernel
theorem dX6_put_30 : decode cX6_put 30 = .ok (.iload_n 2, 1) := by decide +kernel
theorem dX6_put_31 : decode cX6_put 31 = .ok (.iconst 0, 1) := by decide +kernel
theorem dX6_put_32 : decode cX6_put 32 = .ok (.aload_n 0, 1) := by decide +kernel
theorem dX6_put_33 : decode cX6_put 33 = .ok (.getfield 19, 3) := by decide +kernel
theorem dX6_put_36 : decode cX6_put 36 = .ok (.iload_n 1, 1) := by decide +kernel
theorem dX6_put_37 : decode cX6_put 37 = .ok (.iaload, 1) := by decide +kernel
theorem dX6_put_38 : decode cX6_put 38 = .ok (.iconst 1, 1) := by decide +kernel
theorem dX6_put_39 : decode cX6_put 39 = .ok (.isub, 1) := by decide +kernel
theorem dX6_put_40 : decode cX6_put 40 = .ok (.invokestatic 44, 3) := by decide +kernel
theorem dX6_put_43 : decode cX6_put 43 = .ok (.ifCond .ne 10, 3) := by decide +kernel
theorem dX6_put_46 : decode cX6_put 46 = .ok (.aload_n 0, 1) := by decide +kernel
theorem dX6_put_47 : decode cX6_put 47 = .ok (.ldc 48, 2) := by decide +kernel
theorem dX6_put_49 : decode cX6_put 49 = .ok (.invokevirtual 49, 3) := by decide +kernel
theorem dX6_put_52 : decode cX6_put 52 = .ok (.ireturn, 1) := by decide +kernel
theorem dX6_put_53 : decode cX6_put 53 = .ok (.aload_n 0, 1) := by decide +kernel
theorem dX6_put_54 : decode cX6_put 54 = .ok (.getfield 22, 3) := by decide +kernel
theorem dX6_put_57 : decode cX6_put 57 = .ok (.bipush 12, 2) := by decide +kernel
theorem dX6_put_59 : decode cX6_put 59 = .ok (.iload_n 1, 1) := by decide +kernel
theorem dX6_put_60 : decode cX6_put 60 = .ok (.imul, 1) := by decide +kernel
theorem dX6_put_61 : decode cX6_put 61 = .ok (.iload_n 2, 1) := by decide +kernel
theorem dX6_put_62 : decode cX6_put 62 = .ok (.iadd, 1) := by decide +kernel
theorem dX6_put_63 : decode cX6_put 63 = .ok (.aload_n 0, 1) := by decide +kernel
theorem dX6_put_64 : decode cX6_put 64 = .ok (.getfield 16, 3) := by decide +kernel
theorem dX6_put_67 : decode cX6_put 67 = .ok (.iload_n 1, 1) := by decide +kernel
theorem dX6_put_68 : decode cX6_put 68 = .ok (.iaload, 1) := by decide +kernel
theorem dX6_put_69 : decode cX6_put 69 = .ok (.bipush 8, 2) := by decide +kernel
theorem dX6_put_71 : decode cX6_put 71 = .ok (.if_icmp .ne 11, 3) := by decide +kernel
theorem dX6_put_74 : decode cX6_put 74 = .ok (.iload_n 3, 1) := by decide +kernel
theorem dX6_put_75 : decode cX6_put 75 = .ok (.sipush 255, 3) := by decide +kernel
theorem dX6_put_78 : decode cX6_put 78 = .ok (.iand, 1) := by decide +kernel
theorem dX6_put_79 : decode cX6_put 79 = .ok (.goto 22, 3) := by decide +kernel
theorem dX6_put_82 : decode cX6_put 82 = .ok (.aload_n 0, 1) := by decide +kernel
theorem dX6_put_83 : decode cX6_put 83 = .ok (.getfield 16, 3) := by decide +kernel
theorem dX6_put_86 : decode cX6_put 86 = .ok (.iload_n 1, 1) := by decide +kernel
theorem dX6_put_87 : decode cX6_put 87 = .ok (.iaload, 1) := by decide +kernel
theorem dX6_put_88 : decode cX6_put 88 = .ok (.bipush 16, 2) := by decide +kernel
theorem dX6_put_90 : decode cX6_put 90 = .ok (.if_icmp .ne 10, 3) := by decide +kernel
theorem dX6_put_93 : decode cX6_put 93 = .ok (.iload_n 3, 1) := by decide +kernel
theorem dX6_put_94 : decode cX6_put 94 = .ok (.ldc 88, 2) := by decide +kernel
theorem dX6_put_96 : decode cX6_put 96 = .ok (.iand, 1) := by decide +kernel
theorem dX6_put_97 : decode cX6_put 97 = .ok (.goto 4, 3) := by decide +kernel
theorem dX6_put_100 : decode cX6_put 100 = .ok (.iload_n 3, 1) := by decide +kernel
theorem dX6_put_101 : decode cX6_put 101 = .ok (.iastore, 1) := by decide +kernel
theorem dX6_put_102 : decode cX6_put 102 = .ok (.iconst 0, 1) := by decide +kernel
theorem dX6_put_103 : decode cX6_put 103 = .ok (.ireturn, 1) := by decide +kernel
set_option maxRecDepth 20000 in
theorem ggX6_copy_X6_isSheet : GoodIn wsX6_copy wsX6_isSheet := goodIn_r _ [11, 12, 13, 10, 14] (by decide +kernel) (by decide +kernel)
set_option maxRecDepth 20000 in
theorem gX6_copy_X6_isSheet : GoodIn wsX6_copy (va_wsS RX6 84 yX6_isSheet wsX6_isSheet) := goodIn_app (goodIn_of _ (by decide +kernel)) ggX6_copy_X6_isSheet
set_option maxRecDepth 20000 in
theorem ggX6_copy_X6_finding : GoodIn wsX6_copy wsX6_finding := goodIn_r _ [18, 19, 20, 21, 22, 23, 24, 25, 26, 27, 28, 29, 30, 31, 32, 33, 34, 35] (by decide +kernel) (by decide +kernel)
set_option maxRecDepth 20000 in
theorem gX6_copy_X6_finding : GoodIn wsX6_copy (wsV RX6 49 RX6 yX6_finding wsX6_finding) := goodIn_app (goodIn_of _ (by decide +kernel)) ggX6_copy_X6_finding
theorem dX6_copy_0 : decode cX6_copy 0 = .ok (.iload_n 1, 1) := by decide +kernel
theorem dX6_copy_1 : decode cX6_copy 1 = .ok (.invokestatic 84, 3) := by decide +kernel
theorem dX6_copy_4 : decode cX6_copy 4 = .ok (.ifCond .eq 10, 3) := by decide +kernel
theorem dX6_copy_7 : decode cX6_copy 7 = .ok (.iload_n 3, 1) := by decide +kernel
theorem dX6_copy_8 : decode cX6_copy 8 = .ok (.invokestatic 84, 3) := by decide +kernel
theorem dX6_copy_11 : decode cX6_copy 11 = .ok (.ifCond .ne 10, 3) := by decide +kernel
theorem dX6_copy_14 : decode cX6_copy 14 = .ok (.aload_n 0, 1) := by decide +kernel
theorem dX6_copy_15 : decode cX6_copy 15 = .ok (.ldc 48, 2) := by decide +kernel
theorem dX6_copy_17 : decode cX6_copy 17 = .ok (.invokevirtual 49, 3) := by decide +kernel
theorem dX6_copy_20 : decode cX6_copy 20 = .ok (.ireturn, 1) := by decide +kernel
theorem dX6_copy_21 : decode cX6_copy 21 = .ok (.aload_n 0, 1) := by decide +kernel
theorem dX6_copy_22 : decode cX6_copy 22 = .ok (.getfield 16, 3) := by decide +kernel
theorem dX6_copy_25 : decode cX6_copy 25 = .ok (.iload_n 1, 1) := by decide +kernel
theorem dX6_copy_26 : decode cX6_copy 26 = .ok (.iaload, 1) := by decide +kernel
theorem dX6_copy_27 : decode cX6_copy 27 = .ok (.ifCond .eq 12, 3) := by decide +kernel
theorem dX6_copy_30 : decode cX6_copy 30 = .ok (.aload_n 0, 1) := by decide +kernel
theorem dX6_copy_31 : decode cX6_copy 31 = .ok (.getfield 16, 3) := by decide +kernel
theorem dX6_copy_34 : decode cX6_copy 34 = .ok (.iload_n 3, 1) := by decide +kernel
theorem dX6_copy_35 : decode cX6_copy 35 = .ok (.iaload, 1) := by decide +kernel
theorem dX6_copy_36 : decode cX6_copy 36 = .ok (.ifCond .ne 10, 3) := by decide +kernel
theorem dX6_copy_39 : decode cX6_copy 39 = .ok (.aload_n 0, 1) := by decide +kernel
theorem dX6_copy_40 : decode cX6_copy 40 = .ok (.ldc 87, 2) := by decide +kernel
theorem dX6_copy_42 : decode cX6_copy 42 = .ok (.invokevirtual 49, 3) := by decide +kernel
theorem dX6_copy_45 : decode cX6_copy 45 = .ok (.ireturn, 1) := by decide +kernel
theorem dX6_copy_46 : decode cX6_copy 46 = .ok (.aload_n 0, 1) := by decide +kernel
theorem dX6_copy_47 : decode cX6_copy 47 = .ok (.getfield 16, 3) := by decide +kernel
theorem dX6_copy_50 : decode cX6_copy 50 = .ok (.iload_n 1, 1) := by decide +kernel
theorem dX6_copy_51 : decode cX6_copy 51 = .ok (.iaload, 1) := by decide +kernel
theorem dX6_copy_52 : decode cX6_copy 52 = .ok (.aload_n 0, 1) := by decide +kernel
theorem dX6_copy_53 : decode cX6_copy 53 = .ok (.getfield 16, 3) := by decide +kernel
theorem dX6_copy_56 : decode cX6_copy 56 = .ok (.iload_n 3, 1) := by decide +kernel
theorem dX6_copy_57 : decode cX6_copy 57 = .ok (.iaload, 1) := by decide +kernel
theorem dX6_copy_58 : decode cX6_copy 58 = .ok (.if_icmp .eq 10, 3) := by decide +kernel
theorem dX6_copy_61 : decode cX6_copy 61 = .ok (.aload_n 0, 1) := by decide +kernel
theorem dX6_copy_62 : decode cX6_copy 62 = .ok (.ldc 58, 2) := by decide +kernel
theorem dX6_copy_64 : decode cX6_copy 64 = .ok (.invokevirtual 49, 3) := by decide +kernel
theorem dX6_copy_67 : decode cX6_copy 67 = .ok (.ireturn, 1) := by decide +kernel
theorem dX6_copy_68 : decode cX6_copy 68 = .ok (.iload_n 2, 1) := by decide +kernel
theorem dX6_copy_69 : decode cX6_copy 69 = .ok (.ifCond .lt 48, 3) := by decide +kernel
theorem dX6_copy_72 : decode cX6_copy 72 = .ok (.iload 4, 2) := by decide +kernel
theorem dX6_copy_74 : decode cX6_copy 74 = .ok (.ifCond .lt 43, 3) := by decide +kernel
theorem dX6_copy_77 : decode cX6_copy 77 = .ok (.iload 5, 2) := by decide +kernel
theorem dX6_copy_79 : decode cX6_copy 79 = .ok (.ifCond .lt 38, 3) := by decide +kernel
theorem dX6_copy_82 : decode cX6_copy 82 = .ok (.iload_n 2, 1) := by decide +kernel
theorem dX6_copy_83 : decode cX6_copy 83 = .ok (.i2l, 1) := by decide +kernel
theorem dX6_copy_84 : decode cX6_copy 84 = .ok (.iload 5, 2) := by decide +kernel
theorem dX6_copy_86 : decode cX6_copy 86 = .ok (.i2l, 1) := by decide +kernel
theorem dX6_copy_87 : decode cX6_copy 87 = .ok (.ladd, 1) := by decide +kernel
theorem dX6_copy_88 : decode cX6_copy 88 = .ok (.aload_n 0, 1) := by decide +kernel
theorem dX6_copy_89 : decode cX6_copy 89 = .ok (.getfield 19, 3) := by decide +kernel
theorem dX6_copy_92 : decode cX6_copy 92 = .ok (.iload_n 1, 1) := by decide +kernel
theorem dX6_copy_93 : decode cX6_copy 93 = .ok (.iaload, 1) := by decide +kernel
theorem dX6_copy_94 : decode cX6_copy 94 = .ok (.i2l, 1) := by decide +kernel
theorem dX6_copy_95 : decode cX6_copy 95 = .ok (.lcmp, 1) := by decide +kernel
theorem dX6_copy_96 : decode cX6_copy 96 = .ok (.ifCond .gt 21, 3) := by decide +kernel
theorem dX6_copy_99 : decode cX6_copy 99 = .ok (.iload 4, 2) := by decide +kernel
theorem dX6_copy_101 : decode cX6_copy 101 = .ok (.i2l, 1) := by decide +kernel
theorem dX6_copy_102 : decode cX6_copy 102 = .ok (.iload 5, 2) := by decide +kernel
theorem dX6_copy_104 : decode cX6_copy 104 = .ok (.i2l, 1) := by decide +kernel
theorem dX6_copy_105 : decode cX6_copy 105 = .ok (.ladd, 1) := by decide +kernel
theorem dX6_copy_106 : decode cX6_copy 106 = .ok (.aload_n 0, 1) := by decide +kernel
theorem dX6_copy_107 : decode cX6_copy 107 = .ok (.getfield 19, 3) := by decide +kernel
theorem dX6_copy_110 : decode cX6_copy 110 = .ok (.iload_n 3, 1) := by decide +kernel
theorem dX6_copy_111 : decode cX6_copy 111 = .ok (.iaload, 1) := by decide +kernel
theorem dX6_copy_112 : decode cX6_copy 112 = .ok (.i2l, 1) := by decide +kernel
theorem dX6_copy_113 : decode cX6_copy 113 = .ok (.lcmp, 1) := by decide +kernel
theorem dX6_copy_114 : decode cX6_copy 114 = .ok (.ifCond .le 10, 3) := by decide +kernel
theorem dX6_copy_117 : decode cX6_copy 117 = .ok (.aload_n 0, 1) := by decide +kernel
theorem dX6_copy_118 : decode cX6_copy 118 = .ok (.ldc 48, 2) := by decide +kernel
theorem dX6_copy_120 : decode cX6_copy 120 = .ok (.invokevirtual 49, 3) := by decide +kernel
theorem dX6_copy_123 : decode cX6_copy 123 = .ok (.ireturn, 1) := by decide +kernel
theorem dX6_copy_124 : decode cX6_copy 124 = .ok (.iconst 0, 1) := by decide +kernel
theorem dX6_copy_125 : decode cX6_copy 125 = .ok (.istore 6, 2) := by decide +kernel
theorem dX6_copy_127 : decode cX6_copy 127 = .ok (.iload 6, 2) := by decide +kernel
theorem dX6_copy_129 : decode cX6_copy 129 = .ok (.iload 5, 2) := by decide +kernel
theorem dX6_copy_131 : decode cX6_copy 131 = .ok (.if_icmp .ge 30, 3) := by decide +kernel
theorem dX6_copy_134 : decode cX6_copy 134 = .ok (.aload_n 0, 1) := by decide +kernel
theorem dX6_copy_135 : decode cX6_copy 135 = .ok (.getfield 25, 3) := by decide +kernel
theorem dX6_copy_138 : decode cX6_copy 138 = .ok (.iload 6, 2) := by decide +kernel
theorem dX6_copy_140 : decode cX6_copy 140 = .ok (.aload_n 0, 1) := by decide +kernel
theorem dX6_copy_141 : decode cX6_copy 141 = .ok (.getfield 22, 3) := by decide +kernel
theorem dX6_copy_144 : decode cX6_copy 144 = .ok (.bipush 12, 2) := by decide +kernel
theorem dX6_copy_146 : decode cX6_copy 146 = .ok (.iload_n 1, 1) := by decide +kernel
theorem dX6_copy_147 : decode cX6_copy 147 = .ok (.imul, 1) := by decide +kernel
theorem dX6_copy_148 : decode cX6_copy 148 = .ok (.iload_n 2, 1) := by decide +kernel
theorem dX6_copy_149 : decode cX6_copy 149 = .ok (.iadd, 1) := by decide +kernel
theorem dX6_copy_150 : decode cX6_copy 150 = .ok (.iload 6, 2) := by decide +kernel
theorem dX6_copy_152 : decode cX6_copy 152 = .ok (.iadd, 1) := by decide +kernel
theorem dX6_copy_153 : decode cX6_copy 153 = .ok (.iaload, 1) := by decide +kernel
theorem dX6_copy_154 : decode cX6_copy 154 = .ok (.iastore, 1) := by decide +kernel
theorem dX6_copy_155 : decode cX6_copy 155 = .ok (.iinc 6 1, 3) := by decide +kernel
theorem dX6_copy_158 : decode cX6_copy 158 = .ok (.goto (-31), 3) := by decide +kernel
theorem dX6_copy_161 : decode cX6_copy 161 = .ok (.iconst 0, 1) := by decide +kernel
theorem dX6_copy_162 : decode cX6_copy 162 = .ok (.istore 6, 2) := by decide +kernel
theorem dX6_copy_164 : decode cX6_copy 164 = .ok (.iload 6, 2) := by decide +kernel
theorem dX6_copy_166 : decode cX6_copy 166 = .ok (.iload 5, 2) := by decide +kernel
theorem dX6_copy_168 : decode cX6_copy 168 = .ok (.if_icmp .ge 31, 3) := by decide +kernel
theorem dX6_copy_171 : decode cX6_copy 171 = .ok (.aload_n 0, 1) := by decide +kernel
theorem dX6_copy_172 : decode cX6_copy 172 = .ok (.getfield 22, 3) := by decide +kernel
theorem dX6_copy_175 : decode cX6_copy 175 = .ok (.bipush 12, 2) := by decide +kernel
theorem dX6_copy_177 : decode cX6_copy 177 = .ok (.iload_n 3, 1) := by decide +kernel
theorem dX6_copy_178 : decode cX6_copy 178 = .ok (.imul, 1) := by decide +kernel
theorem dX6_copy_179 : decode cX6_copy 179 = .ok (.iload 4, 2) := by decide +kernel
theorem dX6_copy_181 : decode cX6_copy 181 = .ok (.iadd, 1) := by decide +kernel
theorem dX6_copy_182 : decode cX6_copy 182 = .ok (.iload 6, 2) := by decide +kernel
theorem dX6_copy_184 : decode cX6_copy 184 = .ok (.iadd, 1) := by decide +kernel
theorem dX6_copy_185 : decode cX6_copy 185 = .ok (.aload_n 0, 1) := by decide +kernel
theorem dX6_copy_186 : decode cX6_copy 186 = .ok (.getfield 25, 3) := by decide +kernel
theorem dX6_copy_189 : decode cX6_copy 189 = .ok (.iload 6, 2) := by decide +kernel
theorem dX6_copy_191 : decode cX6_copy 191 = .ok (.iaload, 1) := by decide +kernel
theorem dX6_copy_192 : decode cX6_copy 192 = .ok (.iastore, 1) := by decide +kernel
theorem dX6_copy_193 : decode cX6_copy 193 = .ok (.iinc 6 1, 3) := by decide +kernel
theorem dX6_copy_196 : decode cX6_copy 196 = .ok (.goto (-32), 3) := by decide +kernel
theorem dX6_copy_199 : decode cX6_copy 199 = .ok (.iload 5, 2) := by decide +kernel
theorem dX6_copy_201 : decode cX6_copy 201 = .ok (.ireturn, 1) := by decide +kernel
set_option maxRecDepth 20000 in
theorem ggX6_read_X6_isGrave : GoodIn wsX6_read wsX6_isGrave := goodIn_r _ [11, 4, 12, 13, 10, 14, 26, 27, 28, 29, 30, 31, 32, 33, 34, 35, 36, 37, 38, 39, 40, 41] (by decide +kernel) (by decide +kernel)
set_option maxRecDepth 20000 in
theorem gX6_read_X6_isGrave : GoodIn wsX6_read (wsV RX6 54 RX6 yX6_isGrave wsX6_isGrave) := goodIn_app (goodIn_of _ (by decide +kernel)) ggX6_read_X6_isGrave
set_option maxRecDepth 20000 in
theorem ggX6_read_X6_isSheet : GoodIn wsX6_read wsX6_isSheet := goodIn_r _ [17, 12, 13, 10, 14] (by decide +kernel) (by decide +kernel)
set_option maxRecDepth 20000 in
theorem gX6_read_X6_isSheet : GoodIn wsX6_read (va_wsS RX6 84 yX6_isSheet wsX6_isSheet) := goodIn_app (goodIn_of _ (by decide +kernel)) ggX6_read_X6_isSheet
set_option maxRecDepth 20000 in
theorem ggX6_read_X6_finding : GoodIn wsX6_read wsX6_finding := goodIn_r _ [21, 22, 26, 27, 28, 29, 30, 31, 32, 33, 34, 35, 36, 37, 38, 39, 40, 41] (by decide +kernel) (by decide +kernel)
set_option maxRecDepth 20000 in
theorem gX6_read_X6_finding : GoodIn wsX6_read (wsV RX6 49 RX6 yX6_finding wsX6_finding) := goodIn_app (goodIn_of _ (by decide +kernel)) ggX6_read_X6_finding
set_option maxRecDepth 20000 in
theorem ggX6_read_X6_many : GoodIn wsX6_read wsX6_many := goodIn_r _ [25] (by decide +kernel) (by decide +kernel)
set_option maxRecDepth 20000 in
theorem gX6_read_X6_many : GoodIn wsX6_read (va_wsS RX6 63 yX6_many wsX6_many) := goodIn_app (goodIn_of _ (by decide +kernel)) ggX6_read_X6_many
theorem dX6_read_0 : decode cX6_read 0 = .ok (.aload_n 0, 1) := by decide +kernel
theorem dX6_read_1 : decode cX6_read 1 = .ok (.iload_n 1, 1) := by decide +kernel
theorem dX6_read_2 : decode cX6_read 2 = .ok (.invokevirtual 54, 3) := by decide +kernel
theorem dX6_read_5 : decode cX6_read 5 = .ok (.ifCond .eq 10, 3) := by decide +kernel
theorem dX6_read_8 : decode cX6_read 8 = .ok (.iload_n 2, 1) := by decide +kernel
theorem dX6_read_9 : decode cX6_read 9 = .ok (.invokestatic 84, 3) := by decide +kernel
theorem dX6_read_12 : decode cX6_read 12 = .ok (.ifCond .ne 10, 3) := by decide +kernel
theorem dX6_read_15 : decode cX6_read 15 = .ok (.aload_n 0, 1) := by decide +kernel
theorem dX6_read_16 : decode cX6_read 16 = .ok (.ldc 48, 2) := by decide +kernel
theorem dX6_read_18 : decode cX6_read 18 = .ok (.invokevirtual 49, 3) := by decide +kernel
theorem dX6_read_21 : decode cX6_read 21 = .ok (.ireturn, 1) := by decide +kernel
theorem dX6_read_22 : decode cX6_read 22 = .ok (.aload_n 0, 1) := by decide +kernel
theorem dX6_read_23 : decode cX6_read 23 = .ok (.getfield 16, 3) := by decide +kernel
theorem dX6_read_26 : decode cX6_read 26 = .ok (.iload_n 2, 1) := by decide +kernel
theorem dX6_read_27 : decode cX6_read 27 = .ok (.iaload, 1) := by decide +kernel
theorem dX6_read_28 : decode cX6_read 28 = .ok (.ifCond .ne 10, 3) := by decide +kernel
theorem dX6_read_31 : decode cX6_read 31 = .ok (.aload_n 0, 1) := by decide +kernel
theorem dX6_read_32 : decode cX6_read 32 = .ok (.ldc 87, 2) := by decide +kernel
theorem dX6_read_34 : decode cX6_read 34 = .ok (.invokevirtual 49, 3) := by decide +kernel
theorem dX6_read_37 : decode cX6_read 37 = .ok (.ireturn, 1) := by decide +kernel
theorem dX6_read_38 : decode cX6_read 38 = .ok (.aload_n 0, 1) := by decide +kernel
theorem dX6_read_39 : decode cX6_read 39 = .ok (.getfield 9, 3) := by decide +kernel
theorem dX6_read_42 : decode cX6_read 42 = .ok (.bipush 32, 2) := by decide +kernel
theorem dX6_read_44 : decode cX6_read 44 = .ok (.iload_n 1, 1) := by decide +kernel
theorem dX6_read_45 : decode cX6_read 45 = .ok (.iadd, 1) := by decide +kernel
theorem dX6_read_46 : decode cX6_read 46 = .ok (.iaload, 1) := by decide +kernel
theorem dX6_read_47 : decode cX6_read 47 = .ok (.istore_n 3, 1) := by decide +kernel
theorem dX6_read_48 : decode cX6_read 48 = .ok (.iconst 0, 1) := by decide +kernel
theorem dX6_read_49 : decode cX6_read 49 = .ok (.istore 4, 2) := by decide +kernel
theorem dX6_read_51 : decode cX6_read 51 = .ok (.iload 4, 2) := by decide +kernel
theorem dX6_read_53 : decode cX6_read 53 = .ok (.aload_n 0, 1) := by decide +kernel
theorem dX6_read_54 : decode cX6_read 54 = .ok (.getfield 19, 3) := by decide +kernel
theorem dX6_read_57 : decode cX6_read 57 = .ok (.iload_n 2, 1) := by decide +kernel
theorem dX6_read_58 : decode cX6_read 58 = .ok (.iaload, 1) := by decide +kernel
theorem dX6_read_59 : decode cX6_read 59 = .ok (.if_icmp .ge 42, 3) := by decide +kernel
theorem dX6_read_62 : decode cX6_read 62 = .ok (.aload_n 0, 1) := by decide +kernel
theorem dX6_read_63 : decode cX6_read 63 = .ok (.getfield 22, 3) := by decide +kernel
theorem dX6_read_66 : decode cX6_read 66 = .ok (.bipush 12, 2) := by decide +kernel
theorem dX6_read_68 : decode cX6_read 68 = .ok (.iload_n 2, 1) := by decide +kernel
theorem dX6_read_69 : decode cX6_read 69 = .ok (.imul, 1) := by decide +kernel
theorem dX6_read_70 : decode cX6_read 70 = .ok (.iload 4, 2) := by decide +kernel
theorem dX6_read_72 : decode cX6_read 72 = .ok (.iadd, 1) := by decide +kernel
theorem dX6_read_73 : decode cX6_read 73 = .ok (.iaload, 1) := by decide +kernel
theorem dX6_read_74 : decode cX6_read 74 = .ok (.ifCond .eq 12, 3) := by decide +kernel
theorem dX6_read_77 : decode cX6_read 77 = .ok (.iload_n 3, 1) := by decide +kernel
theorem dX6_read_78 : decode cX6_read 78 = .ok (.iconst 1, 1) := by decide +kernel
theorem dX6_read_79 : decode cX6_read 79 = .ok (.iload 4, 2) := by decide +kernel
theorem dX6_read_81 : decode cX6_read 81 = .ok (.ishl, 1) := by decide +kernel
theorem dX6_read_82 : decode cX6_read 82 = .ok (.ior, 1) := by decide +kernel
theorem dX6_read_83 : decode cX6_read 83 = .ok (.goto 11, 3) := by decide +kernel
theorem dX6_read_86 : decode cX6_read 86 = .ok (.iload_n 3, 1) := by decide +kernel
theorem dX6_read_87 : decode cX6_read 87 = .ok (.iconst 1, 1) := by decide +kernel
theorem dX6_read_88 : decode cX6_read 88 = .ok (.iload 4, 2) := by decide +kernel
theorem dX6_read_90 : decode cX6_read 90 = .ok (.ishl, 1) := by decide +kernel
theorem dX6_read_91 : decode cX6_read 91 = .ok (.iconst (-1), 1) := by decide +kernel
theorem dX6_read_92 : decode cX6_read 92 = .ok (.ixor, 1) := by decide +kernel
theorem dX6_read_93 : decode cX6_read 93 = .ok (.iand, 1) := by decide +kernel
theorem dX6_read_94 : decode cX6_read 94 = .ok (.istore_n 3, 1) := by decide +kernel
theorem dX6_read_95 : decode cX6_read 95 = .ok (.iinc 4 1, 3) := by decide +kernel
theorem dX6_read_98 : decode cX6_read 98 = .ok (.goto (-47), 3) := by decide +kernel
theorem dX6_read_101 : decode cX6_read 101 = .ok (.aload_n 0, 1) := by decide +kernel
theorem dX6_read_102 : decode cX6_read 102 = .ok (.getfield 9, 3) := by decide +kernel
