theorem dX6_read_105 : decode cX6_read 105 = .ok (.bipush 32, 2) := by decide +kernel
theorem dX6_read_107 : decode cX6_read 107 = .ok (.iload_n 1, 1) := by decide +kernel
theorem dX6_read_108 : decode cX6_read 108 = .ok (.iadd, 1) := by decide +kernel
theorem dX6_read_109 : decode cX6_read 109 = .ok (.iload_n 3, 1) := by decide +kernel
theorem dX6_read_110 : decode cX6_read 110 = .ok (.iastore, 1) := by decide +kernel
theorem dX6_read_111 : decode cX6_read 111 = .ok (.iload_n 3, 1) := by decide +kernel
theorem dX6_read_112 : decode cX6_read 112 = .ok (.invokestatic 63, 3) := by decide +kernel
theorem dX6_read_115 : decode cX6_read 115 = .ok (.ireturn, 1) := by decide +kernel
theorem dX6_mayHave_0 : decode cX6_mayHave 0 = .ok (.aload_n 0, 1) := by decide +kernel
theorem dX6_mayHave_1 : decode cX6_mayHave 1 = .ok (.getfield 9, 3) := by decide +kernel
theorem dX6_mayHave_4 : decode cX6_mayHave 4 = .ok (.iconst 2, 1) := by decide +kernel
theorem dX6_mayHave_5 : decode cX6_mayHave 5 = .ok (.iload_n 1, 1) := by decide +kernel
theorem dX6_mayHave_6 : decode cX6_mayHave 6 = .ok (.iadd, 1) := by decide +kernel
theorem dX6_mayHave_7 : decode cX6_mayHave 7 = .ok (.iaload, 1) := by decide +kernel
theorem dX6_mayHave_8 : decode cX6_mayHave 8 = .ok (.iconst 1, 1) := by decide +kernel
theorem dX6_mayHave_9 : decode cX6_mayHave 9 = .ok (.if_icmp .eq 15, 3) := by decide +kernel
theorem dX6_mayHave_12 : decode cX6_mayHave 12 = .ok (.aload_n 0, 1) := by decide +kernel
theorem dX6_mayHave_13 : decode cX6_mayHave 13 = .ok (.getfield 9, 3) := by decide +kernel
theorem dX6_mayHave_16 : decode cX6_mayHave 16 = .ok (.iconst 2, 1) := by decide +kernel
theorem dX6_mayHave_17 : decode cX6_mayHave 17 = .ok (.iload_n 1, 1) := by decide +kernel
theorem dX6_mayHave_18 : decode cX6_mayHave 18 = .ok (.iadd, 1) := by decide +kernel
theorem dX6_mayHave_19 : decode cX6_mayHave 19 = .ok (.iaload, 1) := by decide +kernel
theorem dX6_mayHave_20 : decode cX6_mayHave 20 = .ok (.iconst 3, 1) := by decide +kernel
theorem dX6_mayHave_21 : decode cX6_mayHave 21 = .ok (.if_icmp .ne 7, 3) := by decide +kernel
theorem dX6_mayHave_24 : decode cX6_mayHave 24 = .ok (.iconst 1, 1) := by decide +kernel
theorem dX6_mayHave_25 : decode cX6_mayHave 25 = .ok (.goto 4, 3) := by decide +kernel
theorem dX6_mayHave_28 : decode cX6_mayHave 28 = .ok (.iconst 0, 1) := by decide +kernel
theorem dX6_mayHave_29 : decode cX6_mayHave 29 = .ok (.ireturn, 1) := by decide +kernel
set_option maxRecDepth 20000 in
theorem ggX6_holesOf_X6_mayHave : GoodIn wsX6_holesOf wsX6_mayHave := goodIn_r _ [6, 1, 10, 11, 12, 13, 14, 15, 16, 17, 18, 19, 20, 21, 22, 23, 24, 25] (by decide +kernel) (by decide +kernel)
set_option maxRecDepth 20000 in
theorem gX6_holesOf_X6_mayHave : GoodIn wsX6_holesOf (wsV RX6 89 RX6 yX6_mayHave wsX6_mayHave) := goodIn_app (goodIn_of _ (by decide +kernel)) ggX6_holesOf_X6_mayHave
set_option maxRecDepth 20000 in
theorem ggX6_holesOf_X6_many : GoodIn wsX6_holesOf wsX6_many := goodIn_r _ [9] (by decide +kernel) (by decide +kernel)
set_option maxRecDepth 20000 in
theorem gX6_holesOf_X6_many : GoodIn wsX6_holesOf (va_wsS RX6 63 yX6_many wsX6_many) := goodIn_app (goodIn_of _ (by decide +kernel)) ggX6_holesOf_X6_many
theorem dX6_holesOf_0 : decode cX6_holesOf 0 = .ok (.aload_n 0, 1) := by decide +kernel
theorem dX6_holesOf_1 : decode cX6_holesOf 1 = .ok (.iload_n 1, 1) := by decide +kernel
theorem dX6_holesOf_2 : decode cX6_holesOf 2 = .ok (.invokevirtual 89, 3) := by decide +kernel
theorem dX6_holesOf_5 : decode cX6_holesOf 5 = .ok (.ifCond .eq 5, 3) := by decide +kernel
theorem dX6_holesOf_8 : decode cX6_holesOf 8 = .ok (.iconst 0, 1) := by decide +kernel
theorem dX6_holesOf_9 : decode cX6_holesOf 9 = .ok (.ireturn, 1) := by decide +kernel
theorem dX6_holesOf_10 : decode cX6_holesOf 10 = .ok (.iconst 0, 1) := by decide +kernel
theorem dX6_holesOf_11 : decode cX6_holesOf 11 = .ok (.istore 4, 2) := by decide +kernel
theorem dX6_holesOf_13 : decode cX6_holesOf 13 = .ok (.iconst 0, 1) := by decide +kernel
theorem dX6_holesOf_14 : decode cX6_holesOf 14 = .ok (.istore 5, 2) := by decide +kernel
theorem dX6_holesOf_16 : decode cX6_holesOf 16 = .ok (.iconst 0, 1) := by decide +kernel
theorem dX6_holesOf_17 : decode cX6_holesOf 17 = .ok (.istore 6, 2) := by decide +kernel
theorem dX6_holesOf_19 : decode cX6_holesOf 19 = .ok (.iload 6, 2) := by decide +kernel
theorem dX6_holesOf_21 : decode cX6_holesOf 21 = .ok (.aload_n 0, 1) := by decide +kernel
theorem dX6_holesOf_22 : decode cX6_holesOf 22 = .ok (.getfield 9, 3) := by decide +kernel
theorem dX6_holesOf_25 : decode cX6_holesOf 25 = .ok (.iconst 0, 1) := by decide +kernel
theorem dX6_holesOf_26 : decode cX6_holesOf 26 = .ok (.iaload, 1) := by decide +kernel
theorem dX6_holesOf_27 : decode cX6_holesOf 27 = .ok (.if_icmp .ge 58, 3) := by decide +kernel
theorem dX6_holesOf_30 : decode cX6_holesOf 30 = .ok (.iload_n 2, 1) := by decide +kernel
theorem dX6_holesOf_31 : decode cX6_holesOf 31 = .ok (.iload 6, 2) := by decide +kernel
theorem dX6_holesOf_33 : decode cX6_holesOf 33 = .ok (.ishr, 1) := by decide +kernel
theorem dX6_holesOf_34 : decode cX6_holesOf 34 = .ok (.iconst 1, 1) := by decide +kernel
theorem dX6_holesOf_35 : decode cX6_holesOf 35 = .ok (.iand, 1) := by decide +kernel
theorem dX6_holesOf_36 : decode cX6_holesOf 36 = .ok (.iconst 1, 1) := by decide +kernel
theorem dX6_holesOf_37 : decode cX6_holesOf 37 = .ok (.if_icmp .ne 21, 3) := by decide +kernel
theorem dX6_holesOf_40 : decode cX6_holesOf 40 = .ok (.iload 4, 2) := by decide +kernel
theorem dX6_holesOf_42 : decode cX6_holesOf 42 = .ok (.aload_n 0, 1) := by decide +kernel
theorem dX6_holesOf_43 : decode cX6_holesOf 43 = .ok (.getfield 9, 3) := by decide +kernel
theorem dX6_holesOf_46 : decode cX6_holesOf 46 = .ok (.bipush 32, 2) := by decide +kernel
theorem dX6_holesOf_48 : decode cX6_holesOf 48 = .ok (.iload 6, 2) := by decide +kernel
theorem dX6_holesOf_50 : decode cX6_holesOf 50 = .ok (.iadd, 1) := by decide +kernel
theorem dX6_holesOf_51 : decode cX6_holesOf 51 = .ok (.iaload, 1) := by decide +kernel
theorem dX6_holesOf_52 : decode cX6_holesOf 52 = .ok (.ior, 1) := by decide +kernel
theorem dX6_holesOf_53 : decode cX6_holesOf 53 = .ok (.istore 4, 2) := by decide +kernel
theorem dX6_holesOf_55 : decode cX6_holesOf 55 = .ok (.goto 24, 3) := by decide +kernel
theorem dX6_holesOf_58 : decode cX6_holesOf 58 = .ok (.iload 6, 2) := by decide +kernel
theorem dX6_holesOf_60 : decode cX6_holesOf 60 = .ok (.iload_n 1, 1) := by decide +kernel
theorem dX6_holesOf_61 : decode cX6_holesOf 61 = .ok (.if_icmp .eq 18, 3) := by decide +kernel
theorem dX6_holesOf_64 : decode cX6_holesOf 64 = .ok (.iload 5, 2) := by decide +kernel
theorem dX6_holesOf_66 : decode cX6_holesOf 66 = .ok (.aload_n 0, 1) := by decide +kernel
theorem dX6_holesOf_67 : decode cX6_holesOf 67 = .ok (.getfield 9, 3) := by decide +kernel
theorem dX6_holesOf_70 : decode cX6_holesOf 70 = .ok (.bipush 32, 2) := by decide +kernel
theorem dX6_holesOf_72 : decode cX6_holesOf 72 = .ok (.iload 6, 2) := by decide +kernel
theorem dX6_holesOf_74 : decode cX6_holesOf 74 = .ok (.iadd, 1) := by decide +kernel
theorem dX6_holesOf_75 : decode cX6_holesOf 75 = .ok (.iaload, 1) := by decide +kernel
theorem dX6_holesOf_76 : decode cX6_holesOf 76 = .ok (.ior, 1) := by decide +kernel
theorem dX6_holesOf_77 : decode cX6_holesOf 77 = .ok (.istore 5, 2) := by decide +kernel
theorem dX6_holesOf_79 : decode cX6_holesOf 79 = .ok (.iinc 6 1, 3) := by decide +kernel
theorem dX6_holesOf_82 : decode cX6_holesOf 82 = .ok (.goto (-63), 3) := by decide +kernel
theorem dX6_holesOf_85 : decode cX6_holesOf 85 = .ok (.iload 4, 2) := by decide +kernel
theorem dX6_holesOf_87 : decode cX6_holesOf 87 = .ok (.iload 5, 2) := by decide +kernel
theorem dX6_holesOf_89 : decode cX6_holesOf 89 = .ok (.iand, 1) := by decide +kernel
theorem dX6_holesOf_90 : decode cX6_holesOf 90 = .ok (.iload_n 3, 1) := by decide +kernel
theorem dX6_holesOf_91 : decode cX6_holesOf 91 = .ok (.iand, 1) := by decide +kernel
theorem dX6_holesOf_92 : decode cX6_holesOf 92 = .ok (.aload_n 0, 1) := by decide +kernel
theorem dX6_holesOf_93 : decode cX6_holesOf 93 = .ok (.getfield 9, 3) := by decide +kernel
theorem dX6_holesOf_96 : decode cX6_holesOf 96 = .ok (.bipush 32, 2) := by decide +kernel
theorem dX6_holesOf_98 : decode cX6_holesOf 98 = .ok (.iload_n 1, 1) := by decide +kernel
theorem dX6_holesOf_99 : decode cX6_holesOf 99 = .ok (.iadd, 1) := by decide +kernel
theorem dX6_holesOf_100 : decode cX6_holesOf 100 = .ok (.iaload, 1) := by decide +kernel
theorem dX6_holesOf_101 : decode cX6_holesOf 101 = .ok (.iconst (-1), 1) := by decide +kernel
theorem dX6_holesOf_102 : decode cX6_holesOf 102 = .ok (.ixor, 1) := by decide +kernel
theorem dX6_holesOf_103 : decode cX6_holesOf 103 = .ok (.iand, 1) := by decide +kernel
theorem dX6_holesOf_104 : decode cX6_holesOf 104 = .ok (.invokestatic 63, 3) := by decide +kernel
theorem dX6_holesOf_107 : decode cX6_holesOf 107 = .ok (.ireturn, 1) := by decide +kernel
set_option maxRecDepth 20000 in
theorem ggX6_search_X6_holesOf : GoodIn wsX6_search wsX6_holesOf := goodIn_r _ [11, 1, 12, 13, 14, 10, 15, 16, 17, 18, 24, 25, 26, 27, 28, 29, 30, 31, 32, 33, 34, 35, 36, 37, 38, 39] (by decide +kernel) (by decide +kernel)
set_option maxRecDepth 20000 in
theorem gX6_search_X6_holesOf : GoodIn wsX6_search (wsV RX6 98 RX6 yX6_holesOf wsX6_holesOf) := goodIn_app (goodIn_of _ (by decide +kernel)) ggX6_search_X6_holesOf
set_option maxRecDepth 20000 in
theorem ggX6_search_X6_take : GoodIn wsX6_search wsX6_take := goodIn_r _ [22, 2, 3, 23, 6, 24, 25, 26, 27, 28, 29, 30, 31, 32, 33, 34, 35, 36, 37, 38, 39] (by decide +kernel) (by decide +kernel)
set_option maxRecDepth 20000 in
theorem gX6_search_X6_take : GoodIn wsX6_search (wsV RX6 102 RX6 yX6_take wsX6_take) := goodIn_app (goodIn_of _ (by decide +kernel)) ggX6_search_X6_take
theorem dX6_search_0 : decode cX6_search 0 = .ok (.aload_n 0, 1) := by decide +kernel
theorem dX6_search_1 : decode cX6_search 1 = .ok (.getfield 9, 3) := by decide +kernel
theorem dX6_search_4 : decode cX6_search 4 = .ok (.iconst 0, 1) := by decide +kernel
theorem dX6_search_5 : decode cX6_search 5 = .ok (.iaload, 1) := by decide +kernel
theorem dX6_search_6 : decode cX6_search 6 = .ok (.istore_n 2, 1) := by decide +kernel
theorem dX6_search_7 : decode cX6_search 7 = .ok (.aload_n 0, 1) := by decide +kernel
theorem dX6_search_8 : decode cX6_search 8 = .ok (.sipush 1000, 3) := by decide +kernel
theorem dX6_search_11 : decode cX6_search 11 = .ok (.putfield 92, 3) := by decide +kernel
theorem dX6_search_14 : decode cX6_search 14 = .ok (.aload_n 0, 1) := by decide +kernel
theorem dX6_search_15 : decode cX6_search 15 = .ok (.iconst 0, 1) := by decide +kernel
theorem dX6_search_16 : decode cX6_search 16 = .ok (.putfield 95, 3) := by decide +kernel
theorem dX6_search_19 : decode cX6_search 19 = .ok (.iconst 0, 1) := by decide +kernel
theorem dX6_search_20 : decode cX6_search 20 = .ok (.istore_n 3, 1) := by decide +kernel
theorem dX6_search_21 : decode cX6_search 21 = .ok (.iconst 0, 1) := by decide +kernel
theorem dX6_search_22 : decode cX6_search 22 = .ok (.istore 4, 2) := by decide +kernel
theorem dX6_search_24 : decode cX6_search 24 = .ok (.aload_n 0, 1) := by decide +kernel
theorem dX6_search_25 : decode cX6_search 25 = .ok (.getfield 34, 3) := by decide +kernel
theorem dX6_search_28 : decode cX6_search 28 = .ok (.iconst 0, 1) := by decide +kernel
theorem dX6_search_29 : decode cX6_search 29 = .ok (.iconst 0, 1) := by decide +kernel
theorem dX6_search_30 : decode cX6_search 30 = .ok (.iastore, 1) := by decide +kernel
theorem dX6_search_31 : decode cX6_search 31 = .ok (.aload_n 0, 1) := by decide +kernel
theorem dX6_search_32 : decode cX6_search 32 = .ok (.getfield 37, 3) := by decide +kernel
theorem dX6_search_35 : decode cX6_search 35 = .ok (.iconst 0, 1) := by decide +kernel
theorem dX6_search_36 : decode cX6_search 36 = .ok (.iconst (-1), 1) := by decide +kernel
theorem dX6_search_37 : decode cX6_search 37 = .ok (.iastore, 1) := by decide +kernel
theorem dX6_search_38 : decode cX6_search 38 = .ok (.iload_n 3, 1) := by decide +kernel
theorem dX6_search_39 : decode cX6_search 39 = .ok (.ifCond .lt 196, 3) := by decide +kernel
theorem dX6_search_42 : decode cX6_search 42 = .ok (.aload_n 0, 1) := by decide +kernel
theorem dX6_search_43 : decode cX6_search 43 = .ok (.getfield 37, 3) := by decide +kernel
theorem dX6_search_46 : decode cX6_search 46 = .ok (.iload_n 3, 1) := by decide +kernel
theorem dX6_search_47 : decode cX6_search 47 = .ok (.iaload, 1) := by decide +kernel
theorem dX6_search_48 : decode cX6_search 48 = .ok (.ifCond .lt 18, 3) := by decide +kernel
theorem dX6_search_51 : decode cX6_search 51 = .ok (.iload 4, 2) := by decide +kernel
theorem dX6_search_53 : decode cX6_search 53 = .ok (.iconst 1, 1) := by decide +kernel
theorem dX6_search_54 : decode cX6_search 54 = .ok (.aload_n 0, 1) := by decide +kernel
theorem dX6_search_55 : decode cX6_search 55 = .ok (.getfield 37, 3) := by decide +kernel
theorem dX6_search_58 : decode cX6_search 58 = .ok (.iload_n 3, 1) := by decide +kernel
theorem dX6_search_59 : decode cX6_search 59 = .ok (.iaload, 1) := by decide +kernel
theorem dX6_search_60 : decode cX6_search 60 = .ok (.ishl, 1) := by decide +kernel
theorem dX6_search_61 : decode cX6_search 61 = .ok (.iconst (-1), 1) := by decide +kernel
theorem dX6_search_62 : decode cX6_search 62 = .ok (.ixor, 1) := by decide +kernel
theorem dX6_search_63 : decode cX6_search 63 = .ok (.iand, 1) := by decide +kernel
theorem dX6_search_64 : decode cX6_search 64 = .ok (.istore 4, 2) := by decide +kernel
theorem dX6_search_66 : decode cX6_search 66 = .ok (.aload_n 0, 1) := by decide +kernel
theorem dX6_search_67 : decode cX6_search 67 = .ok (.getfield 37, 3) := by decide +kernel
theorem dX6_search_70 : decode cX6_search 70 = .ok (.iload_n 3, 1) := by decide +kernel
theorem dX6_search_71 : decode cX6_search 71 = .ok (.iaload, 1) := by decide +kernel
theorem dX6_search_72 : decode cX6_search 72 = .ok (.iconst 1, 1) := by decide +kernel
theorem dX6_search_73 : decode cX6_search 73 = .ok (.iadd, 1) := by decide +kernel
theorem dX6_search_74 : decode cX6_search 74 = .ok (.istore 5, 2) := by decide +kernel
theorem dX6_search_76 : decode cX6_search 76 = .ok (.iload 5, 2) := by decide +kernel
theorem dX6_search_78 : decode cX6_search 78 = .ok (.iload_n 2, 1) := by decide +kernel
theorem dX6_search_79 : decode cX6_search 79 = .ok (.if_icmp .ge 61, 3) := by decide +kernel
theorem dX6_search_82 : decode cX6_search 82 = .ok (.iload 4, 2) := by decide +kernel
theorem dX6_search_84 : decode cX6_search 84 = .ok (.iload 5, 2) := by decide +kernel
theorem dX6_search_86 : decode cX6_search 86 = .ok (.ishr, 1) := by decide +kernel
theorem dX6_search_87 : decode cX6_search 87 = .ok (.iconst 1, 1) := by decide +kernel
theorem dX6_search_88 : decode cX6_search 88 = .ok (.iand, 1) := by decide +kernel
theorem dX6_search_89 : decode cX6_search 89 = .ok (.iconst 1, 1) := by decide +kernel
theorem dX6_search_90 : decode cX6_search 90 = .ok (.if_icmp .eq 44, 3) := by decide +kernel
theorem dX6_search_93 : decode cX6_search 93 = .ok (.aload_n 0, 1) := by decide +kernel
theorem dX6_search_94 : decode cX6_search 94 = .ok (.getfield 9, 3) := by decide +kernel
theorem dX6_search_97 : decode cX6_search 97 = .ok (.bipush 62, 2) := by decide +kernel
theorem dX6_search_99 : decode cX6_search 99 = .ok (.iload 5, 2) := by decide +kernel
theorem dX6_search_101 : decode cX6_search 101 = .ok (.iadd, 1) := by decide +kernel
theorem dX6_search_102 : decode cX6_search 102 = .ok (.iaload, 1) := by decide +kernel
theorem dX6_search_103 : decode cX6_search 103 = .ok (.iload 4, 2) := by decide +kernel
theorem dX6_search_105 : decode cX6_search 105 = .ok (.iconst (-1), 1) := by decide +kernel
theorem dX6_search_106 : decode cX6_search 106 = .ok (.ixor, 1) := by decide +kernel
theorem dX6_search_107 : decode cX6_search 107 = .ok (.iand, 1) := by decide +kernel
theorem dX6_search_108 : decode cX6_search 108 = .ok (.ifCond .ne 26, 3) := by decide +kernel
theorem dX6_search_111 : decode cX6_search 111 = .ok (.aload_n 0, 1) := by decide +kernel
theorem dX6_search_112 : decode cX6_search 112 = .ok (.getfield 34, 3) := by decide +kernel
theorem dX6_search_115 : decode cX6_search 115 = .ok (.iload_n 3, 1) := by decide +kernel
theorem dX6_search_116 : decode cX6_search 116 = .ok (.iaload, 1) := by decide +kernel
theorem dX6_search_117 : decode cX6_search 117 = .ok (.aload_n 0, 1) := by decide +kernel
theorem dX6_search_118 : decode cX6_search 118 = .ok (.iload 5, 2) := by decide +kernel
theorem dX6_search_120 : decode cX6_search 120 = .ok (.iload 4, 2) := by decide +kernel
theorem dX6_search_122 : decode cX6_search 122 = .ok (.iload_n 1, 1) := by decide +kernel
theorem dX6_search_123 : decode cX6_search 123 = .ok (.invokevirtual 98, 3) := by decide +kernel
theorem dX6_search_126 : decode cX6_search 126 = .ok (.iadd, 1) := by decide +kernel
theorem dX6_search_127 : decode cX6_search 127 = .ok (.aload_n 0, 1) := by decide +kernel
theorem dX6_search_128 : decode cX6_search 128 = .ok (.getfield 92, 3) := by decide +kernel
theorem dX6_search_131 : decode cX6_search 131 = .ok (.if_icmp .le 9, 3) := by decide +kernel
theorem dX6_search_134 : decode cX6_search 134 = .ok (.iinc 5 1, 3) := by decide +kernel
theorem dX6_search_137 : decode cX6_search 137 = .ok (.goto (-61), 3) := by decide +kernel
theorem dX6_search_140 : decode cX6_search 140 = .ok (.iload 5, 2) := by decide +kernel
theorem dX6_search_142 : decode cX6_search 142 = .ok (.iload_n 2, 1) := by decide +kernel
theorem dX6_search_143 : decode cX6_search 143 = .ok (.if_icmp .ne 9, 3) := by decide +kernel
theorem dX6_search_146 : decode cX6_search 146 = .ok (.iinc 3 (-1), 3) := by decide +kernel
theorem dX6_search_149 : decode cX6_search 149 = .ok (.goto (-111), 3) := by decide +kernel
theorem dX6_search_152 : decode cX6_search 152 = .ok (.aload_n 0, 1) := by decide +kernel
theorem dX6_search_153 : decode cX6_search 153 = .ok (.getfield 37, 3) := by decide +kernel
theorem dX6_search_156 : decode cX6_search 156 = .ok (.iload_n 3, 1) := by decide +kernel
theorem dX6_search_157 : decode cX6_search 157 = .ok (.iload 5, 2) := by decide +kernel
theorem dX6_search_159 : decode cX6_search 159 = .ok (.iastore, 1) := by decide +kernel
theorem dX6_search_160 : decode cX6_search 160 = .ok (.aload_n 0, 1) := by decide +kernel
theorem dX6_search_161 : decode cX6_search 161 = .ok (.getfield 31, 3) := by decide +kernel
theorem dX6_search_164 : decode cX6_search 164 = .ok (.iload_n 3, 1) := by decide +kernel
theorem dX6_search_165 : decode cX6_search 165 = .ok (.iload 5, 2) := by decide +kernel
theorem dX6_search_167 : decode cX6_search 167 = .ok (.iastore, 1) := by decide +kernel
theorem dX6_search_168 : decode cX6_search 168 = .ok (.aload_n 0, 1) := by decide +kernel
theorem dX6_search_169 : decode cX6_search 169 = .ok (.getfield 34, 3) := by decide +kernel
theorem dX6_search_172 : decode cX6_search 172 = .ok (.iload_n 3, 1) := by decide +kernel
theorem dX6_search_173 : decode cX6_search 173 = .ok (.iconst 1, 1) := by decide +kernel
theorem dX6_search_174 : decode cX6_search 174 = .ok (.iadd, 1) := by decide +kernel
theorem dX6_search_175 : decode cX6_search 175 = .ok (.aload_n 0, 1) := by decide +kernel
theorem dX6_search_176 : decode cX6_search 176 = .ok (.getfield 34, 3) := by decide +kernel
theorem dX6_search_179 : decode cX6_search 179 = .ok (.iload_n 3, 1) := by decide +kernel
theorem dX6_search_180 : decode cX6_search 180 = .ok (.iaload, 1) := by decide +kernel
theorem dX6_search_181 : decode cX6_search 181 = .ok (.aload_n 0, 1) := by decide +kernel
theorem dX6_search_182 : decode cX6_search 182 = .ok (.iload 5, 2) := by decide +kernel
theorem dX6_search_184 : decode cX6_search 184 = .ok (.iload 4, 2) := by decide +kernel
theorem dX6_search_186 : decode cX6_search 186 = .ok (.iload_n 1, 1) := by decide +kernel
theorem dX6_search_187 : decode cX6_search 187 = .ok (.invokevirtual 98, 3) := by decide +kernel
theorem dX6_search_190 : decode cX6_search 190 = .ok (.iadd, 1) := by decide +kernel
theorem dX6_search_191 : decode cX6_search 191 = .ok (.iastore, 1) := by decide +kernel
theorem dX6_search_192 : decode cX6_search 192 = .ok (.iload 4, 2) := by decide +kernel
theorem dX6_search_194 : decode cX6_search 194 = .ok (.iconst 1, 1) := by decide +kernel
theorem dX6_search_195 : decode cX6_search 195 = .ok (.iload 5, 2) := by decide +kernel
theorem dX6_search_197 : decode cX6_search 197 = .ok (.ishl, 1) := by decide +kernel
theorem dX6_search_198 : decode cX6_search 198 = .ok (.ior, 1) := by decide +kernel
theorem dX6_search_199 : decode cX6_search 199 = .ok (.istore 4, 2) := by decide +kernel
theorem dX6_search_201 : decode cX6_search 201 = .ok (.iload_n 3, 1) := by decide +kernel
theorem dX6_search_202 : decode cX6_search 202 = .ok (.iconst 1, 1) := by decide +kernel
theorem dX6_search_203 : decode cX6_search 203 = .ok (.iadd, 1) := by decide +kernel
theorem dX6_search_204 : decode cX6_search 204 = .ok (.iload_n 2, 1) := by decide +kernel
theorem dX6_search_205 : decode cX6_search 205 = .ok (.if_icmp .ne 17, 3) := by decide +kernel
theorem dX6_search_208 : decode cX6_search 208 = .ok (.aload_n 0, 1) := by decide +kernel
theorem dX6_search_209 : decode cX6_search 209 = .ok (.aload_n 0, 1) := by decide +kernel
theorem dX6_search_210 : decode cX6_search 210 = .ok (.getfield 34, 3) := by decide +kernel
theorem dX6_search_213 : decode cX6_search 213 = .ok (.iload_n 2, 1) := by decide +kernel
theorem dX6_search_214 : decode cX6_search 214 = .ok (.iaload, 1) := by decide +kernel
theorem dX6_search_215 : decode cX6_search 215 = .ok (.iload_n 2, 1) := by decide +kernel
theorem dX6_search_216 : decode cX6_search 216 = .ok (.invokevirtual 102, 3) := by decide +kernel
theorem dX6_search_219 : decode cX6_search 219 = .ok (.goto 13, 3) := by decide +kernel
theorem dX6_search_222 : decode cX6_search 222 = .ok (.iinc 3 1, 3) := by decide +kernel
theorem dX6_search_225 : decode cX6_search 225 = .ok (.aload_n 0, 1) := by decide +kernel
theorem dX6_search_226 : decode cX6_search 226 = .ok (.getfield 37, 3) := by decide +kernel
theorem dX6_search_229 : decode cX6_search 229 = .ok (.iload_n 3, 1) := by decide +kernel
theorem dX6_search_230 : decode cX6_search 230 = .ok (.iconst (-1), 1) := by decide +kernel
theorem dX6_search_231 : decode cX6_search 231 = .ok (.iastore, 1) := by decide +kernel
theorem dX6_search_232 : decode cX6_search 232 = .ok (.goto (-194), 3) := by decide +kernel
theorem dX6_search_235 : decode cX6_search 235 = .ok (.return_, 1) := by decide +kernel
theorem dX6_take_0 : decode cX6_take 0 = .ok (.iload_n 1, 1) := by decide +kernel
theorem dX6_take_1 : decode cX6_take 1 = .ok (.aload_n 0, 1) := by decide +kernel
theorem dX6_take_2 : decode cX6_take 2 = .ok (.getfield 92, 3) := by decide +kernel
theorem dX6_take_5 : decode cX6_take 5 = .ok (.if_icmp .ge 38, 3) := by decide +kernel
theorem dX6_take_8 : decode cX6_take 8 = .ok (.aload_n 0, 1) := by decide +kernel
theorem dX6_take_9 : decode cX6_take 9 = .ok (.iload_n 1, 1) := by decide +kernel
theorem dX6_take_10 : decode cX6_take 10 = .ok (.putfield 92, 3) := by decide +kernel
theorem dX6_take_13 : decode cX6_take 13 = .ok (.aload_n 0, 1) := by decide +kernel
theorem dX6_take_14 : decode cX6_take 14 = .ok (.iconst 0, 1) := by decide +kernel
theorem dX6_take_15 : decode cX6_take 15 = .ok (.putfield 95, 3) := by decide +kernel
theorem dX6_take_18 : decode cX6_take 18 = .ok (.iconst 0, 1) := by decide +kernel
theorem dX6_take_19 : decode cX6_take 19 = .ok (.istore_n 3, 1) := by decide +kernel
theorem dX6_take_20 : decode cX6_take 20 = .ok (.iload_n 3, 1) := by decide +kernel
theorem dX6_take_21 : decode cX6_take 21 = .ok (.iload_n 2, 1) := by decide +kernel
theorem dX6_take_22 : decode cX6_take 22 = .ok (.if_icmp .ge 21, 3) := by decide +kernel
theorem dX6_take_25 : decode cX6_take 25 = .ok (.aload_n 0, 1) := by decide +kernel
theorem dX6_take_26 : decode cX6_take 26 = .ok (.getfield 28, 3) := by decide +kernel
theorem dX6_take_29 : decode cX6_take 29 = .ok (.iload_n 3, 1) := by decide +kernel
theorem dX6_take_30 : decode cX6_take 30 = .ok (.aload_n 0, 1) := by decide +kernel
theorem dX6_take_31 : decode cX6_take 31 = .ok (.getfield 31, 3) := by decide +kernel
theorem dX6_take_34 : decode cX6_take 34 = .ok (.iload_n 3, 1) := by decide +kernel
theorem dX6_take_35 : decode cX6_take 35 = .ok (.iaload, 1) := by decide +kernel
theorem dX6_take_36 : decode cX6_take 36 = .ok (.iastore, 1) := by decide +kernel
theorem dX6_take_37 : decode cX6_take 37 = .ok (.iinc 3 1, 3) := by decide +kernel
theorem dX6_take_40 : decode cX6_take 40 = .ok (.goto (-20), 3) := by decide +kernel
theorem dX6_take_43 : decode cX6_take 43 = .ok (.aload_n 0, 1) := by decide +kernel
theorem dX6_take_44 : decode cX6_take 44 = .ok (.dup, 1) := by decide +kernel
theorem dX6_take_45 : decode cX6_take 45 = .ok (.getfield 95, 3) := by decide +kernel
theorem dX6_take_48 : decode cX6_take 48 = .ok (.iconst 1, 1) := by decide +kernel
theorem dX6_take_49 : decode cX6_take 49 = .ok (.iadd, 1) := by decide +kernel
theorem dX6_take_50 : decode cX6_take 50 = .ok (.putfield 95, 3) := by decide +kernel
theorem dX6_take_53 : decode cX6_take 53 = .ok (.return_, 1) := by decide +kernel
theorem dX6_noOrder_0 : decode cX6_noOrder 0 = .ok (.aload_n 0, 1) := by decide +kernel
theorem dX6_noOrder_1 : decode cX6_noOrder 1 = .ok (.getfield 9, 3) := by decide +kernel
theorem dX6_noOrder_4 : decode cX6_noOrder 4 = .ok (.iconst 0, 1) := by decide +kernel
theorem dX6_noOrder_5 : decode cX6_noOrder 5 = .ok (.iaload, 1) := by decide +kernel
theorem dX6_noOrder_6 : decode cX6_noOrder 6 = .ok (.ifCond .ne 8, 3) := by decide +kernel
theorem dX6_noOrder_9 : decode cX6_noOrder 9 = .ok (.ldc 83, 2) := by decide +kernel
theorem dX6_noOrder_11 : decode cX6_noOrder 11 = .ok (.goto 20, 3) := by decide +kernel
theorem dX6_noOrder_14 : decode cX6_noOrder 14 = .ok (.aload_n 0, 1) := by decide +kernel
theorem dX6_noOrder_15 : decode cX6_noOrder 15 = .ok (.getfield 9, 3) := by decide +kernel
theorem dX6_noOrder_18 : decode cX6_noOrder 18 = .ok (.iconst 0, 1) := by decide +kernel
theorem dX6_noOrder_19 : decode cX6_noOrder 19 = .ok (.iaload, 1) := by decide +kernel
theorem dX6_noOrder_20 : decode cX6_noOrder 20 = .ok (.bipush 8, 2) := by decide +kernel
theorem dX6_noOrder_22 : decode cX6_noOrder 22 = .ok (.if_icmp .le 8, 3) := by decide +kernel
theorem dX6_noOrder_25 : decode cX6_noOrder 25 = .ok (.ldc 106, 2) := by decide +kernel
theorem dX6_noOrder_27 : decode cX6_noOrder 27 = .ok (.goto 4, 3) := by decide +kernel
theorem dX6_noOrder_30 : decode cX6_noOrder 30 = .ok (.iconst 0, 1) := by decide +kernel
theorem dX6_noOrder_31 : decode cX6_noOrder 31 = .ok (.ireturn, 1) := by decide +kernel
set_option maxRecDepth 20000 in
theorem ggX6_order_X6_noOrder : GoodIn wsX6_order wsX6_noOrder := goodIn_r _ [6, 7, 8, 9, 39, 40, 41, 42, 43, 44, 45, 46, 47, 48, 49, 50, 51, 52, 53, 54] (by decide +kernel) (by decide +kernel)
set_option maxRecDepth 20000 in
theorem gX6_order_X6_noOrder : GoodIn wsX6_order (wsV RX6 107 RX6 yX6_noOrder wsX6_noOrder) := goodIn_app (goodIn_of _ (by decide +kernel)) ggX6_order_X6_noOrder
set_option maxRecDepth 20000 in
theorem ggX6_order_X6_finding : GoodIn wsX6_order wsX6_finding := goodIn_r _ [13, 14, 39, 40, 41, 42, 43, 44, 45, 46, 47, 48, 49, 50, 51, 52, 53, 54] (by decide +kernel) (by decide +kernel)
set_option maxRecDepth 20000 in
theorem gX6_order_X6_finding : GoodIn wsX6_order (wsV RX6 49 RX6 yX6_finding wsX6_finding) := goodIn_app (goodIn_of _ (by decide +kernel)) ggX6_order_X6_finding
set_option maxRecDepth 20000 in
theorem ggX6_order_X6_search : GoodIn wsX6_order wsX6_search := goodIn_r _ [18, 7, 1, 19, 20, 21, 22, 23, 24, 25, 5, 26, 27, 28, 29, 30, 31, 32, 33, 34, 35, 36, 37, 38, 39, 40, 41, 42, 43, 44, 45, 46, 47, 48, 49, 50, 51, 52, 53, 54] (by decide +kernel) (by decide +kernel)
set_option maxRecDepth 20000 in
theorem gX6_order_X6_search : GoodIn wsX6_order (wsV RX6 111 RX6 yX6_search wsX6_search) := goodIn_app (goodIn_of _ (by decide +kernel)) ggX6_order_X6_search
theorem dX6_order_0 : decode cX6_order 0 = .ok (.aload_n 0, 1) := by decide +kernel
theorem dX6_order_1 : decode cX6_order 1 = .ok (.invokevirtual 107, 3) := by decide +kernel
theorem dX6_order_4 : decode cX6_order 4 = .ok (.ifCond .eq 12, 3) := by decide +kernel
theorem dX6_order_7 : decode cX6_order 7 = .ok (.aload_n 0, 1) := by decide +kernel
theorem dX6_order_8 : decode cX6_order 8 = .ok (.aload_n 0, 1) := by decide +kernel
theorem dX6_order_9 : decode cX6_order 9 = .ok (.invokevirtual 107, 3) := by decide +kernel
theorem dX6_order_12 : decode cX6_order 12 = .ok (.invokevirtual 49, 3) := by decide +kernel
theorem dX6_order_15 : decode cX6_order 15 = .ok (.ireturn, 1) := by decide +kernel
theorem dX6_order_16 : decode cX6_order 16 = .ok (.aload_n 0, 1) := by decide +kernel
theorem dX6_order_17 : decode cX6_order 17 = .ok (.sipush 4095, 3) := by decide +kernel
theorem dX6_order_20 : decode cX6_order 20 = .ok (.invokevirtual 111, 3) := by decide +kernel
theorem dX6_order_23 : decode cX6_order 23 = .ok (.aload_n 0, 1) := by decide +kernel
theorem dX6_order_24 : decode cX6_order 24 = .ok (.getfield 92, 3) := by decide +kernel
theorem dX6_order_27 : decode cX6_order 27 = .ok (.ireturn, 1) := by decide +kernel
set_option maxRecDepth 20000 in
theorem ggX6_at_X6_noOrder : GoodIn wsX6_at wsX6_noOrder := goodIn_r _ [8, 1, 9, 10, 43, 44, 45, 46, 47, 48, 49, 50, 51, 52, 53, 54, 55, 56, 57, 58] (by decide +kernel) (by decide +kernel)
set_option maxRecDepth 20000 in
theorem gX6_at_X6_noOrder : GoodIn wsX6_at (wsV RX6 107 RX6 yX6_noOrder wsX6_noOrder) := goodIn_app (goodIn_of _ (by decide +kernel)) ggX6_at_X6_noOrder
set_option maxRecDepth 20000 in
theorem ggX6_at_X6_finding : GoodIn wsX6_at wsX6_finding := goodIn_r _ [14, 15, 43, 44, 45, 46, 47, 48, 49, 50, 51, 52, 53, 54, 55, 56, 57, 58] (by decide +kernel) (by decide +kernel)
set_option maxRecDepth 20000 in
theorem gX6_at_X6_finding : GoodIn wsX6_at (wsV RX6 49 RX6 yX6_finding wsX6_finding) := goodIn_app (goodIn_of _ (by decide +kernel)) ggX6_at_X6_finding
set_option maxRecDepth 20000 in
theorem ggX6_at_X6_within : GoodIn wsX6_at wsX6_within := goodIn_r _ [18] (by decide +kernel) (by decide +kernel)
set_option maxRecDepth 20000 in
theorem gX6_at_X6_within : GoodIn wsX6_at (va_wsS RX6 44 yX6_within wsX6_within) := goodIn_app (goodIn_of _ (by decide +kernel)) ggX6_at_X6_within
set_option maxRecDepth 20000 in
theorem ggX6_at_X6_search : GoodIn wsX6_at wsX6_search := goodIn_r _ [22, 1, 23, 24, 25, 26, 27, 28, 29, 30, 7, 31, 32, 33, 34, 35, 36, 37, 38, 39, 40, 41, 42, 3, 43, 44, 45, 46, 47, 48, 49, 50, 51, 52, 53, 54, 55, 56, 57, 58] (by decide +kernel) (by decide +kernel)
set_option maxRecDepth 20000 in
theorem gX6_at_X6_search : GoodIn wsX6_at (wsV RX6 111 RX6 yX6_search wsX6_search) := goodIn_app (goodIn_of _ (by decide +kernel)) ggX6_at_X6_search
theorem dX6_at_0 : decode cX6_at 0 = .ok (.aload_n 0, 1) := by decide +kernel
theorem dX6_at_1 : decode cX6_at 1 = .ok (.invokevirtual 107, 3) := by decide +kernel
theorem dX6_at_4 : decode cX6_at 4 = .ok (.ifCond .eq 12, 3) := by decide +kernel
theorem dX6_at_7 : decode cX6_at 7 = .ok (.aload_n 0, 1) := by decide +kernel
theorem dX6_at_8 : decode cX6_at 8 = .ok (.aload_n 0, 1) := by decide +kernel
theorem dX6_at_9 : decode cX6_at 9 = .ok (.invokevirtual 107, 3) := by decide +kernel
theorem dX6_at_12 : decode cX6_at 12 = .ok (.invokevirtual 49, 3) := by decide +kernel
theorem dX6_at_15 : decode cX6_at 15 = .ok (.ireturn, 1) := by decide +kernel
theorem dX6_at_16 : decode cX6_at 16 = .ok (.iload_n 1, 1) := by decide +kernel
theorem dX6_at_17 : decode cX6_at 17 = .ok (.iconst 0, 1) := by decide +kernel
theorem dX6_at_18 : decode cX6_at 18 = .ok (.aload_n 0, 1) := by decide +kernel
theorem dX6_at_19 : decode cX6_at 19 = .ok (.getfield 9, 3) := by decide +kernel
theorem dX6_at_22 : decode cX6_at 22 = .ok (.iconst 0, 1) := by decide +kernel
theorem dX6_at_23 : decode cX6_at 23 = .ok (.iaload, 1) := by decide +kernel
theorem dX6_at_24 : decode cX6_at 24 = .ok (.iconst 1, 1) := by decide +kernel
theorem dX6_at_25 : decode cX6_at 25 = .ok (.isub, 1) := by decide +kernel
theorem dX6_at_26 : decode cX6_at 26 = .ok (.invokestatic 44, 3) := by decide +kernel
theorem dX6_at_29 : decode cX6_at 29 = .ok (.ifCond .ne 10, 3) := by decide +kernel
theorem dX6_at_32 : decode cX6_at 32 = .ok (.aload_n 0, 1) := by decide +kernel
theorem dX6_at_33 : decode cX6_at 33 = .ok (.ldc 48, 2) := by decide +kernel
theorem dX6_at_35 : decode cX6_at 35 = .ok (.invokevirtual 49, 3) := by decide +kernel
theorem dX6_at_38 : decode cX6_at 38 = .ok (.ireturn, 1) := by decide +kernel
theorem dX6_at_39 : decode cX6_at 39 = .ok (.aload_n 0, 1) := by decide +kernel
theorem dX6_at_40 : decode cX6_at 40 = .ok (.sipush 4095, 3) := by decide +kernel
theorem dX6_at_43 : decode cX6_at 43 = .ok (.invokevirtual 111, 3) := by decide +kernel
theorem dX6_at_46 : decode cX6_at 46 = .ok (.aload_n 0, 1) := by decide +kernel
theorem dX6_at_47 : decode cX6_at 47 = .ok (.getfield 28, 3) := by decide +kernel
theorem dX6_at_50 : decode cX6_at 50 = .ok (.iload_n 1, 1) := by decide +kernel
theorem dX6_at_51 : decode cX6_at 51 = .ok (.iaload, 1) := by decide +kernel
theorem dX6_at_52 : decode cX6_at 52 = .ok (.ireturn, 1) := by decide +kernel
set_option maxRecDepth 20000 in
theorem ggX6_holesIn_X6_holesOf : GoodIn wsX6_holesIn wsX6_holesOf := goodIn_r _ [6, 1, 7, 8, 9, 5, 10, 11, 12, 13, 14, 15, 16, 17, 18, 19, 20, 21, 22, 23, 24, 25, 26, 27, 28, 29] (by decide +kernel) (by decide +kernel)
set_option maxRecDepth 20000 in
theorem gX6_holesIn_X6_holesOf : GoodIn wsX6_holesIn (wsV RX6 98 RX6 yX6_holesOf wsX6_holesOf) := goodIn_app (goodIn_of _ (by decide +kernel)) ggX6_holesIn_X6_holesOf
theorem dX6_holesIn_0 : decode cX6_holesIn 0 = .ok (.iconst 0, 1) := by decide +kernel
theorem dX6_holesIn_1 : decode cX6_holesIn 1 = .ok (.istore_n 3, 1) := by decide +kernel
theorem dX6_holesIn_2 : decode cX6_holesIn 2 = .ok (.iconst 0, 1) := by decide +kernel
theorem dX6_holesIn_3 : decode cX6_holesIn 3 = .ok (.istore 4, 2) := by decide +kernel
theorem dX6_holesIn_5 : decode cX6_holesIn 5 = .ok (.iconst 0, 1) := by decide +kernel
theorem dX6_holesIn_6 : decode cX6_holesIn 6 = .ok (.istore 5, 2) := by decide +kernel
theorem dX6_holesIn_8 : decode cX6_holesIn 8 = .ok (.iload 5, 2) := by decide +kernel
theorem dX6_holesIn_10 : decode cX6_holesIn 10 = .ok (.aload_n 0, 1) := by decide +kernel
theorem dX6_holesIn_11 : decode cX6_holesIn 11 = .ok (.getfield 9, 3) := by decide +kernel
theorem dX6_holesIn_14 : decode cX6_holesIn 14 = .ok (.iconst 0, 1) := by decide +kernel
theorem dX6_holesIn_15 : decode cX6_holesIn 15 = .ok (.iaload, 1) := by decide +kernel
theorem dX6_holesIn_16 : decode cX6_holesIn 16 = .ok (.if_icmp .ge 34, 3) := by decide +kernel
theorem dX6_holesIn_19 : decode cX6_holesIn 19 = .ok (.iload_n 3, 1) := by decide +kernel
theorem dX6_holesIn_20 : decode cX6_holesIn 20 = .ok (.aload_n 0, 1) := by decide +kernel
theorem dX6_holesIn_21 : decode cX6_holesIn 21 = .ok (.aload_n 1, 1) := by decide +kernel
theorem dX6_holesIn_22 : decode cX6_holesIn 22 = .ok (.iload 5, 2) := by decide +kernel
theorem dX6_holesIn_24 : decode cX6_holesIn 24 = .ok (.iaload, 1) := by decide +kernel
theorem dX6_holesIn_25 : decode cX6_holesIn 25 = .ok (.iload 4, 2) := by decide +kernel
theorem dX6_holesIn_27 : decode cX6_holesIn 27 = .ok (.iload_n 2, 1) := by decide +kernel
theorem dX6_holesIn_28 : decode cX6_holesIn 28 = .ok (.invokevirtual 98, 3) := by decide +kernel
theorem dX6_holesIn_31 : decode cX6_holesIn 31 = .ok (.iadd, 1) := by decide +kernel
theorem dX6_holesIn_32 : decode cX6_holesIn 32 = .ok (.istore_n 3, 1) := by decide +kernel
theorem dX6_holesIn_33 : decode cX6_holesIn 33 = .ok (.iload 4, 2) := by decide +kernel
theorem dX6_holesIn_35 : decode cX6_holesIn 35 = .ok (.iconst 1, 1) := by decide +kernel
theorem dX6_holesIn_36 : decode cX6_holesIn 36 = .ok (.aload_n 1, 1) := by decide +kernel
theorem dX6_holesIn_37 : decode cX6_holesIn 37 = .ok (.iload 5, 2) := by decide +kernel
theorem dX6_holesIn_39 : decode cX6_holesIn 39 = .ok (.iaload, 1) := by decide +kernel
theorem dX6_holesIn_40 : decode cX6_holesIn 40 = .ok (.ishl, 1) := by decide +kernel
theorem dX6_holesIn_41 : decode cX6_holesIn 41 = .ok (.ior, 1) := by decide +kernel
theorem dX6_holesIn_42 : decode cX6_holesIn 42 = .ok (.istore 4, 2) := by decide +kernel
theorem dX6_holesIn_44 : decode cX6_holesIn 44 = .ok (.iinc 5 1, 3) := by decide +kernel
theorem dX6_holesIn_47 : decode cX6_holesIn 47 = .ok (.goto (-39), 3) := by decide +kernel
theorem dX6_holesIn_50 : decode cX6_holesIn 50 = .ok (.iload_n 3, 1) := by decide +kernel
theorem dX6_holesIn_51 : decode cX6_holesIn 51 = .ok (.ireturn, 1) := by decide +kernel
set_option maxRecDepth 20000 in
theorem ggX6_holes_X6_isGood : GoodIn wsX6_holes wsX6_isGood := goodIn_r _ [6, 7, 8, 5, 9] (by decide +kernel) (by decide +kernel)
set_option maxRecDepth 20000 in
theorem gX6_holes_X6_isGood : GoodIn wsX6_holes (va_wsS RX6 115 yX6_isGood wsX6_isGood) := goodIn_app (goodIn_of _ (by decide +kernel)) ggX6_holes_X6_isGood
set_option maxRecDepth 20000 in
theorem ggX6_holes_X6_finding : GoodIn wsX6_holes wsX6_finding := goodIn_r _ [13, 14, 50, 51, 52, 53, 54, 55, 56, 57, 58, 59, 60, 61, 62, 63, 64, 65] (by decide +kernel) (by decide +kernel)
set_option maxRecDepth 20000 in
theorem gX6_holes_X6_finding : GoodIn wsX6_holes (wsV RX6 49 RX6 yX6_finding wsX6_finding) := goodIn_app (goodIn_of _ (by decide +kernel)) ggX6_holes_X6_finding
set_option maxRecDepth 20000 in
theorem ggX6_holes_X6_noOrder : GoodIn wsX6_holes wsX6_noOrder := goodIn_r _ [18, 19, 20, 21, 50, 51, 52, 53, 54, 55, 56, 57, 58, 59, 60, 61, 62, 63, 64, 65] (by decide +kernel) (by decide +kernel)
set_option maxRecDepth 20000 in
theorem gX6_holes_X6_noOrder : GoodIn wsX6_holes (wsV RX6 107 RX6 yX6_noOrder wsX6_noOrder) := goodIn_app (goodIn_of _ (by decide +kernel)) ggX6_holes_X6_noOrder
set_option maxRecDepth 20000 in
theorem ggX6_holes_X6_search : GoodIn wsX6_holes wsX6_search := goodIn_r _ [25, 19, 26, 27, 28, 29, 30, 31, 32, 33, 5, 34, 35, 36, 37, 38, 39, 40, 41, 42, 43, 44, 45, 2, 50, 51, 52, 53, 54, 55, 56, 57, 58, 59, 60, 61, 62, 63, 64, 65] (by decide +kernel) (by decide +kernel)
set_option maxRecDepth 20000 in
theorem gX6_holes_X6_search : GoodIn wsX6_holes (wsV RX6 111 RX6 yX6_search wsX6_search) := goodIn_app (goodIn_of _ (by decide +kernel)) ggX6_holes_X6_search
set_option maxRecDepth 20000 in
theorem ggX6_holes_X6_holesIn : GoodIn wsX6_holes wsX6_holesIn := goodIn_r _ [49, 19, 31, 32, 33, 5, 34, 35, 36, 37, 38, 39, 40, 41, 50, 51, 52, 53, 54, 55, 56, 57, 58, 59, 60, 61, 62, 63, 64, 65] (by decide +kernel) (by decide +kernel)
set_option maxRecDepth 20000 in
theorem gX6_holes_X6_holesIn : GoodIn wsX6_holes (wsV RX6 118 RX6 yX6_holesIn wsX6_holesIn) := goodIn_app (goodIn_of _ (by decide +kernel)) ggX6_holes_X6_holesIn
theorem dX6_holes_0 : decode cX6_holes 0 = .ok (.iload_n 1, 1) := by decide +kernel
theorem dX6_holes_1 : decode cX6_holes 1 = .ok (.invokestatic 115, 3) := by decide +kernel
theorem dX6_holes_4 : decode cX6_holes 4 = .ok (.ifCond .ne 10, 3) := by decide +kernel
theorem dX6_holes_7 : decode cX6_holes 7 = .ok (.aload_n 0, 1) := by decide +kernel
theorem dX6_holes_8 : decode cX6_holes 8 = .ok (.ldc 48, 2) := by decide +kernel
theorem dX6_holes_10 : decode cX6_holes 10 = .ok (.invokevirtual 49, 3) := by decide +kernel
theorem dX6_holes_13 : decode cX6_holes 13 = .ok (.ireturn, 1) := by decide +kernel
theorem dX6_holes_14 : decode cX6_holes 14 = .ok (.aload_n 0, 1) := by decide +kernel
theorem dX6_holes_15 : decode cX6_holes 15 = .ok (.invokevirtual 107, 3) := by decide +kernel
theorem dX6_holes_18 : decode cX6_holes 18 = .ok (.ifCond .eq 12, 3) := by decide +kernel
theorem dX6_holes_21 : decode cX6_holes 21 = .ok (.aload_n 0, 1) := by decide +kernel
theorem dX6_holes_22 : decode cX6_holes 22 = .ok (.aload_n 0, 1) := by decide +kernel
theorem dX6_holes_23 : decode cX6_holes 23 = .ok (.invokevirtual 107, 3) := by decide +kernel
theorem dX6_holes_26 : decode cX6_holes 26 = .ok (.invokevirtual 49, 3) := by decide +kernel
theorem dX6_holes_29 : decode cX6_holes 29 = .ok (.ireturn, 1) := by decide +kernel
theorem dX6_holes_30 : decode cX6_holes 30 = .ok (.aload_n 0, 1) := by decide +kernel
theorem dX6_holes_31 : decode cX6_holes 31 = .ok (.sipush 4095, 3) := by decide +kernel
theorem dX6_holes_34 : decode cX6_holes 34 = .ok (.invokevirtual 111, 3) := by decide +kernel
theorem dX6_holes_37 : decode cX6_holes 37 = .ok (.aload_n 0, 1) := by decide +kernel
theorem dX6_holes_38 : decode cX6_holes 38 = .ok (.aload_n 0, 1) := by decide +kernel
theorem dX6_holes_39 : decode cX6_holes 39 = .ok (.getfield 28, 3) := by decide +kernel
theorem dX6_holes_42 : decode cX6_holes 42 = .ok (.iconst 1, 1) := by decide +kernel
theorem dX6_holes_43 : decode cX6_holes 43 = .ok (.iload_n 1, 1) := by decide +kernel
theorem dX6_holes_44 : decode cX6_holes 44 = .ok (.ishl, 1) := by decide +kernel
theorem dX6_holes_45 : decode cX6_holes 45 = .ok (.invokevirtual 118, 3) := by decide +kernel
theorem dX6_holes_48 : decode cX6_holes 48 = .ok (.ireturn, 1) := by decide +kernel
theorem dX6_has_0 : decode cX6_has 0 = .ok (.aload_n 0, 1) := by decide +kernel
theorem dX6_has_1 : decode cX6_has 1 = .ok (.getfield 9, 3) := by decide +kernel
theorem dX6_has_4 : decode cX6_has 4 = .ok (.bipush 32, 2) := by decide +kernel
theorem dX6_has_6 : decode cX6_has 6 = .ok (.iload_n 1, 1) := by decide +kernel
theorem dX6_has_7 : decode cX6_has 7 = .ok (.iadd, 1) := by decide +kernel
theorem dX6_has_8 : decode cX6_has 8 = .ok (.iaload, 1) := by decide +kernel
theorem dX6_has_9 : decode cX6_has 9 = .ok (.iload_n 2, 1) := by decide +kernel
theorem dX6_has_10 : decode cX6_has 10 = .ok (.ishr, 1) := by decide +kernel
theorem dX6_has_11 : decode cX6_has 11 = .ok (.iconst 1, 1) := by decide +kernel
theorem dX6_has_12 : decode cX6_has 12 = .ok (.iand, 1) := by decide +kernel
theorem dX6_has_13 : decode cX6_has 13 = .ok (.iconst 1, 1) := by decide +kernel
theorem dX6_has_14 : decode cX6_has 14 = .ok (.if_icmp .ne 7, 3) := by decide +kernel
theorem dX6_has_17 : decode cX6_has 17 = .ok (.iconst 1, 1) := by decide +kernel
theorem dX6_has_18 : decode cX6_has 18 = .ok (.goto 4, 3) := by decide +kernel
theorem dX6_has_21 : decode cX6_has 21 = .ok (.iconst 0, 1) := by decide +kernel
theorem dX6_has_22 : decode cX6_has 22 = .ok (.ireturn, 1) := by decide +kernel
set_option maxRecDepth 20000 in
theorem ggX6_good_X6_isGood : GoodIn wsX6_good wsX6_isGood := goodIn_r _ [8, 9, 10, 7, 11] (by decide +kernel) (by decide +kernel)
set_option maxRecDepth 20000 in
theorem gX6_good_X6_isGood : GoodIn wsX6_good (va_wsS RX6 115 yX6_isGood wsX6_isGood) := goodIn_app (goodIn_of _ (by decide +kernel)) ggX6_good_X6_isGood
set_option maxRecDepth 20000 in
theorem ggX6_good_X6_finding : GoodIn wsX6_good wsX6_finding := goodIn_r _ [15, 16, 50, 51, 52, 53, 54, 55, 56, 57, 58, 59, 60, 61, 62, 63, 64, 65] (by decide +kernel) (by decide +kernel)
set_option maxRecDepth 20000 in
theorem gX6_good_X6_finding : GoodIn wsX6_good (wsV RX6 49 RX6 yX6_finding wsX6_finding) := goodIn_app (goodIn_of _ (by decide +kernel)) ggX6_good_X6_finding
set_option maxRecDepth 20000 in
theorem ggX6_good_X6_has : GoodIn wsX6_good wsX6_has := goodIn_r _ [20, 2, 50, 51, 52, 53, 54, 55, 56, 57, 58, 59, 60, 61, 62, 63, 64, 65] (by decide +kernel) (by decide +kernel)
set_option maxRecDepth 20000 in
theorem gX6_good_X6_has : GoodIn wsX6_good (wsV RX6 122 RX6 yX6_has wsX6_has) := goodIn_app (goodIn_of _ (by decide +kernel)) ggX6_good_X6_has
set_option maxRecDepth 20000 in
theorem ggX6_good_X6_noOrder : GoodIn wsX6_good wsX6_noOrder := goodIn_r _ [24, 2, 3, 25, 50, 51, 52, 53, 54, 55, 56, 57, 58, 59, 60, 61, 62, 63, 64, 65] (by decide +kernel) (by decide +kernel)
set_option maxRecDepth 20000 in
theorem gX6_good_X6_noOrder : GoodIn wsX6_good (wsV RX6 107 RX6 yX6_noOrder wsX6_noOrder) := goodIn_app (goodIn_of _ (by decide +kernel)) ggX6_good_X6_noOrder
set_option maxRecDepth 20000 in
theorem ggX6_good_X6_search : GoodIn wsX6_good wsX6_search := goodIn_r _ [29, 2, 30, 31, 32, 33, 34, 35, 36, 37, 7, 38, 39, 40, 41, 42, 43, 44, 45, 46, 47, 48, 49, 4, 50, 51, 52, 53, 54, 55, 56, 57, 58, 59, 60, 61, 62, 63, 64, 65] (by decide +kernel) (by decide +kernel)
set_option maxRecDepth 20000 in
theorem gX6_good_X6_search : GoodIn wsX6_good (wsV RX6 111 RX6 yX6_search wsX6_search) := goodIn_app (goodIn_of _ (by decide +kernel)) ggX6_good_X6_search
theorem dX6_good_0 : decode cX6_good 0 = .ok (.iload_n 1, 1) := by decide +kernel
theorem dX6_good_1 : decode cX6_good 1 = .ok (.invokestatic 115, 3) := by decide +kernel
theorem dX6_good_4 : decode cX6_good 4 = .ok (.ifCond .ne 10, 3) := by decide +kernel
theorem dX6_good_7 : decode cX6_good 7 = .ok (.aload_n 0, 1) := by decide +kernel
theorem dX6_good_8 : decode cX6_good 8 = .ok (.ldc 48, 2) := by decide +kernel
theorem dX6_good_10 : decode cX6_good 10 = .ok (.invokevirtual 49, 3) := by decide +kernel
theorem dX6_good_13 : decode cX6_good 13 = .ok (.ireturn, 1) := by decide +kernel
theorem dX6_good_14 : decode cX6_good 14 = .ok (.iconst 0, 1) := by decide +kernel
theorem dX6_good_15 : decode cX6_good 15 = .ok (.istore_n 3, 1) := by decide +kernel
theorem dX6_good_16 : decode cX6_good 16 = .ok (.iconst 0, 1) := by decide +kernel
theorem dX6_good_17 : decode cX6_good 17 = .ok (.istore 4, 2) := by decide +kernel
theorem dX6_good_19 : decode cX6_good 19 = .ok (.iload 4, 2) := by decide +kernel
theorem dX6_good_21 : decode cX6_good 21 = .ok (.aload_n 0, 1) := by decide +kernel
theorem dX6_good_22 : decode cX6_good 22 = .ok (.getfield 9, 3) := by decide +kernel
theorem dX6_good_25 : decode cX6_good 25 = .ok (.iconst 0, 1) := by decide +kernel
theorem dX6_good_26 : decode cX6_good 26 = .ok (.iaload, 1) := by decide +kernel
theorem dX6_good_27 : decode cX6_good 27 = .ok (.if_icmp .ge 29, 3) := by decide +kernel
theorem dX6_good_30 : decode cX6_good 30 = .ok (.iload_n 3, 1) := by decide +kernel
theorem dX6_good_31 : decode cX6_good 31 = .ok (.ifCond .ne 13, 3) := by decide +kernel
theorem dX6_good_34 : decode cX6_good 34 = .ok (.aload_n 0, 1) := by decide +kernel
theorem dX6_good_35 : decode cX6_good 35 = .ok (.iload 4, 2) := by decide +kernel
theorem dX6_good_37 : decode cX6_good 37 = .ok (.iload_n 1, 1) := by decide +kernel
theorem dX6_good_38 : decode cX6_good 38 = .ok (.invokevirtual 122, 3) := by decide +kernel
theorem dX6_good_41 : decode cX6_good 41 = .ok (.ifCond .eq 7, 3) := by decide +kernel
theorem dX6_good_44 : decode cX6_good 44 = .ok (.iconst 1, 1) := by decide +kernel
theorem dX6_good_45 : decode cX6_good 45 = .ok (.goto 4, 3) := by decide +kernel
theorem dX6_good_48 : decode cX6_good 48 = .ok (.iconst 0, 1) := by decide +kernel
theorem dX6_good_49 : decode cX6_good 49 = .ok (.istore_n 3, 1) := by decide +kernel
theorem dX6_good_50 : decode cX6_good 50 = .ok (.iinc 4 1, 3) := by decide +kernel
theorem dX6_good_53 : decode cX6_good 53 = .ok (.goto (-34), 3) := by decide +kernel
theorem dX6_good_56 : decode cX6_good 56 = .ok (.iload_n 3, 1) := by decide +kernel
theorem dX6_good_57 : decode cX6_good 57 = .ok (.ifCond .ne 10, 3) := by decide +kernel
theorem dX6_good_60 : decode cX6_good 60 = .ok (.aload_n 0, 1) := by decide +kernel
theorem dX6_good_61 : decode cX6_good 61 = .ok (.ldc 83, 2) := by decide +kernel
theorem dX6_good_63 : decode cX6_good 63 = .ok (.invokevirtual 49, 3) := by decide +kernel
theorem dX6_good_66 : decode cX6_good 66 = .ok (.ireturn, 1) := by decide +kernel
theorem dX6_good_67 : decode cX6_good 67 = .ok (.aload_n 0, 1) := by decide +kernel
theorem dX6_good_68 : decode cX6_good 68 = .ok (.invokevirtual 107, 3) := by decide +kernel
theorem dX6_good_71 : decode cX6_good 71 = .ok (.ifCond .eq 12, 3) := by decide +kernel
theorem dX6_good_74 : decode cX6_good 74 = .ok (.aload_n 0, 1) := by decide +kernel
theorem dX6_good_75 : decode cX6_good 75 = .ok (.aload_n 0, 1) := by decide +kernel
theorem dX6_good_76 : decode cX6_good 76 = .ok (.invokevirtual 107, 3) := by decide +kernel
theorem dX6_good_79 : decode cX6_good 79 = .ok (.invokevirtual 49, 3) := by decide +kernel
theorem dX6_good_82 : decode cX6_good 82 = .ok (.ireturn, 1) := by decide +kernel
theorem dX6_good_83 : decode cX6_good 83 = .ok (.aload_n 0, 1) := by decide +kernel
theorem dX6_good_84 : decode cX6_good 84 = .ok (.sipush 4095, 3) := by decide +kernel
theorem dX6_good_87 : decode cX6_good 87 = .ok (.invokevirtual 111, 3) := by decide +kernel
theorem dX6_good_90 : decode cX6_good 90 = .ok (.iconst (-1), 1) := by decide +kernel
theorem dX6_good_91 : decode cX6_good 91 = .ok (.istore 4, 2) := by decide +kernel
theorem dX6_good_93 : decode cX6_good 93 = .ok (.iconst 0, 1) := by decide +kernel
theorem dX6_good_94 : decode cX6_good 94 = .ok (.istore 5, 2) := by decide +kernel
theorem dX6_good_96 : decode cX6_good 96 = .ok (.iload 5, 2) := by decide +kernel
theorem dX6_good_98 : decode cX6_good 98 = .ok (.aload_n 0, 1) := by decide +kernel
theorem dX6_good_99 : decode cX6_good 99 = .ok (.getfield 9, 3) := by decide +kernel
theorem dX6_good_102 : decode cX6_good 102 = .ok (.iconst 0, 1) := by decide +kernel
theorem dX6_good_103 : decode cX6_good 103 = .ok (.iaload, 1) := by decide +kernel
theorem dX6_good_104 : decode cX6_good 104 = .ok (.if_icmp .ge 42, 3) := by decide +kernel
theorem dX6_good_107 : decode cX6_good 107 = .ok (.aload_n 0, 1) := by decide +kernel
theorem dX6_good_108 : decode cX6_good 108 = .ok (.aload_n 0, 1) := by decide +kernel
theorem dX6_good_109 : decode cX6_good 109 = .ok (.getfield 28, 3) := by decide +kernel
theorem dX6_good_112 : decode cX6_good 112 = .ok (.iload 5, 2) := by decide +kernel
theorem dX6_good_114 : decode cX6_good 114 = .ok (.iaload, 1) := by decide +kernel
theorem dX6_good_115 : decode cX6_good 115 = .ok (.iload_n 1, 1) := by decide +kernel
theorem dX6_good_116 : decode cX6_good 116 = .ok (.invokevirtual 122, 3) := by decide +kernel
theorem dX6_good_119 : decode cX6_good 119 = .ok (.ifCond .eq 17, 3) := by decide +kernel
theorem dX6_good_122 : decode cX6_good 122 = .ok (.iload_n 2, 1) := by decide +kernel
theorem dX6_good_123 : decode cX6_good 123 = .ok (.ifCond .ne 8, 3) := by decide +kernel
theorem dX6_good_126 : decode cX6_good 126 = .ok (.iload 4, 2) := by decide +kernel
theorem dX6_good_128 : decode cX6_good 128 = .ok (.ifCond .ge 8, 3) := by decide +kernel
theorem dX6_good_131 : decode cX6_good 131 = .ok (.iload 5, 2) := by decide +kernel
theorem dX6_good_133 : decode cX6_good 133 = .ok (.goto 5, 3) := by decide +kernel
theorem dX6_good_136 : decode cX6_good 136 = .ok (.iload 4, 2) := by decide +kernel
theorem dX6_good_138 : decode cX6_good 138 = .ok (.istore 4, 2) := by decide +kernel
theorem dX6_good_140 : decode cX6_good 140 = .ok (.iinc 5 1, 3) := by decide +kernel
theorem dX6_good_143 : decode cX6_good 143 = .ok (.goto (-47), 3) := by decide +kernel
theorem dX6_good_146 : decode cX6_good 146 = .ok (.iload 4, 2) := by decide +kernel
theorem dX6_good_148 : decode cX6_good 148 = .ok (.ireturn, 1) := by decide +kernel
set_option maxRecDepth 20000 in
theorem ggX6_tell_X6_finding : GoodIn wsX6_tell wsX6_finding := goodIn_r _ [7, 8, 9, 10, 11, 12, 13, 14, 15, 16, 17, 18, 19, 20, 21, 22, 23, 24] (by decide +kernel) (by decide +kernel)
set_option maxRecDepth 20000 in
theorem gX6_tell_X6_finding : GoodIn wsX6_tell (wsV RX6 49 RX6 yX6_finding wsX6_finding) := goodIn_app (goodIn_of _ (by decide +kernel)) ggX6_tell_X6_finding
theorem dX6_tell_0 : decode cX6_tell 0 = .ok (.aload_n 0, 1) := by decide +kernel
theorem dX6_tell_1 : decode cX6_tell 1 = .ok (.getfield 9, 3) := by decide +kernel
theorem dX6_tell_4 : decode cX6_tell 4 = .ok (.iconst 1, 1) := by decide +kernel
theorem dX6_tell_5 : decode cX6_tell 5 = .ok (.iaload, 1) := by decide +kernel
theorem dX6_tell_6 : decode cX6_tell 6 = .ok (.bipush 12, 2) := by decide +kernel
theorem dX6_tell_8 : decode cX6_tell 8 = .ok (.if_icmp .ne 10, 3) := by decide +kernel
theorem dX6_tell_11 : decode cX6_tell 11 = .ok (.aload_n 0, 1) := by decide +kernel
theorem dX6_tell_12 : decode cX6_tell 12 = .ok (.ldc 53, 2) := by decide +kernel
theorem dX6_tell_14 : decode cX6_tell 14 = .ok (.invokevirtual 49, 3) := by decide +kernel
theorem dX6_tell_17 : decode cX6_tell 17 = .ok (.ireturn, 1) := by decide +kernel
theorem dX6_tell_18 : decode cX6_tell 18 = .ok (.aload_n 0, 1) := by decide +kernel
theorem dX6_tell_19 : decode cX6_tell 19 = .ok (.getfield 9, 3) := by decide +kernel
theorem dX6_tell_22 : decode cX6_tell 22 = .ok (.bipush 104, 2) := by decide +kernel
theorem dX6_tell_24 : decode cX6_tell 24 = .ok (.aload_n 0, 1) := by decide +kernel
theorem dX6_tell_25 : decode cX6_tell 25 = .ok (.getfield 9, 3) := by decide +kernel
theorem dX6_tell_28 : decode cX6_tell 28 = .ok (.iconst 1, 1) := by decide +kernel
theorem dX6_tell_29 : decode cX6_tell 29 = .ok (.iaload, 1) := by decide +kernel
theorem dX6_tell_30 : decode cX6_tell 30 = .ok (.iadd, 1) := by decide +kernel
theorem dX6_tell_31 : decode cX6_tell 31 = .ok (.iload_n 1, 1) := by decide +kernel
theorem dX6_tell_32 : decode cX6_tell 32 = .ok (.iastore, 1) := by decide +kernel
theorem dX6_tell_33 : decode cX6_tell 33 = .ok (.aload_n 0, 1) := by decide +kernel
theorem dX6_tell_34 : decode cX6_tell 34 = .ok (.getfield 9, 3) := by decide +kernel
theorem dX6_tell_37 : decode cX6_tell 37 = .ok (.iconst 1, 1) := by decide +kernel
theorem dX6_tell_38 : decode cX6_tell 38 = .ok (.dup2, 1) := by decide +kernel
theorem dX6_tell_39 : decode cX6_tell 39 = .ok (.iaload, 1) := by decide +kernel
theorem dX6_tell_40 : decode cX6_tell 40 = .ok (.iconst 1, 1) := by decide +kernel
theorem dX6_tell_41 : decode cX6_tell 41 = .ok (.iadd, 1) := by decide +kernel
theorem dX6_tell_42 : decode cX6_tell 42 = .ok (.iastore, 1) := by decide +kernel
theorem dX6_tell_43 : decode cX6_tell 43 = .ok (.aload_n 0, 1) := by decide +kernel
theorem dX6_tell_44 : decode cX6_tell 44 = .ok (.getfield 9, 3) := by decide +kernel
theorem dX6_tell_47 : decode cX6_tell 47 = .ok (.iconst 1, 1) := by decide +kernel
theorem dX6_tell_48 : decode cX6_tell 48 = .ok (.iaload, 1) := by decide +kernel
theorem dX6_tell_49 : decode cX6_tell 49 = .ok (.ireturn, 1) := by decide +kernel
set_option maxRecDepth 20000 in
theorem ggX6_check_X6_finding : GoodIn wsX6_check wsX6_finding := goodIn_r _ [8, 9, 36, 37, 38, 39, 40, 41, 42, 43, 44, 45, 46, 47, 48, 49, 50, 51] (by decide +kernel) (by decide +kernel)
set_option maxRecDepth 20000 in
theorem gX6_check_X6_finding : GoodIn wsX6_check (wsV RX6 49 RX6 yX6_finding wsX6_finding) := goodIn_app (goodIn_of _ (by decide +kernel)) ggX6_check_X6_finding
set_option maxRecDepth 20000 in
theorem ggX6_check_X6_isGrave : GoodIn wsX6_check wsX6_isGrave := goodIn_r _ [13, 1, 14, 15, 7, 16, 36, 37, 38, 39, 40, 41, 42, 43, 44, 45, 46, 47, 48, 49, 50, 51] (by decide +kernel) (by decide +kernel)
set_option maxRecDepth 20000 in
theorem gX6_check_X6_isGrave : GoodIn wsX6_check (wsV RX6 54 RX6 yX6_isGrave wsX6_isGrave) := goodIn_app (goodIn_of _ (by decide +kernel)) ggX6_check_X6_isGrave
set_option maxRecDepth 20000 in
theorem ggX6_check_X6_below : GoodIn wsX6_check wsX6_below := goodIn_r _ [20, 1, 36, 37, 38, 39, 40, 41, 42, 43, 44, 45, 46, 47, 48, 49, 50, 51] (by decide +kernel) (by decide +kernel)
set_option maxRecDepth 20000 in
theorem gX6_check_X6_below : GoodIn wsX6_check (wsV RX6 79 RX6 yX6_below wsX6_below) := goodIn_app (goodIn_of _ (by decide +kernel)) ggX6_check_X6_below
set_option maxRecDepth 20000 in
theorem ggX6_check_X6_holesIn : GoodIn wsX6_check wsX6_holesIn := goodIn_r _ [24, 1, 25, 26, 27, 7, 28, 29, 30, 31, 32, 33, 34, 35, 36, 37, 38, 39, 40, 41, 42, 43, 44, 45, 46, 47, 48, 49, 50, 51] (by decide +kernel) (by decide +kernel)
set_option maxRecDepth 20000 in
theorem gX6_check_X6_holesIn : GoodIn wsX6_check (wsV RX6 118 RX6 yX6_holesIn wsX6_holesIn) := goodIn_app (goodIn_of _ (by decide +kernel)) ggX6_check_X6_holesIn
theorem dX6_check_0 : decode cX6_check 0 = .ok (.aload_n 0, 1) := by decide +kernel
theorem dX6_check_1 : decode cX6_check 1 = .ok (.getfield 9, 3) := by decide +kernel
theorem dX6_check_4 : decode cX6_check 4 = .ok (.iconst 1, 1) := by decide +kernel
theorem dX6_check_5 : decode cX6_check 5 = .ok (.iaload, 1) := by decide +kernel
theorem dX6_check_6 : decode cX6_check 6 = .ok (.istore_n 1, 1) := by decide +kernel
theorem dX6_check_7 : decode cX6_check 7 = .ok (.aload_n 0, 1) := by decide +kernel
theorem dX6_check_8 : decode cX6_check 8 = .ok (.getfield 9, 3) := by decide +kernel
theorem dX6_check_11 : decode cX6_check 11 = .ok (.iconst 1, 1) := by decide +kernel
theorem dX6_check_12 : decode cX6_check 12 = .ok (.iconst 0, 1) := by decide +kernel
theorem dX6_check_13 : decode cX6_check 13 = .ok (.iastore, 1) := by decide +kernel
theorem dX6_check_14 : decode cX6_check 14 = .ok (.aload_n 0, 1) := by decide +kernel
theorem dX6_check_15 : decode cX6_check 15 = .ok (.getfield 9, 3) := by decide +kernel
theorem dX6_check_18 : decode cX6_check 18 = .ok (.iconst 0, 1) := by decide +kernel
theorem dX6_check_19 : decode cX6_check 19 = .ok (.iaload, 1) := by decide +kernel
theorem dX6_check_20 : decode cX6_check 20 = .ok (.ifCond .ne 10, 3) := by decide +kernel
theorem dX6_check_23 : decode cX6_check 23 = .ok (.aload_n 0, 1) := by decide +kernel
theorem dX6_check_24 : decode cX6_check 24 = .ok (.ldc 83, 2) := by decide +kernel
theorem dX6_check_26 : decode cX6_check 26 = .ok (.invokevirtual 49, 3) := by decide +kernel
theorem dX6_check_29 : decode cX6_check 29 = .ok (.ireturn, 1) := by decide +kernel
theorem dX6_check_30 : decode cX6_check 30 = .ok (.iconst 0, 1) := by decide +kernel
theorem dX6_check_31 : decode cX6_check 31 = .ok (.istore_n 2, 1) := by decide +kernel
theorem dX6_check_32 : decode cX6_check 32 = .ok (.iconst 0, 1) := by decide +kernel
theorem dX6_check_33 : decode cX6_check 33 = .ok (.istore_n 3, 1) := by decide +kernel
theorem dX6_check_34 : decode cX6_check 34 = .ok (.iload_n 3, 1) := by decide +kernel
theorem dX6_check_35 : decode cX6_check 35 = .ok (.aload_n 0, 1) := by decide +kernel
theorem dX6_check_36 : decode cX6_check 36 = .ok (.getfield 9, 3) := by decide +kernel
theorem dX6_check_39 : decode cX6_check 39 = .ok (.iconst 0, 1) := by decide +kernel
theorem dX6_check_40 : decode cX6_check 40 = .ok (.iaload, 1) := by decide +kernel
theorem dX6_check_41 : decode cX6_check 41 = .ok (.if_icmp .ge 80, 3) := by decide +kernel
theorem dX6_check_44 : decode cX6_check 44 = .ok (.iload_n 3, 1) := by decide +kernel
theorem dX6_check_45 : decode cX6_check 45 = .ok (.iload_n 1, 1) := by decide +kernel
theorem dX6_check_46 : decode cX6_check 46 = .ok (.if_icmp .ge 15, 3) := by decide +kernel
theorem dX6_check_49 : decode cX6_check 49 = .ok (.aload_n 0, 1) := by decide +kernel
theorem dX6_check_50 : decode cX6_check 50 = .ok (.getfield 9, 3) := by decide +kernel
theorem dX6_check_53 : decode cX6_check 53 = .ok (.bipush 104, 2) := by decide +kernel
theorem dX6_check_55 : decode cX6_check 55 = .ok (.iload_n 3, 1) := by decide +kernel
theorem dX6_check_56 : decode cX6_check 56 = .ok (.iadd, 1) := by decide +kernel
theorem dX6_check_57 : decode cX6_check 57 = .ok (.iaload, 1) := by decide +kernel
theorem dX6_check_58 : decode cX6_check 58 = .ok (.goto 4, 3) := by decide +kernel
theorem dX6_check_61 : decode cX6_check 61 = .ok (.iconst (-1), 1) := by decide +kernel
theorem dX6_check_62 : decode cX6_check 62 = .ok (.istore 4, 2) := by decide +kernel
theorem dX6_check_64 : decode cX6_check 64 = .ok (.aload_n 0, 1) := by decide +kernel
theorem dX6_check_65 : decode cX6_check 65 = .ok (.iload 4, 2) := by decide +kernel
theorem dX6_check_67 : decode cX6_check 67 = .ok (.invokevirtual 54, 3) := by decide +kernel
theorem dX6_check_70 : decode cX6_check 70 = .ok (.ifCond .eq 26, 3) := by decide +kernel
theorem dX6_check_73 : decode cX6_check 73 = .ok (.iload_n 2, 1) := by decide +kernel
theorem dX6_check_74 : decode cX6_check 74 = .ok (.iload 4, 2) := by decide +kernel
theorem dX6_check_76 : decode cX6_check 76 = .ok (.ishr, 1) := by decide +kernel
theorem dX6_check_77 : decode cX6_check 77 = .ok (.iconst 1, 1) := by decide +kernel
theorem dX6_check_78 : decode cX6_check 78 = .ok (.iand, 1) := by decide +kernel
theorem dX6_check_79 : decode cX6_check 79 = .ok (.iconst 1, 1) := by decide +kernel
theorem dX6_check_80 : decode cX6_check 80 = .ok (.if_icmp .eq 16, 3) := by decide +kernel
theorem dX6_check_83 : decode cX6_check 83 = .ok (.aload_n 0, 1) := by decide +kernel
theorem dX6_check_84 : decode cX6_check 84 = .ok (.iload 4, 2) := by decide +kernel
theorem dX6_check_86 : decode cX6_check 86 = .ok (.invokevirtual 79, 3) := by decide +kernel
theorem dX6_check_89 : decode cX6_check 89 = .ok (.iload_n 2, 1) := by decide +kernel
theorem dX6_check_90 : decode cX6_check 90 = .ok (.iconst (-1), 1) := by decide +kernel
theorem dX6_check_91 : decode cX6_check 91 = .ok (.ixor, 1) := by decide +kernel
theorem dX6_check_92 : decode cX6_check 92 = .ok (.iand, 1) := by decide +kernel
theorem dX6_check_93 : decode cX6_check 93 = .ok (.ifCond .eq 7, 3) := by decide +kernel
theorem dX6_check_96 : decode cX6_check 96 = .ok (.iconst (-1), 1) := by decide +kernel
theorem dX6_check_97 : decode cX6_check 97 = .ok (.iload_n 3, 1) := by decide +kernel
theorem dX6_check_98 : decode cX6_check 98 = .ok (.isub, 1) := by decide +kernel
theorem dX6_check_99 : decode cX6_check 99 = .ok (.ireturn, 1) := by decide +kernel
theorem dX6_check_100 : decode cX6_check 100 = .ok (.aload_n 0, 1) := by decide +kernel
theorem dX6_check_101 : decode cX6_check 101 = .ok (.getfield 31, 3) := by decide +kernel
theorem dX6_check_104 : decode cX6_check 104 = .ok (.iload_n 3, 1) := by decide +kernel
theorem dX6_check_105 : decode cX6_check 105 = .ok (.iload 4, 2) := by decide +kernel
theorem dX6_check_107 : decode cX6_check 107 = .ok (.iastore, 1) := by decide +kernel
theorem dX6_check_108 : decode cX6_check 108 = .ok (.iload_n 2, 1) := by decide +kernel
theorem dX6_check_109 : decode cX6_check 109 = .ok (.iconst 1, 1) := by decide +kernel
theorem dX6_check_110 : decode cX6_check 110 = .ok (.iload 4, 2) := by decide +kernel
theorem dX6_check_112 : decode cX6_check 112 = .ok (.ishl, 1) := by decide +kernel
theorem dX6_check_113 : decode cX6_check 113 = .ok (.ior, 1) := by decide +kernel
theorem dX6_check_114 : decode cX6_check 114 = .ok (.istore_n 2, 1) := by decide +kernel
theorem dX6_check_115 : decode cX6_check 115 = .ok (.iinc 3 1, 3) := by decide +kernel
theorem dX6_check_118 : decode cX6_check 118 = .ok (.goto (-84), 3) := by decide +kernel
theorem dX6_check_121 : decode cX6_check 121 = .ok (.iload_n 1, 1) := by decide +kernel
theorem dX6_check_122 : decode cX6_check 122 = .ok (.aload_n 0, 1) := by decide +kernel
theorem dX6_check_123 : decode cX6_check 123 = .ok (.getfield 9, 3) := by decide +kernel
theorem dX6_check_126 : decode cX6_check 126 = .ok (.iconst 0, 1) := by decide +kernel
theorem dX6_check_127 : decode cX6_check 127 = .ok (.iaload, 1) := by decide +kernel
theorem dX6_check_128 : decode cX6_check 128 = .ok (.if_icmp .le 8, 3) := by decide +kernel
theorem dX6_check_131 : decode cX6_check 131 = .ok (.bipush (-12), 2) := by decide +kernel
theorem dX6_check_133 : decode cX6_check 133 = .ok (.goto 14, 3) := by decide +kernel
theorem dX6_check_136 : decode cX6_check 136 = .ok (.aload_n 0, 1) := by decide +kernel
theorem dX6_check_137 : decode cX6_check 137 = .ok (.aload_n 0, 1) := by decide +kernel
theorem dX6_check_138 : decode cX6_check 138 = .ok (.getfield 31, 3) := by decide +kernel
theorem dX6_check_141 : decode cX6_check 141 = .ok (.sipush 4095, 3) := by decide +kernel
theorem dX6_check_144 : decode cX6_check 144 = .ok (.invokevirtual 118, 3) := by decide +kernel
theorem dX6_check_147 : decode cX6_check 147 = .ok (.ireturn, 1) := by decide +kernel
set_option maxRecDepth 20000 in
theorem ggX6_without_X6_isGood : GoodIn wsX6_without wsX6_isGood := goodIn_r _ [6, 7, 8, 5, 9] (by decide +kernel) (by decide +kernel)
set_option maxRecDepth 20000 in
theorem gX6_without_X6_isGood : GoodIn wsX6_without (va_wsS RX6 115 yX6_isGood wsX6_isGood) := goodIn_app (goodIn_of _ (by decide +kernel)) ggX6_without_X6_isGood
set_option maxRecDepth 20000 in
theorem ggX6_without_X6_finding : GoodIn wsX6_without wsX6_finding := goodIn_r _ [13, 14, 46, 47, 48, 49, 50, 51, 52, 53, 54, 55, 56, 57, 58, 59, 60, 61] (by decide +kernel) (by decide +kernel)
set_option maxRecDepth 20000 in
theorem gX6_without_X6_finding : GoodIn wsX6_without (wsV RX6 49 RX6 yX6_finding wsX6_finding) := goodIn_app (goodIn_of _ (by decide +kernel)) ggX6_without_X6_finding
set_option maxRecDepth 20000 in
theorem ggX6_without_X6_noOrder : GoodIn wsX6_without wsX6_noOrder := goodIn_r _ [18, 19, 20, 21, 46, 47, 48, 49, 50, 51, 52, 53, 54, 55, 56, 57, 58, 59, 60, 61] (by decide +kernel) (by decide +kernel)
set_option maxRecDepth 20000 in
theorem gX6_without_X6_noOrder : GoodIn wsX6_without (wsV RX6 107 RX6 yX6_noOrder wsX6_noOrder) := goodIn_app (goodIn_of _ (by decide +kernel)) ggX6_without_X6_noOrder
set_option maxRecDepth 20000 in
theorem ggX6_without_X6_search : GoodIn wsX6_without wsX6_search := goodIn_r _ [25, 19, 2, 26, 27, 28, 29, 30, 31, 32, 5, 33, 34, 35, 36, 37, 38, 39, 40, 41, 42, 43, 44, 45, 46, 47, 48, 49, 50, 51, 52, 53, 54, 55, 56, 57, 58, 59, 60, 61] (by decide +kernel) (by decide +kernel)
set_option maxRecDepth 20000 in
theorem gX6_without_X6_search : GoodIn wsX6_without (wsV RX6 111 RX6 yX6_search wsX6_search) := goodIn_app (goodIn_of _ (by decide +kernel)) ggX6_without_X6_search
theorem dX6_without_0 : decode cX6_without 0 = .ok (.iload_n 1, 1) := by decide +kernel
theorem dX6_without_1 : decode cX6_without 1 = .ok (.invokestatic 115, 3) := by decide +kernel
theorem dX6_without_4 : decode cX6_without 4 = .ok (.ifCond .ne 10, 3) := by decide +kernel
theorem dX6_without_7 : decode cX6_without 7 = .ok (.aload_n 0, 1) := by decide +kernel
theorem dX6_without_8 : decode cX6_without 8 = .ok (.ldc 48, 2) := by decide +kernel
theorem dX6_without_10 : decode cX6_without 10 = .ok (.invokevirtual 49, 3) := by decide +kernel
theorem dX6_without_13 : decode cX6_without 13 = .ok (.ireturn, 1) := by decide +kernel
theorem dX6_without_14 : decode cX6_without 14 = .ok (.aload_n 0, 1) := by decide +kernel
theorem dX6_without_15 : decode cX6_without 15 = .ok (.invokevirtual 107, 3) := by decide +kernel
theorem dX6_without_18 : decode cX6_without 18 = .ok (.ifCond .eq 12, 3) := by decide +kernel
theorem dX6_without_21 : decode cX6_without 21 = .ok (.aload_n 0, 1) := by decide +kernel
theorem dX6_without_22 : decode cX6_without 22 = .ok (.aload_n 0, 1) := by decide +kernel
theorem dX6_without_23 : decode cX6_without 23 = .ok (.invokevirtual 107, 3) := by decide +kernel
theorem dX6_without_26 : decode cX6_without 26 = .ok (.invokevirtual 49, 3) := by decide +kernel
theorem dX6_without_29 : decode cX6_without 29 = .ok (.ireturn, 1) := by decide +kernel
theorem dX6_without_30 : decode cX6_without 30 = .ok (.aload_n 0, 1) := by decide +kernel
theorem dX6_without_31 : decode cX6_without 31 = .ok (.sipush 4095, 3) := by decide +kernel
theorem dX6_without_34 : decode cX6_without 34 = .ok (.iconst 1, 1) := by decide +kernel
theorem dX6_without_35 : decode cX6_without 35 = .ok (.iload_n 1, 1) := by decide +kernel
theorem dX6_without_36 : decode cX6_without 36 = .ok (.ishl, 1) := by decide +kernel
theorem dX6_without_37 : decode cX6_without 37 = .ok (.iconst (-1), 1) := by decide +kernel
theorem dX6_without_38 : decode cX6_without 38 = .ok (.ixor, 1) := by decide +kernel
theorem dX6_without_39 : decode cX6_without 39 = .ok (.iand, 1) := by decide +kernel
theorem dX6_without_40 : decode cX6_without 40 = .ok (.invokevirtual 111, 3) := by decide +kernel
theorem dX6_without_43 : decode cX6_without 43 = .ok (.aload_n 0, 1) := by decide +kernel
theorem dX6_without_44 : decode cX6_without 44 = .ok (.getfield 92, 3) := by decide +kernel
theorem dX6_without_47 : decode cX6_without 47 = .ok (.ireturn, 1) := by decide +kernel
set_option maxRecDepth 20000 in
theorem ggX6_ways_X6_noOrder : GoodIn wsX6_ways wsX6_noOrder := goodIn_r _ [6, 7, 8, 9, 39, 40, 41, 42, 43, 44, 45, 46, 47, 48, 49, 50, 51, 52, 53, 54] (by decide +kernel) (by decide +kernel)
set_option maxRecDepth 20000 in
theorem gX6_ways_X6_noOrder : GoodIn wsX6_ways (wsV RX6 107 RX6 yX6_noOrder wsX6_noOrder) := goodIn_app (goodIn_of _ (by decide +kernel)) ggX6_ways_X6_noOrder
set_option maxRecDepth 20000 in
theorem ggX6_ways_X6_finding : GoodIn wsX6_ways wsX6_finding := goodIn_r _ [13, 14, 39, 40, 41, 42, 43, 44, 45, 46, 47, 48, 49, 50, 51, 52, 53, 54] (by decide +kernel) (by decide +kernel)
set_option maxRecDepth 20000 in
theorem gX6_ways_X6_finding : GoodIn wsX6_ways (wsV RX6 49 RX6 yX6_finding wsX6_finding) := goodIn_app (goodIn_of _ (by decide +kernel)) ggX6_ways_X6_finding
set_option maxRecDepth 20000 in
theorem ggX6_ways_X6_search : GoodIn wsX6_ways wsX6_search := goodIn_r _ [18, 7, 19, 1, 20, 21, 22, 23, 24, 25, 5, 26, 27, 28, 29, 30, 31, 32, 33, 34, 35, 36, 37, 38, 39, 40, 41, 42, 43, 44, 45, 46, 47, 48, 49, 50, 51, 52, 53, 54] (by decide +kernel) (by decide +kernel)
set_option maxRecDepth 20000 in
theorem gX6_ways_X6_search : GoodIn wsX6_ways (wsV RX6 111 RX6 yX6_search wsX6_search) := goodIn_app (goodIn_of _ (by decide +kernel)) ggX6_ways_X6_search
theorem dX6_ways_0 : decode cX6_ways 0 = .ok (.aload_n 0, 1) := by decide +kernel
theorem dX6_ways_1 : decode cX6_ways 1 = .ok (.invokevirtual 107, 3) := by decide +kernel
theorem dX6_ways_4 : decode cX6_ways 4 = .ok (.ifCond .eq 12, 3) := by decide +kernel
theorem dX6_ways_7 : decode cX6_ways 7 = .ok (.aload_n 0, 1) := by decide +kernel
theorem dX6_ways_8 : decode cX6_ways 8 = .ok (.aload_n 0, 1) := by decide +kernel
theorem dX6_ways_9 : decode cX6_ways 9 = .ok (.invokevirtual 107, 3) := by decide +kernel
theorem dX6_ways_12 : decode cX6_ways 12 = .ok (.invokevirtual 49, 3) := by decide +kernel
theorem dX6_ways_15 : decode cX6_ways 15 = .ok (.ireturn, 1) := by decide +kernel
theorem dX6_ways_16 : decode cX6_ways 16 = .ok (.aload_n 0, 1) := by decide +kernel
theorem dX6_ways_17 : decode cX6_ways 17 = .ok (.sipush 4095, 3) := by decide +kernel
theorem dX6_ways_20 : decode cX6_ways 20 = .ok (.invokevirtual 111, 3) := by decide +kernel
theorem dX6_ways_23 : decode cX6_ways 23 = .ok (.aload_n 0, 1) := by decide +kernel
theorem dX6_ways_24 : decode cX6_ways 24 = .ok (.getfield 95, 3) := by decide +kernel
theorem dX6_ways_27 : decode cX6_ways 27 = .ok (.ireturn, 1) := by decide +kernel
set_option maxRecDepth 20000 in
theorem ggX6_goesOn_X6_many : GoodIn wsX6_goesOn wsX6_many := goodIn_r _ [6] (by decide +kernel) (by decide +kernel)
set_option maxRecDepth 20000 in
theorem gX6_goesOn_X6_many : GoodIn wsX6_goesOn (va_wsS RX6 63 yX6_many wsX6_many) := goodIn_app (goodIn_of _ (by decide +kernel)) ggX6_goesOn_X6_many
theorem dX6_goesOn_0 : decode cX6_goesOn 0 = .ok (.iconst 0, 1) := by decide +kernel
theorem dX6_goesOn_1 : decode cX6_goesOn 1 = .ok (.istore_n 2, 1) := by decide +kernel
theorem dX6_goesOn_2 : decode cX6_goesOn 2 = .ok (.iconst 0, 1) := by decide +kernel
theorem dX6_goesOn_3 : decode cX6_goesOn 3 = .ok (.istore_n 3, 1) := by decide +kernel
theorem dX6_goesOn_4 : decode cX6_goesOn 4 = .ok (.iconst 0, 1) := by decide +kernel
theorem dX6_goesOn_5 : decode cX6_goesOn 5 = .ok (.istore 4, 2) := by decide +kernel
theorem dX6_goesOn_7 : decode cX6_goesOn 7 = .ok (.iload 4, 2) := by decide +kernel
theorem dX6_goesOn_9 : decode cX6_goesOn 9 = .ok (.aload_n 0, 1) := by decide +kernel
theorem dX6_goesOn_10 : decode cX6_goesOn 10 = .ok (.getfield 9, 3) := by decide +kernel
theorem dX6_goesOn_13 : decode cX6_goesOn 13 = .ok (.iconst 0, 1) := by decide +kernel
theorem dX6_goesOn_14 : decode cX6_goesOn 14 = .ok (.iaload, 1) := by decide +kernel
theorem dX6_goesOn_15 : decode cX6_goesOn 15 = .ok (.if_icmp .ge 65, 3) := by decide +kernel
theorem dX6_goesOn_18 : decode cX6_goesOn 18 = .ok (.iload_n 2, 1) := by decide +kernel
theorem dX6_goesOn_19 : decode cX6_goesOn 19 = .ok (.iload 4, 2) := by decide +kernel
theorem dX6_goesOn_21 : decode cX6_goesOn 21 = .ok (.iload_n 1, 1) := by decide +kernel
theorem dX6_goesOn_22 : decode cX6_goesOn 22 = .ok (.if_icmp .ge 21, 3) := by decide +kernel
theorem dX6_goesOn_25 : decode cX6_goesOn 25 = .ok (.aload_n 0, 1) := by decide +kernel
theorem dX6_goesOn_26 : decode cX6_goesOn 26 = .ok (.getfield 9, 3) := by decide +kernel
theorem dX6_goesOn_29 : decode cX6_goesOn 29 = .ok (.bipush 32, 2) := by decide +kernel
theorem dX6_goesOn_31 : decode cX6_goesOn 31 = .ok (.aload_n 0, 1) := by decide +kernel
theorem dX6_goesOn_32 : decode cX6_goesOn 32 = .ok (.getfield 28, 3) := by decide +kernel
theorem dX6_goesOn_35 : decode cX6_goesOn 35 = .ok (.iload 4, 2) := by decide +kernel
theorem dX6_goesOn_37 : decode cX6_goesOn 37 = .ok (.iaload, 1) := by decide +kernel
theorem dX6_goesOn_38 : decode cX6_goesOn 38 = .ok (.iadd, 1) := by decide +kernel
theorem dX6_goesOn_39 : decode cX6_goesOn 39 = .ok (.iaload, 1) := by decide +kernel
theorem dX6_goesOn_40 : decode cX6_goesOn 40 = .ok (.goto 4, 3) := by decide +kernel
theorem dX6_goesOn_43 : decode cX6_goesOn 43 = .ok (.iconst 0, 1) := by decide +kernel
theorem dX6_goesOn_44 : decode cX6_goesOn 44 = .ok (.ior, 1) := by decide +kernel
theorem dX6_goesOn_45 : decode cX6_goesOn 45 = .ok (.istore_n 2, 1) := by decide +kernel
theorem dX6_goesOn_46 : decode cX6_goesOn 46 = .ok (.iload_n 3, 1) := by decide +kernel
theorem dX6_goesOn_47 : decode cX6_goesOn 47 = .ok (.iload 4, 2) := by decide +kernel
theorem dX6_goesOn_49 : decode cX6_goesOn 49 = .ok (.iload_n 1, 1) := by decide +kernel
theorem dX6_goesOn_50 : decode cX6_goesOn 50 = .ok (.if_icmp .ge 7, 3) := by decide +kernel
theorem dX6_goesOn_53 : decode cX6_goesOn 53 = .ok (.iconst 0, 1) := by decide +kernel
theorem dX6_goesOn_54 : decode cX6_goesOn 54 = .ok (.goto 18, 3) := by decide +kernel
theorem dX6_goesOn_57 : decode cX6_goesOn 57 = .ok (.aload_n 0, 1) := by decide +kernel
theorem dX6_goesOn_58 : decode cX6_goesOn 58 = .ok (.getfield 9, 3) := by decide +kernel
theorem dX6_goesOn_61 : decode cX6_goesOn 61 = .ok (.bipush 32, 2) := by decide +kernel
theorem dX6_goesOn_63 : decode cX6_goesOn 63 = .ok (.aload_n 0, 1) := by decide +kernel
theorem dX6_goesOn_64 : decode cX6_goesOn 64 = .ok (.getfield 28, 3) := by decide +kernel
theorem dX6_goesOn_67 : decode cX6_goesOn 67 = .ok (.iload 4, 2) := by decide +kernel
theorem dX6_goesOn_69 : decode cX6_goesOn 69 = .ok (.iaload, 1) := by decide +kernel
theorem dX6_goesOn_70 : decode cX6_goesOn 70 = .ok (.iadd, 1) := by decide +kernel
theorem dX6_goesOn_71 : decode cX6_goesOn 71 = .ok (.iaload, 1) := by decide +kernel
theorem dX6_goesOn_72 : decode cX6_goesOn 72 = .ok (.ior, 1) := by decide +kernel
theorem dX6_goesOn_73 : decode cX6_goesOn 73 = .ok (.istore_n 3, 1) := by decide +kernel
theorem dX6_goesOn_74 : decode cX6_goesOn 74 = .ok (.iinc 4 1, 3) := by decide +kernel
theorem dX6_goesOn_77 : decode cX6_goesOn 77 = .ok (.goto (-70), 3) := by decide +kernel
theorem dX6_goesOn_80 : decode cX6_goesOn 80 = .ok (.iload_n 2, 1) := by decide +kernel
theorem dX6_goesOn_81 : decode cX6_goesOn 81 = .ok (.iload_n 3, 1) := by decide +kernel
theorem dX6_goesOn_82 : decode cX6_goesOn 82 = .ok (.iand, 1) := by decide +kernel
theorem dX6_goesOn_83 : decode cX6_goesOn 83 = .ok (.invokestatic 63, 3) := by decide +kernel
theorem dX6_goesOn_86 : decode cX6_goesOn 86 = .ok (.ireturn, 1) := by decide +kernel
set_option maxRecDepth 20000 in
theorem ggX6_part_X6_many : GoodIn wsX6_part wsX6_many := goodIn_r _ [7] (by decide +kernel) (by decide +kernel)
set_option maxRecDepth 20000 in
theorem gX6_part_X6_many : GoodIn wsX6_part (va_wsS RX6 63 yX6_many wsX6_many) := goodIn_app (goodIn_of _ (by decide +kernel)) ggX6_part_X6_many
set_option maxRecDepth 20000 in
theorem ggX6_part_X6_goesOn : GoodIn wsX6_part wsX6_goesOn := goodIn_r _ [11, 3, 12, 4, 5, 6, 7, 16, 17, 18, 19, 20, 21, 22, 23, 24, 25, 26, 27, 28, 29, 30, 31] (by decide +kernel) (by decide +kernel)
set_option maxRecDepth 20000 in
theorem gX6_part_X6_goesOn : GoodIn wsX6_part (wsV RX6 131 RX6 yX6_goesOn wsX6_goesOn) := goodIn_app (goodIn_of _ (by decide +kernel)) ggX6_part_X6_goesOn
set_option maxRecDepth 20000 in
theorem ggX6_part_X6_isEarlier : GoodIn wsX6_part wsX6_isEarlier := goodIn_r _ [15] (by decide +kernel) (by decide +kernel)
set_option maxRecDepth 20000 in
theorem gX6_part_X6_isEarlier : GoodIn wsX6_part (va_wsS RX6 134 yX6_isEarlier wsX6_isEarlier) := goodIn_app (goodIn_of _ (by decide +kernel)) ggX6_part_X6_isEarlier
theorem dX6_part_0 : decode cX6_part 0 = .ok (.aload_n 0, 1) := by decide +kernel
theorem dX6_part_1 : decode cX6_part 1 = .ok (.sipush 1000, 3) := by decide +kernel
theorem dX6_part_4 : decode cX6_part 4 = .ok (.putfield 125, 3) := by decide +kernel
theorem dX6_part_7 : decode cX6_part 7 = .ok (.aload_n 0, 1) := by decide +kernel
theorem dX6_part_8 : decode cX6_part 8 = .ok (.iconst 0, 1) := by decide +kernel
theorem dX6_part_9 : decode cX6_part 9 = .ok (.putfield 128, 3) := by decide +kernel
theorem dX6_part_12 : decode cX6_part 12 = .ok (.iconst 0, 1) := by decide +kernel
theorem dX6_part_13 : decode cX6_part 13 = .ok (.istore_n 2, 1) := by decide +kernel
theorem dX6_part_14 : decode cX6_part 14 = .ok (.iload_n 2, 1) := by decide +kernel
theorem dX6_part_15 : decode cX6_part 15 = .ok (.iconst 1, 1) := by decide +kernel
theorem dX6_part_16 : decode cX6_part 16 = .ok (.aload_n 0, 1) := by decide +kernel
theorem dX6_part_17 : decode cX6_part 17 = .ok (.getfield 9, 3) := by decide +kernel
theorem dX6_part_20 : decode cX6_part 20 = .ok (.iconst 0, 1) := by decide +kernel
theorem dX6_part_21 : decode cX6_part 21 = .ok (.iaload, 1) := by decide +kernel
theorem dX6_part_22 : decode cX6_part 22 = .ok (.ishl, 1) := by decide +kernel
theorem dX6_part_23 : decode cX6_part 23 = .ok (.if_icmp .ge 104, 3) := by decide +kernel
theorem dX6_part_26 : decode cX6_part 26 = .ok (.iload_n 2, 1) := by decide +kernel
theorem dX6_part_27 : decode cX6_part 27 = .ok (.invokestatic 63, 3) := by decide +kernel
theorem dX6_part_30 : decode cX6_part 30 = .ok (.iload_n 1, 1) := by decide +kernel
theorem dX6_part_31 : decode cX6_part 31 = .ok (.iconst 1, 1) := by decide +kernel
theorem dX6_part_32 : decode cX6_part 32 = .ok (.isub, 1) := by decide +kernel
theorem dX6_part_33 : decode cX6_part 33 = .ok (.if_icmp .eq 6, 3) := by decide +kernel
theorem dX6_part_36 : decode cX6_part 36 = .ok (.goto 85, 3) := by decide +kernel
theorem dX6_part_39 : decode cX6_part 39 = .ok (.iconst 0, 1) := by decide +kernel
theorem dX6_part_40 : decode cX6_part 40 = .ok (.istore_n 3, 1) := by decide +kernel
theorem dX6_part_41 : decode cX6_part 41 = .ok (.iconst 1, 1) := by decide +kernel
theorem dX6_part_42 : decode cX6_part 42 = .ok (.istore 4, 2) := by decide +kernel
theorem dX6_part_44 : decode cX6_part 44 = .ok (.iload 4, 2) := by decide +kernel
theorem dX6_part_46 : decode cX6_part 46 = .ok (.aload_n 0, 1) := by decide +kernel
theorem dX6_part_47 : decode cX6_part 47 = .ok (.getfield 9, 3) := by decide +kernel
theorem dX6_part_50 : decode cX6_part 50 = .ok (.iconst 0, 1) := by decide +kernel
theorem dX6_part_51 : decode cX6_part 51 = .ok (.iaload, 1) := by decide +kernel
theorem dX6_part_52 : decode cX6_part 52 = .ok (.if_icmp .ge 32, 3) := by decide +kernel
theorem dX6_part_55 : decode cX6_part 55 = .ok (.iload_n 3, 1) := by decide +kernel
theorem dX6_part_56 : decode cX6_part 56 = .ok (.iload_n 2, 1) := by decide +kernel
theorem dX6_part_57 : decode cX6_part 57 = .ok (.iload 4, 2) := by decide +kernel
theorem dX6_part_59 : decode cX6_part 59 = .ok (.ishr, 1) := by decide +kernel
theorem dX6_part_60 : decode cX6_part 60 = .ok (.iconst 1, 1) := by decide +kernel
theorem dX6_part_61 : decode cX6_part 61 = .ok (.iand, 1) := by decide +kernel
theorem dX6_part_62 : decode cX6_part 62 = .ok (.iconst 1, 1) := by decide +kernel
theorem dX6_part_63 : decode cX6_part 63 = .ok (.if_icmp .ne 12, 3) := by decide +kernel
theorem dX6_part_66 : decode cX6_part 66 = .ok (.aload_n 0, 1) := by decide +kernel
theorem dX6_part_67 : decode cX6_part 67 = .ok (.iload 4, 2) := by decide +kernel
theorem dX6_part_69 : decode cX6_part 69 = .ok (.invokevirtual 131, 3) := by decide +kernel
theorem dX6_part_72 : decode cX6_part 72 = .ok (.goto 4, 3) := by decide +kernel
theorem dX6_part_75 : decode cX6_part 75 = .ok (.iconst 0, 1) := by decide +kernel
theorem dX6_part_76 : decode cX6_part 76 = .ok (.iadd, 1) := by decide +kernel
theorem dX6_part_77 : decode cX6_part 77 = .ok (.istore_n 3, 1) := by decide +kernel
theorem dX6_part_78 : decode cX6_part 78 = .ok (.iinc 4 1, 3) := by decide +kernel
theorem dX6_part_81 : decode cX6_part 81 = .ok (.goto (-37), 3) := by decide +kernel
theorem dX6_part_84 : decode cX6_part 84 = .ok (.iload_n 3, 1) := by decide +kernel
theorem dX6_part_85 : decode cX6_part 85 = .ok (.aload_n 0, 1) := by decide +kernel
theorem dX6_part_86 : decode cX6_part 86 = .ok (.getfield 125, 3) := by decide +kernel
theorem dX6_part_89 : decode cX6_part 89 = .ok (.if_icmp .lt 22, 3) := by decide +kernel
theorem dX6_part_92 : decode cX6_part 92 = .ok (.iload_n 3, 1) := by decide +kernel
theorem dX6_part_93 : decode cX6_part 93 = .ok (.aload_n 0, 1) := by decide +kernel
theorem dX6_part_94 : decode cX6_part 94 = .ok (.getfield 125, 3) := by decide +kernel
theorem dX6_part_97 : decode cX6_part 97 = .ok (.if_icmp .ne 24, 3) := by decide +kernel
theorem dX6_part_100 : decode cX6_part 100 = .ok (.iload_n 2, 1) := by decide +kernel
theorem dX6_part_101 : decode cX6_part 101 = .ok (.aload_n 0, 1) := by decide +kernel
theorem dX6_part_102 : decode cX6_part 102 = .ok (.getfield 128, 3) := by decide +kernel
theorem dX6_part_105 : decode cX6_part 105 = .ok (.invokestatic 134, 3) := by decide +kernel
theorem dX6_part_108 : decode cX6_part 108 = .ok (.ifCond .eq 13, 3) := by decide +kernel
theorem dX6_part_111 : decode cX6_part 111 = .ok (.aload_n 0, 1) := by decide +kernel
theorem dX6_part_112 : decode cX6_part 112 = .ok (.iload_n 3, 1) := by decide +kernel
theorem dX6_part_113 : decode cX6_part 113 = .ok (.putfield 125, 3) := by decide +kernel
theorem dX6_part_116 : decode cX6_part 116 = .ok (.aload_n 0, 1) := by decide +kernel
theorem dX6_part_117 : decode cX6_part 117 = .ok (.iload_n 2, 1) := by decide +kernel
theorem dX6_part_118 : decode cX6_part 118 = .ok (.putfield 128, 3) := by decide +kernel
theorem dX6_part_121 : decode cX6_part 121 = .ok (.iinc 2 2, 3) := by decide +kernel
theorem dX6_part_124 : decode cX6_part 124 = .ok (.goto (-110), 3) := by decide +kernel
theorem dX6_part_127 : decode cX6_part 127 = .ok (.return_, 1) := by decide +kernel
theorem dX6_isEarlier_0 : decode cX6_isEarlier 0 = .ok (.iload_n 0, 1) := by decide +kernel
theorem dX6_isEarlier_1 : decode cX6_isEarlier 1 = .ok (.iload_n 1, 1) := by decide +kernel
theorem dX6_isEarlier_2 : decode cX6_isEarlier 2 = .ok (.ixor, 1) := by decide +kernel
theorem dX6_isEarlier_3 : decode cX6_isEarlier 3 = .ok (.istore_n 2, 1) := by decide +kernel
theorem dX6_isEarlier_4 : decode cX6_isEarlier 4 = .ok (.iload_n 0, 1) := by decide +kernel
theorem dX6_isEarlier_5 : decode cX6_isEarlier 5 = .ok (.iload_n 2, 1) := by decide +kernel
theorem dX6_isEarlier_6 : decode cX6_isEarlier 6 = .ok (.iand, 1) := by decide +kernel
theorem dX6_isEarlier_7 : decode cX6_isEarlier 7 = .ok (.iload_n 2, 1) := by decide +kernel
theorem dX6_isEarlier_8 : decode cX6_isEarlier 8 = .ok (.ineg, 1) := by decide +kernel
theorem dX6_isEarlier_9 : decode cX6_isEarlier 9 = .ok (.iand, 1) := by decide +kernel
theorem dX6_isEarlier_10 : decode cX6_isEarlier 10 = .ok (.ifCond .eq 7, 3) := by decide +kernel
theorem dX6_isEarlier_13 : decode cX6_isEarlier 13 = .ok (.iconst 1, 1) := by decide +kernel
theorem dX6_isEarlier_14 : decode cX6_isEarlier 14 = .ok (.goto 4, 3) := by decide +kernel
theorem dX6_isEarlier_17 : decode cX6_isEarlier 17 = .ok (.iconst 0, 1) := by decide +kernel
theorem dX6_isEarlier_18 : decode cX6_isEarlier 18 = .ok (.ireturn, 1) := by decide +kernel
set_option maxRecDepth 20000 in
theorem ggX6_noStretches_X6_noOrder : GoodIn wsX6_noStretches wsX6_noOrder := goodIn_r _ [7, 1, 8, 9, 13, 14, 15, 16, 17, 18, 19, 20, 21, 22, 23, 24, 25, 26, 27, 28] (by decide +kernel) (by decide +kernel)
set_option maxRecDepth 20000 in
theorem gX6_noStretches_X6_noOrder : GoodIn wsX6_noStretches (wsV RX6 107 RX6 yX6_noOrder wsX6_noOrder) := goodIn_app (goodIn_of _ (by decide +kernel)) ggX6_noStretches_X6_noOrder
set_option maxRecDepth 20000 in
theorem ggX6_noStretches_X6_within : GoodIn wsX6_noStretches wsX6_within := goodIn_r _ [12] (by decide +kernel) (by decide +kernel)
set_option maxRecDepth 20000 in
theorem gX6_noStretches_X6_within : GoodIn wsX6_noStretches (va_wsS RX6 44 yX6_within wsX6_within) := goodIn_app (goodIn_of _ (by decide +kernel)) ggX6_noStretches_X6_within
theorem dX6_noStretches_0 : decode cX6_noStretches 0 = .ok (.aload_n 0, 1) := by decide +kernel
theorem dX6_noStretches_1 : decode cX6_noStretches 1 = .ok (.invokevirtual 107, 3) := by decide +kernel
theorem dX6_noStretches_4 : decode cX6_noStretches 4 = .ok (.ifCond .eq 10, 3) := by decide +kernel
theorem dX6_noStretches_7 : decode cX6_noStretches 7 = .ok (.aload_n 0, 1) := by decide +kernel
theorem dX6_noStretches_8 : decode cX6_noStretches 8 = .ok (.invokevirtual 107, 3) := by decide +kernel
theorem dX6_noStretches_11 : decode cX6_noStretches 11 = .ok (.goto 23, 3) := by decide +kernel
theorem dX6_noStretches_14 : decode cX6_noStretches 14 = .ok (.iload_n 1, 1) := by decide +kernel
theorem dX6_noStretches_15 : decode cX6_noStretches 15 = .ok (.iconst 1, 1) := by decide +kernel
theorem dX6_noStretches_16 : decode cX6_noStretches 16 = .ok (.aload_n 0, 1) := by decide +kernel
theorem dX6_noStretches_17 : decode cX6_noStretches 17 = .ok (.getfield 9, 3) := by decide +kernel
theorem dX6_noStretches_20 : decode cX6_noStretches 20 = .ok (.iconst 0, 1) := by decide +kernel
theorem dX6_noStretches_21 : decode cX6_noStretches 21 = .ok (.iaload, 1) := by decide +kernel
theorem dX6_noStretches_22 : decode cX6_noStretches 22 = .ok (.invokestatic 44, 3) := by decide +kernel
theorem dX6_noStretches_25 : decode cX6_noStretches 25 = .ok (.ifCond .eq 7, 3) := by decide +kernel
theorem dX6_noStretches_28 : decode cX6_noStretches 28 = .ok (.iconst 0, 1) := by decide +kernel
theorem dX6_noStretches_29 : decode cX6_noStretches 29 = .ok (.goto 5, 3) := by decide +kernel
theorem dX6_noStretches_32 : decode cX6_noStretches 32 = .ok (.ldc 48, 2) := by decide +kernel
theorem dX6_noStretches_34 : decode cX6_noStretches 34 = .ok (.ireturn, 1) := by decide +kernel
set_option maxRecDepth 20000 in
theorem ggX6_stretches_X6_noStretches : GoodIn wsX6_stretches wsX6_noStretches := goodIn_r _ [6, 7, 8, 9, 10, 11, 5, 12, 13, 14, 15, 16, 17, 60, 61, 62, 63, 64, 65, 66, 67, 68, 69, 70, 71, 72, 73, 74, 75] (by decide +kernel) (by decide +kernel)
set_option maxRecDepth 20000 in
theorem gX6_stretches_X6_noStretches : GoodIn wsX6_stretches (wsV RX6 137 RX6 yX6_noStretches wsX6_noStretches) := goodIn_app (goodIn_of _ (by decide +kernel)) ggX6_stretches_X6_noStretches
set_option maxRecDepth 20000 in
theorem ggX6_stretches_X6_finding : GoodIn wsX6_stretches wsX6_finding := goodIn_r _ [21, 22, 60, 61, 62, 63, 64, 65, 66, 67, 68, 69, 70, 71, 72, 73, 74, 75] (by decide +kernel) (by decide +kernel)
set_option maxRecDepth 20000 in
theorem gX6_stretches_X6_finding : GoodIn wsX6_stretches (wsV RX6 49 RX6 yX6_finding wsX6_finding) := goodIn_app (goodIn_of _ (by decide +kernel)) ggX6_stretches_X6_finding
set_option maxRecDepth 20000 in
theorem ggX6_stretches_X6_search : GoodIn wsX6_stretches wsX6_search := goodIn_r _ [26, 7, 27, 28, 29, 30, 31, 32, 33, 34, 5, 35, 36, 37, 38, 39, 40, 41, 42, 43, 44, 45, 46, 47, 60, 61, 62, 63, 64, 65, 66, 67, 68, 69, 70, 71, 72, 73, 74, 75] (by decide +kernel) (by decide +kernel)
set_option maxRecDepth 20000 in
theorem gX6_stretches_X6_search : GoodIn wsX6_stretches (wsV RX6 111 RX6 yX6_search wsX6_search) := goodIn_app (goodIn_of _ (by decide +kernel)) ggX6_stretches_X6_search
set_option maxRecDepth 20000 in
theorem ggX6_stretches_X6_part : GoodIn wsX6_stretches wsX6_part := goodIn_r _ [51, 1, 52, 7, 40, 41, 5, 42, 53, 54, 55, 56, 47, 57, 58, 59, 60, 61, 62, 63, 64, 65, 66, 67, 68, 69, 70, 71, 72, 73, 74, 75] (by decide +kernel) (by decide +kernel)
set_option maxRecDepth 20000 in
theorem gX6_stretches_X6_part : GoodIn wsX6_stretches (wsV RX6 140 RX6 yX6_part wsX6_part) := goodIn_app (goodIn_of _ (by decide +kernel)) ggX6_stretches_X6_part
theorem dX6_stretches_0 : decode cX6_stretches 0 = .ok (.aload_n 0, 1) := by decide +kernel
theorem dX6_stretches_1 : decode cX6_stretches 1 = .ok (.iload_n 1, 1) := by decide +kernel
theorem dX6_stretches_2 : decode cX6_stretches 2 = .ok (.invokevirtual 137, 3) := by decide +kernel
theorem dX6_stretches_5 : decode cX6_stretches 5 = .ok (.ifCond .eq 13, 3) := by decide +kernel
theorem dX6_stretches_8 : decode cX6_stretches 8 = .ok (.aload_n 0, 1) := by decide +kernel
theorem dX6_stretches_9 : decode cX6_stretches 9 = .ok (.aload_n 0, 1) := by decide +kernel
theorem dX6_stretches_10 : decode cX6_stretches 10 = .ok (.iload_n 1, 1) := by decide +kernel
theorem dX6_stretches_11 : decode cX6_stretches 11 = .ok (.invokevirtual 137, 3) := by decide +kernel
theorem dX6_stretches_14 : decode cX6_stretches 14 = .ok (.invokevirtual 49, 3) := by decide +kernel
theorem dX6_stretches_17 : decode cX6_stretches 17 = .ok (.ireturn, 1) := by decide +kernel
theorem dX6_stretches_18 : decode cX6_stretches 18 = .ok (.aload_n 0, 1) := by decide +kernel
theorem dX6_stretches_19 : decode cX6_stretches 19 = .ok (.sipush 4095, 3) := by decide +kernel
theorem dX6_stretches_22 : decode cX6_stretches 22 = .ok (.invokevirtual 111, 3) := by decide +kernel
theorem dX6_stretches_25 : decode cX6_stretches 25 = .ok (.aload_n 0, 1) := by decide +kernel
theorem dX6_stretches_26 : decode cX6_stretches 26 = .ok (.iload_n 1, 1) := by decide +kernel
theorem dX6_stretches_27 : decode cX6_stretches 27 = .ok (.invokevirtual 140, 3) := by decide +kernel
theorem dX6_stretches_30 : decode cX6_stretches 30 = .ok (.aload_n 0, 1) := by decide +kernel
theorem dX6_stretches_31 : decode cX6_stretches 31 = .ok (.getfield 125, 3) := by decide +kernel
theorem dX6_stretches_34 : decode cX6_stretches 34 = .ok (.ireturn, 1) := by decide +kernel
set_option maxRecDepth 20000 in
theorem ggX6_border_X6_noStretches : GoodIn wsX6_border wsX6_noStretches := goodIn_r _ [7, 8, 1, 9, 10, 11, 6, 12, 13, 14, 15, 16, 17, 60, 61, 62, 63, 64, 65, 66, 67, 68, 69, 70, 71, 72, 73, 74, 75] (by decide +kernel) (by decide +kernel)
set_option maxRecDepth 20000 in
theorem gX6_border_X6_noStretches : GoodIn wsX6_border (wsV RX6 137 RX6 yX6_noStretches wsX6_noStretches) := goodIn_app (goodIn_of _ (by decide +kernel)) ggX6_border_X6_noStretches
set_option maxRecDepth 20000 in
theorem ggX6_border_X6_finding : GoodIn wsX6_border wsX6_finding := goodIn_r _ [21, 22, 60, 61, 62, 63, 64, 65, 66, 67, 68, 69, 70, 71, 72, 73, 74, 75] (by decide +kernel) (by decide +kernel)
set_option maxRecDepth 20000 in
theorem gX6_border_X6_finding : GoodIn wsX6_border (wsV RX6 49 RX6 yX6_finding wsX6_finding) := goodIn_app (goodIn_of _ (by decide +kernel)) ggX6_border_X6_finding
set_option maxRecDepth 20000 in
theorem ggX6_border_X6_within : GoodIn wsX6_border wsX6_within := goodIn_r _ [17] (by decide +kernel) (by decide +kernel)
set_option maxRecDepth 20000 in
theorem gX6_border_X6_within : GoodIn wsX6_border (va_wsS RX6 44 yX6_within wsX6_within) := goodIn_app (goodIn_of _ (by decide +kernel)) ggX6_border_X6_within
set_option maxRecDepth 20000 in
theorem ggX6_border_X6_search : GoodIn wsX6_border wsX6_search := goodIn_r _ [26, 8, 27, 28, 29, 30, 31, 32, 33, 34, 6, 35, 36, 37, 38, 39, 40, 41, 42, 43, 44, 45, 46, 47, 60, 61, 62, 63, 64, 65, 66, 67, 68, 69, 70, 71, 72, 73, 74, 75] (by decide +kernel) (by decide +kernel)
set_option maxRecDepth 20000 in
theorem gX6_border_X6_search : GoodIn wsX6_border (wsV RX6 111 RX6 yX6_search wsX6_search) := goodIn_app (goodIn_of _ (by decide +kernel)) ggX6_border_X6_search
set_option maxRecDepth 20000 in
theorem ggX6_border_X6_part : GoodIn wsX6_border wsX6_part := goodIn_r _ [51, 52, 2, 8, 40, 41, 6, 42, 53, 54, 55, 56, 47, 57, 58, 59, 60, 61, 62, 63, 64, 65, 66, 67, 68, 69, 70, 71, 72, 73, 74, 75] (by decide +kernel) (by decide +kernel)
set_option maxRecDepth 20000 in
theorem gX6_border_X6_part : GoodIn wsX6_border (wsV RX6 140 RX6 yX6_part wsX6_part) := goodIn_app (goodIn_of _ (by decide +kernel)) ggX6_border_X6_part
theorem dX6_border_0 : decode cX6_border 0 = .ok (.aload_n 0, 1) := by decide +kernel
theorem dX6_border_1 : decode cX6_border 1 = .ok (.iload_n 1, 1) := by decide +kernel
theorem dX6_border_2 : decode cX6_border 2 = .ok (.invokevirtual 137, 3) := by decide +kernel
theorem dX6_border_5 : decode cX6_border 5 = .ok (.ifCond .eq 13, 3) := by decide +kernel
theorem dX6_border_8 : decode cX6_border 8 = .ok (.aload_n 0, 1) := by decide +kernel
theorem dX6_border_9 : decode cX6_border 9 = .ok (.aload_n 0, 1) := by decide +kernel
theorem dX6_border_10 : decode cX6_border 10 = .ok (.iload_n 1, 1) := by decide +kernel
theorem dX6_border_11 : decode cX6_border 11 = .ok (.invokevirtual 137, 3) := by decide +kernel
theorem dX6_border_14 : decode cX6_border 14 = .ok (.invokevirtual 49, 3) := by decide +kernel
theorem dX6_border_17 : decode cX6_border 17 = .ok (.ireturn, 1) := by decide +kernel
theorem dX6_border_18 : decode cX6_border 18 = .ok (.iload_n 2, 1) := by decide +kernel
theorem dX6_border_19 : decode cX6_border 19 = .ok (.iconst 0, 1) := by decide +kernel
theorem dX6_border_20 : decode cX6_border 20 = .ok (.iload_n 1, 1) := by decide +kernel
theorem dX6_border_21 : decode cX6_border 21 = .ok (.iconst 1, 1) := by decide +kernel
theorem dX6_border_22 : decode cX6_border 22 = .ok (.isub, 1) := by decide +kernel
theorem dX6_border_23 : decode cX6_border 23 = .ok (.invokestatic 44, 3) := by decide +kernel
theorem dX6_border_26 : decode cX6_border 26 = .ok (.ifCond .ne 10, 3) := by decide +kernel
theorem dX6_border_29 : decode cX6_border 29 = .ok (.aload_n 0, 1) := by decide +kernel
theorem dX6_border_30 : decode cX6_border 30 = .ok (.ldc 48, 2) := by decide +kernel
theorem dX6_border_32 : decode cX6_border 32 = .ok (.invokevirtual 49, 3) := by decide +kernel
theorem dX6_border_35 : decode cX6_border 35 = .ok (.ireturn, 1) := by decide +kernel
theorem dX6_border_36 : decode cX6_border 36 = .ok (.aload_n 0, 1) := by decide +kernel
theorem dX6_border_37 : decode cX6_border 37 = .ok (.sipush 4095, 3) := by decide +kernel
theorem dX6_border_40 : decode cX6_border 40 = .ok (.invokevirtual 111, 3) := by decide +kernel
theorem dX6_border_43 : decode cX6_border 43 = .ok (.aload_n 0, 1) := by decide +kernel
theorem dX6_border_44 : decode cX6_border 44 = .ok (.iload_n 1, 1) := by decide +kernel
theorem dX6_border_45 : decode cX6_border 45 = .ok (.invokevirtual 140, 3) := by decide +kernel
theorem dX6_border_48 : decode cX6_border 48 = .ok (.iload_n 2, 1) := by decide +kernel
theorem dX6_border_49 : decode cX6_border 49 = .ok (.istore_n 3, 1) := by decide +kernel
theorem dX6_border_50 : decode cX6_border 50 = .ok (.iconst 0, 1) := by decide +kernel
theorem dX6_border_51 : decode cX6_border 51 = .ok (.istore 4, 2) := by decide +kernel
theorem dX6_border_53 : decode cX6_border 53 = .ok (.iload_n 3, 1) := by decide +kernel
theorem dX6_border_54 : decode cX6_border 54 = .ok (.ifCond .le 21, 3) := by decide +kernel
theorem dX6_border_57 : decode cX6_border 57 = .ok (.iinc 4 1, 3) := by decide +kernel
theorem dX6_border_60 : decode cX6_border 60 = .ok (.iload_n 3, 1) := by decide +kernel
theorem dX6_border_61 : decode cX6_border 61 = .ok (.aload_n 0, 1) := by decide +kernel
theorem dX6_border_62 : decode cX6_border 62 = .ok (.getfield 128, 3) := by decide +kernel
theorem dX6_border_65 : decode cX6_border 65 = .ok (.iload 4, 2) := by decide +kernel
theorem dX6_border_67 : decode cX6_border 67 = .ok (.ishr, 1) := by decide +kernel
theorem dX6_border_68 : decode cX6_border 68 = .ok (.iconst 1, 1) := by decide +kernel
theorem dX6_border_69 : decode cX6_border 69 = .ok (.iand, 1) := by decide +kernel
theorem dX6_border_70 : decode cX6_border 70 = .ok (.isub, 1) := by decide +kernel
theorem dX6_border_71 : decode cX6_border 71 = .ok (.istore_n 3, 1) := by decide +kernel
theorem dX6_border_72 : decode cX6_border 72 = .ok (.goto (-19), 3) := by decide +kernel
theorem dX6_border_75 : decode cX6_border 75 = .ok (.iload 4, 2) := by decide +kernel
theorem dX6_border_77 : decode cX6_border 77 = .ok (.ireturn, 1) := by decide +kernel
set_option maxRecDepth 20000 in
theorem ggX6_yearOf_X6_below : GoodIn wsX6_yearOf wsX6_below := goodIn_r _ [13, 1, 14, 15, 16, 17, 18, 19, 20, 21, 22, 23, 24, 25, 26, 27, 28, 29] (by decide +kernel) (by decide +kernel)
set_option maxRecDepth 20000 in
theorem gX6_yearOf_X6_below : GoodIn wsX6_yearOf (wsV RX6 79 RX6 yX6_below wsX6_below) := goodIn_app (goodIn_of _ (by decide +kernel)) ggX6_yearOf_X6_below
theorem dX6_yearOf_0 : decode cX6_yearOf 0 = .ok (.aload_n 0, 1) := by decide +kernel
theorem dX6_yearOf_1 : decode cX6_yearOf 1 = .ok (.getfield 9, 3) := by decide +kernel
theorem dX6_yearOf_4 : decode cX6_yearOf 4 = .ok (.iload_n 2, 1) := by decide +kernel
theorem dX6_yearOf_5 : decode cX6_yearOf 5 = .ok (.ifCond .eq 8, 3) := by decide +kernel
theorem dX6_yearOf_8 : decode cX6_yearOf 8 = .ok (.bipush 52, 2) := by decide +kernel
theorem dX6_yearOf_10 : decode cX6_yearOf 10 = .ok (.goto 5, 3) := by decide +kernel
theorem dX6_yearOf_13 : decode cX6_yearOf 13 = .ok (.bipush 42, 2) := by decide +kernel
theorem dX6_yearOf_15 : decode cX6_yearOf 15 = .ok (.iload_n 1, 1) := by decide +kernel
theorem dX6_yearOf_16 : decode cX6_yearOf 16 = .ok (.iadd, 1) := by decide +kernel
theorem dX6_yearOf_17 : decode cX6_yearOf 17 = .ok (.iaload, 1) := by decide +kernel
theorem dX6_yearOf_18 : decode cX6_yearOf 18 = .ok (.istore_n 3, 1) := by decide +kernel
theorem dX6_yearOf_19 : decode cX6_yearOf 19 = .ok (.aload_n 0, 1) := by decide +kernel
theorem dX6_yearOf_20 : decode cX6_yearOf 20 = .ok (.iload_n 1, 1) := by decide +kernel
theorem dX6_yearOf_21 : decode cX6_yearOf 21 = .ok (.invokevirtual 79, 3) := by decide +kernel
theorem dX6_yearOf_24 : decode cX6_yearOf 24 = .ok (.istore 4, 2) := by decide +kernel
theorem dX6_yearOf_26 : decode cX6_yearOf 26 = .ok (.iconst 0, 1) := by decide +kernel
theorem dX6_yearOf_27 : decode cX6_yearOf 27 = .ok (.istore 5, 2) := by decide +kernel
theorem dX6_yearOf_29 : decode cX6_yearOf 29 = .ok (.iload 5, 2) := by decide +kernel
theorem dX6_yearOf_31 : decode cX6_yearOf 31 = .ok (.aload_n 0, 1) := by decide +kernel
theorem dX6_yearOf_32 : decode cX6_yearOf 32 = .ok (.getfield 9, 3) := by decide +kernel
theorem dX6_yearOf_35 : decode cX6_yearOf 35 = .ok (.iconst 0, 1) := by decide +kernel
theorem dX6_yearOf_36 : decode cX6_yearOf 36 = .ok (.iaload, 1) := by decide +kernel
theorem dX6_yearOf_37 : decode cX6_yearOf 37 = .ok (.if_icmp .ge 72, 3) := by decide +kernel
theorem dX6_yearOf_40 : decode cX6_yearOf 40 = .ok (.iload_n 2, 1) := by decide +kernel
theorem dX6_yearOf_41 : decode cX6_yearOf 41 = .ok (.ifCond .ne 29, 3) := by decide +kernel
theorem dX6_yearOf_44 : decode cX6_yearOf 44 = .ok (.iload 4, 2) := by decide +kernel
theorem dX6_yearOf_46 : decode cX6_yearOf 46 = .ok (.iload 5, 2) := by decide +kernel
theorem dX6_yearOf_48 : decode cX6_yearOf 48 = .ok (.ishr, 1) := by decide +kernel
theorem dX6_yearOf_49 : decode cX6_yearOf 49 = .ok (.iconst 1, 1) := by decide +kernel
theorem dX6_yearOf_50 : decode cX6_yearOf 50 = .ok (.iand, 1) := by decide +kernel
theorem dX6_yearOf_51 : decode cX6_yearOf 51 = .ok (.iconst 1, 1) := by decide +kernel
theorem dX6_yearOf_52 : decode cX6_yearOf 52 = .ok (.if_icmp .ne 18, 3) := by decide +kernel
theorem dX6_yearOf_55 : decode cX6_yearOf 55 = .ok (.iload_n 3, 1) := by decide +kernel
theorem dX6_yearOf_56 : decode cX6_yearOf 56 = .ok (.aload_n 0, 1) := by decide +kernel
theorem dX6_yearOf_57 : decode cX6_yearOf 57 = .ok (.getfield 9, 3) := by decide +kernel
theorem dX6_yearOf_60 : decode cX6_yearOf 60 = .ok (.bipush 42, 2) := by decide +kernel
theorem dX6_yearOf_62 : decode cX6_yearOf 62 = .ok (.iload 5, 2) := by decide +kernel
theorem dX6_yearOf_64 : decode cX6_yearOf 64 = .ok (.iadd, 1) := by decide +kernel
theorem dX6_yearOf_65 : decode cX6_yearOf 65 = .ok (.iaload, 1) := by decide +kernel
theorem dX6_yearOf_66 : decode cX6_yearOf 66 = .ok (.invokestatic 73, 3) := by decide +kernel
theorem dX6_yearOf_69 : decode cX6_yearOf 69 = .ok (.istore_n 3, 1) := by decide +kernel
theorem dX6_yearOf_70 : decode cX6_yearOf 70 = .ok (.iload_n 2, 1) := by decide +kernel
theorem dX6_yearOf_71 : decode cX6_yearOf 71 = .ok (.ifCond .eq 32, 3) := by decide +kernel
theorem dX6_yearOf_74 : decode cX6_yearOf 74 = .ok (.aload_n 0, 1) := by decide +kernel
theorem dX6_yearOf_75 : decode cX6_yearOf 75 = .ok (.iload 5, 2) := by decide +kernel
theorem dX6_yearOf_77 : decode cX6_yearOf 77 = .ok (.invokevirtual 79, 3) := by decide +kernel
theorem dX6_yearOf_80 : decode cX6_yearOf 80 = .ok (.iload_n 1, 1) := by decide +kernel
theorem dX6_yearOf_81 : decode cX6_yearOf 81 = .ok (.ishr, 1) := by decide +kernel
theorem dX6_yearOf_82 : decode cX6_yearOf 82 = .ok (.iconst 1, 1) := by decide +kernel
theorem dX6_yearOf_83 : decode cX6_yearOf 83 = .ok (.iand, 1) := by decide +kernel
theorem dX6_yearOf_84 : decode cX6_yearOf 84 = .ok (.iconst 1, 1) := by decide +kernel
theorem dX6_yearOf_85 : decode cX6_yearOf 85 = .ok (.if_icmp .ne 18, 3) := by decide +kernel
theorem dX6_yearOf_88 : decode cX6_yearOf 88 = .ok (.iload_n 3, 1) := by decide +kernel
theorem dX6_yearOf_89 : decode cX6_yearOf 89 = .ok (.aload_n 0, 1) := by decide +kernel
theorem dX6_yearOf_90 : decode cX6_yearOf 90 = .ok (.getfield 9, 3) := by decide +kernel
theorem dX6_yearOf_93 : decode cX6_yearOf 93 = .ok (.bipush 52, 2) := by decide +kernel
theorem dX6_yearOf_95 : decode cX6_yearOf 95 = .ok (.iload 5, 2) := by decide +kernel
theorem dX6_yearOf_97 : decode cX6_yearOf 97 = .ok (.iadd, 1) := by decide +kernel
theorem dX6_yearOf_98 : decode cX6_yearOf 98 = .ok (.iaload, 1) := by decide +kernel
theorem dX6_yearOf_99 : decode cX6_yearOf 99 = .ok (.invokestatic 143, 3) := by decide +kernel
theorem dX6_yearOf_102 : decode cX6_yearOf 102 = .ok (.istore_n 3, 1) := by decide +kernel
theorem dX6_yearOf_103 : decode cX6_yearOf 103 = .ok (.iinc 5 1, 3) := by decide +kernel
theorem dX6_yearOf_106 : decode cX6_yearOf 106 = .ok (.goto (-77), 3) := by decide +kernel
theorem dX6_yearOf_109 : decode cX6_yearOf 109 = .ok (.iload_n 3, 1) := by decide +kernel
theorem dX6_yearOf_110 : decode cX6_yearOf 110 = .ok (.ireturn, 1) := by decide +kernel
set_option maxRecDepth 20000 in
theorem ggX6_year_X6_isGrave : GoodIn wsX6_year wsX6_isGrave := goodIn_r _ [6, 7, 8, 9, 5, 10, 31, 32, 33, 34, 35, 36, 37, 38, 39, 40, 41, 42, 43, 44, 45, 46] (by decide +kernel) (by decide +kernel)
set_option maxRecDepth 20000 in
theorem gX6_year_X6_isGrave : GoodIn wsX6_year (wsV RX6 54 RX6 yX6_isGrave wsX6_isGrave) := goodIn_app (goodIn_of _ (by decide +kernel)) ggX6_year_X6_isGrave
set_option maxRecDepth 20000 in
theorem ggX6_year_X6_yearOf : GoodIn wsX6_year wsX6_yearOf := goodIn_r _ [14, 7, 15, 16, 17, 18, 19, 20, 21, 22, 23, 24, 5, 25, 31, 32, 33, 34, 35, 36, 37, 38, 39, 40, 41, 42, 43, 44, 45, 46] (by decide +kernel) (by decide +kernel)
set_option maxRecDepth 20000 in
theorem gX6_year_X6_yearOf : GoodIn wsX6_year (wsV RX6 146 RX6 yX6_yearOf wsX6_yearOf) := goodIn_app (goodIn_of _ (by decide +kernel)) ggX6_year_X6_yearOf
set_option maxRecDepth 20000 in
theorem ggX6_year_X6_finding : GoodIn wsX6_year wsX6_finding := goodIn_r _ [29, 30, 31, 32, 33, 34, 35, 36, 37, 38, 39, 40, 41, 42, 43, 44, 45, 46] (by decide +kernel) (by decide +kernel)
set_option maxRecDepth 20000 in
theorem gX6_year_X6_finding : GoodIn wsX6_year (wsV RX6 49 RX6 yX6_finding wsX6_finding) := goodIn_app (goodIn_of _ (by decide +kernel)) ggX6_year_X6_finding
theorem dX6_year_0 : decode cX6_year 0 = .ok (.aload_n 0, 1) := by decide +kernel
theorem dX6_year_1 : decode cX6_year 1 = .ok (.iload_n 1, 1) := by decide +kernel
theorem dX6_year_2 : decode cX6_year 2 = .ok (.invokevirtual 54, 3) := by decide +kernel
theorem dX6_year_5 : decode cX6_year 5 = .ok (.ifCond .eq 12, 3) := by decide +kernel
theorem dX6_year_8 : decode cX6_year 8 = .ok (.aload_n 0, 1) := by decide +kernel
theorem dX6_year_9 : decode cX6_year 9 = .ok (.iload_n 1, 1) := by decide +kernel
theorem dX6_year_10 : decode cX6_year 10 = .ok (.iload_n 2, 1) := by decide +kernel
theorem dX6_year_11 : decode cX6_year 11 = .ok (.invokevirtual 146, 3) := by decide +kernel
theorem dX6_year_14 : decode cX6_year 14 = .ok (.goto 9, 3) := by decide +kernel
theorem dX6_year_17 : decode cX6_year 17 = .ok (.aload_n 0, 1) := by decide +kernel
theorem dX6_year_18 : decode cX6_year 18 = .ok (.ldc 48, 2) := by decide +kernel
theorem dX6_year_20 : decode cX6_year 20 = .ok (.invokevirtual 49, 3) := by decide +kernel
theorem dX6_year_23 : decode cX6_year 23 = .ok (.ireturn, 1) := by decide +kernel
set_option maxRecDepth 20000 in
theorem ggX6_wrong_X6_yearOf : GoodIn wsX6_wrong wsX6_yearOf := goodIn_r _ [6, 1, 7, 8, 9, 10, 11, 12, 13, 14, 15, 16, 5, 17, 18, 19, 20, 21, 22, 23, 24, 25, 26, 27, 28, 29, 30, 31, 32, 33] (by decide +kernel) (by decide +kernel)
set_option maxRecDepth 20000 in
theorem gX6_wrong_X6_yearOf : GoodIn wsX6_wrong (wsV RX6 146 RX6 yX6_yearOf wsX6_yearOf) := goodIn_app (goodIn_of _ (by decide +kernel)) ggX6_wrong_X6_yearOf
theorem dX6_wrong_0 : decode cX6_wrong 0 = .ok (.iconst 0, 1) := by decide +kernel
theorem dX6_wrong_1 : decode cX6_wrong 1 = .ok (.istore_n 1, 1) := by decide +kernel
theorem dX6_wrong_2 : decode cX6_wrong 2 = .ok (.iload_n 1, 1) := by decide +kernel
theorem dX6_wrong_3 : decode cX6_wrong 3 = .ok (.aload_n 0, 1) := by decide +kernel
theorem dX6_wrong_4 : decode cX6_wrong 4 = .ok (.getfield 9, 3) := by decide +kernel
theorem dX6_wrong_7 : decode cX6_wrong 7 = .ok (.iconst 0, 1) := by decide +kernel
theorem dX6_wrong_8 : decode cX6_wrong 8 = .ok (.iaload, 1) := by decide +kernel
theorem dX6_wrong_9 : decode cX6_wrong 9 = .ok (.if_icmp .ge 26, 3) := by decide +kernel
theorem dX6_wrong_12 : decode cX6_wrong 12 = .ok (.aload_n 0, 1) := by decide +kernel
theorem dX6_wrong_13 : decode cX6_wrong 13 = .ok (.iload_n 1, 1) := by decide +kernel
theorem dX6_wrong_14 : decode cX6_wrong 14 = .ok (.iconst 0, 1) := by decide +kernel
theorem dX6_wrong_15 : decode cX6_wrong 15 = .ok (.invokevirtual 146, 3) := by decide +kernel
theorem dX6_wrong_18 : decode cX6_wrong 18 = .ok (.aload_n 0, 1) := by decide +kernel
theorem dX6_wrong_19 : decode cX6_wrong 19 = .ok (.iload_n 1, 1) := by decide +kernel
theorem dX6_wrong_20 : decode cX6_wrong 20 = .ok (.iconst 1, 1) := by decide +kernel
theorem dX6_wrong_21 : decode cX6_wrong 21 = .ok (.invokevirtual 146, 3) := by decide +kernel
theorem dX6_wrong_24 : decode cX6_wrong 24 = .ok (.if_icmp .le 5, 3) := by decide +kernel
theorem dX6_wrong_27 : decode cX6_wrong 27 = .ok (.iload_n 1, 1) := by decide +kernel
theorem dX6_wrong_28 : decode cX6_wrong 28 = .ok (.ireturn, 1) := by decide +kernel
theorem dX6_wrong_29 : decode cX6_wrong 29 = .ok (.iinc 1 1, 3) := by decide +kernel
theorem dX6_wrong_32 : decode cX6_wrong 32 = .ok (.goto (-30), 3) := by decide +kernel
theorem dX6_wrong_35 : decode cX6_wrong 35 = .ok (.iconst (-1), 1) := by decide +kernel
theorem dX6_wrong_36 : decode cX6_wrong 36 = .ok (.ireturn, 1) := by decide +kernel
set_option maxRecDepth 20000 in
theorem ggX6_in_X6_isYear : GoodIn wsX6_in wsX6_isYear := goodIn_r _ [6, 7, 8, 5, 9] (by decide +kernel) (by decide +kernel)
set_option maxRecDepth 20000 in
theorem gX6_in_X6_isYear : GoodIn wsX6_in (va_wsS RX6 69 yX6_isYear wsX6_isYear) := goodIn_app (goodIn_of _ (by decide +kernel)) ggX6_in_X6_isYear
set_option maxRecDepth 20000 in
theorem ggX6_in_X6_finding : GoodIn wsX6_in wsX6_finding := goodIn_r _ [13, 14, 30, 31, 32, 33, 34, 35, 36, 37, 38, 39, 40, 41, 42, 43, 44, 45] (by decide +kernel) (by decide +kernel)
set_option maxRecDepth 20000 in
theorem gX6_in_X6_finding : GoodIn wsX6_in (wsV RX6 49 RX6 yX6_finding wsX6_finding) := goodIn_app (goodIn_of _ (by decide +kernel)) ggX6_in_X6_finding
set_option maxRecDepth 20000 in
theorem ggX6_in_X6_yearOf : GoodIn wsX6_in wsX6_yearOf := goodIn_r _ [18, 2, 19, 20, 21, 22, 23, 24, 25, 26, 27, 28, 5, 29, 30, 31, 32, 33, 34, 35, 36, 37, 38, 39, 40, 41, 42, 43, 44, 45] (by decide +kernel) (by decide +kernel)
set_option maxRecDepth 20000 in
theorem gX6_in_X6_yearOf : GoodIn wsX6_in (wsV RX6 146 RX6 yX6_yearOf wsX6_yearOf) := goodIn_app (goodIn_of _ (by decide +kernel)) ggX6_in_X6_yearOf
set_option maxRecDepth 20000 in
theorem ggX6_in_X6_within : GoodIn wsX6_in wsX6_within := goodIn_r _ [9] (by decide +kernel) (by decide +kernel)
set_option maxRecDepth 20000 in
theorem gX6_in_X6_within : GoodIn wsX6_in (va_wsS RX6 44 yX6_within wsX6_within) := goodIn_app (goodIn_of _ (by decide +kernel)) ggX6_in_X6_within
theorem dX6_in_0 : decode cX6_in 0 = .ok (.iload_n 1, 1) := by decide +kernel
theorem dX6_in_1 : decode cX6_in 1 = .ok (.invokestatic 69, 3) := by decide +kernel
theorem dX6_in_4 : decode cX6_in 4 = .ok (.ifCond .ne 10, 3) := by decide +kernel
theorem dX6_in_7 : decode cX6_in 7 = .ok (.aload_n 0, 1) := by decide +kernel
theorem dX6_in_8 : decode cX6_in 8 = .ok (.ldc 48, 2) := by decide +kernel
theorem dX6_in_10 : decode cX6_in 10 = .ok (.invokevirtual 49, 3) := by decide +kernel
theorem dX6_in_13 : decode cX6_in 13 = .ok (.ireturn, 1) := by decide +kernel
theorem dX6_in_14 : decode cX6_in 14 = .ok (.iconst 0, 1) := by decide +kernel
theorem dX6_in_15 : decode cX6_in 15 = .ok (.istore_n 2, 1) := by decide +kernel
theorem dX6_in_16 : decode cX6_in 16 = .ok (.iconst 0, 1) := by decide +kernel
theorem dX6_in_17 : decode cX6_in 17 = .ok (.istore_n 3, 1) := by decide +kernel
theorem dX6_in_18 : decode cX6_in 18 = .ok (.iload_n 3, 1) := by decide +kernel
theorem dX6_in_19 : decode cX6_in 19 = .ok (.aload_n 0, 1) := by decide +kernel
theorem dX6_in_20 : decode cX6_in 20 = .ok (.getfield 9, 3) := by decide +kernel
theorem dX6_in_23 : decode cX6_in 23 = .ok (.iconst 0, 1) := by decide +kernel
theorem dX6_in_24 : decode cX6_in 24 = .ok (.iaload, 1) := by decide +kernel
theorem dX6_in_25 : decode cX6_in 25 = .ok (.if_icmp .ge 36, 3) := by decide +kernel
theorem dX6_in_28 : decode cX6_in 28 = .ok (.iload_n 2, 1) := by decide +kernel
theorem dX6_in_29 : decode cX6_in 29 = .ok (.iload_n 1, 1) := by decide +kernel
theorem dX6_in_30 : decode cX6_in 30 = .ok (.aload_n 0, 1) := by decide +kernel
theorem dX6_in_31 : decode cX6_in 31 = .ok (.iload_n 3, 1) := by decide +kernel
theorem dX6_in_32 : decode cX6_in 32 = .ok (.iconst 0, 1) := by decide +kernel
theorem dX6_in_33 : decode cX6_in 33 = .ok (.invokevirtual 146, 3) := by decide +kernel
theorem dX6_in_36 : decode cX6_in 36 = .ok (.aload_n 0, 1) := by decide +kernel
theorem dX6_in_37 : decode cX6_in 37 = .ok (.iload_n 3, 1) := by decide +kernel
theorem dX6_in_38 : decode cX6_in 38 = .ok (.iconst 1, 1) := by decide +kernel
theorem dX6_in_39 : decode cX6_in 39 = .ok (.invokevirtual 146, 3) := by decide +kernel
theorem dX6_in_42 : decode cX6_in 42 = .ok (.invokestatic 44, 3) := by decide +kernel
theorem dX6_in_45 : decode cX6_in 45 = .ok (.ifCond .eq 7, 3) := by decide +kernel
theorem dX6_in_48 : decode cX6_in 48 = .ok (.iconst 1, 1) := by decide +kernel
theorem dX6_in_49 : decode cX6_in 49 = .ok (.goto 4, 3) := by decide +kernel
theorem dX6_in_52 : decode cX6_in 52 = .ok (.iconst 0, 1) := by decide +kernel
theorem dX6_in_53 : decode cX6_in 53 = .ok (.iadd, 1) := by decide +kernel
theorem dX6_in_54 : decode cX6_in 54 = .ok (.istore_n 2, 1) := by decide +kernel
theorem dX6_in_55 : decode cX6_in 55 = .ok (.iinc 3 1, 3) := by decide +kernel
theorem dX6_in_58 : decode cX6_in 58 = .ok (.goto (-40), 3) := by decide +kernel
theorem dX6_in_61 : decode cX6_in 61 = .ok (.iload_n 2, 1) := by decide +kernel
theorem dX6_in_62 : decode cX6_in 62 = .ok (.ireturn, 1) := by decide +kernel
set_option maxRecDepth 20000 in
theorem ggX6_used_X6_isGood : GoodIn wsX6_used wsX6_isGood := goodIn_r _ [7, 8, 9, 6, 10] (by decide +kernel) (by decide +kernel)
set_option maxRecDepth 20000 in
theorem gX6_used_X6_isGood : GoodIn wsX6_used (va_wsS RX6 115 yX6_isGood wsX6_isGood) := goodIn_app (goodIn_of _ (by decide +kernel)) ggX6_used_X6_isGood
set_option maxRecDepth 20000 in
theorem ggX6_used_X6_finding : GoodIn wsX6_used wsX6_finding := goodIn_r _ [14, 15, 35, 36, 37, 38, 39, 40, 41, 42, 43, 44, 45, 46, 47, 48, 49, 50] (by decide +kernel) (by decide +kernel)
set_option maxRecDepth 20000 in
theorem gX6_used_X6_finding : GoodIn wsX6_used (wsV RX6 49 RX6 yX6_finding wsX6_finding) := goodIn_app (goodIn_of _ (by decide +kernel)) ggX6_used_X6_finding
set_option maxRecDepth 20000 in
theorem ggX6_used_X6_has : GoodIn wsX6_used wsX6_has := goodIn_r _ [19, 2, 35, 36, 37, 38, 39, 40, 41, 42, 43, 44, 45, 46, 47, 48, 49, 50] (by decide +kernel) (by decide +kernel)
set_option maxRecDepth 20000 in
theorem gX6_used_X6_has : GoodIn wsX6_used (wsV RX6 122 RX6 yX6_has wsX6_has) := goodIn_app (goodIn_of _ (by decide +kernel)) ggX6_used_X6_has
set_option maxRecDepth 20000 in
theorem ggX6_used_X6_yearOf : GoodIn wsX6_used wsX6_yearOf := goodIn_r _ [23, 2, 24, 25, 26, 27, 28, 29, 30, 31, 32, 33, 6, 34, 35, 36, 37, 38, 39, 40, 41, 42, 43, 44, 45, 46, 47, 48, 49, 50] (by decide +kernel) (by decide +kernel)
set_option maxRecDepth 20000 in
theorem gX6_used_X6_yearOf : GoodIn wsX6_used (wsV RX6 146 RX6 yX6_yearOf wsX6_yearOf) := goodIn_app (goodIn_of _ (by decide +kernel)) ggX6_used_X6_yearOf
theorem dX6_used_0 : decode cX6_used 0 = .ok (.iload_n 1, 1) := by decide +kernel
theorem dX6_used_1 : decode cX6_used 1 = .ok (.invokestatic 115, 3) := by decide +kernel
theorem dX6_used_4 : decode cX6_used 4 = .ok (.ifCond .ne 10, 3) := by decide +kernel
theorem dX6_used_7 : decode cX6_used 7 = .ok (.aload_n 0, 1) := by decide +kernel
theorem dX6_used_8 : decode cX6_used 8 = .ok (.ldc 48, 2) := by decide +kernel
theorem dX6_used_10 : decode cX6_used 10 = .ok (.invokevirtual 49, 3) := by decide +kernel
theorem dX6_used_13 : decode cX6_used 13 = .ok (.ireturn, 1) := by decide +kernel
theorem dX6_used_14 : decode cX6_used 14 = .ok (.iconst 0, 1) := by decide +kernel
theorem dX6_used_15 : decode cX6_used 15 = .ok (.istore_n 3, 1) := by decide +kernel
theorem dX6_used_16 : decode cX6_used 16 = .ok (.iconst 0, 1) := by decide +kernel
theorem dX6_used_17 : decode cX6_used 17 = .ok (.istore 4, 2) := by decide +kernel
theorem dX6_used_19 : decode cX6_used 19 = .ok (.iconst 0, 1) := by decide +kernel
theorem dX6_used_20 : decode cX6_used 20 = .ok (.istore 5, 2) := by decide +kernel
theorem dX6_used_22 : decode cX6_used 22 = .ok (.iload 5, 2) := by decide +kernel
theorem dX6_used_24 : decode cX6_used 24 = .ok (.aload_n 0, 1) := by decide +kernel
theorem dX6_used_25 : decode cX6_used 25 = .ok (.getfield 9, 3) := by decide +kernel
theorem dX6_used_28 : decode cX6_used 28 = .ok (.iconst 0, 1) := by decide +kernel
theorem dX6_used_29 : decode cX6_used 29 = .ok (.iaload, 1) := by decide +kernel
theorem dX6_used_30 : decode cX6_used 30 = .ok (.if_icmp .ge 65, 3) := by decide +kernel
theorem dX6_used_33 : decode cX6_used 33 = .ok (.aload_n 0, 1) := by decide +kernel
theorem dX6_used_34 : decode cX6_used 34 = .ok (.iload 5, 2) := by decide +kernel
theorem dX6_used_36 : decode cX6_used 36 = .ok (.iload_n 1, 1) := by decide +kernel
theorem dX6_used_37 : decode cX6_used 37 = .ok (.invokevirtual 122, 3) := by decide +kernel
theorem dX6_used_40 : decode cX6_used 40 = .ok (.ifCond .ne 6, 3) := by decide +kernel
theorem dX6_used_43 : decode cX6_used 43 = .ok (.goto 46, 3) := by decide +kernel
theorem dX6_used_46 : decode cX6_used 46 = .ok (.aload_n 0, 1) := by decide +kernel
theorem dX6_used_47 : decode cX6_used 47 = .ok (.iload 5, 2) := by decide +kernel
theorem dX6_used_49 : decode cX6_used 49 = .ok (.iload_n 2, 1) := by decide +kernel
theorem dX6_used_50 : decode cX6_used 50 = .ok (.invokevirtual 146, 3) := by decide +kernel
theorem dX6_used_53 : decode cX6_used 53 = .ok (.istore 6, 2) := by decide +kernel
theorem dX6_used_55 : decode cX6_used 55 = .ok (.iload 4, 2) := by decide +kernel
theorem dX6_used_57 : decode cX6_used 57 = .ok (.ifCond .eq 22, 3) := by decide +kernel
theorem dX6_used_60 : decode cX6_used 60 = .ok (.iload_n 2, 1) := by decide +kernel
theorem dX6_used_61 : decode cX6_used 61 = .ok (.ifCond .eq 12, 3) := by decide +kernel
theorem dX6_used_64 : decode cX6_used 64 = .ok (.iload 6, 2) := by decide +kernel
theorem dX6_used_66 : decode cX6_used 66 = .ok (.iload_n 3, 1) := by decide +kernel
theorem dX6_used_67 : decode cX6_used 67 = .ok (.if_icmp .le 17, 3) := by decide +kernel
theorem dX6_used_70 : decode cX6_used 70 = .ok (.goto 9, 3) := by decide +kernel
theorem dX6_used_73 : decode cX6_used 73 = .ok (.iload 6, 2) := by decide +kernel
theorem dX6_used_75 : decode cX6_used 75 = .ok (.iload_n 3, 1) := by decide +kernel
theorem dX6_used_76 : decode cX6_used 76 = .ok (.if_icmp .ge 8, 3) := by decide +kernel
theorem dX6_used_79 : decode cX6_used 79 = .ok (.iload 6, 2) := by decide +kernel
theorem dX6_used_81 : decode cX6_used 81 = .ok (.goto 4, 3) := by decide +kernel
theorem dX6_used_84 : decode cX6_used 84 = .ok (.iload_n 3, 1) := by decide +kernel
theorem dX6_used_85 : decode cX6_used 85 = .ok (.istore_n 3, 1) := by decide +kernel
theorem dX6_used_86 : decode cX6_used 86 = .ok (.iconst 1, 1) := by decide +kernel
theorem dX6_used_87 : decode cX6_used 87 = .ok (.istore 4, 2) := by decide +kernel
theorem dX6_used_89 : decode cX6_used 89 = .ok (.iinc 5 1, 3) := by decide +kernel
theorem dX6_used_92 : decode cX6_used 92 = .ok (.goto (-70), 3) := by decide +kernel
theorem dX6_used_95 : decode cX6_used 95 = .ok (.iload 4, 2) := by decide +kernel
theorem dX6_used_97 : decode cX6_used 97 = .ok (.ifCond .eq 7, 3) := by decide +kernel
theorem dX6_used_100 : decode cX6_used 100 = .ok (.iload_n 3, 1) := by decide +kernel
theorem dX6_used_101 : decode cX6_used 101 = .ok (.goto 9, 3) := by decide +kernel
theorem dX6_used_104 : decode cX6_used 104 = .ok (.aload_n 0, 1) := by decide +kernel
theorem dX6_used_105 : decode cX6_used 105 = .ok (.ldc 83, 2) := by decide +kernel
theorem dX6_used_107 : decode cX6_used 107 = .ok (.invokevirtual 49, 3) := by decide +kernel
theorem dX6_used_110 : decode cX6_used 110 = .ok (.ireturn, 1) := by decide +kernel
theorem dX6_familyOf_0 : decode cX6_familyOf 0 = .ok (.iconst 1, 1) := by decide +kernel
theorem dX6_familyOf_1 : decode cX6_familyOf 1 = .ok (.iload_n 1, 1) := by decide +kernel
theorem dX6_familyOf_2 : decode cX6_familyOf 2 = .ok (.ishl, 1) := by decide +kernel
theorem dX6_familyOf_3 : decode cX6_familyOf 3 = .ok (.istore_n 3, 1) := by decide +kernel
theorem dX6_familyOf_4 : decode cX6_familyOf 4 = .ok (.iconst 0, 1) := by decide +kernel
theorem dX6_familyOf_5 : decode cX6_familyOf 5 = .ok (.istore 4, 2) := by decide +kernel
theorem dX6_familyOf_7 : decode cX6_familyOf 7 = .ok (.iload_n 3, 1) := by decide +kernel
theorem dX6_familyOf_8 : decode cX6_familyOf 8 = .ok (.iload 4, 2) := by decide +kernel
theorem dX6_familyOf_10 : decode cX6_familyOf 10 = .ok (.if_icmp .eq 138, 3) := by decide +kernel
theorem dX6_familyOf_13 : decode cX6_familyOf 13 = .ok (.iload_n 3, 1) := by decide +kernel
theorem dX6_familyOf_14 : decode cX6_familyOf 14 = .ok (.istore 4, 2) := by decide +kernel
theorem dX6_familyOf_16 : decode cX6_familyOf 16 = .ok (.iconst 0, 1) := by decide +kernel
theorem dX6_familyOf_17 : decode cX6_familyOf 17 = .ok (.istore 5, 2) := by decide +kernel
theorem dX6_familyOf_19 : decode cX6_familyOf 19 = .ok (.iload 5, 2) := by decide +kernel
theorem dX6_familyOf_21 : decode cX6_familyOf 21 = .ok (.aload_n 0, 1) := by decide +kernel
theorem dX6_familyOf_22 : decode cX6_familyOf 22 = .ok (.getfield 9, 3) := by decide +kernel
theorem dX6_familyOf_25 : decode cX6_familyOf 25 = .ok (.iconst 0, 1) := by decide +kernel
theorem dX6_familyOf_26 : decode cX6_familyOf 26 = .ok (.iaload, 1) := by decide +kernel
theorem dX6_familyOf_27 : decode cX6_familyOf 27 = .ok (.if_icmp .ge 118, 3) := by decide +kernel
theorem dX6_familyOf_30 : decode cX6_familyOf 30 = .ok (.iconst 0, 1) := by decide +kernel
theorem dX6_familyOf_31 : decode cX6_familyOf 31 = .ok (.istore 6, 2) := by decide +kernel
theorem dX6_familyOf_33 : decode cX6_familyOf 33 = .ok (.iload 6, 2) := by decide +kernel
theorem dX6_familyOf_35 : decode cX6_familyOf 35 = .ok (.aload_n 0, 1) := by decide +kernel
theorem dX6_familyOf_36 : decode cX6_familyOf 36 = .ok (.getfield 9, 3) := by decide +kernel
theorem dX6_familyOf_39 : decode cX6_familyOf 39 = .ok (.iconst 0, 1) := by decide +kernel
theorem dX6_familyOf_40 : decode cX6_familyOf 40 = .ok (.iaload, 1) := by decide +kernel
theorem dX6_familyOf_41 : decode cX6_familyOf 41 = .ok (.if_icmp .ge 98, 3) := by decide +kernel
theorem dX6_familyOf_44 : decode cX6_familyOf 44 = .ok (.aload_n 0, 1) := by decide +kernel
theorem dX6_familyOf_45 : decode cX6_familyOf 45 = .ok (.getfield 9, 3) := by decide +kernel
theorem dX6_familyOf_48 : decode cX6_familyOf 48 = .ok (.bipush 12, 2) := by decide +kernel
theorem dX6_familyOf_50 : decode cX6_familyOf 50 = .ok (.iload 5, 2) := by decide +kernel
theorem dX6_familyOf_52 : decode cX6_familyOf 52 = .ok (.iadd, 1) := by decide +kernel
theorem dX6_familyOf_53 : decode cX6_familyOf 53 = .ok (.iaload, 1) := by decide +kernel
theorem dX6_familyOf_54 : decode cX6_familyOf 54 = .ok (.aload_n 0, 1) := by decide +kernel
theorem dX6_familyOf_55 : decode cX6_familyOf 55 = .ok (.getfield 9, 3) := by decide +kernel
theorem dX6_familyOf_58 : decode cX6_familyOf 58 = .ok (.bipush 12, 2) := by decide +kernel
theorem dX6_familyOf_60 : decode cX6_familyOf 60 = .ok (.iload 6, 2) := by decide +kernel
theorem dX6_familyOf_62 : decode cX6_familyOf 62 = .ok (.iadd, 1) := by decide +kernel
theorem dX6_familyOf_63 : decode cX6_familyOf 63 = .ok (.iaload, 1) := by decide +kernel
theorem dX6_familyOf_64 : decode cX6_familyOf 64 = .ok (.isub, 1) := by decide +kernel
theorem dX6_familyOf_65 : decode cX6_familyOf 65 = .ok (.invokestatic 150, 3) := by decide +kernel
theorem dX6_familyOf_68 : decode cX6_familyOf 68 = .ok (.iload_n 2, 1) := by decide +kernel
theorem dX6_familyOf_69 : decode cX6_familyOf 69 = .ok (.if_icmp .gt 35, 3) := by decide +kernel
theorem dX6_familyOf_72 : decode cX6_familyOf 72 = .ok (.aload_n 0, 1) := by decide +kernel
theorem dX6_familyOf_73 : decode cX6_familyOf 73 = .ok (.getfield 9, 3) := by decide +kernel
theorem dX6_familyOf_76 : decode cX6_familyOf 76 = .ok (.bipush 22, 2) := by decide +kernel
theorem dX6_familyOf_78 : decode cX6_familyOf 78 = .ok (.iload 5, 2) := by decide +kernel
theorem dX6_familyOf_80 : decode cX6_familyOf 80 = .ok (.iadd, 1) := by decide +kernel
theorem dX6_familyOf_81 : decode cX6_familyOf 81 = .ok (.iaload, 1) := by decide +kernel
theorem dX6_familyOf_82 : decode cX6_familyOf 82 = .ok (.aload_n 0, 1) := by decide +kernel
theorem dX6_familyOf_83 : decode cX6_familyOf 83 = .ok (.getfield 9, 3) := by decide +kernel
theorem dX6_familyOf_86 : decode cX6_familyOf 86 = .ok (.bipush 22, 2) := by decide +kernel
theorem dX6_familyOf_88 : decode cX6_familyOf 88 = .ok (.iload 6, 2) := by decide +kernel
theorem dX6_familyOf_90 : decode cX6_familyOf 90 = .ok (.iadd, 1) := by decide +kernel
theorem dX6_familyOf_91 : decode cX6_familyOf 91 = .ok (.iaload, 1) := by decide +kernel
theorem dX6_familyOf_92 : decode cX6_familyOf 92 = .ok (.isub, 1) := by decide +kernel
theorem dX6_familyOf_93 : decode cX6_familyOf 93 = .ok (.invokestatic 150, 3) := by decide +kernel
theorem dX6_familyOf_96 : decode cX6_familyOf 96 = .ok (.iload_n 2, 1) := by decide +kernel
theorem dX6_familyOf_97 : decode cX6_familyOf 97 = .ok (.if_icmp .gt 7, 3) := by decide +kernel
theorem dX6_familyOf_100 : decode cX6_familyOf 100 = .ok (.iconst 1, 1) := by decide +kernel
theorem dX6_familyOf_101 : decode cX6_familyOf 101 = .ok (.goto 4, 3) := by decide +kernel
theorem dX6_familyOf_104 : decode cX6_familyOf 104 = .ok (.iconst 0, 1) := by decide +kernel
theorem dX6_familyOf_105 : decode cX6_familyOf 105 = .ok (.istore 7, 2) := by decide +kernel
theorem dX6_familyOf_107 : decode cX6_familyOf 107 = .ok (.iload_n 3, 1) := by decide +kernel
theorem dX6_familyOf_108 : decode cX6_familyOf 108 = .ok (.iload 7, 2) := by decide +kernel
theorem dX6_familyOf_110 : decode cX6_familyOf 110 = .ok (.ifCond .eq 20, 3) := by decide +kernel
theorem dX6_familyOf_113 : decode cX6_familyOf 113 = .ok (.iload_n 3, 1) := by decide +kernel
theorem dX6_familyOf_114 : decode cX6_familyOf 114 = .ok (.iload 5, 2) := by decide +kernel
theorem dX6_familyOf_116 : decode cX6_familyOf 116 = .ok (.ishr, 1) := by decide +kernel
theorem dX6_familyOf_117 : decode cX6_familyOf 117 = .ok (.iconst 1, 1) := by decide +kernel
theorem dX6_familyOf_118 : decode cX6_familyOf 118 = .ok (.iand, 1) := by decide +kernel
theorem dX6_familyOf_119 : decode cX6_familyOf 119 = .ok (.iconst 1, 1) := by decide +kernel
theorem dX6_familyOf_120 : decode cX6_familyOf 120 = .ok (.if_icmp .ne 10, 3) := by decide +kernel
theorem dX6_familyOf_123 : decode cX6_familyOf 123 = .ok (.iconst 1, 1) := by decide +kernel
theorem dX6_familyOf_124 : decode cX6_familyOf 124 = .ok (.iload 6, 2) := by decide +kernel
theorem dX6_familyOf_126 : decode cX6_familyOf 126 = .ok (.ishl, 1) := by decide +kernel
theorem dX6_familyOf_127 : decode cX6_familyOf 127 = .ok (.goto 4, 3) := by decide +kernel
theorem dX6_familyOf_130 : decode cX6_familyOf 130 = .ok (.iconst 0, 1) := by decide +kernel
theorem dX6_familyOf_131 : decode cX6_familyOf 131 = .ok (.ior, 1) := by decide +kernel
theorem dX6_familyOf_132 : decode cX6_familyOf 132 = .ok (.istore_n 3, 1) := by decide +kernel
theorem dX6_familyOf_133 : decode cX6_familyOf 133 = .ok (.iinc 6 1, 3) := by decide +kernel
theorem dX6_familyOf_136 : decode cX6_familyOf 136 = .ok (.goto (-103), 3) := by decide +kernel
theorem dX6_familyOf_139 : decode cX6_familyOf 139 = .ok (.iinc 5 1, 3) := by decide +kernel
theorem dX6_familyOf_142 : decode cX6_familyOf 142 = .ok (.goto (-123), 3) := by decide +kernel
theorem dX6_familyOf_145 : decode cX6_familyOf 145 = .ok (.goto (-138), 3) := by decide +kernel
theorem dX6_familyOf_148 : decode cX6_familyOf 148 = .ok (.iload_n 3, 1) := by decide +kernel
theorem dX6_familyOf_149 : decode cX6_familyOf 149 = .ok (.ireturn, 1) := by decide +kernel
theorem dX6_leastOf_0 : decode cX6_leastOf 0 = .ok (.iconst 0, 1) := by decide +kernel
theorem dX6_leastOf_1 : decode cX6_leastOf 1 = .ok (.istore_n 2, 1) := by decide +kernel
theorem dX6_leastOf_2 : decode cX6_leastOf 2 = .ok (.iload_n 1, 1) := by decide +kernel
theorem dX6_leastOf_3 : decode cX6_leastOf 3 = .ok (.iload_n 2, 1) := by decide +kernel
theorem dX6_leastOf_4 : decode cX6_leastOf 4 = .ok (.ishr, 1) := by decide +kernel
theorem dX6_leastOf_5 : decode cX6_leastOf 5 = .ok (.iconst 1, 1) := by decide +kernel
theorem dX6_leastOf_6 : decode cX6_leastOf 6 = .ok (.iand, 1) := by decide +kernel
theorem dX6_leastOf_7 : decode cX6_leastOf 7 = .ok (.ifCond .ne 9, 3) := by decide +kernel
theorem dX6_leastOf_10 : decode cX6_leastOf 10 = .ok (.iinc 2 1, 3) := by decide +kernel
theorem dX6_leastOf_13 : decode cX6_leastOf 13 = .ok (.goto (-11), 3) := by decide +kernel
theorem dX6_leastOf_16 : decode cX6_leastOf 16 = .ok (.iload_n 2, 1) := by decide +kernel
theorem dX6_leastOf_17 : decode cX6_leastOf 17 = .ok (.ireturn, 1) := by decide +kernel
set_option maxRecDepth 20000 in
theorem ggX6_family_X6_isGrave : GoodIn wsX6_family wsX6_isGrave := goodIn_r _ [6, 7, 8, 9, 5, 10, 28, 29, 30, 31, 32, 33, 34, 35, 36, 37, 38, 39, 40, 41, 42, 43] (by decide +kernel) (by decide +kernel)
set_option maxRecDepth 20000 in
theorem gX6_family_X6_isGrave : GoodIn wsX6_family (wsV RX6 54 RX6 yX6_isGrave wsX6_isGrave) := goodIn_app (goodIn_of _ (by decide +kernel)) ggX6_family_X6_isGrave
set_option maxRecDepth 20000 in
theorem ggX6_family_X6_within : GoodIn wsX6_family wsX6_within := goodIn_r _ [10] (by decide +kernel) (by decide +kernel)
set_option maxRecDepth 20000 in
theorem gX6_family_X6_within : GoodIn wsX6_family (va_wsS RX6 44 yX6_within wsX6_within) := goodIn_app (goodIn_of _ (by decide +kernel)) ggX6_family_X6_within
set_option maxRecDepth 20000 in
theorem ggX6_family_X6_finding : GoodIn wsX6_family wsX6_finding := goodIn_r _ [14, 15, 28, 29, 30, 31, 32, 33, 34, 35, 36, 37, 38, 39, 40, 41, 42, 43] (by decide +kernel) (by decide +kernel)
set_option maxRecDepth 20000 in
theorem gX6_family_X6_finding : GoodIn wsX6_family (wsV RX6 49 RX6 yX6_finding wsX6_finding) := goodIn_app (goodIn_of _ (by decide +kernel)) ggX6_family_X6_finding
set_option maxRecDepth 20000 in
theorem ggX6_family_X6_familyOf : GoodIn wsX6_family wsX6_familyOf := goodIn_r _ [19, 7, 20, 21, 22, 23, 28, 29, 30, 31, 32, 33, 34, 35, 36, 37, 38, 39, 40, 41, 42, 43] (by decide +kernel) (by decide +kernel)
set_option maxRecDepth 20000 in
theorem gX6_family_X6_familyOf : GoodIn wsX6_family (wsV RX6 153 RX6 yX6_familyOf wsX6_familyOf) := goodIn_app (goodIn_of _ (by decide +kernel)) ggX6_family_X6_familyOf
set_option maxRecDepth 20000 in
theorem ggX6_family_X6_leastOf : GoodIn wsX6_family wsX6_leastOf := goodIn_r _ [27] (by decide +kernel) (by decide +kernel)
set_option maxRecDepth 20000 in
theorem gX6_family_X6_leastOf : GoodIn wsX6_family (wsV RX6 156 RX6 yX6_leastOf wsX6_leastOf) := goodIn_app (goodIn_of _ (by decide +kernel)) ggX6_family_X6_leastOf
theorem dX6_family_0 : decode cX6_family 0 = .ok (.aload_n 0, 1) := by decide +kernel
theorem dX6_family_1 : decode cX6_family 1 = .ok (.iload_n 1, 1) := by decide +kernel
theorem dX6_family_2 : decode cX6_family 2 = .ok (.invokevirtual 54, 3) := by decide +kernel
theorem dX6_family_5 : decode cX6_family 5 = .ok (.ifCond .eq 13, 3) := by decide +kernel
theorem dX6_family_8 : decode cX6_family 8 = .ok (.iload_n 2, 1) := by decide +kernel
theorem dX6_family_9 : decode cX6_family 9 = .ok (.iconst 0, 1) := by decide +kernel
theorem dX6_family_10 : decode cX6_family 10 = .ok (.bipush 99, 2) := by decide +kernel
theorem dX6_family_12 : decode cX6_family 12 = .ok (.invokestatic 44, 3) := by decide +kernel
theorem dX6_family_15 : decode cX6_family 15 = .ok (.ifCond .ne 10, 3) := by decide +kernel
theorem dX6_family_18 : decode cX6_family 18 = .ok (.aload_n 0, 1) := by decide +kernel
theorem dX6_family_19 : decode cX6_family 19 = .ok (.ldc 48, 2) := by decide +kernel
theorem dX6_family_21 : decode cX6_family 21 = .ok (.invokevirtual 49, 3) := by decide +kernel
theorem dX6_family_24 : decode cX6_family 24 = .ok (.ireturn, 1) := by decide +kernel
theorem dX6_family_25 : decode cX6_family 25 = .ok (.aload_n 0, 1) := by decide +kernel
theorem dX6_family_26 : decode cX6_family 26 = .ok (.aload_n 0, 1) := by decide +kernel
theorem dX6_family_27 : decode cX6_family 27 = .ok (.iload_n 1, 1) := by decide +kernel
theorem dX6_family_28 : decode cX6_family 28 = .ok (.iload_n 2, 1) := by decide +kernel
theorem dX6_family_29 : decode cX6_family 29 = .ok (.invokevirtual 153, 3) := by decide +kernel
theorem dX6_family_32 : decode cX6_family 32 = .ok (.invokevirtual 156, 3) := by decide +kernel
theorem dX6_family_35 : decode cX6_family 35 = .ok (.ireturn, 1) := by decide +kernel
set_option maxRecDepth 20000 in
theorem ggX6_families_X6_within : GoodIn wsX6_families wsX6_within := goodIn_r _ [6] (by decide +kernel) (by decide +kernel)
set_option maxRecDepth 20000 in
theorem gX6_families_X6_within : GoodIn wsX6_families (va_wsS RX6 44 yX6_within wsX6_within) := goodIn_app (goodIn_of _ (by decide +kernel)) ggX6_families_X6_within
set_option maxRecDepth 20000 in
theorem ggX6_families_X6_finding : GoodIn wsX6_families wsX6_finding := goodIn_r _ [10, 11, 24, 25, 26, 27, 28, 29, 30, 31, 32, 33, 34, 35, 36, 37, 38, 39] (by decide +kernel) (by decide +kernel)
set_option maxRecDepth 20000 in
theorem gX6_families_X6_finding : GoodIn wsX6_families (wsV RX6 49 RX6 yX6_finding wsX6_finding) := goodIn_app (goodIn_of _ (by decide +kernel)) ggX6_families_X6_finding
set_option maxRecDepth 20000 in
theorem ggX6_families_X6_familyOf : GoodIn wsX6_families wsX6_familyOf := goodIn_r _ [15, 2, 16, 17, 18, 19, 24, 25, 26, 27, 28, 29, 30, 31, 32, 33, 34, 35, 36, 37, 38, 39] (by decide +kernel) (by decide +kernel)
set_option maxRecDepth 20000 in
theorem gX6_families_X6_familyOf : GoodIn wsX6_families (wsV RX6 153 RX6 yX6_familyOf wsX6_familyOf) := goodIn_app (goodIn_of _ (by decide +kernel)) ggX6_families_X6_familyOf
set_option maxRecDepth 20000 in
theorem ggX6_families_X6_leastOf : GoodIn wsX6_families wsX6_leastOf := goodIn_r _ [23] (by decide +kernel) (by decide +kernel)
set_option maxRecDepth 20000 in
theorem gX6_families_X6_leastOf : GoodIn wsX6_families (wsV RX6 156 RX6 yX6_leastOf wsX6_leastOf) := goodIn_app (goodIn_of _ (by decide +kernel)) ggX6_families_X6_leastOf
theorem dX6_families_0 : decode cX6_families 0 = .ok (.iload_n 1, 1) := by decide +kernel
theorem dX6_families_1 : decode cX6_families 1 = .ok (.iconst 0, 1) := by decide +kernel
theorem dX6_families_2 : decode cX6_families 2 = .ok (.bipush 99, 2) := by decide +kernel
theorem dX6_families_4 : decode cX6_families 4 = .ok (.invokestatic 44, 3) := by decide +kernel
theorem dX6_families_7 : decode cX6_families 7 = .ok (.ifCond .ne 10, 3) := by decide +kernel
theorem dX6_families_10 : decode cX6_families 10 = .ok (.aload_n 0, 1) := by decide +kernel
theorem dX6_families_11 : decode cX6_families 11 = .ok (.ldc 48, 2) := by decide +kernel
theorem dX6_families_13 : decode cX6_families 13 = .ok (.invokevirtual 49, 3) := by decide +kernel
theorem dX6_families_16 : decode cX6_families 16 = .ok (.ireturn, 1) := by decide +kernel
theorem dX6_families_17 : decode cX6_families 17 = .ok (.iconst 0, 1) := by decide +kernel
theorem dX6_families_18 : decode cX6_families 18 = .ok (.istore_n 2, 1) := by decide +kernel
theorem dX6_families_19 : decode cX6_families 19 = .ok (.iconst 0, 1) := by decide +kernel
theorem dX6_families_20 : decode cX6_families 20 = .ok (.istore_n 3, 1) := by decide +kernel
theorem dX6_families_21 : decode cX6_families 21 = .ok (.iload_n 3, 1) := by decide +kernel
theorem dX6_families_22 : decode cX6_families 22 = .ok (.aload_n 0, 1) := by decide +kernel
theorem dX6_families_23 : decode cX6_families 23 = .ok (.getfield 9, 3) := by decide +kernel
theorem dX6_families_26 : decode cX6_families 26 = .ok (.iconst 0, 1) := by decide +kernel
theorem dX6_families_27 : decode cX6_families 27 = .ok (.iaload, 1) := by decide +kernel
theorem dX6_families_28 : decode cX6_families 28 = .ok (.if_icmp .ge 31, 3) := by decide +kernel
theorem dX6_families_31 : decode cX6_families 31 = .ok (.iload_n 2, 1) := by decide +kernel
theorem dX6_families_32 : decode cX6_families 32 = .ok (.aload_n 0, 1) := by decide +kernel
theorem dX6_families_33 : decode cX6_families 33 = .ok (.aload_n 0, 1) := by decide +kernel
theorem dX6_families_34 : decode cX6_families 34 = .ok (.iload_n 3, 1) := by decide +kernel
theorem dX6_families_35 : decode cX6_families 35 = .ok (.iload_n 1, 1) := by decide +kernel
theorem dX6_families_36 : decode cX6_families 36 = .ok (.invokevirtual 153, 3) := by decide +kernel
theorem dX6_families_39 : decode cX6_families 39 = .ok (.invokevirtual 156, 3) := by decide +kernel
theorem dX6_families_42 : decode cX6_families 42 = .ok (.iload_n 3, 1) := by decide +kernel
theorem dX6_families_43 : decode cX6_families 43 = .ok (.if_icmp .ne 7, 3) := by decide +kernel
theorem dX6_families_46 : decode cX6_families 46 = .ok (.iconst 1, 1) := by decide +kernel
theorem dX6_families_47 : decode cX6_families 47 = .ok (.goto 4, 3) := by decide +kernel
theorem dX6_families_50 : decode cX6_families 50 = .ok (.iconst 0, 1) := by decide +kernel
theorem dX6_families_51 : decode cX6_families 51 = .ok (.iadd, 1) := by decide +kernel
theorem dX6_families_52 : decode cX6_families 52 = .ok (.istore_n 2, 1) := by decide +kernel
theorem dX6_families_53 : decode cX6_families 53 = .ok (.iinc 3 1, 3) := by decide +kernel
theorem dX6_families_56 : decode cX6_families 56 = .ok (.goto (-35), 3) := by decide +kernel
theorem dX6_families_59 : decode cX6_families 59 = .ok (.iload_n 2, 1) := by decide +kernel
theorem dX6_families_60 : decode cX6_families 60 = .ok (.ireturn, 1) := by decide +kernel
set_option maxRecDepth 20000 in
theorem ggX6_both_X6_many : GoodIn wsX6_both wsX6_many := goodIn_r _ [5] (by decide +kernel) (by decide +kernel)
set_option maxRecDepth 20000 in
theorem gX6_both_X6_many : GoodIn wsX6_both (va_wsS RX6 63 yX6_many wsX6_many) := goodIn_app (goodIn_of _ (by decide +kernel)) ggX6_both_X6_many
theorem dX6_both_0 : decode cX6_both 0 = .ok (.aload_n 0, 1) := by decide +kernel
theorem dX6_both_1 : decode cX6_both 1 = .ok (.getfield 9, 3) := by decide +kernel
theorem dX6_both_4 : decode cX6_both 4 = .ok (.bipush 32, 2) := by decide +kernel
theorem dX6_both_6 : decode cX6_both 6 = .ok (.iload_n 1, 1) := by decide +kernel
theorem dX6_both_7 : decode cX6_both 7 = .ok (.iadd, 1) := by decide +kernel
theorem dX6_both_8 : decode cX6_both 8 = .ok (.iaload, 1) := by decide +kernel
theorem dX6_both_9 : decode cX6_both 9 = .ok (.aload_n 0, 1) := by decide +kernel
theorem dX6_both_10 : decode cX6_both 10 = .ok (.getfield 9, 3) := by decide +kernel
theorem dX6_both_13 : decode cX6_both 13 = .ok (.bipush 32, 2) := by decide +kernel
theorem dX6_both_15 : decode cX6_both 15 = .ok (.iload_n 2, 1) := by decide +kernel
theorem dX6_both_16 : decode cX6_both 16 = .ok (.iadd, 1) := by decide +kernel
theorem dX6_both_17 : decode cX6_both 17 = .ok (.iaload, 1) := by decide +kernel
theorem dX6_both_18 : decode cX6_both 18 = .ok (.iand, 1) := by decide +kernel
theorem dX6_both_19 : decode cX6_both 19 = .ok (.invokestatic 63, 3) := by decide +kernel
theorem dX6_both_22 : decode cX6_both 22 = .ok (.ireturn, 1) := by decide +kernel
set_option maxRecDepth 20000 in
theorem ggX6_either_X6_many : GoodIn wsX6_either wsX6_many := goodIn_r _ [5] (by decide +kernel) (by decide +kernel)
set_option maxRecDepth 20000 in
theorem gX6_either_X6_many : GoodIn wsX6_either (va_wsS RX6 63 yX6_many wsX6_many) := goodIn_app (goodIn_of _ (by decide +kernel)) ggX6_either_X6_many
theorem dX6_either_0 : decode cX6_either 0 = .ok (.aload_n 0, 1) := by decide +kernel
theorem dX6_either_1 : decode cX6_either 1 = .ok (.getfield 9, 3) := by decide +kernel
theorem dX6_either_4 : decode cX6_either 4 = .ok (.bipush 32, 2) := by decide +kernel
theorem dX6_either_6 : decode cX6_either 6 = .ok (.iload_n 1, 1) := by decide +kernel
theorem dX6_either_7 : decode cX6_either 7 = .ok (.iadd, 1) := by decide +kernel
theorem dX6_either_8 : decode cX6_either 8 = .ok (.iaload, 1) := by decide +kernel
theorem dX6_either_9 : decode cX6_either 9 = .ok (.aload_n 0, 1) := by decide +kernel
theorem dX6_either_10 : decode cX6_either 10 = .ok (.getfield 9, 3) := by decide +kernel
theorem dX6_either_13 : decode cX6_either 13 = .ok (.bipush 32, 2) := by decide +kernel
theorem dX6_either_15 : decode cX6_either 15 = .ok (.iload_n 2, 1) := by decide +kernel
theorem dX6_either_16 : decode cX6_either 16 = .ok (.iadd, 1) := by decide +kernel
theorem dX6_either_17 : decode cX6_either 17 = .ok (.iaload, 1) := by decide +kernel
theorem dX6_either_18 : decode cX6_either 18 = .ok (.ior, 1) := by decide +kernel
theorem dX6_either_19 : decode cX6_either 19 = .ok (.invokestatic 63, 3) := by decide +kernel
theorem dX6_either_22 : decode cX6_either 22 = .ok (.istore_n 3, 1) := by decide +kernel
theorem dX6_either_23 : decode cX6_either 23 = .ok (.iload_n 3, 1) := by decide +kernel
theorem dX6_either_24 : decode cX6_either 24 = .ok (.ifCond .ne 7, 3) := by decide +kernel
theorem dX6_either_27 : decode cX6_either 27 = .ok (.iconst 1, 1) := by decide +kernel
theorem dX6_either_28 : decode cX6_either 28 = .ok (.goto 4, 3) := by decide +kernel
theorem dX6_either_31 : decode cX6_either 31 = .ok (.iload_n 3, 1) := by decide +kernel
theorem dX6_either_32 : decode cX6_either 32 = .ok (.ireturn, 1) := by decide +kernel
set_option maxRecDepth 20000 in
theorem ggX6_like_X6_isGrave : GoodIn wsX6_like wsX6_isGrave := goodIn_r _ [6, 7, 8, 9, 5, 10, 27, 28, 29, 30, 31, 32, 33, 34, 35, 36, 37, 38, 39, 40, 41, 42] (by decide +kernel) (by decide +kernel)
set_option maxRecDepth 20000 in
theorem gX6_like_X6_isGrave : GoodIn wsX6_like (wsV RX6 54 RX6 yX6_isGrave wsX6_isGrave) := goodIn_app (goodIn_of _ (by decide +kernel)) ggX6_like_X6_isGrave
set_option maxRecDepth 20000 in
theorem ggX6_like_X6_finding : GoodIn wsX6_like wsX6_finding := goodIn_r _ [14, 15, 27, 28, 29, 30, 31, 32, 33, 34, 35, 36, 37, 38, 39, 40, 41, 42] (by decide +kernel) (by decide +kernel)
set_option maxRecDepth 20000 in
theorem gX6_like_X6_finding : GoodIn wsX6_like (wsV RX6 49 RX6 yX6_finding wsX6_finding) := goodIn_app (goodIn_of _ (by decide +kernel)) ggX6_like_X6_finding
set_option maxRecDepth 20000 in
theorem ggX6_like_X6_both : GoodIn wsX6_like wsX6_both := goodIn_r _ [19, 7, 20, 21, 5, 22, 27, 28, 29, 30, 31, 32, 33, 34, 35, 36, 37, 38, 39, 40, 41, 42] (by decide +kernel) (by decide +kernel)
set_option maxRecDepth 20000 in
theorem gX6_like_X6_both : GoodIn wsX6_like (wsV RX6 159 RX6 yX6_both wsX6_both) := goodIn_app (goodIn_of _ (by decide +kernel)) ggX6_like_X6_both
set_option maxRecDepth 20000 in
theorem ggX6_like_X6_either : GoodIn wsX6_like wsX6_either := goodIn_r _ [26, 7, 20, 21, 5, 22, 27, 28, 29, 30, 31, 32, 33, 34, 35, 36, 37, 38, 39, 40, 41, 42] (by decide +kernel) (by decide +kernel)
set_option maxRecDepth 20000 in
theorem gX6_like_X6_either : GoodIn wsX6_like (wsV RX6 162 RX6 yX6_either wsX6_either) := goodIn_app (goodIn_of _ (by decide +kernel)) ggX6_like_X6_either
theorem dX6_like_0 : decode cX6_like 0 = .ok (.aload_n 0, 1) := by decide +kernel
theorem dX6_like_1 : decode cX6_like 1 = .ok (.iload_n 1, 1) := by decide +kernel
theorem dX6_like_2 : decode cX6_like 2 = .ok (.invokevirtual 54, 3) := by decide +kernel
theorem dX6_like_5 : decode cX6_like 5 = .ok (.ifCond .eq 11, 3) := by decide +kernel
theorem dX6_like_8 : decode cX6_like 8 = .ok (.aload_n 0, 1) := by decide +kernel
theorem dX6_like_9 : decode cX6_like 9 = .ok (.iload_n 2, 1) := by decide +kernel
theorem dX6_like_10 : decode cX6_like 10 = .ok (.invokevirtual 54, 3) := by decide +kernel
theorem dX6_like_13 : decode cX6_like 13 = .ok (.ifCond .ne 10, 3) := by decide +kernel
theorem dX6_like_16 : decode cX6_like 16 = .ok (.aload_n 0, 1) := by decide +kernel
theorem dX6_like_17 : decode cX6_like 17 = .ok (.ldc 48, 2) := by decide +kernel
theorem dX6_like_19 : decode cX6_like 19 = .ok (.invokevirtual 49, 3) := by decide +kernel
theorem dX6_like_22 : decode cX6_like 22 = .ok (.ireturn, 1) := by decide +kernel
theorem dX6_like_23 : decode cX6_like 23 = .ok (.aload_n 0, 1) := by decide +kernel
theorem dX6_like_24 : decode cX6_like 24 = .ok (.iload_n 1, 1) := by decide +kernel
theorem dX6_like_25 : decode cX6_like 25 = .ok (.iload_n 2, 1) := by decide +kernel
theorem dX6_like_26 : decode cX6_like 26 = .ok (.invokevirtual 159, 3) := by decide +kernel
theorem dX6_like_29 : decode cX6_like 29 = .ok (.istore 4, 2) := by decide +kernel
theorem dX6_like_31 : decode cX6_like 31 = .ok (.aload_n 0, 1) := by decide +kernel
theorem dX6_like_32 : decode cX6_like 32 = .ok (.iload_n 1, 1) := by decide +kernel
theorem dX6_like_33 : decode cX6_like 33 = .ok (.iload_n 2, 1) := by decide +kernel
theorem dX6_like_34 : decode cX6_like 34 = .ok (.invokevirtual 162, 3) := by decide +kernel
theorem dX6_like_37 : decode cX6_like 37 = .ok (.istore 5, 2) := by decide +kernel
theorem dX6_like_39 : decode cX6_like 39 = .ok (.iload 5, 2) := by decide +kernel
theorem dX6_like_41 : decode cX6_like 41 = .ok (.istore 6, 2) := by decide +kernel
theorem dX6_like_43 : decode cX6_like 43 = .ok (.iload 4, 2) := by decide +kernel
theorem dX6_like_45 : decode cX6_like 45 = .ok (.iload 6, 2) := by decide +kernel
theorem dX6_like_47 : decode cX6_like 47 = .ok (.irem, 1) := by decide +kernel
theorem dX6_like_48 : decode cX6_like 48 = .ok (.ifCond .ne 11, 3) := by decide +kernel
theorem dX6_like_51 : decode cX6_like 51 = .ok (.iload 5, 2) := by decide +kernel
theorem dX6_like_53 : decode cX6_like 53 = .ok (.iload 6, 2) := by decide +kernel
theorem dX6_like_55 : decode cX6_like 55 = .ok (.irem, 1) := by decide +kernel
theorem dX6_like_56 : decode cX6_like 56 = .ok (.ifCond .eq 9, 3) := by decide +kernel
theorem dX6_like_59 : decode cX6_like 59 = .ok (.iinc 6 (-1), 3) := by decide +kernel
theorem dX6_like_62 : decode cX6_like 62 = .ok (.goto (-19), 3) := by decide +kernel
theorem dX6_like_65 : decode cX6_like 65 = .ok (.iload_n 3, 1) := by decide +kernel
theorem dX6_like_66 : decode cX6_like 66 = .ok (.ifCond .eq 11, 3) := by decide +kernel
theorem dX6_like_69 : decode cX6_like 69 = .ok (.iload 5, 2) := by decide +kernel
theorem dX6_like_71 : decode cX6_like 71 = .ok (.iload 6, 2) := by decide +kernel
theorem dX6_like_73 : decode cX6_like 73 = .ok (.idiv, 1) := by decide +kernel
theorem dX6_like_74 : decode cX6_like 74 = .ok (.goto 8, 3) := by decide +kernel
theorem dX6_like_77 : decode cX6_like 77 = .ok (.iload 4, 2) := by decide +kernel
theorem dX6_like_79 : decode cX6_like 79 = .ok (.iload 6, 2) := by decide +kernel
theorem dX6_like_81 : decode cX6_like 81 = .ok (.idiv, 1) := by decide +kernel
theorem dX6_like_82 : decode cX6_like 82 = .ok (.ireturn, 1) := by decide +kernel
set_option maxRecDepth 20000 in
theorem ggX6_nearest_X6_isGrave : GoodIn wsX6_nearest wsX6_isGrave := goodIn_r _ [8, 2, 9, 10, 7, 11, 28, 29, 30, 31, 32, 33, 34, 35, 36, 37, 38, 39, 40, 41, 42, 43] (by decide +kernel) (by decide +kernel)
set_option maxRecDepth 20000 in
theorem gX6_nearest_X6_isGrave : GoodIn wsX6_nearest (wsV RX6 54 RX6 yX6_isGrave wsX6_isGrave) := goodIn_app (goodIn_of _ (by decide +kernel)) ggX6_nearest_X6_isGrave
set_option maxRecDepth 20000 in
theorem ggX6_nearest_X6_finding : GoodIn wsX6_nearest wsX6_finding := goodIn_r _ [15, 16, 28, 29, 30, 31, 32, 33, 34, 35, 36, 37, 38, 39, 40, 41, 42, 43] (by decide +kernel) (by decide +kernel)
set_option maxRecDepth 20000 in
theorem gX6_nearest_X6_finding : GoodIn wsX6_nearest (wsV RX6 49 RX6 yX6_finding wsX6_finding) := goodIn_app (goodIn_of _ (by decide +kernel)) ggX6_nearest_X6_finding
set_option maxRecDepth 20000 in
theorem ggX6_nearest_X6_both : GoodIn wsX6_nearest wsX6_both := goodIn_r _ [20, 2, 21, 22, 7, 23, 28, 29, 30, 31, 32, 33, 34, 35, 36, 37, 38, 39, 40, 41, 42, 43] (by decide +kernel) (by decide +kernel)
set_option maxRecDepth 20000 in
theorem gX6_nearest_X6_both : GoodIn wsX6_nearest (wsV RX6 159 RX6 yX6_both wsX6_both) := goodIn_app (goodIn_of _ (by decide +kernel)) ggX6_nearest_X6_both
set_option maxRecDepth 20000 in
theorem ggX6_nearest_X6_either : GoodIn wsX6_nearest wsX6_either := goodIn_r _ [27, 2, 21, 22, 7, 23, 28, 29, 30, 31, 32, 33, 34, 35, 36, 37, 38, 39, 40, 41, 42, 43] (by decide +kernel) (by decide +kernel)
set_option maxRecDepth 20000 in
theorem gX6_nearest_X6_either : GoodIn wsX6_nearest (wsV RX6 162 RX6 yX6_either wsX6_either) := goodIn_app (goodIn_of _ (by decide +kernel)) ggX6_nearest_X6_either
theorem dX6_nearest_0 : decode cX6_nearest 0 = .ok (.aload_n 0, 1) := by decide +kernel
theorem dX6_nearest_1 : decode cX6_nearest 1 = .ok (.iload_n 1, 1) := by decide +kernel
theorem dX6_nearest_2 : decode cX6_nearest 2 = .ok (.invokevirtual 54, 3) := by decide +kernel
theorem dX6_nearest_5 : decode cX6_nearest 5 = .ok (.ifCond .ne 10, 3) := by decide +kernel
theorem dX6_nearest_8 : decode cX6_nearest 8 = .ok (.aload_n 0, 1) := by decide +kernel
theorem dX6_nearest_9 : decode cX6_nearest 9 = .ok (.ldc 48, 2) := by decide +kernel
theorem dX6_nearest_11 : decode cX6_nearest 11 = .ok (.invokevirtual 49, 3) := by decide +kernel
theorem dX6_nearest_14 : decode cX6_nearest 14 = .ok (.ireturn, 1) := by decide +kernel
theorem dX6_nearest_15 : decode cX6_nearest 15 = .ok (.iconst (-1), 1) := by decide +kernel
theorem dX6_nearest_16 : decode cX6_nearest 16 = .ok (.istore_n 2, 1) := by decide +kernel
theorem dX6_nearest_17 : decode cX6_nearest 17 = .ok (.iconst 0, 1) := by decide +kernel
theorem dX6_nearest_18 : decode cX6_nearest 18 = .ok (.istore_n 3, 1) := by decide +kernel
theorem dX6_nearest_19 : decode cX6_nearest 19 = .ok (.iload_n 3, 1) := by decide +kernel
theorem dX6_nearest_20 : decode cX6_nearest 20 = .ok (.aload_n 0, 1) := by decide +kernel
theorem dX6_nearest_21 : decode cX6_nearest 21 = .ok (.getfield 9, 3) := by decide +kernel
theorem dX6_nearest_24 : decode cX6_nearest 24 = .ok (.iconst 0, 1) := by decide +kernel
theorem dX6_nearest_25 : decode cX6_nearest 25 = .ok (.iaload, 1) := by decide +kernel
theorem dX6_nearest_26 : decode cX6_nearest 26 = .ok (.if_icmp .ge 49, 3) := by decide +kernel
theorem dX6_nearest_29 : decode cX6_nearest 29 = .ok (.iload_n 3, 1) := by decide +kernel
theorem dX6_nearest_30 : decode cX6_nearest 30 = .ok (.iload_n 1, 1) := by decide +kernel
theorem dX6_nearest_31 : decode cX6_nearest 31 = .ok (.if_icmp .eq 38, 3) := by decide +kernel
theorem dX6_nearest_34 : decode cX6_nearest 34 = .ok (.iload_n 2, 1) := by decide +kernel
theorem dX6_nearest_35 : decode cX6_nearest 35 = .ok (.ifCond .lt 32, 3) := by decide +kernel
theorem dX6_nearest_38 : decode cX6_nearest 38 = .ok (.aload_n 0, 1) := by decide +kernel
theorem dX6_nearest_39 : decode cX6_nearest 39 = .ok (.iload_n 1, 1) := by decide +kernel
theorem dX6_nearest_40 : decode cX6_nearest 40 = .ok (.iload_n 3, 1) := by decide +kernel
theorem dX6_nearest_41 : decode cX6_nearest 41 = .ok (.invokevirtual 159, 3) := by decide +kernel
theorem dX6_nearest_44 : decode cX6_nearest 44 = .ok (.aload_n 0, 1) := by decide +kernel
theorem dX6_nearest_45 : decode cX6_nearest 45 = .ok (.iload_n 1, 1) := by decide +kernel
theorem dX6_nearest_46 : decode cX6_nearest 46 = .ok (.iload_n 2, 1) := by decide +kernel
theorem dX6_nearest_47 : decode cX6_nearest 47 = .ok (.invokevirtual 162, 3) := by decide +kernel
theorem dX6_nearest_50 : decode cX6_nearest 50 = .ok (.imul, 1) := by decide +kernel
theorem dX6_nearest_51 : decode cX6_nearest 51 = .ok (.aload_n 0, 1) := by decide +kernel
theorem dX6_nearest_52 : decode cX6_nearest 52 = .ok (.iload_n 1, 1) := by decide +kernel
theorem dX6_nearest_53 : decode cX6_nearest 53 = .ok (.iload_n 2, 1) := by decide +kernel
theorem dX6_nearest_54 : decode cX6_nearest 54 = .ok (.invokevirtual 159, 3) := by decide +kernel
theorem dX6_nearest_57 : decode cX6_nearest 57 = .ok (.aload_n 0, 1) := by decide +kernel
theorem dX6_nearest_58 : decode cX6_nearest 58 = .ok (.iload_n 1, 1) := by decide +kernel
theorem dX6_nearest_59 : decode cX6_nearest 59 = .ok (.iload_n 3, 1) := by decide +kernel
theorem dX6_nearest_60 : decode cX6_nearest 60 = .ok (.invokevirtual 162, 3) := by decide +kernel
theorem dX6_nearest_63 : decode cX6_nearest 63 = .ok (.imul, 1) := by decide +kernel
theorem dX6_nearest_64 : decode cX6_nearest 64 = .ok (.if_icmp .le 5, 3) := by decide +kernel
theorem dX6_nearest_67 : decode cX6_nearest 67 = .ok (.iload_n 3, 1) := by decide +kernel
theorem dX6_nearest_68 : decode cX6_nearest 68 = .ok (.istore_n 2, 1) := by decide +kernel
theorem dX6_nearest_69 : decode cX6_nearest 69 = .ok (.iinc 3 1, 3) := by decide +kernel
theorem dX6_nearest_72 : decode cX6_nearest 72 = .ok (.goto (-53), 3) := by decide +kernel
theorem dX6_nearest_75 : decode cX6_nearest 75 = .ok (.iload_n 2, 1) := by decide +kernel
theorem dX6_nearest_76 : decode cX6_nearest 76 = .ok (.ifCond .ge 12, 3) := by decide +kernel
theorem dX6_nearest_79 : decode cX6_nearest 79 = .ok (.aload_n 0, 1) := by decide +kernel
theorem dX6_nearest_80 : decode cX6_nearest 80 = .ok (.ldc 83, 2) := by decide +kernel
theorem dX6_nearest_82 : decode cX6_nearest 82 = .ok (.invokevirtual 49, 3) := by decide +kernel
theorem dX6_nearest_85 : decode cX6_nearest 85 = .ok (.goto 4, 3) := by decide +kernel
theorem dX6_nearest_88 : decode cX6_nearest 88 = .ok (.iload_n 2, 1) := by decide +kernel
theorem dX6_nearest_89 : decode cX6_nearest 89 = .ok (.ireturn, 1) := by decide +kernel
set_option maxRecDepth 20000 in
theorem ggX6_isMark_X6_within : GoodIn wsX6_isMark wsX6_within := goodIn_r _ [4] (by decide +kernel) (by decide +kernel)
set_option maxRecDepth 20000 in
theorem gX6_isMark_X6_within : GoodIn wsX6_isMark (va_wsS RX6 44 yX6_within wsX6_within) := goodIn_app (goodIn_of _ (by decide +kernel)) ggX6_isMark_X6_within
theorem dX6_isMark_0 : decode cX6_isMark 0 = .ok (.iload_n 0, 1) := by decide +kernel
theorem dX6_isMark_1 : decode cX6_isMark 1 = .ok (.iconst 0, 1) := by decide +kernel
theorem dX6_isMark_2 : decode cX6_isMark 2 = .ok (.iconst 5, 1) := by decide +kernel
theorem dX6_isMark_3 : decode cX6_isMark 3 = .ok (.invokestatic 44, 3) := by decide +kernel
theorem dX6_isMark_6 : decode cX6_isMark 6 = .ok (.ireturn, 1) := by decide +kernel
set_option maxRecDepth 20000 in
theorem ggX6_mark_X6_isGrave : GoodIn wsX6_mark wsX6_isGrave := goodIn_r _ [7, 2, 8, 9, 6, 10, 19, 20, 21, 22, 23, 24, 25, 26, 27, 28, 29, 30, 31, 32, 33, 34] (by decide +kernel) (by decide +kernel)
set_option maxRecDepth 20000 in
theorem gX6_mark_X6_isGrave : GoodIn wsX6_mark (wsV RX6 54 RX6 yX6_isGrave wsX6_isGrave) := goodIn_app (goodIn_of _ (by decide +kernel)) ggX6_mark_X6_isGrave
set_option maxRecDepth 20000 in
theorem ggX6_mark_X6_isMark : GoodIn wsX6_mark wsX6_isMark := goodIn_r _ [13, 8, 9, 6, 10] (by decide +kernel) (by decide +kernel)
set_option maxRecDepth 20000 in
theorem gX6_mark_X6_isMark : GoodIn wsX6_mark (va_wsS RX6 165 yX6_isMark wsX6_isMark) := goodIn_app (goodIn_of _ (by decide +kernel)) ggX6_mark_X6_isMark
set_option maxRecDepth 20000 in
theorem ggX6_mark_X6_finding : GoodIn wsX6_mark wsX6_finding := goodIn_r _ [17, 18, 19, 20, 21, 22, 23, 24, 25, 26, 27, 28, 29, 30, 31, 32, 33, 34] (by decide +kernel) (by decide +kernel)
set_option maxRecDepth 20000 in
theorem gX6_mark_X6_finding : GoodIn wsX6_mark (wsV RX6 49 RX6 yX6_finding wsX6_finding) := goodIn_app (goodIn_of _ (by decide +kernel)) ggX6_mark_X6_finding
theorem dX6_mark_0 : decode cX6_mark 0 = .ok (.aload_n 0, 1) := by decide +kernel
theorem dX6_mark_1 : decode cX6_mark 1 = .ok (.iload_n 1, 1) := by decide +kernel
theorem dX6_mark_2 : decode cX6_mark 2 = .ok (.invokevirtual 54, 3) := by decide +kernel
theorem dX6_mark_5 : decode cX6_mark 5 = .ok (.ifCond .eq 10, 3) := by decide +kernel
theorem dX6_mark_8 : decode cX6_mark 8 = .ok (.iload_n 2, 1) := by decide +kernel
theorem dX6_mark_9 : decode cX6_mark 9 = .ok (.invokestatic 165, 3) := by decide +kernel
theorem dX6_mark_12 : decode cX6_mark 12 = .ok (.ifCond .ne 10, 3) := by decide +kernel
theorem dX6_mark_15 : decode cX6_mark 15 = .ok (.aload_n 0, 1) := by decide +kernel
theorem dX6_mark_16 : decode cX6_mark 16 = .ok (.ldc 48, 2) := by decide +kernel
theorem dX6_mark_18 : decode cX6_mark 18 = .ok (.invokevirtual 49, 3) := by decide +kernel
theorem dX6_mark_21 : decode cX6_mark 21 = .ok (.ireturn, 1) := by decide +kernel
theorem dX6_mark_22 : decode cX6_mark 22 = .ok (.iconst 1, 1) := by decide +kernel
theorem dX6_mark_23 : decode cX6_mark 23 = .ok (.iload_n 2, 1) := by decide +kernel
theorem dX6_mark_24 : decode cX6_mark 24 = .ok (.ishl, 1) := by decide +kernel
theorem dX6_mark_25 : decode cX6_mark 25 = .ok (.istore 4, 2) := by decide +kernel
theorem dX6_mark_27 : decode cX6_mark 27 = .ok (.aload_n 0, 1) := by decide +kernel
theorem dX6_mark_28 : decode cX6_mark 28 = .ok (.getfield 9, 3) := by decide +kernel
theorem dX6_mark_31 : decode cX6_mark 31 = .ok (.bipush 72, 2) := by decide +kernel
theorem dX6_mark_33 : decode cX6_mark 33 = .ok (.iload_n 1, 1) := by decide +kernel
theorem dX6_mark_34 : decode cX6_mark 34 = .ok (.iadd, 1) := by decide +kernel
theorem dX6_mark_35 : decode cX6_mark 35 = .ok (.iaload, 1) := by decide +kernel
theorem dX6_mark_36 : decode cX6_mark 36 = .ok (.iload 4, 2) := by decide +kernel
theorem dX6_mark_38 : decode cX6_mark 38 = .ok (.iand, 1) := by decide +kernel
theorem dX6_mark_39 : decode cX6_mark 39 = .ok (.ifCond .eq 7, 3) := by decide +kernel
theorem dX6_mark_42 : decode cX6_mark 42 = .ok (.iconst 1, 1) := by decide +kernel
theorem dX6_mark_43 : decode cX6_mark 43 = .ok (.goto 4, 3) := by decide +kernel
theorem dX6_mark_46 : decode cX6_mark 46 = .ok (.iconst 0, 1) := by decide +kernel
theorem dX6_mark_47 : decode cX6_mark 47 = .ok (.istore 5, 2) := by decide +kernel
theorem dX6_mark_49 : decode cX6_mark 49 = .ok (.aload_n 0, 1) := by decide +kernel
theorem dX6_mark_50 : decode cX6_mark 50 = .ok (.getfield 9, 3) := by decide +kernel
theorem dX6_mark_53 : decode cX6_mark 53 = .ok (.bipush 72, 2) := by decide +kernel
theorem dX6_mark_55 : decode cX6_mark 55 = .ok (.iload_n 1, 1) := by decide +kernel
theorem dX6_mark_56 : decode cX6_mark 56 = .ok (.iadd, 1) := by decide +kernel
theorem dX6_mark_57 : decode cX6_mark 57 = .ok (.dup2, 1) := by decide +kernel
theorem dX6_mark_58 : decode cX6_mark 58 = .ok (.iaload, 1) := by decide +kernel
theorem dX6_mark_59 : decode cX6_mark 59 = .ok (.iload 4, 2) := by decide +kernel
theorem dX6_mark_61 : decode cX6_mark 61 = .ok (.ior, 1) := by decide +kernel
theorem dX6_mark_62 : decode cX6_mark 62 = .ok (.iastore, 1) := by decide +kernel
theorem dX6_mark_63 : decode cX6_mark 63 = .ok (.aload_n 0, 1) := by decide +kernel
theorem dX6_mark_64 : decode cX6_mark 64 = .ok (.getfield 9, 3) := by decide +kernel
theorem dX6_mark_67 : decode cX6_mark 67 = .ok (.bipush 82, 2) := by decide +kernel
theorem dX6_mark_69 : decode cX6_mark 69 = .ok (.iload_n 1, 1) := by decide +kernel
theorem dX6_mark_70 : decode cX6_mark 70 = .ok (.iadd, 1) := by decide +kernel
theorem dX6_mark_71 : decode cX6_mark 71 = .ok (.iload_n 3, 1) := by decide +kernel
theorem dX6_mark_72 : decode cX6_mark 72 = .ok (.ifCond .eq 18, 3) := by decide +kernel
theorem dX6_mark_75 : decode cX6_mark 75 = .ok (.aload_n 0, 1) := by decide +kernel
theorem dX6_mark_76 : decode cX6_mark 76 = .ok (.getfield 9, 3) := by decide +kernel
theorem dX6_mark_79 : decode cX6_mark 79 = .ok (.bipush 82, 2) := by decide +kernel
theorem dX6_mark_81 : decode cX6_mark 81 = .ok (.iload_n 1, 1) := by decide +kernel
theorem dX6_mark_82 : decode cX6_mark 82 = .ok (.iadd, 1) := by decide +kernel
theorem dX6_mark_83 : decode cX6_mark 83 = .ok (.iaload, 1) := by decide +kernel
theorem dX6_mark_84 : decode cX6_mark 84 = .ok (.iload 4, 2) := by decide +kernel
theorem dX6_mark_86 : decode cX6_mark 86 = .ok (.ior, 1) := by decide +kernel
theorem dX6_mark_87 : decode cX6_mark 87 = .ok (.goto 17, 3) := by decide +kernel
theorem dX6_mark_90 : decode cX6_mark 90 = .ok (.aload_n 0, 1) := by decide +kernel
theorem dX6_mark_91 : decode cX6_mark 91 = .ok (.getfield 9, 3) := by decide +kernel
theorem dX6_mark_94 : decode cX6_mark 94 = .ok (.bipush 82, 2) := by decide +kernel
theorem dX6_mark_96 : decode cX6_mark 96 = .ok (.iload_n 1, 1) := by decide +kernel
theorem dX6_mark_97 : decode cX6_mark 97 = .ok (.iadd, 1) := by decide +kernel
theorem dX6_mark_98 : decode cX6_mark 98 = .ok (.iaload, 1) := by decide +kernel
theorem dX6_mark_99 : decode cX6_mark 99 = .ok (.iload 4, 2) := by decide +kernel
theorem dX6_mark_101 : decode cX6_mark 101 = .ok (.iconst (-1), 1) := by decide +kernel
theorem dX6_mark_102 : decode cX6_mark 102 = .ok (.ixor, 1) := by decide +kernel
theorem dX6_mark_103 : decode cX6_mark 103 = .ok (.iand, 1) := by decide +kernel
theorem dX6_mark_104 : decode cX6_mark 104 = .ok (.iastore, 1) := by decide +kernel
theorem dX6_mark_105 : decode cX6_mark 105 = .ok (.iload 5, 2) := by decide +kernel
theorem dX6_mark_107 : decode cX6_mark 107 = .ok (.ifCond .eq 7, 3) := by decide +kernel
theorem dX6_mark_110 : decode cX6_mark 110 = .ok (.iconst 0, 1) := by decide +kernel
theorem dX6_mark_111 : decode cX6_mark 111 = .ok (.goto 4, 3) := by decide +kernel
theorem dX6_mark_114 : decode cX6_mark 114 = .ok (.iconst 1, 1) := by decide +kernel
theorem dX6_mark_115 : decode cX6_mark 115 = .ok (.ireturn, 1) := by decide +kernel
set_option maxRecDepth 20000 in
theorem ggX6_weigh_X6_isMark : GoodIn wsX6_weigh wsX6_isMark := goodIn_r _ [6, 7, 8, 5, 9] (by decide +kernel) (by decide +kernel)
set_option maxRecDepth 20000 in
theorem gX6_weigh_X6_isMark : GoodIn wsX6_weigh (va_wsS RX6 165 yX6_isMark wsX6_isMark) := goodIn_app (goodIn_of _ (by decide +kernel)) ggX6_weigh_X6_isMark
set_option maxRecDepth 20000 in
theorem ggX6_weigh_X6_within : GoodIn wsX6_weigh wsX6_within := goodIn_r _ [9] (by decide +kernel) (by decide +kernel)
set_option maxRecDepth 20000 in
theorem gX6_weigh_X6_within : GoodIn wsX6_weigh (va_wsS RX6 44 yX6_within wsX6_within) := goodIn_app (goodIn_of _ (by decide +kernel)) ggX6_weigh_X6_within
set_option maxRecDepth 20000 in
theorem ggX6_weigh_X6_finding : GoodIn wsX6_weigh wsX6_finding := goodIn_r _ [13, 14, 15, 16, 17, 18, 19, 20, 21, 22, 23, 24, 25, 26, 27, 28, 29, 30] (by decide +kernel) (by decide +kernel)
set_option maxRecDepth 20000 in
theorem gX6_weigh_X6_finding : GoodIn wsX6_weigh (wsV RX6 49 RX6 yX6_finding wsX6_finding) := goodIn_app (goodIn_of _ (by decide +kernel)) ggX6_weigh_X6_finding
theorem dX6_weigh_0 : decode cX6_weigh 0 = .ok (.iload_n 1, 1) := by decide +kernel
theorem dX6_weigh_1 : decode cX6_weigh 1 = .ok (.invokestatic 165, 3) := by decide +kernel
theorem dX6_weigh_4 : decode cX6_weigh 4 = .ok (.ifCond .eq 13, 3) := by decide +kernel
theorem dX6_weigh_7 : decode cX6_weigh 7 = .ok (.iload_n 3, 1) := by decide +kernel
theorem dX6_weigh_8 : decode cX6_weigh 8 = .ok (.iconst 1, 1) := by decide +kernel
theorem dX6_weigh_9 : decode cX6_weigh 9 = .ok (.bipush 20, 2) := by decide +kernel
theorem dX6_weigh_11 : decode cX6_weigh 11 = .ok (.invokestatic 44, 3) := by decide +kernel
theorem dX6_weigh_14 : decode cX6_weigh 14 = .ok (.ifCond .ne 10, 3) := by decide +kernel
theorem dX6_weigh_17 : decode cX6_weigh 17 = .ok (.aload_n 0, 1) := by decide +kernel
theorem dX6_weigh_18 : decode cX6_weigh 18 = .ok (.ldc 48, 2) := by decide +kernel
theorem dX6_weigh_20 : decode cX6_weigh 20 = .ok (.invokevirtual 49, 3) := by decide +kernel
theorem dX6_weigh_23 : decode cX6_weigh 23 = .ok (.ireturn, 1) := by decide +kernel
theorem dX6_weigh_24 : decode cX6_weigh 24 = .ok (.iload_n 2, 1) := by decide +kernel
theorem dX6_weigh_25 : decode cX6_weigh 25 = .ok (.ifCond .eq 8, 3) := by decide +kernel
theorem dX6_weigh_28 : decode cX6_weigh 28 = .ok (.bipush 92, 2) := by decide +kernel
theorem dX6_weigh_30 : decode cX6_weigh 30 = .ok (.goto 5, 3) := by decide +kernel
theorem dX6_weigh_33 : decode cX6_weigh 33 = .ok (.bipush 98, 2) := by decide +kernel
theorem dX6_weigh_35 : decode cX6_weigh 35 = .ok (.iload_n 1, 1) := by decide +kernel
theorem dX6_weigh_36 : decode cX6_weigh 36 = .ok (.iadd, 1) := by decide +kernel
theorem dX6_weigh_37 : decode cX6_weigh 37 = .ok (.istore 4, 2) := by decide +kernel
theorem dX6_weigh_39 : decode cX6_weigh 39 = .ok (.aload_n 0, 1) := by decide +kernel
theorem dX6_weigh_40 : decode cX6_weigh 40 = .ok (.getfield 9, 3) := by decide +kernel
theorem dX6_weigh_43 : decode cX6_weigh 43 = .ok (.iload 4, 2) := by decide +kernel
theorem dX6_weigh_45 : decode cX6_weigh 45 = .ok (.iaload, 1) := by decide +kernel
theorem dX6_weigh_46 : decode cX6_weigh 46 = .ok (.istore 5, 2) := by decide +kernel
theorem dX6_weigh_48 : decode cX6_weigh 48 = .ok (.aload_n 0, 1) := by decide +kernel
theorem dX6_weigh_49 : decode cX6_weigh 49 = .ok (.getfield 9, 3) := by decide +kernel
theorem dX6_weigh_52 : decode cX6_weigh 52 = .ok (.iload 4, 2) := by decide +kernel
theorem dX6_weigh_54 : decode cX6_weigh 54 = .ok (.iload_n 3, 1) := by decide +kernel
theorem dX6_weigh_55 : decode cX6_weigh 55 = .ok (.iastore, 1) := by decide +kernel
theorem dX6_weigh_56 : decode cX6_weigh 56 = .ok (.iload 5, 2) := by decide +kernel
theorem dX6_weigh_58 : decode cX6_weigh 58 = .ok (.ireturn, 1) := by decide +kernel
theorem dX6_shareOf_0 : decode cX6_shareOf 0 = .ok (.lconst 1, 1) := by decide +kernel
theorem dX6_shareOf_1 : decode cX6_shareOf 1 = .ok (.lstore_n 3, 1) := by decide +kernel
theorem dX6_shareOf_2 : decode cX6_shareOf 2 = .ok (.iconst 0, 1) := by decide +kernel
theorem dX6_shareOf_3 : decode cX6_shareOf 3 = .ok (.istore 5, 2) := by decide +kernel
theorem dX6_shareOf_5 : decode cX6_shareOf 5 = .ok (.iload 5, 2) := by decide +kernel
theorem dX6_shareOf_7 : decode cX6_shareOf 7 = .ok (.bipush 6, 2) := by decide +kernel
theorem dX6_shareOf_9 : decode cX6_shareOf 9 = .ok (.if_icmp .ge 96, 3) := by decide +kernel
theorem dX6_shareOf_12 : decode cX6_shareOf 12 = .ok (.aload_n 0, 1) := by decide +kernel
theorem dX6_shareOf_13 : decode cX6_shareOf 13 = .ok (.getfield 9, 3) := by decide +kernel
theorem dX6_shareOf_16 : decode cX6_shareOf 16 = .ok (.bipush 72, 2) := by decide +kernel
theorem dX6_shareOf_18 : decode cX6_shareOf 18 = .ok (.iload_n 1, 1) := by decide +kernel
theorem dX6_shareOf_19 : decode cX6_shareOf 19 = .ok (.iadd, 1) := by decide +kernel
theorem dX6_shareOf_20 : decode cX6_shareOf 20 = .ok (.iaload, 1) := by decide +kernel
theorem dX6_shareOf_21 : decode cX6_shareOf 21 = .ok (.iload 5, 2) := by decide +kernel
theorem dX6_shareOf_23 : decode cX6_shareOf 23 = .ok (.ishr, 1) := by decide +kernel
theorem dX6_shareOf_24 : decode cX6_shareOf 24 = .ok (.iconst 1, 1) := by decide +kernel
theorem dX6_shareOf_25 : decode cX6_shareOf 25 = .ok (.iand, 1) := by decide +kernel
theorem dX6_shareOf_26 : decode cX6_shareOf 26 = .ok (.ifCond .ne 6, 3) := by decide +kernel
theorem dX6_shareOf_29 : decode cX6_shareOf 29 = .ok (.goto 70, 3) := by decide +kernel
theorem dX6_shareOf_32 : decode cX6_shareOf 32 = .ok (.aload_n 0, 1) := by decide +kernel
theorem dX6_shareOf_33 : decode cX6_shareOf 33 = .ok (.getfield 9, 3) := by decide +kernel
theorem dX6_shareOf_36 : decode cX6_shareOf 36 = .ok (.bipush 82, 2) := by decide +kernel
theorem dX6_shareOf_38 : decode cX6_shareOf 38 = .ok (.iload_n 1, 1) := by decide +kernel
theorem dX6_shareOf_39 : decode cX6_shareOf 39 = .ok (.iadd, 1) := by decide +kernel
theorem dX6_shareOf_40 : decode cX6_shareOf 40 = .ok (.iaload, 1) := by decide +kernel
theorem dX6_shareOf_41 : decode cX6_shareOf 41 = .ok (.iload 5, 2) := by decide +kernel
theorem dX6_shareOf_43 : decode cX6_shareOf 43 = .ok (.ishr, 1) := by decide +kernel
theorem dX6_shareOf_44 : decode cX6_shareOf 44 = .ok (.iconst 1, 1) := by decide +kernel
theorem dX6_shareOf_45 : decode cX6_shareOf 45 = .ok (.iand, 1) := by decide +kernel
theorem dX6_shareOf_46 : decode cX6_shareOf 46 = .ok (.iconst 1, 1) := by decide +kernel
theorem dX6_shareOf_47 : decode cX6_shareOf 47 = .ok (.if_icmp .ne 7, 3) := by decide +kernel
theorem dX6_shareOf_50 : decode cX6_shareOf 50 = .ok (.iconst 1, 1) := by decide +kernel
theorem dX6_shareOf_51 : decode cX6_shareOf 51 = .ok (.goto 4, 3) := by decide +kernel
theorem dX6_shareOf_54 : decode cX6_shareOf 54 = .ok (.iconst 0, 1) := by decide +kernel
theorem dX6_shareOf_55 : decode cX6_shareOf 55 = .ok (.istore 6, 2) := by decide +kernel
theorem dX6_shareOf_57 : decode cX6_shareOf 57 = .ok (.aload_n 0, 1) := by decide +kernel
theorem dX6_shareOf_58 : decode cX6_shareOf 58 = .ok (.getfield 9, 3) := by decide +kernel
theorem dX6_shareOf_61 : decode cX6_shareOf 61 = .ok (.iload_n 2, 1) := by decide +kernel
theorem dX6_shareOf_62 : decode cX6_shareOf 62 = .ok (.ifCond .eq 8, 3) := by decide +kernel
theorem dX6_shareOf_65 : decode cX6_shareOf 65 = .ok (.bipush 92, 2) := by decide +kernel
theorem dX6_shareOf_67 : decode cX6_shareOf 67 = .ok (.goto 5, 3) := by decide +kernel
theorem dX6_shareOf_70 : decode cX6_shareOf 70 = .ok (.bipush 98, 2) := by decide +kernel
theorem dX6_shareOf_72 : decode cX6_shareOf 72 = .ok (.iload 5, 2) := by decide +kernel
theorem dX6_shareOf_74 : decode cX6_shareOf 74 = .ok (.iadd, 1) := by decide +kernel
theorem dX6_shareOf_75 : decode cX6_shareOf 75 = .ok (.iaload, 1) := by decide +kernel
theorem dX6_shareOf_76 : decode cX6_shareOf 76 = .ok (.istore 7, 2) := by decide +kernel
theorem dX6_shareOf_78 : decode cX6_shareOf 78 = .ok (.lload_n 3, 1) := by decide +kernel
theorem dX6_shareOf_79 : decode cX6_shareOf 79 = .ok (.iload 6, 2) := by decide +kernel
theorem dX6_shareOf_81 : decode cX6_shareOf 81 = .ok (.iload_n 2, 1) := by decide +kernel
theorem dX6_shareOf_82 : decode cX6_shareOf 82 = .ok (.if_icmp .ne 9, 3) := by decide +kernel
theorem dX6_shareOf_85 : decode cX6_shareOf 85 = .ok (.iload 7, 2) := by decide +kernel
theorem dX6_shareOf_87 : decode cX6_shareOf 87 = .ok (.i2l, 1) := by decide +kernel
theorem dX6_shareOf_88 : decode cX6_shareOf 88 = .ok (.goto 9, 3) := by decide +kernel
theorem dX6_shareOf_91 : decode cX6_shareOf 91 = .ok (.bipush 21, 2) := by decide +kernel
theorem dX6_shareOf_93 : decode cX6_shareOf 93 = .ok (.iload 7, 2) := by decide +kernel
theorem dX6_shareOf_95 : decode cX6_shareOf 95 = .ok (.isub, 1) := by decide +kernel
theorem dX6_shareOf_96 : decode cX6_shareOf 96 = .ok (.i2l, 1) := by decide +kernel
theorem dX6_shareOf_97 : decode cX6_shareOf 97 = .ok (.lmul, 1) := by decide +kernel
theorem dX6_shareOf_98 : decode cX6_shareOf 98 = .ok (.lstore_n 3, 1) := by decide +kernel
theorem dX6_shareOf_99 : decode cX6_shareOf 99 = .ok (.iinc 5 1, 3) := by decide +kernel
theorem dX6_shareOf_102 : decode cX6_shareOf 102 = .ok (.goto (-97), 3) := by decide +kernel
theorem dX6_shareOf_105 : decode cX6_shareOf 105 = .ok (.lload_n 3, 1) := by decide +kernel
theorem dX6_shareOf_106 : decode cX6_shareOf 106 = .ok (.lreturn, 1) := by decide +kernel
set_option maxRecDepth 20000 in
theorem ggX6_share_X6_isGrave : GoodIn wsX6_share wsX6_isGrave := goodIn_r _ [8, 2, 9, 10, 7, 11, 21, 22, 23, 24, 25, 26, 27, 28, 29, 30, 31, 32, 33, 34, 35, 36] (by decide +kernel) (by decide +kernel)
set_option maxRecDepth 20000 in
theorem gX6_share_X6_isGrave : GoodIn wsX6_share (wsV RX6 54 RX6 yX6_isGrave wsX6_isGrave) := goodIn_app (goodIn_of _ (by decide +kernel)) ggX6_share_X6_isGrave
set_option maxRecDepth 20000 in
theorem ggX6_share_X6_finding : GoodIn wsX6_share wsX6_finding := goodIn_r _ [15, 16, 21, 22, 23, 24, 25, 26, 27, 28, 29, 30, 31, 32, 33, 34, 35, 36] (by decide +kernel) (by decide +kernel)
set_option maxRecDepth 20000 in
theorem gX6_share_X6_finding : GoodIn wsX6_share (wsV RX6 49 RX6 yX6_finding wsX6_finding) := goodIn_app (goodIn_of _ (by decide +kernel)) ggX6_share_X6_finding
set_option maxRecDepth 20000 in
theorem ggX6_share_X6_shareOf : GoodIn wsX6_share wsX6_shareOf := goodIn_r _ [20, 2, 21, 22, 23, 24, 25, 26, 27, 28, 29, 30, 31, 32, 33, 34, 35, 36] (by decide +kernel) (by decide +kernel)
set_option maxRecDepth 20000 in
theorem gX6_share_X6_shareOf : GoodIn wsX6_share (wsV RX6 168 RX6 yX6_shareOf wsX6_shareOf) := goodIn_app (goodIn_of _ (by decide +kernel)) ggX6_share_X6_shareOf
theorem dX6_share_0 : decode cX6_share 0 = .ok (.aload_n 0, 1) := by decide +kernel
theorem dX6_share_1 : decode cX6_share 1 = .ok (.iload_n 1, 1) := by decide +kernel
theorem dX6_share_2 : decode cX6_share 2 = .ok (.invokevirtual 54, 3) := by decide +kernel
theorem dX6_share_5 : decode cX6_share 5 = .ok (.ifCond .ne 11, 3) := by decide +kernel
theorem dX6_share_8 : decode cX6_share 8 = .ok (.aload_n 0, 1) := by decide +kernel
theorem dX6_share_9 : decode cX6_share 9 = .ok (.ldc 48, 2) := by decide +kernel
theorem dX6_share_11 : decode cX6_share 11 = .ok (.invokevirtual 49, 3) := by decide +kernel
theorem dX6_share_14 : decode cX6_share 14 = .ok (.i2l, 1) := by decide +kernel
theorem dX6_share_15 : decode cX6_share 15 = .ok (.lreturn, 1) := by decide +kernel
theorem dX6_share_16 : decode cX6_share 16 = .ok (.aload_n 0, 1) := by decide +kernel
theorem dX6_share_17 : decode cX6_share 17 = .ok (.getfield 9, 3) := by decide +kernel
theorem dX6_share_20 : decode cX6_share 20 = .ok (.iconst 2, 1) := by decide +kernel
theorem dX6_share_21 : decode cX6_share 21 = .ok (.iload_n 1, 1) := by decide +kernel
theorem dX6_share_22 : decode cX6_share 22 = .ok (.iadd, 1) := by decide +kernel
theorem dX6_share_23 : decode cX6_share 23 = .ok (.iaload, 1) := by decide +kernel
theorem dX6_share_24 : decode cX6_share 24 = .ok (.iconst 2, 1) := by decide +kernel
theorem dX6_share_25 : decode cX6_share 25 = .ok (.if_icmp .ne 13, 3) := by decide +kernel
theorem dX6_share_28 : decode cX6_share 28 = .ok (.aload_n 0, 1) := by decide +kernel
theorem dX6_share_29 : decode cX6_share 29 = .ok (.ldc 58, 2) := by decide +kernel
theorem dX6_share_31 : decode cX6_share 31 = .ok (.invokevirtual 49, 3) := by decide +kernel
theorem dX6_share_34 : decode cX6_share 34 = .ok (.i2l, 1) := by decide +kernel
theorem dX6_share_35 : decode cX6_share 35 = .ok (.goto 9, 3) := by decide +kernel
theorem dX6_share_38 : decode cX6_share 38 = .ok (.aload_n 0, 1) := by decide +kernel
theorem dX6_share_39 : decode cX6_share 39 = .ok (.iload_n 1, 1) := by decide +kernel
theorem dX6_share_40 : decode cX6_share 40 = .ok (.iload_n 2, 1) := by decide +kernel
theorem dX6_share_41 : decode cX6_share 41 = .ok (.invokevirtual 168, 3) := by decide +kernel
theorem dX6_share_44 : decode cX6_share 44 = .ok (.lreturn, 1) := by decide +kernel
set_option maxRecDepth 20000 in
theorem ggX6_people_X6_within : GoodIn wsX6_people wsX6_within := goodIn_r _ [6] (by decide +kernel) (by decide +kernel)
set_option maxRecDepth 20000 in
theorem gX6_people_X6_within : GoodIn wsX6_people (va_wsS RX6 44 yX6_within wsX6_within) := goodIn_app (goodIn_of _ (by decide +kernel)) ggX6_people_X6_within
set_option maxRecDepth 20000 in
theorem ggX6_people_X6_finding : GoodIn wsX6_people wsX6_finding := goodIn_r _ [10, 11, 16, 17, 18, 19, 20, 21, 22, 23, 24, 25, 26, 27, 28, 29, 30, 31] (by decide +kernel) (by decide +kernel)
set_option maxRecDepth 20000 in
theorem gX6_people_X6_finding : GoodIn wsX6_people (wsV RX6 49 RX6 yX6_finding wsX6_finding) := goodIn_app (goodIn_of _ (by decide +kernel)) ggX6_people_X6_finding
set_option maxRecDepth 20000 in
theorem ggX6_people_X6_shareOf : GoodIn wsX6_people wsX6_shareOf := goodIn_r _ [15, 2, 16, 17, 18, 19, 20, 21, 22, 23, 24, 25, 26, 27, 28, 29, 30, 31] (by decide +kernel) (by decide +kernel)
set_option maxRecDepth 20000 in
theorem gX6_people_X6_shareOf : GoodIn wsX6_people (wsV RX6 168 RX6 yX6_shareOf wsX6_shareOf) := goodIn_app (goodIn_of _ (by decide +kernel)) ggX6_people_X6_shareOf
theorem dX6_people_0 : decode cX6_people 0 = .ok (.iload_n 1, 1) := by decide +kernel
theorem dX6_people_1 : decode cX6_people 1 = .ok (.iconst 0, 1) := by decide +kernel
theorem dX6_people_2 : decode cX6_people 2 = .ok (.iconst 2, 1) := by decide +kernel
theorem dX6_people_3 : decode cX6_people 3 = .ok (.invokestatic 44, 3) := by decide +kernel
theorem dX6_people_6 : decode cX6_people 6 = .ok (.ifCond .ne 10, 3) := by decide +kernel
theorem dX6_people_9 : decode cX6_people 9 = .ok (.aload_n 0, 1) := by decide +kernel
theorem dX6_people_10 : decode cX6_people 10 = .ok (.ldc 48, 2) := by decide +kernel
theorem dX6_people_12 : decode cX6_people 12 = .ok (.invokevirtual 49, 3) := by decide +kernel
theorem dX6_people_15 : decode cX6_people 15 = .ok (.ireturn, 1) := by decide +kernel
theorem dX6_people_16 : decode cX6_people 16 = .ok (.iconst 0, 1) := by decide +kernel
theorem dX6_people_17 : decode cX6_people 17 = .ok (.istore_n 2, 1) := by decide +kernel
theorem dX6_people_18 : decode cX6_people 18 = .ok (.iconst 0, 1) := by decide +kernel
theorem dX6_people_19 : decode cX6_people 19 = .ok (.istore_n 3, 1) := by decide +kernel
theorem dX6_people_20 : decode cX6_people 20 = .ok (.iload_n 3, 1) := by decide +kernel
theorem dX6_people_21 : decode cX6_people 21 = .ok (.aload_n 0, 1) := by decide +kernel
theorem dX6_people_22 : decode cX6_people 22 = .ok (.getfield 9, 3) := by decide +kernel
theorem dX6_people_25 : decode cX6_people 25 = .ok (.iconst 0, 1) := by decide +kernel
theorem dX6_people_26 : decode cX6_people 26 = .ok (.iaload, 1) := by decide +kernel
theorem dX6_people_27 : decode cX6_people 27 = .ok (.if_icmp .ge 78, 3) := by decide +kernel
theorem dX6_people_30 : decode cX6_people 30 = .ok (.aload_n 0, 1) := by decide +kernel
theorem dX6_people_31 : decode cX6_people 31 = .ok (.iload_n 3, 1) := by decide +kernel
theorem dX6_people_32 : decode cX6_people 32 = .ok (.iconst 1, 1) := by decide +kernel
theorem dX6_people_33 : decode cX6_people 33 = .ok (.invokevirtual 168, 3) := by decide +kernel
theorem dX6_people_36 : decode cX6_people 36 = .ok (.lstore 4, 2) := by decide +kernel
theorem dX6_people_38 : decode cX6_people 38 = .ok (.aload_n 0, 1) := by decide +kernel
theorem dX6_people_39 : decode cX6_people 39 = .ok (.iload_n 3, 1) := by decide +kernel
theorem dX6_people_40 : decode cX6_people 40 = .ok (.iconst 0, 1) := by decide +kernel
theorem dX6_people_41 : decode cX6_people 41 = .ok (.invokevirtual 168, 3) := by decide +kernel
theorem dX6_people_44 : decode cX6_people 44 = .ok (.lstore 6, 2) := by decide +kernel
theorem dX6_people_46 : decode cX6_people 46 = .ok (.aload_n 0, 1) := by decide +kernel
theorem dX6_people_47 : decode cX6_people 47 = .ok (.getfield 9, 3) := by decide +kernel
theorem dX6_people_50 : decode cX6_people 50 = .ok (.iconst 2, 1) := by decide +kernel
theorem dX6_people_51 : decode cX6_people 51 = .ok (.iload_n 3, 1) := by decide +kernel
theorem dX6_people_52 : decode cX6_people 52 = .ok (.iadd, 1) := by decide +kernel
theorem dX6_people_53 : decode cX6_people 53 = .ok (.iaload, 1) := by decide +kernel
theorem dX6_people_54 : decode cX6_people 54 = .ok (.iconst 2, 1) := by decide +kernel
theorem dX6_people_55 : decode cX6_people 55 = .ok (.if_icmp .eq 11, 3) := by decide +kernel
theorem dX6_people_58 : decode cX6_people 58 = .ok (.lload 4, 2) := by decide +kernel
theorem dX6_people_60 : decode cX6_people 60 = .ok (.lload 6, 2) := by decide +kernel
theorem dX6_people_62 : decode cX6_people 62 = .ok (.lcmp, 1) := by decide +kernel
theorem dX6_people_63 : decode cX6_people 63 = .ok (.ifCond .ne 7, 3) := by decide +kernel
theorem dX6_people_66 : decode cX6_people 66 = .ok (.iconst 2, 1) := by decide +kernel
theorem dX6_people_67 : decode cX6_people 67 = .ok (.goto 16, 3) := by decide +kernel
theorem dX6_people_70 : decode cX6_people 70 = .ok (.lload 4, 2) := by decide +kernel
theorem dX6_people_72 : decode cX6_people 72 = .ok (.lload 6, 2) := by decide +kernel
theorem dX6_people_74 : decode cX6_people 74 = .ok (.lcmp, 1) := by decide +kernel
theorem dX6_people_75 : decode cX6_people 75 = .ok (.ifCond .le 7, 3) := by decide +kernel
theorem dX6_people_78 : decode cX6_people 78 = .ok (.iconst 0, 1) := by decide +kernel
theorem dX6_people_79 : decode cX6_people 79 = .ok (.goto 4, 3) := by decide +kernel
theorem dX6_people_82 : decode cX6_people 82 = .ok (.iconst 1, 1) := by decide +kernel
theorem dX6_people_83 : decode cX6_people 83 = .ok (.istore 8, 2) := by decide +kernel
theorem dX6_people_85 : decode cX6_people 85 = .ok (.iload_n 2, 1) := by decide +kernel
theorem dX6_people_86 : decode cX6_people 86 = .ok (.iload 8, 2) := by decide +kernel
theorem dX6_people_88 : decode cX6_people 88 = .ok (.iload_n 1, 1) := by decide +kernel
theorem dX6_people_89 : decode cX6_people 89 = .ok (.if_icmp .ne 7, 3) := by decide +kernel
theorem dX6_people_92 : decode cX6_people 92 = .ok (.iconst 1, 1) := by decide +kernel
theorem dX6_people_93 : decode cX6_people 93 = .ok (.goto 4, 3) := by decide +kernel
theorem dX6_people_96 : decode cX6_people 96 = .ok (.iconst 0, 1) := by decide +kernel
theorem dX6_people_97 : decode cX6_people 97 = .ok (.iadd, 1) := by decide +kernel
theorem dX6_people_98 : decode cX6_people 98 = .ok (.istore_n 2, 1) := by decide +kernel
theorem dX6_people_99 : decode cX6_people 99 = .ok (.iinc 3 1, 3) := by decide +kernel
theorem dX6_people_102 : decode cX6_people 102 = .ok (.goto (-82), 3) := by decide +kernel
theorem dX6_people_105 : decode cX6_people 105 = .ok (.iload_n 2, 1) := by decide +kernel
theorem dX6_people_106 : decode cX6_people 106 = .ok (.ireturn, 1) := by decide +kernel
theorem dX6_keep_0 : decode cX6_keep 0 = .ok (.iconst 0, 1) := by decide +kernel
theorem dX6_keep_1 : decode cX6_keep 1 = .ok (.istore_n 1, 1) := by decide +kernel
theorem dX6_keep_2 : decode cX6_keep 2 = .ok (.iload_n 1, 1) := by decide +kernel
theorem dX6_keep_3 : decode cX6_keep 3 = .ok (.bipush 116, 2) := by decide +kernel
theorem dX6_keep_5 : decode cX6_keep 5 = .ok (.if_icmp .ge 21, 3) := by decide +kernel
theorem dX6_keep_8 : decode cX6_keep 8 = .ok (.aload_n 0, 1) := by decide +kernel
theorem dX6_keep_9 : decode cX6_keep 9 = .ok (.getfield 13, 3) := by decide +kernel
theorem dX6_keep_12 : decode cX6_keep 12 = .ok (.iload_n 1, 1) := by decide +kernel
theorem dX6_keep_13 : decode cX6_keep 13 = .ok (.aload_n 0, 1) := by decide +kernel
theorem dX6_keep_14 : decode cX6_keep 14 = .ok (.getfield 9, 3) := by decide +kernel
theorem dX6_keep_17 : decode cX6_keep 17 = .ok (.iload_n 1, 1) := by decide +kernel
theorem dX6_keep_18 : decode cX6_keep 18 = .ok (.iaload, 1) := by decide +kernel
theorem dX6_keep_19 : decode cX6_keep 19 = .ok (.iastore, 1) := by decide +kernel
theorem dX6_keep_20 : decode cX6_keep 20 = .ok (.iinc 1 1, 3) := by decide +kernel
theorem dX6_keep_23 : decode cX6_keep 23 = .ok (.goto (-21), 3) := by decide +kernel
theorem dX6_keep_26 : decode cX6_keep 26 = .ok (.aload_n 0, 1) := by decide +kernel
theorem dX6_keep_27 : decode cX6_keep 27 = .ok (.iconst 1, 1) := by decide +kernel
theorem dX6_keep_28 : decode cX6_keep 28 = .ok (.putfield 172, 3) := by decide +kernel
theorem dX6_keep_31 : decode cX6_keep 31 = .ok (.aload_n 0, 1) := by decide +kernel
theorem dX6_keep_32 : decode cX6_keep 32 = .ok (.getfield 9, 3) := by decide +kernel
theorem dX6_keep_35 : decode cX6_keep 35 = .ok (.iconst 0, 1) := by decide +kernel
theorem dX6_keep_36 : decode cX6_keep 36 = .ok (.iaload, 1) := by decide +kernel
theorem dX6_keep_37 : decode cX6_keep 37 = .ok (.ireturn, 1) := by decide +kernel
set_option maxRecDepth 20000 in
theorem ggX6_back_X6_finding : GoodIn wsX6_back wsX6_finding := goodIn_r _ [9, 10, 11, 12, 13, 14, 15, 16, 17, 18, 19, 20, 21, 22, 23, 24, 25, 26] (by decide +kernel) (by decide +kernel)
set_option maxRecDepth 20000 in
theorem gX6_back_X6_finding : GoodIn wsX6_back (wsV RX6 49 RX6 yX6_finding wsX6_finding) := goodIn_app (goodIn_of _ (by decide +kernel)) ggX6_back_X6_finding
theorem dX6_back_0 : decode cX6_back 0 = .ok (.aload_n 0, 1) := by decide +kernel
theorem dX6_back_1 : decode cX6_back 1 = .ok (.getfield 172, 3) := by decide +kernel
theorem dX6_back_4 : decode cX6_back 4 = .ok (.ifCond .ne 10, 3) := by decide +kernel
theorem dX6_back_7 : decode cX6_back 7 = .ok (.aload_n 0, 1) := by decide +kernel
theorem dX6_back_8 : decode cX6_back 8 = .ok (.ldc 83, 2) := by decide +kernel
theorem dX6_back_10 : decode cX6_back 10 = .ok (.invokevirtual 49, 3) := by decide +kernel
theorem dX6_back_13 : decode cX6_back 13 = .ok (.ireturn, 1) := by decide +kernel
theorem dX6_back_14 : decode cX6_back 14 = .ok (.iconst 0, 1) := by decide +kernel
theorem dX6_back_15 : decode cX6_back 15 = .ok (.istore_n 1, 1) := by decide +kernel
theorem dX6_back_16 : decode cX6_back 16 = .ok (.iload_n 1, 1) := by decide +kernel
theorem dX6_back_17 : decode cX6_back 17 = .ok (.bipush 116, 2) := by decide +kernel
theorem dX6_back_19 : decode cX6_back 19 = .ok (.if_icmp .ge 21, 3) := by decide +kernel
theorem dX6_back_22 : decode cX6_back 22 = .ok (.aload_n 0, 1) := by decide +kernel
theorem dX6_back_23 : decode cX6_back 23 = .ok (.getfield 9, 3) := by decide +kernel
theorem dX6_back_26 : decode cX6_back 26 = .ok (.iload_n 1, 1) := by decide +kernel
theorem dX6_back_27 : decode cX6_back 27 = .ok (.aload_n 0, 1) := by decide +kernel
theorem dX6_back_28 : decode cX6_back 28 = .ok (.getfield 13, 3) := by decide +kernel
theorem dX6_back_31 : decode cX6_back 31 = .ok (.iload_n 1, 1) := by decide +kernel
theorem dX6_back_32 : decode cX6_back 32 = .ok (.iaload, 1) := by decide +kernel
theorem dX6_back_33 : decode cX6_back 33 = .ok (.iastore, 1) := by decide +kernel
theorem dX6_back_34 : decode cX6_back 34 = .ok (.iinc 1 1, 3) := by decide +kernel
theorem dX6_back_37 : decode cX6_back 37 = .ok (.goto (-21), 3) := by decide +kernel
theorem dX6_back_40 : decode cX6_back 40 = .ok (.aload_n 0, 1) := by decide +kernel
theorem dX6_back_41 : decode cX6_back 41 = .ok (.getfield 9, 3) := by decide +kernel
theorem dX6_back_44 : decode cX6_back 44 = .ok (.iconst 0, 1) := by decide +kernel
theorem dX6_back_45 : decode cX6_back 45 = .ok (.iaload, 1) := by decide +kernel
theorem dX6_back_46 : decode cX6_back 46 = .ok (.ireturn, 1) := by decide +kernel
set_option maxRecDepth 20000 in
theorem ggX6_told_X6_within : GoodIn wsX6_told wsX6_within := goodIn_r _ [7] (by decide +kernel) (by decide +kernel)
set_option maxRecDepth 20000 in
theorem gX6_told_X6_within : GoodIn wsX6_told (va_wsS RX6 44 yX6_within wsX6_within) := goodIn_app (goodIn_of _ (by decide +kernel)) ggX6_told_X6_within
set_option maxRecDepth 20000 in
theorem ggX6_told_X6_finding : GoodIn wsX6_told wsX6_finding := goodIn_r _ [11, 3, 15, 16, 17, 18, 19, 20, 21, 22, 23, 24, 25, 26, 27, 28, 29, 30] (by decide +kernel) (by decide +kernel)
set_option maxRecDepth 20000 in
theorem gX6_told_X6_finding : GoodIn wsX6_told (wsV RX6 49 RX6 yX6_finding wsX6_finding) := goodIn_app (goodIn_of _ (by decide +kernel)) ggX6_told_X6_finding
set_option maxRecDepth 20000 in
theorem ggX6_told_X6_many : GoodIn wsX6_told wsX6_many := goodIn_r _ [14] (by decide +kernel) (by decide +kernel)
set_option maxRecDepth 20000 in
theorem gX6_told_X6_many : GoodIn wsX6_told (va_wsS RX6 63 yX6_many wsX6_many) := goodIn_app (goodIn_of _ (by decide +kernel)) ggX6_told_X6_many
theorem dX6_told_0 : decode cX6_told 0 = .ok (.iload_n 1, 1) := by decide +kernel
theorem dX6_told_1 : decode cX6_told 1 = .ok (.iconst 0, 1) := by decide +kernel
theorem dX6_told_2 : decode cX6_told 2 = .ok (.iconst 3, 1) := by decide +kernel
theorem dX6_told_3 : decode cX6_told 3 = .ok (.invokestatic 44, 3) := by decide +kernel
theorem dX6_told_6 : decode cX6_told 6 = .ok (.ifCond .ne 10, 3) := by decide +kernel
theorem dX6_told_9 : decode cX6_told 9 = .ok (.aload_n 0, 1) := by decide +kernel
theorem dX6_told_10 : decode cX6_told 10 = .ok (.ldc 48, 2) := by decide +kernel
theorem dX6_told_12 : decode cX6_told 12 = .ok (.invokevirtual 49, 3) := by decide +kernel
theorem dX6_told_15 : decode cX6_told 15 = .ok (.ireturn, 1) := by decide +kernel
theorem dX6_told_16 : decode cX6_told 16 = .ok (.iconst 0, 1) := by decide +kernel
theorem dX6_told_17 : decode cX6_told 17 = .ok (.istore_n 2, 1) := by decide +kernel
theorem dX6_told_18 : decode cX6_told 18 = .ok (.iconst 0, 1) := by decide +kernel
theorem dX6_told_19 : decode cX6_told 19 = .ok (.istore_n 3, 1) := by decide +kernel
theorem dX6_told_20 : decode cX6_told 20 = .ok (.iload_n 3, 1) := by decide +kernel
theorem dX6_told_21 : decode cX6_told 21 = .ok (.aload_n 0, 1) := by decide +kernel
theorem dX6_told_22 : decode cX6_told 22 = .ok (.getfield 9, 3) := by decide +kernel
theorem dX6_told_25 : decode cX6_told 25 = .ok (.iconst 0, 1) := by decide +kernel
theorem dX6_told_26 : decode cX6_told 26 = .ok (.iaload, 1) := by decide +kernel
theorem dX6_told_27 : decode cX6_told 27 = .ok (.if_icmp .ge 24, 3) := by decide +kernel
theorem dX6_told_30 : decode cX6_told 30 = .ok (.iload_n 2, 1) := by decide +kernel
theorem dX6_told_31 : decode cX6_told 31 = .ok (.aload_n 0, 1) := by decide +kernel
theorem dX6_told_32 : decode cX6_told 32 = .ok (.getfield 9, 3) := by decide +kernel
theorem dX6_told_35 : decode cX6_told 35 = .ok (.bipush 62, 2) := by decide +kernel
theorem dX6_told_37 : decode cX6_told 37 = .ok (.iload_n 3, 1) := by decide +kernel
theorem dX6_told_38 : decode cX6_told 38 = .ok (.iadd, 1) := by decide +kernel
theorem dX6_told_39 : decode cX6_told 39 = .ok (.iaload, 1) := by decide +kernel
theorem dX6_told_40 : decode cX6_told 40 = .ok (.invokestatic 63, 3) := by decide +kernel
theorem dX6_told_43 : decode cX6_told 43 = .ok (.iadd, 1) := by decide +kernel
theorem dX6_told_44 : decode cX6_told 44 = .ok (.istore_n 2, 1) := by decide +kernel
theorem dX6_told_45 : decode cX6_told 45 = .ok (.iinc 3 1, 3) := by decide +kernel
theorem dX6_told_48 : decode cX6_told 48 = .ok (.goto (-28), 3) := by decide +kernel
theorem dX6_told_51 : decode cX6_told 51 = .ok (.iload_n 1, 1) := by decide +kernel
theorem dX6_told_52 : decode cX6_told 52 = .ok (.ifCond .ne 12, 3) := by decide +kernel
theorem dX6_told_55 : decode cX6_told 55 = .ok (.aload_n 0, 1) := by decide +kernel
theorem dX6_told_56 : decode cX6_told 56 = .ok (.getfield 9, 3) := by decide +kernel
theorem dX6_told_59 : decode cX6_told 59 = .ok (.iconst 0, 1) := by decide +kernel
theorem dX6_told_60 : decode cX6_told 60 = .ok (.iaload, 1) := by decide +kernel
theorem dX6_told_61 : decode cX6_told 61 = .ok (.goto 30, 3) := by decide +kernel
theorem dX6_told_64 : decode cX6_told 64 = .ok (.iload_n 1, 1) := by decide +kernel
theorem dX6_told_65 : decode cX6_told 65 = .ok (.iconst 1, 1) := by decide +kernel
theorem dX6_told_66 : decode cX6_told 66 = .ok (.if_icmp .ne 7, 3) := by decide +kernel
theorem dX6_told_69 : decode cX6_told 69 = .ok (.iload_n 2, 1) := by decide +kernel
theorem dX6_told_70 : decode cX6_told 70 = .ok (.goto 21, 3) := by decide +kernel
theorem dX6_told_73 : decode cX6_told 73 = .ok (.iload_n 1, 1) := by decide +kernel
theorem dX6_told_74 : decode cX6_told 74 = .ok (.iconst 2, 1) := by decide +kernel
theorem dX6_told_75 : decode cX6_told 75 = .ok (.if_icmp .ne 10, 3) := by decide +kernel
theorem dX6_told_78 : decode cX6_told 78 = .ok (.aload_n 0, 1) := by decide +kernel
theorem dX6_told_79 : decode cX6_told 79 = .ok (.getfield 40, 3) := by decide +kernel
theorem dX6_told_82 : decode cX6_told 82 = .ok (.goto 9, 3) := by decide +kernel
theorem dX6_told_85 : decode cX6_told 85 = .ok (.aload_n 0, 1) := by decide +kernel
theorem dX6_told_86 : decode cX6_told 86 = .ok (.getfield 9, 3) := by decide +kernel
theorem dX6_told_89 : decode cX6_told 89 = .ok (.iconst 1, 1) := by decide +kernel
theorem dX6_told_90 : decode cX6_told 90 = .ok (.iaload, 1) := by decide +kernel
theorem dX6_told_91 : decode cX6_told 91 = .ok (.ireturn, 1) := by decide +kernel
theorem dJ6_bitCount_0f7a4_0 : decode cJ6_bitCount_0f7a4 0 = .ok (.iload_n 0, 1) := by decide +kernel
theorem dJ6_bitCount_0f7a4_1 : decode cJ6_bitCount_0f7a4 1 = .ok (.iload_n 0, 1) := by decide +kernel
theorem dJ6_bitCount_0f7a4_2 : decode cJ6_bitCount_0f7a4 2 = .ok (.iconst 1, 1) := by decide +kernel
theorem dJ6_bitCount_0f7a4_3 : decode cJ6_bitCount_0f7a4 3 = .ok (.iushr, 1) := by decide +kernel
theorem dJ6_bitCount_0f7a4_4 : decode cJ6_bitCount_0f7a4 4 = .ok (.ldc_w 265, 3) := by decide +kernel
theorem dJ6_bitCount_0f7a4_7 : decode cJ6_bitCount_0f7a4 7 = .ok (.iand, 1) := by decide +kernel
theorem dJ6_bitCount_0f7a4_8 : decode cJ6_bitCount_0f7a4 8 = .ok (.isub, 1) := by decide +kernel
theorem dJ6_bitCount_0f7a4_9 : decode cJ6_bitCount_0f7a4 9 = .ok (.istore_n 0, 1) := by decide +kernel
theorem dJ6_bitCount_0f7a4_10 : decode cJ6_bitCount_0f7a4 10 = .ok (.iload_n 0, 1) := by decide +kernel
theorem dJ6_bitCount_0f7a4_11 : decode cJ6_bitCount_0f7a4 11 = .ok (.ldc_w 266, 3) := by decide +kernel
theorem dJ6_bitCount_0f7a4_14 : decode cJ6_bitCount_0f7a4 14 = .ok (.iand, 1) := by decide +kernel
theorem dJ6_bitCount_0f7a4_15 : decode cJ6_bitCount_0f7a4 15 = .ok (.iload_n 0, 1) := by decide +kernel
theorem dJ6_bitCount_0f7a4_16 : decode cJ6_bitCount_0f7a4 16 = .ok (.iconst 2, 1) := by decide +kernel
theorem dJ6_bitCount_0f7a4_17 : decode cJ6_bitCount_0f7a4 17 = .ok (.iushr, 1) := by decide +kernel
theorem dJ6_bitCount_0f7a4_18 : decode cJ6_bitCount_0f7a4 18 = .ok (.ldc_w 266, 3) := by decide +kernel
theorem dJ6_bitCount_0f7a4_21 : decode cJ6_bitCount_0f7a4 21 = .ok (.iand, 1) := by decide +kernel
theorem dJ6_bitCount_0f7a4_22 : decode cJ6_bitCount_0f7a4 22 = .ok (.iadd, 1) := by decide +kernel
theorem dJ6_bitCount_0f7a4_23 : decode cJ6_bitCount_0f7a4 23 = .ok (.istore_n 0, 1) := by decide +kernel
theorem dJ6_bitCount_0f7a4_24 : decode cJ6_bitCount_0f7a4 24 = .ok (.iload_n 0, 1) := by decide +kernel
theorem dJ6_bitCount_0f7a4_25 : decode cJ6_bitCount_0f7a4 25 = .ok (.iload_n 0, 1) := by decide +kernel
theorem dJ6_bitCount_0f7a4_26 : decode cJ6_bitCount_0f7a4 26 = .ok (.iconst 4, 1) := by decide +kernel
theorem dJ6_bitCount_0f7a4_27 : decode cJ6_bitCount_0f7a4 27 = .ok (.iushr, 1) := by decide +kernel
theorem dJ6_bitCount_0f7a4_28 : decode cJ6_bitCount_0f7a4 28 = .ok (.iadd, 1) := by decide +kernel
theorem dJ6_bitCount_0f7a4_29 : decode cJ6_bitCount_0f7a4 29 = .ok (.ldc_w 267, 3) := by decide +kernel
theorem dJ6_bitCount_0f7a4_32 : decode cJ6_bitCount_0f7a4 32 = .ok (.iand, 1) := by decide +kernel
theorem dJ6_bitCount_0f7a4_33 : decode cJ6_bitCount_0f7a4 33 = .ok (.istore_n 0, 1) := by decide +kernel
theorem dJ6_bitCount_0f7a4_34 : decode cJ6_bitCount_0f7a4 34 = .ok (.iload_n 0, 1) := by decide +kernel
theorem dJ6_bitCount_0f7a4_35 : decode cJ6_bitCount_0f7a4 35 = .ok (.iload_n 0, 1) := by decide +kernel
theorem dJ6_bitCount_0f7a4_36 : decode cJ6_bitCount_0f7a4 36 = .ok (.bipush 8, 2) := by decide +kernel
theorem dJ6_bitCount_0f7a4_38 : decode cJ6_bitCount_0f7a4 38 = .ok (.iushr, 1) := by decide +kernel
theorem dJ6_bitCount_0f7a4_39 : decode cJ6_bitCount_0f7a4 39 = .ok (.iadd, 1) := by decide +kernel
theorem dJ6_bitCount_0f7a4_40 : decode cJ6_bitCount_0f7a4 40 = .ok (.istore_n 0, 1) := by decide +kernel
theorem dJ6_bitCount_0f7a4_41 : decode cJ6_bitCount_0f7a4 41 = .ok (.iload_n 0, 1) := by decide +kernel
theorem dJ6_bitCount_0f7a4_42 : decode cJ6_bitCount_0f7a4 42 = .ok (.iload_n 0, 1) := by decide +kernel
theorem dJ6_bitCount_0f7a4_43 : decode cJ6_bitCount_0f7a4 43 = .ok (.bipush 16, 2) := by decide +kernel
theorem dJ6_bitCount_0f7a4_45 : decode cJ6_bitCount_0f7a4 45 = .ok (.iushr, 1) := by decide +kernel
theorem dJ6_bitCount_0f7a4_46 : decode cJ6_bitCount_0f7a4 46 = .ok (.iadd, 1) := by decide +kernel
theorem dJ6_bitCount_0f7a4_47 : decode cJ6_bitCount_0f7a4 47 = .ok (.istore_n 0, 1) := by decide +kernel
theorem dJ6_bitCount_0f7a4_48 : decode cJ6_bitCount_0f7a4 48 = .ok (.iload_n 0, 1) := by decide +kernel
theorem dJ6_bitCount_0f7a4_49 : decode cJ6_bitCount_0f7a4 49 = .ok (.bipush 63, 2) := by decide +kernel
theorem dJ6_bitCount_0f7a4_51 : decode cJ6_bitCount_0f7a4 51 = .ok (.iand, 1) := by decide +kernel
theorem dJ6_bitCount_0f7a4_52 : decode cJ6_bitCount_0f7a4 52 = .ok (.ireturn, 1) := by decide +kernel
theorem dJ9_abs_0f7a4_0 : decode cJ9_abs_0f7a4 0 = .ok (.iload_n 0, 1) := by decide +kernel
theorem dJ9_abs_0f7a4_1 : decode cJ9_abs_0f7a4 1 = .ok (.ifCond .ge 8, 3) := by decide +kernel
theorem dJ9_abs_0f7a4_4 : decode cJ9_abs_0f7a4 4 = .ok (.iload_n 0, 1) := by decide +kernel
theorem dJ9_abs_0f7a4_5 : decode cJ9_abs_0f7a4 5 = .ok (.ineg, 1) := by decide +kernel
theorem dJ9_abs_0f7a4_6 : decode cJ9_abs_0f7a4 6 = .ok (.goto 4, 3) := by decide +kernel
theorem dJ9_abs_0f7a4_9 : decode cJ9_abs_0f7a4 9 = .ok (.iload_n 0, 1) := by decide +kernel
theorem dJ9_abs_0f7a4_10 : decode cJ9_abs_0f7a4 10 = .ok (.ireturn, 1) := by decide +kernel
theorem dJ9_max_7cf53_0 : decode cJ9_max_7cf53 0 = .ok (.iload_n 0, 1) := by decide +kernel
theorem dJ9_max_7cf53_1 : decode cJ9_max_7cf53 1 = .ok (.iload_n 1, 1) := by decide +kernel
theorem dJ9_max_7cf53_2 : decode cJ9_max_7cf53 2 = .ok (.if_icmp .lt 7, 3) := by decide +kernel
theorem dJ9_max_7cf53_5 : decode cJ9_max_7cf53 5 = .ok (.iload_n 0, 1) := by decide +kernel
theorem dJ9_max_7cf53_6 : decode cJ9_max_7cf53 6 = .ok (.goto 4, 3) := by decide +kernel
theorem dJ9_max_7cf53_9 : decode cJ9_max_7cf53 9 = .ok (.iload_n 1, 1) := by decide +kernel
theorem dJ9_max_7cf53_10 : decode cJ9_max_7cf53 10 = .ok (.ireturn, 1) := by decide +kernel
theorem dJ9_min_7cf53_0 : decode cJ9_min_7cf53 0 = .ok (.iload_n 0, 1) := by decide +kernel
theorem dJ9_min_7cf53_1 : decode cJ9_min_7cf53 1 = .ok (.iload_n 1, 1) := by decide +kernel
theorem dJ9_min_7cf53_2 : decode cJ9_min_7cf53 2 = .ok (.if_icmp .gt 7, 3) := by decide +kernel
theorem dJ9_min_7cf53_5 : decode cJ9_min_7cf53 5 = .ok (.iload_n 0, 1) := by decide +kernel
theorem dJ9_min_7cf53_6 : decode cJ9_min_7cf53 6 = .ok (.goto 4, 3) := by decide +kernel
theorem dJ9_min_7cf53_9 : decode cJ9_min_7cf53 9 = .ok (.iload_n 1, 1) := by decide +kernel
theorem dJ9_min_7cf53_10 : decode cJ9_min_7cf53 10 = .ok (.ireturn, 1) := by decide +kernel
