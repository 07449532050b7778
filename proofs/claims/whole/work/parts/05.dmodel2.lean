theorem dX6_readsStall_0 : decode cX6_readsStall 0 = .ok (.bipush 18, 2) := by decide +kernel
theorem dX6_readsStall_2 : decode cX6_readsStall 2 = .ok (.iconst 3, 1) := by decide +kernel
theorem dX6_readsStall_3 : decode cX6_readsStall 3 = .ok (.aload_n 0, 1) := by decide +kernel
theorem dX6_readsStall_4 : decode cX6_readsStall 4 = .ok (.getfield 133, 3) := by decide +kernel
theorem dX6_readsStall_7 : decode cX6_readsStall 7 = .ok (.imul, 1) := by decide +kernel
theorem dX6_readsStall_8 : decode cX6_readsStall 8 = .ok (.iadd, 1) := by decide +kernel
theorem dX6_readsStall_9 : decode cX6_readsStall 9 = .ok (.istore_n 1, 1) := by decide +kernel
theorem dX6_readsStall_10 : decode cX6_readsStall 10 = .ok (.aload_n 0, 1) := by decide +kernel
theorem dX6_readsStall_11 : decode cX6_readsStall 11 = .ok (.getfield 30, 3) := by decide +kernel
theorem dX6_readsStall_14 : decode cX6_readsStall 14 = .ok (.iload_n 1, 1) := by decide +kernel
theorem dX6_readsStall_15 : decode cX6_readsStall 15 = .ok (.aload_n 0, 1) := by decide +kernel
theorem dX6_readsStall_16 : decode cX6_readsStall 16 = .ok (.iconst 1, 1) := by decide +kernel
theorem dX6_readsStall_17 : decode cX6_readsStall 17 = .ok (.bipush 20, 2) := by decide +kernel
theorem dX6_readsStall_19 : decode cX6_readsStall 19 = .ok (.invokevirtual 129, 3) := by decide +kernel
theorem dX6_readsStall_22 : decode cX6_readsStall 22 = .ok (.iastore, 1) := by decide +kernel
theorem dX6_readsStall_23 : decode cX6_readsStall 23 = .ok (.aload_n 0, 1) := by decide +kernel
theorem dX6_readsStall_24 : decode cX6_readsStall 24 = .ok (.getfield 30, 3) := by decide +kernel
theorem dX6_readsStall_27 : decode cX6_readsStall 27 = .ok (.iload_n 1, 1) := by decide +kernel
theorem dX6_readsStall_28 : decode cX6_readsStall 28 = .ok (.iconst 1, 1) := by decide +kernel
theorem dX6_readsStall_29 : decode cX6_readsStall 29 = .ok (.iadd, 1) := by decide +kernel
theorem dX6_readsStall_30 : decode cX6_readsStall 30 = .ok (.aload_n 0, 1) := by decide +kernel
theorem dX6_readsStall_31 : decode cX6_readsStall 31 = .ok (.iconst 0, 1) := by decide +kernel
theorem dX6_readsStall_32 : decode cX6_readsStall 32 = .ok (.bipush 9, 2) := by decide +kernel
theorem dX6_readsStall_34 : decode cX6_readsStall 34 = .ok (.invokevirtual 129, 3) := by decide +kernel
theorem dX6_readsStall_37 : decode cX6_readsStall 37 = .ok (.iastore, 1) := by decide +kernel
theorem dX6_readsStall_38 : decode cX6_readsStall 38 = .ok (.aload_n 0, 1) := by decide +kernel
theorem dX6_readsStall_39 : decode cX6_readsStall 39 = .ok (.getfield 30, 3) := by decide +kernel
theorem dX6_readsStall_42 : decode cX6_readsStall 42 = .ok (.iload_n 1, 1) := by decide +kernel
theorem dX6_readsStall_43 : decode cX6_readsStall 43 = .ok (.iconst 2, 1) := by decide +kernel
theorem dX6_readsStall_44 : decode cX6_readsStall 44 = .ok (.iadd, 1) := by decide +kernel
theorem dX6_readsStall_45 : decode cX6_readsStall 45 = .ok (.aload_n 0, 1) := by decide +kernel
theorem dX6_readsStall_46 : decode cX6_readsStall 46 = .ok (.iconst 0, 1) := by decide +kernel
theorem dX6_readsStall_47 : decode cX6_readsStall 47 = .ok (.bipush 99, 2) := by decide +kernel
theorem dX6_readsStall_49 : decode cX6_readsStall 49 = .ok (.invokevirtual 129, 3) := by decide +kernel
theorem dX6_readsStall_52 : decode cX6_readsStall 52 = .ok (.iastore, 1) := by decide +kernel
theorem dX6_readsStall_53 : decode cX6_readsStall 53 = .ok (.aload_n 0, 1) := by decide +kernel
theorem dX6_readsStall_54 : decode cX6_readsStall 54 = .ok (.dup, 1) := by decide +kernel
theorem dX6_readsStall_55 : decode cX6_readsStall 55 = .ok (.getfield 133, 3) := by decide +kernel
theorem dX6_readsStall_58 : decode cX6_readsStall 58 = .ok (.iconst 1, 1) := by decide +kernel
theorem dX6_readsStall_59 : decode cX6_readsStall 59 = .ok (.iadd, 1) := by decide +kernel
theorem dX6_readsStall_60 : decode cX6_readsStall 60 = .ok (.putfield 133, 3) := by decide +kernel
theorem dX6_readsStall_63 : decode cX6_readsStall 63 = .ok (.return_, 1) := by decide +kernel
set_option maxRecDepth 20000 in
theorem ggX6_readsWay_X6_in : GoodIn wsX6_readsWay wsX6_in := goodIn_r _ [8] (by decide +kernel) (by decide +kernel)
set_option maxRecDepth 20000 in
theorem gX6_readsWay_X6_in : GoodIn wsX6_readsWay (va_wsS RX6 61 yX6_in wsX6_in) := goodIn_app (goodIn_of _ (by decide +kernel)) ggX6_readsWay_X6_in
set_option maxRecDepth 20000 in
theorem ggX6_readsWay_X6_takes : GoodIn wsX6_readsWay wsX6_takes := goodIn_r _ [12, 13, 14, 3, 15, 16, 17, 7, 18, 19, 20, 21, 22, 23, 2, 24, 25, 26, 27, 28, 29, 5, 6, 8, 30, 31, 32, 33, 34, 35, 36, 37, 38, 39, 40, 41, 50, 51, 52, 53, 54, 55, 56, 57, 58, 59, 60, 61, 62, 63, 64, 65, 66, 67, 68, 69, 70, 71, 72, 73, 74, 75, 76, 77, 78] (by decide +kernel) (by decide +kernel)
set_option maxRecDepth 20000 in
theorem gX6_readsWay_X6_takes : GoodIn wsX6_readsWay (wsV RX6 125 RX6 yX6_takes wsX6_takes) := goodIn_app (goodIn_of _ (by decide +kernel)) ggX6_readsWay_X6_takes
set_option maxRecDepth 20000 in
theorem ggX6_readsWay_X6_isWell : GoodIn wsX6_readsWay wsX6_isWell := goodIn_r _ [18, 14, 50, 51, 52, 53, 54, 55, 56, 57, 58, 59, 60, 61, 62, 63, 64, 65, 66, 67, 68, 69, 70, 71, 72, 73, 74, 75, 76, 77, 78] (by decide +kernel) (by decide +kernel)
set_option maxRecDepth 20000 in
theorem gX6_readsWay_X6_isWell : GoodIn wsX6_readsWay (wsV RX6 118 RX6 yX6_isWell wsX6_isWell) := goodIn_app (goodIn_of _ (by decide +kernel)) ggX6_readsWay_X6_isWell
set_option maxRecDepth 20000 in
theorem ggX6_readsWay_X6_number : GoodIn wsX6_readsWay wsX6_number := goodIn_r _ [45, 2, 3, 5, 6, 7, 8, 9, 10, 11, 12, 13, 14, 15, 16, 17, 18, 19, 20, 21, 22, 23, 24, 25, 26, 27, 28, 29, 30, 31, 32, 33, 34, 35, 36, 37, 38, 39, 40, 41, 50, 51, 52, 53, 54, 55, 56, 57, 58, 59, 60, 61, 62, 63, 64, 65, 66, 67, 68, 69, 70, 71, 72, 73, 74, 75, 76, 77, 78] (by decide +kernel) (by decide +kernel)
set_option maxRecDepth 20000 in
theorem gX6_readsWay_X6_number : GoodIn wsX6_readsWay (wsV RX6 129 RX6 yX6_number wsX6_number) := goodIn_app (goodIn_of _ (by decide +kernel)) ggX6_readsWay_X6_number
set_option maxRecDepth 20000 in
theorem ggX6_readsWay_X6_isWord : GoodIn wsX6_readsWay wsX6_isWord := goodIn_r _ [49, 2, 3, 15, 16, 17, 7, 18, 14, 50, 51, 52, 53, 54, 55, 56, 57, 58, 59, 60, 61, 62, 63, 64, 65, 66, 67, 68, 69, 70, 71, 72, 73, 74, 75, 76, 77, 78] (by decide +kernel) (by decide +kernel)
set_option maxRecDepth 20000 in
theorem gX6_readsWay_X6_isWord : GoodIn wsX6_readsWay (wsV RX6 139 RX6 yX6_isWord wsX6_isWord) := goodIn_app (goodIn_of _ (by decide +kernel)) ggX6_readsWay_X6_isWord
set_option maxRecDepth 20000 in
theorem ggX6_readsWay_X6_advances : GoodIn wsX6_readsWay wsX6_advances := goodIn_r _ [22, 23, 13, 2, 3, 24, 25, 26, 7, 27, 28, 29, 5, 6, 8, 30, 31, 32, 33, 34, 35, 36, 37, 38, 39, 40, 41, 50, 51, 52, 53, 54, 55, 56, 57, 58, 59, 60, 61, 62, 63, 64, 65, 66, 67, 68, 69, 70, 71, 72, 73, 74, 75, 76, 77, 78] (by decide +kernel) (by decide +kernel)
set_option maxRecDepth 20000 in
theorem gX6_readsWay_X6_advances : GoodIn wsX6_readsWay (wsV RX6 122 RX6 yX6_advances wsX6_advances) := goodIn_app (goodIn_of _ (by decide +kernel)) ggX6_readsWay_X6_advances
theorem dX6_readsWay_0 : decode cX6_readsWay 0 = .ok (.bipush 24, 2) := by decide +kernel
theorem dX6_readsWay_2 : decode cX6_readsWay 2 = .ok (.iconst 4, 1) := by decide +kernel
theorem dX6_readsWay_3 : decode cX6_readsWay 3 = .ok (.aload_n 0, 1) := by decide +kernel
theorem dX6_readsWay_4 : decode cX6_readsWay 4 = .ok (.getfield 136, 3) := by decide +kernel
theorem dX6_readsWay_7 : decode cX6_readsWay 7 = .ok (.imul, 1) := by decide +kernel
theorem dX6_readsWay_8 : decode cX6_readsWay 8 = .ok (.iadd, 1) := by decide +kernel
theorem dX6_readsWay_9 : decode cX6_readsWay 9 = .ok (.istore_n 1, 1) := by decide +kernel
theorem dX6_readsWay_10 : decode cX6_readsWay 10 = .ok (.aload_n 0, 1) := by decide +kernel
theorem dX6_readsWay_11 : decode cX6_readsWay 11 = .ok (.aload_n 0, 1) := by decide +kernel
theorem dX6_readsWay_12 : decode cX6_readsWay 12 = .ok (.getfield 105, 3) := by decide +kernel
theorem dX6_readsWay_15 : decode cX6_readsWay 15 = .ok (.iconst 1, 1) := by decide +kernel
theorem dX6_readsWay_16 : decode cX6_readsWay 16 = .ok (.if_icmp .ne 20, 3) := by decide +kernel
theorem dX6_readsWay_19 : decode cX6_readsWay 19 = .ok (.aload_n 0, 1) := by decide +kernel
theorem dX6_readsWay_20 : decode cX6_readsWay 20 = .ok (.getfield 112, 3) := by decide +kernel
theorem dX6_readsWay_23 : decode cX6_readsWay 23 = .ok (.iconst 3, 1) := by decide +kernel
theorem dX6_readsWay_24 : decode cX6_readsWay 24 = .ok (.bipush 6, 2) := by decide +kernel
theorem dX6_readsWay_26 : decode cX6_readsWay 26 = .ok (.invokestatic 61, 3) := by decide +kernel
theorem dX6_readsWay_29 : decode cX6_readsWay 29 = .ok (.ifCond .eq 7, 3) := by decide +kernel
theorem dX6_readsWay_32 : decode cX6_readsWay 32 = .ok (.iconst 1, 1) := by decide +kernel
theorem dX6_readsWay_33 : decode cX6_readsWay 33 = .ok (.goto 4, 3) := by decide +kernel
theorem dX6_readsWay_36 : decode cX6_readsWay 36 = .ok (.iconst 0, 1) := by decide +kernel
theorem dX6_readsWay_37 : decode cX6_readsWay 37 = .ok (.invokevirtual 125, 3) := by decide +kernel
theorem dX6_readsWay_40 : decode cX6_readsWay 40 = .ok (.istore_n 2, 1) := by decide +kernel
theorem dX6_readsWay_41 : decode cX6_readsWay 41 = .ok (.aload_n 0, 1) := by decide +kernel
theorem dX6_readsWay_42 : decode cX6_readsWay 42 = .ok (.getfield 33, 3) := by decide +kernel
theorem dX6_readsWay_45 : decode cX6_readsWay 45 = .ok (.iload_n 1, 1) := by decide +kernel
theorem dX6_readsWay_46 : decode cX6_readsWay 46 = .ok (.iload_n 2, 1) := by decide +kernel
theorem dX6_readsWay_47 : decode cX6_readsWay 47 = .ok (.iconst 3, 1) := by decide +kernel
theorem dX6_readsWay_48 : decode cX6_readsWay 48 = .ok (.isub, 1) := by decide +kernel
theorem dX6_readsWay_49 : decode cX6_readsWay 49 = .ok (.iastore, 1) := by decide +kernel
theorem dX6_readsWay_50 : decode cX6_readsWay 50 = .ok (.aload_n 0, 1) := by decide +kernel
theorem dX6_readsWay_51 : decode cX6_readsWay 51 = .ok (.getfield 33, 3) := by decide +kernel
theorem dX6_readsWay_54 : decode cX6_readsWay 54 = .ok (.iload_n 1, 1) := by decide +kernel
theorem dX6_readsWay_55 : decode cX6_readsWay 55 = .ok (.iconst 1, 1) := by decide +kernel
theorem dX6_readsWay_56 : decode cX6_readsWay 56 = .ok (.iadd, 1) := by decide +kernel
theorem dX6_readsWay_57 : decode cX6_readsWay 57 = .ok (.iconst 0, 1) := by decide +kernel
theorem dX6_readsWay_58 : decode cX6_readsWay 58 = .ok (.iastore, 1) := by decide +kernel
theorem dX6_readsWay_59 : decode cX6_readsWay 59 = .ok (.aload_n 0, 1) := by decide +kernel
theorem dX6_readsWay_60 : decode cX6_readsWay 60 = .ok (.getfield 33, 3) := by decide +kernel
theorem dX6_readsWay_63 : decode cX6_readsWay 63 = .ok (.iload_n 1, 1) := by decide +kernel
theorem dX6_readsWay_64 : decode cX6_readsWay 64 = .ok (.iconst 2, 1) := by decide +kernel
theorem dX6_readsWay_65 : decode cX6_readsWay 65 = .ok (.iadd, 1) := by decide +kernel
theorem dX6_readsWay_66 : decode cX6_readsWay 66 = .ok (.iconst 1, 1) := by decide +kernel
theorem dX6_readsWay_67 : decode cX6_readsWay 67 = .ok (.iastore, 1) := by decide +kernel
theorem dX6_readsWay_68 : decode cX6_readsWay 68 = .ok (.aload_n 0, 1) := by decide +kernel
theorem dX6_readsWay_69 : decode cX6_readsWay 69 = .ok (.getfield 33, 3) := by decide +kernel
theorem dX6_readsWay_72 : decode cX6_readsWay 72 = .ok (.iload_n 1, 1) := by decide +kernel
theorem dX6_readsWay_73 : decode cX6_readsWay 73 = .ok (.iconst 3, 1) := by decide +kernel
theorem dX6_readsWay_74 : decode cX6_readsWay 74 = .ok (.iadd, 1) := by decide +kernel
theorem dX6_readsWay_75 : decode cX6_readsWay 75 = .ok (.bipush 15, 2) := by decide +kernel
theorem dX6_readsWay_77 : decode cX6_readsWay 77 = .ok (.iastore, 1) := by decide +kernel
theorem dX6_readsWay_78 : decode cX6_readsWay 78 = .ok (.aload_n 0, 1) := by decide +kernel
theorem dX6_readsWay_79 : decode cX6_readsWay 79 = .ok (.invokevirtual 118, 3) := by decide +kernel
theorem dX6_readsWay_82 : decode cX6_readsWay 82 = .ok (.ifCond .eq 28, 3) := by decide +kernel
theorem dX6_readsWay_85 : decode cX6_readsWay 85 = .ok (.iload_n 2, 1) := by decide +kernel
theorem dX6_readsWay_86 : decode cX6_readsWay 86 = .ok (.iconst 4, 1) := by decide +kernel
theorem dX6_readsWay_87 : decode cX6_readsWay 87 = .ok (.if_icmp .eq 8, 3) := by decide +kernel
theorem dX6_readsWay_90 : decode cX6_readsWay 90 = .ok (.iload_n 2, 1) := by decide +kernel
theorem dX6_readsWay_91 : decode cX6_readsWay 91 = .ok (.iconst 5, 1) := by decide +kernel
theorem dX6_readsWay_92 : decode cX6_readsWay 92 = .ok (.if_icmp .ne 18, 3) := by decide +kernel
theorem dX6_readsWay_95 : decode cX6_readsWay 95 = .ok (.aload_n 0, 1) := by decide +kernel
theorem dX6_readsWay_96 : decode cX6_readsWay 96 = .ok (.getfield 33, 3) := by decide +kernel
theorem dX6_readsWay_99 : decode cX6_readsWay 99 = .ok (.iload_n 1, 1) := by decide +kernel
theorem dX6_readsWay_100 : decode cX6_readsWay 100 = .ok (.iconst 1, 1) := by decide +kernel
theorem dX6_readsWay_101 : decode cX6_readsWay 101 = .ok (.iadd, 1) := by decide +kernel
theorem dX6_readsWay_102 : decode cX6_readsWay 102 = .ok (.aload_n 0, 1) := by decide +kernel
theorem dX6_readsWay_103 : decode cX6_readsWay 103 = .ok (.iconst 1, 1) := by decide +kernel
theorem dX6_readsWay_104 : decode cX6_readsWay 104 = .ok (.bipush 99, 2) := by decide +kernel
theorem dX6_readsWay_106 : decode cX6_readsWay 106 = .ok (.invokevirtual 129, 3) := by decide +kernel
theorem dX6_readsWay_109 : decode cX6_readsWay 109 = .ok (.iastore, 1) := by decide +kernel
theorem dX6_readsWay_110 : decode cX6_readsWay 110 = .ok (.aload_n 0, 1) := by decide +kernel
theorem dX6_readsWay_111 : decode cX6_readsWay 111 = .ok (.invokevirtual 118, 3) := by decide +kernel
theorem dX6_readsWay_114 : decode cX6_readsWay 114 = .ok (.ifCond .eq 163, 3) := by decide +kernel
theorem dX6_readsWay_117 : decode cX6_readsWay 117 = .ok (.iload_n 2, 1) := by decide +kernel
theorem dX6_readsWay_118 : decode cX6_readsWay 118 = .ok (.iconst 5, 1) := by decide +kernel
theorem dX6_readsWay_119 : decode cX6_readsWay 119 = .ok (.if_icmp .ne 158, 3) := by decide +kernel
theorem dX6_readsWay_122 : decode cX6_readsWay 122 = .ok (.aload_n 0, 1) := by decide +kernel
theorem dX6_readsWay_123 : decode cX6_readsWay 123 = .ok (.aload_n 0, 1) := by decide +kernel
theorem dX6_readsWay_124 : decode cX6_readsWay 124 = .ok (.bipush 7, 2) := by decide +kernel
theorem dX6_readsWay_126 : decode cX6_readsWay 126 = .ok (.invokevirtual 139, 3) := by decide +kernel
theorem dX6_readsWay_129 : decode cX6_readsWay 129 = .ok (.invokevirtual 125, 3) := by decide +kernel
theorem dX6_readsWay_132 : decode cX6_readsWay 132 = .ok (.pop, 1) := by decide +kernel
theorem dX6_readsWay_133 : decode cX6_readsWay 133 = .ok (.aload_n 0, 1) := by decide +kernel
theorem dX6_readsWay_134 : decode cX6_readsWay 134 = .ok (.getfield 33, 3) := by decide +kernel
theorem dX6_readsWay_137 : decode cX6_readsWay 137 = .ok (.iload_n 1, 1) := by decide +kernel
theorem dX6_readsWay_138 : decode cX6_readsWay 138 = .ok (.iconst 2, 1) := by decide +kernel
theorem dX6_readsWay_139 : decode cX6_readsWay 139 = .ok (.iadd, 1) := by decide +kernel
theorem dX6_readsWay_140 : decode cX6_readsWay 140 = .ok (.aload_n 0, 1) := by decide +kernel
theorem dX6_readsWay_141 : decode cX6_readsWay 141 = .ok (.iconst 1, 1) := by decide +kernel
theorem dX6_readsWay_142 : decode cX6_readsWay 142 = .ok (.iconst 5, 1) := by decide +kernel
theorem dX6_readsWay_143 : decode cX6_readsWay 143 = .ok (.invokevirtual 129, 3) := by decide +kernel
theorem dX6_readsWay_146 : decode cX6_readsWay 146 = .ok (.iastore, 1) := by decide +kernel
theorem dX6_readsWay_147 : decode cX6_readsWay 147 = .ok (.aload_n 0, 1) := by decide +kernel
theorem dX6_readsWay_148 : decode cX6_readsWay 148 = .ok (.bipush 8, 2) := by decide +kernel
theorem dX6_readsWay_150 : decode cX6_readsWay 150 = .ok (.invokevirtual 139, 3) := by decide +kernel
theorem dX6_readsWay_153 : decode cX6_readsWay 153 = .ok (.ifCond .eq 124, 3) := by decide +kernel
theorem dX6_readsWay_156 : decode cX6_readsWay 156 = .ok (.aload_n 0, 1) := by decide +kernel
theorem dX6_readsWay_157 : decode cX6_readsWay 157 = .ok (.invokevirtual 122, 3) := by decide +kernel
theorem dX6_readsWay_160 : decode cX6_readsWay 160 = .ok (.aload_n 0, 1) := by decide +kernel
theorem dX6_readsWay_161 : decode cX6_readsWay 161 = .ok (.getfield 33, 3) := by decide +kernel
theorem dX6_readsWay_164 : decode cX6_readsWay 164 = .ok (.iload_n 1, 1) := by decide +kernel
theorem dX6_readsWay_165 : decode cX6_readsWay 165 = .ok (.iconst 3, 1) := by decide +kernel
theorem dX6_readsWay_166 : decode cX6_readsWay 166 = .ok (.iadd, 1) := by decide +kernel
theorem dX6_readsWay_167 : decode cX6_readsWay 167 = .ok (.iconst 0, 1) := by decide +kernel
theorem dX6_readsWay_168 : decode cX6_readsWay 168 = .ok (.iastore, 1) := by decide +kernel
theorem dX6_readsWay_169 : decode cX6_readsWay 169 = .ok (.iconst 1, 1) := by decide +kernel
theorem dX6_readsWay_170 : decode cX6_readsWay 170 = .ok (.istore_n 3, 1) := by decide +kernel
theorem dX6_readsWay_171 : decode cX6_readsWay 171 = .ok (.iload_n 3, 1) := by decide +kernel
theorem dX6_readsWay_172 : decode cX6_readsWay 172 = .ok (.ifCond .eq 105, 3) := by decide +kernel
theorem dX6_readsWay_175 : decode cX6_readsWay 175 = .ok (.aload_n 0, 1) := by decide +kernel
theorem dX6_readsWay_176 : decode cX6_readsWay 176 = .ok (.aload_n 0, 1) := by decide +kernel
theorem dX6_readsWay_177 : decode cX6_readsWay 177 = .ok (.getfield 105, 3) := by decide +kernel
theorem dX6_readsWay_180 : decode cX6_readsWay 180 = .ok (.iconst 1, 1) := by decide +kernel
theorem dX6_readsWay_181 : decode cX6_readsWay 181 = .ok (.if_icmp .ne 37, 3) := by decide +kernel
theorem dX6_readsWay_184 : decode cX6_readsWay 184 = .ok (.aload_n 0, 1) := by decide +kernel
theorem dX6_readsWay_185 : decode cX6_readsWay 185 = .ok (.getfield 112, 3) := by decide +kernel
theorem dX6_readsWay_188 : decode cX6_readsWay 188 = .ok (.bipush 9, 2) := by decide +kernel
theorem dX6_readsWay_190 : decode cX6_readsWay 190 = .ok (.if_icmp .lt 28, 3) := by decide +kernel
theorem dX6_readsWay_193 : decode cX6_readsWay 193 = .ok (.aload_n 0, 1) := by decide +kernel
theorem dX6_readsWay_194 : decode cX6_readsWay 194 = .ok (.getfield 33, 3) := by decide +kernel
theorem dX6_readsWay_197 : decode cX6_readsWay 197 = .ok (.iload_n 1, 1) := by decide +kernel
theorem dX6_readsWay_198 : decode cX6_readsWay 198 = .ok (.iconst 3, 1) := by decide +kernel
theorem dX6_readsWay_199 : decode cX6_readsWay 199 = .ok (.iadd, 1) := by decide +kernel
theorem dX6_readsWay_200 : decode cX6_readsWay 200 = .ok (.iaload, 1) := by decide +kernel
theorem dX6_readsWay_201 : decode cX6_readsWay 201 = .ok (.aload_n 0, 1) := by decide +kernel
theorem dX6_readsWay_202 : decode cX6_readsWay 202 = .ok (.getfield 112, 3) := by decide +kernel
theorem dX6_readsWay_205 : decode cX6_readsWay 205 = .ok (.bipush 9, 2) := by decide +kernel
theorem dX6_readsWay_207 : decode cX6_readsWay 207 = .ok (.isub, 1) := by decide +kernel
theorem dX6_readsWay_208 : decode cX6_readsWay 208 = .ok (.ishr, 1) := by decide +kernel
theorem dX6_readsWay_209 : decode cX6_readsWay 209 = .ok (.iconst 1, 1) := by decide +kernel
theorem dX6_readsWay_210 : decode cX6_readsWay 210 = .ok (.iand, 1) := by decide +kernel
theorem dX6_readsWay_211 : decode cX6_readsWay 211 = .ok (.ifCond .ne 7, 3) := by decide +kernel
theorem dX6_readsWay_214 : decode cX6_readsWay 214 = .ok (.iconst 1, 1) := by decide +kernel
theorem dX6_readsWay_215 : decode cX6_readsWay 215 = .ok (.goto 4, 3) := by decide +kernel
theorem dX6_readsWay_218 : decode cX6_readsWay 218 = .ok (.iconst 0, 1) := by decide +kernel
theorem dX6_readsWay_219 : decode cX6_readsWay 219 = .ok (.invokevirtual 125, 3) := by decide +kernel
theorem dX6_readsWay_222 : decode cX6_readsWay 222 = .ok (.bipush 9, 2) := by decide +kernel
theorem dX6_readsWay_224 : decode cX6_readsWay 224 = .ok (.isub, 1) := by decide +kernel
theorem dX6_readsWay_225 : decode cX6_readsWay 225 = .ok (.istore 4, 2) := by decide +kernel
theorem dX6_readsWay_227 : decode cX6_readsWay 227 = .ok (.aload_n 0, 1) := by decide +kernel
theorem dX6_readsWay_228 : decode cX6_readsWay 228 = .ok (.getfield 33, 3) := by decide +kernel
theorem dX6_readsWay_231 : decode cX6_readsWay 231 = .ok (.iload_n 1, 1) := by decide +kernel
theorem dX6_readsWay_232 : decode cX6_readsWay 232 = .ok (.iconst 3, 1) := by decide +kernel
theorem dX6_readsWay_233 : decode cX6_readsWay 233 = .ok (.iadd, 1) := by decide +kernel
theorem dX6_readsWay_234 : decode cX6_readsWay 234 = .ok (.dup2, 1) := by decide +kernel
theorem dX6_readsWay_235 : decode cX6_readsWay 235 = .ok (.iaload, 1) := by decide +kernel
theorem dX6_readsWay_236 : decode cX6_readsWay 236 = .ok (.aload_n 0, 1) := by decide +kernel
theorem dX6_readsWay_237 : decode cX6_readsWay 237 = .ok (.invokevirtual 118, 3) := by decide +kernel
theorem dX6_readsWay_240 : decode cX6_readsWay 240 = .ok (.ifCond .eq 10, 3) := by decide +kernel
theorem dX6_readsWay_243 : decode cX6_readsWay 243 = .ok (.iconst 1, 1) := by decide +kernel
theorem dX6_readsWay_244 : decode cX6_readsWay 244 = .ok (.iload 4, 2) := by decide +kernel
theorem dX6_readsWay_246 : decode cX6_readsWay 246 = .ok (.ishl, 1) := by decide +kernel
theorem dX6_readsWay_247 : decode cX6_readsWay 247 = .ok (.goto 4, 3) := by decide +kernel
theorem dX6_readsWay_250 : decode cX6_readsWay 250 = .ok (.iconst 0, 1) := by decide +kernel
theorem dX6_readsWay_251 : decode cX6_readsWay 251 = .ok (.ior, 1) := by decide +kernel
theorem dX6_readsWay_252 : decode cX6_readsWay 252 = .ok (.iastore, 1) := by decide +kernel
theorem dX6_readsWay_253 : decode cX6_readsWay 253 = .ok (.aload_n 0, 1) := by decide +kernel
theorem dX6_readsWay_254 : decode cX6_readsWay 254 = .ok (.invokevirtual 118, 3) := by decide +kernel
theorem dX6_readsWay_257 : decode cX6_readsWay 257 = .ok (.ifCond .eq 15, 3) := by decide +kernel
theorem dX6_readsWay_260 : decode cX6_readsWay 260 = .ok (.aload_n 0, 1) := by decide +kernel
theorem dX6_readsWay_261 : decode cX6_readsWay 261 = .ok (.getfield 105, 3) := by decide +kernel
theorem dX6_readsWay_264 : decode cX6_readsWay 264 = .ok (.iconst 3, 1) := by decide +kernel
theorem dX6_readsWay_265 : decode cX6_readsWay 265 = .ok (.if_icmp .eq 7, 3) := by decide +kernel
theorem dX6_readsWay_268 : decode cX6_readsWay 268 = .ok (.iconst 1, 1) := by decide +kernel
theorem dX6_readsWay_269 : decode cX6_readsWay 269 = .ok (.goto 4, 3) := by decide +kernel
theorem dX6_readsWay_272 : decode cX6_readsWay 272 = .ok (.iconst 0, 1) := by decide +kernel
theorem dX6_readsWay_273 : decode cX6_readsWay 273 = .ok (.istore_n 3, 1) := by decide +kernel
theorem dX6_readsWay_274 : decode cX6_readsWay 274 = .ok (.goto (-103), 3) := by decide +kernel
theorem dX6_readsWay_277 : decode cX6_readsWay 277 = .ok (.aload_n 0, 1) := by decide +kernel
theorem dX6_readsWay_278 : decode cX6_readsWay 278 = .ok (.dup, 1) := by decide +kernel
theorem dX6_readsWay_279 : decode cX6_readsWay 279 = .ok (.getfield 136, 3) := by decide +kernel
theorem dX6_readsWay_282 : decode cX6_readsWay 282 = .ok (.iconst 1, 1) := by decide +kernel
theorem dX6_readsWay_283 : decode cX6_readsWay 283 = .ok (.iadd, 1) := by decide +kernel
theorem dX6_readsWay_284 : decode cX6_readsWay 284 = .ok (.putfield 136, 3) := by decide +kernel
theorem dX6_readsWay_287 : decode cX6_readsWay 287 = .ok (.return_, 1) := by decide +kernel
set_option maxRecDepth 20000 in
theorem ggX6_begins_X6_advances : GoodIn wsX6_begins wsX6_advances := goodIn_r _ [10, 2, 11, 12, 13, 14, 15, 16, 9, 17, 18, 19, 20, 21, 22, 23, 24, 25, 26, 27, 28, 29, 30, 31, 32, 33, 34, 35, 36, 37, 38, 39, 40, 41, 42, 43, 44, 45, 46, 47, 48, 49, 50, 51, 52, 53, 54, 55, 56, 57, 58, 59, 60, 61, 62, 63] (by decide +kernel) (by decide +kernel)
set_option maxRecDepth 20000 in
theorem gX6_begins_X6_advances : GoodIn wsX6_begins (wsV RX6 122 RX6 yX6_advances wsX6_advances) := goodIn_app (goodIn_of _ (by decide +kernel)) ggX6_begins_X6_advances
theorem dX6_begins_0 : decode cX6_begins 0 = .ok (.aload_n 0, 1) := by decide +kernel
theorem dX6_begins_1 : decode cX6_begins 1 = .ok (.iconst (-1), 1) := by decide +kernel
theorem dX6_begins_2 : decode cX6_begins 2 = .ok (.putfield 115, 3) := by decide +kernel
theorem dX6_begins_5 : decode cX6_begins 5 = .ok (.aload_n 0, 1) := by decide +kernel
theorem dX6_begins_6 : decode cX6_begins 6 = .ok (.iconst 0, 1) := by decide +kernel
theorem dX6_begins_7 : decode cX6_begins 7 = .ok (.putfield 95, 3) := by decide +kernel
theorem dX6_begins_10 : decode cX6_begins 10 = .ok (.aload_n 0, 1) := by decide +kernel
theorem dX6_begins_11 : decode cX6_begins 11 = .ok (.iconst 0, 1) := by decide +kernel
theorem dX6_begins_12 : decode cX6_begins 12 = .ok (.putfield 133, 3) := by decide +kernel
theorem dX6_begins_15 : decode cX6_begins 15 = .ok (.aload_n 0, 1) := by decide +kernel
theorem dX6_begins_16 : decode cX6_begins 16 = .ok (.iconst 0, 1) := by decide +kernel
theorem dX6_begins_17 : decode cX6_begins 17 = .ok (.putfield 136, 3) := by decide +kernel
theorem dX6_begins_20 : decode cX6_begins 20 = .ok (.aload_n 0, 1) := by decide +kernel
theorem dX6_begins_21 : decode cX6_begins 21 = .ok (.getfield 27, 3) := by decide +kernel
theorem dX6_begins_24 : decode cX6_begins 24 = .ok (.iconst 3, 1) := by decide +kernel
theorem dX6_begins_25 : decode cX6_begins 25 = .ok (.iconst 2, 1) := by decide +kernel
theorem dX6_begins_26 : decode cX6_begins 26 = .ok (.iastore, 1) := by decide +kernel
theorem dX6_begins_27 : decode cX6_begins 27 = .ok (.aload_n 0, 1) := by decide +kernel
theorem dX6_begins_28 : decode cX6_begins 28 = .ok (.getfield 27, 3) := by decide +kernel
theorem dX6_begins_31 : decode cX6_begins 31 = .ok (.iconst 4, 1) := by decide +kernel
theorem dX6_begins_32 : decode cX6_begins 32 = .ok (.bipush 6, 2) := by decide +kernel
theorem dX6_begins_34 : decode cX6_begins 34 = .ok (.iastore, 1) := by decide +kernel
theorem dX6_begins_35 : decode cX6_begins 35 = .ok (.aload_n 0, 1) := by decide +kernel
theorem dX6_begins_36 : decode cX6_begins 36 = .ok (.getfield 27, 3) := by decide +kernel
theorem dX6_begins_39 : decode cX6_begins 39 = .ok (.iconst 5, 1) := by decide +kernel
theorem dX6_begins_40 : decode cX6_begins 40 = .ok (.iconst 2, 1) := by decide +kernel
theorem dX6_begins_41 : decode cX6_begins 41 = .ok (.iastore, 1) := by decide +kernel
theorem dX6_begins_42 : decode cX6_begins 42 = .ok (.aload_n 0, 1) := by decide +kernel
theorem dX6_begins_43 : decode cX6_begins 43 = .ok (.invokevirtual 122, 3) := by decide +kernel
theorem dX6_begins_46 : decode cX6_begins 46 = .ok (.return_, 1) := by decide +kernel
set_option maxRecDepth 20000 in
theorem ggX6_market_X6_begins : GoodIn wsX6_market wsX6_begins := goodIn_r _ [20, 6, 21, 4, 5, 7, 22, 23, 24, 19, 25, 26, 2, 3, 27, 28, 29, 30, 15, 31, 32, 33, 34, 35, 36, 37, 38, 39, 40, 41, 42, 43, 44, 45, 46, 75, 76, 77, 78, 79, 80, 81, 82, 83, 84, 85, 86, 87, 88, 89, 90, 91, 92, 93, 94, 95, 96, 97, 98, 99, 100, 101, 102, 103] (by decide +kernel) (by decide +kernel)
set_option maxRecDepth 20000 in
theorem gX6_market_X6_begins : GoodIn wsX6_market (wsV RX6 143 RX6 yX6_begins wsX6_begins) := goodIn_app (goodIn_of _ (by decide +kernel)) ggX6_market_X6_begins
set_option maxRecDepth 20000 in
theorem ggX6_market_X6_isWell : GoodIn wsX6_market wsX6_isWell := goodIn_r _ [50, 6, 75, 76, 77, 78, 79, 80, 81, 82, 83, 84, 85, 86, 87, 88, 89, 90, 91, 92, 93, 94, 95, 96, 97, 98, 99, 100, 101, 102, 103] (by decide +kernel) (by decide +kernel)
set_option maxRecDepth 20000 in
theorem gX6_market_X6_isWell : GoodIn wsX6_market (wsV RX6 118 RX6 yX6_isWell wsX6_isWell) := goodIn_app (goodIn_of _ (by decide +kernel)) ggX6_market_X6_isWell
set_option maxRecDepth 20000 in
theorem ggX6_market_X6_takes : GoodIn wsX6_market wsX6_takes := goodIn_r _ [54, 26, 6, 3, 47, 48, 49, 19, 50, 22, 23, 24, 25, 21, 2, 27, 28, 29, 30, 15, 31, 32, 33, 34, 35, 36, 37, 38, 39, 40, 41, 42, 43, 44, 45, 46, 75, 76, 77, 78, 79, 80, 81, 82, 83, 84, 85, 86, 87, 88, 89, 90, 91, 92, 93, 94, 95, 96, 97, 98, 99, 100, 101, 102, 103] (by decide +kernel) (by decide +kernel)
set_option maxRecDepth 20000 in
theorem gX6_market_X6_takes : GoodIn wsX6_market (wsV RX6 125 RX6 yX6_takes wsX6_takes) := goodIn_app (goodIn_of _ (by decide +kernel)) ggX6_market_X6_takes
set_option maxRecDepth 20000 in
theorem ggX6_market_X6_readsLuck : GoodIn wsX6_market wsX6_readsLuck := goodIn_r _ [58, 7, 2, 3, 59, 60, 61, 19, 62, 32, 33, 34, 51, 52, 53, 54, 26, 6, 47, 48, 49, 50, 22, 23, 24, 25, 21, 27, 28, 29, 30, 15, 31, 35, 36, 37, 38, 39, 40, 41, 42, 43, 44, 45, 46, 75, 76, 77, 78, 79, 80, 81, 82, 83, 84, 85, 86, 87, 88, 89, 90, 91, 92, 93, 94, 95, 96, 97, 98, 99, 100, 101, 102, 103] (by decide +kernel) (by decide +kernel)
set_option maxRecDepth 20000 in
theorem gX6_market_X6_readsLuck : GoodIn wsX6_market (wsV RX6 146 RX6 yX6_readsLuck wsX6_readsLuck) := goodIn_app (goodIn_of _ (by decide +kernel)) ggX6_market_X6_readsLuck
set_option maxRecDepth 20000 in
theorem ggX6_market_X6_readsStall : GoodIn wsX6_market wsX6_readsStall := goodIn_r _ [66, 4, 8, 59, 60, 61, 19, 62, 2, 3, 32, 33, 34, 51, 52, 53, 54, 26, 6, 47, 48, 49, 50, 22, 23, 24, 25, 21, 27, 28, 29, 30, 15, 31, 35, 36, 37, 38, 39, 40, 41, 42, 43, 44, 45, 46, 75, 76, 77, 78, 79, 80, 81, 82, 83, 84, 85, 86, 87, 88, 89, 90, 91, 92, 93, 94, 95, 96, 97, 98, 99, 100, 101, 102, 103] (by decide +kernel) (by decide +kernel)
set_option maxRecDepth 20000 in
theorem gX6_market_X6_readsStall : GoodIn wsX6_market (wsV RX6 149 RX6 yX6_readsStall wsX6_readsStall) := goodIn_app (goodIn_of _ (by decide +kernel)) ggX6_market_X6_readsStall
set_option maxRecDepth 20000 in
theorem ggX6_market_X6_readsWay : GoodIn wsX6_market wsX6_readsWay := goodIn_r _ [70, 5, 2, 3, 9, 32, 33, 19, 34, 51, 52, 53, 54, 26, 6, 47, 48, 49, 50, 22, 23, 24, 25, 21, 27, 28, 29, 30, 15, 31, 35, 36, 37, 38, 39, 40, 41, 42, 43, 44, 45, 46, 59, 60, 61, 62, 71, 72, 73, 74, 75, 76, 77, 78, 79, 80, 81, 82, 83, 84, 85, 86, 87, 88, 89, 90, 91, 92, 93, 94, 95, 96, 97, 98, 99, 100, 101, 102, 103] (by decide +kernel) (by decide +kernel)
set_option maxRecDepth 20000 in
theorem gX6_market_X6_readsWay : GoodIn wsX6_market (wsV RX6 152 RX6 yX6_readsWay wsX6_readsWay) := goodIn_app (goodIn_of _ (by decide +kernel)) ggX6_market_X6_readsWay
theorem dX6_market_0 : decode cX6_market 0 = .ok (.aload_n 0, 1) := by decide +kernel
theorem dX6_market_1 : decode cX6_market 1 = .ok (.iconst 0, 1) := by decide +kernel
theorem dX6_market_2 : decode cX6_market 2 = .ok (.putfield 54, 3) := by decide +kernel
theorem dX6_market_5 : decode cX6_market 5 = .ok (.iconst 0, 1) := by decide +kernel
theorem dX6_market_6 : decode cX6_market 6 = .ok (.istore_n 1, 1) := by decide +kernel
theorem dX6_market_7 : decode cX6_market 7 = .ok (.iconst 0, 1) := by decide +kernel
theorem dX6_market_8 : decode cX6_market 8 = .ok (.istore_n 2, 1) := by decide +kernel
theorem dX6_market_9 : decode cX6_market 9 = .ok (.aload_n 0, 1) := by decide +kernel
theorem dX6_market_10 : decode cX6_market 10 = .ok (.invokevirtual 143, 3) := by decide +kernel
theorem dX6_market_13 : decode cX6_market 13 = .ok (.aload_n 0, 1) := by decide +kernel
theorem dX6_market_14 : decode cX6_market 14 = .ok (.invokevirtual 118, 3) := by decide +kernel
theorem dX6_market_17 : decode cX6_market 17 = .ok (.ifCond .eq 176, 3) := by decide +kernel
theorem dX6_market_20 : decode cX6_market 20 = .ok (.aload_n 0, 1) := by decide +kernel
theorem dX6_market_21 : decode cX6_market 21 = .ok (.getfield 105, 3) := by decide +kernel
theorem dX6_market_24 : decode cX6_market 24 = .ok (.ifCond .eq 169, 3) := by decide +kernel
theorem dX6_market_27 : decode cX6_market 27 = .ok (.aload_n 0, 1) := by decide +kernel
theorem dX6_market_28 : decode cX6_market 28 = .ok (.getfield 112, 3) := by decide +kernel
theorem dX6_market_31 : decode cX6_market 31 = .ok (.ifCond .ne 15, 3) := by decide +kernel
theorem dX6_market_34 : decode cX6_market 34 = .ok (.iload_n 2, 1) := by decide +kernel
theorem dX6_market_35 : decode cX6_market 35 = .ok (.ifCond .ne 7, 3) := by decide +kernel
theorem dX6_market_38 : decode cX6_market 38 = .ok (.iconst 1, 1) := by decide +kernel
theorem dX6_market_39 : decode cX6_market 39 = .ok (.goto 54, 3) := by decide +kernel
theorem dX6_market_42 : decode cX6_market 42 = .ok (.iconst 0, 1) := by decide +kernel
theorem dX6_market_43 : decode cX6_market 43 = .ok (.goto 50, 3) := by decide +kernel
theorem dX6_market_46 : decode cX6_market 46 = .ok (.aload_n 0, 1) := by decide +kernel
theorem dX6_market_47 : decode cX6_market 47 = .ok (.getfield 112, 3) := by decide +kernel
theorem dX6_market_50 : decode cX6_market 50 = .ok (.iconst 1, 1) := by decide +kernel
theorem dX6_market_51 : decode cX6_market 51 = .ok (.if_icmp .ne 20, 3) := by decide +kernel
theorem dX6_market_54 : decode cX6_market 54 = .ok (.aload_n 0, 1) := by decide +kernel
theorem dX6_market_55 : decode cX6_market 55 = .ok (.getfield 133, 3) := by decide +kernel
theorem dX6_market_58 : decode cX6_market 58 = .ok (.bipush 6, 2) := by decide +kernel
theorem dX6_market_60 : decode cX6_market 60 = .ok (.if_icmp .ge 7, 3) := by decide +kernel
theorem dX6_market_63 : decode cX6_market 63 = .ok (.iconst 1, 1) := by decide +kernel
theorem dX6_market_64 : decode cX6_market 64 = .ok (.goto 29, 3) := by decide +kernel
theorem dX6_market_67 : decode cX6_market 67 = .ok (.iconst 0, 1) := by decide +kernel
theorem dX6_market_68 : decode cX6_market 68 = .ok (.goto 25, 3) := by decide +kernel
theorem dX6_market_71 : decode cX6_market 71 = .ok (.aload_n 0, 1) := by decide +kernel
theorem dX6_market_72 : decode cX6_market 72 = .ok (.getfield 112, 3) := by decide +kernel
theorem dX6_market_75 : decode cX6_market 75 = .ok (.iconst 2, 1) := by decide +kernel
theorem dX6_market_76 : decode cX6_market 76 = .ok (.if_icmp .ne 16, 3) := by decide +kernel
theorem dX6_market_79 : decode cX6_market 79 = .ok (.aload_n 0, 1) := by decide +kernel
theorem dX6_market_80 : decode cX6_market 80 = .ok (.getfield 136, 3) := by decide +kernel
theorem dX6_market_83 : decode cX6_market 83 = .ok (.bipush 6, 2) := by decide +kernel
theorem dX6_market_85 : decode cX6_market 85 = .ok (.if_icmp .ge 7, 3) := by decide +kernel
theorem dX6_market_88 : decode cX6_market 88 = .ok (.iconst 1, 1) := by decide +kernel
theorem dX6_market_89 : decode cX6_market 89 = .ok (.goto 4, 3) := by decide +kernel
theorem dX6_market_92 : decode cX6_market 92 = .ok (.iconst 0, 1) := by decide +kernel
theorem dX6_market_93 : decode cX6_market 93 = .ok (.istore_n 3, 1) := by decide +kernel
theorem dX6_market_94 : decode cX6_market 94 = .ok (.aload_n 0, 1) := by decide +kernel
theorem dX6_market_95 : decode cX6_market 95 = .ok (.aload_n 0, 1) := by decide +kernel
theorem dX6_market_96 : decode cX6_market 96 = .ok (.getfield 105, 3) := by decide +kernel
theorem dX6_market_99 : decode cX6_market 99 = .ok (.iconst 1, 1) := by decide +kernel
theorem dX6_market_100 : decode cX6_market 100 = .ok (.if_icmp .ne 11, 3) := by decide +kernel
theorem dX6_market_103 : decode cX6_market 103 = .ok (.iload_n 3, 1) := by decide +kernel
theorem dX6_market_104 : decode cX6_market 104 = .ok (.ifCond .eq 7, 3) := by decide +kernel
theorem dX6_market_107 : decode cX6_market 107 = .ok (.iconst 1, 1) := by decide +kernel
theorem dX6_market_108 : decode cX6_market 108 = .ok (.goto 4, 3) := by decide +kernel
theorem dX6_market_111 : decode cX6_market 111 = .ok (.iconst 0, 1) := by decide +kernel
theorem dX6_market_112 : decode cX6_market 112 = .ok (.invokevirtual 125, 3) := by decide +kernel
theorem dX6_market_115 : decode cX6_market 115 = .ok (.istore 4, 2) := by decide +kernel
theorem dX6_market_117 : decode cX6_market 117 = .ok (.aload_n 0, 1) := by decide +kernel
theorem dX6_market_118 : decode cX6_market 118 = .ok (.invokevirtual 118, 3) := by decide +kernel
theorem dX6_market_121 : decode cX6_market 121 = .ok (.ifCond .eq 17, 3) := by decide +kernel
theorem dX6_market_124 : decode cX6_market 124 = .ok (.iload 4, 2) := by decide +kernel
theorem dX6_market_126 : decode cX6_market 126 = .ok (.ifCond .ne 12, 3) := by decide +kernel
theorem dX6_market_129 : decode cX6_market 129 = .ok (.iconst 1, 1) := by decide +kernel
theorem dX6_market_130 : decode cX6_market 130 = .ok (.istore_n 2, 1) := by decide +kernel
theorem dX6_market_131 : decode cX6_market 131 = .ok (.aload_n 0, 1) := by decide +kernel
theorem dX6_market_132 : decode cX6_market 132 = .ok (.invokevirtual 146, 3) := by decide +kernel
theorem dX6_market_135 : decode cX6_market 135 = .ok (.goto 34, 3) := by decide +kernel
theorem dX6_market_138 : decode cX6_market 138 = .ok (.aload_n 0, 1) := by decide +kernel
theorem dX6_market_139 : decode cX6_market 139 = .ok (.invokevirtual 118, 3) := by decide +kernel
theorem dX6_market_142 : decode cX6_market 142 = .ok (.ifCond .eq 16, 3) := by decide +kernel
theorem dX6_market_145 : decode cX6_market 145 = .ok (.iload 4, 2) := by decide +kernel
theorem dX6_market_147 : decode cX6_market 147 = .ok (.iconst 1, 1) := by decide +kernel
theorem dX6_market_148 : decode cX6_market 148 = .ok (.if_icmp .ne 10, 3) := by decide +kernel
theorem dX6_market_151 : decode cX6_market 151 = .ok (.aload_n 0, 1) := by decide +kernel
theorem dX6_market_152 : decode cX6_market 152 = .ok (.invokevirtual 149, 3) := by decide +kernel
theorem dX6_market_155 : decode cX6_market 155 = .ok (.goto 14, 3) := by decide +kernel
theorem dX6_market_158 : decode cX6_market 158 = .ok (.aload_n 0, 1) := by decide +kernel
theorem dX6_market_159 : decode cX6_market 159 = .ok (.invokevirtual 118, 3) := by decide +kernel
theorem dX6_market_162 : decode cX6_market 162 = .ok (.ifCond .eq 7, 3) := by decide +kernel
theorem dX6_market_165 : decode cX6_market 165 = .ok (.aload_n 0, 1) := by decide +kernel
theorem dX6_market_166 : decode cX6_market 166 = .ok (.invokevirtual 152, 3) := by decide +kernel
theorem dX6_market_169 : decode cX6_market 169 = .ok (.aload_n 0, 1) := by decide +kernel
theorem dX6_market_170 : decode cX6_market 170 = .ok (.aload_n 0, 1) := by decide +kernel
theorem dX6_market_171 : decode cX6_market 171 = .ok (.getfield 105, 3) := by decide +kernel
theorem dX6_market_174 : decode cX6_market 174 = .ok (.iconst 3, 1) := by decide +kernel
theorem dX6_market_175 : decode cX6_market 175 = .ok (.if_icmp .ne 7, 3) := by decide +kernel
theorem dX6_market_178 : decode cX6_market 178 = .ok (.iconst 1, 1) := by decide +kernel
theorem dX6_market_179 : decode cX6_market 179 = .ok (.goto 4, 3) := by decide +kernel
theorem dX6_market_182 : decode cX6_market 182 = .ok (.iconst 0, 1) := by decide +kernel
theorem dX6_market_183 : decode cX6_market 183 = .ok (.invokevirtual 125, 3) := by decide +kernel
theorem dX6_market_186 : decode cX6_market 186 = .ok (.pop, 1) := by decide +kernel
theorem dX6_market_187 : decode cX6_market 187 = .ok (.iinc 1 1, 3) := by decide +kernel
theorem dX6_market_190 : decode cX6_market 190 = .ok (.goto (-177), 3) := by decide +kernel
theorem dX6_market_193 : decode cX6_market 193 = .ok (.aload_n 0, 1) := by decide +kernel
theorem dX6_market_194 : decode cX6_market 194 = .ok (.invokevirtual 118, 3) := by decide +kernel
theorem dX6_market_197 : decode cX6_market 197 = .ok (.ifCond .ne 11, 3) := by decide +kernel
theorem dX6_market_200 : decode cX6_market 200 = .ok (.bipush (-10), 2) := by decide +kernel
theorem dX6_market_202 : decode cX6_market 202 = .ok (.aload_n 0, 1) := by decide +kernel
theorem dX6_market_203 : decode cX6_market 203 = .ok (.getfield 115, 3) := by decide +kernel
theorem dX6_market_206 : decode cX6_market 206 = .ok (.isub, 1) := by decide +kernel
theorem dX6_market_207 : decode cX6_market 207 = .ok (.ireturn, 1) := by decide +kernel
theorem dX6_market_208 : decode cX6_market 208 = .ok (.iconst 0, 1) := by decide +kernel
theorem dX6_market_209 : decode cX6_market 209 = .ok (.istore_n 3, 1) := by decide +kernel
theorem dX6_market_210 : decode cX6_market 210 = .ok (.iload_n 3, 1) := by decide +kernel
theorem dX6_market_211 : decode cX6_market 211 = .ok (.iconst 3, 1) := by decide +kernel
theorem dX6_market_212 : decode cX6_market 212 = .ok (.if_icmp .ge 23, 3) := by decide +kernel
theorem dX6_market_215 : decode cX6_market 215 = .ok (.aload_n 0, 1) := by decide +kernel
theorem dX6_market_216 : decode cX6_market 216 = .ok (.getfield 27, 3) := by decide +kernel
theorem dX6_market_219 : decode cX6_market 219 = .ok (.iload_n 3, 1) := by decide +kernel
theorem dX6_market_220 : decode cX6_market 220 = .ok (.aload_n 0, 1) := by decide +kernel
theorem dX6_market_221 : decode cX6_market 221 = .ok (.getfield 27, 3) := by decide +kernel
theorem dX6_market_224 : decode cX6_market 224 = .ok (.iconst 3, 1) := by decide +kernel
theorem dX6_market_225 : decode cX6_market 225 = .ok (.iload_n 3, 1) := by decide +kernel
theorem dX6_market_226 : decode cX6_market 226 = .ok (.iadd, 1) := by decide +kernel
theorem dX6_market_227 : decode cX6_market 227 = .ok (.iaload, 1) := by decide +kernel
theorem dX6_market_228 : decode cX6_market 228 = .ok (.iastore, 1) := by decide +kernel
theorem dX6_market_229 : decode cX6_market 229 = .ok (.iinc 3 1, 3) := by decide +kernel
theorem dX6_market_232 : decode cX6_market 232 = .ok (.goto (-22), 3) := by decide +kernel
theorem dX6_market_235 : decode cX6_market 235 = .ok (.iconst 0, 1) := by decide +kernel
theorem dX6_market_236 : decode cX6_market 236 = .ok (.istore_n 3, 1) := by decide +kernel
theorem dX6_market_237 : decode cX6_market 237 = .ok (.iload_n 3, 1) := by decide +kernel
theorem dX6_market_238 : decode cX6_market 238 = .ok (.bipush 18, 2) := by decide +kernel
theorem dX6_market_240 : decode cX6_market 240 = .ok (.if_icmp .ge 24, 3) := by decide +kernel
theorem dX6_market_243 : decode cX6_market 243 = .ok (.aload_n 0, 1) := by decide +kernel
theorem dX6_market_244 : decode cX6_market 244 = .ok (.getfield 30, 3) := by decide +kernel
theorem dX6_market_247 : decode cX6_market 247 = .ok (.iload_n 3, 1) := by decide +kernel
theorem dX6_market_248 : decode cX6_market 248 = .ok (.aload_n 0, 1) := by decide +kernel
theorem dX6_market_249 : decode cX6_market 249 = .ok (.getfield 30, 3) := by decide +kernel
theorem dX6_market_252 : decode cX6_market 252 = .ok (.bipush 18, 2) := by decide +kernel
theorem dX6_market_254 : decode cX6_market 254 = .ok (.iload_n 3, 1) := by decide +kernel
theorem dX6_market_255 : decode cX6_market 255 = .ok (.iadd, 1) := by decide +kernel
theorem dX6_market_256 : decode cX6_market 256 = .ok (.iaload, 1) := by decide +kernel
theorem dX6_market_257 : decode cX6_market 257 = .ok (.iastore, 1) := by decide +kernel
theorem dX6_market_258 : decode cX6_market 258 = .ok (.iinc 3 1, 3) := by decide +kernel
theorem dX6_market_261 : decode cX6_market 261 = .ok (.goto (-24), 3) := by decide +kernel
theorem dX6_market_264 : decode cX6_market 264 = .ok (.iconst 0, 1) := by decide +kernel
theorem dX6_market_265 : decode cX6_market 265 = .ok (.istore_n 3, 1) := by decide +kernel
theorem dX6_market_266 : decode cX6_market 266 = .ok (.iload_n 3, 1) := by decide +kernel
theorem dX6_market_267 : decode cX6_market 267 = .ok (.bipush 24, 2) := by decide +kernel
theorem dX6_market_269 : decode cX6_market 269 = .ok (.if_icmp .ge 24, 3) := by decide +kernel
theorem dX6_market_272 : decode cX6_market 272 = .ok (.aload_n 0, 1) := by decide +kernel
theorem dX6_market_273 : decode cX6_market 273 = .ok (.getfield 33, 3) := by decide +kernel
theorem dX6_market_276 : decode cX6_market 276 = .ok (.iload_n 3, 1) := by decide +kernel
theorem dX6_market_277 : decode cX6_market 277 = .ok (.aload_n 0, 1) := by decide +kernel
theorem dX6_market_278 : decode cX6_market 278 = .ok (.getfield 33, 3) := by decide +kernel
theorem dX6_market_281 : decode cX6_market 281 = .ok (.bipush 24, 2) := by decide +kernel
theorem dX6_market_283 : decode cX6_market 283 = .ok (.iload_n 3, 1) := by decide +kernel
theorem dX6_market_284 : decode cX6_market 284 = .ok (.iadd, 1) := by decide +kernel
theorem dX6_market_285 : decode cX6_market 285 = .ok (.iaload, 1) := by decide +kernel
theorem dX6_market_286 : decode cX6_market 286 = .ok (.iastore, 1) := by decide +kernel
theorem dX6_market_287 : decode cX6_market 287 = .ok (.iinc 3 1, 3) := by decide +kernel
theorem dX6_market_290 : decode cX6_market 290 = .ok (.goto (-24), 3) := by decide +kernel
theorem dX6_market_293 : decode cX6_market 293 = .ok (.aload_n 0, 1) := by decide +kernel
theorem dX6_market_294 : decode cX6_market 294 = .ok (.aload_n 0, 1) := by decide +kernel
theorem dX6_market_295 : decode cX6_market 295 = .ok (.getfield 133, 3) := by decide +kernel
theorem dX6_market_298 : decode cX6_market 298 = .ok (.putfield 58, 3) := by decide +kernel
theorem dX6_market_301 : decode cX6_market 301 = .ok (.aload_n 0, 1) := by decide +kernel
theorem dX6_market_302 : decode cX6_market 302 = .ok (.aload_n 0, 1) := by decide +kernel
theorem dX6_market_303 : decode cX6_market 303 = .ok (.getfield 136, 3) := by decide +kernel
theorem dX6_market_306 : decode cX6_market 306 = .ok (.putfield 65, 3) := by decide +kernel
theorem dX6_market_309 : decode cX6_market 309 = .ok (.aload_n 0, 1) := by decide +kernel
theorem dX6_market_310 : decode cX6_market 310 = .ok (.getfield 7, 3) := by decide +kernel
theorem dX6_market_313 : decode cX6_market 313 = .ok (.iconst 0, 1) := by decide +kernel
theorem dX6_market_314 : decode cX6_market 314 = .ok (.iconst 0, 1) := by decide +kernel
theorem dX6_market_315 : decode cX6_market 315 = .ok (.iastore, 1) := by decide +kernel
theorem dX6_market_316 : decode cX6_market 316 = .ok (.aload_n 0, 1) := by decide +kernel
theorem dX6_market_317 : decode cX6_market 317 = .ok (.getfield 7, 3) := by decide +kernel
theorem dX6_market_320 : decode cX6_market 320 = .ok (.sipush 181, 3) := by decide +kernel
theorem dX6_market_323 : decode cX6_market 323 = .ok (.iconst 0, 1) := by decide +kernel
theorem dX6_market_324 : decode cX6_market 324 = .ok (.iastore, 1) := by decide +kernel
theorem dX6_market_325 : decode cX6_market 325 = .ok (.aload_n 0, 1) := by decide +kernel
theorem dX6_market_326 : decode cX6_market 326 = .ok (.getfield 7, 3) := by decide +kernel
theorem dX6_market_329 : decode cX6_market 329 = .ok (.sipush 262, 3) := by decide +kernel
theorem dX6_market_332 : decode cX6_market 332 = .ok (.iconst 0, 1) := by decide +kernel
theorem dX6_market_333 : decode cX6_market 333 = .ok (.iastore, 1) := by decide +kernel
theorem dX6_market_334 : decode cX6_market 334 = .ok (.aload_n 0, 1) := by decide +kernel
theorem dX6_market_335 : decode cX6_market 335 = .ok (.getfield 16, 3) := by decide +kernel
theorem dX6_market_338 : decode cX6_market 338 = .ok (.iconst 0, 1) := by decide +kernel
theorem dX6_market_339 : decode cX6_market 339 = .ok (.iconst 0, 1) := by decide +kernel
theorem dX6_market_340 : decode cX6_market 340 = .ok (.bastore, 1) := by decide +kernel
theorem dX6_market_341 : decode cX6_market 341 = .ok (.aload_n 0, 1) := by decide +kernel
theorem dX6_market_342 : decode cX6_market 342 = .ok (.getfield 16, 3) := by decide +kernel
theorem dX6_market_345 : decode cX6_market 345 = .ok (.iconst 1, 1) := by decide +kernel
theorem dX6_market_346 : decode cX6_market 346 = .ok (.iconst 0, 1) := by decide +kernel
theorem dX6_market_347 : decode cX6_market 347 = .ok (.bastore, 1) := by decide +kernel
theorem dX6_market_348 : decode cX6_market 348 = .ok (.iconst 0, 1) := by decide +kernel
theorem dX6_market_349 : decode cX6_market 349 = .ok (.istore_n 3, 1) := by decide +kernel
theorem dX6_market_350 : decode cX6_market 350 = .ok (.iload_n 3, 1) := by decide +kernel
theorem dX6_market_351 : decode cX6_market 351 = .ok (.bipush 6, 2) := by decide +kernel
theorem dX6_market_353 : decode cX6_market 353 = .ok (.if_icmp .ge 16, 3) := by decide +kernel
theorem dX6_market_356 : decode cX6_market 356 = .ok (.aload_n 0, 1) := by decide +kernel
theorem dX6_market_357 : decode cX6_market 357 = .ok (.getfield 36, 3) := by decide +kernel
theorem dX6_market_360 : decode cX6_market 360 = .ok (.iload_n 3, 1) := by decide +kernel
theorem dX6_market_361 : decode cX6_market 361 = .ok (.iconst 1, 1) := by decide +kernel
theorem dX6_market_362 : decode cX6_market 362 = .ok (.iastore, 1) := by decide +kernel
theorem dX6_market_363 : decode cX6_market 363 = .ok (.iinc 3 1, 3) := by decide +kernel
theorem dX6_market_366 : decode cX6_market 366 = .ok (.goto (-16), 3) := by decide +kernel
theorem dX6_market_369 : decode cX6_market 369 = .ok (.aload_n 0, 1) := by decide +kernel
theorem dX6_market_370 : decode cX6_market 370 = .ok (.iconst 0, 1) := by decide +kernel
theorem dX6_market_371 : decode cX6_market 371 = .ok (.putfield 76, 3) := by decide +kernel
theorem dX6_market_374 : decode cX6_market 374 = .ok (.iload_n 1, 1) := by decide +kernel
theorem dX6_market_375 : decode cX6_market 375 = .ok (.ireturn, 1) := by decide +kernel
set_option maxRecDepth 20000 in
theorem ggX6_bagsOf_X6_bag : GoodIn wsX6_bagsOf wsX6_bag := goodIn_r _ [6, 1, 7, 8, 9, 10, 11, 12, 13, 14, 15, 16, 17, 18, 19, 20, 21, 22, 23, 24, 25, 26, 27, 28, 29, 30, 31, 32, 33, 34, 35] (by decide +kernel) (by decide +kernel)
set_option maxRecDepth 20000 in
theorem gX6_bagsOf_X6_bag : GoodIn wsX6_bagsOf (wsV RX6 155 RX6 yX6_bag wsX6_bag) := goodIn_app (goodIn_of _ (by decide +kernel)) ggX6_bagsOf_X6_bag
theorem dX6_bagsOf_0 : decode cX6_bagsOf 0 = .ok (.iconst 0, 1) := by decide +kernel
theorem dX6_bagsOf_1 : decode cX6_bagsOf 1 = .ok (.istore_n 2, 1) := by decide +kernel
theorem dX6_bagsOf_2 : decode cX6_bagsOf 2 = .ok (.iconst 0, 1) := by decide +kernel
theorem dX6_bagsOf_3 : decode cX6_bagsOf 3 = .ok (.istore_n 3, 1) := by decide +kernel
theorem dX6_bagsOf_4 : decode cX6_bagsOf 4 = .ok (.iload_n 3, 1) := by decide +kernel
theorem dX6_bagsOf_5 : decode cX6_bagsOf 5 = .ok (.aload_n 0, 1) := by decide +kernel
theorem dX6_bagsOf_6 : decode cX6_bagsOf 6 = .ok (.getfield 7, 3) := by decide +kernel
theorem dX6_bagsOf_9 : decode cX6_bagsOf 9 = .ok (.iconst 0, 1) := by decide +kernel
theorem dX6_bagsOf_10 : decode cX6_bagsOf 10 = .ok (.iaload, 1) := by decide +kernel
theorem dX6_bagsOf_11 : decode cX6_bagsOf 11 = .ok (.if_icmp .ge 27, 3) := by decide +kernel
theorem dX6_bagsOf_14 : decode cX6_bagsOf 14 = .ok (.iload_n 2, 1) := by decide +kernel
theorem dX6_bagsOf_15 : decode cX6_bagsOf 15 = .ok (.aload_n 0, 1) := by decide +kernel
theorem dX6_bagsOf_16 : decode cX6_bagsOf 16 = .ok (.iload_n 3, 1) := by decide +kernel
theorem dX6_bagsOf_17 : decode cX6_bagsOf 17 = .ok (.iconst 0, 1) := by decide +kernel
theorem dX6_bagsOf_18 : decode cX6_bagsOf 18 = .ok (.invokevirtual 155, 3) := by decide +kernel
theorem dX6_bagsOf_21 : decode cX6_bagsOf 21 = .ok (.iload_n 1, 1) := by decide +kernel
theorem dX6_bagsOf_22 : decode cX6_bagsOf 22 = .ok (.if_icmp .ne 7, 3) := by decide +kernel
theorem dX6_bagsOf_25 : decode cX6_bagsOf 25 = .ok (.iconst 1, 1) := by decide +kernel
theorem dX6_bagsOf_26 : decode cX6_bagsOf 26 = .ok (.goto 4, 3) := by decide +kernel
theorem dX6_bagsOf_29 : decode cX6_bagsOf 29 = .ok (.iconst 0, 1) := by decide +kernel
theorem dX6_bagsOf_30 : decode cX6_bagsOf 30 = .ok (.iadd, 1) := by decide +kernel
theorem dX6_bagsOf_31 : decode cX6_bagsOf 31 = .ok (.istore_n 2, 1) := by decide +kernel
theorem dX6_bagsOf_32 : decode cX6_bagsOf 32 = .ok (.iinc 3 1, 3) := by decide +kernel
theorem dX6_bagsOf_35 : decode cX6_bagsOf 35 = .ok (.goto (-31), 3) := by decide +kernel
theorem dX6_bagsOf_38 : decode cX6_bagsOf 38 = .ok (.iload_n 2, 1) := by decide +kernel
theorem dX6_bagsOf_39 : decode cX6_bagsOf 39 = .ok (.ireturn, 1) := by decide +kernel
theorem dX6_trialsOf_0 : decode cX6_trialsOf 0 = .ok (.iconst 0, 1) := by decide +kernel
theorem dX6_trialsOf_1 : decode cX6_trialsOf 1 = .ok (.istore_n 2, 1) := by decide +kernel
theorem dX6_trialsOf_2 : decode cX6_trialsOf 2 = .ok (.iconst 0, 1) := by decide +kernel
theorem dX6_trialsOf_3 : decode cX6_trialsOf 3 = .ok (.istore_n 3, 1) := by decide +kernel
theorem dX6_trialsOf_4 : decode cX6_trialsOf 4 = .ok (.iload_n 3, 1) := by decide +kernel
theorem dX6_trialsOf_5 : decode cX6_trialsOf 5 = .ok (.aload_n 0, 1) := by decide +kernel
theorem dX6_trialsOf_6 : decode cX6_trialsOf 6 = .ok (.getfield 7, 3) := by decide +kernel
theorem dX6_trialsOf_9 : decode cX6_trialsOf 9 = .ok (.sipush 181, 3) := by decide +kernel
theorem dX6_trialsOf_12 : decode cX6_trialsOf 12 = .ok (.iaload, 1) := by decide +kernel
theorem dX6_trialsOf_13 : decode cX6_trialsOf 13 = .ok (.if_icmp .ge 33, 3) := by decide +kernel
theorem dX6_trialsOf_16 : decode cX6_trialsOf 16 = .ok (.iload_n 2, 1) := by decide +kernel
theorem dX6_trialsOf_17 : decode cX6_trialsOf 17 = .ok (.aload_n 0, 1) := by decide +kernel
theorem dX6_trialsOf_18 : decode cX6_trialsOf 18 = .ok (.getfield 7, 3) := by decide +kernel
theorem dX6_trialsOf_21 : decode cX6_trialsOf 21 = .ok (.sipush 182, 3) := by decide +kernel
theorem dX6_trialsOf_24 : decode cX6_trialsOf 24 = .ok (.iconst 4, 1) := by decide +kernel
theorem dX6_trialsOf_25 : decode cX6_trialsOf 25 = .ok (.iload_n 3, 1) := by decide +kernel
theorem dX6_trialsOf_26 : decode cX6_trialsOf 26 = .ok (.imul, 1) := by decide +kernel
theorem dX6_trialsOf_27 : decode cX6_trialsOf 27 = .ok (.iadd, 1) := by decide +kernel
theorem dX6_trialsOf_28 : decode cX6_trialsOf 28 = .ok (.iaload, 1) := by decide +kernel
theorem dX6_trialsOf_29 : decode cX6_trialsOf 29 = .ok (.iload_n 1, 1) := by decide +kernel
theorem dX6_trialsOf_30 : decode cX6_trialsOf 30 = .ok (.if_icmp .ne 7, 3) := by decide +kernel
theorem dX6_trialsOf_33 : decode cX6_trialsOf 33 = .ok (.iconst 1, 1) := by decide +kernel
theorem dX6_trialsOf_34 : decode cX6_trialsOf 34 = .ok (.goto 4, 3) := by decide +kernel
theorem dX6_trialsOf_37 : decode cX6_trialsOf 37 = .ok (.iconst 0, 1) := by decide +kernel
theorem dX6_trialsOf_38 : decode cX6_trialsOf 38 = .ok (.iadd, 1) := by decide +kernel
theorem dX6_trialsOf_39 : decode cX6_trialsOf 39 = .ok (.istore_n 2, 1) := by decide +kernel
theorem dX6_trialsOf_40 : decode cX6_trialsOf 40 = .ok (.iinc 3 1, 3) := by decide +kernel
theorem dX6_trialsOf_43 : decode cX6_trialsOf 43 = .ok (.goto (-39), 3) := by decide +kernel
theorem dX6_trialsOf_46 : decode cX6_trialsOf 46 = .ok (.iload_n 2, 1) := by decide +kernel
theorem dX6_trialsOf_47 : decode cX6_trialsOf 47 = .ok (.ireturn, 1) := by decide +kernel
set_option maxRecDepth 20000 in
theorem ggX6_stall_X6_isStall : GoodIn wsX6_stall wsX6_isStall := goodIn_r _ [7, 8, 9, 10, 6, 11, 25, 26, 27, 28, 29, 30, 31, 32, 33, 34, 35, 36, 37, 38, 39, 40, 41, 42, 43, 44, 45, 46, 47, 48, 49, 50, 51, 52, 53] (by decide +kernel) (by decide +kernel)
set_option maxRecDepth 20000 in
theorem gX6_stall_X6_isStall : GoodIn wsX6_stall (wsV RX6 158 RX6 yX6_isStall wsX6_isStall) := goodIn_app (goodIn_of _ (by decide +kernel)) ggX6_stall_X6_isStall
set_option maxRecDepth 20000 in
theorem ggX6_stall_X6_in : GoodIn wsX6_stall wsX6_in := goodIn_r _ [11] (by decide +kernel) (by decide +kernel)
set_option maxRecDepth 20000 in
theorem gX6_stall_X6_in : GoodIn wsX6_stall (va_wsS RX6 61 yX6_in wsX6_in) := goodIn_app (goodIn_of _ (by decide +kernel)) ggX6_stall_X6_in
set_option maxRecDepth 20000 in
theorem ggX6_stall_X6_bagsOf : GoodIn wsX6_stall wsX6_bagsOf := goodIn_r _ [15, 16, 17, 18, 19, 6, 20, 25, 26, 27, 28, 29, 30, 31, 32, 33, 34, 35, 36, 37, 38, 39, 40, 41, 42, 43, 44, 45, 46, 47, 48, 49, 50, 51, 52, 53] (by decide +kernel) (by decide +kernel)
set_option maxRecDepth 20000 in
theorem gX6_stall_X6_bagsOf : GoodIn wsX6_stall (wsV RX6 161 RX6 yX6_bagsOf wsX6_bagsOf) := goodIn_app (goodIn_of _ (by decide +kernel)) ggX6_stall_X6_bagsOf
set_option maxRecDepth 20000 in
theorem ggX6_stall_X6_trialsOf : GoodIn wsX6_stall wsX6_trialsOf := goodIn_r _ [24, 16, 25, 26, 27, 28, 29, 30, 31, 32, 33, 34, 35, 36, 37, 38, 39, 40, 41, 42, 43, 44, 45, 46, 47, 48, 49, 50, 51, 52, 53] (by decide +kernel) (by decide +kernel)
set_option maxRecDepth 20000 in
theorem gX6_stall_X6_trialsOf : GoodIn wsX6_stall (wsV RX6 164 RX6 yX6_trialsOf wsX6_trialsOf) := goodIn_app (goodIn_of _ (by decide +kernel)) ggX6_stall_X6_trialsOf
theorem dX6_stall_0 : decode cX6_stall 0 = .ok (.aload_n 0, 1) := by decide +kernel
theorem dX6_stall_1 : decode cX6_stall 1 = .ok (.iconst 0, 1) := by decide +kernel
theorem dX6_stall_2 : decode cX6_stall 2 = .ok (.putfield 54, 3) := by decide +kernel
theorem dX6_stall_5 : decode cX6_stall 5 = .ok (.aload_n 0, 1) := by decide +kernel
theorem dX6_stall_6 : decode cX6_stall 6 = .ok (.iload_n 1, 1) := by decide +kernel
theorem dX6_stall_7 : decode cX6_stall 7 = .ok (.invokevirtual 158, 3) := by decide +kernel
theorem dX6_stall_10 : decode cX6_stall 10 = .ok (.ifCond .eq 12, 3) := by decide +kernel
theorem dX6_stall_13 : decode cX6_stall 13 = .ok (.iload_n 2, 1) := by decide +kernel
theorem dX6_stall_14 : decode cX6_stall 14 = .ok (.iconst 0, 1) := by decide +kernel
theorem dX6_stall_15 : decode cX6_stall 15 = .ok (.iconst 4, 1) := by decide +kernel
theorem dX6_stall_16 : decode cX6_stall 16 = .ok (.invokestatic 61, 3) := by decide +kernel
theorem dX6_stall_19 : decode cX6_stall 19 = .ok (.ifCond .ne 7, 3) := by decide +kernel
theorem dX6_stall_22 : decode cX6_stall 22 = .ok (.iconst (-1), 1) := by decide +kernel
theorem dX6_stall_23 : decode cX6_stall 23 = .ok (.goto 39, 3) := by decide +kernel
theorem dX6_stall_26 : decode cX6_stall 26 = .ok (.iload_n 2, 1) := by decide +kernel
theorem dX6_stall_27 : decode cX6_stall 27 = .ok (.iconst 3, 1) := by decide +kernel
theorem dX6_stall_28 : decode cX6_stall 28 = .ok (.if_icmp .ge 16, 3) := by decide +kernel
theorem dX6_stall_31 : decode cX6_stall 31 = .ok (.aload_n 0, 1) := by decide +kernel
theorem dX6_stall_32 : decode cX6_stall 32 = .ok (.getfield 30, 3) := by decide +kernel
theorem dX6_stall_35 : decode cX6_stall 35 = .ok (.iconst 3, 1) := by decide +kernel
theorem dX6_stall_36 : decode cX6_stall 36 = .ok (.iload_n 1, 1) := by decide +kernel
theorem dX6_stall_37 : decode cX6_stall 37 = .ok (.imul, 1) := by decide +kernel
theorem dX6_stall_38 : decode cX6_stall 38 = .ok (.iload_n 2, 1) := by decide +kernel
theorem dX6_stall_39 : decode cX6_stall 39 = .ok (.iadd, 1) := by decide +kernel
theorem dX6_stall_40 : decode cX6_stall 40 = .ok (.iaload, 1) := by decide +kernel
theorem dX6_stall_41 : decode cX6_stall 41 = .ok (.goto 21, 3) := by decide +kernel
theorem dX6_stall_44 : decode cX6_stall 44 = .ok (.iload_n 2, 1) := by decide +kernel
theorem dX6_stall_45 : decode cX6_stall 45 = .ok (.iconst 3, 1) := by decide +kernel
theorem dX6_stall_46 : decode cX6_stall 46 = .ok (.if_icmp .ne 11, 3) := by decide +kernel
theorem dX6_stall_49 : decode cX6_stall 49 = .ok (.aload_n 0, 1) := by decide +kernel
theorem dX6_stall_50 : decode cX6_stall 50 = .ok (.iload_n 1, 1) := by decide +kernel
theorem dX6_stall_51 : decode cX6_stall 51 = .ok (.invokevirtual 161, 3) := by decide +kernel
theorem dX6_stall_54 : decode cX6_stall 54 = .ok (.goto 8, 3) := by decide +kernel
theorem dX6_stall_57 : decode cX6_stall 57 = .ok (.aload_n 0, 1) := by decide +kernel
theorem dX6_stall_58 : decode cX6_stall 58 = .ok (.iload_n 1, 1) := by decide +kernel
theorem dX6_stall_59 : decode cX6_stall 59 = .ok (.invokevirtual 164, 3) := by decide +kernel
theorem dX6_stall_62 : decode cX6_stall 62 = .ok (.ireturn, 1) := by decide +kernel
set_option maxRecDepth 20000 in
theorem ggX6_way_X6_isWay : GoodIn wsX6_way wsX6_isWay := goodIn_r _ [7, 8, 9, 10, 6, 11, 12, 13, 14, 15, 16, 17, 18, 19, 20, 21, 22, 23, 24, 25, 26, 27, 28, 29, 30, 31, 32, 33, 34, 35, 36, 37, 38, 39, 40] (by decide +kernel) (by decide +kernel)
set_option maxRecDepth 20000 in
theorem gX6_way_X6_isWay : GoodIn wsX6_way (wsV RX6 167 RX6 yX6_isWay wsX6_isWay) := goodIn_app (goodIn_of _ (by decide +kernel)) ggX6_way_X6_isWay
set_option maxRecDepth 20000 in
theorem ggX6_way_X6_in : GoodIn wsX6_way wsX6_in := goodIn_r _ [11] (by decide +kernel) (by decide +kernel)
set_option maxRecDepth 20000 in
theorem gX6_way_X6_in : GoodIn wsX6_way (va_wsS RX6 61 yX6_in wsX6_in) := goodIn_app (goodIn_of _ (by decide +kernel)) ggX6_way_X6_in
theorem dX6_way_0 : decode cX6_way 0 = .ok (.aload_n 0, 1) := by decide +kernel
theorem dX6_way_1 : decode cX6_way 1 = .ok (.iconst 0, 1) := by decide +kernel
theorem dX6_way_2 : decode cX6_way 2 = .ok (.putfield 54, 3) := by decide +kernel
theorem dX6_way_5 : decode cX6_way 5 = .ok (.aload_n 0, 1) := by decide +kernel
theorem dX6_way_6 : decode cX6_way 6 = .ok (.iload_n 1, 1) := by decide +kernel
theorem dX6_way_7 : decode cX6_way 7 = .ok (.invokevirtual 167, 3) := by decide +kernel
theorem dX6_way_10 : decode cX6_way 10 = .ok (.ifCond .eq 25, 3) := by decide +kernel
theorem dX6_way_13 : decode cX6_way 13 = .ok (.iload_n 2, 1) := by decide +kernel
theorem dX6_way_14 : decode cX6_way 14 = .ok (.iconst 0, 1) := by decide +kernel
theorem dX6_way_15 : decode cX6_way 15 = .ok (.iconst 3, 1) := by decide +kernel
theorem dX6_way_16 : decode cX6_way 16 = .ok (.invokestatic 61, 3) := by decide +kernel
theorem dX6_way_19 : decode cX6_way 19 = .ok (.ifCond .eq 16, 3) := by decide +kernel
theorem dX6_way_22 : decode cX6_way 22 = .ok (.aload_n 0, 1) := by decide +kernel
theorem dX6_way_23 : decode cX6_way 23 = .ok (.getfield 33, 3) := by decide +kernel
theorem dX6_way_26 : decode cX6_way 26 = .ok (.iconst 4, 1) := by decide +kernel
theorem dX6_way_27 : decode cX6_way 27 = .ok (.iload_n 1, 1) := by decide +kernel
theorem dX6_way_28 : decode cX6_way 28 = .ok (.imul, 1) := by decide +kernel
theorem dX6_way_29 : decode cX6_way 29 = .ok (.iload_n 2, 1) := by decide +kernel
theorem dX6_way_30 : decode cX6_way 30 = .ok (.iadd, 1) := by decide +kernel
theorem dX6_way_31 : decode cX6_way 31 = .ok (.iaload, 1) := by decide +kernel
theorem dX6_way_32 : decode cX6_way 32 = .ok (.goto 4, 3) := by decide +kernel
theorem dX6_way_35 : decode cX6_way 35 = .ok (.iconst (-1), 1) := by decide +kernel
theorem dX6_way_36 : decode cX6_way 36 = .ok (.ireturn, 1) := by decide +kernel
set_option maxRecDepth 20000 in
theorem ggX6_honest_X6_in : GoodIn wsX6_honest wsX6_in := goodIn_r _ [5] (by decide +kernel) (by decide +kernel)
set_option maxRecDepth 20000 in
theorem gX6_honest_X6_in : GoodIn wsX6_honest (va_wsS RX6 61 yX6_in wsX6_in) := goodIn_app (goodIn_of _ (by decide +kernel)) ggX6_honest_X6_in
theorem dX6_honest_0 : decode cX6_honest 0 = .ok (.iload_n 1, 1) := by decide +kernel
theorem dX6_honest_1 : decode cX6_honest 1 = .ok (.iconst (-1), 1) := by decide +kernel
theorem dX6_honest_2 : decode cX6_honest 2 = .ok (.iconst 1, 1) := by decide +kernel
theorem dX6_honest_3 : decode cX6_honest 3 = .ok (.invokestatic 61, 3) := by decide +kernel
theorem dX6_honest_6 : decode cX6_honest 6 = .ok (.ifCond .eq 17, 3) := by decide +kernel
theorem dX6_honest_9 : decode cX6_honest 9 = .ok (.bipush 60, 2) := by decide +kernel
theorem dX6_honest_11 : decode cX6_honest 11 = .ok (.aload_n 0, 1) := by decide +kernel
theorem dX6_honest_12 : decode cX6_honest 12 = .ok (.getfield 27, 3) := by decide +kernel
theorem dX6_honest_15 : decode cX6_honest 15 = .ok (.iload_n 1, 1) := by decide +kernel
theorem dX6_honest_16 : decode cX6_honest 16 = .ok (.iconst 1, 1) := by decide +kernel
theorem dX6_honest_17 : decode cX6_honest 17 = .ok (.iadd, 1) := by decide +kernel
theorem dX6_honest_18 : decode cX6_honest 18 = .ok (.iaload, 1) := by decide +kernel
theorem dX6_honest_19 : decode cX6_honest 19 = .ok (.imul, 1) := by decide +kernel
theorem dX6_honest_20 : decode cX6_honest 20 = .ok (.goto 4, 3) := by decide +kernel
theorem dX6_honest_23 : decode cX6_honest 23 = .ok (.iconst 0, 1) := by decide +kernel
theorem dX6_honest_24 : decode cX6_honest 24 = .ok (.ireturn, 1) := by decide +kernel
set_option maxRecDepth 20000 in
theorem ggX6_oftenOf_X6_in : GoodIn wsX6_oftenOf wsX6_in := goodIn_r _ [6] (by decide +kernel) (by decide +kernel)
set_option maxRecDepth 20000 in
theorem gX6_oftenOf_X6_in : GoodIn wsX6_oftenOf (va_wsS RX6 61 yX6_in wsX6_in) := goodIn_app (goodIn_of _ (by decide +kernel)) ggX6_oftenOf_X6_in
set_option maxRecDepth 20000 in
theorem ggX6_oftenOf_X6_honest : GoodIn wsX6_oftenOf wsX6_honest := goodIn_r _ [10, 11, 3, 4, 5, 6, 12, 13, 14, 15, 16, 17, 18, 19, 20, 21, 22, 23, 24, 25, 26, 27, 28, 29, 30, 31, 32, 33, 34, 35, 36, 37, 38, 39, 40] (by decide +kernel) (by decide +kernel)
set_option maxRecDepth 20000 in
theorem gX6_oftenOf_X6_honest : GoodIn wsX6_oftenOf (wsV RX6 170 RX6 yX6_honest wsX6_honest) := goodIn_app (goodIn_of _ (by decide +kernel)) ggX6_oftenOf_X6_honest
theorem dX6_oftenOf_0 : decode cX6_oftenOf 0 = .ok (.iload 4, 2) := by decide +kernel
theorem dX6_oftenOf_2 : decode cX6_oftenOf 2 = .ok (.iconst (-1), 1) := by decide +kernel
theorem dX6_oftenOf_3 : decode cX6_oftenOf 3 = .ok (.bipush 100, 2) := by decide +kernel
theorem dX6_oftenOf_5 : decode cX6_oftenOf 5 = .ok (.invokestatic 61, 3) := by decide +kernel
theorem dX6_oftenOf_8 : decode cX6_oftenOf 8 = .ok (.ifCond .ne 5, 3) := by decide +kernel
theorem dX6_oftenOf_11 : decode cX6_oftenOf 11 = .ok (.iconst 0, 1) := by decide +kernel
theorem dX6_oftenOf_12 : decode cX6_oftenOf 12 = .ok (.ireturn, 1) := by decide +kernel
theorem dX6_oftenOf_13 : decode cX6_oftenOf 13 = .ok (.aload_n 0, 1) := by decide +kernel
theorem dX6_oftenOf_14 : decode cX6_oftenOf 14 = .ok (.getfield 33, 3) := by decide +kernel
theorem dX6_oftenOf_17 : decode cX6_oftenOf 17 = .ok (.iconst 4, 1) := by decide +kernel
theorem dX6_oftenOf_18 : decode cX6_oftenOf 18 = .ok (.iload_n 1, 1) := by decide +kernel
theorem dX6_oftenOf_19 : decode cX6_oftenOf 19 = .ok (.imul, 1) := by decide +kernel
theorem dX6_oftenOf_20 : decode cX6_oftenOf 20 = .ok (.iaload, 1) := by decide +kernel
theorem dX6_oftenOf_21 : decode cX6_oftenOf 21 = .ok (.istore 5, 2) := by decide +kernel
theorem dX6_oftenOf_23 : decode cX6_oftenOf 23 = .ok (.aload_n 0, 1) := by decide +kernel
theorem dX6_oftenOf_24 : decode cX6_oftenOf 24 = .ok (.getfield 33, 3) := by decide +kernel
theorem dX6_oftenOf_27 : decode cX6_oftenOf 27 = .ok (.iconst 4, 1) := by decide +kernel
theorem dX6_oftenOf_28 : decode cX6_oftenOf 28 = .ok (.iload_n 1, 1) := by decide +kernel
theorem dX6_oftenOf_29 : decode cX6_oftenOf 29 = .ok (.imul, 1) := by decide +kernel
theorem dX6_oftenOf_30 : decode cX6_oftenOf 30 = .ok (.iconst 1, 1) := by decide +kernel
theorem dX6_oftenOf_31 : decode cX6_oftenOf 31 = .ok (.iadd, 1) := by decide +kernel
theorem dX6_oftenOf_32 : decode cX6_oftenOf 32 = .ok (.iaload, 1) := by decide +kernel
theorem dX6_oftenOf_33 : decode cX6_oftenOf 33 = .ok (.aload_n 0, 1) := by decide +kernel
theorem dX6_oftenOf_34 : decode cX6_oftenOf 34 = .ok (.getfield 30, 3) := by decide +kernel
theorem dX6_oftenOf_37 : decode cX6_oftenOf 37 = .ok (.iconst 3, 1) := by decide +kernel
theorem dX6_oftenOf_38 : decode cX6_oftenOf 38 = .ok (.iload_n 2, 1) := by decide +kernel
theorem dX6_oftenOf_39 : decode cX6_oftenOf 39 = .ok (.imul, 1) := by decide +kernel
theorem dX6_oftenOf_40 : decode cX6_oftenOf 40 = .ok (.iaload, 1) := by decide +kernel
theorem dX6_oftenOf_41 : decode cX6_oftenOf 41 = .ok (.iadd, 1) := by decide +kernel
theorem dX6_oftenOf_42 : decode cX6_oftenOf 42 = .ok (.iconst 1, 1) := by decide +kernel
theorem dX6_oftenOf_43 : decode cX6_oftenOf 43 = .ok (.isub, 1) := by decide +kernel
theorem dX6_oftenOf_44 : decode cX6_oftenOf 44 = .ok (.aload_n 0, 1) := by decide +kernel
theorem dX6_oftenOf_45 : decode cX6_oftenOf 45 = .ok (.getfield 30, 3) := by decide +kernel
theorem dX6_oftenOf_48 : decode cX6_oftenOf 48 = .ok (.iconst 3, 1) := by decide +kernel
theorem dX6_oftenOf_49 : decode cX6_oftenOf 49 = .ok (.iload_n 2, 1) := by decide +kernel
theorem dX6_oftenOf_50 : decode cX6_oftenOf 50 = .ok (.imul, 1) := by decide +kernel
theorem dX6_oftenOf_51 : decode cX6_oftenOf 51 = .ok (.iaload, 1) := by decide +kernel
theorem dX6_oftenOf_52 : decode cX6_oftenOf 52 = .ok (.idiv, 1) := by decide +kernel
theorem dX6_oftenOf_53 : decode cX6_oftenOf 53 = .ok (.istore 6, 2) := by decide +kernel
theorem dX6_oftenOf_55 : decode cX6_oftenOf 55 = .ok (.aload_n 0, 1) := by decide +kernel
theorem dX6_oftenOf_56 : decode cX6_oftenOf 56 = .ok (.getfield 33, 3) := by decide +kernel
theorem dX6_oftenOf_59 : decode cX6_oftenOf 59 = .ok (.iconst 4, 1) := by decide +kernel
theorem dX6_oftenOf_60 : decode cX6_oftenOf 60 = .ok (.iload_n 1, 1) := by decide +kernel
theorem dX6_oftenOf_61 : decode cX6_oftenOf 61 = .ok (.imul, 1) := by decide +kernel
theorem dX6_oftenOf_62 : decode cX6_oftenOf 62 = .ok (.iconst 2, 1) := by decide +kernel
theorem dX6_oftenOf_63 : decode cX6_oftenOf 63 = .ok (.iadd, 1) := by decide +kernel
theorem dX6_oftenOf_64 : decode cX6_oftenOf 64 = .ok (.iaload, 1) := by decide +kernel
theorem dX6_oftenOf_65 : decode cX6_oftenOf 65 = .ok (.istore 7, 2) := by decide +kernel
theorem dX6_oftenOf_67 : decode cX6_oftenOf 67 = .ok (.aload_n 0, 1) := by decide +kernel
theorem dX6_oftenOf_68 : decode cX6_oftenOf 68 = .ok (.getfield 33, 3) := by decide +kernel
theorem dX6_oftenOf_71 : decode cX6_oftenOf 71 = .ok (.iconst 4, 1) := by decide +kernel
theorem dX6_oftenOf_72 : decode cX6_oftenOf 72 = .ok (.iload_n 1, 1) := by decide +kernel
theorem dX6_oftenOf_73 : decode cX6_oftenOf 73 = .ok (.imul, 1) := by decide +kernel
theorem dX6_oftenOf_74 : decode cX6_oftenOf 74 = .ok (.iconst 3, 1) := by decide +kernel
theorem dX6_oftenOf_75 : decode cX6_oftenOf 75 = .ok (.iadd, 1) := by decide +kernel
theorem dX6_oftenOf_76 : decode cX6_oftenOf 76 = .ok (.iaload, 1) := by decide +kernel
theorem dX6_oftenOf_77 : decode cX6_oftenOf 77 = .ok (.iload_n 3, 1) := by decide +kernel
theorem dX6_oftenOf_78 : decode cX6_oftenOf 78 = .ok (.ishr, 1) := by decide +kernel
theorem dX6_oftenOf_79 : decode cX6_oftenOf 79 = .ok (.iconst 1, 1) := by decide +kernel
theorem dX6_oftenOf_80 : decode cX6_oftenOf 80 = .ok (.iand, 1) := by decide +kernel
theorem dX6_oftenOf_81 : decode cX6_oftenOf 81 = .ok (.iconst 1, 1) := by decide +kernel
theorem dX6_oftenOf_82 : decode cX6_oftenOf 82 = .ok (.if_icmp .ne 7, 3) := by decide +kernel
theorem dX6_oftenOf_85 : decode cX6_oftenOf 85 = .ok (.iconst 1, 1) := by decide +kernel
theorem dX6_oftenOf_86 : decode cX6_oftenOf 86 = .ok (.goto 4, 3) := by decide +kernel
theorem dX6_oftenOf_89 : decode cX6_oftenOf 89 = .ok (.iconst 0, 1) := by decide +kernel
theorem dX6_oftenOf_90 : decode cX6_oftenOf 90 = .ok (.istore 8, 2) := by decide +kernel
theorem dX6_oftenOf_92 : decode cX6_oftenOf 92 = .ok (.iload 5, 2) := by decide +kernel
theorem dX6_oftenOf_94 : decode cX6_oftenOf 94 = .ok (.iconst 3, 1) := by decide +kernel
theorem dX6_oftenOf_95 : decode cX6_oftenOf 95 = .ok (.if_icmp .ne 38, 3) := by decide +kernel
theorem dX6_oftenOf_98 : decode cX6_oftenOf 98 = .ok (.iload 4, 2) := by decide +kernel
theorem dX6_oftenOf_100 : decode cX6_oftenOf 100 = .ok (.ifCond .ne 17, 3) := by decide +kernel
theorem dX6_oftenOf_103 : decode cX6_oftenOf 103 = .ok (.aload_n 0, 1) := by decide +kernel
theorem dX6_oftenOf_104 : decode cX6_oftenOf 104 = .ok (.iconst (-1), 1) := by decide +kernel
theorem dX6_oftenOf_105 : decode cX6_oftenOf 105 = .ok (.invokevirtual 170, 3) := by decide +kernel
theorem dX6_oftenOf_108 : decode cX6_oftenOf 108 = .ok (.aload_n 0, 1) := by decide +kernel
theorem dX6_oftenOf_109 : decode cX6_oftenOf 109 = .ok (.iconst 0, 1) := by decide +kernel
theorem dX6_oftenOf_110 : decode cX6_oftenOf 110 = .ok (.invokevirtual 170, 3) := by decide +kernel
theorem dX6_oftenOf_113 : decode cX6_oftenOf 113 = .ok (.iadd, 1) := by decide +kernel
theorem dX6_oftenOf_114 : decode cX6_oftenOf 114 = .ok (.goto 18, 3) := by decide +kernel
theorem dX6_oftenOf_117 : decode cX6_oftenOf 117 = .ok (.iload 4, 2) := by decide +kernel
theorem dX6_oftenOf_119 : decode cX6_oftenOf 119 = .ok (.iconst 1, 1) := by decide +kernel
theorem dX6_oftenOf_120 : decode cX6_oftenOf 120 = .ok (.if_icmp .ne 11, 3) := by decide +kernel
theorem dX6_oftenOf_123 : decode cX6_oftenOf 123 = .ok (.aload_n 0, 1) := by decide +kernel
theorem dX6_oftenOf_124 : decode cX6_oftenOf 124 = .ok (.iconst 1, 1) := by decide +kernel
theorem dX6_oftenOf_125 : decode cX6_oftenOf 125 = .ok (.invokevirtual 170, 3) := by decide +kernel
theorem dX6_oftenOf_128 : decode cX6_oftenOf 128 = .ok (.goto 4, 3) := by decide +kernel
theorem dX6_oftenOf_131 : decode cX6_oftenOf 131 = .ok (.iconst 0, 1) := by decide +kernel
theorem dX6_oftenOf_132 : decode cX6_oftenOf 132 = .ok (.ireturn, 1) := by decide +kernel
theorem dX6_oftenOf_133 : decode cX6_oftenOf 133 = .ok (.iload 5, 2) := by decide +kernel
theorem dX6_oftenOf_135 : decode cX6_oftenOf 135 = .ok (.ifCond .eq 14, 3) := by decide +kernel
theorem dX6_oftenOf_138 : decode cX6_oftenOf 138 = .ok (.iload 5, 2) := by decide +kernel
theorem dX6_oftenOf_140 : decode cX6_oftenOf 140 = .ok (.iconst 2, 1) := by decide +kernel
theorem dX6_oftenOf_141 : decode cX6_oftenOf 141 = .ok (.if_icmp .ne 17, 3) := by decide +kernel
theorem dX6_oftenOf_144 : decode cX6_oftenOf 144 = .ok (.iload 8, 2) := by decide +kernel
theorem dX6_oftenOf_146 : decode cX6_oftenOf 146 = .ok (.ifCond .ne 12, 3) := by decide +kernel
theorem dX6_oftenOf_149 : decode cX6_oftenOf 149 = .ok (.aload_n 0, 1) := by decide +kernel
theorem dX6_oftenOf_150 : decode cX6_oftenOf 150 = .ok (.iload 4, 2) := by decide +kernel
theorem dX6_oftenOf_152 : decode cX6_oftenOf 152 = .ok (.invokevirtual 170, 3) := by decide +kernel
theorem dX6_oftenOf_155 : decode cX6_oftenOf 155 = .ok (.goto 48, 3) := by decide +kernel
theorem dX6_oftenOf_158 : decode cX6_oftenOf 158 = .ok (.iload 5, 2) := by decide +kernel
theorem dX6_oftenOf_160 : decode cX6_oftenOf 160 = .ok (.iconst 1, 1) := by decide +kernel
theorem dX6_oftenOf_161 : decode cX6_oftenOf 161 = .ok (.if_icmp .ne 15, 3) := by decide +kernel
theorem dX6_oftenOf_164 : decode cX6_oftenOf 164 = .ok (.aload_n 0, 1) := by decide +kernel
theorem dX6_oftenOf_165 : decode cX6_oftenOf 165 = .ok (.iload 4, 2) := by decide +kernel
theorem dX6_oftenOf_167 : decode cX6_oftenOf 167 = .ok (.iload 6, 2) := by decide +kernel
theorem dX6_oftenOf_169 : decode cX6_oftenOf 169 = .ok (.isub, 1) := by decide +kernel
theorem dX6_oftenOf_170 : decode cX6_oftenOf 170 = .ok (.invokevirtual 170, 3) := by decide +kernel
theorem dX6_oftenOf_173 : decode cX6_oftenOf 173 = .ok (.goto 30, 3) := by decide +kernel
theorem dX6_oftenOf_176 : decode cX6_oftenOf 176 = .ok (.aload_n 0, 1) := by decide +kernel
theorem dX6_oftenOf_177 : decode cX6_oftenOf 177 = .ok (.iload 4, 2) := by decide +kernel
theorem dX6_oftenOf_179 : decode cX6_oftenOf 179 = .ok (.iload 6, 2) := by decide +kernel
theorem dX6_oftenOf_181 : decode cX6_oftenOf 181 = .ok (.isub, 1) := by decide +kernel
theorem dX6_oftenOf_182 : decode cX6_oftenOf 182 = .ok (.invokevirtual 170, 3) := by decide +kernel
theorem dX6_oftenOf_185 : decode cX6_oftenOf 185 = .ok (.iload 7, 2) := by decide +kernel
theorem dX6_oftenOf_187 : decode cX6_oftenOf 187 = .ok (.idiv, 1) := by decide +kernel
theorem dX6_oftenOf_188 : decode cX6_oftenOf 188 = .ok (.aload_n 0, 1) := by decide +kernel
theorem dX6_oftenOf_189 : decode cX6_oftenOf 189 = .ok (.iload 4, 2) := by decide +kernel
theorem dX6_oftenOf_191 : decode cX6_oftenOf 191 = .ok (.invokevirtual 170, 3) := by decide +kernel
theorem dX6_oftenOf_194 : decode cX6_oftenOf 194 = .ok (.iload 7, 2) := by decide +kernel
theorem dX6_oftenOf_196 : decode cX6_oftenOf 196 = .ok (.idiv, 1) := by decide +kernel
theorem dX6_oftenOf_197 : decode cX6_oftenOf 197 = .ok (.iload 7, 2) := by decide +kernel
theorem dX6_oftenOf_199 : decode cX6_oftenOf 199 = .ok (.iconst 1, 1) := by decide +kernel
theorem dX6_oftenOf_200 : decode cX6_oftenOf 200 = .ok (.isub, 1) := by decide +kernel
theorem dX6_oftenOf_201 : decode cX6_oftenOf 201 = .ok (.imul, 1) := by decide +kernel
theorem dX6_oftenOf_202 : decode cX6_oftenOf 202 = .ok (.iadd, 1) := by decide +kernel
theorem dX6_oftenOf_203 : decode cX6_oftenOf 203 = .ok (.ireturn, 1) := by decide +kernel
set_option maxRecDepth 20000 in
theorem ggX6_often_X6_isWay : GoodIn wsX6_often wsX6_isWay := goodIn_r _ [6, 7, 8, 9, 5, 10, 30, 31, 32, 33, 34, 35, 36, 37, 38, 39, 40, 41, 42, 43, 44, 45, 46, 47, 48, 49, 50, 51, 52, 53, 54, 55, 56, 57, 58] (by decide +kernel) (by decide +kernel)
set_option maxRecDepth 20000 in
theorem gX6_often_X6_isWay : GoodIn wsX6_often (wsV RX6 167 RX6 yX6_isWay wsX6_isWay) := goodIn_app (goodIn_of _ (by decide +kernel)) ggX6_often_X6_isWay
set_option maxRecDepth 20000 in
theorem ggX6_often_X6_isStall : GoodIn wsX6_often wsX6_isStall := goodIn_r _ [14, 15, 8, 9, 5, 10, 30, 31, 32, 33, 34, 35, 36, 37, 38, 39, 40, 41, 42, 43, 44, 45, 46, 47, 48, 49, 50, 51, 52, 53, 54, 55, 56, 57, 58] (by decide +kernel) (by decide +kernel)
set_option maxRecDepth 20000 in
theorem gX6_often_X6_isStall : GoodIn wsX6_often (wsV RX6 158 RX6 yX6_isStall wsX6_isStall) := goodIn_app (goodIn_of _ (by decide +kernel)) ggX6_often_X6_isStall
set_option maxRecDepth 20000 in
theorem ggX6_often_X6_isSort : GoodIn wsX6_often wsX6_isSort := goodIn_r _ [18, 8, 9, 5, 10] (by decide +kernel) (by decide +kernel)
set_option maxRecDepth 20000 in
theorem gX6_often_X6_isSort : GoodIn wsX6_often (va_wsS RX6 173 yX6_isSort wsX6_isSort) := goodIn_app (goodIn_of _ (by decide +kernel)) ggX6_often_X6_isSort
set_option maxRecDepth 20000 in
theorem ggX6_often_X6_oftenOf : GoodIn wsX6_often wsX6_oftenOf := goodIn_r _ [22, 23, 24, 8, 9, 5, 10, 25, 26, 27, 28, 29, 30, 31, 32, 33, 34, 35, 36, 37, 38, 39, 40, 41, 42, 43, 44, 45, 46, 47, 48, 49, 50, 51, 52, 53, 54, 55, 56, 57, 58] (by decide +kernel) (by decide +kernel)
set_option maxRecDepth 20000 in
theorem gX6_often_X6_oftenOf : GoodIn wsX6_often (wsV RX6 176 RX6 yX6_oftenOf wsX6_oftenOf) := goodIn_app (goodIn_of _ (by decide +kernel)) ggX6_often_X6_oftenOf
theorem dX6_often_0 : decode cX6_often 0 = .ok (.aload_n 0, 1) := by decide +kernel
theorem dX6_often_1 : decode cX6_often 1 = .ok (.iconst 0, 1) := by decide +kernel
theorem dX6_often_2 : decode cX6_often 2 = .ok (.putfield 54, 3) := by decide +kernel
theorem dX6_often_5 : decode cX6_often 5 = .ok (.aload_n 0, 1) := by decide +kernel
theorem dX6_often_6 : decode cX6_often 6 = .ok (.iload_n 1, 1) := by decide +kernel
theorem dX6_often_7 : decode cX6_often 7 = .ok (.invokevirtual 167, 3) := by decide +kernel
theorem dX6_often_10 : decode cX6_often 10 = .ok (.ifCond .eq 30, 3) := by decide +kernel
theorem dX6_often_13 : decode cX6_often 13 = .ok (.aload_n 0, 1) := by decide +kernel
theorem dX6_often_14 : decode cX6_often 14 = .ok (.iload_n 2, 1) := by decide +kernel
theorem dX6_often_15 : decode cX6_often 15 = .ok (.invokevirtual 158, 3) := by decide +kernel
theorem dX6_often_18 : decode cX6_often 18 = .ok (.ifCond .eq 22, 3) := by decide +kernel
theorem dX6_often_21 : decode cX6_often 21 = .ok (.iload_n 3, 1) := by decide +kernel
theorem dX6_often_22 : decode cX6_often 22 = .ok (.invokestatic 173, 3) := by decide +kernel
theorem dX6_often_25 : decode cX6_often 25 = .ok (.ifCond .eq 15, 3) := by decide +kernel
theorem dX6_often_28 : decode cX6_often 28 = .ok (.aload_n 0, 1) := by decide +kernel
theorem dX6_often_29 : decode cX6_often 29 = .ok (.iload_n 1, 1) := by decide +kernel
theorem dX6_often_30 : decode cX6_often 30 = .ok (.iload_n 2, 1) := by decide +kernel
theorem dX6_often_31 : decode cX6_often 31 = .ok (.iload_n 3, 1) := by decide +kernel
theorem dX6_often_32 : decode cX6_often 32 = .ok (.iload 4, 2) := by decide +kernel
theorem dX6_often_34 : decode cX6_often 34 = .ok (.invokevirtual 176, 3) := by decide +kernel
theorem dX6_often_37 : decode cX6_often 37 = .ok (.goto 4, 3) := by decide +kernel
theorem dX6_often_40 : decode cX6_often 40 = .ok (.iconst (-1), 1) := by decide +kernel
theorem dX6_often_41 : decode cX6_often 41 = .ok (.ireturn, 1) := by decide +kernel
theorem dX6_bag_0 : decode cX6_bag 0 = .ok (.aload_n 0, 1) := by decide +kernel
theorem dX6_bag_1 : decode cX6_bag 1 = .ok (.getfield 7, 3) := by decide +kernel
theorem dX6_bag_4 : decode cX6_bag 4 = .ok (.iconst 1, 1) := by decide +kernel
theorem dX6_bag_5 : decode cX6_bag 5 = .ok (.bipush 6, 2) := by decide +kernel
theorem dX6_bag_7 : decode cX6_bag 7 = .ok (.iload_n 1, 1) := by decide +kernel
theorem dX6_bag_8 : decode cX6_bag 8 = .ok (.imul, 1) := by decide +kernel
theorem dX6_bag_9 : decode cX6_bag 9 = .ok (.iadd, 1) := by decide +kernel
theorem dX6_bag_10 : decode cX6_bag 10 = .ok (.iload_n 2, 1) := by decide +kernel
theorem dX6_bag_11 : decode cX6_bag 11 = .ok (.iadd, 1) := by decide +kernel
theorem dX6_bag_12 : decode cX6_bag 12 = .ok (.iaload, 1) := by decide +kernel
theorem dX6_bag_13 : decode cX6_bag 13 = .ok (.ireturn, 1) := by decide +kernel
set_option maxRecDepth 20000 in
theorem ggX6_bag__X6_isStall : GoodIn wsX6_bag_ wsX6_isStall := goodIn_r _ [7, 8, 9, 10, 6, 11, 15, 16, 17, 18, 19, 20, 21, 22, 23, 24, 25, 26, 27, 28, 29, 30, 31, 32, 33, 34, 35, 36, 37, 38, 39, 40, 41, 42, 43] (by decide +kernel) (by decide +kernel)
set_option maxRecDepth 20000 in
theorem gX6_bag__X6_isStall : GoodIn wsX6_bag_ (wsV RX6 158 RX6 yX6_isStall wsX6_isStall) := goodIn_app (goodIn_of _ (by decide +kernel)) ggX6_bag__X6_isStall
set_option maxRecDepth 20000 in
theorem ggX6_bag__X6_in : GoodIn wsX6_bag_ wsX6_in := goodIn_r _ [11] (by decide +kernel) (by decide +kernel)
set_option maxRecDepth 20000 in
theorem gX6_bag__X6_in : GoodIn wsX6_bag_ (va_wsS RX6 61 yX6_in wsX6_in) := goodIn_app (goodIn_of _ (by decide +kernel)) ggX6_bag__X6_in
set_option maxRecDepth 20000 in
theorem ggX6_bag__X6_isSort : GoodIn wsX6_bag_ wsX6_isSort := goodIn_r _ [14, 9, 10, 6, 11] (by decide +kernel) (by decide +kernel)
set_option maxRecDepth 20000 in
theorem gX6_bag__X6_isSort : GoodIn wsX6_bag_ (va_wsS RX6 173 yX6_isSort wsX6_isSort) := goodIn_app (goodIn_of _ (by decide +kernel)) ggX6_bag__X6_isSort
