theorem dX0_init_0 : decode cX0_init 0 = .ok (.aload_n 0, 1) := by decide +kernel
theorem dX0_init_1 : decode cX0_init 1 = .ok (.invokespecial 3, 3) := by decide +kernel
theorem dX0_init_4 : decode cX0_init 4 = .ok (.aload_n 0, 1) := by decide +kernel
theorem dX0_init_5 : decode cX0_init 5 = .ok (.bipush 30, 2) := by decide +kernel
theorem dX0_init_7 : decode cX0_init 7 = .ok (.newarray .int, 2) := by decide +kernel
theorem dX0_init_9 : decode cX0_init 9 = .ok (.putfield 9, 3) := by decide +kernel
theorem dX0_init_12 : decode cX0_init 12 = .ok (.aload_n 0, 1) := by decide +kernel
theorem dX0_init_13 : decode cX0_init 13 = .ok (.bipush 30, 2) := by decide +kernel
theorem dX0_init_15 : decode cX0_init 15 = .ok (.newarray .int, 2) := by decide +kernel
theorem dX0_init_17 : decode cX0_init 17 = .ok (.putfield 15, 3) := by decide +kernel
theorem dX0_init_20 : decode cX0_init 20 = .ok (.aload_n 0, 1) := by decide +kernel
theorem dX0_init_21 : decode cX0_init 21 = .ok (.bipush 30, 2) := by decide +kernel
theorem dX0_init_23 : decode cX0_init 23 = .ok (.newarray .int, 2) := by decide +kernel
theorem dX0_init_25 : decode cX0_init 25 = .ok (.putfield 18, 3) := by decide +kernel
theorem dX0_init_28 : decode cX0_init 28 = .ok (.aload_n 0, 1) := by decide +kernel
theorem dX0_init_29 : decode cX0_init 29 = .ok (.bipush 30, 2) := by decide +kernel
theorem dX0_init_31 : decode cX0_init 31 = .ok (.newarray .int, 2) := by decide +kernel
theorem dX0_init_33 : decode cX0_init 33 = .ok (.putfield 21, 3) := by decide +kernel
theorem dX0_init_36 : decode cX0_init 36 = .ok (.aload_n 0, 1) := by decide +kernel
theorem dX0_init_37 : decode cX0_init 37 = .ok (.bipush 30, 2) := by decide +kernel
theorem dX0_init_39 : decode cX0_init 39 = .ok (.newarray .int, 2) := by decide +kernel
theorem dX0_init_41 : decode cX0_init 41 = .ok (.putfield 24, 3) := by decide +kernel
theorem dX0_init_44 : decode cX0_init 44 = .ok (.aload_n 0, 1) := by decide +kernel
theorem dX0_init_45 : decode cX0_init 45 = .ok (.bipush 30, 2) := by decide +kernel
theorem dX0_init_47 : decode cX0_init 47 = .ok (.newarray .int, 2) := by decide +kernel
theorem dX0_init_49 : decode cX0_init 49 = .ok (.putfield 27, 3) := by decide +kernel
theorem dX0_init_52 : decode cX0_init 52 = .ok (.aload_n 0, 1) := by decide +kernel
theorem dX0_init_53 : decode cX0_init 53 = .ok (.bipush 20, 2) := by decide +kernel
theorem dX0_init_55 : decode cX0_init 55 = .ok (.newarray .int, 2) := by decide +kernel
theorem dX0_init_57 : decode cX0_init 57 = .ok (.putfield 30, 3) := by decide +kernel
theorem dX0_init_60 : decode cX0_init 60 = .ok (.aload_n 0, 1) := by decide +kernel
theorem dX0_init_61 : decode cX0_init 61 = .ok (.bipush 20, 2) := by decide +kernel
theorem dX0_init_63 : decode cX0_init 63 = .ok (.newarray .int, 2) := by decide +kernel
theorem dX0_init_65 : decode cX0_init 65 = .ok (.putfield 33, 3) := by decide +kernel
theorem dX0_init_68 : decode cX0_init 68 = .ok (.aload_n 0, 1) := by decide +kernel
theorem dX0_init_69 : decode cX0_init 69 = .ok (.bipush 20, 2) := by decide +kernel
theorem dX0_init_71 : decode cX0_init 71 = .ok (.newarray .int, 2) := by decide +kernel
theorem dX0_init_73 : decode cX0_init 73 = .ok (.putfield 36, 3) := by decide +kernel
theorem dX0_init_76 : decode cX0_init 76 = .ok (.return_, 1) := by decide +kernel
theorem dX0_forgetMarket_0 : decode cX0_forgetMarket 0 = .ok (.aload_n 0, 1) := by decide +kernel
theorem dX0_forgetMarket_1 : decode cX0_forgetMarket 1 = .ok (.iconst 0, 1) := by decide +kernel
theorem dX0_forgetMarket_2 : decode cX0_forgetMarket 2 = .ok (.putfield 39, 3) := by decide +kernel
theorem dX0_forgetMarket_5 : decode cX0_forgetMarket 5 = .ok (.aload_n 0, 1) := by decide +kernel
theorem dX0_forgetMarket_6 : decode cX0_forgetMarket 6 = .ok (.iconst 0, 1) := by decide +kernel
theorem dX0_forgetMarket_7 : decode cX0_forgetMarket 7 = .ok (.putfield 43, 3) := by decide +kernel
theorem dX0_forgetMarket_10 : decode cX0_forgetMarket 10 = .ok (.aload_n 0, 1) := by decide +kernel
theorem dX0_forgetMarket_11 : decode cX0_forgetMarket 11 = .ok (.iconst 0, 1) := by decide +kernel
theorem dX0_forgetMarket_12 : decode cX0_forgetMarket 12 = .ok (.putfield 46, 3) := by decide +kernel
theorem dX0_forgetMarket_15 : decode cX0_forgetMarket 15 = .ok (.return_, 1) := by decide +kernel
theorem dX0_become_0 : decode cX0_become 0 = .ok (.aload_n 0, 1) := by decide +kernel
theorem dX0_become_1 : decode cX0_become 1 = .ok (.aload_n 1, 1) := by decide +kernel
theorem dX0_become_2 : decode cX0_become 2 = .ok (.getfield 39, 3) := by decide +kernel
theorem dX0_become_5 : decode cX0_become 5 = .ok (.putfield 39, 3) := by decide +kernel
theorem dX0_become_8 : decode cX0_become 8 = .ok (.iconst 0, 1) := by decide +kernel
theorem dX0_become_9 : decode cX0_become 9 = .ok (.istore_n 2, 1) := by decide +kernel
theorem dX0_become_10 : decode cX0_become 10 = .ok (.iload_n 2, 1) := by decide +kernel
theorem dX0_become_11 : decode cX0_become 11 = .ok (.aload_n 0, 1) := by decide +kernel
theorem dX0_become_12 : decode cX0_become 12 = .ok (.getfield 39, 3) := by decide +kernel
theorem dX0_become_15 : decode cX0_become 15 = .ok (.if_icmp .ge 81, 3) := by decide +kernel
theorem dX0_become_18 : decode cX0_become 18 = .ok (.aload_n 0, 1) := by decide +kernel
theorem dX0_become_19 : decode cX0_become 19 = .ok (.getfield 9, 3) := by decide +kernel
theorem dX0_become_22 : decode cX0_become 22 = .ok (.iload_n 2, 1) := by decide +kernel
theorem dX0_become_23 : decode cX0_become 23 = .ok (.aload_n 1, 1) := by decide +kernel
theorem dX0_become_24 : decode cX0_become 24 = .ok (.getfield 9, 3) := by decide +kernel
theorem dX0_become_27 : decode cX0_become 27 = .ok (.iload_n 2, 1) := by decide +kernel
theorem dX0_become_28 : decode cX0_become 28 = .ok (.iaload, 1) := by decide +kernel
theorem dX0_become_29 : decode cX0_become 29 = .ok (.iastore, 1) := by decide +kernel
theorem dX0_become_30 : decode cX0_become 30 = .ok (.aload_n 0, 1) := by decide +kernel
theorem dX0_become_31 : decode cX0_become 31 = .ok (.getfield 15, 3) := by decide +kernel
theorem dX0_become_34 : decode cX0_become 34 = .ok (.iload_n 2, 1) := by decide +kernel
theorem dX0_become_35 : decode cX0_become 35 = .ok (.aload_n 1, 1) := by decide +kernel
theorem dX0_become_36 : decode cX0_become 36 = .ok (.getfield 15, 3) := by decide +kernel
theorem dX0_become_39 : decode cX0_become 39 = .ok (.iload_n 2, 1) := by decide +kernel
theorem dX0_become_40 : decode cX0_become 40 = .ok (.iaload, 1) := by decide +kernel
theorem dX0_become_41 : decode cX0_become 41 = .ok (.iastore, 1) := by decide +kernel
theorem dX0_become_42 : decode cX0_become 42 = .ok (.aload_n 0, 1) := by decide +kernel
theorem dX0_become_43 : decode cX0_become 43 = .ok (.getfield 18, 3) := by decide +kernel
theorem dX0_become_46 : decode cX0_become 46 = .ok (.iload_n 2, 1) := by decide +kernel
theorem dX0_become_47 : decode cX0_become 47 = .ok (.aload_n 1, 1) := by decide +kernel
theorem dX0_become_48 : decode cX0_become 48 = .ok (.getfield 18, 3) := by decide +kernel
theorem dX0_become_51 : decode cX0_become 51 = .ok (.iload_n 2, 1) := by decide +kernel
theorem dX0_become_52 : decode cX0_become 52 = .ok (.iaload, 1) := by decide +kernel
theorem dX0_become_53 : decode cX0_become 53 = .ok (.iastore, 1) := by decide +kernel
theorem dX0_become_54 : decode cX0_become 54 = .ok (.aload_n 0, 1) := by decide +kernel
theorem dX0_become_55 : decode cX0_become 55 = .ok (.getfield 21, 3) := by decide +kernel
theorem dX0_become_58 : decode cX0_become 58 = .ok (.iload_n 2, 1) := by decide +kernel
theorem dX0_become_59 : decode cX0_become 59 = .ok (.aload_n 1, 1) := by decide +kernel
theorem dX0_become_60 : decode cX0_become 60 = .ok (.getfield 21, 3) := by decide +kernel
theorem dX0_become_63 : decode cX0_become 63 = .ok (.iload_n 2, 1) := by decide +kernel
theorem dX0_become_64 : decode cX0_become 64 = .ok (.iaload, 1) := by decide +kernel
theorem dX0_become_65 : decode cX0_become 65 = .ok (.iastore, 1) := by decide +kernel
theorem dX0_become_66 : decode cX0_become 66 = .ok (.aload_n 0, 1) := by decide +kernel
theorem dX0_become_67 : decode cX0_become 67 = .ok (.getfield 24, 3) := by decide +kernel
theorem dX0_become_70 : decode cX0_become 70 = .ok (.iload_n 2, 1) := by decide +kernel
theorem dX0_become_71 : decode cX0_become 71 = .ok (.aload_n 1, 1) := by decide +kernel
theorem dX0_become_72 : decode cX0_become 72 = .ok (.getfield 24, 3) := by decide +kernel
theorem dX0_become_75 : decode cX0_become 75 = .ok (.iload_n 2, 1) := by decide +kernel
theorem dX0_become_76 : decode cX0_become 76 = .ok (.iaload, 1) := by decide +kernel
theorem dX0_become_77 : decode cX0_become 77 = .ok (.iastore, 1) := by decide +kernel
theorem dX0_become_78 : decode cX0_become 78 = .ok (.aload_n 0, 1) := by decide +kernel
theorem dX0_become_79 : decode cX0_become 79 = .ok (.getfield 27, 3) := by decide +kernel
theorem dX0_become_82 : decode cX0_become 82 = .ok (.iload_n 2, 1) := by decide +kernel
theorem dX0_become_83 : decode cX0_become 83 = .ok (.aload_n 1, 1) := by decide +kernel
theorem dX0_become_84 : decode cX0_become 84 = .ok (.getfield 27, 3) := by decide +kernel
theorem dX0_become_87 : decode cX0_become 87 = .ok (.iload_n 2, 1) := by decide +kernel
theorem dX0_become_88 : decode cX0_become 88 = .ok (.iaload, 1) := by decide +kernel
theorem dX0_become_89 : decode cX0_become 89 = .ok (.iastore, 1) := by decide +kernel
theorem dX0_become_90 : decode cX0_become 90 = .ok (.iinc 2 1, 3) := by decide +kernel
theorem dX0_become_93 : decode cX0_become 93 = .ok (.goto (-83), 3) := by decide +kernel
theorem dX0_become_96 : decode cX0_become 96 = .ok (.aload_n 0, 1) := by decide +kernel
theorem dX0_become_97 : decode cX0_become 97 = .ok (.aload_n 1, 1) := by decide +kernel
theorem dX0_become_98 : decode cX0_become 98 = .ok (.getfield 43, 3) := by decide +kernel
theorem dX0_become_101 : decode cX0_become 101 = .ok (.putfield 43, 3) := by decide +kernel
theorem dX0_become_104 : decode cX0_become 104 = .ok (.iconst 0, 1) := by decide +kernel
theorem dX0_become_105 : decode cX0_become 105 = .ok (.istore_n 2, 1) := by decide +kernel
theorem dX0_become_106 : decode cX0_become 106 = .ok (.iload_n 2, 1) := by decide +kernel
theorem dX0_become_107 : decode cX0_become 107 = .ok (.aload_n 0, 1) := by decide +kernel
theorem dX0_become_108 : decode cX0_become 108 = .ok (.getfield 43, 3) := by decide +kernel
theorem dX0_become_111 : decode cX0_become 111 = .ok (.if_icmp .ge 45, 3) := by decide +kernel
theorem dX0_become_114 : decode cX0_become 114 = .ok (.aload_n 0, 1) := by decide +kernel
theorem dX0_become_115 : decode cX0_become 115 = .ok (.getfield 30, 3) := by decide +kernel
theorem dX0_become_118 : decode cX0_become 118 = .ok (.iload_n 2, 1) := by decide +kernel
theorem dX0_become_119 : decode cX0_become 119 = .ok (.aload_n 1, 1) := by decide +kernel
theorem dX0_become_120 : decode cX0_become 120 = .ok (.getfield 30, 3) := by decide +kernel
theorem dX0_become_123 : decode cX0_become 123 = .ok (.iload_n 2, 1) := by decide +kernel
theorem dX0_become_124 : decode cX0_become 124 = .ok (.iaload, 1) := by decide +kernel
theorem dX0_become_125 : decode cX0_become 125 = .ok (.iastore, 1) := by decide +kernel
theorem dX0_become_126 : decode cX0_become 126 = .ok (.aload_n 0, 1) := by decide +kernel
theorem dX0_become_127 : decode cX0_become 127 = .ok (.getfield 33, 3) := by decide +kernel
theorem dX0_become_130 : decode cX0_become 130 = .ok (.iload_n 2, 1) := by decide +kernel
theorem dX0_become_131 : decode cX0_become 131 = .ok (.aload_n 1, 1) := by decide +kernel
theorem dX0_become_132 : decode cX0_become 132 = .ok (.getfield 33, 3) := by decide +kernel
theorem dX0_become_135 : decode cX0_become 135 = .ok (.iload_n 2, 1) := by decide +kernel
theorem dX0_become_136 : decode cX0_become 136 = .ok (.iaload, 1) := by decide +kernel
theorem dX0_become_137 : decode cX0_become 137 = .ok (.iastore, 1) := by decide +kernel
theorem dX0_become_138 : decode cX0_become 138 = .ok (.aload_n 0, 1) := by decide +kernel
theorem dX0_become_139 : decode cX0_become 139 = .ok (.getfield 36, 3) := by decide +kernel
theorem dX0_become_142 : decode cX0_become 142 = .ok (.iload_n 2, 1) := by decide +kernel
theorem dX0_become_143 : decode cX0_become 143 = .ok (.aload_n 1, 1) := by decide +kernel
theorem dX0_become_144 : decode cX0_become 144 = .ok (.getfield 36, 3) := by decide +kernel
theorem dX0_become_147 : decode cX0_become 147 = .ok (.iload_n 2, 1) := by decide +kernel
theorem dX0_become_148 : decode cX0_become 148 = .ok (.iaload, 1) := by decide +kernel
theorem dX0_become_149 : decode cX0_become 149 = .ok (.iastore, 1) := by decide +kernel
theorem dX0_become_150 : decode cX0_become 150 = .ok (.iinc 2 1, 3) := by decide +kernel
theorem dX0_become_153 : decode cX0_become 153 = .ok (.goto (-47), 3) := by decide +kernel
theorem dX0_become_156 : decode cX0_become 156 = .ok (.aload_n 0, 1) := by decide +kernel
theorem dX0_become_157 : decode cX0_become 157 = .ok (.aload_n 1, 1) := by decide +kernel
theorem dX0_become_158 : decode cX0_become 158 = .ok (.getfield 46, 3) := by decide +kernel
theorem dX0_become_161 : decode cX0_become 161 = .ok (.putfield 46, 3) := by decide +kernel
theorem dX0_become_164 : decode cX0_become 164 = .ok (.aload_n 0, 1) := by decide +kernel
theorem dX0_become_165 : decode cX0_become 165 = .ok (.aload_n 1, 1) := by decide +kernel
theorem dX0_become_166 : decode cX0_become 166 = .ok (.getfield 49, 3) := by decide +kernel
theorem dX0_become_169 : decode cX0_become 169 = .ok (.putfield 49, 3) := by decide +kernel
theorem dX0_become_172 : decode cX0_become 172 = .ok (.aload_n 0, 1) := by decide +kernel
theorem dX0_become_173 : decode cX0_become 173 = .ok (.aload_n 1, 1) := by decide +kernel
theorem dX0_become_174 : decode cX0_become 174 = .ok (.getfield 53, 3) := by decide +kernel
theorem dX0_become_177 : decode cX0_become 177 = .ok (.putfield 53, 3) := by decide +kernel
theorem dX0_become_180 : decode cX0_become 180 = .ok (.aload_n 0, 1) := by decide +kernel
theorem dX0_become_181 : decode cX0_become 181 = .ok (.aload_n 1, 1) := by decide +kernel
theorem dX0_become_182 : decode cX0_become 182 = .ok (.getfield 56, 3) := by decide +kernel
theorem dX0_become_185 : decode cX0_become 185 = .ok (.putfield 56, 3) := by decide +kernel
theorem dX0_become_188 : decode cX0_become 188 = .ok (.return_, 1) := by decide +kernel
set_option maxRecDepth 20000 in
theorem ggX0_bagsOf_X0_isOf : GoodIn wsX0_bagsOf wsX0_isOf := goodIn_r _ [6, 7, 8, 9, 10, 11, 12, 13, 14, 15, 16, 17, 18, 19, 20, 21, 22, 23] (by decide +kernel) (by decide +kernel)
set_option maxRecDepth 20000 in
theorem gX0_bagsOf_X0_isOf : GoodIn wsX0_bagsOf (wsV RX0 59 RX0 yX0_isOf wsX0_isOf) := goodIn_app (goodIn_of _ (by decide +kernel)) ggX0_bagsOf_X0_isOf
theorem dX0_bagsOf_0 : decode cX0_bagsOf 0 = .ok (.iconst 0, 1) := by decide +kernel
theorem dX0_bagsOf_1 : decode cX0_bagsOf 1 = .ok (.istore_n 3, 1) := by decide +kernel
theorem dX0_bagsOf_2 : decode cX0_bagsOf 2 = .ok (.iconst 0, 1) := by decide +kernel
theorem dX0_bagsOf_3 : decode cX0_bagsOf 3 = .ok (.istore 4, 2) := by decide +kernel
theorem dX0_bagsOf_5 : decode cX0_bagsOf 5 = .ok (.iload 4, 2) := by decide +kernel
theorem dX0_bagsOf_7 : decode cX0_bagsOf 7 = .ok (.aload_n 0, 1) := by decide +kernel
theorem dX0_bagsOf_8 : decode cX0_bagsOf 8 = .ok (.getfield 39, 3) := by decide +kernel
theorem dX0_bagsOf_11 : decode cX0_bagsOf 11 = .ok (.if_icmp .ge 28, 3) := by decide +kernel
theorem dX0_bagsOf_14 : decode cX0_bagsOf 14 = .ok (.iload_n 3, 1) := by decide +kernel
theorem dX0_bagsOf_15 : decode cX0_bagsOf 15 = .ok (.aload_n 0, 1) := by decide +kernel
theorem dX0_bagsOf_16 : decode cX0_bagsOf 16 = .ok (.iload 4, 2) := by decide +kernel
theorem dX0_bagsOf_18 : decode cX0_bagsOf 18 = .ok (.iload_n 1, 1) := by decide +kernel
theorem dX0_bagsOf_19 : decode cX0_bagsOf 19 = .ok (.iload_n 2, 1) := by decide +kernel
theorem dX0_bagsOf_20 : decode cX0_bagsOf 20 = .ok (.invokevirtual 59, 3) := by decide +kernel
theorem dX0_bagsOf_23 : decode cX0_bagsOf 23 = .ok (.ifCond .eq 7, 3) := by decide +kernel
theorem dX0_bagsOf_26 : decode cX0_bagsOf 26 = .ok (.iconst 1, 1) := by decide +kernel
theorem dX0_bagsOf_27 : decode cX0_bagsOf 27 = .ok (.goto 4, 3) := by decide +kernel
theorem dX0_bagsOf_30 : decode cX0_bagsOf 30 = .ok (.iconst 0, 1) := by decide +kernel
theorem dX0_bagsOf_31 : decode cX0_bagsOf 31 = .ok (.iadd, 1) := by decide +kernel
theorem dX0_bagsOf_32 : decode cX0_bagsOf 32 = .ok (.istore_n 3, 1) := by decide +kernel
theorem dX0_bagsOf_33 : decode cX0_bagsOf 33 = .ok (.iinc 4 1, 3) := by decide +kernel
theorem dX0_bagsOf_36 : decode cX0_bagsOf 36 = .ok (.goto (-31), 3) := by decide +kernel
theorem dX0_bagsOf_39 : decode cX0_bagsOf 39 = .ok (.iload_n 3, 1) := by decide +kernel
theorem dX0_bagsOf_40 : decode cX0_bagsOf 40 = .ok (.ireturn, 1) := by decide +kernel
set_option maxRecDepth 20000 in
theorem ggX0_justBagsOf_X0_isOf : GoodIn wsX0_justBagsOf wsX0_isOf := goodIn_r _ [7, 8, 9, 10, 11, 12, 13, 14, 15, 16, 17, 18, 19, 20, 21, 22, 23, 24] (by decide +kernel) (by decide +kernel)
set_option maxRecDepth 20000 in
theorem gX0_justBagsOf_X0_isOf : GoodIn wsX0_justBagsOf (wsV RX0 59 RX0 yX0_isOf wsX0_isOf) := goodIn_app (goodIn_of _ (by decide +kernel)) ggX0_justBagsOf_X0_isOf
theorem dX0_justBagsOf_0 : decode cX0_justBagsOf 0 = .ok (.iconst 0, 1) := by decide +kernel
theorem dX0_justBagsOf_1 : decode cX0_justBagsOf 1 = .ok (.istore_n 2, 1) := by decide +kernel
theorem dX0_justBagsOf_2 : decode cX0_justBagsOf 2 = .ok (.iconst 0, 1) := by decide +kernel
theorem dX0_justBagsOf_3 : decode cX0_justBagsOf 3 = .ok (.istore_n 3, 1) := by decide +kernel
theorem dX0_justBagsOf_4 : decode cX0_justBagsOf 4 = .ok (.iload_n 3, 1) := by decide +kernel
theorem dX0_justBagsOf_5 : decode cX0_justBagsOf 5 = .ok (.aload_n 0, 1) := by decide +kernel
theorem dX0_justBagsOf_6 : decode cX0_justBagsOf 6 = .ok (.getfield 39, 3) := by decide +kernel
theorem dX0_justBagsOf_9 : decode cX0_justBagsOf 9 = .ok (.if_icmp .ge 37, 3) := by decide +kernel
theorem dX0_justBagsOf_12 : decode cX0_justBagsOf 12 = .ok (.iload_n 2, 1) := by decide +kernel
theorem dX0_justBagsOf_13 : decode cX0_justBagsOf 13 = .ok (.aload_n 0, 1) := by decide +kernel
theorem dX0_justBagsOf_14 : decode cX0_justBagsOf 14 = .ok (.iload_n 3, 1) := by decide +kernel
theorem dX0_justBagsOf_15 : decode cX0_justBagsOf 15 = .ok (.iload_n 1, 1) := by decide +kernel
theorem dX0_justBagsOf_16 : decode cX0_justBagsOf 16 = .ok (.bipush 15, 2) := by decide +kernel
theorem dX0_justBagsOf_18 : decode cX0_justBagsOf 18 = .ok (.invokevirtual 59, 3) := by decide +kernel
theorem dX0_justBagsOf_21 : decode cX0_justBagsOf 21 = .ok (.ifCond .eq 16, 3) := by decide +kernel
theorem dX0_justBagsOf_24 : decode cX0_justBagsOf 24 = .ok (.aload_n 0, 1) := by decide +kernel
theorem dX0_justBagsOf_25 : decode cX0_justBagsOf 25 = .ok (.getfield 27, 3) := by decide +kernel
theorem dX0_justBagsOf_28 : decode cX0_justBagsOf 28 = .ok (.iload_n 3, 1) := by decide +kernel
theorem dX0_justBagsOf_29 : decode cX0_justBagsOf 29 = .ok (.iaload, 1) := by decide +kernel
theorem dX0_justBagsOf_30 : decode cX0_justBagsOf 30 = .ok (.ifCond .ne 7, 3) := by decide +kernel
theorem dX0_justBagsOf_33 : decode cX0_justBagsOf 33 = .ok (.iconst 1, 1) := by decide +kernel
theorem dX0_justBagsOf_34 : decode cX0_justBagsOf 34 = .ok (.goto 4, 3) := by decide +kernel
theorem dX0_justBagsOf_37 : decode cX0_justBagsOf 37 = .ok (.iconst 0, 1) := by decide +kernel
theorem dX0_justBagsOf_38 : decode cX0_justBagsOf 38 = .ok (.iadd, 1) := by decide +kernel
theorem dX0_justBagsOf_39 : decode cX0_justBagsOf 39 = .ok (.istore_n 2, 1) := by decide +kernel
theorem dX0_justBagsOf_40 : decode cX0_justBagsOf 40 = .ok (.iinc 3 1, 3) := by decide +kernel
theorem dX0_justBagsOf_43 : decode cX0_justBagsOf 43 = .ok (.goto (-39), 3) := by decide +kernel
theorem dX0_justBagsOf_46 : decode cX0_justBagsOf 46 = .ok (.iload_n 2, 1) := by decide +kernel
theorem dX0_justBagsOf_47 : decode cX0_justBagsOf 47 = .ok (.ireturn, 1) := by decide +kernel
set_option maxRecDepth 20000 in
theorem ggX0_toldOf_X0_isOf : GoodIn wsX0_toldOf wsX0_isOf := goodIn_r _ [7, 8, 9, 10, 11, 12, 13, 14, 15, 16, 17, 18, 19, 20, 21, 22, 23, 24] (by decide +kernel) (by decide +kernel)
set_option maxRecDepth 20000 in
theorem gX0_toldOf_X0_isOf : GoodIn wsX0_toldOf (wsV RX0 59 RX0 yX0_isOf wsX0_isOf) := goodIn_app (goodIn_of _ (by decide +kernel)) ggX0_toldOf_X0_isOf
theorem dX0_toldOf_0 : decode cX0_toldOf 0 = .ok (.iconst 0, 1) := by decide +kernel
theorem dX0_toldOf_1 : decode cX0_toldOf 1 = .ok (.istore_n 2, 1) := by decide +kernel
theorem dX0_toldOf_2 : decode cX0_toldOf 2 = .ok (.iconst 0, 1) := by decide +kernel
theorem dX0_toldOf_3 : decode cX0_toldOf 3 = .ok (.istore_n 3, 1) := by decide +kernel
theorem dX0_toldOf_4 : decode cX0_toldOf 4 = .ok (.iload_n 3, 1) := by decide +kernel
theorem dX0_toldOf_5 : decode cX0_toldOf 5 = .ok (.aload_n 0, 1) := by decide +kernel
theorem dX0_toldOf_6 : decode cX0_toldOf 6 = .ok (.getfield 39, 3) := by decide +kernel
theorem dX0_toldOf_9 : decode cX0_toldOf 9 = .ok (.if_icmp .ge 33, 3) := by decide +kernel
theorem dX0_toldOf_12 : decode cX0_toldOf 12 = .ok (.iload_n 2, 1) := by decide +kernel
theorem dX0_toldOf_13 : decode cX0_toldOf 13 = .ok (.aload_n 0, 1) := by decide +kernel
theorem dX0_toldOf_14 : decode cX0_toldOf 14 = .ok (.iload_n 3, 1) := by decide +kernel
theorem dX0_toldOf_15 : decode cX0_toldOf 15 = .ok (.iload_n 1, 1) := by decide +kernel
theorem dX0_toldOf_16 : decode cX0_toldOf 16 = .ok (.bipush 15, 2) := by decide +kernel
theorem dX0_toldOf_18 : decode cX0_toldOf 18 = .ok (.invokevirtual 59, 3) := by decide +kernel
theorem dX0_toldOf_21 : decode cX0_toldOf 21 = .ok (.ifCond .eq 12, 3) := by decide +kernel
theorem dX0_toldOf_24 : decode cX0_toldOf 24 = .ok (.aload_n 0, 1) := by decide +kernel
theorem dX0_toldOf_25 : decode cX0_toldOf 25 = .ok (.getfield 21, 3) := by decide +kernel
theorem dX0_toldOf_28 : decode cX0_toldOf 28 = .ok (.iload_n 3, 1) := by decide +kernel
theorem dX0_toldOf_29 : decode cX0_toldOf 29 = .ok (.iaload, 1) := by decide +kernel
theorem dX0_toldOf_30 : decode cX0_toldOf 30 = .ok (.goto 4, 3) := by decide +kernel
theorem dX0_toldOf_33 : decode cX0_toldOf 33 = .ok (.iconst 0, 1) := by decide +kernel
theorem dX0_toldOf_34 : decode cX0_toldOf 34 = .ok (.iadd, 1) := by decide +kernel
theorem dX0_toldOf_35 : decode cX0_toldOf 35 = .ok (.istore_n 2, 1) := by decide +kernel
theorem dX0_toldOf_36 : decode cX0_toldOf 36 = .ok (.iinc 3 1, 3) := by decide +kernel
theorem dX0_toldOf_39 : decode cX0_toldOf 39 = .ok (.goto (-35), 3) := by decide +kernel
theorem dX0_toldOf_42 : decode cX0_toldOf 42 = .ok (.iload_n 2, 1) := by decide +kernel
theorem dX0_toldOf_43 : decode cX0_toldOf 43 = .ok (.ireturn, 1) := by decide +kernel
set_option maxRecDepth 20000 in
theorem ggX0_shortsOf_X0_isOf : GoodIn wsX0_shortsOf wsX0_isOf := goodIn_r _ [7, 8, 9, 10, 11, 12, 13, 14, 15, 16, 17, 18, 19, 20, 21, 22, 23, 24] (by decide +kernel) (by decide +kernel)
set_option maxRecDepth 20000 in
theorem gX0_shortsOf_X0_isOf : GoodIn wsX0_shortsOf (wsV RX0 59 RX0 yX0_isOf wsX0_isOf) := goodIn_app (goodIn_of _ (by decide +kernel)) ggX0_shortsOf_X0_isOf
theorem dX0_shortsOf_0 : decode cX0_shortsOf 0 = .ok (.iconst 0, 1) := by decide +kernel
theorem dX0_shortsOf_1 : decode cX0_shortsOf 1 = .ok (.istore_n 3, 1) := by decide +kernel
theorem dX0_shortsOf_2 : decode cX0_shortsOf 2 = .ok (.iconst 0, 1) := by decide +kernel
theorem dX0_shortsOf_3 : decode cX0_shortsOf 3 = .ok (.istore 4, 2) := by decide +kernel
theorem dX0_shortsOf_5 : decode cX0_shortsOf 5 = .ok (.iload 4, 2) := by decide +kernel
theorem dX0_shortsOf_7 : decode cX0_shortsOf 7 = .ok (.aload_n 0, 1) := by decide +kernel
theorem dX0_shortsOf_8 : decode cX0_shortsOf 8 = .ok (.getfield 39, 3) := by decide +kernel
theorem dX0_shortsOf_11 : decode cX0_shortsOf 11 = .ok (.if_icmp .ge 34, 3) := by decide +kernel
theorem dX0_shortsOf_14 : decode cX0_shortsOf 14 = .ok (.iload_n 3, 1) := by decide +kernel
theorem dX0_shortsOf_15 : decode cX0_shortsOf 15 = .ok (.aload_n 0, 1) := by decide +kernel
theorem dX0_shortsOf_16 : decode cX0_shortsOf 16 = .ok (.iload 4, 2) := by decide +kernel
theorem dX0_shortsOf_18 : decode cX0_shortsOf 18 = .ok (.iload_n 1, 1) := by decide +kernel
theorem dX0_shortsOf_19 : decode cX0_shortsOf 19 = .ok (.iload_n 2, 1) := by decide +kernel
theorem dX0_shortsOf_20 : decode cX0_shortsOf 20 = .ok (.invokevirtual 59, 3) := by decide +kernel
theorem dX0_shortsOf_23 : decode cX0_shortsOf 23 = .ok (.ifCond .eq 13, 3) := by decide +kernel
theorem dX0_shortsOf_26 : decode cX0_shortsOf 26 = .ok (.aload_n 0, 1) := by decide +kernel
theorem dX0_shortsOf_27 : decode cX0_shortsOf 27 = .ok (.getfield 24, 3) := by decide +kernel
theorem dX0_shortsOf_30 : decode cX0_shortsOf 30 = .ok (.iload 4, 2) := by decide +kernel
theorem dX0_shortsOf_32 : decode cX0_shortsOf 32 = .ok (.iaload, 1) := by decide +kernel
theorem dX0_shortsOf_33 : decode cX0_shortsOf 33 = .ok (.goto 4, 3) := by decide +kernel
theorem dX0_shortsOf_36 : decode cX0_shortsOf 36 = .ok (.iconst 0, 1) := by decide +kernel
theorem dX0_shortsOf_37 : decode cX0_shortsOf 37 = .ok (.iadd, 1) := by decide +kernel
theorem dX0_shortsOf_38 : decode cX0_shortsOf 38 = .ok (.istore_n 3, 1) := by decide +kernel
theorem dX0_shortsOf_39 : decode cX0_shortsOf 39 = .ok (.iinc 4 1, 3) := by decide +kernel
theorem dX0_shortsOf_42 : decode cX0_shortsOf 42 = .ok (.goto (-37), 3) := by decide +kernel
theorem dX0_shortsOf_45 : decode cX0_shortsOf 45 = .ok (.iload_n 3, 1) := by decide +kernel
theorem dX0_shortsOf_46 : decode cX0_shortsOf 46 = .ok (.ireturn, 1) := by decide +kernel
set_option maxRecDepth 20000 in
theorem ggX0_shortsAboveNone_X0_isOf : GoodIn wsX0_shortsAboveNone wsX0_isOf := goodIn_r _ [11, 12, 13, 14, 15, 16, 17, 18, 19, 20, 21, 22, 23, 24, 25, 26, 27, 28] (by decide +kernel) (by decide +kernel)
set_option maxRecDepth 20000 in
theorem gX0_shortsAboveNone_X0_isOf : GoodIn wsX0_shortsAboveNone (wsV RX0 59 RX0 yX0_isOf wsX0_isOf) := goodIn_app (goodIn_of _ (by decide +kernel)) ggX0_shortsAboveNone_X0_isOf
theorem dX0_shortsAboveNone_0 : decode cX0_shortsAboveNone 0 = .ok (.iconst 0, 1) := by decide +kernel
theorem dX0_shortsAboveNone_1 : decode cX0_shortsAboveNone 1 = .ok (.istore_n 2, 1) := by decide +kernel
theorem dX0_shortsAboveNone_2 : decode cX0_shortsAboveNone 2 = .ok (.iconst 0, 1) := by decide +kernel
theorem dX0_shortsAboveNone_3 : decode cX0_shortsAboveNone 3 = .ok (.istore_n 3, 1) := by decide +kernel
theorem dX0_shortsAboveNone_4 : decode cX0_shortsAboveNone 4 = .ok (.iload_n 3, 1) := by decide +kernel
theorem dX0_shortsAboveNone_5 : decode cX0_shortsAboveNone 5 = .ok (.aload_n 0, 1) := by decide +kernel
theorem dX0_shortsAboveNone_6 : decode cX0_shortsAboveNone 6 = .ok (.getfield 39, 3) := by decide +kernel
theorem dX0_shortsAboveNone_9 : decode cX0_shortsAboveNone 9 = .ok (.if_icmp .ge 37, 3) := by decide +kernel
theorem dX0_shortsAboveNone_12 : decode cX0_shortsAboveNone 12 = .ok (.iload_n 2, 1) := by decide +kernel
theorem dX0_shortsAboveNone_13 : decode cX0_shortsAboveNone 13 = .ok (.aload_n 0, 1) := by decide +kernel
theorem dX0_shortsAboveNone_14 : decode cX0_shortsAboveNone 14 = .ok (.iload_n 3, 1) := by decide +kernel
theorem dX0_shortsAboveNone_15 : decode cX0_shortsAboveNone 15 = .ok (.iload_n 1, 1) := by decide +kernel
theorem dX0_shortsAboveNone_16 : decode cX0_shortsAboveNone 16 = .ok (.bipush 15, 2) := by decide +kernel
theorem dX0_shortsAboveNone_18 : decode cX0_shortsAboveNone 18 = .ok (.invokevirtual 59, 3) := by decide +kernel
theorem dX0_shortsAboveNone_21 : decode cX0_shortsAboveNone 21 = .ok (.ifCond .eq 16, 3) := by decide +kernel
theorem dX0_shortsAboveNone_24 : decode cX0_shortsAboveNone 24 = .ok (.iconst 0, 1) := by decide +kernel
theorem dX0_shortsAboveNone_25 : decode cX0_shortsAboveNone 25 = .ok (.aload_n 0, 1) := by decide +kernel
theorem dX0_shortsAboveNone_26 : decode cX0_shortsAboveNone 26 = .ok (.getfield 24, 3) := by decide +kernel
theorem dX0_shortsAboveNone_29 : decode cX0_shortsAboveNone 29 = .ok (.iload_n 3, 1) := by decide +kernel
theorem dX0_shortsAboveNone_30 : decode cX0_shortsAboveNone 30 = .ok (.iaload, 1) := by decide +kernel
theorem dX0_shortsAboveNone_31 : decode cX0_shortsAboveNone 31 = .ok (.invokestatic 63, 3) := by decide +kernel
theorem dX0_shortsAboveNone_34 : decode cX0_shortsAboveNone 34 = .ok (.goto 4, 3) := by decide +kernel
theorem dX0_shortsAboveNone_37 : decode cX0_shortsAboveNone 37 = .ok (.iconst 0, 1) := by decide +kernel
theorem dX0_shortsAboveNone_38 : decode cX0_shortsAboveNone 38 = .ok (.iadd, 1) := by decide +kernel
theorem dX0_shortsAboveNone_39 : decode cX0_shortsAboveNone 39 = .ok (.istore_n 2, 1) := by decide +kernel
theorem dX0_shortsAboveNone_40 : decode cX0_shortsAboveNone 40 = .ok (.iinc 3 1, 3) := by decide +kernel
theorem dX0_shortsAboveNone_43 : decode cX0_shortsAboveNone 43 = .ok (.goto (-39), 3) := by decide +kernel
theorem dX0_shortsAboveNone_46 : decode cX0_shortsAboveNone 46 = .ok (.iload_n 2, 1) := by decide +kernel
theorem dX0_shortsAboveNone_47 : decode cX0_shortsAboveNone 47 = .ok (.ireturn, 1) := by decide +kernel
theorem dX0_isOf_0 : decode cX0_isOf 0 = .ok (.aload_n 0, 1) := by decide +kernel
theorem dX0_isOf_1 : decode cX0_isOf 1 = .ok (.getfield 9, 3) := by decide +kernel
theorem dX0_isOf_4 : decode cX0_isOf 4 = .ok (.iload_n 1, 1) := by decide +kernel
theorem dX0_isOf_5 : decode cX0_isOf 5 = .ok (.iaload, 1) := by decide +kernel
theorem dX0_isOf_6 : decode cX0_isOf 6 = .ok (.iload_n 2, 1) := by decide +kernel
theorem dX0_isOf_7 : decode cX0_isOf 7 = .ok (.if_icmp .ne 21, 3) := by decide +kernel
theorem dX0_isOf_10 : decode cX0_isOf 10 = .ok (.iload_n 3, 1) := by decide +kernel
theorem dX0_isOf_11 : decode cX0_isOf 11 = .ok (.aload_n 0, 1) := by decide +kernel
theorem dX0_isOf_12 : decode cX0_isOf 12 = .ok (.getfield 18, 3) := by decide +kernel
theorem dX0_isOf_15 : decode cX0_isOf 15 = .ok (.iload_n 1, 1) := by decide +kernel
theorem dX0_isOf_16 : decode cX0_isOf 16 = .ok (.iaload, 1) := by decide +kernel
theorem dX0_isOf_17 : decode cX0_isOf 17 = .ok (.ishr, 1) := by decide +kernel
theorem dX0_isOf_18 : decode cX0_isOf 18 = .ok (.iconst 1, 1) := by decide +kernel
theorem dX0_isOf_19 : decode cX0_isOf 19 = .ok (.iand, 1) := by decide +kernel
theorem dX0_isOf_20 : decode cX0_isOf 20 = .ok (.iconst 1, 1) := by decide +kernel
theorem dX0_isOf_21 : decode cX0_isOf 21 = .ok (.if_icmp .ne 7, 3) := by decide +kernel
theorem dX0_isOf_24 : decode cX0_isOf 24 = .ok (.iconst 1, 1) := by decide +kernel
theorem dX0_isOf_25 : decode cX0_isOf 25 = .ok (.goto 4, 3) := by decide +kernel
theorem dX0_isOf_28 : decode cX0_isOf 28 = .ok (.iconst 0, 1) := by decide +kernel
theorem dX0_isOf_29 : decode cX0_isOf 29 = .ok (.ireturn, 1) := by decide +kernel
theorem dX0_trialsOf_0 : decode cX0_trialsOf 0 = .ok (.iconst 0, 1) := by decide +kernel
theorem dX0_trialsOf_1 : decode cX0_trialsOf 1 = .ok (.istore_n 2, 1) := by decide +kernel
theorem dX0_trialsOf_2 : decode cX0_trialsOf 2 = .ok (.iconst 0, 1) := by decide +kernel
theorem dX0_trialsOf_3 : decode cX0_trialsOf 3 = .ok (.istore_n 3, 1) := by decide +kernel
theorem dX0_trialsOf_4 : decode cX0_trialsOf 4 = .ok (.iload_n 3, 1) := by decide +kernel
theorem dX0_trialsOf_5 : decode cX0_trialsOf 5 = .ok (.aload_n 0, 1) := by decide +kernel
theorem dX0_trialsOf_6 : decode cX0_trialsOf 6 = .ok (.getfield 43, 3) := by decide +kernel
theorem dX0_trialsOf_9 : decode cX0_trialsOf 9 = .ok (.if_icmp .ge 22, 3) := by decide +kernel
theorem dX0_trialsOf_12 : decode cX0_trialsOf 12 = .ok (.aload_n 0, 1) := by decide +kernel
theorem dX0_trialsOf_13 : decode cX0_trialsOf 13 = .ok (.getfield 30, 3) := by decide +kernel
theorem dX0_trialsOf_16 : decode cX0_trialsOf 16 = .ok (.iload_n 3, 1) := by decide +kernel
theorem dX0_trialsOf_17 : decode cX0_trialsOf 17 = .ok (.iaload, 1) := by decide +kernel
theorem dX0_trialsOf_18 : decode cX0_trialsOf 18 = .ok (.iload_n 1, 1) := by decide +kernel
theorem dX0_trialsOf_19 : decode cX0_trialsOf 19 = .ok (.if_icmp .ne 6, 3) := by decide +kernel
theorem dX0_trialsOf_22 : decode cX0_trialsOf 22 = .ok (.iinc 2 1, 3) := by decide +kernel
theorem dX0_trialsOf_25 : decode cX0_trialsOf 25 = .ok (.iinc 3 1, 3) := by decide +kernel
theorem dX0_trialsOf_28 : decode cX0_trialsOf 28 = .ok (.goto (-24), 3) := by decide +kernel
theorem dX0_trialsOf_31 : decode cX0_trialsOf 31 = .ok (.iload_n 2, 1) := by decide +kernel
theorem dX0_trialsOf_32 : decode cX0_trialsOf 32 = .ok (.ireturn, 1) := by decide +kernel
theorem dX1_init_0 : decode cX1_init 0 = .ok (.aload_n 0, 1) := by decide +kernel
theorem dX1_init_1 : decode cX1_init 1 = .ok (.invokespecial 3, 3) := by decide +kernel
theorem dX1_init_4 : decode cX1_init 4 = .ok (.aload_n 0, 1) := by decide +kernel
theorem dX1_init_5 : decode cX1_init 5 = .ok (.bipush 19, 2) := by decide +kernel
theorem dX1_init_7 : decode cX1_init 7 = .ok (.newarray .long, 2) := by decide +kernel
theorem dX1_init_9 : decode cX1_init 9 = .ok (.putfield 9, 3) := by decide +kernel
theorem dX1_init_12 : decode cX1_init 12 = .ok (.return_, 1) := by decide +kernel
set_option maxRecDepth 20000 in
theorem ggX1_withAtLeast_X1_fill : GoodIn wsX1_withAtLeast wsX1_fill := goodIn_r _ [6, 1, 7] (by decide +kernel) (by decide +kernel)
set_option maxRecDepth 20000 in
theorem gX1_withAtLeast_X1_fill : GoodIn wsX1_withAtLeast (wsV RX1 15 RX1 yX1_fill wsX1_fill) := goodIn_app (goodIn_of _ (by decide +kernel)) ggX1_withAtLeast_X1_fill
theorem dX1_withAtLeast_0 : decode cX1_withAtLeast 0 = .ok (.iload_n 2, 1) := by decide +kernel
theorem dX1_withAtLeast_1 : decode cX1_withAtLeast 1 = .ok (.ifCond .lt 13, 3) := by decide +kernel
theorem dX1_withAtLeast_4 : decode cX1_withAtLeast 4 = .ok (.iload_n 2, 1) := by decide +kernel
theorem dX1_withAtLeast_5 : decode cX1_withAtLeast 5 = .ok (.bipush 18, 2) := by decide +kernel
theorem dX1_withAtLeast_7 : decode cX1_withAtLeast 7 = .ok (.if_icmp .gt 7, 3) := by decide +kernel
theorem dX1_withAtLeast_10 : decode cX1_withAtLeast 10 = .ok (.iload_n 1, 1) := by decide +kernel
theorem dX1_withAtLeast_11 : decode cX1_withAtLeast 11 = .ok (.ifCond .ge 5, 3) := by decide +kernel
theorem dX1_withAtLeast_14 : decode cX1_withAtLeast 14 = .ok (.lconst 0, 1) := by decide +kernel
theorem dX1_withAtLeast_15 : decode cX1_withAtLeast 15 = .ok (.lreturn, 1) := by decide +kernel
theorem dX1_withAtLeast_16 : decode cX1_withAtLeast 16 = .ok (.aload_n 0, 1) := by decide +kernel
theorem dX1_withAtLeast_17 : decode cX1_withAtLeast 17 = .ok (.iload_n 2, 1) := by decide +kernel
theorem dX1_withAtLeast_18 : decode cX1_withAtLeast 18 = .ok (.iload_n 3, 1) := by decide +kernel
theorem dX1_withAtLeast_19 : decode cX1_withAtLeast 19 = .ok (.invokevirtual 15, 3) := by decide +kernel
theorem dX1_withAtLeast_22 : decode cX1_withAtLeast 22 = .ok (.lconst 0, 1) := by decide +kernel
theorem dX1_withAtLeast_23 : decode cX1_withAtLeast 23 = .ok (.lstore 4, 2) := by decide +kernel
theorem dX1_withAtLeast_25 : decode cX1_withAtLeast 25 = .ok (.iload_n 1, 1) := by decide +kernel
theorem dX1_withAtLeast_26 : decode cX1_withAtLeast 26 = .ok (.istore 6, 2) := by decide +kernel
theorem dX1_withAtLeast_28 : decode cX1_withAtLeast 28 = .ok (.iload 6, 2) := by decide +kernel
theorem dX1_withAtLeast_30 : decode cX1_withAtLeast 30 = .ok (.iload_n 2, 1) := by decide +kernel
theorem dX1_withAtLeast_31 : decode cX1_withAtLeast 31 = .ok (.if_icmp .gt 21, 3) := by decide +kernel
theorem dX1_withAtLeast_34 : decode cX1_withAtLeast 34 = .ok (.lload 4, 2) := by decide +kernel
theorem dX1_withAtLeast_36 : decode cX1_withAtLeast 36 = .ok (.aload_n 0, 1) := by decide +kernel
theorem dX1_withAtLeast_37 : decode cX1_withAtLeast 37 = .ok (.getfield 9, 3) := by decide +kernel
theorem dX1_withAtLeast_40 : decode cX1_withAtLeast 40 = .ok (.iload 6, 2) := by decide +kernel
theorem dX1_withAtLeast_42 : decode cX1_withAtLeast 42 = .ok (.laload, 1) := by decide +kernel
theorem dX1_withAtLeast_43 : decode cX1_withAtLeast 43 = .ok (.ladd, 1) := by decide +kernel
theorem dX1_withAtLeast_44 : decode cX1_withAtLeast 44 = .ok (.lstore 4, 2) := by decide +kernel
theorem dX1_withAtLeast_46 : decode cX1_withAtLeast 46 = .ok (.iinc 6 1, 3) := by decide +kernel
theorem dX1_withAtLeast_49 : decode cX1_withAtLeast 49 = .ok (.goto (-21), 3) := by decide +kernel
theorem dX1_withAtLeast_52 : decode cX1_withAtLeast 52 = .ok (.lload 4, 2) := by decide +kernel
theorem dX1_withAtLeast_54 : decode cX1_withAtLeast 54 = .ok (.lreturn, 1) := by decide +kernel
theorem dX1_fill_0 : decode cX1_fill 0 = .ok (.aload_n 0, 1) := by decide +kernel
theorem dX1_fill_1 : decode cX1_fill 1 = .ok (.getfield 9, 3) := by decide +kernel
theorem dX1_fill_4 : decode cX1_fill 4 = .ok (.iconst 0, 1) := by decide +kernel
theorem dX1_fill_5 : decode cX1_fill 5 = .ok (.lconst 1, 1) := by decide +kernel
theorem dX1_fill_6 : decode cX1_fill 6 = .ok (.lastore, 1) := by decide +kernel
theorem dX1_fill_7 : decode cX1_fill 7 = .ok (.iconst 1, 1) := by decide +kernel
theorem dX1_fill_8 : decode cX1_fill 8 = .ok (.istore_n 3, 1) := by decide +kernel
theorem dX1_fill_9 : decode cX1_fill 9 = .ok (.iload_n 3, 1) := by decide +kernel
theorem dX1_fill_10 : decode cX1_fill 10 = .ok (.iload_n 1, 1) := by decide +kernel
theorem dX1_fill_11 : decode cX1_fill 11 = .ok (.if_icmp .gt 16, 3) := by decide +kernel
theorem dX1_fill_14 : decode cX1_fill 14 = .ok (.aload_n 0, 1) := by decide +kernel
theorem dX1_fill_15 : decode cX1_fill 15 = .ok (.getfield 9, 3) := by decide +kernel
theorem dX1_fill_18 : decode cX1_fill 18 = .ok (.iload_n 3, 1) := by decide +kernel
theorem dX1_fill_19 : decode cX1_fill 19 = .ok (.lconst 0, 1) := by decide +kernel
theorem dX1_fill_20 : decode cX1_fill 20 = .ok (.lastore, 1) := by decide +kernel
theorem dX1_fill_21 : decode cX1_fill 21 = .ok (.iinc 3 1, 3) := by decide +kernel
theorem dX1_fill_24 : decode cX1_fill 24 = .ok (.goto (-15), 3) := by decide +kernel
theorem dX1_fill_27 : decode cX1_fill 27 = .ok (.iconst 1, 1) := by decide +kernel
theorem dX1_fill_28 : decode cX1_fill 28 = .ok (.istore_n 3, 1) := by decide +kernel
theorem dX1_fill_29 : decode cX1_fill 29 = .ok (.iload_n 3, 1) := by decide +kernel
theorem dX1_fill_30 : decode cX1_fill 30 = .ok (.iload_n 1, 1) := by decide +kernel
theorem dX1_fill_31 : decode cX1_fill 31 = .ok (.if_icmp .gt 75, 3) := by decide +kernel
theorem dX1_fill_34 : decode cX1_fill 34 = .ok (.iload_n 3, 1) := by decide +kernel
theorem dX1_fill_35 : decode cX1_fill 35 = .ok (.istore 4, 2) := by decide +kernel
theorem dX1_fill_37 : decode cX1_fill 37 = .ok (.iload 4, 2) := by decide +kernel
theorem dX1_fill_39 : decode cX1_fill 39 = .ok (.iconst 1, 1) := by decide +kernel
theorem dX1_fill_40 : decode cX1_fill 40 = .ok (.if_icmp .lt 42, 3) := by decide +kernel
theorem dX1_fill_43 : decode cX1_fill 43 = .ok (.aload_n 0, 1) := by decide +kernel
theorem dX1_fill_44 : decode cX1_fill 44 = .ok (.getfield 9, 3) := by decide +kernel
theorem dX1_fill_47 : decode cX1_fill 47 = .ok (.iload 4, 2) := by decide +kernel
theorem dX1_fill_49 : decode cX1_fill 49 = .ok (.aload_n 0, 1) := by decide +kernel
theorem dX1_fill_50 : decode cX1_fill 50 = .ok (.getfield 9, 3) := by decide +kernel
theorem dX1_fill_53 : decode cX1_fill 53 = .ok (.iload 4, 2) := by decide +kernel
theorem dX1_fill_55 : decode cX1_fill 55 = .ok (.laload, 1) := by decide +kernel
theorem dX1_fill_56 : decode cX1_fill 56 = .ok (.bipush 10, 2) := by decide +kernel
theorem dX1_fill_58 : decode cX1_fill 58 = .ok (.iload_n 2, 1) := by decide +kernel
theorem dX1_fill_59 : decode cX1_fill 59 = .ok (.isub, 1) := by decide +kernel
theorem dX1_fill_60 : decode cX1_fill 60 = .ok (.i2l, 1) := by decide +kernel
theorem dX1_fill_61 : decode cX1_fill 61 = .ok (.lmul, 1) := by decide +kernel
theorem dX1_fill_62 : decode cX1_fill 62 = .ok (.aload_n 0, 1) := by decide +kernel
theorem dX1_fill_63 : decode cX1_fill 63 = .ok (.getfield 9, 3) := by decide +kernel
theorem dX1_fill_66 : decode cX1_fill 66 = .ok (.iload 4, 2) := by decide +kernel
theorem dX1_fill_68 : decode cX1_fill 68 = .ok (.iconst 1, 1) := by decide +kernel
theorem dX1_fill_69 : decode cX1_fill 69 = .ok (.isub, 1) := by decide +kernel
theorem dX1_fill_70 : decode cX1_fill 70 = .ok (.laload, 1) := by decide +kernel
theorem dX1_fill_71 : decode cX1_fill 71 = .ok (.iload_n 2, 1) := by decide +kernel
theorem dX1_fill_72 : decode cX1_fill 72 = .ok (.i2l, 1) := by decide +kernel
theorem dX1_fill_73 : decode cX1_fill 73 = .ok (.lmul, 1) := by decide +kernel
theorem dX1_fill_74 : decode cX1_fill 74 = .ok (.ladd, 1) := by decide +kernel
theorem dX1_fill_75 : decode cX1_fill 75 = .ok (.lastore, 1) := by decide +kernel
theorem dX1_fill_76 : decode cX1_fill 76 = .ok (.iinc 4 (-1), 3) := by decide +kernel
theorem dX1_fill_79 : decode cX1_fill 79 = .ok (.goto (-42), 3) := by decide +kernel
theorem dX1_fill_82 : decode cX1_fill 82 = .ok (.aload_n 0, 1) := by decide +kernel
theorem dX1_fill_83 : decode cX1_fill 83 = .ok (.getfield 9, 3) := by decide +kernel
theorem dX1_fill_86 : decode cX1_fill 86 = .ok (.iconst 0, 1) := by decide +kernel
theorem dX1_fill_87 : decode cX1_fill 87 = .ok (.aload_n 0, 1) := by decide +kernel
theorem dX1_fill_88 : decode cX1_fill 88 = .ok (.getfield 9, 3) := by decide +kernel
theorem dX1_fill_91 : decode cX1_fill 91 = .ok (.iconst 0, 1) := by decide +kernel
theorem dX1_fill_92 : decode cX1_fill 92 = .ok (.laload, 1) := by decide +kernel
theorem dX1_fill_93 : decode cX1_fill 93 = .ok (.bipush 10, 2) := by decide +kernel
theorem dX1_fill_95 : decode cX1_fill 95 = .ok (.iload_n 2, 1) := by decide +kernel
theorem dX1_fill_96 : decode cX1_fill 96 = .ok (.isub, 1) := by decide +kernel
theorem dX1_fill_97 : decode cX1_fill 97 = .ok (.i2l, 1) := by decide +kernel
theorem dX1_fill_98 : decode cX1_fill 98 = .ok (.lmul, 1) := by decide +kernel
theorem dX1_fill_99 : decode cX1_fill 99 = .ok (.lastore, 1) := by decide +kernel
theorem dX1_fill_100 : decode cX1_fill 100 = .ok (.iinc 3 1, 3) := by decide +kernel
theorem dX1_fill_103 : decode cX1_fill 103 = .ok (.goto (-74), 3) := by decide +kernel
theorem dX1_fill_106 : decode cX1_fill 106 = .ok (.return_, 1) := by decide +kernel
set_option maxRecDepth 20000 in
theorem ggX2_init_X2_empty : GoodIn wsX2_init wsX2_empty := goodIn_r _ [16, 17, 18, 19, 20, 21, 22, 23, 24, 25, 26, 27, 28, 29, 30, 31, 32, 33] (by decide +kernel) (by decide +kernel)
set_option maxRecDepth 20000 in
theorem gX2_init_X2_empty : GoodIn wsX2_init (wsV RX2 33 RX2 yX2_empty wsX2_empty) := goodIn_app (goodIn_of _ (by decide +kernel)) ggX2_init_X2_empty
theorem dX2_init_0 : decode cX2_init 0 = .ok (.aload_n 0, 1) := by decide +kernel
theorem dX2_init_1 : decode cX2_init 1 = .ok (.invokespecial 3, 3) := by decide +kernel
theorem dX2_init_4 : decode cX2_init 4 = .ok (.aload_n 0, 1) := by decide +kernel
theorem dX2_init_5 : decode cX2_init 5 = .ok (.bipush 6, 2) := by decide +kernel
theorem dX2_init_7 : decode cX2_init 7 = .ok (.newarray .int, 2) := by decide +kernel
theorem dX2_init_9 : decode cX2_init 9 = .ok (.putfield 9, 3) := by decide +kernel
theorem dX2_init_12 : decode cX2_init 12 = .ok (.aload_n 0, 1) := by decide +kernel
theorem dX2_init_13 : decode cX2_init 13 = .ok (.bipush 6, 2) := by decide +kernel
theorem dX2_init_15 : decode cX2_init 15 = .ok (.newarray .int, 2) := by decide +kernel
theorem dX2_init_17 : decode cX2_init 17 = .ok (.putfield 15, 3) := by decide +kernel
theorem dX2_init_20 : decode cX2_init 20 = .ok (.aload_n 0, 1) := by decide +kernel
theorem dX2_init_21 : decode cX2_init 21 = .ok (.bipush 6, 2) := by decide +kernel
theorem dX2_init_23 : decode cX2_init 23 = .ok (.newarray .int, 2) := by decide +kernel
theorem dX2_init_25 : decode cX2_init 25 = .ok (.putfield 18, 3) := by decide +kernel
theorem dX2_init_28 : decode cX2_init 28 = .ok (.aload_n 0, 1) := by decide +kernel
theorem dX2_init_29 : decode cX2_init 29 = .ok (.bipush 6, 2) := by decide +kernel
theorem dX2_init_31 : decode cX2_init 31 = .ok (.newarray .int, 2) := by decide +kernel
theorem dX2_init_33 : decode cX2_init 33 = .ok (.putfield 21, 3) := by decide +kernel
theorem dX2_init_36 : decode cX2_init 36 = .ok (.aload_n 0, 1) := by decide +kernel
theorem dX2_init_37 : decode cX2_init 37 = .ok (.bipush 6, 2) := by decide +kernel
theorem dX2_init_39 : decode cX2_init 39 = .ok (.newarray .int, 2) := by decide +kernel
theorem dX2_init_41 : decode cX2_init 41 = .ok (.putfield 24, 3) := by decide +kernel
theorem dX2_init_44 : decode cX2_init 44 = .ok (.aload_n 0, 1) := by decide +kernel
theorem dX2_init_45 : decode cX2_init 45 = .ok (.bipush 6, 2) := by decide +kernel
theorem dX2_init_47 : decode cX2_init 47 = .ok (.newarray .int, 2) := by decide +kernel
theorem dX2_init_49 : decode cX2_init 49 = .ok (.putfield 27, 3) := by decide +kernel
theorem dX2_init_52 : decode cX2_init 52 = .ok (.aload_n 0, 1) := by decide +kernel
theorem dX2_init_53 : decode cX2_init 53 = .ok (.bipush 6, 2) := by decide +kernel
theorem dX2_init_55 : decode cX2_init 55 = .ok (.newarray .int, 2) := by decide +kernel
theorem dX2_init_57 : decode cX2_init 57 = .ok (.putfield 30, 3) := by decide +kernel
theorem dX2_init_60 : decode cX2_init 60 = .ok (.aload_n 0, 1) := by decide +kernel
theorem dX2_init_61 : decode cX2_init 61 = .ok (.invokevirtual 33, 3) := by decide +kernel
theorem dX2_init_64 : decode cX2_init 64 = .ok (.return_, 1) := by decide +kernel
theorem dX2_empty_0 : decode cX2_empty 0 = .ok (.aload_n 0, 1) := by decide +kernel
theorem dX2_empty_1 : decode cX2_empty 1 = .ok (.iconst 2, 1) := by decide +kernel
theorem dX2_empty_2 : decode cX2_empty 2 = .ok (.putfield 36, 3) := by decide +kernel
theorem dX2_empty_5 : decode cX2_empty 5 = .ok (.aload_n 0, 1) := by decide +kernel
theorem dX2_empty_6 : decode cX2_empty 6 = .ok (.bipush 6, 2) := by decide +kernel
theorem dX2_empty_8 : decode cX2_empty 8 = .ok (.putfield 40, 3) := by decide +kernel
theorem dX2_empty_11 : decode cX2_empty 11 = .ok (.aload_n 0, 1) := by decide +kernel
theorem dX2_empty_12 : decode cX2_empty 12 = .ok (.iconst 2, 1) := by decide +kernel
theorem dX2_empty_13 : decode cX2_empty 13 = .ok (.putfield 43, 3) := by decide +kernel
theorem dX2_empty_16 : decode cX2_empty 16 = .ok (.aload_n 0, 1) := by decide +kernel
theorem dX2_empty_17 : decode cX2_empty 17 = .ok (.iconst 0, 1) := by decide +kernel
theorem dX2_empty_18 : decode cX2_empty 18 = .ok (.putfield 46, 3) := by decide +kernel
theorem dX2_empty_21 : decode cX2_empty 21 = .ok (.aload_n 0, 1) := by decide +kernel
theorem dX2_empty_22 : decode cX2_empty 22 = .ok (.iconst 0, 1) := by decide +kernel
theorem dX2_empty_23 : decode cX2_empty 23 = .ok (.putfield 49, 3) := by decide +kernel
theorem dX2_empty_26 : decode cX2_empty 26 = .ok (.return_, 1) := by decide +kernel
theorem dX2_become_0 : decode cX2_become 0 = .ok (.aload_n 0, 1) := by decide +kernel
theorem dX2_become_1 : decode cX2_become 1 = .ok (.aload_n 1, 1) := by decide +kernel
theorem dX2_become_2 : decode cX2_become 2 = .ok (.getfield 36, 3) := by decide +kernel
theorem dX2_become_5 : decode cX2_become 5 = .ok (.putfield 36, 3) := by decide +kernel
theorem dX2_become_8 : decode cX2_become 8 = .ok (.aload_n 0, 1) := by decide +kernel
theorem dX2_become_9 : decode cX2_become 9 = .ok (.aload_n 1, 1) := by decide +kernel
theorem dX2_become_10 : decode cX2_become 10 = .ok (.getfield 40, 3) := by decide +kernel
theorem dX2_become_13 : decode cX2_become 13 = .ok (.putfield 40, 3) := by decide +kernel
theorem dX2_become_16 : decode cX2_become 16 = .ok (.aload_n 0, 1) := by decide +kernel
theorem dX2_become_17 : decode cX2_become 17 = .ok (.aload_n 1, 1) := by decide +kernel
theorem dX2_become_18 : decode cX2_become 18 = .ok (.getfield 43, 3) := by decide +kernel
theorem dX2_become_21 : decode cX2_become 21 = .ok (.putfield 43, 3) := by decide +kernel
theorem dX2_become_24 : decode cX2_become 24 = .ok (.aload_n 0, 1) := by decide +kernel
theorem dX2_become_25 : decode cX2_become 25 = .ok (.aload_n 1, 1) := by decide +kernel
theorem dX2_become_26 : decode cX2_become 26 = .ok (.getfield 46, 3) := by decide +kernel
theorem dX2_become_29 : decode cX2_become 29 = .ok (.putfield 46, 3) := by decide +kernel
theorem dX2_become_32 : decode cX2_become 32 = .ok (.iconst 0, 1) := by decide +kernel
theorem dX2_become_33 : decode cX2_become 33 = .ok (.istore_n 2, 1) := by decide +kernel
theorem dX2_become_34 : decode cX2_become 34 = .ok (.iload_n 2, 1) := by decide +kernel
theorem dX2_become_35 : decode cX2_become 35 = .ok (.aload_n 0, 1) := by decide +kernel
theorem dX2_become_36 : decode cX2_become 36 = .ok (.getfield 46, 3) := by decide +kernel
theorem dX2_become_39 : decode cX2_become 39 = .ok (.if_icmp .ge 45, 3) := by decide +kernel
theorem dX2_become_42 : decode cX2_become 42 = .ok (.aload_n 0, 1) := by decide +kernel
theorem dX2_become_43 : decode cX2_become 43 = .ok (.getfield 9, 3) := by decide +kernel
theorem dX2_become_46 : decode cX2_become 46 = .ok (.iload_n 2, 1) := by decide +kernel
theorem dX2_become_47 : decode cX2_become 47 = .ok (.aload_n 1, 1) := by decide +kernel
theorem dX2_become_48 : decode cX2_become 48 = .ok (.getfield 9, 3) := by decide +kernel
theorem dX2_become_51 : decode cX2_become 51 = .ok (.iload_n 2, 1) := by decide +kernel
theorem dX2_become_52 : decode cX2_become 52 = .ok (.iaload, 1) := by decide +kernel
theorem dX2_become_53 : decode cX2_become 53 = .ok (.iastore, 1) := by decide +kernel
theorem dX2_become_54 : decode cX2_become 54 = .ok (.aload_n 0, 1) := by decide +kernel
theorem dX2_become_55 : decode cX2_become 55 = .ok (.getfield 15, 3) := by decide +kernel
theorem dX2_become_58 : decode cX2_become 58 = .ok (.iload_n 2, 1) := by decide +kernel
theorem dX2_become_59 : decode cX2_become 59 = .ok (.aload_n 1, 1) := by decide +kernel
theorem dX2_become_60 : decode cX2_become 60 = .ok (.getfield 15, 3) := by decide +kernel
theorem dX2_become_63 : decode cX2_become 63 = .ok (.iload_n 2, 1) := by decide +kernel
theorem dX2_become_64 : decode cX2_become 64 = .ok (.iaload, 1) := by decide +kernel
theorem dX2_become_65 : decode cX2_become 65 = .ok (.iastore, 1) := by decide +kernel
theorem dX2_become_66 : decode cX2_become 66 = .ok (.aload_n 0, 1) := by decide +kernel
theorem dX2_become_67 : decode cX2_become 67 = .ok (.getfield 18, 3) := by decide +kernel
theorem dX2_become_70 : decode cX2_become 70 = .ok (.iload_n 2, 1) := by decide +kernel
theorem dX2_become_71 : decode cX2_become 71 = .ok (.aload_n 1, 1) := by decide +kernel
theorem dX2_become_72 : decode cX2_become 72 = .ok (.getfield 18, 3) := by decide +kernel
theorem dX2_become_75 : decode cX2_become 75 = .ok (.iload_n 2, 1) := by decide +kernel
theorem dX2_become_76 : decode cX2_become 76 = .ok (.iaload, 1) := by decide +kernel
theorem dX2_become_77 : decode cX2_become 77 = .ok (.iastore, 1) := by decide +kernel
theorem dX2_become_78 : decode cX2_become 78 = .ok (.iinc 2 1, 3) := by decide +kernel
theorem dX2_become_81 : decode cX2_become 81 = .ok (.goto (-47), 3) := by decide +kernel
theorem dX2_become_84 : decode cX2_become 84 = .ok (.aload_n 0, 1) := by decide +kernel
theorem dX2_become_85 : decode cX2_become 85 = .ok (.aload_n 1, 1) := by decide +kernel
theorem dX2_become_86 : decode cX2_become 86 = .ok (.getfield 49, 3) := by decide +kernel
theorem dX2_become_89 : decode cX2_become 89 = .ok (.putfield 49, 3) := by decide +kernel
theorem dX2_become_92 : decode cX2_become 92 = .ok (.iconst 0, 1) := by decide +kernel
theorem dX2_become_93 : decode cX2_become 93 = .ok (.istore_n 2, 1) := by decide +kernel
theorem dX2_become_94 : decode cX2_become 94 = .ok (.iload_n 2, 1) := by decide +kernel
theorem dX2_become_95 : decode cX2_become 95 = .ok (.aload_n 0, 1) := by decide +kernel
theorem dX2_become_96 : decode cX2_become 96 = .ok (.getfield 49, 3) := by decide +kernel
theorem dX2_become_99 : decode cX2_become 99 = .ok (.if_icmp .ge 57, 3) := by decide +kernel
theorem dX2_become_102 : decode cX2_become 102 = .ok (.aload_n 0, 1) := by decide +kernel
theorem dX2_become_103 : decode cX2_become 103 = .ok (.getfield 21, 3) := by decide +kernel
theorem dX2_become_106 : decode cX2_become 106 = .ok (.iload_n 2, 1) := by decide +kernel
theorem dX2_become_107 : decode cX2_become 107 = .ok (.aload_n 1, 1) := by decide +kernel
theorem dX2_become_108 : decode cX2_become 108 = .ok (.getfield 21, 3) := by decide +kernel
theorem dX2_become_111 : decode cX2_become 111 = .ok (.iload_n 2, 1) := by decide +kernel
theorem dX2_become_112 : decode cX2_become 112 = .ok (.iaload, 1) := by decide +kernel
theorem dX2_become_113 : decode cX2_become 113 = .ok (.iastore, 1) := by decide +kernel
theorem dX2_become_114 : decode cX2_become 114 = .ok (.aload_n 0, 1) := by decide +kernel
theorem dX2_become_115 : decode cX2_become 115 = .ok (.getfield 24, 3) := by decide +kernel
theorem dX2_become_118 : decode cX2_become 118 = .ok (.iload_n 2, 1) := by decide +kernel
theorem dX2_become_119 : decode cX2_become 119 = .ok (.aload_n 1, 1) := by decide +kernel
theorem dX2_become_120 : decode cX2_become 120 = .ok (.getfield 24, 3) := by decide +kernel
theorem dX2_become_123 : decode cX2_become 123 = .ok (.iload_n 2, 1) := by decide +kernel
theorem dX2_become_124 : decode cX2_become 124 = .ok (.iaload, 1) := by decide +kernel
theorem dX2_become_125 : decode cX2_become 125 = .ok (.iastore, 1) := by decide +kernel
theorem dX2_become_126 : decode cX2_become 126 = .ok (.aload_n 0, 1) := by decide +kernel
theorem dX2_become_127 : decode cX2_become 127 = .ok (.getfield 27, 3) := by decide +kernel
theorem dX2_become_130 : decode cX2_become 130 = .ok (.iload_n 2, 1) := by decide +kernel
theorem dX2_become_131 : decode cX2_become 131 = .ok (.aload_n 1, 1) := by decide +kernel
theorem dX2_become_132 : decode cX2_become 132 = .ok (.getfield 27, 3) := by decide +kernel
theorem dX2_become_135 : decode cX2_become 135 = .ok (.iload_n 2, 1) := by decide +kernel
theorem dX2_become_136 : decode cX2_become 136 = .ok (.iaload, 1) := by decide +kernel
theorem dX2_become_137 : decode cX2_become 137 = .ok (.iastore, 1) := by decide +kernel
theorem dX2_become_138 : decode cX2_become 138 = .ok (.aload_n 0, 1) := by decide +kernel
theorem dX2_become_139 : decode cX2_become 139 = .ok (.getfield 30, 3) := by decide +kernel
theorem dX2_become_142 : decode cX2_become 142 = .ok (.iload_n 2, 1) := by decide +kernel
theorem dX2_become_143 : decode cX2_become 143 = .ok (.aload_n 1, 1) := by decide +kernel
theorem dX2_become_144 : decode cX2_become 144 = .ok (.getfield 30, 3) := by decide +kernel
theorem dX2_become_147 : decode cX2_become 147 = .ok (.iload_n 2, 1) := by decide +kernel
theorem dX2_become_148 : decode cX2_become 148 = .ok (.iaload, 1) := by decide +kernel
theorem dX2_become_149 : decode cX2_become 149 = .ok (.iastore, 1) := by decide +kernel
theorem dX2_become_150 : decode cX2_become 150 = .ok (.iinc 2 1, 3) := by decide +kernel
theorem dX2_become_153 : decode cX2_become 153 = .ok (.goto (-59), 3) := by decide +kernel
theorem dX2_become_156 : decode cX2_become 156 = .ok (.return_, 1) := by decide +kernel
theorem dX2_addStall_0 : decode cX2_addStall 0 = .ok (.aload_n 0, 1) := by decide +kernel
theorem dX2_addStall_1 : decode cX2_addStall 1 = .ok (.getfield 46, 3) := by decide +kernel
theorem dX2_addStall_4 : decode cX2_addStall 4 = .ok (.bipush 6, 2) := by decide +kernel
theorem dX2_addStall_6 : decode cX2_addStall 6 = .ok (.if_icmp .ge 43, 3) := by decide +kernel
theorem dX2_addStall_9 : decode cX2_addStall 9 = .ok (.aload_n 0, 1) := by decide +kernel
theorem dX2_addStall_10 : decode cX2_addStall 10 = .ok (.getfield 9, 3) := by decide +kernel
theorem dX2_addStall_13 : decode cX2_addStall 13 = .ok (.aload_n 0, 1) := by decide +kernel
theorem dX2_addStall_14 : decode cX2_addStall 14 = .ok (.getfield 46, 3) := by decide +kernel
theorem dX2_addStall_17 : decode cX2_addStall 17 = .ok (.iload_n 1, 1) := by decide +kernel
theorem dX2_addStall_18 : decode cX2_addStall 18 = .ok (.iastore, 1) := by decide +kernel
theorem dX2_addStall_19 : decode cX2_addStall 19 = .ok (.aload_n 0, 1) := by decide +kernel
theorem dX2_addStall_20 : decode cX2_addStall 20 = .ok (.getfield 15, 3) := by decide +kernel
theorem dX2_addStall_23 : decode cX2_addStall 23 = .ok (.aload_n 0, 1) := by decide +kernel
theorem dX2_addStall_24 : decode cX2_addStall 24 = .ok (.getfield 46, 3) := by decide +kernel
theorem dX2_addStall_27 : decode cX2_addStall 27 = .ok (.iload_n 2, 1) := by decide +kernel
theorem dX2_addStall_28 : decode cX2_addStall 28 = .ok (.iastore, 1) := by decide +kernel
theorem dX2_addStall_29 : decode cX2_addStall 29 = .ok (.aload_n 0, 1) := by decide +kernel
theorem dX2_addStall_30 : decode cX2_addStall 30 = .ok (.getfield 18, 3) := by decide +kernel
theorem dX2_addStall_33 : decode cX2_addStall 33 = .ok (.aload_n 0, 1) := by decide +kernel
theorem dX2_addStall_34 : decode cX2_addStall 34 = .ok (.getfield 46, 3) := by decide +kernel
theorem dX2_addStall_37 : decode cX2_addStall 37 = .ok (.iload_n 3, 1) := by decide +kernel
theorem dX2_addStall_38 : decode cX2_addStall 38 = .ok (.iastore, 1) := by decide +kernel
theorem dX2_addStall_39 : decode cX2_addStall 39 = .ok (.aload_n 0, 1) := by decide +kernel
theorem dX2_addStall_40 : decode cX2_addStall 40 = .ok (.dup, 1) := by decide +kernel
theorem dX2_addStall_41 : decode cX2_addStall 41 = .ok (.getfield 46, 3) := by decide +kernel
theorem dX2_addStall_44 : decode cX2_addStall 44 = .ok (.iconst 1, 1) := by decide +kernel
theorem dX2_addStall_45 : decode cX2_addStall 45 = .ok (.iadd, 1) := by decide +kernel
theorem dX2_addStall_46 : decode cX2_addStall 46 = .ok (.putfield 46, 3) := by decide +kernel
theorem dX2_addStall_49 : decode cX2_addStall 49 = .ok (.return_, 1) := by decide +kernel
theorem dX2_addWay_0 : decode cX2_addWay 0 = .ok (.aload_n 0, 1) := by decide +kernel
theorem dX2_addWay_1 : decode cX2_addWay 1 = .ok (.getfield 49, 3) := by decide +kernel
theorem dX2_addWay_4 : decode cX2_addWay 4 = .ok (.bipush 6, 2) := by decide +kernel
theorem dX2_addWay_6 : decode cX2_addWay 6 = .ok (.if_icmp .ge 54, 3) := by decide +kernel
theorem dX2_addWay_9 : decode cX2_addWay 9 = .ok (.aload_n 0, 1) := by decide +kernel
theorem dX2_addWay_10 : decode cX2_addWay 10 = .ok (.getfield 21, 3) := by decide +kernel
theorem dX2_addWay_13 : decode cX2_addWay 13 = .ok (.aload_n 0, 1) := by decide +kernel
theorem dX2_addWay_14 : decode cX2_addWay 14 = .ok (.getfield 49, 3) := by decide +kernel
theorem dX2_addWay_17 : decode cX2_addWay 17 = .ok (.iload_n 1, 1) := by decide +kernel
theorem dX2_addWay_18 : decode cX2_addWay 18 = .ok (.iastore, 1) := by decide +kernel
theorem dX2_addWay_19 : decode cX2_addWay 19 = .ok (.aload_n 0, 1) := by decide +kernel
theorem dX2_addWay_20 : decode cX2_addWay 20 = .ok (.getfield 24, 3) := by decide +kernel
theorem dX2_addWay_23 : decode cX2_addWay 23 = .ok (.aload_n 0, 1) := by decide +kernel
theorem dX2_addWay_24 : decode cX2_addWay 24 = .ok (.getfield 49, 3) := by decide +kernel
theorem dX2_addWay_27 : decode cX2_addWay 27 = .ok (.iload_n 2, 1) := by decide +kernel
theorem dX2_addWay_28 : decode cX2_addWay 28 = .ok (.iastore, 1) := by decide +kernel
theorem dX2_addWay_29 : decode cX2_addWay 29 = .ok (.aload_n 0, 1) := by decide +kernel
theorem dX2_addWay_30 : decode cX2_addWay 30 = .ok (.getfield 27, 3) := by decide +kernel
theorem dX2_addWay_33 : decode cX2_addWay 33 = .ok (.aload_n 0, 1) := by decide +kernel
theorem dX2_addWay_34 : decode cX2_addWay 34 = .ok (.getfield 49, 3) := by decide +kernel
theorem dX2_addWay_37 : decode cX2_addWay 37 = .ok (.iload_n 3, 1) := by decide +kernel
theorem dX2_addWay_38 : decode cX2_addWay 38 = .ok (.iastore, 1) := by decide +kernel
theorem dX2_addWay_39 : decode cX2_addWay 39 = .ok (.aload_n 0, 1) := by decide +kernel
theorem dX2_addWay_40 : decode cX2_addWay 40 = .ok (.getfield 30, 3) := by decide +kernel
theorem dX2_addWay_43 : decode cX2_addWay 43 = .ok (.aload_n 0, 1) := by decide +kernel
theorem dX2_addWay_44 : decode cX2_addWay 44 = .ok (.getfield 49, 3) := by decide +kernel
theorem dX2_addWay_47 : decode cX2_addWay 47 = .ok (.iload 4, 2) := by decide +kernel
theorem dX2_addWay_49 : decode cX2_addWay 49 = .ok (.iastore, 1) := by decide +kernel
theorem dX2_addWay_50 : decode cX2_addWay 50 = .ok (.aload_n 0, 1) := by decide +kernel
theorem dX2_addWay_51 : decode cX2_addWay 51 = .ok (.dup, 1) := by decide +kernel
theorem dX2_addWay_52 : decode cX2_addWay 52 = .ok (.getfield 49, 3) := by decide +kernel
theorem dX2_addWay_55 : decode cX2_addWay 55 = .ok (.iconst 1, 1) := by decide +kernel
theorem dX2_addWay_56 : decode cX2_addWay 56 = .ok (.iadd, 1) := by decide +kernel
theorem dX2_addWay_57 : decode cX2_addWay 57 = .ok (.putfield 49, 3) := by decide +kernel
theorem dX2_addWay_60 : decode cX2_addWay 60 = .ok (.return_, 1) := by decide +kernel
set_option maxRecDepth 20000 in
theorem ggX2_nearestSteps_J9_floorDiv_7cf53 : GoodIn wsX2_nearestSteps wsJ9_floorDiv_7cf53 := goodIn_r _ [5] (by decide +kernel) (by decide +kernel)
set_option maxRecDepth 20000 in
theorem gX2_nearestSteps_J9_floorDiv_7cf53 : GoodIn wsX2_nearestSteps (va_wsS RX2 52 yJ9_floorDiv_7cf53 wsJ9_floorDiv_7cf53) := goodIn_app (goodIn_of _ (by decide +kernel)) ggX2_nearestSteps_J9_floorDiv_7cf53
theorem dX2_nearestSteps_0 : decode cX2_nearestSteps 0 = .ok (.aload_n 0, 1) := by decide +kernel
theorem dX2_nearestSteps_1 : decode cX2_nearestSteps 1 = .ok (.getfield 9, 3) := by decide +kernel
theorem dX2_nearestSteps_4 : decode cX2_nearestSteps 4 = .ok (.iload_n 1, 1) := by decide +kernel
theorem dX2_nearestSteps_5 : decode cX2_nearestSteps 5 = .ok (.iaload, 1) := by decide +kernel
theorem dX2_nearestSteps_6 : decode cX2_nearestSteps 6 = .ok (.istore_n 3, 1) := by decide +kernel
theorem dX2_nearestSteps_7 : decode cX2_nearestSteps 7 = .ok (.iload_n 3, 1) := by decide +kernel
theorem dX2_nearestSteps_8 : decode cX2_nearestSteps 8 = .ok (.ifCond .gt 7, 3) := by decide +kernel
theorem dX2_nearestSteps_11 : decode cX2_nearestSteps 11 = .ok (.iconst 0, 1) := by decide +kernel
theorem dX2_nearestSteps_12 : decode cX2_nearestSteps 12 = .ok (.goto 14, 3) := by decide +kernel
theorem dX2_nearestSteps_15 : decode cX2_nearestSteps 15 = .ok (.iconst 2, 1) := by decide +kernel
theorem dX2_nearestSteps_16 : decode cX2_nearestSteps 16 = .ok (.iload_n 2, 1) := by decide +kernel
theorem dX2_nearestSteps_17 : decode cX2_nearestSteps 17 = .ok (.imul, 1) := by decide +kernel
theorem dX2_nearestSteps_18 : decode cX2_nearestSteps 18 = .ok (.iload_n 3, 1) := by decide +kernel
theorem dX2_nearestSteps_19 : decode cX2_nearestSteps 19 = .ok (.iadd, 1) := by decide +kernel
theorem dX2_nearestSteps_20 : decode cX2_nearestSteps 20 = .ok (.iconst 2, 1) := by decide +kernel
theorem dX2_nearestSteps_21 : decode cX2_nearestSteps 21 = .ok (.iload_n 3, 1) := by decide +kernel
theorem dX2_nearestSteps_22 : decode cX2_nearestSteps 22 = .ok (.imul, 1) := by decide +kernel
theorem dX2_nearestSteps_23 : decode cX2_nearestSteps 23 = .ok (.invokestatic 52, 3) := by decide +kernel
theorem dX2_nearestSteps_26 : decode cX2_nearestSteps 26 = .ok (.ireturn, 1) := by decide +kernel
theorem dX2_tenthsFrom_0 : decode cX2_tenthsFrom 0 = .ok (.iload_n 1, 1) := by decide +kernel
theorem dX2_tenthsFrom_1 : decode cX2_tenthsFrom 1 = .ok (.iconst (-1), 1) := by decide +kernel
theorem dX2_tenthsFrom_2 : decode cX2_tenthsFrom 2 = .ok (.if_icmp .gt 18, 3) := by decide +kernel
theorem dX2_tenthsFrom_5 : decode cX2_tenthsFrom 5 = .ok (.aload_n 0, 1) := by decide +kernel
theorem dX2_tenthsFrom_6 : decode cX2_tenthsFrom 6 = .ok (.getfield 36, 3) := by decide +kernel
theorem dX2_tenthsFrom_9 : decode cX2_tenthsFrom 9 = .ok (.aload_n 0, 1) := by decide +kernel
theorem dX2_tenthsFrom_10 : decode cX2_tenthsFrom 10 = .ok (.getfield 40, 3) := by decide +kernel
theorem dX2_tenthsFrom_13 : decode cX2_tenthsFrom 13 = .ok (.iadd, 1) := by decide +kernel
theorem dX2_tenthsFrom_14 : decode cX2_tenthsFrom 14 = .ok (.aload_n 0, 1) := by decide +kernel
theorem dX2_tenthsFrom_15 : decode cX2_tenthsFrom 15 = .ok (.getfield 43, 3) := by decide +kernel
theorem dX2_tenthsFrom_18 : decode cX2_tenthsFrom 18 = .ok (.iadd, 1) := by decide +kernel
theorem dX2_tenthsFrom_19 : decode cX2_tenthsFrom 19 = .ok (.ireturn, 1) := by decide +kernel
theorem dX2_tenthsFrom_20 : decode cX2_tenthsFrom 20 = .ok (.iload_n 1, 1) := by decide +kernel
theorem dX2_tenthsFrom_21 : decode cX2_tenthsFrom 21 = .ok (.ifCond .ne 13, 3) := by decide +kernel
theorem dX2_tenthsFrom_24 : decode cX2_tenthsFrom 24 = .ok (.aload_n 0, 1) := by decide +kernel
theorem dX2_tenthsFrom_25 : decode cX2_tenthsFrom 25 = .ok (.getfield 40, 3) := by decide +kernel
theorem dX2_tenthsFrom_28 : decode cX2_tenthsFrom 28 = .ok (.aload_n 0, 1) := by decide +kernel
theorem dX2_tenthsFrom_29 : decode cX2_tenthsFrom 29 = .ok (.getfield 43, 3) := by decide +kernel
theorem dX2_tenthsFrom_32 : decode cX2_tenthsFrom 32 = .ok (.iadd, 1) := by decide +kernel
theorem dX2_tenthsFrom_33 : decode cX2_tenthsFrom 33 = .ok (.ireturn, 1) := by decide +kernel
theorem dX2_tenthsFrom_34 : decode cX2_tenthsFrom 34 = .ok (.iload_n 1, 1) := by decide +kernel
theorem dX2_tenthsFrom_35 : decode cX2_tenthsFrom 35 = .ok (.iconst 1, 1) := by decide +kernel
theorem dX2_tenthsFrom_36 : decode cX2_tenthsFrom 36 = .ok (.if_icmp .ne 10, 3) := by decide +kernel
theorem dX2_tenthsFrom_39 : decode cX2_tenthsFrom 39 = .ok (.aload_n 0, 1) := by decide +kernel
theorem dX2_tenthsFrom_40 : decode cX2_tenthsFrom 40 = .ok (.getfield 43, 3) := by decide +kernel
theorem dX2_tenthsFrom_43 : decode cX2_tenthsFrom 43 = .ok (.goto 4, 3) := by decide +kernel
theorem dX2_tenthsFrom_46 : decode cX2_tenthsFrom 46 = .ok (.iconst 0, 1) := by decide +kernel
theorem dX2_tenthsFrom_47 : decode cX2_tenthsFrom 47 = .ok (.ireturn, 1) := by decide +kernel
set_option maxRecDepth 20000 in
theorem ggX2_howOften_X2_stepsMore : GoodIn wsX2_howOften wsX2_stepsMore := goodIn_r _ [6, 7, 8, 26, 27, 28, 29, 30, 31, 32, 33, 34, 35, 36, 37] (by decide +kernel) (by decide +kernel)
set_option maxRecDepth 20000 in
theorem gX2_howOften_X2_stepsMore : GoodIn wsX2_howOften (wsV RX2 58 RX2 yX2_stepsMore wsX2_stepsMore) := goodIn_app (goodIn_of _ (by decide +kernel)) ggX2_howOften_X2_stepsMore
set_option maxRecDepth 20000 in
theorem ggX2_howOften_X2_honestly : GoodIn wsX2_howOften wsX2_honestly := goodIn_r _ [12, 13, 14, 15, 26, 27, 28, 29, 30, 31, 32, 33, 34, 35, 36, 37] (by decide +kernel) (by decide +kernel)
set_option maxRecDepth 20000 in
theorem gX2_howOften_X2_honestly : GoodIn wsX2_howOften (wsV RX2 61 RX2 yX2_honestly wsX2_honestly) := goodIn_app (goodIn_of _ (by decide +kernel)) ggX2_howOften_X2_honestly
set_option maxRecDepth 20000 in
theorem ggX2_howOften_X2_byThumb : GoodIn wsX2_howOften wsX2_byThumb := goodIn_r _ [19, 20, 21, 9, 10, 11, 5, 12, 13, 14, 15, 2, 3, 4, 6, 7, 8, 26, 27, 28, 29, 30, 31, 32, 33, 34, 35, 36, 37] (by decide +kernel) (by decide +kernel)
set_option maxRecDepth 20000 in
theorem gX2_howOften_X2_byThumb : GoodIn wsX2_howOften (wsV RX2 65 RX2 yX2_byThumb wsX2_byThumb) := goodIn_app (goodIn_of _ (by decide +kernel)) ggX2_howOften_X2_byThumb
set_option maxRecDepth 20000 in
theorem ggX2_howOften_X2_rounded : GoodIn wsX2_howOften wsX2_rounded := goodIn_r _ [25, 13, 14, 15, 26, 27, 28, 29, 30, 31, 32, 33, 34, 35, 36, 37] (by decide +kernel) (by decide +kernel)
set_option maxRecDepth 20000 in
theorem gX2_howOften_X2_rounded : GoodIn wsX2_howOften (wsV RX2 69 RX2 yX2_rounded wsX2_rounded) := goodIn_app (goodIn_of _ (by decide +kernel)) ggX2_howOften_X2_rounded
theorem dX2_howOften_0 : decode cX2_howOften 0 = .ok (.aload_n 0, 1) := by decide +kernel
theorem dX2_howOften_1 : decode cX2_howOften 1 = .ok (.getfield 21, 3) := by decide +kernel
theorem dX2_howOften_4 : decode cX2_howOften 4 = .ok (.iload_n 1, 1) := by decide +kernel
theorem dX2_howOften_5 : decode cX2_howOften 5 = .ok (.iaload, 1) := by decide +kernel
theorem dX2_howOften_6 : decode cX2_howOften 6 = .ok (.tableswitch 57 1 3 #[26, 40, 50], 26) := by decide +kernel
theorem dX2_howOften_32 : decode cX2_howOften 32 = .ok (.aload_n 0, 1) := by decide +kernel
theorem dX2_howOften_33 : decode cX2_howOften 33 = .ok (.iload 4, 2) := by decide +kernel
theorem dX2_howOften_35 : decode cX2_howOften 35 = .ok (.aload_n 0, 1) := by decide +kernel
theorem dX2_howOften_36 : decode cX2_howOften 36 = .ok (.iload_n 1, 1) := by decide +kernel
theorem dX2_howOften_37 : decode cX2_howOften 37 = .ok (.iload_n 2, 1) := by decide +kernel
theorem dX2_howOften_38 : decode cX2_howOften 38 = .ok (.invokevirtual 58, 3) := by decide +kernel
theorem dX2_howOften_41 : decode cX2_howOften 41 = .ok (.isub, 1) := by decide +kernel
theorem dX2_howOften_42 : decode cX2_howOften 42 = .ok (.invokevirtual 61, 3) := by decide +kernel
theorem dX2_howOften_45 : decode cX2_howOften 45 = .ok (.ireturn, 1) := by decide +kernel
theorem dX2_howOften_46 : decode cX2_howOften 46 = .ok (.aload_n 0, 1) := by decide +kernel
theorem dX2_howOften_47 : decode cX2_howOften 47 = .ok (.iload_n 1, 1) := by decide +kernel
theorem dX2_howOften_48 : decode cX2_howOften 48 = .ok (.iload_n 2, 1) := by decide +kernel
theorem dX2_howOften_49 : decode cX2_howOften 49 = .ok (.iload_n 3, 1) := by decide +kernel
theorem dX2_howOften_50 : decode cX2_howOften 50 = .ok (.iload 4, 2) := by decide +kernel
theorem dX2_howOften_52 : decode cX2_howOften 52 = .ok (.invokevirtual 65, 3) := by decide +kernel
theorem dX2_howOften_55 : decode cX2_howOften 55 = .ok (.ireturn, 1) := by decide +kernel
theorem dX2_howOften_56 : decode cX2_howOften 56 = .ok (.aload_n 0, 1) := by decide +kernel
theorem dX2_howOften_57 : decode cX2_howOften 57 = .ok (.iload 4, 2) := by decide +kernel
theorem dX2_howOften_59 : decode cX2_howOften 59 = .ok (.invokevirtual 69, 3) := by decide +kernel
theorem dX2_howOften_62 : decode cX2_howOften 62 = .ok (.ireturn, 1) := by decide +kernel
theorem dX2_howOften_63 : decode cX2_howOften 63 = .ok (.aload_n 0, 1) := by decide +kernel
theorem dX2_howOften_64 : decode cX2_howOften 64 = .ok (.iload 4, 2) := by decide +kernel
theorem dX2_howOften_66 : decode cX2_howOften 66 = .ok (.invokevirtual 61, 3) := by decide +kernel
theorem dX2_howOften_69 : decode cX2_howOften 69 = .ok (.ireturn, 1) := by decide +kernel
theorem dX2_honestly_0 : decode cX2_honestly 0 = .ok (.iload_n 1, 1) := by decide +kernel
theorem dX2_honestly_1 : decode cX2_honestly 1 = .ok (.tableswitch 51 (-1) 1 #[27, 35, 43], 27) := by decide +kernel
theorem dX2_honestly_28 : decode cX2_honestly 28 = .ok (.aload_n 0, 1) := by decide +kernel
theorem dX2_honestly_29 : decode cX2_honestly 29 = .ok (.getfield 36, 3) := by decide +kernel
theorem dX2_honestly_32 : decode cX2_honestly 32 = .ok (.bipush 60, 2) := by decide +kernel
theorem dX2_honestly_34 : decode cX2_honestly 34 = .ok (.imul, 1) := by decide +kernel
theorem dX2_honestly_35 : decode cX2_honestly 35 = .ok (.ireturn, 1) := by decide +kernel
theorem dX2_honestly_36 : decode cX2_honestly 36 = .ok (.aload_n 0, 1) := by decide +kernel
theorem dX2_honestly_37 : decode cX2_honestly 37 = .ok (.getfield 40, 3) := by decide +kernel
theorem dX2_honestly_40 : decode cX2_honestly 40 = .ok (.bipush 60, 2) := by decide +kernel
theorem dX2_honestly_42 : decode cX2_honestly 42 = .ok (.imul, 1) := by decide +kernel
theorem dX2_honestly_43 : decode cX2_honestly 43 = .ok (.ireturn, 1) := by decide +kernel
theorem dX2_honestly_44 : decode cX2_honestly 44 = .ok (.aload_n 0, 1) := by decide +kernel
theorem dX2_honestly_45 : decode cX2_honestly 45 = .ok (.getfield 43, 3) := by decide +kernel
theorem dX2_honestly_48 : decode cX2_honestly 48 = .ok (.bipush 60, 2) := by decide +kernel
theorem dX2_honestly_50 : decode cX2_honestly 50 = .ok (.imul, 1) := by decide +kernel
theorem dX2_honestly_51 : decode cX2_honestly 51 = .ok (.ireturn, 1) := by decide +kernel
theorem dX2_honestly_52 : decode cX2_honestly 52 = .ok (.iconst 0, 1) := by decide +kernel
theorem dX2_honestly_53 : decode cX2_honestly 53 = .ok (.ireturn, 1) := by decide +kernel
set_option maxRecDepth 20000 in
theorem ggX2_byThumb_X2_honestly : GoodIn wsX2_byThumb wsX2_honestly := goodIn_r _ [7, 8, 9, 10, 17, 18, 19, 20, 21, 22, 23, 24, 25, 26, 27, 28] (by decide +kernel) (by decide +kernel)
set_option maxRecDepth 20000 in
theorem gX2_byThumb_X2_honestly : GoodIn wsX2_byThumb (wsV RX2 61 RX2 yX2_honestly wsX2_honestly) := goodIn_app (goodIn_of _ (by decide +kernel)) ggX2_byThumb_X2_honestly
set_option maxRecDepth 20000 in
theorem ggX2_byThumb_X2_stepsMore : GoodIn wsX2_byThumb wsX2_stepsMore := goodIn_r _ [14, 15, 16, 17, 18, 19, 20, 21, 22, 23, 24, 25, 26, 27, 28] (by decide +kernel) (by decide +kernel)
set_option maxRecDepth 20000 in
theorem gX2_byThumb_X2_stepsMore : GoodIn wsX2_byThumb (wsV RX2 58 RX2 yX2_stepsMore wsX2_stepsMore) := goodIn_app (goodIn_of _ (by decide +kernel)) ggX2_byThumb_X2_stepsMore
theorem dX2_byThumb_0 : decode cX2_byThumb 0 = .ok (.aload_n 0, 1) := by decide +kernel
theorem dX2_byThumb_1 : decode cX2_byThumb 1 = .ok (.getfield 27, 3) := by decide +kernel
theorem dX2_byThumb_4 : decode cX2_byThumb 4 = .ok (.iload_n 1, 1) := by decide +kernel
theorem dX2_byThumb_5 : decode cX2_byThumb 5 = .ok (.iaload, 1) := by decide +kernel
theorem dX2_byThumb_6 : decode cX2_byThumb 6 = .ok (.istore 5, 2) := by decide +kernel
theorem dX2_byThumb_8 : decode cX2_byThumb 8 = .ok (.aload_n 0, 1) := by decide +kernel
theorem dX2_byThumb_9 : decode cX2_byThumb 9 = .ok (.getfield 30, 3) := by decide +kernel
theorem dX2_byThumb_12 : decode cX2_byThumb 12 = .ok (.iload_n 1, 1) := by decide +kernel
theorem dX2_byThumb_13 : decode cX2_byThumb 13 = .ok (.iaload, 1) := by decide +kernel
theorem dX2_byThumb_14 : decode cX2_byThumb 14 = .ok (.iload_n 3, 1) := by decide +kernel
theorem dX2_byThumb_15 : decode cX2_byThumb 15 = .ok (.ishr, 1) := by decide +kernel
theorem dX2_byThumb_16 : decode cX2_byThumb 16 = .ok (.iconst 1, 1) := by decide +kernel
theorem dX2_byThumb_17 : decode cX2_byThumb 17 = .ok (.iand, 1) := by decide +kernel
theorem dX2_byThumb_18 : decode cX2_byThumb 18 = .ok (.ifCond .eq 8, 3) := by decide +kernel
theorem dX2_byThumb_21 : decode cX2_byThumb 21 = .ok (.iload 5, 2) := by decide +kernel
theorem dX2_byThumb_23 : decode cX2_byThumb 23 = .ok (.ifCond .gt 10, 3) := by decide +kernel
theorem dX2_byThumb_26 : decode cX2_byThumb 26 = .ok (.aload_n 0, 1) := by decide +kernel
theorem dX2_byThumb_27 : decode cX2_byThumb 27 = .ok (.iload 4, 2) := by decide +kernel
theorem dX2_byThumb_29 : decode cX2_byThumb 29 = .ok (.invokevirtual 61, 3) := by decide +kernel
theorem dX2_byThumb_32 : decode cX2_byThumb 32 = .ok (.ireturn, 1) := by decide +kernel
theorem dX2_byThumb_33 : decode cX2_byThumb 33 = .ok (.aload_n 0, 1) := by decide +kernel
theorem dX2_byThumb_34 : decode cX2_byThumb 34 = .ok (.iload 4, 2) := by decide +kernel
theorem dX2_byThumb_36 : decode cX2_byThumb 36 = .ok (.aload_n 0, 1) := by decide +kernel
theorem dX2_byThumb_37 : decode cX2_byThumb 37 = .ok (.iload_n 1, 1) := by decide +kernel
theorem dX2_byThumb_38 : decode cX2_byThumb 38 = .ok (.iload_n 2, 1) := by decide +kernel
theorem dX2_byThumb_39 : decode cX2_byThumb 39 = .ok (.invokevirtual 58, 3) := by decide +kernel
theorem dX2_byThumb_42 : decode cX2_byThumb 42 = .ok (.isub, 1) := by decide +kernel
theorem dX2_byThumb_43 : decode cX2_byThumb 43 = .ok (.invokevirtual 61, 3) := by decide +kernel
theorem dX2_byThumb_46 : decode cX2_byThumb 46 = .ok (.iload 5, 2) := by decide +kernel
theorem dX2_byThumb_48 : decode cX2_byThumb 48 = .ok (.iconst 1, 1) := by decide +kernel
theorem dX2_byThumb_49 : decode cX2_byThumb 49 = .ok (.isub, 1) := by decide +kernel
theorem dX2_byThumb_50 : decode cX2_byThumb 50 = .ok (.aload_n 0, 1) := by decide +kernel
theorem dX2_byThumb_51 : decode cX2_byThumb 51 = .ok (.iload 4, 2) := by decide +kernel
theorem dX2_byThumb_53 : decode cX2_byThumb 53 = .ok (.invokevirtual 61, 3) := by decide +kernel
theorem dX2_byThumb_56 : decode cX2_byThumb 56 = .ok (.imul, 1) := by decide +kernel
theorem dX2_byThumb_57 : decode cX2_byThumb 57 = .ok (.iadd, 1) := by decide +kernel
theorem dX2_byThumb_58 : decode cX2_byThumb 58 = .ok (.iload 5, 2) := by decide +kernel
theorem dX2_byThumb_60 : decode cX2_byThumb 60 = .ok (.idiv, 1) := by decide +kernel
theorem dX2_byThumb_61 : decode cX2_byThumb 61 = .ok (.ireturn, 1) := by decide +kernel
theorem dX2_rounded_0 : decode cX2_rounded 0 = .ok (.iload_n 1, 1) := by decide +kernel
theorem dX2_rounded_1 : decode cX2_rounded 1 = .ok (.lookupswitch 48 #[(0, 27), (1, 40)], 27) := by decide +kernel
theorem dX2_rounded_28 : decode cX2_rounded 28 = .ok (.aload_n 0, 1) := by decide +kernel
theorem dX2_rounded_29 : decode cX2_rounded 29 = .ok (.getfield 36, 3) := by decide +kernel
theorem dX2_rounded_32 : decode cX2_rounded 32 = .ok (.aload_n 0, 1) := by decide +kernel
theorem dX2_rounded_33 : decode cX2_rounded 33 = .ok (.getfield 40, 3) := by decide +kernel
theorem dX2_rounded_36 : decode cX2_rounded 36 = .ok (.iadd, 1) := by decide +kernel
theorem dX2_rounded_37 : decode cX2_rounded 37 = .ok (.bipush 60, 2) := by decide +kernel
theorem dX2_rounded_39 : decode cX2_rounded 39 = .ok (.imul, 1) := by decide +kernel
theorem dX2_rounded_40 : decode cX2_rounded 40 = .ok (.ireturn, 1) := by decide +kernel
theorem dX2_rounded_41 : decode cX2_rounded 41 = .ok (.aload_n 0, 1) := by decide +kernel
theorem dX2_rounded_42 : decode cX2_rounded 42 = .ok (.getfield 43, 3) := by decide +kernel
theorem dX2_rounded_45 : decode cX2_rounded 45 = .ok (.bipush 60, 2) := by decide +kernel
theorem dX2_rounded_47 : decode cX2_rounded 47 = .ok (.imul, 1) := by decide +kernel
theorem dX2_rounded_48 : decode cX2_rounded 48 = .ok (.ireturn, 1) := by decide +kernel
theorem dX2_rounded_49 : decode cX2_rounded 49 = .ok (.iconst 0, 1) := by decide +kernel
theorem dX2_rounded_50 : decode cX2_rounded 50 = .ok (.ireturn, 1) := by decide +kernel
theorem dX2_stepsMore_0 : decode cX2_stepsMore 0 = .ok (.aload_n 0, 1) := by decide +kernel
theorem dX2_stepsMore_1 : decode cX2_stepsMore 1 = .ok (.getfield 9, 3) := by decide +kernel
theorem dX2_stepsMore_4 : decode cX2_stepsMore 4 = .ok (.iload_n 2, 1) := by decide +kernel
theorem dX2_stepsMore_5 : decode cX2_stepsMore 5 = .ok (.iaload, 1) := by decide +kernel
theorem dX2_stepsMore_6 : decode cX2_stepsMore 6 = .ok (.istore_n 3, 1) := by decide +kernel
theorem dX2_stepsMore_7 : decode cX2_stepsMore 7 = .ok (.iload_n 3, 1) := by decide +kernel
theorem dX2_stepsMore_8 : decode cX2_stepsMore 8 = .ok (.ifCond .gt 7, 3) := by decide +kernel
theorem dX2_stepsMore_11 : decode cX2_stepsMore 11 = .ok (.iconst 0, 1) := by decide +kernel
theorem dX2_stepsMore_12 : decode cX2_stepsMore 12 = .ok (.goto 15, 3) := by decide +kernel
theorem dX2_stepsMore_15 : decode cX2_stepsMore 15 = .ok (.aload_n 0, 1) := by decide +kernel
theorem dX2_stepsMore_16 : decode cX2_stepsMore 16 = .ok (.getfield 24, 3) := by decide +kernel
theorem dX2_stepsMore_19 : decode cX2_stepsMore 19 = .ok (.iload_n 1, 1) := by decide +kernel
theorem dX2_stepsMore_20 : decode cX2_stepsMore 20 = .ok (.iaload, 1) := by decide +kernel
theorem dX2_stepsMore_21 : decode cX2_stepsMore 21 = .ok (.iload_n 3, 1) := by decide +kernel
theorem dX2_stepsMore_22 : decode cX2_stepsMore 22 = .ok (.iadd, 1) := by decide +kernel
theorem dX2_stepsMore_23 : decode cX2_stepsMore 23 = .ok (.iconst 1, 1) := by decide +kernel
theorem dX2_stepsMore_24 : decode cX2_stepsMore 24 = .ok (.isub, 1) := by decide +kernel
theorem dX2_stepsMore_25 : decode cX2_stepsMore 25 = .ok (.iload_n 3, 1) := by decide +kernel
theorem dX2_stepsMore_26 : decode cX2_stepsMore 26 = .ok (.idiv, 1) := by decide +kernel
theorem dX2_stepsMore_27 : decode cX2_stepsMore 27 = .ok (.ireturn, 1) := by decide +kernel
theorem dX3_init_0 : decode cX3_init 0 = .ok (.aload_n 0, 1) := by decide +kernel
theorem dX3_init_1 : decode cX3_init 1 = .ok (.invokespecial 3, 3) := by decide +kernel
theorem dX3_init_4 : decode cX3_init 4 = .ok (.aload_n 0, 1) := by decide +kernel
theorem dX3_init_5 : decode cX3_init 5 = .ok (.aload_n 1, 1) := by decide +kernel
theorem dX3_init_6 : decode cX3_init 6 = .ok (.putfield 9, 3) := by decide +kernel
theorem dX3_init_9 : decode cX3_init 9 = .ok (.aload_n 0, 1) := by decide +kernel
theorem dX3_init_10 : decode cX3_init 10 = .ok (.aload_n 2, 1) := by decide +kernel
theorem dX3_init_11 : decode cX3_init 11 = .ok (.putfield 15, 3) := by decide +kernel
theorem dX3_init_14 : decode cX3_init 14 = .ok (.return_, 1) := by decide +kernel
set_option maxRecDepth 20000 in
theorem ggX3_read_X2_empty : GoodIn wsX3_read wsX2_empty := goodIn_r _ [16, 17, 18, 19, 20, 21, 155, 156, 157, 158, 159, 160, 161, 162, 163, 164, 165, 166] (by decide +kernel) (by decide +kernel)
set_option maxRecDepth 20000 in
theorem gX3_read_X2_empty : GoodIn wsX3_read (wsV RX3 36 RX2 yX2_empty wsX2_empty) := goodIn_app (goodIn_of _ (by decide +kernel)) ggX3_read_X2_empty
set_option maxRecDepth 20000 in
theorem ggX3_read_X3_next : GoodIn wsX3_read wsX3_next := goodIn_r _ [26, 8, 11, 6, 1, 10, 27, 28, 29, 25, 30, 31, 32, 33, 34, 35, 146, 147, 148, 149, 150, 151, 152, 153, 154] (by decide +kernel) (by decide +kernel)
set_option maxRecDepth 20000 in
theorem gX3_read_X3_next : GoodIn wsX3_read (wsV RX3 41 RX3 yX3_next wsX3_next) := goodIn_app (goodIn_of _ (by decide +kernel)) ggX3_read_X3_next
set_option maxRecDepth 20000 in
theorem ggX3_read_X3_readItem : GoodIn wsX3_read wsX3_readItem := goodIn_r _ [39, 7, 9, 40, 41, 10, 42, 43, 44, 25, 45, 46, 47, 48, 49, 8, 11, 1, 50, 51, 52, 53, 54, 55, 56, 57, 58, 59, 60, 61, 62, 63, 64, 65, 66, 67, 68, 69, 70, 71, 72, 73, 74, 75, 76, 77, 78, 79, 80, 81, 82, 83, 84, 85, 86, 87, 88, 89, 90, 91, 92, 93, 94, 95, 96, 97, 98, 22, 23, 24, 26, 6, 27, 28, 29, 30, 31, 32, 33, 34, 35, 99, 100, 101, 102, 103, 104, 105, 106, 107, 108, 109, 110, 111, 112, 113, 114, 115, 116, 117, 15, 118, 20, 119, 120, 121, 122, 123, 124, 125, 126, 127, 128, 129, 130, 131, 132, 133, 134, 135, 136, 137, 21, 138, 139, 140, 141, 142, 143, 144, 145, 146, 147, 148, 149, 150, 151, 152, 153, 154, 155, 156, 157, 158, 159, 160, 161, 162, 163, 164, 165, 166] (by decide +kernel) (by decide +kernel)
set_option maxRecDepth 20000 in
theorem gX3_read_X3_readItem : GoodIn wsX3_read (wsV RX3 47 RX3 yX3_readItem wsX3_readItem) := goodIn_app (goodIn_of _ (by decide +kernel)) ggX3_read_X3_readItem
theorem dX3_read_0 : decode cX3_read 0 = .ok (.aload_n 0, 1) := by decide +kernel
theorem dX3_read_1 : decode cX3_read 1 = .ok (.iload_n 1, 1) := by decide +kernel
theorem dX3_read_2 : decode cX3_read 2 = .ok (.aload_n 0, 1) := by decide +kernel
theorem dX3_read_3 : decode cX3_read 3 = .ok (.getfield 9, 3) := by decide +kernel
theorem dX3_read_6 : decode cX3_read 6 = .ok (.arraylength, 1) := by decide +kernel
theorem dX3_read_7 : decode cX3_read 7 = .ok (.invokestatic 19, 3) := by decide +kernel
theorem dX3_read_10 : decode cX3_read 10 = .ok (.putfield 25, 3) := by decide +kernel
theorem dX3_read_13 : decode cX3_read 13 = .ok (.aload_n 0, 1) := by decide +kernel
theorem dX3_read_14 : decode cX3_read 14 = .ok (.iconst 0, 1) := by decide +kernel
theorem dX3_read_15 : decode cX3_read 15 = .ok (.putfield 29, 3) := by decide +kernel
theorem dX3_read_18 : decode cX3_read 18 = .ok (.aload_n 0, 1) := by decide +kernel
theorem dX3_read_19 : decode cX3_read 19 = .ok (.iconst 0, 1) := by decide +kernel
theorem dX3_read_20 : decode cX3_read 20 = .ok (.putfield 33, 3) := by decide +kernel
theorem dX3_read_23 : decode cX3_read 23 = .ok (.aload_n 0, 1) := by decide +kernel
theorem dX3_read_24 : decode cX3_read 24 = .ok (.getfield 15, 3) := by decide +kernel
theorem dX3_read_27 : decode cX3_read 27 = .ok (.invokevirtual 36, 3) := by decide +kernel
theorem dX3_read_30 : decode cX3_read 30 = .ok (.aload_n 0, 1) := by decide +kernel
theorem dX3_read_31 : decode cX3_read 31 = .ok (.invokevirtual 41, 3) := by decide +kernel
theorem dX3_read_34 : decode cX3_read 34 = .ok (.iconst 0, 1) := by decide +kernel
theorem dX3_read_35 : decode cX3_read 35 = .ok (.istore_n 2, 1) := by decide +kernel
theorem dX3_read_36 : decode cX3_read 36 = .ok (.iload_n 2, 1) := by decide +kernel
theorem dX3_read_37 : decode cX3_read 37 = .ok (.aload_n 0, 1) := by decide +kernel
theorem dX3_read_38 : decode cX3_read 38 = .ok (.getfield 25, 3) := by decide +kernel
theorem dX3_read_41 : decode cX3_read 41 = .ok (.if_icmp .ge 31, 3) := by decide +kernel
theorem dX3_read_44 : decode cX3_read 44 = .ok (.aload_n 0, 1) := by decide +kernel
theorem dX3_read_45 : decode cX3_read 45 = .ok (.getfield 44, 3) := by decide +kernel
theorem dX3_read_48 : decode cX3_read 48 = .ok (.ifCond .eq 24, 3) := by decide +kernel
theorem dX3_read_51 : decode cX3_read 51 = .ok (.aload_n 0, 1) := by decide +kernel
theorem dX3_read_52 : decode cX3_read 52 = .ok (.invokevirtual 47, 3) := by decide +kernel
theorem dX3_read_55 : decode cX3_read 55 = .ok (.ifCond .ne 11, 3) := by decide +kernel
theorem dX3_read_58 : decode cX3_read 58 = .ok (.bipush (-10), 2) := by decide +kernel
theorem dX3_read_60 : decode cX3_read 60 = .ok (.aload_n 0, 1) := by decide +kernel
theorem dX3_read_61 : decode cX3_read 61 = .ok (.getfield 51, 3) := by decide +kernel
theorem dX3_read_64 : decode cX3_read 64 = .ok (.isub, 1) := by decide +kernel
theorem dX3_read_65 : decode cX3_read 65 = .ok (.ireturn, 1) := by decide +kernel
theorem dX3_read_66 : decode cX3_read 66 = .ok (.iinc 2 1, 3) := by decide +kernel
theorem dX3_read_69 : decode cX3_read 69 = .ok (.goto (-33), 3) := by decide +kernel
theorem dX3_read_72 : decode cX3_read 72 = .ok (.iload_n 2, 1) := by decide +kernel
theorem dX3_read_73 : decode cX3_read 73 = .ok (.ireturn, 1) := by decide +kernel
set_option maxRecDepth 20000 in
theorem ggX3_readItem_X3_takeWord : GoodIn wsX3_readItem wsX3_takeWord := goodIn_r _ [10, 11, 12, 13, 9, 14, 5, 15, 16, 17, 18, 19, 20, 21, 22, 23, 24, 25, 26, 27, 28, 29, 30, 31, 32, 33, 34, 35, 36, 37, 38, 39, 40, 41, 42, 43, 44, 45, 46, 47, 48, 49, 50, 51, 52, 53, 54, 55, 56, 57, 58, 59, 60, 61, 62, 63, 64, 65, 66, 67, 68, 69, 70, 71, 72, 73, 74, 75, 76, 77, 78, 79, 80, 131, 132, 133, 134, 135, 136, 137, 138, 139] (by decide +kernel) (by decide +kernel)
set_option maxRecDepth 20000 in
theorem gX3_readItem_X3_takeWord : GoodIn wsX3_readItem (wsV RX3 56 RX3 yX3_takeWord wsX3_takeWord) := goodIn_app (goodIn_of _ (by decide +kernel)) ggX3_readItem_X3_takeWord
set_option maxRecDepth 20000 in
theorem ggX3_readItem_X3_readLuck : GoodIn wsX3_readItem wsX3_readLuck := goodIn_r _ [84, 1, 2, 85, 86, 87, 88, 89, 90, 91, 9, 92, 5, 80, 67, 68, 69, 70, 15, 16, 71, 17, 72, 73, 74, 75, 76, 77, 78, 79, 131, 132, 133, 134, 135, 136, 137, 138, 139, 140, 141, 142, 143, 144, 145, 146, 147, 148, 149, 150, 151] (by decide +kernel) (by decide +kernel)
set_option maxRecDepth 20000 in
theorem gX3_readItem_X3_readLuck : GoodIn wsX3_readItem (wsV RX3 60 RX3 yX3_readLuck wsX3_readLuck) := goodIn_app (goodIn_of _ (by decide +kernel)) ggX3_readItem_X3_readLuck
set_option maxRecDepth 20000 in
theorem ggX3_readItem_X3_readStall : GoodIn wsX3_readItem wsX3_readStall := goodIn_r _ [96, 85, 2, 89, 90, 91, 9, 92, 5, 80, 67, 68, 69, 70, 15, 16, 71, 17, 72, 73, 74, 75, 76, 77, 78, 79, 97, 98, 99, 100, 101, 102, 103, 104, 105, 131, 132, 133, 134, 135, 136, 137, 138, 139, 140, 141, 142, 143, 144, 145, 146, 147, 148, 149, 150, 151] (by decide +kernel) (by decide +kernel)
set_option maxRecDepth 20000 in
theorem gX3_readItem_X3_readStall : GoodIn wsX3_readItem (wsV RX3 68 RX3 yX3_readStall wsX3_readStall) := goodIn_app (goodIn_of _ (by decide +kernel)) ggX3_readItem_X3_readStall
set_option maxRecDepth 20000 in
theorem ggX3_readItem_X3_readThumb : GoodIn wsX3_readItem wsX3_readThumb := goodIn_r _ [109, 85, 2, 89, 90, 91, 9, 92, 5, 80, 67, 68, 69, 70, 15, 16, 71, 17, 72, 73, 74, 75, 76, 77, 78, 79, 6, 7, 8, 10, 11, 12, 13, 14, 18, 19, 20, 21, 22, 23, 24, 25, 26, 27, 28, 29, 30, 31, 32, 33, 34, 35, 36, 37, 38, 39, 40, 41, 42, 43, 44, 45, 46, 47, 48, 49, 50, 51, 52, 53, 54, 55, 56, 57, 58, 59, 60, 61, 62, 63, 64, 65, 66, 110, 111, 112, 113, 114, 115, 116, 117, 118, 119, 120, 100, 121, 122, 123, 124, 125, 126, 131, 132, 133, 134, 135, 136, 137, 138, 139, 140, 141, 142, 143, 144, 145, 146, 147, 148, 149, 150, 151] (by decide +kernel) (by decide +kernel)
set_option maxRecDepth 20000 in
theorem gX3_readItem_X3_readThumb : GoodIn wsX3_readItem (wsV RX3 78 RX3 yX3_readThumb wsX3_readThumb) := goodIn_app (goodIn_of _ (by decide +kernel)) ggX3_readItem_X3_readThumb
set_option maxRecDepth 20000 in
theorem ggX3_readItem_X3_readOtherWay : GoodIn wsX3_readItem wsX3_readOtherWay := goodIn_r _ [130, 2, 85, 6, 7, 8, 9, 10, 11, 12, 13, 14, 5, 15, 16, 17, 18, 19, 20, 21, 22, 23, 24, 25, 26, 27, 28, 29, 30, 31, 32, 33, 34, 35, 36, 37, 38, 39, 40, 41, 42, 43, 44, 45, 46, 47, 48, 49, 50, 51, 52, 53, 54, 55, 56, 57, 58, 59, 60, 61, 62, 63, 64, 65, 66, 67, 68, 69, 70, 71, 72, 73, 74, 75, 76, 77, 78, 79, 80, 118, 119, 120, 100, 121, 122, 123, 124, 125, 126, 89, 90, 91, 92, 131, 132, 133, 134, 135, 136, 137, 138, 139, 140, 141, 142, 143, 144, 145, 146, 147, 148, 149, 150, 151] (by decide +kernel) (by decide +kernel)
set_option maxRecDepth 20000 in
theorem gX3_readItem_X3_readOtherWay : GoodIn wsX3_readItem (wsV RX3 81 RX3 yX3_readOtherWay wsX3_readOtherWay) := goodIn_app (goodIn_of _ (by decide +kernel)) ggX3_readItem_X3_readOtherWay
set_option maxRecDepth 20000 in
theorem ggX3_readItem_X3_next : GoodIn wsX3_readItem wsX3_next := goodIn_r _ [70, 15, 16, 71, 17, 5, 72, 73, 74, 9, 75, 76, 77, 78, 79, 80, 131, 132, 133, 134, 135, 136, 137, 138, 139] (by decide +kernel) (by decide +kernel)
set_option maxRecDepth 20000 in
theorem gX3_readItem_X3_next : GoodIn wsX3_readItem (wsV RX3 41 RX3 yX3_next wsX3_next) := goodIn_app (goodIn_of _ (by decide +kernel)) ggX3_readItem_X3_next
theorem dX3_readItem_0 : decode cX3_readItem 0 = .ok (.iconst 0, 1) := by decide +kernel
theorem dX3_readItem_1 : decode cX3_readItem 1 = .ok (.istore_n 1, 1) := by decide +kernel
theorem dX3_readItem_2 : decode cX3_readItem 2 = .ok (.aload_n 0, 1) := by decide +kernel
theorem dX3_readItem_3 : decode cX3_readItem 3 = .ok (.getfield 29, 3) := by decide +kernel
theorem dX3_readItem_6 : decode cX3_readItem 6 = .ok (.ifCond .ne 20, 3) := by decide +kernel
theorem dX3_readItem_9 : decode cX3_readItem 9 = .ok (.aload_n 0, 1) := by decide +kernel
theorem dX3_readItem_10 : decode cX3_readItem 10 = .ok (.ldc 54, 2) := by decide +kernel
theorem dX3_readItem_12 : decode cX3_readItem 12 = .ok (.invokevirtual 56, 3) := by decide +kernel
theorem dX3_readItem_15 : decode cX3_readItem 15 = .ok (.ifCond .eq 11, 3) := by decide +kernel
theorem dX3_readItem_18 : decode cX3_readItem 18 = .ok (.aload_n 0, 1) := by decide +kernel
theorem dX3_readItem_19 : decode cX3_readItem 19 = .ok (.invokevirtual 60, 3) := by decide +kernel
theorem dX3_readItem_22 : decode cX3_readItem 22 = .ok (.istore_n 1, 1) := by decide +kernel
theorem dX3_readItem_23 : decode cX3_readItem 23 = .ok (.goto 74, 3) := by decide +kernel
theorem dX3_readItem_26 : decode cX3_readItem 26 = .ok (.aload_n 0, 1) := by decide +kernel
theorem dX3_readItem_27 : decode cX3_readItem 27 = .ok (.getfield 15, 3) := by decide +kernel
theorem dX3_readItem_30 : decode cX3_readItem 30 = .ok (.getfield 63, 3) := by decide +kernel
theorem dX3_readItem_33 : decode cX3_readItem 33 = .ok (.bipush 6, 2) := by decide +kernel
theorem dX3_readItem_35 : decode cX3_readItem 35 = .ok (.if_icmp .ge 20, 3) := by decide +kernel
theorem dX3_readItem_38 : decode cX3_readItem 38 = .ok (.aload_n 0, 1) := by decide +kernel
theorem dX3_readItem_39 : decode cX3_readItem 39 = .ok (.ldc 66, 2) := by decide +kernel
theorem dX3_readItem_41 : decode cX3_readItem 41 = .ok (.invokevirtual 56, 3) := by decide +kernel
theorem dX3_readItem_44 : decode cX3_readItem 44 = .ok (.ifCond .eq 11, 3) := by decide +kernel
theorem dX3_readItem_47 : decode cX3_readItem 47 = .ok (.aload_n 0, 1) := by decide +kernel
theorem dX3_readItem_48 : decode cX3_readItem 48 = .ok (.invokevirtual 68, 3) := by decide +kernel
theorem dX3_readItem_51 : decode cX3_readItem 51 = .ok (.istore_n 1, 1) := by decide +kernel
theorem dX3_readItem_52 : decode cX3_readItem 52 = .ok (.goto 45, 3) := by decide +kernel
theorem dX3_readItem_55 : decode cX3_readItem 55 = .ok (.aload_n 0, 1) := by decide +kernel
theorem dX3_readItem_56 : decode cX3_readItem 56 = .ok (.getfield 15, 3) := by decide +kernel
theorem dX3_readItem_59 : decode cX3_readItem 59 = .ok (.getfield 71, 3) := by decide +kernel
theorem dX3_readItem_62 : decode cX3_readItem 62 = .ok (.bipush 6, 2) := by decide +kernel
theorem dX3_readItem_64 : decode cX3_readItem 64 = .ok (.if_icmp .ge 33, 3) := by decide +kernel
theorem dX3_readItem_67 : decode cX3_readItem 67 = .ok (.aload_n 0, 1) := by decide +kernel
theorem dX3_readItem_68 : decode cX3_readItem 68 = .ok (.ldc 74, 2) := by decide +kernel
theorem dX3_readItem_70 : decode cX3_readItem 70 = .ok (.invokevirtual 56, 3) := by decide +kernel
theorem dX3_readItem_73 : decode cX3_readItem 73 = .ok (.ifCond .eq 24, 3) := by decide +kernel
theorem dX3_readItem_76 : decode cX3_readItem 76 = .ok (.aload_n 0, 1) := by decide +kernel
theorem dX3_readItem_77 : decode cX3_readItem 77 = .ok (.ldc 76, 2) := by decide +kernel
theorem dX3_readItem_79 : decode cX3_readItem 79 = .ok (.invokevirtual 56, 3) := by decide +kernel
theorem dX3_readItem_82 : decode cX3_readItem 82 = .ok (.ifCond .eq 10, 3) := by decide +kernel
theorem dX3_readItem_85 : decode cX3_readItem 85 = .ok (.aload_n 0, 1) := by decide +kernel
theorem dX3_readItem_86 : decode cX3_readItem 86 = .ok (.invokevirtual 78, 3) := by decide +kernel
theorem dX3_readItem_89 : decode cX3_readItem 89 = .ok (.goto 7, 3) := by decide +kernel
theorem dX3_readItem_92 : decode cX3_readItem 92 = .ok (.aload_n 0, 1) := by decide +kernel
theorem dX3_readItem_93 : decode cX3_readItem 93 = .ok (.invokevirtual 81, 3) := by decide +kernel
theorem dX3_readItem_96 : decode cX3_readItem 96 = .ok (.istore_n 1, 1) := by decide +kernel
theorem dX3_readItem_97 : decode cX3_readItem 97 = .ok (.iload_n 1, 1) := by decide +kernel
theorem dX3_readItem_98 : decode cX3_readItem 98 = .ok (.ifCond .eq 11, 3) := by decide +kernel
theorem dX3_readItem_101 : decode cX3_readItem 101 = .ok (.aload_n 0, 1) := by decide +kernel
theorem dX3_readItem_102 : decode cX3_readItem 102 = .ok (.getfield 44, 3) := by decide +kernel
theorem dX3_readItem_105 : decode cX3_readItem 105 = .ok (.iconst 3, 1) := by decide +kernel
theorem dX3_readItem_106 : decode cX3_readItem 106 = .ok (.if_icmp .eq 5, 3) := by decide +kernel
theorem dX3_readItem_109 : decode cX3_readItem 109 = .ok (.iconst 0, 1) := by decide +kernel
theorem dX3_readItem_110 : decode cX3_readItem 110 = .ok (.ireturn, 1) := by decide +kernel
theorem dX3_readItem_111 : decode cX3_readItem 111 = .ok (.aload_n 0, 1) := by decide +kernel
theorem dX3_readItem_112 : decode cX3_readItem 112 = .ok (.invokevirtual 41, 3) := by decide +kernel
theorem dX3_readItem_115 : decode cX3_readItem 115 = .ok (.iconst 1, 1) := by decide +kernel
theorem dX3_readItem_116 : decode cX3_readItem 116 = .ok (.ireturn, 1) := by decide +kernel
set_option maxRecDepth 20000 in
theorem ggX3_readLuck_X3_takeNumber : GoodIn wsX3_readLuck wsX3_takeNumber := goodIn_r _ [11, 12, 13, 3, 14, 15, 16, 10, 17, 18, 19, 20, 21, 22, 23, 24, 25, 26, 27, 28, 29, 30, 31, 32, 33, 34, 35, 36, 37, 38] (by decide +kernel) (by decide +kernel)
set_option maxRecDepth 20000 in
theorem gX3_readLuck_X3_takeNumber : GoodIn wsX3_readLuck (wsV RX3 84 RX3 yX3_takeNumber wsX3_takeNumber) := goodIn_app (goodIn_of _ (by decide +kernel)) ggX3_readLuck_X3_takeNumber
theorem dX3_readLuck_0 : decode cX3_readLuck 0 = .ok (.aload_n 0, 1) := by decide +kernel
theorem dX3_readLuck_1 : decode cX3_readLuck 1 = .ok (.iconst 1, 1) := by decide +kernel
theorem dX3_readLuck_2 : decode cX3_readLuck 2 = .ok (.putfield 29, 3) := by decide +kernel
theorem dX3_readLuck_5 : decode cX3_readLuck 5 = .ok (.aload_n 0, 1) := by decide +kernel
theorem dX3_readLuck_6 : decode cX3_readLuck 6 = .ok (.iconst 0, 1) := by decide +kernel
theorem dX3_readLuck_7 : decode cX3_readLuck 7 = .ok (.bipush 10, 2) := by decide +kernel
theorem dX3_readLuck_9 : decode cX3_readLuck 9 = .ok (.invokevirtual 84, 3) := by decide +kernel
theorem dX3_readLuck_12 : decode cX3_readLuck 12 = .ok (.ifCond .ne 5, 3) := by decide +kernel
theorem dX3_readLuck_15 : decode cX3_readLuck 15 = .ok (.iconst 0, 1) := by decide +kernel
theorem dX3_readLuck_16 : decode cX3_readLuck 16 = .ok (.ireturn, 1) := by decide +kernel
theorem dX3_readLuck_17 : decode cX3_readLuck 17 = .ok (.aload_n 0, 1) := by decide +kernel
theorem dX3_readLuck_18 : decode cX3_readLuck 18 = .ok (.getfield 15, 3) := by decide +kernel
theorem dX3_readLuck_21 : decode cX3_readLuck 21 = .ok (.aload_n 0, 1) := by decide +kernel
theorem dX3_readLuck_22 : decode cX3_readLuck 22 = .ok (.getfield 88, 3) := by decide +kernel
theorem dX3_readLuck_25 : decode cX3_readLuck 25 = .ok (.putfield 91, 3) := by decide +kernel
theorem dX3_readLuck_28 : decode cX3_readLuck 28 = .ok (.aload_n 0, 1) := by decide +kernel
theorem dX3_readLuck_29 : decode cX3_readLuck 29 = .ok (.iconst 0, 1) := by decide +kernel
theorem dX3_readLuck_30 : decode cX3_readLuck 30 = .ok (.bipush 10, 2) := by decide +kernel
theorem dX3_readLuck_32 : decode cX3_readLuck 32 = .ok (.invokevirtual 84, 3) := by decide +kernel
theorem dX3_readLuck_35 : decode cX3_readLuck 35 = .ok (.ifCond .ne 5, 3) := by decide +kernel
theorem dX3_readLuck_38 : decode cX3_readLuck 38 = .ok (.iconst 0, 1) := by decide +kernel
theorem dX3_readLuck_39 : decode cX3_readLuck 39 = .ok (.ireturn, 1) := by decide +kernel
theorem dX3_readLuck_40 : decode cX3_readLuck 40 = .ok (.aload_n 0, 1) := by decide +kernel
theorem dX3_readLuck_41 : decode cX3_readLuck 41 = .ok (.getfield 15, 3) := by decide +kernel
theorem dX3_readLuck_44 : decode cX3_readLuck 44 = .ok (.aload_n 0, 1) := by decide +kernel
theorem dX3_readLuck_45 : decode cX3_readLuck 45 = .ok (.getfield 88, 3) := by decide +kernel
theorem dX3_readLuck_48 : decode cX3_readLuck 48 = .ok (.putfield 94, 3) := by decide +kernel
theorem dX3_readLuck_51 : decode cX3_readLuck 51 = .ok (.bipush 10, 2) := by decide +kernel
theorem dX3_readLuck_53 : decode cX3_readLuck 53 = .ok (.aload_n 0, 1) := by decide +kernel
theorem dX3_readLuck_54 : decode cX3_readLuck 54 = .ok (.getfield 15, 3) := by decide +kernel
theorem dX3_readLuck_57 : decode cX3_readLuck 57 = .ok (.getfield 91, 3) := by decide +kernel
theorem dX3_readLuck_60 : decode cX3_readLuck 60 = .ok (.isub, 1) := by decide +kernel
theorem dX3_readLuck_61 : decode cX3_readLuck 61 = .ok (.aload_n 0, 1) := by decide +kernel
theorem dX3_readLuck_62 : decode cX3_readLuck 62 = .ok (.getfield 15, 3) := by decide +kernel
theorem dX3_readLuck_65 : decode cX3_readLuck 65 = .ok (.getfield 94, 3) := by decide +kernel
theorem dX3_readLuck_68 : decode cX3_readLuck 68 = .ok (.isub, 1) := by decide +kernel
theorem dX3_readLuck_69 : decode cX3_readLuck 69 = .ok (.istore_n 1, 1) := by decide +kernel
theorem dX3_readLuck_70 : decode cX3_readLuck 70 = .ok (.aload_n 0, 1) := by decide +kernel
theorem dX3_readLuck_71 : decode cX3_readLuck 71 = .ok (.iload_n 1, 1) := by decide +kernel
theorem dX3_readLuck_72 : decode cX3_readLuck 72 = .ok (.iload_n 1, 1) := by decide +kernel
theorem dX3_readLuck_73 : decode cX3_readLuck 73 = .ok (.invokevirtual 84, 3) := by decide +kernel
theorem dX3_readLuck_76 : decode cX3_readLuck 76 = .ok (.ifCond .ne 5, 3) := by decide +kernel
theorem dX3_readLuck_79 : decode cX3_readLuck 79 = .ok (.iconst 0, 1) := by decide +kernel
theorem dX3_readLuck_80 : decode cX3_readLuck 80 = .ok (.ireturn, 1) := by decide +kernel
theorem dX3_readLuck_81 : decode cX3_readLuck 81 = .ok (.aload_n 0, 1) := by decide +kernel
theorem dX3_readLuck_82 : decode cX3_readLuck 82 = .ok (.getfield 15, 3) := by decide +kernel
theorem dX3_readLuck_85 : decode cX3_readLuck 85 = .ok (.aload_n 0, 1) := by decide +kernel
theorem dX3_readLuck_86 : decode cX3_readLuck 86 = .ok (.getfield 88, 3) := by decide +kernel
theorem dX3_readLuck_89 : decode cX3_readLuck 89 = .ok (.putfield 97, 3) := by decide +kernel
theorem dX3_readLuck_92 : decode cX3_readLuck 92 = .ok (.iconst 1, 1) := by decide +kernel
theorem dX3_readLuck_93 : decode cX3_readLuck 93 = .ok (.ireturn, 1) := by decide +kernel
set_option maxRecDepth 20000 in
theorem ggX3_readStall_X3_takeNumber : GoodIn wsX3_readStall wsX3_takeNumber := goodIn_r _ [7, 8, 9, 1, 10, 11, 12, 6, 13, 14, 15, 16, 17, 18, 19, 20, 21, 22, 23, 24, 25, 35, 36, 37, 38, 39, 40, 41, 42, 43] (by decide +kernel) (by decide +kernel)
set_option maxRecDepth 20000 in
theorem gX3_readStall_X3_takeNumber : GoodIn wsX3_readStall (wsV RX3 84 RX3 yX3_takeNumber wsX3_takeNumber) := goodIn_app (goodIn_of _ (by decide +kernel)) ggX3_readStall_X3_takeNumber
set_option maxRecDepth 20000 in
theorem ggX3_readStall_X2_addStall : GoodIn wsX3_readStall wsX2_addStall := goodIn_r _ [30, 31, 32, 33, 34, 44, 45, 46, 47, 48, 49, 50, 51, 52, 53, 54, 55] (by decide +kernel) (by decide +kernel)
set_option maxRecDepth 20000 in
theorem gX3_readStall_X2_addStall : GoodIn wsX3_readStall (wsV RX3 100 RX2 yX2_addStall wsX2_addStall) := goodIn_app (goodIn_of _ (by decide +kernel)) ggX3_readStall_X2_addStall
theorem dX3_readStall_0 : decode cX3_readStall 0 = .ok (.aload_n 0, 1) := by decide +kernel
theorem dX3_readStall_1 : decode cX3_readStall 1 = .ok (.iconst 1, 1) := by decide +kernel
theorem dX3_readStall_2 : decode cX3_readStall 2 = .ok (.bipush 20, 2) := by decide +kernel
theorem dX3_readStall_4 : decode cX3_readStall 4 = .ok (.invokevirtual 84, 3) := by decide +kernel
theorem dX3_readStall_7 : decode cX3_readStall 7 = .ok (.ifCond .ne 5, 3) := by decide +kernel
theorem dX3_readStall_10 : decode cX3_readStall 10 = .ok (.iconst 0, 1) := by decide +kernel
theorem dX3_readStall_11 : decode cX3_readStall 11 = .ok (.ireturn, 1) := by decide +kernel
theorem dX3_readStall_12 : decode cX3_readStall 12 = .ok (.aload_n 0, 1) := by decide +kernel
theorem dX3_readStall_13 : decode cX3_readStall 13 = .ok (.getfield 88, 3) := by decide +kernel
theorem dX3_readStall_16 : decode cX3_readStall 16 = .ok (.istore_n 1, 1) := by decide +kernel
theorem dX3_readStall_17 : decode cX3_readStall 17 = .ok (.aload_n 0, 1) := by decide +kernel
theorem dX3_readStall_18 : decode cX3_readStall 18 = .ok (.iconst 0, 1) := by decide +kernel
theorem dX3_readStall_19 : decode cX3_readStall 19 = .ok (.bipush 9, 2) := by decide +kernel
theorem dX3_readStall_21 : decode cX3_readStall 21 = .ok (.invokevirtual 84, 3) := by decide +kernel
theorem dX3_readStall_24 : decode cX3_readStall 24 = .ok (.ifCond .ne 5, 3) := by decide +kernel
theorem dX3_readStall_27 : decode cX3_readStall 27 = .ok (.iconst 0, 1) := by decide +kernel
theorem dX3_readStall_28 : decode cX3_readStall 28 = .ok (.ireturn, 1) := by decide +kernel
theorem dX3_readStall_29 : decode cX3_readStall 29 = .ok (.aload_n 0, 1) := by decide +kernel
theorem dX3_readStall_30 : decode cX3_readStall 30 = .ok (.getfield 88, 3) := by decide +kernel
theorem dX3_readStall_33 : decode cX3_readStall 33 = .ok (.istore_n 2, 1) := by decide +kernel
theorem dX3_readStall_34 : decode cX3_readStall 34 = .ok (.aload_n 0, 1) := by decide +kernel
theorem dX3_readStall_35 : decode cX3_readStall 35 = .ok (.iconst 0, 1) := by decide +kernel
theorem dX3_readStall_36 : decode cX3_readStall 36 = .ok (.bipush 99, 2) := by decide +kernel
theorem dX3_readStall_38 : decode cX3_readStall 38 = .ok (.invokevirtual 84, 3) := by decide +kernel
theorem dX3_readStall_41 : decode cX3_readStall 41 = .ok (.ifCond .ne 5, 3) := by decide +kernel
theorem dX3_readStall_44 : decode cX3_readStall 44 = .ok (.iconst 0, 1) := by decide +kernel
theorem dX3_readStall_45 : decode cX3_readStall 45 = .ok (.ireturn, 1) := by decide +kernel
theorem dX3_readStall_46 : decode cX3_readStall 46 = .ok (.aload_n 0, 1) := by decide +kernel
theorem dX3_readStall_47 : decode cX3_readStall 47 = .ok (.getfield 15, 3) := by decide +kernel
theorem dX3_readStall_50 : decode cX3_readStall 50 = .ok (.iload_n 1, 1) := by decide +kernel
theorem dX3_readStall_51 : decode cX3_readStall 51 = .ok (.iload_n 2, 1) := by decide +kernel
theorem dX3_readStall_52 : decode cX3_readStall 52 = .ok (.aload_n 0, 1) := by decide +kernel
theorem dX3_readStall_53 : decode cX3_readStall 53 = .ok (.getfield 88, 3) := by decide +kernel
theorem dX3_readStall_56 : decode cX3_readStall 56 = .ok (.invokevirtual 100, 3) := by decide +kernel
theorem dX3_readStall_59 : decode cX3_readStall 59 = .ok (.iconst 1, 1) := by decide +kernel
theorem dX3_readStall_60 : decode cX3_readStall 60 = .ok (.ireturn, 1) := by decide +kernel
set_option maxRecDepth 20000 in
theorem ggX3_readOtherWay_X3_takeWord : GoodIn wsX3_readOtherWay wsX3_takeWord := goodIn_r _ [7, 8, 9, 10, 6, 11, 12, 13, 14, 15, 16, 17, 18, 19, 20, 21, 22, 23, 24, 25, 26, 27, 28, 29, 30, 31, 32, 33, 34, 35, 36, 37, 38, 39, 40, 41, 42, 43, 44, 45, 46, 47, 48, 49, 50, 51, 52, 53, 54, 55, 56, 57, 58, 59, 60, 61, 62, 63, 64, 65, 66, 67, 68, 69, 70, 71, 72, 73, 74, 75, 76, 77, 78, 93, 94, 95, 96, 97, 98, 99, 100, 101] (by decide +kernel) (by decide +kernel)
set_option maxRecDepth 20000 in
theorem gX3_readOtherWay_X3_takeWord : GoodIn wsX3_readOtherWay (wsV RX3 56 RX3 yX3_takeWord wsX3_takeWord) := goodIn_app (goodIn_of _ (by decide +kernel)) ggX3_readOtherWay_X3_takeWord
set_option maxRecDepth 20000 in
theorem ggX3_readOtherWay_X2_addWay : GoodIn wsX3_readOtherWay wsX2_addWay := goodIn_r _ [83, 84, 85, 86, 87, 88, 102, 103, 104, 105, 106, 107, 108, 109, 110, 111, 112, 113] (by decide +kernel) (by decide +kernel)
set_option maxRecDepth 20000 in
theorem gX3_readOtherWay_X2_addWay : GoodIn wsX3_readOtherWay (wsV RX3 106 RX2 yX2_addWay wsX2_addWay) := goodIn_app (goodIn_of _ (by decide +kernel)) ggX3_readOtherWay_X2_addWay
set_option maxRecDepth 20000 in
theorem ggX3_readOtherWay_X3_takeNumber : GoodIn wsX3_readOtherWay wsX3_takeNumber := goodIn_r _ [92, 12, 78, 2, 65, 66, 67, 6, 68, 13, 14, 69, 15, 70, 71, 72, 73, 74, 75, 76, 77, 93, 94, 95, 96, 97, 98, 99, 100, 101] (by decide +kernel) (by decide +kernel)
set_option maxRecDepth 20000 in
theorem gX3_readOtherWay_X3_takeNumber : GoodIn wsX3_readOtherWay (wsV RX3 84 RX3 yX3_takeNumber wsX3_takeNumber) := goodIn_app (goodIn_of _ (by decide +kernel)) ggX3_readOtherWay_X3_takeNumber
theorem dX3_readOtherWay_0 : decode cX3_readOtherWay 0 = .ok (.aload_n 0, 1) := by decide +kernel
theorem dX3_readOtherWay_1 : decode cX3_readOtherWay 1 = .ok (.ldc 104, 2) := by decide +kernel
theorem dX3_readOtherWay_3 : decode cX3_readOtherWay 3 = .ok (.invokevirtual 56, 3) := by decide +kernel
theorem dX3_readOtherWay_6 : decode cX3_readOtherWay 6 = .ok (.ifCond .eq 17, 3) := by decide +kernel
theorem dX3_readOtherWay_9 : decode cX3_readOtherWay 9 = .ok (.aload_n 0, 1) := by decide +kernel
theorem dX3_readOtherWay_10 : decode cX3_readOtherWay 10 = .ok (.getfield 15, 3) := by decide +kernel
theorem dX3_readOtherWay_13 : decode cX3_readOtherWay 13 = .ok (.iconst 0, 1) := by decide +kernel
theorem dX3_readOtherWay_14 : decode cX3_readOtherWay 14 = .ok (.iconst 0, 1) := by decide +kernel
theorem dX3_readOtherWay_15 : decode cX3_readOtherWay 15 = .ok (.iconst 1, 1) := by decide +kernel
theorem dX3_readOtherWay_16 : decode cX3_readOtherWay 16 = .ok (.bipush 15, 2) := by decide +kernel
theorem dX3_readOtherWay_18 : decode cX3_readOtherWay 18 = .ok (.invokevirtual 106, 3) := by decide +kernel
theorem dX3_readOtherWay_21 : decode cX3_readOtherWay 21 = .ok (.iconst 1, 1) := by decide +kernel
theorem dX3_readOtherWay_22 : decode cX3_readOtherWay 22 = .ok (.ireturn, 1) := by decide +kernel
theorem dX3_readOtherWay_23 : decode cX3_readOtherWay 23 = .ok (.aload_n 0, 1) := by decide +kernel
theorem dX3_readOtherWay_24 : decode cX3_readOtherWay 24 = .ok (.ldc 110, 2) := by decide +kernel
theorem dX3_readOtherWay_26 : decode cX3_readOtherWay 26 = .ok (.invokevirtual 56, 3) := by decide +kernel
theorem dX3_readOtherWay_29 : decode cX3_readOtherWay 29 = .ok (.ifCond .eq 17, 3) := by decide +kernel
theorem dX3_readOtherWay_32 : decode cX3_readOtherWay 32 = .ok (.aload_n 0, 1) := by decide +kernel
theorem dX3_readOtherWay_33 : decode cX3_readOtherWay 33 = .ok (.getfield 15, 3) := by decide +kernel
theorem dX3_readOtherWay_36 : decode cX3_readOtherWay 36 = .ok (.iconst 3, 1) := by decide +kernel
theorem dX3_readOtherWay_37 : decode cX3_readOtherWay 37 = .ok (.iconst 0, 1) := by decide +kernel
theorem dX3_readOtherWay_38 : decode cX3_readOtherWay 38 = .ok (.iconst 1, 1) := by decide +kernel
theorem dX3_readOtherWay_39 : decode cX3_readOtherWay 39 = .ok (.bipush 15, 2) := by decide +kernel
theorem dX3_readOtherWay_41 : decode cX3_readOtherWay 41 = .ok (.invokevirtual 106, 3) := by decide +kernel
theorem dX3_readOtherWay_44 : decode cX3_readOtherWay 44 = .ok (.iconst 1, 1) := by decide +kernel
theorem dX3_readOtherWay_45 : decode cX3_readOtherWay 45 = .ok (.ireturn, 1) := by decide +kernel
theorem dX3_readOtherWay_46 : decode cX3_readOtherWay 46 = .ok (.aload_n 0, 1) := by decide +kernel
theorem dX3_readOtherWay_47 : decode cX3_readOtherWay 47 = .ok (.ldc 112, 2) := by decide +kernel
theorem dX3_readOtherWay_49 : decode cX3_readOtherWay 49 = .ok (.invokevirtual 56, 3) := by decide +kernel
theorem dX3_readOtherWay_52 : decode cX3_readOtherWay 52 = .ok (.ifCond .eq 13, 3) := by decide +kernel
theorem dX3_readOtherWay_55 : decode cX3_readOtherWay 55 = .ok (.aload_n 0, 1) := by decide +kernel
theorem dX3_readOtherWay_56 : decode cX3_readOtherWay 56 = .ok (.iconst 1, 1) := by decide +kernel
theorem dX3_readOtherWay_57 : decode cX3_readOtherWay 57 = .ok (.bipush 99, 2) := by decide +kernel
theorem dX3_readOtherWay_59 : decode cX3_readOtherWay 59 = .ok (.invokevirtual 84, 3) := by decide +kernel
theorem dX3_readOtherWay_62 : decode cX3_readOtherWay 62 = .ok (.ifCond .ne 5, 3) := by decide +kernel
theorem dX3_readOtherWay_65 : decode cX3_readOtherWay 65 = .ok (.iconst 0, 1) := by decide +kernel
theorem dX3_readOtherWay_66 : decode cX3_readOtherWay 66 = .ok (.ireturn, 1) := by decide +kernel
theorem dX3_readOtherWay_67 : decode cX3_readOtherWay 67 = .ok (.aload_n 0, 1) := by decide +kernel
theorem dX3_readOtherWay_68 : decode cX3_readOtherWay 68 = .ok (.getfield 15, 3) := by decide +kernel
theorem dX3_readOtherWay_71 : decode cX3_readOtherWay 71 = .ok (.iconst 1, 1) := by decide +kernel
theorem dX3_readOtherWay_72 : decode cX3_readOtherWay 72 = .ok (.aload_n 0, 1) := by decide +kernel
theorem dX3_readOtherWay_73 : decode cX3_readOtherWay 73 = .ok (.getfield 88, 3) := by decide +kernel
theorem dX3_readOtherWay_76 : decode cX3_readOtherWay 76 = .ok (.iconst 1, 1) := by decide +kernel
theorem dX3_readOtherWay_77 : decode cX3_readOtherWay 77 = .ok (.bipush 15, 2) := by decide +kernel
theorem dX3_readOtherWay_79 : decode cX3_readOtherWay 79 = .ok (.invokevirtual 106, 3) := by decide +kernel
theorem dX3_readOtherWay_82 : decode cX3_readOtherWay 82 = .ok (.iconst 1, 1) := by decide +kernel
theorem dX3_readOtherWay_83 : decode cX3_readOtherWay 83 = .ok (.ireturn, 1) := by decide +kernel
set_option maxRecDepth 20000 in
theorem ggX3_readThumb_X3_takeNumber : GoodIn wsX3_readThumb wsX3_takeNumber := goodIn_r _ [7, 8, 9, 1, 10, 11, 12, 6, 13, 14, 15, 16, 17, 18, 19, 20, 21, 22, 23, 24, 25, 101, 102, 103, 104, 105, 106, 107, 108, 109] (by decide +kernel) (by decide +kernel)
set_option maxRecDepth 20000 in
theorem gX3_readThumb_X3_takeNumber : GoodIn wsX3_readThumb (wsV RX3 84 RX3 yX3_takeNumber wsX3_takeNumber) := goodIn_app (goodIn_of _ (by decide +kernel)) ggX3_readThumb_X3_takeNumber
set_option maxRecDepth 20000 in
theorem ggX3_readThumb_X3_takeWord : GoodIn wsX3_readThumb wsX3_takeWord := goodIn_r _ [29, 30, 31, 32, 6, 33, 8, 14, 15, 17, 34, 35, 36, 37, 38, 39, 40, 41, 42, 43, 44, 45, 46, 47, 48, 49, 50, 51, 52, 53, 54, 55, 56, 57, 58, 59, 60, 61, 62, 63, 64, 65, 66, 67, 68, 69, 70, 71, 72, 73, 74, 75, 76, 77, 78, 79, 80, 81, 82, 10, 11, 12, 13, 16, 18, 19, 20, 21, 22, 23, 24, 25, 9, 101, 102, 103, 104, 105, 106, 107, 108, 109] (by decide +kernel) (by decide +kernel)
set_option maxRecDepth 20000 in
theorem gX3_readThumb_X3_takeWord : GoodIn wsX3_readThumb (wsV RX3 56 RX3 yX3_takeWord wsX3_takeWord) := goodIn_app (goodIn_of _ (by decide +kernel)) ggX3_readThumb_X3_takeWord
set_option maxRecDepth 20000 in
theorem ggX3_readThumb_X3_readSorts : GoodIn wsX3_readThumb wsX3_readSorts := goodIn_r _ [86, 87, 88, 89, 6, 90, 30, 31, 32, 33, 8, 14, 15, 17, 34, 35, 36, 37, 38, 39, 40, 41, 42, 43, 44, 45, 46, 47, 48, 49, 50, 51, 52, 53, 54, 55, 56, 57, 58, 59, 60, 61, 62, 63, 64, 65, 66, 67, 68, 69, 70, 71, 72, 73, 74, 75, 76, 77, 78, 79, 80, 81, 82, 10, 11, 12, 13, 16, 18, 19, 20, 21, 22, 23, 24, 25, 9, 101, 102, 103, 104, 105, 106, 107, 108, 109] (by decide +kernel) (by decide +kernel)
set_option maxRecDepth 20000 in
theorem gX3_readThumb_X3_readSorts : GoodIn wsX3_readThumb (wsV RX3 118 RX3 yX3_readSorts wsX3_readSorts) := goodIn_app (goodIn_of _ (by decide +kernel)) ggX3_readThumb_X3_readSorts
set_option maxRecDepth 20000 in
theorem ggX3_readThumb_X2_addWay : GoodIn wsX3_readThumb wsX2_addWay := goodIn_r _ [95, 96, 97, 98, 99, 100, 110, 111, 112, 113, 114, 115, 116, 117, 118, 119, 120, 121] (by decide +kernel) (by decide +kernel)
set_option maxRecDepth 20000 in
theorem gX3_readThumb_X2_addWay : GoodIn wsX3_readThumb (wsV RX3 106 RX2 yX2_addWay wsX2_addWay) := goodIn_app (goodIn_of _ (by decide +kernel)) ggX3_readThumb_X2_addWay
theorem dX3_readThumb_0 : decode cX3_readThumb 0 = .ok (.aload_n 0, 1) := by decide +kernel
theorem dX3_readThumb_1 : decode cX3_readThumb 1 = .ok (.iconst 1, 1) := by decide +kernel
theorem dX3_readThumb_2 : decode cX3_readThumb 2 = .ok (.bipush 99, 2) := by decide +kernel
theorem dX3_readThumb_4 : decode cX3_readThumb 4 = .ok (.invokevirtual 84, 3) := by decide +kernel
theorem dX3_readThumb_7 : decode cX3_readThumb 7 = .ok (.ifCond .ne 5, 3) := by decide +kernel
theorem dX3_readThumb_10 : decode cX3_readThumb 10 = .ok (.iconst 0, 1) := by decide +kernel
theorem dX3_readThumb_11 : decode cX3_readThumb 11 = .ok (.ireturn, 1) := by decide +kernel
theorem dX3_readThumb_12 : decode cX3_readThumb 12 = .ok (.aload_n 0, 1) := by decide +kernel
theorem dX3_readThumb_13 : decode cX3_readThumb 13 = .ok (.getfield 88, 3) := by decide +kernel
theorem dX3_readThumb_16 : decode cX3_readThumb 16 = .ok (.istore_n 1, 1) := by decide +kernel
theorem dX3_readThumb_17 : decode cX3_readThumb 17 = .ok (.aload_n 0, 1) := by decide +kernel
theorem dX3_readThumb_18 : decode cX3_readThumb 18 = .ok (.ldc 114, 2) := by decide +kernel
theorem dX3_readThumb_20 : decode cX3_readThumb 20 = .ok (.invokevirtual 56, 3) := by decide +kernel
theorem dX3_readThumb_23 : decode cX3_readThumb 23 = .ok (.ifCond .eq 12, 3) := by decide +kernel
theorem dX3_readThumb_26 : decode cX3_readThumb 26 = .ok (.aload_n 0, 1) := by decide +kernel
theorem dX3_readThumb_27 : decode cX3_readThumb 27 = .ok (.iconst 1, 1) := by decide +kernel
theorem dX3_readThumb_28 : decode cX3_readThumb 28 = .ok (.iconst 5, 1) := by decide +kernel
theorem dX3_readThumb_29 : decode cX3_readThumb 29 = .ok (.invokevirtual 84, 3) := by decide +kernel
theorem dX3_readThumb_32 : decode cX3_readThumb 32 = .ok (.ifCond .ne 5, 3) := by decide +kernel
theorem dX3_readThumb_35 : decode cX3_readThumb 35 = .ok (.iconst 0, 1) := by decide +kernel
theorem dX3_readThumb_36 : decode cX3_readThumb 36 = .ok (.ireturn, 1) := by decide +kernel
theorem dX3_readThumb_37 : decode cX3_readThumb 37 = .ok (.aload_n 0, 1) := by decide +kernel
theorem dX3_readThumb_38 : decode cX3_readThumb 38 = .ok (.getfield 88, 3) := by decide +kernel
theorem dX3_readThumb_41 : decode cX3_readThumb 41 = .ok (.istore_n 2, 1) := by decide +kernel
theorem dX3_readThumb_42 : decode cX3_readThumb 42 = .ok (.aload_n 0, 1) := by decide +kernel
theorem dX3_readThumb_43 : decode cX3_readThumb 43 = .ok (.ldc 116, 2) := by decide +kernel
theorem dX3_readThumb_45 : decode cX3_readThumb 45 = .ok (.invokevirtual 56, 3) := by decide +kernel
theorem dX3_readThumb_48 : decode cX3_readThumb 48 = .ok (.ifCond .eq 10, 3) := by decide +kernel
theorem dX3_readThumb_51 : decode cX3_readThumb 51 = .ok (.aload_n 0, 1) := by decide +kernel
theorem dX3_readThumb_52 : decode cX3_readThumb 52 = .ok (.invokevirtual 118, 3) := by decide +kernel
theorem dX3_readThumb_55 : decode cX3_readThumb 55 = .ok (.goto 5, 3) := by decide +kernel
theorem dX3_readThumb_58 : decode cX3_readThumb 58 = .ok (.bipush 15, 2) := by decide +kernel
theorem dX3_readThumb_60 : decode cX3_readThumb 60 = .ok (.istore_n 3, 1) := by decide +kernel
theorem dX3_readThumb_61 : decode cX3_readThumb 61 = .ok (.iload_n 3, 1) := by decide +kernel
theorem dX3_readThumb_62 : decode cX3_readThumb 62 = .ok (.ifCond .ne 5, 3) := by decide +kernel
theorem dX3_readThumb_65 : decode cX3_readThumb 65 = .ok (.iconst 0, 1) := by decide +kernel
theorem dX3_readThumb_66 : decode cX3_readThumb 66 = .ok (.ireturn, 1) := by decide +kernel
theorem dX3_readThumb_67 : decode cX3_readThumb 67 = .ok (.aload_n 0, 1) := by decide +kernel
theorem dX3_readThumb_68 : decode cX3_readThumb 68 = .ok (.getfield 15, 3) := by decide +kernel
theorem dX3_readThumb_71 : decode cX3_readThumb 71 = .ok (.iconst 2, 1) := by decide +kernel
theorem dX3_readThumb_72 : decode cX3_readThumb 72 = .ok (.iload_n 1, 1) := by decide +kernel
theorem dX3_readThumb_73 : decode cX3_readThumb 73 = .ok (.iload_n 2, 1) := by decide +kernel
theorem dX3_readThumb_74 : decode cX3_readThumb 74 = .ok (.iload_n 3, 1) := by decide +kernel
theorem dX3_readThumb_75 : decode cX3_readThumb 75 = .ok (.invokevirtual 106, 3) := by decide +kernel
theorem dX3_readThumb_78 : decode cX3_readThumb 78 = .ok (.iconst 1, 1) := by decide +kernel
theorem dX3_readThumb_79 : decode cX3_readThumb 79 = .ok (.ireturn, 1) := by decide +kernel
set_option maxRecDepth 20000 in
theorem ggX3_readSorts_X3_sortHere : GoodIn wsX3_readSorts wsX3_sortHere := goodIn_r _ [5, 6, 7, 8, 4, 9, 10, 11, 12, 13, 14, 15, 16, 17, 18, 19, 20, 21, 22, 23, 24, 25, 26, 27, 28, 29, 30, 31, 32, 33, 34, 35, 36, 37, 38, 39, 40, 41, 42, 43, 44, 45, 46, 47, 48, 49, 50, 51, 52, 53, 54, 55, 56, 57, 58, 59, 60, 61, 62, 77, 78, 79, 80, 81, 82, 83, 84, 85] (by decide +kernel) (by decide +kernel)
set_option maxRecDepth 20000 in
theorem gX3_readSorts_X3_sortHere : GoodIn wsX3_readSorts (wsV RX3 122 RX3 yX3_sortHere wsX3_sortHere) := goodIn_app (goodIn_of _ (by decide +kernel)) ggX3_readSorts_X3_sortHere
set_option maxRecDepth 20000 in
theorem ggX3_readSorts_X3_next : GoodIn wsX3_readSorts wsX3_next := goodIn_r _ [66, 11, 12, 67, 13, 10, 68, 69, 70, 4, 71, 72, 73, 74, 75, 76, 77, 78, 79, 80, 81, 82, 83, 84, 85] (by decide +kernel) (by decide +kernel)
set_option maxRecDepth 20000 in
theorem gX3_readSorts_X3_next : GoodIn wsX3_readSorts (wsV RX3 41 RX3 yX3_next wsX3_next) := goodIn_app (goodIn_of _ (by decide +kernel)) ggX3_readSorts_X3_next
theorem dX3_readSorts_0 : decode cX3_readSorts 0 = .ok (.iconst 0, 1) := by decide +kernel
theorem dX3_readSorts_1 : decode cX3_readSorts 1 = .ok (.istore_n 1, 1) := by decide +kernel
theorem dX3_readSorts_2 : decode cX3_readSorts 2 = .ok (.iconst 0, 1) := by decide +kernel
theorem dX3_readSorts_3 : decode cX3_readSorts 3 = .ok (.istore_n 2, 1) := by decide +kernel
theorem dX3_readSorts_4 : decode cX3_readSorts 4 = .ok (.iload_n 2, 1) := by decide +kernel
theorem dX3_readSorts_5 : decode cX3_readSorts 5 = .ok (.iconst 4, 1) := by decide +kernel
theorem dX3_readSorts_6 : decode cX3_readSorts 6 = .ok (.if_icmp .gt 41, 3) := by decide +kernel
theorem dX3_readSorts_9 : decode cX3_readSorts 9 = .ok (.aload_n 0, 1) := by decide +kernel
theorem dX3_readSorts_10 : decode cX3_readSorts 10 = .ok (.invokevirtual 122, 3) := by decide +kernel
theorem dX3_readSorts_13 : decode cX3_readSorts 13 = .ok (.istore_n 3, 1) := by decide +kernel
theorem dX3_readSorts_14 : decode cX3_readSorts 14 = .ok (.iload_n 3, 1) := by decide +kernel
theorem dX3_readSorts_15 : decode cX3_readSorts 15 = .ok (.ifCond .ge 5, 3) := by decide +kernel
theorem dX3_readSorts_18 : decode cX3_readSorts 18 = .ok (.iload_n 1, 1) := by decide +kernel
theorem dX3_readSorts_19 : decode cX3_readSorts 19 = .ok (.ireturn, 1) := by decide +kernel
theorem dX3_readSorts_20 : decode cX3_readSorts 20 = .ok (.iload_n 1, 1) := by decide +kernel
theorem dX3_readSorts_21 : decode cX3_readSorts 21 = .ok (.iload_n 3, 1) := by decide +kernel
theorem dX3_readSorts_22 : decode cX3_readSorts 22 = .ok (.ishr, 1) := by decide +kernel
theorem dX3_readSorts_23 : decode cX3_readSorts 23 = .ok (.iconst 1, 1) := by decide +kernel
theorem dX3_readSorts_24 : decode cX3_readSorts 24 = .ok (.iand, 1) := by decide +kernel
theorem dX3_readSorts_25 : decode cX3_readSorts 25 = .ok (.iconst 1, 1) := by decide +kernel
theorem dX3_readSorts_26 : decode cX3_readSorts 26 = .ok (.if_icmp .ne 5, 3) := by decide +kernel
theorem dX3_readSorts_29 : decode cX3_readSorts 29 = .ok (.iconst 0, 1) := by decide +kernel
theorem dX3_readSorts_30 : decode cX3_readSorts 30 = .ok (.ireturn, 1) := by decide +kernel
theorem dX3_readSorts_31 : decode cX3_readSorts 31 = .ok (.iload_n 1, 1) := by decide +kernel
theorem dX3_readSorts_32 : decode cX3_readSorts 32 = .ok (.iconst 1, 1) := by decide +kernel
theorem dX3_readSorts_33 : decode cX3_readSorts 33 = .ok (.iload_n 3, 1) := by decide +kernel
theorem dX3_readSorts_34 : decode cX3_readSorts 34 = .ok (.ishl, 1) := by decide +kernel
theorem dX3_readSorts_35 : decode cX3_readSorts 35 = .ok (.ior, 1) := by decide +kernel
theorem dX3_readSorts_36 : decode cX3_readSorts 36 = .ok (.istore_n 1, 1) := by decide +kernel
theorem dX3_readSorts_37 : decode cX3_readSorts 37 = .ok (.aload_n 0, 1) := by decide +kernel
theorem dX3_readSorts_38 : decode cX3_readSorts 38 = .ok (.invokevirtual 41, 3) := by decide +kernel
theorem dX3_readSorts_41 : decode cX3_readSorts 41 = .ok (.iinc 2 1, 3) := by decide +kernel
theorem dX3_readSorts_44 : decode cX3_readSorts 44 = .ok (.goto (-40), 3) := by decide +kernel
theorem dX3_readSorts_47 : decode cX3_readSorts 47 = .ok (.iload_n 1, 1) := by decide +kernel
theorem dX3_readSorts_48 : decode cX3_readSorts 48 = .ok (.ireturn, 1) := by decide +kernel
set_option maxRecDepth 20000 in
theorem ggX3_sortHere_X3_isWord : GoodIn wsX3_sortHere wsX3_isWord := goodIn_r _ [5, 6, 7, 8, 9, 10, 11, 12, 13, 14, 15, 16, 17, 18, 19, 20, 21, 22, 23, 24, 25, 26, 27, 28, 29, 30, 31, 32, 33, 34, 35, 36, 37, 38, 39, 40, 41, 42, 43, 44, 45, 46, 47, 48, 49, 50, 51, 52, 53, 54, 55, 56, 57, 58, 59, 60, 61, 62, 63, 64, 65, 66, 67] (by decide +kernel) (by decide +kernel)
set_option maxRecDepth 20000 in
theorem gX3_sortHere_X3_isWord : GoodIn wsX3_sortHere (wsV RX3 127 RX3 yX3_isWord wsX3_isWord) := goodIn_app (goodIn_of _ (by decide +kernel)) ggX3_sortHere_X3_isWord
theorem dX3_sortHere_0 : decode cX3_sortHere 0 = .ok (.aload_n 0, 1) := by decide +kernel
theorem dX3_sortHere_1 : decode cX3_sortHere 1 = .ok (.ldc 125, 2) := by decide +kernel
theorem dX3_sortHere_3 : decode cX3_sortHere 3 = .ok (.invokevirtual 127, 3) := by decide +kernel
theorem dX3_sortHere_6 : decode cX3_sortHere 6 = .ok (.ifCond .eq 5, 3) := by decide +kernel
theorem dX3_sortHere_9 : decode cX3_sortHere 9 = .ok (.iconst 0, 1) := by decide +kernel
theorem dX3_sortHere_10 : decode cX3_sortHere 10 = .ok (.ireturn, 1) := by decide +kernel
theorem dX3_sortHere_11 : decode cX3_sortHere 11 = .ok (.aload_n 0, 1) := by decide +kernel
theorem dX3_sortHere_12 : decode cX3_sortHere 12 = .ok (.ldc 130, 2) := by decide +kernel
theorem dX3_sortHere_14 : decode cX3_sortHere 14 = .ok (.invokevirtual 127, 3) := by decide +kernel
theorem dX3_sortHere_17 : decode cX3_sortHere 17 = .ok (.ifCond .eq 5, 3) := by decide +kernel
theorem dX3_sortHere_20 : decode cX3_sortHere 20 = .ok (.iconst 1, 1) := by decide +kernel
theorem dX3_sortHere_21 : decode cX3_sortHere 21 = .ok (.ireturn, 1) := by decide +kernel
theorem dX3_sortHere_22 : decode cX3_sortHere 22 = .ok (.aload_n 0, 1) := by decide +kernel
theorem dX3_sortHere_23 : decode cX3_sortHere 23 = .ok (.ldc 132, 2) := by decide +kernel
theorem dX3_sortHere_25 : decode cX3_sortHere 25 = .ok (.invokevirtual 127, 3) := by decide +kernel
theorem dX3_sortHere_28 : decode cX3_sortHere 28 = .ok (.ifCond .eq 5, 3) := by decide +kernel
theorem dX3_sortHere_31 : decode cX3_sortHere 31 = .ok (.iconst 2, 1) := by decide +kernel
theorem dX3_sortHere_32 : decode cX3_sortHere 32 = .ok (.ireturn, 1) := by decide +kernel
theorem dX3_sortHere_33 : decode cX3_sortHere 33 = .ok (.aload_n 0, 1) := by decide +kernel
theorem dX3_sortHere_34 : decode cX3_sortHere 34 = .ok (.ldc 134, 2) := by decide +kernel
theorem dX3_sortHere_36 : decode cX3_sortHere 36 = .ok (.invokevirtual 127, 3) := by decide +kernel
theorem dX3_sortHere_39 : decode cX3_sortHere 39 = .ok (.ifCond .eq 7, 3) := by decide +kernel
theorem dX3_sortHere_42 : decode cX3_sortHere 42 = .ok (.iconst 3, 1) := by decide +kernel
theorem dX3_sortHere_43 : decode cX3_sortHere 43 = .ok (.goto 4, 3) := by decide +kernel
theorem dX3_sortHere_46 : decode cX3_sortHere 46 = .ok (.iconst (-1), 1) := by decide +kernel
theorem dX3_sortHere_47 : decode cX3_sortHere 47 = .ok (.ireturn, 1) := by decide +kernel
set_option maxRecDepth 20000 in
theorem ggX3_isWord_J0_length_8abf5 : GoodIn wsX3_isWord wsJ0_length_8abf5 := goodIn_r _ [9, 10, 11, 12, 13, 8, 14, 15, 16] (by decide +kernel) (by decide +kernel)
set_option maxRecDepth 20000 in
theorem gX3_isWord_J0_length_8abf5 : GoodIn wsX3_isWord (wsV RX3 136 RJ0 yJ0_length_8abf5 wsJ0_length_8abf5) := goodIn_app (goodIn_of _ (by decide +kernel)) ggX3_isWord_J0_length_8abf5
set_option maxRecDepth 20000 in
theorem ggX3_isWord_J0_charAt_5068e : GoodIn wsX3_isWord wsJ0_charAt_5068e := goodIn_r _ [20, 10, 21, 22, 23, 8, 24, 15, 16, 25, 26, 27, 28, 29, 30, 31, 32, 33, 34, 35, 36, 37, 38, 39, 40, 41, 42, 43, 44, 45, 46, 47, 48, 49, 50, 51, 52, 53] (by decide +kernel) (by decide +kernel)
set_option maxRecDepth 20000 in
theorem gX3_isWord_J0_charAt_5068e : GoodIn wsX3_isWord (wsV RX3 140 RJ0 yJ0_charAt_5068e wsJ0_charAt_5068e) := goodIn_app (goodIn_of _ (by decide +kernel)) ggX3_isWord_J0_charAt_5068e
theorem dX3_isWord_0 : decode cX3_isWord 0 = .ok (.aload_n 0, 1) := by decide +kernel
theorem dX3_isWord_1 : decode cX3_isWord 1 = .ok (.getfield 44, 3) := by decide +kernel
theorem dX3_isWord_4 : decode cX3_isWord 4 = .ok (.iconst 1, 1) := by decide +kernel
theorem dX3_isWord_5 : decode cX3_isWord 5 = .ok (.if_icmp .ne 19, 3) := by decide +kernel
theorem dX3_isWord_8 : decode cX3_isWord 8 = .ok (.aload_n 0, 1) := by decide +kernel
theorem dX3_isWord_9 : decode cX3_isWord 9 = .ok (.getfield 33, 3) := by decide +kernel
theorem dX3_isWord_12 : decode cX3_isWord 12 = .ok (.aload_n 0, 1) := by decide +kernel
theorem dX3_isWord_13 : decode cX3_isWord 13 = .ok (.getfield 51, 3) := by decide +kernel
theorem dX3_isWord_16 : decode cX3_isWord 16 = .ok (.isub, 1) := by decide +kernel
theorem dX3_isWord_17 : decode cX3_isWord 17 = .ok (.aload_n 1, 1) := by decide +kernel
theorem dX3_isWord_18 : decode cX3_isWord 18 = .ok (.invokevirtual 136, 3) := by decide +kernel
theorem dX3_isWord_21 : decode cX3_isWord 21 = .ok (.if_icmp .eq 5, 3) := by decide +kernel
theorem dX3_isWord_24 : decode cX3_isWord 24 = .ok (.iconst 0, 1) := by decide +kernel
theorem dX3_isWord_25 : decode cX3_isWord 25 = .ok (.ireturn, 1) := by decide +kernel
theorem dX3_isWord_26 : decode cX3_isWord 26 = .ok (.iconst 0, 1) := by decide +kernel
theorem dX3_isWord_27 : decode cX3_isWord 27 = .ok (.istore_n 2, 1) := by decide +kernel
theorem dX3_isWord_28 : decode cX3_isWord 28 = .ok (.iload_n 2, 1) := by decide +kernel
theorem dX3_isWord_29 : decode cX3_isWord 29 = .ok (.aload_n 1, 1) := by decide +kernel
theorem dX3_isWord_30 : decode cX3_isWord 30 = .ok (.invokevirtual 136, 3) := by decide +kernel
theorem dX3_isWord_33 : decode cX3_isWord 33 = .ok (.if_icmp .ge 30, 3) := by decide +kernel
theorem dX3_isWord_36 : decode cX3_isWord 36 = .ok (.aload_n 0, 1) := by decide +kernel
theorem dX3_isWord_37 : decode cX3_isWord 37 = .ok (.getfield 9, 3) := by decide +kernel
theorem dX3_isWord_40 : decode cX3_isWord 40 = .ok (.aload_n 0, 1) := by decide +kernel
theorem dX3_isWord_41 : decode cX3_isWord 41 = .ok (.getfield 51, 3) := by decide +kernel
theorem dX3_isWord_44 : decode cX3_isWord 44 = .ok (.iload_n 2, 1) := by decide +kernel
theorem dX3_isWord_45 : decode cX3_isWord 45 = .ok (.iadd, 1) := by decide +kernel
theorem dX3_isWord_46 : decode cX3_isWord 46 = .ok (.iaload, 1) := by decide +kernel
theorem dX3_isWord_47 : decode cX3_isWord 47 = .ok (.aload_n 1, 1) := by decide +kernel
theorem dX3_isWord_48 : decode cX3_isWord 48 = .ok (.iload_n 2, 1) := by decide +kernel
theorem dX3_isWord_49 : decode cX3_isWord 49 = .ok (.invokevirtual 140, 3) := by decide +kernel
theorem dX3_isWord_52 : decode cX3_isWord 52 = .ok (.if_icmp .eq 5, 3) := by decide +kernel
theorem dX3_isWord_55 : decode cX3_isWord 55 = .ok (.iconst 0, 1) := by decide +kernel
theorem dX3_isWord_56 : decode cX3_isWord 56 = .ok (.ireturn, 1) := by decide +kernel
theorem dX3_isWord_57 : decode cX3_isWord 57 = .ok (.iinc 2 1, 3) := by decide +kernel
theorem dX3_isWord_60 : decode cX3_isWord 60 = .ok (.goto (-32), 3) := by decide +kernel
theorem dX3_isWord_63 : decode cX3_isWord 63 = .ok (.iconst 1, 1) := by decide +kernel
theorem dX3_isWord_64 : decode cX3_isWord 64 = .ok (.ireturn, 1) := by decide +kernel
set_option maxRecDepth 20000 in
theorem ggX3_takeWord_X3_isWord : GoodIn wsX3_takeWord wsX3_isWord := goodIn_r _ [5, 6, 7, 8, 9, 10, 11, 12, 13, 14, 15, 16, 17, 18, 19, 20, 21, 22, 23, 24, 25, 26, 27, 28, 29, 30, 31, 32, 33, 34, 35, 36, 37, 38, 39, 40, 41, 42, 43, 44, 45, 46, 47, 48, 49, 50, 51, 52, 53, 54, 55, 56, 57, 58, 73, 74, 75, 76, 77, 78, 79, 80, 81] (by decide +kernel) (by decide +kernel)
set_option maxRecDepth 20000 in
theorem gX3_takeWord_X3_isWord : GoodIn wsX3_takeWord (wsV RX3 127 RX3 yX3_isWord wsX3_isWord) := goodIn_app (goodIn_of _ (by decide +kernel)) ggX3_takeWord_X3_isWord
set_option maxRecDepth 20000 in
theorem ggX3_takeWord_X3_next : GoodIn wsX3_takeWord wsX3_next := goodIn_r _ [62, 7, 8, 63, 9, 6, 64, 65, 66, 4, 67, 68, 69, 70, 71, 72, 73, 74, 75, 76, 77, 78, 79, 80, 81] (by decide +kernel) (by decide +kernel)
set_option maxRecDepth 20000 in
theorem gX3_takeWord_X3_next : GoodIn wsX3_takeWord (wsV RX3 41 RX3 yX3_next wsX3_next) := goodIn_app (goodIn_of _ (by decide +kernel)) ggX3_takeWord_X3_next
theorem dX3_takeWord_0 : decode cX3_takeWord 0 = .ok (.aload_n 0, 1) := by decide +kernel
theorem dX3_takeWord_1 : decode cX3_takeWord 1 = .ok (.aload_n 1, 1) := by decide +kernel
theorem dX3_takeWord_2 : decode cX3_takeWord 2 = .ok (.invokevirtual 127, 3) := by decide +kernel
theorem dX3_takeWord_5 : decode cX3_takeWord 5 = .ok (.ifCond .ne 5, 3) := by decide +kernel
theorem dX3_takeWord_8 : decode cX3_takeWord 8 = .ok (.iconst 0, 1) := by decide +kernel
theorem dX3_takeWord_9 : decode cX3_takeWord 9 = .ok (.ireturn, 1) := by decide +kernel
theorem dX3_takeWord_10 : decode cX3_takeWord 10 = .ok (.aload_n 0, 1) := by decide +kernel
theorem dX3_takeWord_11 : decode cX3_takeWord 11 = .ok (.invokevirtual 41, 3) := by decide +kernel
theorem dX3_takeWord_14 : decode cX3_takeWord 14 = .ok (.iconst 1, 1) := by decide +kernel
theorem dX3_takeWord_15 : decode cX3_takeWord 15 = .ok (.ireturn, 1) := by decide +kernel
set_option maxRecDepth 20000 in
theorem ggX3_takeNumber_X3_next : GoodIn wsX3_takeNumber wsX3_next := goodIn_r _ [8, 9, 10, 11, 12, 1, 13, 14, 15, 7, 16, 17, 18, 19, 20, 2, 21, 22, 23, 24, 25, 26, 27, 28, 29] (by decide +kernel) (by decide +kernel)
set_option maxRecDepth 20000 in
theorem gX3_takeNumber_X3_next : GoodIn wsX3_takeNumber (wsV RX3 41 RX3 yX3_next wsX3_next) := goodIn_app (goodIn_of _ (by decide +kernel)) ggX3_takeNumber_X3_next
theorem dX3_takeNumber_0 : decode cX3_takeNumber 0 = .ok (.aload_n 0, 1) := by decide +kernel
theorem dX3_takeNumber_1 : decode cX3_takeNumber 1 = .ok (.getfield 44, 3) := by decide +kernel
theorem dX3_takeNumber_4 : decode cX3_takeNumber 4 = .ok (.iconst 2, 1) := by decide +kernel
theorem dX3_takeNumber_5 : decode cX3_takeNumber 5 = .ok (.if_icmp .ne 19, 3) := by decide +kernel
theorem dX3_takeNumber_8 : decode cX3_takeNumber 8 = .ok (.aload_n 0, 1) := by decide +kernel
theorem dX3_takeNumber_9 : decode cX3_takeNumber 9 = .ok (.getfield 144, 3) := by decide +kernel
theorem dX3_takeNumber_12 : decode cX3_takeNumber 12 = .ok (.iload_n 1, 1) := by decide +kernel
theorem dX3_takeNumber_13 : decode cX3_takeNumber 13 = .ok (.if_icmp .lt 11, 3) := by decide +kernel
theorem dX3_takeNumber_16 : decode cX3_takeNumber 16 = .ok (.aload_n 0, 1) := by decide +kernel
theorem dX3_takeNumber_17 : decode cX3_takeNumber 17 = .ok (.getfield 144, 3) := by decide +kernel
theorem dX3_takeNumber_20 : decode cX3_takeNumber 20 = .ok (.iload_n 2, 1) := by decide +kernel
theorem dX3_takeNumber_21 : decode cX3_takeNumber 21 = .ok (.if_icmp .le 5, 3) := by decide +kernel
theorem dX3_takeNumber_24 : decode cX3_takeNumber 24 = .ok (.iconst 0, 1) := by decide +kernel
theorem dX3_takeNumber_25 : decode cX3_takeNumber 25 = .ok (.ireturn, 1) := by decide +kernel
theorem dX3_takeNumber_26 : decode cX3_takeNumber 26 = .ok (.aload_n 0, 1) := by decide +kernel
theorem dX3_takeNumber_27 : decode cX3_takeNumber 27 = .ok (.aload_n 0, 1) := by decide +kernel
theorem dX3_takeNumber_28 : decode cX3_takeNumber 28 = .ok (.getfield 144, 3) := by decide +kernel
theorem dX3_takeNumber_31 : decode cX3_takeNumber 31 = .ok (.putfield 88, 3) := by decide +kernel
theorem dX3_takeNumber_34 : decode cX3_takeNumber 34 = .ok (.aload_n 0, 1) := by decide +kernel
theorem dX3_takeNumber_35 : decode cX3_takeNumber 35 = .ok (.invokevirtual 41, 3) := by decide +kernel
theorem dX3_takeNumber_38 : decode cX3_takeNumber 38 = .ok (.iconst 1, 1) := by decide +kernel
theorem dX3_takeNumber_39 : decode cX3_takeNumber 39 = .ok (.ireturn, 1) := by decide +kernel
set_option maxRecDepth 20000 in
theorem ggX3_next_X3_signAt : GoodIn wsX3_next wsX3_signAt := goodIn_r _ [10, 3, 4, 16, 17, 18, 19, 20, 21, 22, 23, 24] (by decide +kernel) (by decide +kernel)
set_option maxRecDepth 20000 in
theorem gX3_next_X3_signAt : GoodIn wsX3_next (wsV RX3 147 RX3 yX3_signAt wsX3_signAt) := goodIn_app (goodIn_of _ (by decide +kernel)) ggX3_next_X3_signAt
set_option maxRecDepth 20000 in
theorem ggX3_next_X3_valueNumber : GoodIn wsX3_next wsX3_valueNumber := goodIn_r _ [14, 1, 2, 4, 15, 5, 16, 17, 18, 19, 20, 21, 22, 23, 24] (by decide +kernel) (by decide +kernel)
set_option maxRecDepth 20000 in
theorem gX3_next_X3_valueNumber : GoodIn wsX3_next (wsV RX3 151 RX3 yX3_valueNumber wsX3_valueNumber) := goodIn_app (goodIn_of _ (by decide +kernel)) ggX3_next_X3_valueNumber
theorem dX3_next_0 : decode cX3_next 0 = .ok (.aload_n 0, 1) := by decide +kernel
theorem dX3_next_1 : decode cX3_next 1 = .ok (.aload_n 0, 1) := by decide +kernel
theorem dX3_next_2 : decode cX3_next 2 = .ok (.getfield 33, 3) := by decide +kernel
theorem dX3_next_5 : decode cX3_next 5 = .ok (.putfield 51, 3) := by decide +kernel
theorem dX3_next_8 : decode cX3_next 8 = .ok (.aload_n 0, 1) := by decide +kernel
theorem dX3_next_9 : decode cX3_next 9 = .ok (.getfield 51, 3) := by decide +kernel
theorem dX3_next_12 : decode cX3_next 12 = .ok (.aload_n 0, 1) := by decide +kernel
theorem dX3_next_13 : decode cX3_next 13 = .ok (.getfield 25, 3) := by decide +kernel
theorem dX3_next_16 : decode cX3_next 16 = .ok (.if_icmp .ge 30, 3) := by decide +kernel
theorem dX3_next_19 : decode cX3_next 19 = .ok (.aload_n 0, 1) := by decide +kernel
theorem dX3_next_20 : decode cX3_next 20 = .ok (.getfield 9, 3) := by decide +kernel
theorem dX3_next_23 : decode cX3_next 23 = .ok (.aload_n 0, 1) := by decide +kernel
theorem dX3_next_24 : decode cX3_next 24 = .ok (.getfield 51, 3) := by decide +kernel
theorem dX3_next_27 : decode cX3_next 27 = .ok (.iaload, 1) := by decide +kernel
theorem dX3_next_28 : decode cX3_next 28 = .ok (.bipush 32, 2) := by decide +kernel
theorem dX3_next_30 : decode cX3_next 30 = .ok (.if_icmp .ne 16, 3) := by decide +kernel
theorem dX3_next_33 : decode cX3_next 33 = .ok (.aload_n 0, 1) := by decide +kernel
theorem dX3_next_34 : decode cX3_next 34 = .ok (.dup, 1) := by decide +kernel
theorem dX3_next_35 : decode cX3_next 35 = .ok (.getfield 51, 3) := by decide +kernel
theorem dX3_next_38 : decode cX3_next 38 = .ok (.iconst 1, 1) := by decide +kernel
theorem dX3_next_39 : decode cX3_next 39 = .ok (.iadd, 1) := by decide +kernel
theorem dX3_next_40 : decode cX3_next 40 = .ok (.putfield 51, 3) := by decide +kernel
theorem dX3_next_43 : decode cX3_next 43 = .ok (.goto (-35), 3) := by decide +kernel
theorem dX3_next_46 : decode cX3_next 46 = .ok (.aload_n 0, 1) := by decide +kernel
theorem dX3_next_47 : decode cX3_next 47 = .ok (.aload_n 0, 1) := by decide +kernel
theorem dX3_next_48 : decode cX3_next 48 = .ok (.getfield 51, 3) := by decide +kernel
theorem dX3_next_51 : decode cX3_next 51 = .ok (.putfield 33, 3) := by decide +kernel
theorem dX3_next_54 : decode cX3_next 54 = .ok (.aload_n 0, 1) := by decide +kernel
theorem dX3_next_55 : decode cX3_next 55 = .ok (.aload_n 0, 1) := by decide +kernel
theorem dX3_next_56 : decode cX3_next 56 = .ok (.aload_n 0, 1) := by decide +kernel
theorem dX3_next_57 : decode cX3_next 57 = .ok (.getfield 51, 3) := by decide +kernel
theorem dX3_next_60 : decode cX3_next 60 = .ok (.invokevirtual 147, 3) := by decide +kernel
theorem dX3_next_63 : decode cX3_next 63 = .ok (.putfield 44, 3) := by decide +kernel
theorem dX3_next_66 : decode cX3_next 66 = .ok (.aload_n 0, 1) := by decide +kernel
theorem dX3_next_67 : decode cX3_next 67 = .ok (.getfield 44, 3) := by decide +kernel
theorem dX3_next_70 : decode cX3_next 70 = .ok (.iconst 1, 1) := by decide +kernel
theorem dX3_next_71 : decode cX3_next 71 = .ok (.if_icmp .eq 11, 3) := by decide +kernel
theorem dX3_next_74 : decode cX3_next 74 = .ok (.aload_n 0, 1) := by decide +kernel
theorem dX3_next_75 : decode cX3_next 75 = .ok (.getfield 44, 3) := by decide +kernel
theorem dX3_next_78 : decode cX3_next 78 = .ok (.iconst 2, 1) := by decide +kernel
theorem dX3_next_79 : decode cX3_next 79 = .ok (.if_icmp .ne 42, 3) := by decide +kernel
theorem dX3_next_82 : decode cX3_next 82 = .ok (.aload_n 0, 1) := by decide +kernel
theorem dX3_next_83 : decode cX3_next 83 = .ok (.getfield 33, 3) := by decide +kernel
theorem dX3_next_86 : decode cX3_next 86 = .ok (.aload_n 0, 1) := by decide +kernel
theorem dX3_next_87 : decode cX3_next 87 = .ok (.getfield 25, 3) := by decide +kernel
theorem dX3_next_90 : decode cX3_next 90 = .ok (.if_icmp .ge 48, 3) := by decide +kernel
theorem dX3_next_93 : decode cX3_next 93 = .ok (.aload_n 0, 1) := by decide +kernel
theorem dX3_next_94 : decode cX3_next 94 = .ok (.aload_n 0, 1) := by decide +kernel
theorem dX3_next_95 : decode cX3_next 95 = .ok (.getfield 33, 3) := by decide +kernel
theorem dX3_next_98 : decode cX3_next 98 = .ok (.invokevirtual 147, 3) := by decide +kernel
theorem dX3_next_101 : decode cX3_next 101 = .ok (.aload_n 0, 1) := by decide +kernel
theorem dX3_next_102 : decode cX3_next 102 = .ok (.getfield 44, 3) := by decide +kernel
theorem dX3_next_105 : decode cX3_next 105 = .ok (.if_icmp .ne 33, 3) := by decide +kernel
theorem dX3_next_108 : decode cX3_next 108 = .ok (.aload_n 0, 1) := by decide +kernel
theorem dX3_next_109 : decode cX3_next 109 = .ok (.dup, 1) := by decide +kernel
theorem dX3_next_110 : decode cX3_next 110 = .ok (.getfield 33, 3) := by decide +kernel
theorem dX3_next_113 : decode cX3_next 113 = .ok (.iconst 1, 1) := by decide +kernel
theorem dX3_next_114 : decode cX3_next 114 = .ok (.iadd, 1) := by decide +kernel
theorem dX3_next_115 : decode cX3_next 115 = .ok (.putfield 33, 3) := by decide +kernel
theorem dX3_next_118 : decode cX3_next 118 = .ok (.goto (-36), 3) := by decide +kernel
theorem dX3_next_121 : decode cX3_next 121 = .ok (.aload_n 0, 1) := by decide +kernel
theorem dX3_next_122 : decode cX3_next 122 = .ok (.getfield 44, 3) := by decide +kernel
theorem dX3_next_125 : decode cX3_next 125 = .ok (.ifCond .eq 13, 3) := by decide +kernel
theorem dX3_next_128 : decode cX3_next 128 = .ok (.aload_n 0, 1) := by decide +kernel
theorem dX3_next_129 : decode cX3_next 129 = .ok (.dup, 1) := by decide +kernel
theorem dX3_next_130 : decode cX3_next 130 = .ok (.getfield 33, 3) := by decide +kernel
theorem dX3_next_133 : decode cX3_next 133 = .ok (.iconst 1, 1) := by decide +kernel
theorem dX3_next_134 : decode cX3_next 134 = .ok (.iadd, 1) := by decide +kernel
theorem dX3_next_135 : decode cX3_next 135 = .ok (.putfield 33, 3) := by decide +kernel
theorem dX3_next_138 : decode cX3_next 138 = .ok (.aload_n 0, 1) := by decide +kernel
theorem dX3_next_139 : decode cX3_next 139 = .ok (.getfield 44, 3) := by decide +kernel
theorem dX3_next_142 : decode cX3_next 142 = .ok (.iconst 2, 1) := by decide +kernel
theorem dX3_next_143 : decode cX3_next 143 = .ok (.if_icmp .ne 7, 3) := by decide +kernel
theorem dX3_next_146 : decode cX3_next 146 = .ok (.aload_n 0, 1) := by decide +kernel
theorem dX3_next_147 : decode cX3_next 147 = .ok (.invokevirtual 151, 3) := by decide +kernel
theorem dX3_next_150 : decode cX3_next 150 = .ok (.return_, 1) := by decide +kernel
theorem dX3_signAt_0 : decode cX3_signAt 0 = .ok (.iload_n 1, 1) := by decide +kernel
theorem dX3_signAt_1 : decode cX3_signAt 1 = .ok (.ifCond .lt 11, 3) := by decide +kernel
theorem dX3_signAt_4 : decode cX3_signAt 4 = .ok (.iload_n 1, 1) := by decide +kernel
theorem dX3_signAt_5 : decode cX3_signAt 5 = .ok (.aload_n 0, 1) := by decide +kernel
theorem dX3_signAt_6 : decode cX3_signAt 6 = .ok (.getfield 25, 3) := by decide +kernel
theorem dX3_signAt_9 : decode cX3_signAt 9 = .ok (.if_icmp .lt 5, 3) := by decide +kernel
theorem dX3_signAt_12 : decode cX3_signAt 12 = .ok (.iconst 0, 1) := by decide +kernel
theorem dX3_signAt_13 : decode cX3_signAt 13 = .ok (.ireturn, 1) := by decide +kernel
theorem dX3_signAt_14 : decode cX3_signAt 14 = .ok (.aload_n 0, 1) := by decide +kernel
theorem dX3_signAt_15 : decode cX3_signAt 15 = .ok (.getfield 9, 3) := by decide +kernel
theorem dX3_signAt_18 : decode cX3_signAt 18 = .ok (.iload_n 1, 1) := by decide +kernel
theorem dX3_signAt_19 : decode cX3_signAt 19 = .ok (.iaload, 1) := by decide +kernel
theorem dX3_signAt_20 : decode cX3_signAt 20 = .ok (.istore_n 2, 1) := by decide +kernel
theorem dX3_signAt_21 : decode cX3_signAt 21 = .ok (.iload_n 2, 1) := by decide +kernel
theorem dX3_signAt_22 : decode cX3_signAt 22 = .ok (.bipush 97, 2) := by decide +kernel
theorem dX3_signAt_24 : decode cX3_signAt 24 = .ok (.if_icmp .lt 11, 3) := by decide +kernel
theorem dX3_signAt_27 : decode cX3_signAt 27 = .ok (.iload_n 2, 1) := by decide +kernel
theorem dX3_signAt_28 : decode cX3_signAt 28 = .ok (.bipush 122, 2) := by decide +kernel
theorem dX3_signAt_30 : decode cX3_signAt 30 = .ok (.if_icmp .gt 5, 3) := by decide +kernel
theorem dX3_signAt_33 : decode cX3_signAt 33 = .ok (.iconst 1, 1) := by decide +kernel
theorem dX3_signAt_34 : decode cX3_signAt 34 = .ok (.ireturn, 1) := by decide +kernel
theorem dX3_signAt_35 : decode cX3_signAt 35 = .ok (.iload_n 2, 1) := by decide +kernel
theorem dX3_signAt_36 : decode cX3_signAt 36 = .ok (.bipush 48, 2) := by decide +kernel
theorem dX3_signAt_38 : decode cX3_signAt 38 = .ok (.if_icmp .lt 11, 3) := by decide +kernel
theorem dX3_signAt_41 : decode cX3_signAt 41 = .ok (.iload_n 2, 1) := by decide +kernel
theorem dX3_signAt_42 : decode cX3_signAt 42 = .ok (.bipush 57, 2) := by decide +kernel
theorem dX3_signAt_44 : decode cX3_signAt 44 = .ok (.if_icmp .gt 5, 3) := by decide +kernel
theorem dX3_signAt_47 : decode cX3_signAt 47 = .ok (.iconst 2, 1) := by decide +kernel
theorem dX3_signAt_48 : decode cX3_signAt 48 = .ok (.ireturn, 1) := by decide +kernel
theorem dX3_signAt_49 : decode cX3_signAt 49 = .ok (.iload_n 2, 1) := by decide +kernel
theorem dX3_signAt_50 : decode cX3_signAt 50 = .ok (.bipush 59, 2) := by decide +kernel
theorem dX3_signAt_52 : decode cX3_signAt 52 = .ok (.if_icmp .ne 7, 3) := by decide +kernel
theorem dX3_signAt_55 : decode cX3_signAt 55 = .ok (.iconst 3, 1) := by decide +kernel
theorem dX3_signAt_56 : decode cX3_signAt 56 = .ok (.goto 4, 3) := by decide +kernel
theorem dX3_signAt_59 : decode cX3_signAt 59 = .ok (.iconst 4, 1) := by decide +kernel
theorem dX3_signAt_60 : decode cX3_signAt 60 = .ok (.ireturn, 1) := by decide +kernel
theorem dX3_valueNumber_0 : decode cX3_valueNumber 0 = .ok (.aload_n 0, 1) := by decide +kernel
theorem dX3_valueNumber_1 : decode cX3_valueNumber 1 = .ok (.getfield 33, 3) := by decide +kernel
theorem dX3_valueNumber_4 : decode cX3_valueNumber 4 = .ok (.aload_n 0, 1) := by decide +kernel
theorem dX3_valueNumber_5 : decode cX3_valueNumber 5 = .ok (.getfield 51, 3) := by decide +kernel
theorem dX3_valueNumber_8 : decode cX3_valueNumber 8 = .ok (.isub, 1) := by decide +kernel
theorem dX3_valueNumber_9 : decode cX3_valueNumber 9 = .ok (.istore_n 1, 1) := by decide +kernel
theorem dX3_valueNumber_10 : decode cX3_valueNumber 10 = .ok (.iload_n 1, 1) := by decide +kernel
theorem dX3_valueNumber_11 : decode cX3_valueNumber 11 = .ok (.iconst 1, 1) := by decide +kernel
theorem dX3_valueNumber_12 : decode cX3_valueNumber 12 = .ok (.if_icmp .ne 22, 3) := by decide +kernel
theorem dX3_valueNumber_15 : decode cX3_valueNumber 15 = .ok (.aload_n 0, 1) := by decide +kernel
theorem dX3_valueNumber_16 : decode cX3_valueNumber 16 = .ok (.aload_n 0, 1) := by decide +kernel
theorem dX3_valueNumber_17 : decode cX3_valueNumber 17 = .ok (.getfield 9, 3) := by decide +kernel
theorem dX3_valueNumber_20 : decode cX3_valueNumber 20 = .ok (.aload_n 0, 1) := by decide +kernel
theorem dX3_valueNumber_21 : decode cX3_valueNumber 21 = .ok (.getfield 51, 3) := by decide +kernel
theorem dX3_valueNumber_24 : decode cX3_valueNumber 24 = .ok (.iaload, 1) := by decide +kernel
theorem dX3_valueNumber_25 : decode cX3_valueNumber 25 = .ok (.bipush 48, 2) := by decide +kernel
theorem dX3_valueNumber_27 : decode cX3_valueNumber 27 = .ok (.isub, 1) := by decide +kernel
theorem dX3_valueNumber_28 : decode cX3_valueNumber 28 = .ok (.putfield 144, 3) := by decide +kernel
theorem dX3_valueNumber_31 : decode cX3_valueNumber 31 = .ok (.goto 64, 3) := by decide +kernel
theorem dX3_valueNumber_34 : decode cX3_valueNumber 34 = .ok (.iload_n 1, 1) := by decide +kernel
theorem dX3_valueNumber_35 : decode cX3_valueNumber 35 = .ok (.iconst 2, 1) := by decide +kernel
theorem dX3_valueNumber_36 : decode cX3_valueNumber 36 = .ok (.if_icmp .ne 54, 3) := by decide +kernel
theorem dX3_valueNumber_39 : decode cX3_valueNumber 39 = .ok (.aload_n 0, 1) := by decide +kernel
theorem dX3_valueNumber_40 : decode cX3_valueNumber 40 = .ok (.getfield 9, 3) := by decide +kernel
theorem dX3_valueNumber_43 : decode cX3_valueNumber 43 = .ok (.aload_n 0, 1) := by decide +kernel
theorem dX3_valueNumber_44 : decode cX3_valueNumber 44 = .ok (.getfield 51, 3) := by decide +kernel
theorem dX3_valueNumber_47 : decode cX3_valueNumber 47 = .ok (.iaload, 1) := by decide +kernel
theorem dX3_valueNumber_48 : decode cX3_valueNumber 48 = .ok (.bipush 48, 2) := by decide +kernel
theorem dX3_valueNumber_50 : decode cX3_valueNumber 50 = .ok (.if_icmp .eq 40, 3) := by decide +kernel
theorem dX3_valueNumber_53 : decode cX3_valueNumber 53 = .ok (.aload_n 0, 1) := by decide +kernel
theorem dX3_valueNumber_54 : decode cX3_valueNumber 54 = .ok (.aload_n 0, 1) := by decide +kernel
theorem dX3_valueNumber_55 : decode cX3_valueNumber 55 = .ok (.getfield 9, 3) := by decide +kernel
theorem dX3_valueNumber_58 : decode cX3_valueNumber 58 = .ok (.aload_n 0, 1) := by decide +kernel
theorem dX3_valueNumber_59 : decode cX3_valueNumber 59 = .ok (.getfield 51, 3) := by decide +kernel
theorem dX3_valueNumber_62 : decode cX3_valueNumber 62 = .ok (.iaload, 1) := by decide +kernel
theorem dX3_valueNumber_63 : decode cX3_valueNumber 63 = .ok (.bipush 48, 2) := by decide +kernel
theorem dX3_valueNumber_65 : decode cX3_valueNumber 65 = .ok (.isub, 1) := by decide +kernel
theorem dX3_valueNumber_66 : decode cX3_valueNumber 66 = .ok (.bipush 10, 2) := by decide +kernel
theorem dX3_valueNumber_68 : decode cX3_valueNumber 68 = .ok (.imul, 1) := by decide +kernel
theorem dX3_valueNumber_69 : decode cX3_valueNumber 69 = .ok (.aload_n 0, 1) := by decide +kernel
theorem dX3_valueNumber_70 : decode cX3_valueNumber 70 = .ok (.getfield 9, 3) := by decide +kernel
theorem dX3_valueNumber_73 : decode cX3_valueNumber 73 = .ok (.aload_n 0, 1) := by decide +kernel
theorem dX3_valueNumber_74 : decode cX3_valueNumber 74 = .ok (.getfield 51, 3) := by decide +kernel
theorem dX3_valueNumber_77 : decode cX3_valueNumber 77 = .ok (.iconst 1, 1) := by decide +kernel
theorem dX3_valueNumber_78 : decode cX3_valueNumber 78 = .ok (.iadd, 1) := by decide +kernel
theorem dX3_valueNumber_79 : decode cX3_valueNumber 79 = .ok (.iaload, 1) := by decide +kernel
theorem dX3_valueNumber_80 : decode cX3_valueNumber 80 = .ok (.iadd, 1) := by decide +kernel
theorem dX3_valueNumber_81 : decode cX3_valueNumber 81 = .ok (.bipush 48, 2) := by decide +kernel
theorem dX3_valueNumber_83 : decode cX3_valueNumber 83 = .ok (.isub, 1) := by decide +kernel
theorem dX3_valueNumber_84 : decode cX3_valueNumber 84 = .ok (.putfield 144, 3) := by decide +kernel
theorem dX3_valueNumber_87 : decode cX3_valueNumber 87 = .ok (.goto 8, 3) := by decide +kernel
theorem dX3_valueNumber_90 : decode cX3_valueNumber 90 = .ok (.aload_n 0, 1) := by decide +kernel
theorem dX3_valueNumber_91 : decode cX3_valueNumber 91 = .ok (.iconst 4, 1) := by decide +kernel
theorem dX3_valueNumber_92 : decode cX3_valueNumber 92 = .ok (.putfield 44, 3) := by decide +kernel
theorem dX3_valueNumber_95 : decode cX3_valueNumber 95 = .ok (.return_, 1) := by decide +kernel
set_option maxRecDepth 20000 in
theorem ggX4_init_X4_workBack : GoodIn wsX4_init wsX4_workBack := goodIn_r _ [14, 5, 15, 16, 17, 13, 18, 19, 9, 8, 20, 21, 22, 23, 24, 25, 26, 27, 28, 29, 30, 31, 32] (by decide +kernel) (by decide +kernel)
set_option maxRecDepth 20000 in
theorem gX4_init_X4_workBack : GoodIn wsX4_init (wsV RX4 25 RX4 yX4_workBack wsX4_workBack) := goodIn_app (goodIn_of _ (by decide +kernel)) ggX4_init_X4_workBack
theorem dX4_init_0 : decode cX4_init 0 = .ok (.aload_n 0, 1) := by decide +kernel
theorem dX4_init_1 : decode cX4_init 1 = .ok (.invokespecial 3, 3) := by decide +kernel
theorem dX4_init_4 : decode cX4_init 4 = .ok (.aload_n 0, 1) := by decide +kernel
theorem dX4_init_5 : decode cX4_init 5 = .ok (.bipush 8, 2) := by decide +kernel
theorem dX4_init_7 : decode cX4_init 7 = .ok (.newarray .int, 2) := by decide +kernel
theorem dX4_init_9 : decode cX4_init 9 = .ok (.putfield 11, 3) := by decide +kernel
theorem dX4_init_12 : decode cX4_init 12 = .ok (.iconst 0, 1) := by decide +kernel
theorem dX4_init_13 : decode cX4_init 13 = .ok (.istore_n 1, 1) := by decide +kernel
theorem dX4_init_14 : decode cX4_init 14 = .ok (.iload_n 1, 1) := by decide +kernel
theorem dX4_init_15 : decode cX4_init 15 = .ok (.bipush 8, 2) := by decide +kernel
theorem dX4_init_17 : decode cX4_init 17 = .ok (.if_icmp .ge 20, 3) := by decide +kernel
theorem dX4_init_20 : decode cX4_init 20 = .ok (.aload_n 0, 1) := by decide +kernel
theorem dX4_init_21 : decode cX4_init 21 = .ok (.getfield 11, 3) := by decide +kernel
theorem dX4_init_24 : decode cX4_init 24 = .ok (.iload_n 1, 1) := by decide +kernel
theorem dX4_init_25 : decode cX4_init 25 = .ok (.getstatic 15, 3) := by decide +kernel
theorem dX4_init_28 : decode cX4_init 28 = .ok (.iload_n 1, 1) := by decide +kernel
theorem dX4_init_29 : decode cX4_init 29 = .ok (.iaload, 1) := by decide +kernel
theorem dX4_init_30 : decode cX4_init 30 = .ok (.iastore, 1) := by decide +kernel
theorem dX4_init_31 : decode cX4_init 31 = .ok (.iinc 1 1, 3) := by decide +kernel
theorem dX4_init_34 : decode cX4_init 34 = .ok (.goto (-20), 3) := by decide +kernel
theorem dX4_init_37 : decode cX4_init 37 = .ok (.aload_n 0, 1) := by decide +kernel
theorem dX4_init_38 : decode cX4_init 38 = .ok (.bipush 81, 2) := by decide +kernel
theorem dX4_init_40 : decode cX4_init 40 = .ok (.newarray .long, 2) := by decide +kernel
theorem dX4_init_42 : decode cX4_init 42 = .ok (.putfield 18, 3) := by decide +kernel
theorem dX4_init_45 : decode cX4_init 45 = .ok (.aload_n 0, 1) := by decide +kernel
theorem dX4_init_46 : decode cX4_init 46 = .ok (.bipush 81, 2) := by decide +kernel
theorem dX4_init_48 : decode cX4_init 48 = .ok (.newarray .int, 2) := by decide +kernel
theorem dX4_init_50 : decode cX4_init 50 = .ok (.putfield 22, 3) := by decide +kernel
theorem dX4_init_53 : decode cX4_init 53 = .ok (.aload_n 0, 1) := by decide +kernel
theorem dX4_init_54 : decode cX4_init 54 = .ok (.invokevirtual 25, 3) := by decide +kernel
theorem dX4_init_57 : decode cX4_init 57 = .ok (.return_, 1) := by decide +kernel
theorem dX4_mayBe_0 : decode cX4_mayBe 0 = .ok (.iload_n 1, 1) := by decide +kernel
theorem dX4_mayBe_1 : decode cX4_mayBe 1 = .ok (.ifCond .lt 31, 3) := by decide +kernel
theorem dX4_mayBe_4 : decode cX4_mayBe 4 = .ok (.iload_n 1, 1) := by decide +kernel
theorem dX4_mayBe_5 : decode cX4_mayBe 5 = .ok (.bipush 8, 2) := by decide +kernel
theorem dX4_mayBe_7 : decode cX4_mayBe 7 = .ok (.if_icmp .ge 25, 3) := by decide +kernel
theorem dX4_mayBe_10 : decode cX4_mayBe 10 = .ok (.iload_n 2, 1) := by decide +kernel
theorem dX4_mayBe_11 : decode cX4_mayBe 11 = .ok (.getstatic 28, 3) := by decide +kernel
theorem dX4_mayBe_14 : decode cX4_mayBe 14 = .ok (.iload_n 1, 1) := by decide +kernel
theorem dX4_mayBe_15 : decode cX4_mayBe 15 = .ok (.iaload, 1) := by decide +kernel
theorem dX4_mayBe_16 : decode cX4_mayBe 16 = .ok (.if_icmp .lt 16, 3) := by decide +kernel
theorem dX4_mayBe_19 : decode cX4_mayBe 19 = .ok (.iload_n 2, 1) := by decide +kernel
theorem dX4_mayBe_20 : decode cX4_mayBe 20 = .ok (.getstatic 31, 3) := by decide +kernel
theorem dX4_mayBe_23 : decode cX4_mayBe 23 = .ok (.iload_n 1, 1) := by decide +kernel
theorem dX4_mayBe_24 : decode cX4_mayBe 24 = .ok (.iaload, 1) := by decide +kernel
theorem dX4_mayBe_25 : decode cX4_mayBe 25 = .ok (.if_icmp .gt 7, 3) := by decide +kernel
theorem dX4_mayBe_28 : decode cX4_mayBe 28 = .ok (.iconst 1, 1) := by decide +kernel
theorem dX4_mayBe_29 : decode cX4_mayBe 29 = .ok (.goto 4, 3) := by decide +kernel
theorem dX4_mayBe_32 : decode cX4_mayBe 32 = .ok (.iconst 0, 1) := by decide +kernel
theorem dX4_mayBe_33 : decode cX4_mayBe 33 = .ok (.ireturn, 1) := by decide +kernel
set_option maxRecDepth 20000 in
theorem ggX4_change_X4_workBack : GoodIn wsX4_change wsX4_workBack := goodIn_r _ [6, 1, 7, 8, 9, 5, 10, 11, 12, 13, 14, 15, 16, 17, 18, 19, 20, 21, 22, 23, 24, 25, 26] (by decide +kernel) (by decide +kernel)
set_option maxRecDepth 20000 in
theorem gX4_change_X4_workBack : GoodIn wsX4_change (wsV RX4 25 RX4 yX4_workBack wsX4_workBack) := goodIn_app (goodIn_of _ (by decide +kernel)) ggX4_change_X4_workBack
theorem dX4_change_0 : decode cX4_change 0 = .ok (.aload_n 0, 1) := by decide +kernel
theorem dX4_change_1 : decode cX4_change 1 = .ok (.getfield 11, 3) := by decide +kernel
theorem dX4_change_4 : decode cX4_change 4 = .ok (.iload_n 1, 1) := by decide +kernel
theorem dX4_change_5 : decode cX4_change 5 = .ok (.iaload, 1) := by decide +kernel
theorem dX4_change_6 : decode cX4_change 6 = .ok (.istore_n 3, 1) := by decide +kernel
theorem dX4_change_7 : decode cX4_change 7 = .ok (.aload_n 0, 1) := by decide +kernel
theorem dX4_change_8 : decode cX4_change 8 = .ok (.getfield 11, 3) := by decide +kernel
theorem dX4_change_11 : decode cX4_change 11 = .ok (.iload_n 1, 1) := by decide +kernel
theorem dX4_change_12 : decode cX4_change 12 = .ok (.iload_n 2, 1) := by decide +kernel
theorem dX4_change_13 : decode cX4_change 13 = .ok (.iastore, 1) := by decide +kernel
theorem dX4_change_14 : decode cX4_change 14 = .ok (.aload_n 0, 1) := by decide +kernel
theorem dX4_change_15 : decode cX4_change 15 = .ok (.invokevirtual 25, 3) := by decide +kernel
theorem dX4_change_18 : decode cX4_change 18 = .ok (.iload_n 3, 1) := by decide +kernel
theorem dX4_change_19 : decode cX4_change 19 = .ok (.ireturn, 1) := by decide +kernel
theorem dX4_knows_0 : decode cX4_knows 0 = .ok (.iload_n 1, 1) := by decide +kernel
theorem dX4_knows_1 : decode cX4_knows 1 = .ok (.ifCond .lt 27, 3) := by decide +kernel
theorem dX4_knows_4 : decode cX4_knows 4 = .ok (.iload_n 1, 1) := by decide +kernel
theorem dX4_knows_5 : decode cX4_knows 5 = .ok (.aload_n 0, 1) := by decide +kernel
theorem dX4_knows_6 : decode cX4_knows 6 = .ok (.getfield 11, 3) := by decide +kernel
theorem dX4_knows_9 : decode cX4_knows 9 = .ok (.bipush 7, 2) := by decide +kernel
theorem dX4_knows_11 : decode cX4_knows 11 = .ok (.iaload, 1) := by decide +kernel
theorem dX4_knows_12 : decode cX4_knows 12 = .ok (.if_icmp .gt 16, 3) := by decide +kernel
theorem dX4_knows_15 : decode cX4_knows 15 = .ok (.iload_n 2, 1) := by decide +kernel
theorem dX4_knows_16 : decode cX4_knows 16 = .ok (.ifCond .lt 12, 3) := by decide +kernel
theorem dX4_knows_19 : decode cX4_knows 19 = .ok (.iload_n 2, 1) := by decide +kernel
theorem dX4_knows_20 : decode cX4_knows 20 = .ok (.iload_n 1, 1) := by decide +kernel
theorem dX4_knows_21 : decode cX4_knows 21 = .ok (.if_icmp .gt 7, 3) := by decide +kernel
theorem dX4_knows_24 : decode cX4_knows 24 = .ok (.iconst 1, 1) := by decide +kernel
theorem dX4_knows_25 : decode cX4_knows 25 = .ok (.goto 4, 3) := by decide +kernel
theorem dX4_knows_28 : decode cX4_knows 28 = .ok (.iconst 0, 1) := by decide +kernel
theorem dX4_knows_29 : decode cX4_knows 29 = .ok (.ireturn, 1) := by decide +kernel
theorem dX4_choiceAt_0 : decode cX4_choiceAt 0 = .ok (.aload_n 0, 1) := by decide +kernel
theorem dX4_choiceAt_1 : decode cX4_choiceAt 1 = .ok (.getfield 22, 3) := by decide +kernel
theorem dX4_choiceAt_4 : decode cX4_choiceAt 4 = .ok (.iload_n 1, 1) := by decide +kernel
theorem dX4_choiceAt_5 : decode cX4_choiceAt 5 = .ok (.bipush 9, 2) := by decide +kernel
theorem dX4_choiceAt_7 : decode cX4_choiceAt 7 = .ok (.imul, 1) := by decide +kernel
theorem dX4_choiceAt_8 : decode cX4_choiceAt 8 = .ok (.iload_n 2, 1) := by decide +kernel
theorem dX4_choiceAt_9 : decode cX4_choiceAt 9 = .ok (.iadd, 1) := by decide +kernel
theorem dX4_choiceAt_10 : decode cX4_choiceAt 10 = .ok (.iaload, 1) := by decide +kernel
theorem dX4_choiceAt_11 : decode cX4_choiceAt 11 = .ok (.ireturn, 1) := by decide +kernel
theorem dX4_leastAt_0 : decode cX4_leastAt 0 = .ok (.aload_n 0, 1) := by decide +kernel
theorem dX4_leastAt_1 : decode cX4_leastAt 1 = .ok (.getfield 18, 3) := by decide +kernel
theorem dX4_leastAt_4 : decode cX4_leastAt 4 = .ok (.iload_n 1, 1) := by decide +kernel
theorem dX4_leastAt_5 : decode cX4_leastAt 5 = .ok (.bipush 9, 2) := by decide +kernel
theorem dX4_leastAt_7 : decode cX4_leastAt 7 = .ok (.imul, 1) := by decide +kernel
theorem dX4_leastAt_8 : decode cX4_leastAt 8 = .ok (.iload_n 2, 1) := by decide +kernel
theorem dX4_leastAt_9 : decode cX4_leastAt 9 = .ok (.iadd, 1) := by decide +kernel
theorem dX4_leastAt_10 : decode cX4_leastAt 10 = .ok (.laload, 1) := by decide +kernel
theorem dX4_leastAt_11 : decode cX4_leastAt 11 = .ok (.lreturn, 1) := by decide +kernel
set_option maxRecDepth 20000 in
theorem ggX4_lastToGoOn_X4_choiceAt : GoodIn wsX4_lastToGoOn wsX4_choiceAt := goodIn_r _ [6, 7, 8, 9, 10] (by decide +kernel) (by decide +kernel)
set_option maxRecDepth 20000 in
theorem gX4_lastToGoOn_X4_choiceAt : GoodIn wsX4_lastToGoOn (wsV RX4 34 RX4 yX4_choiceAt wsX4_choiceAt) := goodIn_app (goodIn_of _ (by decide +kernel)) ggX4_lastToGoOn_X4_choiceAt
theorem dX4_lastToGoOn_0 : decode cX4_lastToGoOn 0 = .ok (.aload_n 0, 1) := by decide +kernel
theorem dX4_lastToGoOn_1 : decode cX4_lastToGoOn 1 = .ok (.getfield 11, 3) := by decide +kernel
theorem dX4_lastToGoOn_4 : decode cX4_lastToGoOn 4 = .ok (.bipush 7, 2) := by decide +kernel
theorem dX4_lastToGoOn_6 : decode cX4_lastToGoOn 6 = .ok (.iaload, 1) := by decide +kernel
theorem dX4_lastToGoOn_7 : decode cX4_lastToGoOn 7 = .ok (.istore_n 1, 1) := by decide +kernel
theorem dX4_lastToGoOn_8 : decode cX4_lastToGoOn 8 = .ok (.iload_n 1, 1) := by decide +kernel
theorem dX4_lastToGoOn_9 : decode cX4_lastToGoOn 9 = .ok (.ifCond .lt 34, 3) := by decide +kernel
theorem dX4_lastToGoOn_12 : decode cX4_lastToGoOn 12 = .ok (.iconst 0, 1) := by decide +kernel
theorem dX4_lastToGoOn_13 : decode cX4_lastToGoOn 13 = .ok (.istore_n 2, 1) := by decide +kernel
theorem dX4_lastToGoOn_14 : decode cX4_lastToGoOn 14 = .ok (.iload_n 2, 1) := by decide +kernel
theorem dX4_lastToGoOn_15 : decode cX4_lastToGoOn 15 = .ok (.iload_n 1, 1) := by decide +kernel
theorem dX4_lastToGoOn_16 : decode cX4_lastToGoOn 16 = .ok (.if_icmp .gt 21, 3) := by decide +kernel
theorem dX4_lastToGoOn_19 : decode cX4_lastToGoOn 19 = .ok (.aload_n 0, 1) := by decide +kernel
theorem dX4_lastToGoOn_20 : decode cX4_lastToGoOn 20 = .ok (.iload_n 1, 1) := by decide +kernel
theorem dX4_lastToGoOn_21 : decode cX4_lastToGoOn 21 = .ok (.iload_n 2, 1) := by decide +kernel
theorem dX4_lastToGoOn_22 : decode cX4_lastToGoOn 22 = .ok (.invokevirtual 34, 3) := by decide +kernel
theorem dX4_lastToGoOn_25 : decode cX4_lastToGoOn 25 = .ok (.iconst 2, 1) := by decide +kernel
theorem dX4_lastToGoOn_26 : decode cX4_lastToGoOn 26 = .ok (.if_icmp .ne 5, 3) := by decide +kernel
theorem dX4_lastToGoOn_29 : decode cX4_lastToGoOn 29 = .ok (.iload_n 1, 1) := by decide +kernel
theorem dX4_lastToGoOn_30 : decode cX4_lastToGoOn 30 = .ok (.ireturn, 1) := by decide +kernel
theorem dX4_lastToGoOn_31 : decode cX4_lastToGoOn 31 = .ok (.iinc 2 1, 3) := by decide +kernel
theorem dX4_lastToGoOn_34 : decode cX4_lastToGoOn 34 = .ok (.goto (-20), 3) := by decide +kernel
theorem dX4_lastToGoOn_37 : decode cX4_lastToGoOn 37 = .ok (.iinc 1 (-1), 3) := by decide +kernel
theorem dX4_lastToGoOn_40 : decode cX4_lastToGoOn 40 = .ok (.goto (-32), 3) := by decide +kernel
theorem dX4_lastToGoOn_43 : decode cX4_lastToGoOn 43 = .ok (.bipush (-9), 2) := by decide +kernel
theorem dX4_lastToGoOn_45 : decode cX4_lastToGoOn 45 = .ok (.ireturn, 1) := by decide +kernel
set_option maxRecDepth 20000 in
theorem ggX4_leastToAccuse_X4_choiceAt : GoodIn wsX4_leastToAccuse wsX4_choiceAt := goodIn_r _ [5, 6, 7, 8, 9] (by decide +kernel) (by decide +kernel)
set_option maxRecDepth 20000 in
theorem gX4_leastToAccuse_X4_choiceAt : GoodIn wsX4_leastToAccuse (wsV RX4 34 RX4 yX4_choiceAt wsX4_choiceAt) := goodIn_app (goodIn_of _ (by decide +kernel)) ggX4_leastToAccuse_X4_choiceAt
theorem dX4_leastToAccuse_0 : decode cX4_leastToAccuse 0 = .ok (.iconst 0, 1) := by decide +kernel
theorem dX4_leastToAccuse_1 : decode cX4_leastToAccuse 1 = .ok (.istore_n 2, 1) := by decide +kernel
theorem dX4_leastToAccuse_2 : decode cX4_leastToAccuse 2 = .ok (.iload_n 2, 1) := by decide +kernel
theorem dX4_leastToAccuse_3 : decode cX4_leastToAccuse 3 = .ok (.iload_n 1, 1) := by decide +kernel
theorem dX4_leastToAccuse_4 : decode cX4_leastToAccuse 4 = .ok (.if_icmp .gt 20, 3) := by decide +kernel
theorem dX4_leastToAccuse_7 : decode cX4_leastToAccuse 7 = .ok (.aload_n 0, 1) := by decide +kernel
theorem dX4_leastToAccuse_8 : decode cX4_leastToAccuse 8 = .ok (.iload_n 1, 1) := by decide +kernel
theorem dX4_leastToAccuse_9 : decode cX4_leastToAccuse 9 = .ok (.iload_n 2, 1) := by decide +kernel
theorem dX4_leastToAccuse_10 : decode cX4_leastToAccuse 10 = .ok (.invokevirtual 34, 3) := by decide +kernel
theorem dX4_leastToAccuse_13 : decode cX4_leastToAccuse 13 = .ok (.ifCond .ne 5, 3) := by decide +kernel
theorem dX4_leastToAccuse_16 : decode cX4_leastToAccuse 16 = .ok (.iload_n 2, 1) := by decide +kernel
theorem dX4_leastToAccuse_17 : decode cX4_leastToAccuse 17 = .ok (.ireturn, 1) := by decide +kernel
theorem dX4_leastToAccuse_18 : decode cX4_leastToAccuse 18 = .ok (.iinc 2 1, 3) := by decide +kernel
theorem dX4_leastToAccuse_21 : decode cX4_leastToAccuse 21 = .ok (.goto (-19), 3) := by decide +kernel
theorem dX4_leastToAccuse_24 : decode cX4_leastToAccuse 24 = .ok (.bipush (-9), 2) := by decide +kernel
theorem dX4_leastToAccuse_26 : decode cX4_leastToAccuse 26 = .ok (.ireturn, 1) := by decide +kernel
set_option maxRecDepth 20000 in
theorem ggX4_workBack_X4_decide : GoodIn wsX4_workBack wsX4_decide := goodIn_r _ [6, 7, 1, 8, 9, 10, 11, 12, 13, 14, 5, 15, 16, 17, 18, 19, 20, 21, 22] (by decide +kernel) (by decide +kernel)
set_option maxRecDepth 20000 in
theorem gX4_workBack_X4_decide : GoodIn wsX4_workBack (wsV RX4 38 RX4 yX4_decide wsX4_decide) := goodIn_app (goodIn_of _ (by decide +kernel)) ggX4_workBack_X4_decide
theorem dX4_workBack_0 : decode cX4_workBack 0 = .ok (.aload_n 0, 1) := by decide +kernel
theorem dX4_workBack_1 : decode cX4_workBack 1 = .ok (.getfield 11, 3) := by decide +kernel
theorem dX4_workBack_4 : decode cX4_workBack 4 = .ok (.bipush 7, 2) := by decide +kernel
theorem dX4_workBack_6 : decode cX4_workBack 6 = .ok (.iaload, 1) := by decide +kernel
theorem dX4_workBack_7 : decode cX4_workBack 7 = .ok (.istore_n 1, 1) := by decide +kernel
theorem dX4_workBack_8 : decode cX4_workBack 8 = .ok (.iload_n 1, 1) := by decide +kernel
theorem dX4_workBack_9 : decode cX4_workBack 9 = .ok (.ifCond .lt 28, 3) := by decide +kernel
theorem dX4_workBack_12 : decode cX4_workBack 12 = .ok (.iconst 0, 1) := by decide +kernel
theorem dX4_workBack_13 : decode cX4_workBack 13 = .ok (.istore_n 2, 1) := by decide +kernel
theorem dX4_workBack_14 : decode cX4_workBack 14 = .ok (.iload_n 2, 1) := by decide +kernel
theorem dX4_workBack_15 : decode cX4_workBack 15 = .ok (.iload_n 1, 1) := by decide +kernel
theorem dX4_workBack_16 : decode cX4_workBack 16 = .ok (.if_icmp .gt 15, 3) := by decide +kernel
theorem dX4_workBack_19 : decode cX4_workBack 19 = .ok (.aload_n 0, 1) := by decide +kernel
theorem dX4_workBack_20 : decode cX4_workBack 20 = .ok (.iload_n 1, 1) := by decide +kernel
theorem dX4_workBack_21 : decode cX4_workBack 21 = .ok (.iload_n 2, 1) := by decide +kernel
theorem dX4_workBack_22 : decode cX4_workBack 22 = .ok (.invokevirtual 38, 3) := by decide +kernel
theorem dX4_workBack_25 : decode cX4_workBack 25 = .ok (.iinc 2 1, 3) := by decide +kernel
theorem dX4_workBack_28 : decode cX4_workBack 28 = .ok (.goto (-14), 3) := by decide +kernel
theorem dX4_workBack_31 : decode cX4_workBack 31 = .ok (.iinc 1 (-1), 3) := by decide +kernel
theorem dX4_workBack_34 : decode cX4_workBack 34 = .ok (.goto (-26), 3) := by decide +kernel
theorem dX4_workBack_37 : decode cX4_workBack 37 = .ok (.return_, 1) := by decide +kernel
set_option maxRecDepth 20000 in
theorem ggX4_decide_X5_power : GoodIn wsX4_decide wsX5_power := goodIn_r _ [7] (by decide +kernel) (by decide +kernel)
set_option maxRecDepth 20000 in
theorem gX4_decide_X5_power_n44 : GoodIn wsX4_decide (wsX5_power) := ggX4_decide_X5_power
set_option maxRecDepth 20000 in
theorem ggX4_decide_X4_weight : GoodIn wsX4_decide wsX4_weight := goodIn_r _ [11, 5, 6, 7] (by decide +kernel) (by decide +kernel)
set_option maxRecDepth 20000 in
theorem gX4_decide_X4_weight : GoodIn wsX4_decide (va_wsS RX4 48 yX4_weight wsX4_weight) := goodIn_app (goodIn_of _ (by decide +kernel)) ggX4_decide_X4_weight
set_option maxRecDepth 20000 in
theorem ggX4_decide_X4_leastAt : GoodIn wsX4_decide wsX4_leastAt := goodIn_r _ [15, 4, 16, 17, 18] (by decide +kernel) (by decide +kernel)
set_option maxRecDepth 20000 in
theorem gX4_decide_X4_leastAt : GoodIn wsX4_decide (wsV RX4 52 RX4 yX4_leastAt wsX4_leastAt) := goodIn_app (goodIn_of _ (by decide +kernel)) ggX4_decide_X4_leastAt
theorem dX4_decide_0 : decode cX4_decide 0 = .ok (.ldc2_w 42, 3) := by decide +kernel
theorem dX4_decide_3 : decode cX4_decide 3 = .ok (.aload_n 0, 1) := by decide +kernel
theorem dX4_decide_4 : decode cX4_decide 4 = .ok (.getfield 11, 3) := by decide +kernel
theorem dX4_decide_7 : decode cX4_decide 7 = .ok (.bipush 7, 2) := by decide +kernel
theorem dX4_decide_9 : decode cX4_decide 9 = .ok (.iaload, 1) := by decide +kernel
theorem dX4_decide_10 : decode cX4_decide 10 = .ok (.iload_n 1, 1) := by decide +kernel
theorem dX4_decide_11 : decode cX4_decide 11 = .ok (.isub, 1) := by decide +kernel
theorem dX4_decide_12 : decode cX4_decide 12 = .ok (.invokestatic 44, 3) := by decide +kernel
theorem dX4_decide_15 : decode cX4_decide 15 = .ok (.lstore_n 3, 1) := by decide +kernel
theorem dX4_decide_16 : decode cX4_decide 16 = .ok (.aload_n 0, 1) := by decide +kernel
theorem dX4_decide_17 : decode cX4_decide 17 = .ok (.getfield 11, 3) := by decide +kernel
theorem dX4_decide_20 : decode cX4_decide 20 = .ok (.iconst 2, 1) := by decide +kernel
theorem dX4_decide_21 : decode cX4_decide 21 = .ok (.iaload, 1) := by decide +kernel
theorem dX4_decide_22 : decode cX4_decide 22 = .ok (.aload_n 0, 1) := by decide +kernel
theorem dX4_decide_23 : decode cX4_decide 23 = .ok (.getfield 11, 3) := by decide +kernel
theorem dX4_decide_26 : decode cX4_decide 26 = .ok (.iconst 0, 1) := by decide +kernel
theorem dX4_decide_27 : decode cX4_decide 27 = .ok (.iaload, 1) := by decide +kernel
theorem dX4_decide_28 : decode cX4_decide 28 = .ok (.iload_n 1, 1) := by decide +kernel
theorem dX4_decide_29 : decode cX4_decide 29 = .ok (.iload_n 2, 1) := by decide +kernel
theorem dX4_decide_30 : decode cX4_decide 30 = .ok (.invokestatic 48, 3) := by decide +kernel
theorem dX4_decide_33 : decode cX4_decide 33 = .ok (.lstore 5, 2) := by decide +kernel
theorem dX4_decide_35 : decode cX4_decide 35 = .ok (.aload_n 0, 1) := by decide +kernel
theorem dX4_decide_36 : decode cX4_decide 36 = .ok (.getfield 11, 3) := by decide +kernel
theorem dX4_decide_39 : decode cX4_decide 39 = .ok (.iconst 3, 1) := by decide +kernel
theorem dX4_decide_40 : decode cX4_decide 40 = .ok (.iaload, 1) := by decide +kernel
theorem dX4_decide_41 : decode cX4_decide 41 = .ok (.aload_n 0, 1) := by decide +kernel
theorem dX4_decide_42 : decode cX4_decide 42 = .ok (.getfield 11, 3) := by decide +kernel
theorem dX4_decide_45 : decode cX4_decide 45 = .ok (.iconst 1, 1) := by decide +kernel
theorem dX4_decide_46 : decode cX4_decide 46 = .ok (.iaload, 1) := by decide +kernel
theorem dX4_decide_47 : decode cX4_decide 47 = .ok (.iload_n 1, 1) := by decide +kernel
theorem dX4_decide_48 : decode cX4_decide 48 = .ok (.iload_n 2, 1) := by decide +kernel
theorem dX4_decide_49 : decode cX4_decide 49 = .ok (.invokestatic 48, 3) := by decide +kernel
theorem dX4_decide_52 : decode cX4_decide 52 = .ok (.lstore 7, 2) := by decide +kernel
theorem dX4_decide_54 : decode cX4_decide 54 = .ok (.iconst 0, 1) := by decide +kernel
theorem dX4_decide_55 : decode cX4_decide 55 = .ok (.istore 9, 2) := by decide +kernel
theorem dX4_decide_57 : decode cX4_decide 57 = .ok (.aload_n 0, 1) := by decide +kernel
theorem dX4_decide_58 : decode cX4_decide 58 = .ok (.getfield 11, 3) := by decide +kernel
theorem dX4_decide_61 : decode cX4_decide 61 = .ok (.iconst 4, 1) := by decide +kernel
theorem dX4_decide_62 : decode cX4_decide 62 = .ok (.iaload, 1) := by decide +kernel
theorem dX4_decide_63 : decode cX4_decide 63 = .ok (.i2l, 1) := by decide +kernel
theorem dX4_decide_64 : decode cX4_decide 64 = .ok (.lload 5, 2) := by decide +kernel
theorem dX4_decide_66 : decode cX4_decide 66 = .ok (.lmul, 1) := by decide +kernel
theorem dX4_decide_67 : decode cX4_decide 67 = .ok (.lload_n 3, 1) := by decide +kernel
theorem dX4_decide_68 : decode cX4_decide 68 = .ok (.lmul, 1) := by decide +kernel
theorem dX4_decide_69 : decode cX4_decide 69 = .ok (.lstore 10, 2) := by decide +kernel
theorem dX4_decide_71 : decode cX4_decide 71 = .ok (.aload_n 0, 1) := by decide +kernel
theorem dX4_decide_72 : decode cX4_decide 72 = .ok (.getfield 11, 3) := by decide +kernel
theorem dX4_decide_75 : decode cX4_decide 75 = .ok (.iconst 5, 1) := by decide +kernel
theorem dX4_decide_76 : decode cX4_decide 76 = .ok (.iaload, 1) := by decide +kernel
theorem dX4_decide_77 : decode cX4_decide 77 = .ok (.i2l, 1) := by decide +kernel
theorem dX4_decide_78 : decode cX4_decide 78 = .ok (.lload 7, 2) := by decide +kernel
theorem dX4_decide_80 : decode cX4_decide 80 = .ok (.lmul, 1) := by decide +kernel
theorem dX4_decide_81 : decode cX4_decide 81 = .ok (.lload_n 3, 1) := by decide +kernel
theorem dX4_decide_82 : decode cX4_decide 82 = .ok (.lmul, 1) := by decide +kernel
theorem dX4_decide_83 : decode cX4_decide 83 = .ok (.lstore 12, 2) := by decide +kernel
theorem dX4_decide_85 : decode cX4_decide 85 = .ok (.lload 12, 2) := by decide +kernel
theorem dX4_decide_87 : decode cX4_decide 87 = .ok (.lload 10, 2) := by decide +kernel
theorem dX4_decide_89 : decode cX4_decide 89 = .ok (.lcmp, 1) := by decide +kernel
theorem dX4_decide_90 : decode cX4_decide 90 = .ok (.ifCond .ge 10, 3) := by decide +kernel
theorem dX4_decide_93 : decode cX4_decide 93 = .ok (.iconst 1, 1) := by decide +kernel
theorem dX4_decide_94 : decode cX4_decide 94 = .ok (.istore 9, 2) := by decide +kernel
theorem dX4_decide_96 : decode cX4_decide 96 = .ok (.lload 12, 2) := by decide +kernel
theorem dX4_decide_98 : decode cX4_decide 98 = .ok (.lstore 10, 2) := by decide +kernel
theorem dX4_decide_100 : decode cX4_decide 100 = .ok (.iload_n 1, 1) := by decide +kernel
theorem dX4_decide_101 : decode cX4_decide 101 = .ok (.aload_n 0, 1) := by decide +kernel
theorem dX4_decide_102 : decode cX4_decide 102 = .ok (.getfield 11, 3) := by decide +kernel
theorem dX4_decide_105 : decode cX4_decide 105 = .ok (.bipush 7, 2) := by decide +kernel
theorem dX4_decide_107 : decode cX4_decide 107 = .ok (.iaload, 1) := by decide +kernel
theorem dX4_decide_108 : decode cX4_decide 108 = .ok (.if_icmp .ge 56, 3) := by decide +kernel
theorem dX4_decide_111 : decode cX4_decide 111 = .ok (.aload_n 0, 1) := by decide +kernel
theorem dX4_decide_112 : decode cX4_decide 112 = .ok (.getfield 11, 3) := by decide +kernel
theorem dX4_decide_115 : decode cX4_decide 115 = .ok (.bipush 6, 2) := by decide +kernel
theorem dX4_decide_117 : decode cX4_decide 117 = .ok (.iaload, 1) := by decide +kernel
theorem dX4_decide_118 : decode cX4_decide 118 = .ok (.i2l, 1) := by decide +kernel
theorem dX4_decide_119 : decode cX4_decide 119 = .ok (.lload 5, 2) := by decide +kernel
theorem dX4_decide_121 : decode cX4_decide 121 = .ok (.lload 7, 2) := by decide +kernel
theorem dX4_decide_123 : decode cX4_decide 123 = .ok (.ladd, 1) := by decide +kernel
theorem dX4_decide_124 : decode cX4_decide 124 = .ok (.lmul, 1) := by decide +kernel
theorem dX4_decide_125 : decode cX4_decide 125 = .ok (.lload_n 3, 1) := by decide +kernel
theorem dX4_decide_126 : decode cX4_decide 126 = .ok (.lmul, 1) := by decide +kernel
theorem dX4_decide_127 : decode cX4_decide 127 = .ok (.aload_n 0, 1) := by decide +kernel
theorem dX4_decide_128 : decode cX4_decide 128 = .ok (.iload_n 1, 1) := by decide +kernel
theorem dX4_decide_129 : decode cX4_decide 129 = .ok (.iconst 1, 1) := by decide +kernel
theorem dX4_decide_130 : decode cX4_decide 130 = .ok (.iadd, 1) := by decide +kernel
theorem dX4_decide_131 : decode cX4_decide 131 = .ok (.iload_n 2, 1) := by decide +kernel
theorem dX4_decide_132 : decode cX4_decide 132 = .ok (.iconst 1, 1) := by decide +kernel
theorem dX4_decide_133 : decode cX4_decide 133 = .ok (.iadd, 1) := by decide +kernel
theorem dX4_decide_134 : decode cX4_decide 134 = .ok (.invokevirtual 52, 3) := by decide +kernel
theorem dX4_decide_137 : decode cX4_decide 137 = .ok (.ladd, 1) := by decide +kernel
theorem dX4_decide_138 : decode cX4_decide 138 = .ok (.aload_n 0, 1) := by decide +kernel
theorem dX4_decide_139 : decode cX4_decide 139 = .ok (.iload_n 1, 1) := by decide +kernel
theorem dX4_decide_140 : decode cX4_decide 140 = .ok (.iconst 1, 1) := by decide +kernel
theorem dX4_decide_141 : decode cX4_decide 141 = .ok (.iadd, 1) := by decide +kernel
theorem dX4_decide_142 : decode cX4_decide 142 = .ok (.iload_n 2, 1) := by decide +kernel
theorem dX4_decide_143 : decode cX4_decide 143 = .ok (.invokevirtual 52, 3) := by decide +kernel
theorem dX4_decide_146 : decode cX4_decide 146 = .ok (.ladd, 1) := by decide +kernel
theorem dX4_decide_147 : decode cX4_decide 147 = .ok (.lstore 14, 2) := by decide +kernel
theorem dX4_decide_149 : decode cX4_decide 149 = .ok (.lload 14, 2) := by decide +kernel
theorem dX4_decide_151 : decode cX4_decide 151 = .ok (.lload 10, 2) := by decide +kernel
theorem dX4_decide_153 : decode cX4_decide 153 = .ok (.lcmp, 1) := by decide +kernel
theorem dX4_decide_154 : decode cX4_decide 154 = .ok (.ifCond .ge 10, 3) := by decide +kernel
theorem dX4_decide_157 : decode cX4_decide 157 = .ok (.iconst 2, 1) := by decide +kernel
theorem dX4_decide_158 : decode cX4_decide 158 = .ok (.istore 9, 2) := by decide +kernel
theorem dX4_decide_160 : decode cX4_decide 160 = .ok (.lload 14, 2) := by decide +kernel
theorem dX4_decide_162 : decode cX4_decide 162 = .ok (.lstore 10, 2) := by decide +kernel
theorem dX4_decide_164 : decode cX4_decide 164 = .ok (.aload_n 0, 1) := by decide +kernel
theorem dX4_decide_165 : decode cX4_decide 165 = .ok (.getfield 22, 3) := by decide +kernel
theorem dX4_decide_168 : decode cX4_decide 168 = .ok (.iload_n 1, 1) := by decide +kernel
theorem dX4_decide_169 : decode cX4_decide 169 = .ok (.bipush 9, 2) := by decide +kernel
theorem dX4_decide_171 : decode cX4_decide 171 = .ok (.imul, 1) := by decide +kernel
theorem dX4_decide_172 : decode cX4_decide 172 = .ok (.iload_n 2, 1) := by decide +kernel
theorem dX4_decide_173 : decode cX4_decide 173 = .ok (.iadd, 1) := by decide +kernel
theorem dX4_decide_174 : decode cX4_decide 174 = .ok (.iload 9, 2) := by decide +kernel
theorem dX4_decide_176 : decode cX4_decide 176 = .ok (.iastore, 1) := by decide +kernel
theorem dX4_decide_177 : decode cX4_decide 177 = .ok (.aload_n 0, 1) := by decide +kernel
theorem dX4_decide_178 : decode cX4_decide 178 = .ok (.getfield 18, 3) := by decide +kernel
theorem dX4_decide_181 : decode cX4_decide 181 = .ok (.iload_n 1, 1) := by decide +kernel
theorem dX4_decide_182 : decode cX4_decide 182 = .ok (.bipush 9, 2) := by decide +kernel
theorem dX4_decide_184 : decode cX4_decide 184 = .ok (.imul, 1) := by decide +kernel
theorem dX4_decide_185 : decode cX4_decide 185 = .ok (.iload_n 2, 1) := by decide +kernel
theorem dX4_decide_186 : decode cX4_decide 186 = .ok (.iadd, 1) := by decide +kernel
theorem dX4_decide_187 : decode cX4_decide 187 = .ok (.lload 10, 2) := by decide +kernel
theorem dX4_decide_189 : decode cX4_decide 189 = .ok (.lastore, 1) := by decide +kernel
theorem dX4_decide_190 : decode cX4_decide 190 = .ok (.return_, 1) := by decide +kernel
set_option maxRecDepth 20000 in
theorem ggX4_weight_X5_power : GoodIn wsX4_weight wsX5_power := goodIn_r _ [3] (by decide +kernel) (by decide +kernel)
set_option maxRecDepth 20000 in
theorem gX4_weight_X5_power_n44 : GoodIn wsX4_weight (wsX5_power) := ggX4_weight_X5_power
theorem dX4_weight_0 : decode cX4_weight 0 = .ok (.iload_n 0, 1) := by decide +kernel
theorem dX4_weight_1 : decode cX4_weight 1 = .ok (.i2l, 1) := by decide +kernel
theorem dX4_weight_2 : decode cX4_weight 2 = .ok (.iload_n 1, 1) := by decide +kernel
theorem dX4_weight_3 : decode cX4_weight 3 = .ok (.i2l, 1) := by decide +kernel
theorem dX4_weight_4 : decode cX4_weight 4 = .ok (.iload_n 3, 1) := by decide +kernel
theorem dX4_weight_5 : decode cX4_weight 5 = .ok (.invokestatic 44, 3) := by decide +kernel
theorem dX4_weight_8 : decode cX4_weight 8 = .ok (.lmul, 1) := by decide +kernel
theorem dX4_weight_9 : decode cX4_weight 9 = .ok (.bipush 10, 2) := by decide +kernel
theorem dX4_weight_11 : decode cX4_weight 11 = .ok (.iload_n 1, 1) := by decide +kernel
theorem dX4_weight_12 : decode cX4_weight 12 = .ok (.isub, 1) := by decide +kernel
theorem dX4_weight_13 : decode cX4_weight 13 = .ok (.i2l, 1) := by decide +kernel
theorem dX4_weight_14 : decode cX4_weight 14 = .ok (.iload_n 2, 1) := by decide +kernel
theorem dX4_weight_15 : decode cX4_weight 15 = .ok (.iload_n 3, 1) := by decide +kernel
theorem dX4_weight_16 : decode cX4_weight 16 = .ok (.isub, 1) := by decide +kernel
theorem dX4_weight_17 : decode cX4_weight 17 = .ok (.invokestatic 44, 3) := by decide +kernel
theorem dX4_weight_20 : decode cX4_weight 20 = .ok (.lmul, 1) := by decide +kernel
theorem dX4_weight_21 : decode cX4_weight 21 = .ok (.lreturn, 1) := by decide +kernel
set_option maxRecDepth 20000 in
theorem ggX5_init_X2_init : GoodIn wsX5_init wsX2_init := goodIn_r _ [37, 38, 2, 3, 4, 39, 40, 41, 42, 43, 44, 45, 46, 47, 48, 8, 49, 50, 51, 52, 53, 54, 123, 124, 125, 126, 127, 128, 129, 130, 131, 132, 133, 134] (by decide +kernel) (by decide +kernel)
set_option maxRecDepth 20000 in
theorem gX5_init_X2_init : GoodIn wsX5_init (wsX2_init) := ggX5_init_X2_init
set_option maxRecDepth 20000 in
theorem ggX5_init_X3_init : GoodIn wsX5_init wsX3_init := goodIn_r _ [57, 58, 2, 3, 59, 60, 135, 136, 137, 138, 139, 140, 141, 142, 143] (by decide +kernel) (by decide +kernel)
set_option maxRecDepth 20000 in
theorem gX5_init_X3_init : GoodIn wsX5_init (wsX3_init) := ggX5_init_X3_init
set_option maxRecDepth 20000 in
theorem ggX5_init_X0_init : GoodIn wsX5_init wsX0_init := goodIn_r _ [63, 64, 2, 3, 4, 65, 66, 67, 68, 69, 70, 71, 72, 73, 144, 145, 146, 147, 148, 149, 150, 151, 152, 153, 154, 155, 156, 157, 158] (by decide +kernel) (by decide +kernel)
set_option maxRecDepth 20000 in
theorem gX5_init_X0_init : GoodIn wsX5_init (wsX0_init) := ggX5_init_X0_init
set_option maxRecDepth 20000 in
theorem ggX5_init_X1_init : GoodIn wsX5_init wsX1_init := goodIn_r _ [76, 77, 2, 3, 78, 79, 159] (by decide +kernel) (by decide +kernel)
set_option maxRecDepth 20000 in
theorem gX5_init_X1_init : GoodIn wsX5_init (wsX1_init) := ggX5_init_X1_init
set_option maxRecDepth 20000 in
theorem ggX5_init_X4_init : GoodIn wsX5_init wsX4_init := goodIn_r _ [82, 83, 2, 3, 4, 84, 85, 78, 86, 87, 88, 89, 90, 30, 91, 92, 93, 94, 95, 96, 97, 98, 99, 100, 101, 102, 103, 104, 105, 106, 160, 161, 162] (by decide +kernel) (by decide +kernel)
set_option maxRecDepth 20000 in
theorem gX5_init_X4_init : GoodIn wsX5_init (wsX4_init) := ggX5_init_X4_init
