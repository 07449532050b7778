theorem dX5_init_0 : decode cX5_init 0 = .ok (.aload_n 0, 1) := by decide +kernel
theorem dX5_init_1 : decode cX5_init 1 = .ok (.invokespecial 1, 3) := by decide +kernel
theorem dX5_init_4 : decode cX5_init 4 = .ok (.aload_n 0, 1) := by decide +kernel
theorem dX5_init_5 : decode cX5_init 5 = .ok (.sipush 400, 3) := by decide +kernel
theorem dX5_init_8 : decode cX5_init 8 = .ok (.newarray .int, 2) := by decide +kernel
theorem dX5_init_10 : decode cX5_init 10 = .ok (.putfield 9, 3) := by decide +kernel
theorem dX5_init_13 : decode cX5_init 13 = .ok (.aload_n 0, 1) := by decide +kernel
theorem dX5_init_14 : decode cX5_init 14 = .ok (.new 13, 3) := by decide +kernel
theorem dX5_init_17 : decode cX5_init 17 = .ok (.dup, 1) := by decide +kernel
theorem dX5_init_18 : decode cX5_init 18 = .ok (.invokespecial 15, 3) := by decide +kernel
theorem dX5_init_21 : decode cX5_init 21 = .ok (.putfield 16, 3) := by decide +kernel
theorem dX5_init_24 : decode cX5_init 24 = .ok (.aload_n 0, 1) := by decide +kernel
theorem dX5_init_25 : decode cX5_init 25 = .ok (.new 13, 3) := by decide +kernel
theorem dX5_init_28 : decode cX5_init 28 = .ok (.dup, 1) := by decide +kernel
theorem dX5_init_29 : decode cX5_init 29 = .ok (.invokespecial 15, 3) := by decide +kernel
theorem dX5_init_32 : decode cX5_init 32 = .ok (.putfield 20, 3) := by decide +kernel
theorem dX5_init_35 : decode cX5_init 35 = .ok (.aload_n 0, 1) := by decide +kernel
theorem dX5_init_36 : decode cX5_init 36 = .ok (.new 23, 3) := by decide +kernel
theorem dX5_init_39 : decode cX5_init 39 = .ok (.dup, 1) := by decide +kernel
theorem dX5_init_40 : decode cX5_init 40 = .ok (.aload_n 0, 1) := by decide +kernel
theorem dX5_init_41 : decode cX5_init 41 = .ok (.getfield 9, 3) := by decide +kernel
theorem dX5_init_44 : decode cX5_init 44 = .ok (.aload_n 0, 1) := by decide +kernel
theorem dX5_init_45 : decode cX5_init 45 = .ok (.getfield 20, 3) := by decide +kernel
theorem dX5_init_48 : decode cX5_init 48 = .ok (.invokespecial 25, 3) := by decide +kernel
theorem dX5_init_51 : decode cX5_init 51 = .ok (.putfield 28, 3) := by decide +kernel
theorem dX5_init_54 : decode cX5_init 54 = .ok (.aload_n 0, 1) := by decide +kernel
theorem dX5_init_55 : decode cX5_init 55 = .ok (.bipush 6, 2) := by decide +kernel
theorem dX5_init_57 : decode cX5_init 57 = .ok (.newarray .int, 2) := by decide +kernel
theorem dX5_init_59 : decode cX5_init 59 = .ok (.putfield 32, 3) := by decide +kernel
theorem dX5_init_62 : decode cX5_init 62 = .ok (.aload_n 0, 1) := by decide +kernel
theorem dX5_init_63 : decode cX5_init 63 = .ok (.new 35, 3) := by decide +kernel
theorem dX5_init_66 : decode cX5_init 66 = .ok (.dup, 1) := by decide +kernel
theorem dX5_init_67 : decode cX5_init 67 = .ok (.invokespecial 37, 3) := by decide +kernel
theorem dX5_init_70 : decode cX5_init 70 = .ok (.putfield 38, 3) := by decide +kernel
theorem dX5_init_73 : decode cX5_init 73 = .ok (.aload_n 0, 1) := by decide +kernel
theorem dX5_init_74 : decode cX5_init 74 = .ok (.getfield 38, 3) := by decide +kernel
theorem dX5_init_77 : decode cX5_init 77 = .ok (.iconst 1, 1) := by decide +kernel
theorem dX5_init_78 : decode cX5_init 78 = .ok (.putfield 42, 3) := by decide +kernel
theorem dX5_init_81 : decode cX5_init 81 = .ok (.aload_n 0, 1) := by decide +kernel
theorem dX5_init_82 : decode cX5_init 82 = .ok (.iconst 2, 1) := by decide +kernel
theorem dX5_init_83 : decode cX5_init 83 = .ok (.anewarray 35, 3) := by decide +kernel
theorem dX5_init_86 : decode cX5_init 86 = .ok (.putfield 46, 3) := by decide +kernel
theorem dX5_init_89 : decode cX5_init 89 = .ok (.iconst 0, 1) := by decide +kernel
theorem dX5_init_90 : decode cX5_init 90 = .ok (.istore_n 1, 1) := by decide +kernel
theorem dX5_init_91 : decode cX5_init 91 = .ok (.iload_n 1, 1) := by decide +kernel
theorem dX5_init_92 : decode cX5_init 92 = .ok (.iconst 2, 1) := by decide +kernel
theorem dX5_init_93 : decode cX5_init 93 = .ok (.if_icmp .ge 22, 3) := by decide +kernel
theorem dX5_init_96 : decode cX5_init 96 = .ok (.aload_n 0, 1) := by decide +kernel
theorem dX5_init_97 : decode cX5_init 97 = .ok (.getfield 46, 3) := by decide +kernel
theorem dX5_init_100 : decode cX5_init 100 = .ok (.iload_n 1, 1) := by decide +kernel
theorem dX5_init_101 : decode cX5_init 101 = .ok (.new 35, 3) := by decide +kernel
theorem dX5_init_104 : decode cX5_init 104 = .ok (.dup, 1) := by decide +kernel
theorem dX5_init_105 : decode cX5_init 105 = .ok (.invokespecial 37, 3) := by decide +kernel
theorem dX5_init_108 : decode cX5_init 108 = .ok (.aastore, 1) := by decide +kernel
theorem dX5_init_109 : decode cX5_init 109 = .ok (.iinc 1 1, 3) := by decide +kernel
theorem dX5_init_112 : decode cX5_init 112 = .ok (.goto (-21), 3) := by decide +kernel
theorem dX5_init_115 : decode cX5_init 115 = .ok (.aload_n 0, 1) := by decide +kernel
theorem dX5_init_116 : decode cX5_init 116 = .ok (.iconst 2, 1) := by decide +kernel
theorem dX5_init_117 : decode cX5_init 117 = .ok (.newarray .boolean, 2) := by decide +kernel
theorem dX5_init_119 : decode cX5_init 119 = .ok (.putfield 50, 3) := by decide +kernel
theorem dX5_init_122 : decode cX5_init 122 = .ok (.aload_n 0, 1) := by decide +kernel
theorem dX5_init_123 : decode cX5_init 123 = .ok (.new 54, 3) := by decide +kernel
theorem dX5_init_126 : decode cX5_init 126 = .ok (.dup, 1) := by decide +kernel
theorem dX5_init_127 : decode cX5_init 127 = .ok (.invokespecial 56, 3) := by decide +kernel
theorem dX5_init_130 : decode cX5_init 130 = .ok (.putfield 57, 3) := by decide +kernel
theorem dX5_init_133 : decode cX5_init 133 = .ok (.aload_n 0, 1) := by decide +kernel
theorem dX5_init_134 : decode cX5_init 134 = .ok (.new 61, 3) := by decide +kernel
theorem dX5_init_137 : decode cX5_init 137 = .ok (.dup, 1) := by decide +kernel
theorem dX5_init_138 : decode cX5_init 138 = .ok (.invokespecial 63, 3) := by decide +kernel
theorem dX5_init_141 : decode cX5_init 141 = .ok (.putfield 64, 3) := by decide +kernel
theorem dX5_init_144 : decode cX5_init 144 = .ok (.aload_n 0, 1) := by decide +kernel
theorem dX5_init_145 : decode cX5_init 145 = .ok (.bipush 20, 2) := by decide +kernel
theorem dX5_init_147 : decode cX5_init 147 = .ok (.newarray .int, 2) := by decide +kernel
theorem dX5_init_149 : decode cX5_init 149 = .ok (.putfield 68, 3) := by decide +kernel
theorem dX5_init_152 : decode cX5_init 152 = .ok (.aload_n 0, 1) := by decide +kernel
theorem dX5_init_153 : decode cX5_init 153 = .ok (.bipush 102, 2) := by decide +kernel
theorem dX5_init_155 : decode cX5_init 155 = .ok (.newarray .int, 2) := by decide +kernel
theorem dX5_init_157 : decode cX5_init 157 = .ok (.putfield 71, 3) := by decide +kernel
theorem dX5_init_160 : decode cX5_init 160 = .ok (.aload_n 0, 1) := by decide +kernel
theorem dX5_init_161 : decode cX5_init 161 = .ok (.bipush 102, 2) := by decide +kernel
theorem dX5_init_163 : decode cX5_init 163 = .ok (.newarray .int, 2) := by decide +kernel
theorem dX5_init_165 : decode cX5_init 165 = .ok (.putfield 74, 3) := by decide +kernel
theorem dX5_init_168 : decode cX5_init 168 = .ok (.return_, 1) := by decide +kernel
set_option maxRecDepth 20000 in
theorem ggX5_type_X5_within : GoodIn wsX5_type wsX5_within := goodIn_r _ [6] (by decide +kernel) (by decide +kernel)
set_option maxRecDepth 20000 in
theorem gX5_type_X5_within : GoodIn wsX5_type (va_wsS RX5 77 yX5_within wsX5_within) := goodIn_app (goodIn_of _ (by decide +kernel)) ggX5_type_X5_within
theorem dX5_type_0 : decode cX5_type 0 = .ok (.iload_n 3, 1) := by decide +kernel
theorem dX5_type_1 : decode cX5_type 1 = .ok (.iconst 1, 1) := by decide +kernel
theorem dX5_type_2 : decode cX5_type 2 = .ok (.bipush 8, 2) := by decide +kernel
theorem dX5_type_4 : decode cX5_type 4 = .ok (.invokestatic 77, 3) := by decide +kernel
theorem dX5_type_7 : decode cX5_type 7 = .ok (.ifCond .ne 5, 3) := by decide +kernel
theorem dX5_type_10 : decode cX5_type 10 = .ok (.iconst (-1), 1) := by decide +kernel
theorem dX5_type_11 : decode cX5_type 11 = .ok (.ireturn, 1) := by decide +kernel
theorem dX5_type_12 : decode cX5_type 12 = .ok (.aload_n 0, 1) := by decide +kernel
theorem dX5_type_13 : decode cX5_type 13 = .ok (.getfield 81, 3) := by decide +kernel
theorem dX5_type_16 : decode cX5_type 16 = .ok (.iload_n 3, 1) := by decide +kernel
theorem dX5_type_17 : decode cX5_type 17 = .ok (.iadd, 1) := by decide +kernel
theorem dX5_type_18 : decode cX5_type 18 = .ok (.sipush 400, 3) := by decide +kernel
theorem dX5_type_21 : decode cX5_type 21 = .ok (.if_icmp .le 6, 3) := by decide +kernel
theorem dX5_type_24 : decode cX5_type 24 = .ok (.bipush (-3), 2) := by decide +kernel
theorem dX5_type_26 : decode cX5_type 26 = .ok (.ireturn, 1) := by decide +kernel
theorem dX5_type_27 : decode cX5_type 27 = .ok (.iload_n 3, 1) := by decide +kernel
theorem dX5_type_28 : decode cX5_type 28 = .ok (.iconst 1, 1) := by decide +kernel
theorem dX5_type_29 : decode cX5_type 29 = .ok (.isub, 1) := by decide +kernel
theorem dX5_type_30 : decode cX5_type 30 = .ok (.istore 4, 2) := by decide +kernel
theorem dX5_type_32 : decode cX5_type 32 = .ok (.iload 4, 2) := by decide +kernel
theorem dX5_type_34 : decode cX5_type 34 = .ok (.ifCond .lt 40, 3) := by decide +kernel
theorem dX5_type_37 : decode cX5_type 37 = .ok (.aload_n 0, 1) := by decide +kernel
theorem dX5_type_38 : decode cX5_type 38 = .ok (.getfield 9, 3) := by decide +kernel
theorem dX5_type_41 : decode cX5_type 41 = .ok (.aload_n 0, 1) := by decide +kernel
theorem dX5_type_42 : decode cX5_type 42 = .ok (.getfield 81, 3) := by decide +kernel
theorem dX5_type_45 : decode cX5_type 45 = .ok (.lload_n 1, 1) := by decide +kernel
theorem dX5_type_46 : decode cX5_type 46 = .ok (.bipush 8, 2) := by decide +kernel
theorem dX5_type_48 : decode cX5_type 48 = .ok (.iload 4, 2) := by decide +kernel
theorem dX5_type_50 : decode cX5_type 50 = .ok (.imul, 1) := by decide +kernel
theorem dX5_type_51 : decode cX5_type 51 = .ok (.lushr, 1) := by decide +kernel
theorem dX5_type_52 : decode cX5_type 52 = .ok (.l2i, 1) := by decide +kernel
theorem dX5_type_53 : decode cX5_type 53 = .ok (.sipush 255, 3) := by decide +kernel
theorem dX5_type_56 : decode cX5_type 56 = .ok (.iand, 1) := by decide +kernel
theorem dX5_type_57 : decode cX5_type 57 = .ok (.iastore, 1) := by decide +kernel
theorem dX5_type_58 : decode cX5_type 58 = .ok (.aload_n 0, 1) := by decide +kernel
theorem dX5_type_59 : decode cX5_type 59 = .ok (.dup, 1) := by decide +kernel
theorem dX5_type_60 : decode cX5_type 60 = .ok (.getfield 81, 3) := by decide +kernel
theorem dX5_type_63 : decode cX5_type 63 = .ok (.iconst 1, 1) := by decide +kernel
theorem dX5_type_64 : decode cX5_type 64 = .ok (.iadd, 1) := by decide +kernel
theorem dX5_type_65 : decode cX5_type 65 = .ok (.putfield 81, 3) := by decide +kernel
theorem dX5_type_68 : decode cX5_type 68 = .ok (.iinc 4 (-1), 3) := by decide +kernel
theorem dX5_type_71 : decode cX5_type 71 = .ok (.goto (-39), 3) := by decide +kernel
theorem dX5_type_74 : decode cX5_type 74 = .ok (.aload_n 0, 1) := by decide +kernel
theorem dX5_type_75 : decode cX5_type 75 = .ok (.getfield 81, 3) := by decide +kernel
theorem dX5_type_78 : decode cX5_type 78 = .ok (.ireturn, 1) := by decide +kernel
theorem dX5_clear_0 : decode cX5_clear 0 = .ok (.aload_n 0, 1) := by decide +kernel
theorem dX5_clear_1 : decode cX5_clear 1 = .ok (.getfield 81, 3) := by decide +kernel
theorem dX5_clear_4 : decode cX5_clear 4 = .ok (.istore_n 1, 1) := by decide +kernel
theorem dX5_clear_5 : decode cX5_clear 5 = .ok (.aload_n 0, 1) := by decide +kernel
theorem dX5_clear_6 : decode cX5_clear 6 = .ok (.iconst 0, 1) := by decide +kernel
theorem dX5_clear_7 : decode cX5_clear 7 = .ok (.putfield 81, 3) := by decide +kernel
theorem dX5_clear_10 : decode cX5_clear 10 = .ok (.iload_n 1, 1) := by decide +kernel
theorem dX5_clear_11 : decode cX5_clear 11 = .ok (.ireturn, 1) := by decide +kernel
set_option maxRecDepth 20000 in
theorem ggX5_market_X3_read : GoodIn wsX5_market wsX3_read := goodIn_r _ [12, 13, 14, 15, 16, 17, 18, 19, 20, 21, 22, 23, 24, 25, 26, 27, 28, 29, 30, 31, 32, 33, 34, 35, 36, 11, 37, 38, 39, 40, 41, 42, 43, 44, 45, 46, 47, 48, 49, 50, 51, 52, 53, 54, 55, 56, 57, 58, 59, 60, 61, 62, 63, 64, 65, 66, 67, 68, 69, 70, 71, 72, 73, 74, 75, 76, 77, 78, 79, 80, 81, 82, 83, 84, 85, 86, 87, 88, 89, 90, 91, 92, 93, 94, 95, 96, 97, 98, 99, 100, 101, 102, 103, 104, 105, 106, 107, 108, 109, 110, 111, 112, 113, 114, 115, 116, 117, 118, 119, 120, 121, 122, 123, 124, 125, 126, 127, 128, 129, 130, 131, 132, 133, 134, 135, 136, 137, 138, 139, 140, 141, 142, 143, 144, 145, 146, 147, 148, 149, 150, 151, 152, 153, 154, 155, 156, 185, 186, 187, 188, 189, 190, 191, 192, 193, 194, 195, 196, 197, 198, 199, 200, 201, 202, 203, 204, 205] (by decide +kernel) (by decide +kernel)
set_option maxRecDepth 20000 in
theorem gX5_market_X3_read : GoodIn wsX5_market (wsV RX5 84 RX3 yX3_read wsX3_read) := goodIn_app (goodIn_of _ (by decide +kernel)) ggX5_market_X3_read
set_option maxRecDepth 20000 in
theorem ggX5_market_X2_become : GoodIn wsX5_market wsX2_become := goodIn_r _ [160, 29, 30, 31, 32, 130, 131, 132, 33, 149, 150, 151, 152, 194, 195, 196, 197, 198, 199, 200, 201, 202, 203, 204, 205] (by decide +kernel) (by decide +kernel)
set_option maxRecDepth 20000 in
theorem gX5_market_X2_become : GoodIn wsX5_market (wsV RX5 88 RX2 yX2_become wsX2_become) := goodIn_app (goodIn_of _ (by decide +kernel)) ggX5_market_X2_become
set_option maxRecDepth 20000 in
theorem ggX5_market_X0_forgetMarket : GoodIn wsX5_market wsX0_forgetMarket := goodIn_r _ [165, 166, 167, 168, 206, 207, 208, 209, 210, 211, 212, 213, 214, 215, 216, 217, 218, 219, 220] (by decide +kernel) (by decide +kernel)
set_option maxRecDepth 20000 in
theorem gX5_market_X0_forgetMarket : GoodIn wsX5_market (wsV RX5 92 RX0 yX0_forgetMarket wsX0_forgetMarket) := goodIn_app (goodIn_of _ (by decide +kernel)) ggX5_market_X0_forgetMarket
theorem dX5_market_0 : decode cX5_market 0 = .ok (.aload_n 0, 1) := by decide +kernel
theorem dX5_market_1 : decode cX5_market 1 = .ok (.getfield 28, 3) := by decide +kernel
theorem dX5_market_4 : decode cX5_market 4 = .ok (.aload_n 0, 1) := by decide +kernel
theorem dX5_market_5 : decode cX5_market 5 = .ok (.getfield 81, 3) := by decide +kernel
theorem dX5_market_8 : decode cX5_market 8 = .ok (.invokevirtual 84, 3) := by decide +kernel
theorem dX5_market_11 : decode cX5_market 11 = .ok (.istore_n 1, 1) := by decide +kernel
theorem dX5_market_12 : decode cX5_market 12 = .ok (.iload_n 1, 1) := by decide +kernel
theorem dX5_market_13 : decode cX5_market 13 = .ok (.ifCond .ge 5, 3) := by decide +kernel
theorem dX5_market_16 : decode cX5_market 16 = .ok (.iload_n 1, 1) := by decide +kernel
theorem dX5_market_17 : decode cX5_market 17 = .ok (.ireturn, 1) := by decide +kernel
theorem dX5_market_18 : decode cX5_market 18 = .ok (.aload_n 0, 1) := by decide +kernel
theorem dX5_market_19 : decode cX5_market 19 = .ok (.getfield 16, 3) := by decide +kernel
theorem dX5_market_22 : decode cX5_market 22 = .ok (.aload_n 0, 1) := by decide +kernel
theorem dX5_market_23 : decode cX5_market 23 = .ok (.getfield 20, 3) := by decide +kernel
theorem dX5_market_26 : decode cX5_market 26 = .ok (.invokevirtual 88, 3) := by decide +kernel
theorem dX5_market_29 : decode cX5_market 29 = .ok (.aload_n 0, 1) := by decide +kernel
theorem dX5_market_30 : decode cX5_market 30 = .ok (.iconst 0, 1) := by decide +kernel
theorem dX5_market_31 : decode cX5_market 31 = .ok (.putfield 81, 3) := by decide +kernel
theorem dX5_market_34 : decode cX5_market 34 = .ok (.aload_n 0, 1) := by decide +kernel
theorem dX5_market_35 : decode cX5_market 35 = .ok (.getfield 38, 3) := by decide +kernel
theorem dX5_market_38 : decode cX5_market 38 = .ok (.invokevirtual 92, 3) := by decide +kernel
theorem dX5_market_41 : decode cX5_market 41 = .ok (.iconst 0, 1) := by decide +kernel
theorem dX5_market_42 : decode cX5_market 42 = .ok (.istore_n 2, 1) := by decide +kernel
theorem dX5_market_43 : decode cX5_market 43 = .ok (.iload_n 2, 1) := by decide +kernel
theorem dX5_market_44 : decode cX5_market 44 = .ok (.bipush 6, 2) := by decide +kernel
theorem dX5_market_46 : decode cX5_market 46 = .ok (.if_icmp .ge 16, 3) := by decide +kernel
theorem dX5_market_49 : decode cX5_market 49 = .ok (.aload_n 0, 1) := by decide +kernel
theorem dX5_market_50 : decode cX5_market 50 = .ok (.getfield 32, 3) := by decide +kernel
theorem dX5_market_53 : decode cX5_market 53 = .ok (.iload_n 2, 1) := by decide +kernel
theorem dX5_market_54 : decode cX5_market 54 = .ok (.iconst 1, 1) := by decide +kernel
theorem dX5_market_55 : decode cX5_market 55 = .ok (.iastore, 1) := by decide +kernel
theorem dX5_market_56 : decode cX5_market 56 = .ok (.iinc 2 1, 3) := by decide +kernel
theorem dX5_market_59 : decode cX5_market 59 = .ok (.goto (-16), 3) := by decide +kernel
theorem dX5_market_62 : decode cX5_market 62 = .ok (.iconst 0, 1) := by decide +kernel
theorem dX5_market_63 : decode cX5_market 63 = .ok (.istore_n 2, 1) := by decide +kernel
theorem dX5_market_64 : decode cX5_market 64 = .ok (.iload_n 2, 1) := by decide +kernel
theorem dX5_market_65 : decode cX5_market 65 = .ok (.iconst 2, 1) := by decide +kernel
theorem dX5_market_66 : decode cX5_market 66 = .ok (.if_icmp .ge 16, 3) := by decide +kernel
theorem dX5_market_69 : decode cX5_market 69 = .ok (.aload_n 0, 1) := by decide +kernel
theorem dX5_market_70 : decode cX5_market 70 = .ok (.getfield 50, 3) := by decide +kernel
theorem dX5_market_73 : decode cX5_market 73 = .ok (.iload_n 2, 1) := by decide +kernel
theorem dX5_market_74 : decode cX5_market 74 = .ok (.iconst 0, 1) := by decide +kernel
theorem dX5_market_75 : decode cX5_market 75 = .ok (.bastore, 1) := by decide +kernel
theorem dX5_market_76 : decode cX5_market 76 = .ok (.iinc 2 1, 3) := by decide +kernel
theorem dX5_market_79 : decode cX5_market 79 = .ok (.goto (-15), 3) := by decide +kernel
theorem dX5_market_82 : decode cX5_market 82 = .ok (.iload_n 1, 1) := by decide +kernel
theorem dX5_market_83 : decode cX5_market 83 = .ok (.ireturn, 1) := by decide +kernel
set_option maxRecDepth 20000 in
theorem ggX5_stall_X5_isStall : GoodIn wsX5_stall wsX5_isStall := goodIn_r _ [10, 1, 11, 30, 31, 32, 33, 34, 35, 36, 37, 38, 39, 40, 41, 42, 43, 44, 45, 46, 47, 48, 49, 50, 51, 52, 53, 54, 55, 56, 57] (by decide +kernel) (by decide +kernel)
set_option maxRecDepth 20000 in
theorem gX5_stall_X5_isStall : GoodIn wsX5_stall (wsV RX5 95 RX5 yX5_isStall wsX5_isStall) := goodIn_app (goodIn_of _ (by decide +kernel)) ggX5_stall_X5_isStall
set_option maxRecDepth 20000 in
theorem ggX5_stall_X0_bagsOf : GoodIn wsX5_stall wsX0_bagsOf := goodIn_r _ [16, 17, 18, 19, 20, 15, 21, 22, 23, 58, 59, 60, 61, 62, 63, 64, 65, 66, 67, 68, 69, 70, 71, 72] (by decide +kernel) (by decide +kernel)
set_option maxRecDepth 20000 in
theorem gX5_stall_X0_bagsOf : GoodIn wsX5_stall (wsV RX5 108 RX0 yX0_bagsOf wsX0_bagsOf) := goodIn_app (goodIn_of _ (by decide +kernel)) ggX5_stall_X0_bagsOf
set_option maxRecDepth 20000 in
theorem ggX5_stall_X0_trialsOf : GoodIn wsX5_stall wsX0_trialsOf := goodIn_r _ [27, 28, 29, 58, 59, 60, 61, 62, 63, 64, 65, 66, 67, 68, 69, 70, 71, 72] (by decide +kernel) (by decide +kernel)
set_option maxRecDepth 20000 in
theorem gX5_stall_X0_trialsOf : GoodIn wsX5_stall (wsV RX5 112 RX0 yX0_trialsOf wsX0_trialsOf) := goodIn_app (goodIn_of _ (by decide +kernel)) ggX5_stall_X0_trialsOf
theorem dX5_stall_0 : decode cX5_stall 0 = .ok (.aload_n 0, 1) := by decide +kernel
theorem dX5_stall_1 : decode cX5_stall 1 = .ok (.iload_n 1, 1) := by decide +kernel
theorem dX5_stall_2 : decode cX5_stall 2 = .ok (.invokevirtual 95, 3) := by decide +kernel
theorem dX5_stall_5 : decode cX5_stall 5 = .ok (.ifCond .ne 5, 3) := by decide +kernel
theorem dX5_stall_8 : decode cX5_stall 8 = .ok (.iconst (-1), 1) := by decide +kernel
theorem dX5_stall_9 : decode cX5_stall 9 = .ok (.ireturn, 1) := by decide +kernel
theorem dX5_stall_10 : decode cX5_stall 10 = .ok (.iload_n 2, 1) := by decide +kernel
theorem dX5_stall_11 : decode cX5_stall 11 = .ok (.tableswitch 83 0 4 #[33, 43, 53, 63, 74], 33) := by decide +kernel
theorem dX5_stall_44 : decode cX5_stall 44 = .ok (.aload_n 0, 1) := by decide +kernel
theorem dX5_stall_45 : decode cX5_stall 45 = .ok (.getfield 16, 3) := by decide +kernel
theorem dX5_stall_48 : decode cX5_stall 48 = .ok (.getfield 99, 3) := by decide +kernel
theorem dX5_stall_51 : decode cX5_stall 51 = .ok (.iload_n 1, 1) := by decide +kernel
theorem dX5_stall_52 : decode cX5_stall 52 = .ok (.iaload, 1) := by decide +kernel
theorem dX5_stall_53 : decode cX5_stall 53 = .ok (.ireturn, 1) := by decide +kernel
theorem dX5_stall_54 : decode cX5_stall 54 = .ok (.aload_n 0, 1) := by decide +kernel
theorem dX5_stall_55 : decode cX5_stall 55 = .ok (.getfield 16, 3) := by decide +kernel
theorem dX5_stall_58 : decode cX5_stall 58 = .ok (.getfield 102, 3) := by decide +kernel
theorem dX5_stall_61 : decode cX5_stall 61 = .ok (.iload_n 1, 1) := by decide +kernel
theorem dX5_stall_62 : decode cX5_stall 62 = .ok (.iaload, 1) := by decide +kernel
theorem dX5_stall_63 : decode cX5_stall 63 = .ok (.ireturn, 1) := by decide +kernel
theorem dX5_stall_64 : decode cX5_stall 64 = .ok (.aload_n 0, 1) := by decide +kernel
theorem dX5_stall_65 : decode cX5_stall 65 = .ok (.getfield 16, 3) := by decide +kernel
theorem dX5_stall_68 : decode cX5_stall 68 = .ok (.getfield 105, 3) := by decide +kernel
theorem dX5_stall_71 : decode cX5_stall 71 = .ok (.iload_n 1, 1) := by decide +kernel
theorem dX5_stall_72 : decode cX5_stall 72 = .ok (.iaload, 1) := by decide +kernel
theorem dX5_stall_73 : decode cX5_stall 73 = .ok (.ireturn, 1) := by decide +kernel
theorem dX5_stall_74 : decode cX5_stall 74 = .ok (.aload_n 0, 1) := by decide +kernel
theorem dX5_stall_75 : decode cX5_stall 75 = .ok (.getfield 38, 3) := by decide +kernel
theorem dX5_stall_78 : decode cX5_stall 78 = .ok (.iload_n 1, 1) := by decide +kernel
theorem dX5_stall_79 : decode cX5_stall 79 = .ok (.bipush 15, 2) := by decide +kernel
theorem dX5_stall_81 : decode cX5_stall 81 = .ok (.invokevirtual 108, 3) := by decide +kernel
theorem dX5_stall_84 : decode cX5_stall 84 = .ok (.ireturn, 1) := by decide +kernel
theorem dX5_stall_85 : decode cX5_stall 85 = .ok (.aload_n 0, 1) := by decide +kernel
theorem dX5_stall_86 : decode cX5_stall 86 = .ok (.getfield 38, 3) := by decide +kernel
theorem dX5_stall_89 : decode cX5_stall 89 = .ok (.iload_n 1, 1) := by decide +kernel
theorem dX5_stall_90 : decode cX5_stall 90 = .ok (.invokevirtual 112, 3) := by decide +kernel
theorem dX5_stall_93 : decode cX5_stall 93 = .ok (.ireturn, 1) := by decide +kernel
theorem dX5_stall_94 : decode cX5_stall 94 = .ok (.iconst (-1), 1) := by decide +kernel
theorem dX5_stall_95 : decode cX5_stall 95 = .ok (.ireturn, 1) := by decide +kernel
set_option maxRecDepth 20000 in
theorem ggX5_way_X5_isWay : GoodIn wsX5_way wsX5_isWay := goodIn_r _ [10, 1, 11, 12, 13, 14, 15, 16, 17, 18, 19, 20, 21, 22, 23, 24, 25, 26, 27, 28, 29, 30, 31, 32, 33, 34, 35, 36, 37, 38, 39] (by decide +kernel) (by decide +kernel)
set_option maxRecDepth 20000 in
theorem gX5_way_X5_isWay : GoodIn wsX5_way (wsV RX5 115 RX5 yX5_isWay wsX5_isWay) := goodIn_app (goodIn_of _ (by decide +kernel)) ggX5_way_X5_isWay
theorem dX5_way_0 : decode cX5_way 0 = .ok (.aload_n 0, 1) := by decide +kernel
theorem dX5_way_1 : decode cX5_way 1 = .ok (.iload_n 1, 1) := by decide +kernel
theorem dX5_way_2 : decode cX5_way 2 = .ok (.invokevirtual 115, 3) := by decide +kernel
theorem dX5_way_5 : decode cX5_way 5 = .ok (.ifCond .ne 5, 3) := by decide +kernel
theorem dX5_way_8 : decode cX5_way 8 = .ok (.iconst (-1), 1) := by decide +kernel
theorem dX5_way_9 : decode cX5_way 9 = .ok (.ireturn, 1) := by decide +kernel
theorem dX5_way_10 : decode cX5_way 10 = .ok (.iload_n 2, 1) := by decide +kernel
theorem dX5_way_11 : decode cX5_way 11 = .ok (.tableswitch 69 0 3 #[29, 39, 49, 59], 29) := by decide +kernel
theorem dX5_way_40 : decode cX5_way 40 = .ok (.aload_n 0, 1) := by decide +kernel
theorem dX5_way_41 : decode cX5_way 41 = .ok (.getfield 16, 3) := by decide +kernel
theorem dX5_way_44 : decode cX5_way 44 = .ok (.getfield 118, 3) := by decide +kernel
theorem dX5_way_47 : decode cX5_way 47 = .ok (.iload_n 1, 1) := by decide +kernel
theorem dX5_way_48 : decode cX5_way 48 = .ok (.iaload, 1) := by decide +kernel
theorem dX5_way_49 : decode cX5_way 49 = .ok (.ireturn, 1) := by decide +kernel
theorem dX5_way_50 : decode cX5_way 50 = .ok (.aload_n 0, 1) := by decide +kernel
theorem dX5_way_51 : decode cX5_way 51 = .ok (.getfield 16, 3) := by decide +kernel
theorem dX5_way_54 : decode cX5_way 54 = .ok (.getfield 121, 3) := by decide +kernel
theorem dX5_way_57 : decode cX5_way 57 = .ok (.iload_n 1, 1) := by decide +kernel
theorem dX5_way_58 : decode cX5_way 58 = .ok (.iaload, 1) := by decide +kernel
theorem dX5_way_59 : decode cX5_way 59 = .ok (.ireturn, 1) := by decide +kernel
theorem dX5_way_60 : decode cX5_way 60 = .ok (.aload_n 0, 1) := by decide +kernel
theorem dX5_way_61 : decode cX5_way 61 = .ok (.getfield 16, 3) := by decide +kernel
theorem dX5_way_64 : decode cX5_way 64 = .ok (.getfield 124, 3) := by decide +kernel
theorem dX5_way_67 : decode cX5_way 67 = .ok (.iload_n 1, 1) := by decide +kernel
theorem dX5_way_68 : decode cX5_way 68 = .ok (.iaload, 1) := by decide +kernel
theorem dX5_way_69 : decode cX5_way 69 = .ok (.ireturn, 1) := by decide +kernel
theorem dX5_way_70 : decode cX5_way 70 = .ok (.aload_n 0, 1) := by decide +kernel
theorem dX5_way_71 : decode cX5_way 71 = .ok (.getfield 16, 3) := by decide +kernel
theorem dX5_way_74 : decode cX5_way 74 = .ok (.getfield 127, 3) := by decide +kernel
theorem dX5_way_77 : decode cX5_way 77 = .ok (.iload_n 1, 1) := by decide +kernel
theorem dX5_way_78 : decode cX5_way 78 = .ok (.iaload, 1) := by decide +kernel
theorem dX5_way_79 : decode cX5_way 79 = .ok (.ireturn, 1) := by decide +kernel
theorem dX5_way_80 : decode cX5_way 80 = .ok (.iconst (-1), 1) := by decide +kernel
theorem dX5_way_81 : decode cX5_way 81 = .ok (.ireturn, 1) := by decide +kernel
set_option maxRecDepth 20000 in
theorem ggX5_often_X5_isWay : GoodIn wsX5_often wsX5_isWay := goodIn_r _ [6, 1, 7, 45, 46, 47, 48, 49, 50, 51, 52, 53, 54, 55, 56, 57, 58, 59, 60, 61, 62, 63, 64, 65, 66, 67, 68, 69, 70, 71, 72] (by decide +kernel) (by decide +kernel)
set_option maxRecDepth 20000 in
theorem gX5_often_X5_isWay : GoodIn wsX5_often (wsV RX5 115 RX5 yX5_isWay wsX5_isWay) := goodIn_app (goodIn_of _ (by decide +kernel)) ggX5_often_X5_isWay
set_option maxRecDepth 20000 in
theorem ggX5_often_X5_isStall : GoodIn wsX5_often wsX5_isStall := goodIn_r _ [11, 1, 12, 45, 46, 47, 48, 49, 50, 51, 52, 53, 54, 55, 56, 57, 58, 59, 60, 61, 62, 63, 64, 65, 66, 67, 68, 69, 70, 71, 72] (by decide +kernel) (by decide +kernel)
set_option maxRecDepth 20000 in
theorem gX5_often_X5_isStall : GoodIn wsX5_often (wsV RX5 95 RX5 yX5_isStall wsX5_isStall) := goodIn_app (goodIn_of _ (by decide +kernel)) ggX5_often_X5_isStall
set_option maxRecDepth 20000 in
theorem ggX5_often_X5_isSort : GoodIn wsX5_often wsX5_isSort := goodIn_r _ [15] (by decide +kernel) (by decide +kernel)
set_option maxRecDepth 20000 in
theorem gX5_often_X5_isSort : GoodIn wsX5_often (va_wsS RX5 130 yX5_isSort wsX5_isSort) := goodIn_app (goodIn_of _ (by decide +kernel)) ggX5_often_X5_isSort
set_option maxRecDepth 20000 in
theorem ggX5_often_X2_howOften : GoodIn wsX5_often wsX2_howOften := goodIn_r _ [20, 21, 22, 23, 24, 19, 25, 26, 27, 28, 29, 30, 31, 32, 33, 34, 35, 36, 37, 38, 39, 40, 41, 42, 43, 44, 61, 62, 63, 64, 65, 66, 67, 68, 69, 70, 71, 72] (by decide +kernel) (by decide +kernel)
set_option maxRecDepth 20000 in
theorem gX5_often_X2_howOften : GoodIn wsX5_often (wsV RX5 133 RX2 yX2_howOften wsX2_howOften) := goodIn_app (goodIn_of _ (by decide +kernel)) ggX5_often_X2_howOften
theorem dX5_often_0 : decode cX5_often 0 = .ok (.aload_n 0, 1) := by decide +kernel
theorem dX5_often_1 : decode cX5_often 1 = .ok (.iload_n 1, 1) := by decide +kernel
theorem dX5_often_2 : decode cX5_often 2 = .ok (.invokevirtual 115, 3) := by decide +kernel
theorem dX5_often_5 : decode cX5_often 5 = .ok (.ifCond .eq 18, 3) := by decide +kernel
theorem dX5_often_8 : decode cX5_often 8 = .ok (.aload_n 0, 1) := by decide +kernel
theorem dX5_often_9 : decode cX5_often 9 = .ok (.iload_n 2, 1) := by decide +kernel
theorem dX5_often_10 : decode cX5_often 10 = .ok (.invokevirtual 95, 3) := by decide +kernel
theorem dX5_often_13 : decode cX5_often 13 = .ok (.ifCond .eq 10, 3) := by decide +kernel
theorem dX5_often_16 : decode cX5_often 16 = .ok (.iload_n 3, 1) := by decide +kernel
theorem dX5_often_17 : decode cX5_often 17 = .ok (.invokestatic 130, 3) := by decide +kernel
theorem dX5_often_20 : decode cX5_often 20 = .ok (.ifCond .ne 5, 3) := by decide +kernel
theorem dX5_often_23 : decode cX5_often 23 = .ok (.iconst (-1), 1) := by decide +kernel
theorem dX5_often_24 : decode cX5_often 24 = .ok (.ireturn, 1) := by decide +kernel
theorem dX5_often_25 : decode cX5_often 25 = .ok (.aload_n 0, 1) := by decide +kernel
theorem dX5_often_26 : decode cX5_often 26 = .ok (.getfield 16, 3) := by decide +kernel
theorem dX5_often_29 : decode cX5_often 29 = .ok (.iload_n 1, 1) := by decide +kernel
theorem dX5_often_30 : decode cX5_often 30 = .ok (.iload_n 2, 1) := by decide +kernel
theorem dX5_often_31 : decode cX5_often 31 = .ok (.iload_n 3, 1) := by decide +kernel
theorem dX5_often_32 : decode cX5_often 32 = .ok (.iload 4, 2) := by decide +kernel
theorem dX5_often_34 : decode cX5_often 34 = .ok (.invokevirtual 133, 3) := by decide +kernel
theorem dX5_often_37 : decode cX5_often 37 = .ok (.ireturn, 1) := by decide +kernel
set_option maxRecDepth 20000 in
theorem ggX5_bag_X5_isStall : GoodIn wsX5_bag wsX5_isStall := goodIn_r _ [15, 3, 16, 33, 34, 35, 36, 37, 38, 39, 40, 41, 42, 43, 44, 45, 46, 47, 48, 64, 65, 66, 67, 68, 69, 70, 71, 72, 73, 74, 75] (by decide +kernel) (by decide +kernel)
set_option maxRecDepth 20000 in
theorem gX5_bag_X5_isStall : GoodIn wsX5_bag (wsV RX5 95 RX5 yX5_isStall wsX5_isStall) := goodIn_app (goodIn_of _ (by decide +kernel)) ggX5_bag_X5_isStall
set_option maxRecDepth 20000 in
theorem ggX5_bag_X5_within : GoodIn wsX5_bag wsX5_within := goodIn_r _ [19] (by decide +kernel) (by decide +kernel)
set_option maxRecDepth 20000 in
theorem gX5_bag_X5_within : GoodIn wsX5_bag (va_wsS RX5 77 yX5_within wsX5_within) := goodIn_app (goodIn_of _ (by decide +kernel)) ggX5_bag_X5_within
set_option maxRecDepth 20000 in
theorem ggX5_bag_X5_isSort : GoodIn wsX5_bag wsX5_isSort := goodIn_r _ [22] (by decide +kernel) (by decide +kernel)
set_option maxRecDepth 20000 in
theorem gX5_bag_X5_isSort : GoodIn wsX5_bag (va_wsS RX5 130 yX5_isSort wsX5_isSort) := goodIn_app (goodIn_of _ (by decide +kernel)) ggX5_bag_X5_isSort
set_option maxRecDepth 20000 in
theorem ggX5_bag_X2_nearestSteps : GoodIn wsX5_bag wsX2_nearestSteps := goodIn_r _ [27, 28, 29, 30, 31, 32, 64, 65, 66, 67, 68, 69, 70, 71, 72, 73, 74, 75] (by decide +kernel) (by decide +kernel)
set_option maxRecDepth 20000 in
theorem gX5_bag_X2_nearestSteps : GoodIn wsX5_bag (wsV RX5 158 RX2 yX2_nearestSteps wsX2_nearestSteps) := goodIn_app (goodIn_of _ (by decide +kernel)) ggX5_bag_X2_nearestSteps
theorem dX5_bag_0 : decode cX5_bag 0 = .ok (.aload_n 0, 1) := by decide +kernel
theorem dX5_bag_1 : decode cX5_bag 1 = .ok (.iload_n 1, 1) := by decide +kernel
theorem dX5_bag_2 : decode cX5_bag 2 = .ok (.invokevirtual 95, 3) := by decide +kernel
theorem dX5_bag_5 : decode cX5_bag 5 = .ok (.ifCond .eq 55, 3) := by decide +kernel
theorem dX5_bag_8 : decode cX5_bag 8 = .ok (.iload_n 2, 1) := by decide +kernel
theorem dX5_bag_9 : decode cX5_bag 9 = .ok (.iconst 0, 1) := by decide +kernel
theorem dX5_bag_10 : decode cX5_bag 10 = .ok (.bipush 11, 2) := by decide +kernel
theorem dX5_bag_12 : decode cX5_bag 12 = .ok (.invokestatic 77, 3) := by decide +kernel
theorem dX5_bag_15 : decode cX5_bag 15 = .ok (.ifCond .eq 45, 3) := by decide +kernel
theorem dX5_bag_18 : decode cX5_bag 18 = .ok (.iload_n 3, 1) := by decide +kernel
theorem dX5_bag_19 : decode cX5_bag 19 = .ok (.invokestatic 130, 3) := by decide +kernel
theorem dX5_bag_22 : decode cX5_bag 22 = .ok (.ifCond .eq 38, 3) := by decide +kernel
theorem dX5_bag_25 : decode cX5_bag 25 = .ok (.iload 4, 2) := by decide +kernel
theorem dX5_bag_27 : decode cX5_bag 27 = .ok (.iconst 1, 1) := by decide +kernel
theorem dX5_bag_28 : decode cX5_bag 28 = .ok (.sipush 999, 3) := by decide +kernel
theorem dX5_bag_31 : decode cX5_bag 31 = .ok (.invokestatic 77, 3) := by decide +kernel
theorem dX5_bag_34 : decode cX5_bag 34 = .ok (.ifCond .eq 26, 3) := by decide +kernel
theorem dX5_bag_37 : decode cX5_bag 37 = .ok (.iload 5, 2) := by decide +kernel
theorem dX5_bag_39 : decode cX5_bag 39 = .ok (.iconst 0, 1) := by decide +kernel
theorem dX5_bag_40 : decode cX5_bag 40 = .ok (.sipush 999, 3) := by decide +kernel
theorem dX5_bag_43 : decode cX5_bag 43 = .ok (.invokestatic 77, 3) := by decide +kernel
theorem dX5_bag_46 : decode cX5_bag 46 = .ok (.ifCond .eq 14, 3) := by decide +kernel
theorem dX5_bag_49 : decode cX5_bag 49 = .ok (.iload 6, 2) := by decide +kernel
theorem dX5_bag_51 : decode cX5_bag 51 = .ok (.iconst 0, 1) := by decide +kernel
theorem dX5_bag_52 : decode cX5_bag 52 = .ok (.bipush 99, 2) := by decide +kernel
theorem dX5_bag_54 : decode cX5_bag 54 = .ok (.invokestatic 77, 3) := by decide +kernel
theorem dX5_bag_57 : decode cX5_bag 57 = .ok (.ifCond .ne 5, 3) := by decide +kernel
theorem dX5_bag_60 : decode cX5_bag 60 = .ok (.iconst (-1), 1) := by decide +kernel
theorem dX5_bag_61 : decode cX5_bag 61 = .ok (.ireturn, 1) := by decide +kernel
theorem dX5_bag_62 : decode cX5_bag 62 = .ok (.aload_n 0, 1) := by decide +kernel
theorem dX5_bag_63 : decode cX5_bag 63 = .ok (.getfield 38, 3) := by decide +kernel
theorem dX5_bag_66 : decode cX5_bag 66 = .ok (.getfield 137, 3) := by decide +kernel
theorem dX5_bag_69 : decode cX5_bag 69 = .ok (.bipush 30, 2) := by decide +kernel
theorem dX5_bag_71 : decode cX5_bag 71 = .ok (.if_icmp .lt 6, 3) := by decide +kernel
theorem dX5_bag_74 : decode cX5_bag 74 = .ok (.bipush (-3), 2) := by decide +kernel
theorem dX5_bag_76 : decode cX5_bag 76 = .ok (.ireturn, 1) := by decide +kernel
theorem dX5_bag_77 : decode cX5_bag 77 = .ok (.aload_n 0, 1) := by decide +kernel
theorem dX5_bag_78 : decode cX5_bag 78 = .ok (.getfield 38, 3) := by decide +kernel
theorem dX5_bag_81 : decode cX5_bag 81 = .ok (.getfield 137, 3) := by decide +kernel
theorem dX5_bag_84 : decode cX5_bag 84 = .ok (.istore 7, 2) := by decide +kernel
theorem dX5_bag_86 : decode cX5_bag 86 = .ok (.iload 4, 2) := by decide +kernel
theorem dX5_bag_88 : decode cX5_bag 88 = .ok (.iload 5, 2) := by decide +kernel
theorem dX5_bag_90 : decode cX5_bag 90 = .ok (.isub, 1) := by decide +kernel
theorem dX5_bag_91 : decode cX5_bag 91 = .ok (.aload_n 0, 1) := by decide +kernel
theorem dX5_bag_92 : decode cX5_bag 92 = .ok (.getfield 16, 3) := by decide +kernel
theorem dX5_bag_95 : decode cX5_bag 95 = .ok (.getfield 102, 3) := by decide +kernel
theorem dX5_bag_98 : decode cX5_bag 98 = .ok (.iload_n 1, 1) := by decide +kernel
theorem dX5_bag_99 : decode cX5_bag 99 = .ok (.iaload, 1) := by decide +kernel
theorem dX5_bag_100 : decode cX5_bag 100 = .ok (.iload 6, 2) := by decide +kernel
theorem dX5_bag_102 : decode cX5_bag 102 = .ok (.imul, 1) := by decide +kernel
theorem dX5_bag_103 : decode cX5_bag 103 = .ok (.bipush 10, 2) := by decide +kernel
theorem dX5_bag_105 : decode cX5_bag 105 = .ok (.idiv, 1) := by decide +kernel
theorem dX5_bag_106 : decode cX5_bag 106 = .ok (.isub, 1) := by decide +kernel
theorem dX5_bag_107 : decode cX5_bag 107 = .ok (.istore 8, 2) := by decide +kernel
theorem dX5_bag_109 : decode cX5_bag 109 = .ok (.aload_n 0, 1) := by decide +kernel
theorem dX5_bag_110 : decode cX5_bag 110 = .ok (.getfield 38, 3) := by decide +kernel
theorem dX5_bag_113 : decode cX5_bag 113 = .ok (.getfield 140, 3) := by decide +kernel
theorem dX5_bag_116 : decode cX5_bag 116 = .ok (.iload 7, 2) := by decide +kernel
theorem dX5_bag_118 : decode cX5_bag 118 = .ok (.iload_n 1, 1) := by decide +kernel
theorem dX5_bag_119 : decode cX5_bag 119 = .ok (.iastore, 1) := by decide +kernel
theorem dX5_bag_120 : decode cX5_bag 120 = .ok (.aload_n 0, 1) := by decide +kernel
theorem dX5_bag_121 : decode cX5_bag 121 = .ok (.getfield 38, 3) := by decide +kernel
theorem dX5_bag_124 : decode cX5_bag 124 = .ok (.getfield 143, 3) := by decide +kernel
theorem dX5_bag_127 : decode cX5_bag 127 = .ok (.iload 7, 2) := by decide +kernel
theorem dX5_bag_129 : decode cX5_bag 129 = .ok (.iload_n 2, 1) := by decide +kernel
theorem dX5_bag_130 : decode cX5_bag 130 = .ok (.iastore, 1) := by decide +kernel
theorem dX5_bag_131 : decode cX5_bag 131 = .ok (.aload_n 0, 1) := by decide +kernel
theorem dX5_bag_132 : decode cX5_bag 132 = .ok (.getfield 38, 3) := by decide +kernel
theorem dX5_bag_135 : decode cX5_bag 135 = .ok (.getfield 146, 3) := by decide +kernel
theorem dX5_bag_138 : decode cX5_bag 138 = .ok (.iload 7, 2) := by decide +kernel
theorem dX5_bag_140 : decode cX5_bag 140 = .ok (.iload_n 3, 1) := by decide +kernel
theorem dX5_bag_141 : decode cX5_bag 141 = .ok (.iastore, 1) := by decide +kernel
theorem dX5_bag_142 : decode cX5_bag 142 = .ok (.aload_n 0, 1) := by decide +kernel
theorem dX5_bag_143 : decode cX5_bag 143 = .ok (.getfield 38, 3) := by decide +kernel
theorem dX5_bag_146 : decode cX5_bag 146 = .ok (.getfield 149, 3) := by decide +kernel
theorem dX5_bag_149 : decode cX5_bag 149 = .ok (.iload 7, 2) := by decide +kernel
theorem dX5_bag_151 : decode cX5_bag 151 = .ok (.iload 4, 2) := by decide +kernel
theorem dX5_bag_153 : decode cX5_bag 153 = .ok (.iastore, 1) := by decide +kernel
theorem dX5_bag_154 : decode cX5_bag 154 = .ok (.aload_n 0, 1) := by decide +kernel
theorem dX5_bag_155 : decode cX5_bag 155 = .ok (.getfield 38, 3) := by decide +kernel
theorem dX5_bag_158 : decode cX5_bag 158 = .ok (.getfield 152, 3) := by decide +kernel
theorem dX5_bag_161 : decode cX5_bag 161 = .ok (.iload 7, 2) := by decide +kernel
theorem dX5_bag_163 : decode cX5_bag 163 = .ok (.iload 8, 2) := by decide +kernel
theorem dX5_bag_165 : decode cX5_bag 165 = .ok (.iastore, 1) := by decide +kernel
theorem dX5_bag_166 : decode cX5_bag 166 = .ok (.aload_n 0, 1) := by decide +kernel
theorem dX5_bag_167 : decode cX5_bag 167 = .ok (.getfield 38, 3) := by decide +kernel
theorem dX5_bag_170 : decode cX5_bag 170 = .ok (.getfield 155, 3) := by decide +kernel
theorem dX5_bag_173 : decode cX5_bag 173 = .ok (.iload 7, 2) := by decide +kernel
theorem dX5_bag_175 : decode cX5_bag 175 = .ok (.aload_n 0, 1) := by decide +kernel
theorem dX5_bag_176 : decode cX5_bag 176 = .ok (.getfield 16, 3) := by decide +kernel
theorem dX5_bag_179 : decode cX5_bag 179 = .ok (.iload_n 1, 1) := by decide +kernel
theorem dX5_bag_180 : decode cX5_bag 180 = .ok (.iload 8, 2) := by decide +kernel
theorem dX5_bag_182 : decode cX5_bag 182 = .ok (.invokevirtual 158, 3) := by decide +kernel
theorem dX5_bag_185 : decode cX5_bag 185 = .ok (.iastore, 1) := by decide +kernel
theorem dX5_bag_186 : decode cX5_bag 186 = .ok (.aload_n 0, 1) := by decide +kernel
theorem dX5_bag_187 : decode cX5_bag 187 = .ok (.getfield 38, 3) := by decide +kernel
theorem dX5_bag_190 : decode cX5_bag 190 = .ok (.dup, 1) := by decide +kernel
theorem dX5_bag_191 : decode cX5_bag 191 = .ok (.getfield 137, 3) := by decide +kernel
theorem dX5_bag_194 : decode cX5_bag 194 = .ok (.iconst 1, 1) := by decide +kernel
theorem dX5_bag_195 : decode cX5_bag 195 = .ok (.iadd, 1) := by decide +kernel
theorem dX5_bag_196 : decode cX5_bag 196 = .ok (.putfield 137, 3) := by decide +kernel
theorem dX5_bag_199 : decode cX5_bag 199 = .ok (.iload 7, 2) := by decide +kernel
theorem dX5_bag_201 : decode cX5_bag 201 = .ok (.ireturn, 1) := by decide +kernel
set_option maxRecDepth 20000 in
theorem ggX5_about_X5_isBag : GoodIn wsX5_about wsX5_isBag := goodIn_r _ [12, 2, 13, 14, 15, 16, 17, 18, 19, 20, 21, 22, 23, 24, 25, 26, 27, 28, 29, 30, 31, 32, 33, 34, 35, 36, 37, 38, 39, 40, 41, 42, 43, 44] (by decide +kernel) (by decide +kernel)
set_option maxRecDepth 20000 in
theorem gX5_about_X5_isBag : GoodIn wsX5_about (wsV RX5 161 RX5 yX5_isBag wsX5_isBag) := goodIn_app (goodIn_of _ (by decide +kernel)) ggX5_about_X5_isBag
theorem dX5_about_0 : decode cX5_about 0 = .ok (.aload_n 0, 1) := by decide +kernel
theorem dX5_about_1 : decode cX5_about 1 = .ok (.iload_n 1, 1) := by decide +kernel
theorem dX5_about_2 : decode cX5_about 2 = .ok (.invokevirtual 161, 3) := by decide +kernel
theorem dX5_about_5 : decode cX5_about 5 = .ok (.ifCond .ne 7, 3) := by decide +kernel
theorem dX5_about_8 : decode cX5_about 8 = .ok (.ldc2_w 164, 3) := by decide +kernel
theorem dX5_about_11 : decode cX5_about 11 = .ok (.lreturn, 1) := by decide +kernel
theorem dX5_about_12 : decode cX5_about 12 = .ok (.iload_n 2, 1) := by decide +kernel
theorem dX5_about_13 : decode cX5_about 13 = .ok (.tableswitch 90 0 4 #[35, 46, 57, 68, 79], 35) := by decide +kernel
theorem dX5_about_48 : decode cX5_about 48 = .ok (.aload_n 0, 1) := by decide +kernel
theorem dX5_about_49 : decode cX5_about 49 = .ok (.getfield 38, 3) := by decide +kernel
theorem dX5_about_52 : decode cX5_about 52 = .ok (.getfield 140, 3) := by decide +kernel
theorem dX5_about_55 : decode cX5_about 55 = .ok (.iload_n 1, 1) := by decide +kernel
theorem dX5_about_56 : decode cX5_about 56 = .ok (.iaload, 1) := by decide +kernel
theorem dX5_about_57 : decode cX5_about 57 = .ok (.i2l, 1) := by decide +kernel
theorem dX5_about_58 : decode cX5_about 58 = .ok (.lreturn, 1) := by decide +kernel
theorem dX5_about_59 : decode cX5_about 59 = .ok (.aload_n 0, 1) := by decide +kernel
theorem dX5_about_60 : decode cX5_about 60 = .ok (.getfield 38, 3) := by decide +kernel
theorem dX5_about_63 : decode cX5_about 63 = .ok (.getfield 143, 3) := by decide +kernel
theorem dX5_about_66 : decode cX5_about 66 = .ok (.iload_n 1, 1) := by decide +kernel
theorem dX5_about_67 : decode cX5_about 67 = .ok (.iaload, 1) := by decide +kernel
theorem dX5_about_68 : decode cX5_about 68 = .ok (.i2l, 1) := by decide +kernel
theorem dX5_about_69 : decode cX5_about 69 = .ok (.lreturn, 1) := by decide +kernel
theorem dX5_about_70 : decode cX5_about 70 = .ok (.aload_n 0, 1) := by decide +kernel
theorem dX5_about_71 : decode cX5_about 71 = .ok (.getfield 38, 3) := by decide +kernel
theorem dX5_about_74 : decode cX5_about 74 = .ok (.getfield 146, 3) := by decide +kernel
theorem dX5_about_77 : decode cX5_about 77 = .ok (.iload_n 1, 1) := by decide +kernel
theorem dX5_about_78 : decode cX5_about 78 = .ok (.iaload, 1) := by decide +kernel
theorem dX5_about_79 : decode cX5_about 79 = .ok (.i2l, 1) := by decide +kernel
theorem dX5_about_80 : decode cX5_about 80 = .ok (.lreturn, 1) := by decide +kernel
theorem dX5_about_81 : decode cX5_about 81 = .ok (.aload_n 0, 1) := by decide +kernel
theorem dX5_about_82 : decode cX5_about 82 = .ok (.getfield 38, 3) := by decide +kernel
theorem dX5_about_85 : decode cX5_about 85 = .ok (.getfield 152, 3) := by decide +kernel
theorem dX5_about_88 : decode cX5_about 88 = .ok (.iload_n 1, 1) := by decide +kernel
theorem dX5_about_89 : decode cX5_about 89 = .ok (.iaload, 1) := by decide +kernel
theorem dX5_about_90 : decode cX5_about 90 = .ok (.i2l, 1) := by decide +kernel
theorem dX5_about_91 : decode cX5_about 91 = .ok (.lreturn, 1) := by decide +kernel
theorem dX5_about_92 : decode cX5_about 92 = .ok (.aload_n 0, 1) := by decide +kernel
theorem dX5_about_93 : decode cX5_about 93 = .ok (.getfield 38, 3) := by decide +kernel
theorem dX5_about_96 : decode cX5_about 96 = .ok (.getfield 155, 3) := by decide +kernel
theorem dX5_about_99 : decode cX5_about 99 = .ok (.iload_n 1, 1) := by decide +kernel
theorem dX5_about_100 : decode cX5_about 100 = .ok (.iaload, 1) := by decide +kernel
theorem dX5_about_101 : decode cX5_about 101 = .ok (.i2l, 1) := by decide +kernel
theorem dX5_about_102 : decode cX5_about 102 = .ok (.lreturn, 1) := by decide +kernel
theorem dX5_about_103 : decode cX5_about 103 = .ok (.ldc2_w 164, 3) := by decide +kernel
theorem dX5_about_106 : decode cX5_about 106 = .ok (.lreturn, 1) := by decide +kernel
set_option maxRecDepth 20000 in
theorem ggX5_look_X5_isLook : GoodIn wsX5_look wsX5_isLook := goodIn_r _ [6, 7, 8, 9, 5, 10, 11, 12, 13, 14, 15, 26, 27, 28, 29, 30, 31, 32, 33, 34, 35, 36, 37, 38, 39, 40, 41, 42, 43, 44, 45, 46, 47, 48, 49, 50, 51, 52, 53] (by decide +kernel) (by decide +kernel)
set_option maxRecDepth 20000 in
theorem gX5_look_X5_isLook : GoodIn wsX5_look (wsV RX5 166 RX5 yX5_isLook wsX5_isLook) := goodIn_app (goodIn_of _ (by decide +kernel)) ggX5_look_X5_isLook
set_option maxRecDepth 20000 in
theorem ggX5_look_X5_within : GoodIn wsX5_look wsX5_within := goodIn_r _ [15] (by decide +kernel) (by decide +kernel)
set_option maxRecDepth 20000 in
theorem gX5_look_X5_within : GoodIn wsX5_look (va_wsS RX5 77 yX5_within wsX5_within) := goodIn_app (goodIn_of _ (by decide +kernel)) ggX5_look_X5_within
set_option maxRecDepth 20000 in
theorem ggX5_look_X5_seen : GoodIn wsX5_look wsX5_seen := goodIn_r _ [19, 20, 21, 22, 23, 24, 25, 26, 27, 28, 29, 30, 31, 32, 33, 34, 35, 36, 37, 38, 39, 40, 41, 54, 55, 56, 57, 58, 59, 60, 61, 62, 63, 64, 65, 66, 67, 68] (by decide +kernel) (by decide +kernel)
set_option maxRecDepth 20000 in
theorem gX5_look_X5_seen : GoodIn wsX5_look (wsV RX5 173 RX5 yX5_seen wsX5_seen) := goodIn_app (goodIn_of _ (by decide +kernel)) ggX5_look_X5_seen
theorem dX5_look_0 : decode cX5_look 0 = .ok (.aload_n 0, 1) := by decide +kernel
theorem dX5_look_1 : decode cX5_look 1 = .ok (.iload_n 1, 1) := by decide +kernel
theorem dX5_look_2 : decode cX5_look 2 = .ok (.iload_n 2, 1) := by decide +kernel
theorem dX5_look_3 : decode cX5_look 3 = .ok (.iload_n 3, 1) := by decide +kernel
theorem dX5_look_4 : decode cX5_look 4 = .ok (.iload 4, 2) := by decide +kernel
theorem dX5_look_6 : decode cX5_look 6 = .ok (.invokevirtual 166, 3) := by decide +kernel
theorem dX5_look_9 : decode cX5_look 9 = .ok (.ifCond .eq 13, 3) := by decide +kernel
theorem dX5_look_12 : decode cX5_look 12 = .ok (.iload 6, 2) := by decide +kernel
theorem dX5_look_14 : decode cX5_look 14 = .ok (.iconst 0, 1) := by decide +kernel
theorem dX5_look_15 : decode cX5_look 15 = .ok (.iconst 1, 1) := by decide +kernel
theorem dX5_look_16 : decode cX5_look 16 = .ok (.invokestatic 77, 3) := by decide +kernel
theorem dX5_look_19 : decode cX5_look 19 = .ok (.ifCond .ne 5, 3) := by decide +kernel
theorem dX5_look_22 : decode cX5_look 22 = .ok (.iconst (-1), 1) := by decide +kernel
theorem dX5_look_23 : decode cX5_look 23 = .ok (.ireturn, 1) := by decide +kernel
theorem dX5_look_24 : decode cX5_look 24 = .ok (.iload 6, 2) := by decide +kernel
theorem dX5_look_26 : decode cX5_look 26 = .ok (.ifCond .ne 17, 3) := by decide +kernel
theorem dX5_look_29 : decode cX5_look 29 = .ok (.aload_n 0, 1) := by decide +kernel
theorem dX5_look_30 : decode cX5_look 30 = .ok (.iload_n 1, 1) := by decide +kernel
theorem dX5_look_31 : decode cX5_look 31 = .ok (.iload_n 2, 1) := by decide +kernel
theorem dX5_look_32 : decode cX5_look 32 = .ok (.iload_n 3, 1) := by decide +kernel
theorem dX5_look_33 : decode cX5_look 33 = .ok (.iload 4, 2) := by decide +kernel
theorem dX5_look_35 : decode cX5_look 35 = .ok (.ldc 172, 2) := by decide +kernel
theorem dX5_look_37 : decode cX5_look 37 = .ok (.invokevirtual 173, 3) := by decide +kernel
theorem dX5_look_40 : decode cX5_look 40 = .ok (.goto 14, 3) := by decide +kernel
theorem dX5_look_43 : decode cX5_look 43 = .ok (.aload_n 0, 1) := by decide +kernel
theorem dX5_look_44 : decode cX5_look 44 = .ok (.iload_n 1, 1) := by decide +kernel
theorem dX5_look_45 : decode cX5_look 45 = .ok (.iload_n 2, 1) := by decide +kernel
theorem dX5_look_46 : decode cX5_look 46 = .ok (.iload_n 3, 1) := by decide +kernel
theorem dX5_look_47 : decode cX5_look 47 = .ok (.iload 4, 2) := by decide +kernel
theorem dX5_look_49 : decode cX5_look 49 = .ok (.iload 5, 2) := by decide +kernel
theorem dX5_look_51 : decode cX5_look 51 = .ok (.invokevirtual 173, 3) := by decide +kernel
theorem dX5_look_54 : decode cX5_look 54 = .ok (.ireturn, 1) := by decide +kernel
set_option maxRecDepth 20000 in
theorem ggX5_seldom_X5_isLook : GoodIn wsX5_seldom wsX5_isLook := goodIn_r _ [19, 20, 21, 22, 18, 23, 6, 24, 25, 26, 27, 58, 59, 60, 61, 62, 63, 64, 65, 66, 67, 68, 69, 70, 71, 72, 73, 89, 90, 91, 92, 93, 94, 95, 96, 97, 98, 99, 100] (by decide +kernel) (by decide +kernel)
set_option maxRecDepth 20000 in
theorem gX5_seldom_X5_isLook : GoodIn wsX5_seldom (wsV RX5 166 RX5 yX5_isLook wsX5_isLook) := goodIn_app (goodIn_of _ (by decide +kernel)) ggX5_seldom_X5_isLook
set_option maxRecDepth 20000 in
theorem ggX5_seldom_X5_seen : GoodIn wsX5_seldom wsX5_seen := goodIn_r _ [31, 4, 32, 33, 34, 35, 36, 58, 59, 60, 61, 62, 63, 64, 65, 66, 67, 68, 69, 70, 71, 72, 73, 74, 75, 76, 77, 78, 79, 80, 81, 82, 83, 84, 85, 86, 87, 88] (by decide +kernel) (by decide +kernel)
set_option maxRecDepth 20000 in
theorem gX5_seldom_X5_seen : GoodIn wsX5_seldom (wsV RX5 173 RX5 yX5_seen wsX5_seen) := goodIn_app (goodIn_of _ (by decide +kernel)) ggX5_seldom_X5_seen
set_option maxRecDepth 20000 in
theorem ggX5_seldom_X2_tenthsFrom : GoodIn wsX5_seldom wsX2_tenthsFrom := goodIn_r _ [41, 42, 43, 44, 89, 90, 91, 92, 93, 94, 95, 96, 97, 98, 99, 100] (by decide +kernel) (by decide +kernel)
set_option maxRecDepth 20000 in
theorem gX5_seldom_X2_tenthsFrom : GoodIn wsX5_seldom (wsV RX5 181 RX2 yX2_tenthsFrom wsX2_tenthsFrom) := goodIn_app (goodIn_of _ (by decide +kernel)) ggX5_seldom_X2_tenthsFrom
set_option maxRecDepth 20000 in
theorem ggX5_seldom_X1_withAtLeast : GoodIn wsX5_seldom wsX1_withAtLeast := goodIn_r _ [49, 50, 51, 52, 53, 48, 54, 101] (by decide +kernel) (by decide +kernel)
set_option maxRecDepth 20000 in
theorem gX5_seldom_X1_withAtLeast : GoodIn wsX5_seldom (wsV RX5 184 RX1 yX1_withAtLeast wsX1_withAtLeast) := goodIn_app (goodIn_of _ (by decide +kernel)) ggX5_seldom_X1_withAtLeast
set_option maxRecDepth 20000 in
theorem ggX5_seldom_X5_power : GoodIn wsX5_seldom wsX5_power := goodIn_r _ [57] (by decide +kernel) (by decide +kernel)
set_option maxRecDepth 20000 in
theorem gX5_seldom_X5_power : GoodIn wsX5_seldom (va_wsS RX5 194 yX5_power wsX5_power) := goodIn_app (goodIn_of _ (by decide +kernel)) ggX5_seldom_X5_power
theorem dX5_seldom_0 : decode cX5_seldom 0 = .ok (.aload_n 0, 1) := by decide +kernel
theorem dX5_seldom_1 : decode cX5_seldom 1 = .ok (.iload_n 1, 1) := by decide +kernel
theorem dX5_seldom_2 : decode cX5_seldom 2 = .ok (.iload_n 2, 1) := by decide +kernel
theorem dX5_seldom_3 : decode cX5_seldom 3 = .ok (.iload_n 3, 1) := by decide +kernel
theorem dX5_seldom_4 : decode cX5_seldom 4 = .ok (.iload 4, 2) := by decide +kernel
theorem dX5_seldom_6 : decode cX5_seldom 6 = .ok (.invokevirtual 166, 3) := by decide +kernel
theorem dX5_seldom_9 : decode cX5_seldom 9 = .ok (.ifCond .ne 7, 3) := by decide +kernel
theorem dX5_seldom_12 : decode cX5_seldom 12 = .ok (.ldc2_w 177, 3) := by decide +kernel
theorem dX5_seldom_15 : decode cX5_seldom 15 = .ok (.lreturn, 1) := by decide +kernel
theorem dX5_seldom_16 : decode cX5_seldom 16 = .ok (.aload_n 0, 1) := by decide +kernel
theorem dX5_seldom_17 : decode cX5_seldom 17 = .ok (.iload_n 1, 1) := by decide +kernel
theorem dX5_seldom_18 : decode cX5_seldom 18 = .ok (.iload_n 2, 1) := by decide +kernel
theorem dX5_seldom_19 : decode cX5_seldom 19 = .ok (.iload_n 3, 1) := by decide +kernel
theorem dX5_seldom_20 : decode cX5_seldom 20 = .ok (.iload 4, 2) := by decide +kernel
theorem dX5_seldom_22 : decode cX5_seldom 22 = .ok (.ldc 172, 2) := by decide +kernel
theorem dX5_seldom_24 : decode cX5_seldom 24 = .ok (.invokevirtual 173, 3) := by decide +kernel
theorem dX5_seldom_27 : decode cX5_seldom 27 = .ok (.istore 6, 2) := by decide +kernel
theorem dX5_seldom_29 : decode cX5_seldom 29 = .ok (.iload 6, 2) := by decide +kernel
theorem dX5_seldom_31 : decode cX5_seldom 31 = .ok (.bipush 18, 2) := by decide +kernel
theorem dX5_seldom_33 : decode cX5_seldom 33 = .ok (.if_icmp .le 7, 3) := by decide +kernel
theorem dX5_seldom_36 : decode cX5_seldom 36 = .ok (.ldc2_w 179, 3) := by decide +kernel
theorem dX5_seldom_39 : decode cX5_seldom 39 = .ok (.lreturn, 1) := by decide +kernel
theorem dX5_seldom_40 : decode cX5_seldom 40 = .ok (.aload_n 0, 1) := by decide +kernel
theorem dX5_seldom_41 : decode cX5_seldom 41 = .ok (.iload_n 1, 1) := by decide +kernel
theorem dX5_seldom_42 : decode cX5_seldom 42 = .ok (.iload_n 2, 1) := by decide +kernel
theorem dX5_seldom_43 : decode cX5_seldom 43 = .ok (.iload_n 3, 1) := by decide +kernel
theorem dX5_seldom_44 : decode cX5_seldom 44 = .ok (.iload 4, 2) := by decide +kernel
theorem dX5_seldom_46 : decode cX5_seldom 46 = .ok (.iload 5, 2) := by decide +kernel
theorem dX5_seldom_48 : decode cX5_seldom 48 = .ok (.invokevirtual 173, 3) := by decide +kernel
theorem dX5_seldom_51 : decode cX5_seldom 51 = .ok (.istore 7, 2) := by decide +kernel
theorem dX5_seldom_53 : decode cX5_seldom 53 = .ok (.aload_n 0, 1) := by decide +kernel
theorem dX5_seldom_54 : decode cX5_seldom 54 = .ok (.getfield 38, 3) := by decide +kernel
theorem dX5_seldom_57 : decode cX5_seldom 57 = .ok (.aload_n 0, 1) := by decide +kernel
theorem dX5_seldom_58 : decode cX5_seldom 58 = .ok (.getfield 57, 3) := by decide +kernel
theorem dX5_seldom_61 : decode cX5_seldom 61 = .ok (.iload 7, 2) := by decide +kernel
theorem dX5_seldom_63 : decode cX5_seldom 63 = .ok (.iload 6, 2) := by decide +kernel
theorem dX5_seldom_65 : decode cX5_seldom 65 = .ok (.aload_n 0, 1) := by decide +kernel
theorem dX5_seldom_66 : decode cX5_seldom 66 = .ok (.getfield 16, 3) := by decide +kernel
theorem dX5_seldom_69 : decode cX5_seldom 69 = .ok (.iload 5, 2) := by decide +kernel
theorem dX5_seldom_71 : decode cX5_seldom 71 = .ok (.invokevirtual 181, 3) := by decide +kernel
theorem dX5_seldom_74 : decode cX5_seldom 74 = .ok (.invokevirtual 184, 3) := by decide +kernel
theorem dX5_seldom_77 : decode cX5_seldom 77 = .ok (.putfield 188, 3) := by decide +kernel
theorem dX5_seldom_80 : decode cX5_seldom 80 = .ok (.aload_n 0, 1) := by decide +kernel
theorem dX5_seldom_81 : decode cX5_seldom 81 = .ok (.getfield 38, 3) := by decide +kernel
theorem dX5_seldom_84 : decode cX5_seldom 84 = .ok (.ldc2_w 192, 3) := by decide +kernel
theorem dX5_seldom_87 : decode cX5_seldom 87 = .ok (.iload 6, 2) := by decide +kernel
theorem dX5_seldom_89 : decode cX5_seldom 89 = .ok (.invokestatic 194, 3) := by decide +kernel
theorem dX5_seldom_92 : decode cX5_seldom 92 = .ok (.putfield 198, 3) := by decide +kernel
theorem dX5_seldom_95 : decode cX5_seldom 95 = .ok (.aload_n 0, 1) := by decide +kernel
theorem dX5_seldom_96 : decode cX5_seldom 96 = .ok (.getfield 38, 3) := by decide +kernel
theorem dX5_seldom_99 : decode cX5_seldom 99 = .ok (.aload_n 0, 1) := by decide +kernel
theorem dX5_seldom_100 : decode cX5_seldom 100 = .ok (.getfield 38, 3) := by decide +kernel
theorem dX5_seldom_103 : decode cX5_seldom 103 = .ok (.getfield 201, 3) := by decide +kernel
theorem dX5_seldom_106 : decode cX5_seldom 106 = .ok (.iconst 1, 1) := by decide +kernel
theorem dX5_seldom_107 : decode cX5_seldom 107 = .ok (.iadd, 1) := by decide +kernel
theorem dX5_seldom_108 : decode cX5_seldom 108 = .ok (.sipush 999, 3) := by decide +kernel
theorem dX5_seldom_111 : decode cX5_seldom 111 = .ok (.invokestatic 204, 3) := by decide +kernel
theorem dX5_seldom_114 : decode cX5_seldom 114 = .ok (.putfield 201, 3) := by decide +kernel
theorem dX5_seldom_117 : decode cX5_seldom 117 = .ok (.aload_n 0, 1) := by decide +kernel
theorem dX5_seldom_118 : decode cX5_seldom 118 = .ok (.getfield 38, 3) := by decide +kernel
theorem dX5_seldom_121 : decode cX5_seldom 121 = .ok (.getfield 188, 3) := by decide +kernel
theorem dX5_seldom_124 : decode cX5_seldom 124 = .ok (.lreturn, 1) := by decide +kernel
set_option maxRecDepth 20000 in
theorem ggX5_counted_X5_within : GoodIn wsX5_counted wsX5_within := goodIn_r _ [10] (by decide +kernel) (by decide +kernel)
set_option maxRecDepth 20000 in
theorem gX5_counted_X5_within : GoodIn wsX5_counted (va_wsS RX5 77 yX5_within wsX5_within) := goodIn_app (goodIn_of _ (by decide +kernel)) ggX5_counted_X5_within
set_option maxRecDepth 20000 in
theorem ggX5_counted_X5_atMost : GoodIn wsX5_counted wsX5_atMost := goodIn_r _ [13] (by decide +kernel) (by decide +kernel)
set_option maxRecDepth 20000 in
theorem gX5_counted_X5_atMost : GoodIn wsX5_counted (va_wsS RX5 209 yX5_atMost wsX5_atMost) := goodIn_app (goodIn_of _ (by decide +kernel)) ggX5_counted_X5_atMost
theorem dX5_counted_0 : decode cX5_counted 0 = .ok (.iload_n 1, 1) := by decide +kernel
theorem dX5_counted_1 : decode cX5_counted 1 = .ok (.iconst 0, 1) := by decide +kernel
theorem dX5_counted_2 : decode cX5_counted 2 = .ok (.iconst 2, 1) := by decide +kernel
theorem dX5_counted_3 : decode cX5_counted 3 = .ok (.invokestatic 77, 3) := by decide +kernel
theorem dX5_counted_6 : decode cX5_counted 6 = .ok (.ifCond .ne 7, 3) := by decide +kernel
theorem dX5_counted_9 : decode cX5_counted 9 = .ok (.ldc2_w 177, 3) := by decide +kernel
theorem dX5_counted_12 : decode cX5_counted 12 = .ok (.lreturn, 1) := by decide +kernel
theorem dX5_counted_13 : decode cX5_counted 13 = .ok (.aload_n 0, 1) := by decide +kernel
theorem dX5_counted_14 : decode cX5_counted 14 = .ok (.getfield 38, 3) := by decide +kernel
theorem dX5_counted_17 : decode cX5_counted 17 = .ok (.getfield 201, 3) := by decide +kernel
theorem dX5_counted_20 : decode cX5_counted 20 = .ok (.ifCond .gt 7, 3) := by decide +kernel
theorem dX5_counted_23 : decode cX5_counted 23 = .ok (.ldc2_w 179, 3) := by decide +kernel
theorem dX5_counted_26 : decode cX5_counted 26 = .ok (.lreturn, 1) := by decide +kernel
theorem dX5_counted_27 : decode cX5_counted 27 = .ok (.iload_n 1, 1) := by decide +kernel
theorem dX5_counted_28 : decode cX5_counted 28 = .ok (.lookupswitch 61 #[(0, 28), (1, 53)], 28) := by decide +kernel
theorem dX5_counted_56 : decode cX5_counted 56 = .ok (.aload_n 0, 1) := by decide +kernel
theorem dX5_counted_57 : decode cX5_counted 57 = .ok (.getfield 38, 3) := by decide +kernel
theorem dX5_counted_60 : decode cX5_counted 60 = .ok (.getfield 188, 3) := by decide +kernel
theorem dX5_counted_63 : decode cX5_counted 63 = .ok (.aload_n 0, 1) := by decide +kernel
theorem dX5_counted_64 : decode cX5_counted 64 = .ok (.getfield 38, 3) := by decide +kernel
theorem dX5_counted_67 : decode cX5_counted 67 = .ok (.getfield 201, 3) := by decide +kernel
theorem dX5_counted_70 : decode cX5_counted 70 = .ok (.aload_n 0, 1) := by decide +kernel
theorem dX5_counted_71 : decode cX5_counted 71 = .ok (.getfield 38, 3) := by decide +kernel
theorem dX5_counted_74 : decode cX5_counted 74 = .ok (.getfield 198, 3) := by decide +kernel
theorem dX5_counted_77 : decode cX5_counted 77 = .ok (.invokestatic 209, 3) := by decide +kernel
theorem dX5_counted_80 : decode cX5_counted 80 = .ok (.lreturn, 1) := by decide +kernel
theorem dX5_counted_81 : decode cX5_counted 81 = .ok (.aload_n 0, 1) := by decide +kernel
theorem dX5_counted_82 : decode cX5_counted 82 = .ok (.getfield 38, 3) := by decide +kernel
theorem dX5_counted_85 : decode cX5_counted 85 = .ok (.getfield 198, 3) := by decide +kernel
theorem dX5_counted_88 : decode cX5_counted 88 = .ok (.lreturn, 1) := by decide +kernel
theorem dX5_counted_89 : decode cX5_counted 89 = .ok (.aload_n 0, 1) := by decide +kernel
theorem dX5_counted_90 : decode cX5_counted 90 = .ok (.getfield 38, 3) := by decide +kernel
theorem dX5_counted_93 : decode cX5_counted 93 = .ok (.getfield 201, 3) := by decide +kernel
theorem dX5_counted_96 : decode cX5_counted 96 = .ok (.i2l, 1) := by decide +kernel
theorem dX5_counted_97 : decode cX5_counted 97 = .ok (.lreturn, 1) := by decide +kernel
set_option maxRecDepth 20000 in
theorem ggX5_likely_X5_isWay : GoodIn wsX5_likely wsX5_isWay := goodIn_r _ [9, 10, 11, 83, 84, 85, 86, 87, 88, 89, 90, 91, 92, 93, 94, 95, 96, 97, 98, 99, 100, 101, 102, 103, 104, 105, 106, 107, 108, 109, 110] (by decide +kernel) (by decide +kernel)
set_option maxRecDepth 20000 in
theorem gX5_likely_X5_isWay : GoodIn wsX5_likely (wsV RX5 115 RX5 yX5_isWay wsX5_isWay) := goodIn_app (goodIn_of _ (by decide +kernel)) ggX5_likely_X5_isWay
set_option maxRecDepth 20000 in
theorem ggX5_likely_X5_isStall : GoodIn wsX5_likely wsX5_isStall := goodIn_r _ [15, 10, 16, 83, 84, 85, 86, 87, 88, 89, 90, 91, 92, 93, 94, 95, 96, 97, 98, 99, 100, 101, 102, 103, 104, 105, 106, 107, 108, 109, 110] (by decide +kernel) (by decide +kernel)
set_option maxRecDepth 20000 in
theorem gX5_likely_X5_isStall : GoodIn wsX5_likely (wsV RX5 95 RX5 yX5_isStall wsX5_isStall) := goodIn_app (goodIn_of _ (by decide +kernel)) ggX5_likely_X5_isStall
set_option maxRecDepth 20000 in
theorem ggX5_likely_X5_isPart : GoodIn wsX5_likely wsX5_isPart := goodIn_r _ [19] (by decide +kernel) (by decide +kernel)
set_option maxRecDepth 20000 in
theorem gX5_likely_X5_isPart : GoodIn wsX5_likely (va_wsS RX5 213 yX5_isPart wsX5_isPart) := goodIn_app (goodIn_of _ (by decide +kernel)) ggX5_likely_X5_isPart
set_option maxRecDepth 20000 in
theorem ggX5_likely_X0_bagsOf : GoodIn wsX5_likely wsX0_bagsOf := goodIn_r _ [24, 25, 26, 27, 28, 23, 29, 30, 31, 111, 112, 113, 114, 115, 116, 117, 118, 119, 120, 121, 122, 123, 124, 125] (by decide +kernel) (by decide +kernel)
set_option maxRecDepth 20000 in
theorem gX5_likely_X0_bagsOf : GoodIn wsX5_likely (wsV RX5 108 RX0 yX0_bagsOf wsX0_bagsOf) := goodIn_app (goodIn_of _ (by decide +kernel)) ggX5_likely_X0_bagsOf
set_option maxRecDepth 20000 in
theorem ggX5_likely_X5_oftenTogether : GoodIn wsX5_likely wsX5_oftenTogether := goodIn_r _ [35, 2, 36, 37, 10, 38, 39, 40, 41, 42, 43, 44, 45, 46, 47, 48, 49, 50, 51, 52, 53, 54, 55, 56, 57, 58, 59, 60, 61, 62, 63, 64, 65, 66, 67, 68, 83, 84, 85, 86, 87, 88, 89, 90, 91, 92, 93, 94, 95, 96, 97, 98, 111, 112, 113, 114, 115, 116, 117, 118, 119, 120, 121, 122, 123, 124, 125, 99, 100, 101, 102, 103, 104, 105, 106, 107, 108, 109, 110] (by decide +kernel) (by decide +kernel)
set_option maxRecDepth 20000 in
theorem gX5_likely_X5_oftenTogether : GoodIn wsX5_likely (wsV RX5 216 RX5 yX5_oftenTogether wsX5_oftenTogether) := goodIn_app (goodIn_of _ (by decide +kernel)) ggX5_likely_X5_oftenTogether
set_option maxRecDepth 20000 in
theorem ggX5_likely_X5_power : GoodIn wsX5_likely wsX5_power := goodIn_r _ [71] (by decide +kernel) (by decide +kernel)
set_option maxRecDepth 20000 in
theorem gX5_likely_X5_power : GoodIn wsX5_likely (va_wsS RX5 194 yX5_power wsX5_power) := goodIn_app (goodIn_of _ (by decide +kernel)) ggX5_likely_X5_power
set_option maxRecDepth 20000 in
theorem ggX5_likely_X5_inLeastTerms : GoodIn wsX5_likely wsX5_inLeastTerms := goodIn_r _ [74, 75, 76, 77, 78, 79, 80, 81, 8, 82] (by decide +kernel) (by decide +kernel)
set_option maxRecDepth 20000 in
theorem gX5_likely_X5_inLeastTerms : GoodIn wsX5_likely (va_wsS RX5 222 yX5_inLeastTerms wsX5_inLeastTerms) := goodIn_app (goodIn_of _ (by decide +kernel)) ggX5_likely_X5_inLeastTerms
theorem dX5_likely_0 : decode cX5_likely 0 = .ok (.aload_n 0, 1) := by decide +kernel
theorem dX5_likely_1 : decode cX5_likely 1 = .ok (.iload_n 1, 1) := by decide +kernel
theorem dX5_likely_2 : decode cX5_likely 2 = .ok (.invokevirtual 115, 3) := by decide +kernel
theorem dX5_likely_5 : decode cX5_likely 5 = .ok (.ifCond .eq 18, 3) := by decide +kernel
theorem dX5_likely_8 : decode cX5_likely 8 = .ok (.aload_n 0, 1) := by decide +kernel
theorem dX5_likely_9 : decode cX5_likely 9 = .ok (.iload_n 2, 1) := by decide +kernel
theorem dX5_likely_10 : decode cX5_likely 10 = .ok (.invokevirtual 95, 3) := by decide +kernel
theorem dX5_likely_13 : decode cX5_likely 13 = .ok (.ifCond .eq 10, 3) := by decide +kernel
theorem dX5_likely_16 : decode cX5_likely 16 = .ok (.iload_n 3, 1) := by decide +kernel
theorem dX5_likely_17 : decode cX5_likely 17 = .ok (.invokestatic 213, 3) := by decide +kernel
theorem dX5_likely_20 : decode cX5_likely 20 = .ok (.ifCond .ne 7, 3) := by decide +kernel
theorem dX5_likely_23 : decode cX5_likely 23 = .ok (.ldc2_w 177, 3) := by decide +kernel
theorem dX5_likely_26 : decode cX5_likely 26 = .ok (.lreturn, 1) := by decide +kernel
theorem dX5_likely_27 : decode cX5_likely 27 = .ok (.aload_n 0, 1) := by decide +kernel
theorem dX5_likely_28 : decode cX5_likely 28 = .ok (.getfield 38, 3) := by decide +kernel
theorem dX5_likely_31 : decode cX5_likely 31 = .ok (.iload_n 2, 1) := by decide +kernel
theorem dX5_likely_32 : decode cX5_likely 32 = .ok (.bipush 15, 2) := by decide +kernel
theorem dX5_likely_34 : decode cX5_likely 34 = .ok (.invokevirtual 108, 3) := by decide +kernel
theorem dX5_likely_37 : decode cX5_likely 37 = .ok (.istore 4, 2) := by decide +kernel
theorem dX5_likely_39 : decode cX5_likely 39 = .ok (.iload 4, 2) := by decide +kernel
theorem dX5_likely_41 : decode cX5_likely 41 = .ok (.bipush 6, 2) := by decide +kernel
theorem dX5_likely_43 : decode cX5_likely 43 = .ok (.if_icmp .le 7, 3) := by decide +kernel
theorem dX5_likely_46 : decode cX5_likely 46 = .ok (.ldc2_w 179, 3) := by decide +kernel
theorem dX5_likely_49 : decode cX5_likely 49 = .ok (.lreturn, 1) := by decide +kernel
theorem dX5_likely_50 : decode cX5_likely 50 = .ok (.aload_n 0, 1) := by decide +kernel
theorem dX5_likely_51 : decode cX5_likely 51 = .ok (.iload_n 1, 1) := by decide +kernel
theorem dX5_likely_52 : decode cX5_likely 52 = .ok (.iload_n 2, 1) := by decide +kernel
theorem dX5_likely_53 : decode cX5_likely 53 = .ok (.invokevirtual 216, 3) := by decide +kernel
theorem dX5_likely_56 : decode cX5_likely 56 = .ok (.ldc2_w 220, 3) := by decide +kernel
theorem dX5_likely_59 : decode cX5_likely 59 = .ok (.iload 4, 2) := by decide +kernel
theorem dX5_likely_61 : decode cX5_likely 61 = .ok (.invokestatic 194, 3) := by decide +kernel
theorem dX5_likely_64 : decode cX5_likely 64 = .ok (.iload_n 3, 1) := by decide +kernel
theorem dX5_likely_65 : decode cX5_likely 65 = .ok (.invokestatic 222, 3) := by decide +kernel
theorem dX5_likely_68 : decode cX5_likely 68 = .ok (.lreturn, 1) := by decide +kernel
set_option maxRecDepth 20000 in
theorem ggX5_belief_X5_isWay : GoodIn wsX5_belief wsX5_isWay := goodIn_r _ [6, 7, 8, 12, 13, 14, 15, 16, 17, 18, 19, 20, 21, 22, 23, 24, 25, 26, 27, 28, 29, 30, 31, 32, 33, 34, 35, 36, 37, 38, 39] (by decide +kernel) (by decide +kernel)
set_option maxRecDepth 20000 in
theorem gX5_belief_X5_isWay : GoodIn wsX5_belief (wsV RX5 115 RX5 yX5_isWay wsX5_isWay) := goodIn_app (goodIn_of _ (by decide +kernel)) ggX5_belief_X5_isWay
set_option maxRecDepth 20000 in
theorem ggX5_belief_X5_within : GoodIn wsX5_belief wsX5_within := goodIn_r _ [11] (by decide +kernel) (by decide +kernel)
set_option maxRecDepth 20000 in
theorem gX5_belief_X5_within : GoodIn wsX5_belief (va_wsS RX5 77 yX5_within wsX5_within) := goodIn_app (goodIn_of _ (by decide +kernel)) ggX5_belief_X5_within
theorem dX5_belief_0 : decode cX5_belief 0 = .ok (.aload_n 0, 1) := by decide +kernel
theorem dX5_belief_1 : decode cX5_belief 1 = .ok (.iload_n 1, 1) := by decide +kernel
theorem dX5_belief_2 : decode cX5_belief 2 = .ok (.invokevirtual 115, 3) := by decide +kernel
theorem dX5_belief_5 : decode cX5_belief 5 = .ok (.ifCond .eq 13, 3) := by decide +kernel
theorem dX5_belief_8 : decode cX5_belief 8 = .ok (.iload_n 2, 1) := by decide +kernel
theorem dX5_belief_9 : decode cX5_belief 9 = .ok (.iconst 0, 1) := by decide +kernel
theorem dX5_belief_10 : decode cX5_belief 10 = .ok (.bipush 9, 2) := by decide +kernel
theorem dX5_belief_12 : decode cX5_belief 12 = .ok (.invokestatic 77, 3) := by decide +kernel
theorem dX5_belief_15 : decode cX5_belief 15 = .ok (.ifCond .ne 5, 3) := by decide +kernel
theorem dX5_belief_18 : decode cX5_belief 18 = .ok (.iconst (-1), 1) := by decide +kernel
theorem dX5_belief_19 : decode cX5_belief 19 = .ok (.ireturn, 1) := by decide +kernel
theorem dX5_belief_20 : decode cX5_belief 20 = .ok (.aload_n 0, 1) := by decide +kernel
theorem dX5_belief_21 : decode cX5_belief 21 = .ok (.getfield 32, 3) := by decide +kernel
theorem dX5_belief_24 : decode cX5_belief 24 = .ok (.iload_n 1, 1) := by decide +kernel
theorem dX5_belief_25 : decode cX5_belief 25 = .ok (.iaload, 1) := by decide +kernel
theorem dX5_belief_26 : decode cX5_belief 26 = .ok (.istore_n 3, 1) := by decide +kernel
theorem dX5_belief_27 : decode cX5_belief 27 = .ok (.aload_n 0, 1) := by decide +kernel
theorem dX5_belief_28 : decode cX5_belief 28 = .ok (.getfield 32, 3) := by decide +kernel
theorem dX5_belief_31 : decode cX5_belief 31 = .ok (.iload_n 1, 1) := by decide +kernel
theorem dX5_belief_32 : decode cX5_belief 32 = .ok (.iload_n 2, 1) := by decide +kernel
theorem dX5_belief_33 : decode cX5_belief 33 = .ok (.iastore, 1) := by decide +kernel
theorem dX5_belief_34 : decode cX5_belief 34 = .ok (.iload_n 3, 1) := by decide +kernel
theorem dX5_belief_35 : decode cX5_belief 35 = .ok (.ireturn, 1) := by decide +kernel
set_option maxRecDepth 20000 in
theorem ggX5_odds_X5_isWay : GoodIn wsX5_odds wsX5_isWay := goodIn_r _ [8, 9, 10, 84, 85, 86, 87, 88, 89, 90, 91, 92, 93, 94, 95, 96, 97, 98, 99, 100, 101, 102, 103, 104, 105, 106, 107, 108, 109, 110, 111] (by decide +kernel) (by decide +kernel)
set_option maxRecDepth 20000 in
theorem gX5_odds_X5_isWay : GoodIn wsX5_odds (wsV RX5 115 RX5 yX5_isWay wsX5_isWay) := goodIn_app (goodIn_of _ (by decide +kernel)) ggX5_odds_X5_isWay
set_option maxRecDepth 20000 in
theorem ggX5_odds_X5_isStall : GoodIn wsX5_odds wsX5_isStall := goodIn_r _ [14, 9, 15, 84, 85, 86, 87, 88, 89, 90, 91, 92, 93, 94, 95, 96, 97, 98, 99, 100, 101, 102, 103, 104, 105, 106, 107, 108, 109, 110, 111] (by decide +kernel) (by decide +kernel)
set_option maxRecDepth 20000 in
theorem gX5_odds_X5_isStall : GoodIn wsX5_odds (wsV RX5 95 RX5 yX5_isStall wsX5_isStall) := goodIn_app (goodIn_of _ (by decide +kernel)) ggX5_odds_X5_isStall
set_option maxRecDepth 20000 in
theorem ggX5_odds_X5_isPart : GoodIn wsX5_odds wsX5_isPart := goodIn_r _ [18] (by decide +kernel) (by decide +kernel)
set_option maxRecDepth 20000 in
theorem gX5_odds_X5_isPart : GoodIn wsX5_odds (va_wsS RX5 213 yX5_isPart wsX5_isPart) := goodIn_app (goodIn_of _ (by decide +kernel)) ggX5_odds_X5_isPart
set_option maxRecDepth 20000 in
theorem ggX5_odds_X5_allWeights : GoodIn wsX5_odds wsX5_allWeights := goodIn_r _ [22, 23, 9, 10, 3, 24, 25, 26, 27, 28, 29, 30, 31, 32, 33, 34, 35, 36, 37, 38, 7, 39, 40, 41, 42, 43, 44, 45, 46, 47, 48, 49, 50, 51, 52, 53, 54, 55, 56, 57, 58, 59, 60, 61, 62, 63, 64, 65, 66, 67, 68, 69, 70, 71, 72, 84, 85, 86, 87, 88, 89, 90, 91, 92, 93, 94, 95, 96, 97, 98, 99, 100, 101, 102, 103, 104, 105, 106, 107, 108, 109, 110, 111, 112, 113, 114, 115, 116, 117, 118, 119, 120, 121, 122, 123, 124, 125, 126] (by decide +kernel) (by decide +kernel)
set_option maxRecDepth 20000 in
theorem gX5_odds_X5_allWeights : GoodIn wsX5_odds (wsV RX5 226 RX5 yX5_allWeights wsX5_allWeights) := goodIn_app (goodIn_of _ (by decide +kernel)) ggX5_odds_X5_allWeights
set_option maxRecDepth 20000 in
theorem ggX5_odds_X5_oftenTogether : GoodIn wsX5_odds wsX5_oftenTogether := goodIn_r _ [39, 23, 40, 41, 9, 42, 43, 44, 45, 46, 47, 48, 49, 50, 51, 52, 53, 54, 55, 56, 57, 58, 59, 60, 61, 62, 63, 64, 65, 66, 67, 68, 69, 70, 71, 72, 84, 85, 86, 87, 88, 89, 90, 91, 92, 93, 94, 95, 96, 97, 98, 99, 112, 113, 114, 115, 116, 117, 118, 119, 120, 121, 122, 123, 124, 125, 126, 100, 101, 102, 103, 104, 105, 106, 107, 108, 109, 110, 111] (by decide +kernel) (by decide +kernel)
set_option maxRecDepth 20000 in
theorem gX5_odds_X5_oftenTogether : GoodIn wsX5_odds (wsV RX5 216 RX5 yX5_oftenTogether wsX5_oftenTogether) := goodIn_app (goodIn_of _ (by decide +kernel)) ggX5_odds_X5_oftenTogether
set_option maxRecDepth 20000 in
theorem ggX5_odds_X5_inLeastTerms : GoodIn wsX5_odds wsX5_inLeastTerms := goodIn_r _ [75, 76, 77, 78, 79, 80, 81, 82, 7, 83] (by decide +kernel) (by decide +kernel)
set_option maxRecDepth 20000 in
theorem gX5_odds_X5_inLeastTerms : GoodIn wsX5_odds (va_wsS RX5 222 yX5_inLeastTerms wsX5_inLeastTerms) := goodIn_app (goodIn_of _ (by decide +kernel)) ggX5_odds_X5_inLeastTerms
theorem dX5_odds_0 : decode cX5_odds 0 = .ok (.aload_n 0, 1) := by decide +kernel
theorem dX5_odds_1 : decode cX5_odds 1 = .ok (.iload_n 1, 1) := by decide +kernel
theorem dX5_odds_2 : decode cX5_odds 2 = .ok (.invokevirtual 115, 3) := by decide +kernel
theorem dX5_odds_5 : decode cX5_odds 5 = .ok (.ifCond .eq 18, 3) := by decide +kernel
theorem dX5_odds_8 : decode cX5_odds 8 = .ok (.aload_n 0, 1) := by decide +kernel
theorem dX5_odds_9 : decode cX5_odds 9 = .ok (.iload_n 2, 1) := by decide +kernel
theorem dX5_odds_10 : decode cX5_odds 10 = .ok (.invokevirtual 95, 3) := by decide +kernel
theorem dX5_odds_13 : decode cX5_odds 13 = .ok (.ifCond .eq 10, 3) := by decide +kernel
theorem dX5_odds_16 : decode cX5_odds 16 = .ok (.iload_n 3, 1) := by decide +kernel
theorem dX5_odds_17 : decode cX5_odds 17 = .ok (.invokestatic 213, 3) := by decide +kernel
theorem dX5_odds_20 : decode cX5_odds 20 = .ok (.ifCond .ne 7, 3) := by decide +kernel
theorem dX5_odds_23 : decode cX5_odds 23 = .ok (.ldc2_w 177, 3) := by decide +kernel
theorem dX5_odds_26 : decode cX5_odds 26 = .ok (.lreturn, 1) := by decide +kernel
theorem dX5_odds_27 : decode cX5_odds 27 = .ok (.aload_n 0, 1) := by decide +kernel
theorem dX5_odds_28 : decode cX5_odds 28 = .ok (.iload_n 2, 1) := by decide +kernel
theorem dX5_odds_29 : decode cX5_odds 29 = .ok (.invokevirtual 226, 3) := by decide +kernel
theorem dX5_odds_32 : decode cX5_odds 32 = .ok (.lstore 4, 2) := by decide +kernel
theorem dX5_odds_34 : decode cX5_odds 34 = .ok (.lload 4, 2) := by decide +kernel
theorem dX5_odds_36 : decode cX5_odds 36 = .ok (.lconst 0, 1) := by decide +kernel
theorem dX5_odds_37 : decode cX5_odds 37 = .ok (.lcmp, 1) := by decide +kernel
theorem dX5_odds_38 : decode cX5_odds 38 = .ok (.ifCond .gt 7, 3) := by decide +kernel
theorem dX5_odds_41 : decode cX5_odds 41 = .ok (.ldc2_w 179, 3) := by decide +kernel
theorem dX5_odds_44 : decode cX5_odds 44 = .ok (.lreturn, 1) := by decide +kernel
theorem dX5_odds_45 : decode cX5_odds 45 = .ok (.aload_n 0, 1) := by decide +kernel
theorem dX5_odds_46 : decode cX5_odds 46 = .ok (.getfield 32, 3) := by decide +kernel
theorem dX5_odds_49 : decode cX5_odds 49 = .ok (.iload_n 1, 1) := by decide +kernel
theorem dX5_odds_50 : decode cX5_odds 50 = .ok (.iaload, 1) := by decide +kernel
theorem dX5_odds_51 : decode cX5_odds 51 = .ok (.i2l, 1) := by decide +kernel
theorem dX5_odds_52 : decode cX5_odds 52 = .ok (.aload_n 0, 1) := by decide +kernel
theorem dX5_odds_53 : decode cX5_odds 53 = .ok (.iload_n 1, 1) := by decide +kernel
theorem dX5_odds_54 : decode cX5_odds 54 = .ok (.iload_n 2, 1) := by decide +kernel
theorem dX5_odds_55 : decode cX5_odds 55 = .ok (.invokevirtual 216, 3) := by decide +kernel
theorem dX5_odds_58 : decode cX5_odds 58 = .ok (.lmul, 1) := by decide +kernel
theorem dX5_odds_59 : decode cX5_odds 59 = .ok (.lload 4, 2) := by decide +kernel
theorem dX5_odds_61 : decode cX5_odds 61 = .ok (.iload_n 3, 1) := by decide +kernel
theorem dX5_odds_62 : decode cX5_odds 62 = .ok (.invokestatic 222, 3) := by decide +kernel
theorem dX5_odds_65 : decode cX5_odds 65 = .ok (.lreturn, 1) := by decide +kernel
set_option maxRecDepth 20000 in
theorem ggX5_judged_X5_isStall : GoodIn wsX5_judged wsX5_isStall := goodIn_r _ [9, 2, 10, 65, 66, 67, 68, 69, 70, 71, 72, 73, 74, 75, 76, 77, 78, 79, 80, 81, 82, 83, 84, 85, 86, 87, 88, 89, 90, 91, 92] (by decide +kernel) (by decide +kernel)
set_option maxRecDepth 20000 in
theorem gX5_judged_X5_isStall : GoodIn wsX5_judged (wsV RX5 95 RX5 yX5_isStall wsX5_isStall) := goodIn_app (goodIn_of _ (by decide +kernel)) ggX5_judged_X5_isStall
set_option maxRecDepth 20000 in
theorem ggX5_judged_X5_allWeights : GoodIn wsX5_judged wsX5_allWeights := goodIn_r _ [14, 15, 2, 3, 4, 16, 17, 18, 19, 20, 21, 22, 23, 24, 25, 26, 27, 28, 29, 30, 8, 31, 32, 33, 34, 35, 36, 37, 38, 39, 40, 41, 42, 43, 44, 45, 46, 47, 48, 49, 50, 51, 52, 53, 54, 55, 56, 57, 58, 59, 60, 61, 62, 63, 64, 65, 66, 67, 68, 69, 70, 71, 72, 73, 74, 75, 76, 77, 78, 79, 80, 81, 82, 83, 84, 85, 86, 87, 88, 89, 90, 91, 92, 93, 94, 95, 96, 97, 98, 99, 100, 101, 102, 103, 104, 105, 106, 107] (by decide +kernel) (by decide +kernel)
set_option maxRecDepth 20000 in
theorem gX5_judged_X5_allWeights : GoodIn wsX5_judged (wsV RX5 226 RX5 yX5_allWeights wsX5_allWeights) := goodIn_app (goodIn_of _ (by decide +kernel)) ggX5_judged_X5_allWeights
set_option maxRecDepth 20000 in
theorem ggX5_judged_X5_oftenTogether : GoodIn wsX5_judged wsX5_oftenTogether := goodIn_r _ [31, 15, 32, 33, 2, 34, 35, 36, 37, 38, 39, 40, 41, 42, 43, 44, 45, 46, 47, 48, 49, 50, 51, 52, 53, 54, 55, 56, 57, 58, 59, 60, 61, 62, 63, 64, 65, 66, 67, 68, 69, 70, 71, 72, 73, 74, 75, 76, 77, 78, 79, 80, 93, 94, 95, 96, 97, 98, 99, 100, 101, 102, 103, 104, 105, 106, 107, 81, 82, 83, 84, 85, 86, 87, 88, 89, 90, 91, 92] (by decide +kernel) (by decide +kernel)
set_option maxRecDepth 20000 in
theorem gX5_judged_X5_oftenTogether : GoodIn wsX5_judged (wsV RX5 216 RX5 yX5_oftenTogether wsX5_oftenTogether) := goodIn_app (goodIn_of _ (by decide +kernel)) ggX5_judged_X5_oftenTogether
theorem dX5_judged_0 : decode cX5_judged 0 = .ok (.aload_n 0, 1) := by decide +kernel
theorem dX5_judged_1 : decode cX5_judged 1 = .ok (.iload_n 1, 1) := by decide +kernel
theorem dX5_judged_2 : decode cX5_judged 2 = .ok (.invokevirtual 95, 3) := by decide +kernel
theorem dX5_judged_5 : decode cX5_judged 5 = .ok (.ifCond .ne 5, 3) := by decide +kernel
theorem dX5_judged_8 : decode cX5_judged 8 = .ok (.iconst (-1), 1) := by decide +kernel
theorem dX5_judged_9 : decode cX5_judged 9 = .ok (.ireturn, 1) := by decide +kernel
theorem dX5_judged_10 : decode cX5_judged 10 = .ok (.aload_n 0, 1) := by decide +kernel
theorem dX5_judged_11 : decode cX5_judged 11 = .ok (.iload_n 1, 1) := by decide +kernel
theorem dX5_judged_12 : decode cX5_judged 12 = .ok (.invokevirtual 226, 3) := by decide +kernel
theorem dX5_judged_15 : decode cX5_judged 15 = .ok (.lconst 0, 1) := by decide +kernel
theorem dX5_judged_16 : decode cX5_judged 16 = .ok (.lcmp, 1) := by decide +kernel
theorem dX5_judged_17 : decode cX5_judged 17 = .ok (.ifCond .gt 6, 3) := by decide +kernel
theorem dX5_judged_20 : decode cX5_judged 20 = .ok (.bipush (-2), 2) := by decide +kernel
theorem dX5_judged_22 : decode cX5_judged 22 = .ok (.ireturn, 1) := by decide +kernel
theorem dX5_judged_23 : decode cX5_judged 23 = .ok (.iconst 0, 1) := by decide +kernel
theorem dX5_judged_24 : decode cX5_judged 24 = .ok (.istore_n 2, 1) := by decide +kernel
theorem dX5_judged_25 : decode cX5_judged 25 = .ok (.ldc2_w 177, 3) := by decide +kernel
theorem dX5_judged_28 : decode cX5_judged 28 = .ok (.lstore_n 3, 1) := by decide +kernel
theorem dX5_judged_29 : decode cX5_judged 29 = .ok (.iconst 0, 1) := by decide +kernel
theorem dX5_judged_30 : decode cX5_judged 30 = .ok (.istore 5, 2) := by decide +kernel
theorem dX5_judged_32 : decode cX5_judged 32 = .ok (.iload 5, 2) := by decide +kernel
theorem dX5_judged_34 : decode cX5_judged 34 = .ok (.aload_n 0, 1) := by decide +kernel
theorem dX5_judged_35 : decode cX5_judged 35 = .ok (.getfield 16, 3) := by decide +kernel
theorem dX5_judged_38 : decode cX5_judged 38 = .ok (.getfield 230, 3) := by decide +kernel
theorem dX5_judged_41 : decode cX5_judged 41 = .ok (.if_icmp .ge 40, 3) := by decide +kernel
theorem dX5_judged_44 : decode cX5_judged 44 = .ok (.aload_n 0, 1) := by decide +kernel
theorem dX5_judged_45 : decode cX5_judged 45 = .ok (.getfield 32, 3) := by decide +kernel
theorem dX5_judged_48 : decode cX5_judged 48 = .ok (.iload 5, 2) := by decide +kernel
theorem dX5_judged_50 : decode cX5_judged 50 = .ok (.iaload, 1) := by decide +kernel
theorem dX5_judged_51 : decode cX5_judged 51 = .ok (.i2l, 1) := by decide +kernel
theorem dX5_judged_52 : decode cX5_judged 52 = .ok (.aload_n 0, 1) := by decide +kernel
theorem dX5_judged_53 : decode cX5_judged 53 = .ok (.iload 5, 2) := by decide +kernel
theorem dX5_judged_55 : decode cX5_judged 55 = .ok (.iload_n 1, 1) := by decide +kernel
theorem dX5_judged_56 : decode cX5_judged 56 = .ok (.invokevirtual 216, 3) := by decide +kernel
theorem dX5_judged_59 : decode cX5_judged 59 = .ok (.lmul, 1) := by decide +kernel
theorem dX5_judged_60 : decode cX5_judged 60 = .ok (.lstore 6, 2) := by decide +kernel
theorem dX5_judged_62 : decode cX5_judged 62 = .ok (.lload 6, 2) := by decide +kernel
theorem dX5_judged_64 : decode cX5_judged 64 = .ok (.lload_n 3, 1) := by decide +kernel
theorem dX5_judged_65 : decode cX5_judged 65 = .ok (.lcmp, 1) := by decide +kernel
theorem dX5_judged_66 : decode cX5_judged 66 = .ok (.ifCond .le 9, 3) := by decide +kernel
theorem dX5_judged_69 : decode cX5_judged 69 = .ok (.iload 5, 2) := by decide +kernel
theorem dX5_judged_71 : decode cX5_judged 71 = .ok (.istore_n 2, 1) := by decide +kernel
theorem dX5_judged_72 : decode cX5_judged 72 = .ok (.lload 6, 2) := by decide +kernel
theorem dX5_judged_74 : decode cX5_judged 74 = .ok (.lstore_n 3, 1) := by decide +kernel
theorem dX5_judged_75 : decode cX5_judged 75 = .ok (.iinc 5 1, 3) := by decide +kernel
theorem dX5_judged_78 : decode cX5_judged 78 = .ok (.goto (-46), 3) := by decide +kernel
theorem dX5_judged_81 : decode cX5_judged 81 = .ok (.iload_n 2, 1) := by decide +kernel
theorem dX5_judged_82 : decode cX5_judged 82 = .ok (.ireturn, 1) := by decide +kernel
set_option maxRecDepth 20000 in
theorem ggX5_apart_X5_isWay : GoodIn wsX5_apart wsX5_isWay := goodIn_r _ [5, 6, 7, 53, 54, 55, 56, 57, 58, 59, 60, 61, 62, 63, 64, 65, 66, 67, 68, 69, 70, 71, 72, 73, 74, 75, 76, 77, 78, 79, 80] (by decide +kernel) (by decide +kernel)
set_option maxRecDepth 20000 in
theorem gX5_apart_X5_isWay : GoodIn wsX5_apart (wsV RX5 115 RX5 yX5_isWay wsX5_isWay) := goodIn_app (goodIn_of _ (by decide +kernel)) ggX5_apart_X5_isWay
set_option maxRecDepth 20000 in
theorem ggX5_apart_X5_isStall : GoodIn wsX5_apart wsX5_isStall := goodIn_r _ [11, 6, 12, 53, 54, 55, 56, 57, 58, 59, 60, 61, 62, 63, 64, 65, 66, 67, 68, 69, 70, 71, 72, 73, 74, 75, 76, 77, 78, 79, 80] (by decide +kernel) (by decide +kernel)
set_option maxRecDepth 20000 in
theorem gX5_apart_X5_isStall : GoodIn wsX5_apart (wsV RX5 95 RX5 yX5_isStall wsX5_isStall) := goodIn_app (goodIn_of _ (by decide +kernel)) ggX5_apart_X5_isStall
set_option maxRecDepth 20000 in
theorem ggX5_apart_X5_isSort : GoodIn wsX5_apart wsX5_isSort := goodIn_r _ [15] (by decide +kernel) (by decide +kernel)
set_option maxRecDepth 20000 in
theorem gX5_apart_X5_isSort : GoodIn wsX5_apart (va_wsS RX5 130 yX5_isSort wsX5_isSort) := goodIn_app (goodIn_of _ (by decide +kernel)) ggX5_apart_X5_isSort
set_option maxRecDepth 20000 in
theorem ggX5_apart_X5_distance : GoodIn wsX5_apart wsX5_distance := goodIn_r _ [19, 6, 20, 21, 22, 23, 24, 25, 26, 27, 28, 29, 30, 31, 32, 33, 34, 35, 36, 37, 38, 39, 40, 41, 42, 43, 44, 45, 46, 47, 48, 49, 50, 51, 52, 53, 54, 55, 56, 57, 58, 59, 60, 61, 62, 63, 64, 65, 66, 67, 68, 69, 70, 71, 72, 73, 74, 75, 76, 77, 78, 79, 80] (by decide +kernel) (by decide +kernel)
set_option maxRecDepth 20000 in
theorem gX5_apart_X5_distance : GoodIn wsX5_apart (wsV RX5 233 RX5 yX5_distance wsX5_distance) := goodIn_app (goodIn_of _ (by decide +kernel)) ggX5_apart_X5_distance
theorem dX5_apart_0 : decode cX5_apart 0 = .ok (.aload_n 0, 1) := by decide +kernel
theorem dX5_apart_1 : decode cX5_apart 1 = .ok (.iload_n 1, 1) := by decide +kernel
theorem dX5_apart_2 : decode cX5_apart 2 = .ok (.invokevirtual 115, 3) := by decide +kernel
theorem dX5_apart_5 : decode cX5_apart 5 = .ok (.ifCond .eq 27, 3) := by decide +kernel
theorem dX5_apart_8 : decode cX5_apart 8 = .ok (.aload_n 0, 1) := by decide +kernel
theorem dX5_apart_9 : decode cX5_apart 9 = .ok (.iload_n 2, 1) := by decide +kernel
theorem dX5_apart_10 : decode cX5_apart 10 = .ok (.invokevirtual 115, 3) := by decide +kernel
theorem dX5_apart_13 : decode cX5_apart 13 = .ok (.ifCond .eq 19, 3) := by decide +kernel
theorem dX5_apart_16 : decode cX5_apart 16 = .ok (.aload_n 0, 1) := by decide +kernel
theorem dX5_apart_17 : decode cX5_apart 17 = .ok (.iload_n 3, 1) := by decide +kernel
theorem dX5_apart_18 : decode cX5_apart 18 = .ok (.invokevirtual 95, 3) := by decide +kernel
theorem dX5_apart_21 : decode cX5_apart 21 = .ok (.ifCond .eq 11, 3) := by decide +kernel
theorem dX5_apart_24 : decode cX5_apart 24 = .ok (.iload 4, 2) := by decide +kernel
theorem dX5_apart_26 : decode cX5_apart 26 = .ok (.invokestatic 130, 3) := by decide +kernel
theorem dX5_apart_29 : decode cX5_apart 29 = .ok (.ifCond .ne 5, 3) := by decide +kernel
theorem dX5_apart_32 : decode cX5_apart 32 = .ok (.iconst (-1), 1) := by decide +kernel
theorem dX5_apart_33 : decode cX5_apart 33 = .ok (.ireturn, 1) := by decide +kernel
theorem dX5_apart_34 : decode cX5_apart 34 = .ok (.aload_n 0, 1) := by decide +kernel
theorem dX5_apart_35 : decode cX5_apart 35 = .ok (.iload_n 1, 1) := by decide +kernel
theorem dX5_apart_36 : decode cX5_apart 36 = .ok (.iload_n 2, 1) := by decide +kernel
theorem dX5_apart_37 : decode cX5_apart 37 = .ok (.iload_n 3, 1) := by decide +kernel
theorem dX5_apart_38 : decode cX5_apart 38 = .ok (.iload 4, 2) := by decide +kernel
theorem dX5_apart_40 : decode cX5_apart 40 = .ok (.invokevirtual 233, 3) := by decide +kernel
theorem dX5_apart_43 : decode cX5_apart 43 = .ok (.ireturn, 1) := by decide +kernel
set_option maxRecDepth 20000 in
theorem ggX5_follow_X5_isWay : GoodIn wsX5_follow wsX5_isWay := goodIn_r _ [5, 6, 7, 50, 51, 52, 53, 54, 55, 56, 57, 58, 59, 60, 61, 62, 63, 64, 65, 66, 67, 68, 69, 70, 71, 72, 73, 74, 75, 76, 77] (by decide +kernel) (by decide +kernel)
set_option maxRecDepth 20000 in
theorem gX5_follow_X5_isWay : GoodIn wsX5_follow (wsV RX5 115 RX5 yX5_isWay wsX5_isWay) := goodIn_app (goodIn_of _ (by decide +kernel)) ggX5_follow_X5_isWay
set_option maxRecDepth 20000 in
theorem ggX5_follow_X5_isStall : GoodIn wsX5_follow wsX5_isStall := goodIn_r _ [11, 6, 12, 50, 51, 52, 53, 54, 55, 56, 57, 58, 59, 60, 61, 62, 63, 64, 65, 66, 67, 68, 69, 70, 71, 72, 73, 74, 75, 76, 77] (by decide +kernel) (by decide +kernel)
set_option maxRecDepth 20000 in
theorem gX5_follow_X5_isStall : GoodIn wsX5_follow (wsV RX5 95 RX5 yX5_isStall wsX5_isStall) := goodIn_app (goodIn_of _ (by decide +kernel)) ggX5_follow_X5_isStall
set_option maxRecDepth 20000 in
theorem ggX5_follow_X5_distance : GoodIn wsX5_follow wsX5_distance := goodIn_r _ [16, 6, 17, 18, 19, 20, 21, 22, 23, 24, 25, 26, 27, 28, 29, 30, 31, 32, 33, 34, 35, 36, 37, 38, 39, 40, 41, 42, 43, 44, 45, 46, 47, 48, 49, 50, 51, 52, 53, 54, 55, 56, 57, 58, 59, 60, 61, 62, 63, 64, 65, 66, 67, 68, 69, 70, 71, 72, 73, 74, 75, 76, 77] (by decide +kernel) (by decide +kernel)
set_option maxRecDepth 20000 in
theorem gX5_follow_X5_distance : GoodIn wsX5_follow (wsV RX5 233 RX5 yX5_distance wsX5_distance) := goodIn_app (goodIn_of _ (by decide +kernel)) ggX5_follow_X5_distance
theorem dX5_follow_0 : decode cX5_follow 0 = .ok (.aload_n 0, 1) := by decide +kernel
theorem dX5_follow_1 : decode cX5_follow 1 = .ok (.iload_n 1, 1) := by decide +kernel
theorem dX5_follow_2 : decode cX5_follow 2 = .ok (.invokevirtual 115, 3) := by decide +kernel
theorem dX5_follow_5 : decode cX5_follow 5 = .ok (.ifCond .eq 19, 3) := by decide +kernel
theorem dX5_follow_8 : decode cX5_follow 8 = .ok (.aload_n 0, 1) := by decide +kernel
theorem dX5_follow_9 : decode cX5_follow 9 = .ok (.iload_n 2, 1) := by decide +kernel
theorem dX5_follow_10 : decode cX5_follow 10 = .ok (.invokevirtual 115, 3) := by decide +kernel
theorem dX5_follow_13 : decode cX5_follow 13 = .ok (.ifCond .eq 11, 3) := by decide +kernel
theorem dX5_follow_16 : decode cX5_follow 16 = .ok (.aload_n 0, 1) := by decide +kernel
theorem dX5_follow_17 : decode cX5_follow 17 = .ok (.iload_n 3, 1) := by decide +kernel
theorem dX5_follow_18 : decode cX5_follow 18 = .ok (.invokevirtual 95, 3) := by decide +kernel
theorem dX5_follow_21 : decode cX5_follow 21 = .ok (.ifCond .ne 5, 3) := by decide +kernel
theorem dX5_follow_24 : decode cX5_follow 24 = .ok (.iconst (-1), 1) := by decide +kernel
theorem dX5_follow_25 : decode cX5_follow 25 = .ok (.ireturn, 1) := by decide +kernel
theorem dX5_follow_26 : decode cX5_follow 26 = .ok (.bipush (-9), 2) := by decide +kernel
theorem dX5_follow_28 : decode cX5_follow 28 = .ok (.istore 4, 2) := by decide +kernel
theorem dX5_follow_30 : decode cX5_follow 30 = .ok (.iconst 0, 1) := by decide +kernel
theorem dX5_follow_31 : decode cX5_follow 31 = .ok (.istore 5, 2) := by decide +kernel
theorem dX5_follow_33 : decode cX5_follow 33 = .ok (.iconst 0, 1) := by decide +kernel
theorem dX5_follow_34 : decode cX5_follow 34 = .ok (.istore 6, 2) := by decide +kernel
theorem dX5_follow_36 : decode cX5_follow 36 = .ok (.iload 6, 2) := by decide +kernel
theorem dX5_follow_38 : decode cX5_follow 38 = .ok (.iconst 4, 1) := by decide +kernel
theorem dX5_follow_39 : decode cX5_follow 39 = .ok (.if_icmp .ge 35, 3) := by decide +kernel
theorem dX5_follow_42 : decode cX5_follow 42 = .ok (.aload_n 0, 1) := by decide +kernel
theorem dX5_follow_43 : decode cX5_follow 43 = .ok (.iload_n 1, 1) := by decide +kernel
theorem dX5_follow_44 : decode cX5_follow 44 = .ok (.iload_n 2, 1) := by decide +kernel
theorem dX5_follow_45 : decode cX5_follow 45 = .ok (.iload_n 3, 1) := by decide +kernel
theorem dX5_follow_46 : decode cX5_follow 46 = .ok (.iload 6, 2) := by decide +kernel
theorem dX5_follow_48 : decode cX5_follow 48 = .ok (.invokevirtual 233, 3) := by decide +kernel
theorem dX5_follow_51 : decode cX5_follow 51 = .ok (.istore 7, 2) := by decide +kernel
theorem dX5_follow_53 : decode cX5_follow 53 = .ok (.iload 7, 2) := by decide +kernel
theorem dX5_follow_55 : decode cX5_follow 55 = .ok (.iload 5, 2) := by decide +kernel
theorem dX5_follow_57 : decode cX5_follow 57 = .ok (.if_icmp .le 11, 3) := by decide +kernel
theorem dX5_follow_60 : decode cX5_follow 60 = .ok (.iload 6, 2) := by decide +kernel
theorem dX5_follow_62 : decode cX5_follow 62 = .ok (.istore 4, 2) := by decide +kernel
theorem dX5_follow_64 : decode cX5_follow 64 = .ok (.iload 7, 2) := by decide +kernel
theorem dX5_follow_66 : decode cX5_follow 66 = .ok (.istore 5, 2) := by decide +kernel
theorem dX5_follow_68 : decode cX5_follow 68 = .ok (.iinc 6 1, 3) := by decide +kernel
theorem dX5_follow_71 : decode cX5_follow 71 = .ok (.goto (-35), 3) := by decide +kernel
theorem dX5_follow_74 : decode cX5_follow 74 = .ok (.iload 4, 2) := by decide +kernel
theorem dX5_follow_76 : decode cX5_follow 76 = .ok (.ireturn, 1) := by decide +kernel
set_option maxRecDepth 20000 in
theorem ggX5_bar_X4_mayBe : GoodIn wsX5_bar wsX4_mayBe := goodIn_r _ [6, 7, 8] (by decide +kernel) (by decide +kernel)
set_option maxRecDepth 20000 in
theorem gX5_bar_X4_mayBe : GoodIn wsX5_bar (wsV RX5 236 RX4 yX4_mayBe wsX4_mayBe) := goodIn_app (goodIn_of _ (by decide +kernel)) ggX5_bar_X4_mayBe
set_option maxRecDepth 20000 in
theorem ggX5_bar_X4_change : GoodIn wsX5_bar wsX4_change := goodIn_r _ [12, 13, 14, 15, 16, 5, 17, 18, 19, 20, 21, 22, 23, 24, 25, 26, 27, 28, 29, 30, 31, 32, 33, 34, 51, 52, 53] (by decide +kernel) (by decide +kernel)
set_option maxRecDepth 20000 in
theorem gX5_bar_X4_change : GoodIn wsX5_bar (wsV RX5 240 RX4 yX4_change wsX4_change) := goodIn_app (goodIn_of _ (by decide +kernel)) ggX5_bar_X4_change
theorem dX5_bar_0 : decode cX5_bar 0 = .ok (.aload_n 0, 1) := by decide +kernel
theorem dX5_bar_1 : decode cX5_bar 1 = .ok (.getfield 64, 3) := by decide +kernel
theorem dX5_bar_4 : decode cX5_bar 4 = .ok (.iload_n 1, 1) := by decide +kernel
theorem dX5_bar_5 : decode cX5_bar 5 = .ok (.iload_n 2, 1) := by decide +kernel
theorem dX5_bar_6 : decode cX5_bar 6 = .ok (.invokevirtual 236, 3) := by decide +kernel
theorem dX5_bar_9 : decode cX5_bar 9 = .ok (.ifCond .ne 5, 3) := by decide +kernel
theorem dX5_bar_12 : decode cX5_bar 12 = .ok (.iconst (-1), 1) := by decide +kernel
theorem dX5_bar_13 : decode cX5_bar 13 = .ok (.ireturn, 1) := by decide +kernel
theorem dX5_bar_14 : decode cX5_bar 14 = .ok (.aload_n 0, 1) := by decide +kernel
theorem dX5_bar_15 : decode cX5_bar 15 = .ok (.getfield 64, 3) := by decide +kernel
theorem dX5_bar_18 : decode cX5_bar 18 = .ok (.iload_n 1, 1) := by decide +kernel
theorem dX5_bar_19 : decode cX5_bar 19 = .ok (.iload_n 2, 1) := by decide +kernel
theorem dX5_bar_20 : decode cX5_bar 20 = .ok (.invokevirtual 240, 3) := by decide +kernel
theorem dX5_bar_23 : decode cX5_bar 23 = .ok (.ireturn, 1) := by decide +kernel
set_option maxRecDepth 20000 in
theorem ggX5_done_X4_knows : GoodIn wsX5_done wsX4_knows := goodIn_r _ [6, 7, 29, 30, 31] (by decide +kernel) (by decide +kernel)
set_option maxRecDepth 20000 in
theorem gX5_done_X4_knows : GoodIn wsX5_done (wsV RX5 243 RX4 yX4_knows wsX4_knows) := goodIn_app (goodIn_of _ (by decide +kernel)) ggX5_done_X4_knows
set_option maxRecDepth 20000 in
theorem ggX5_done_X4_choiceAt : GoodIn wsX5_done wsX4_choiceAt := goodIn_r _ [11, 12, 29, 30, 31] (by decide +kernel) (by decide +kernel)
set_option maxRecDepth 20000 in
theorem gX5_done_X4_choiceAt : GoodIn wsX5_done (wsV RX5 246 RX4 yX4_choiceAt wsX4_choiceAt) := goodIn_app (goodIn_of _ (by decide +kernel)) ggX5_done_X4_choiceAt
theorem dX5_done_0 : decode cX5_done 0 = .ok (.aload_n 0, 1) := by decide +kernel
theorem dX5_done_1 : decode cX5_done 1 = .ok (.getfield 64, 3) := by decide +kernel
theorem dX5_done_4 : decode cX5_done 4 = .ok (.iload_n 1, 1) := by decide +kernel
theorem dX5_done_5 : decode cX5_done 5 = .ok (.iload_n 2, 1) := by decide +kernel
theorem dX5_done_6 : decode cX5_done 6 = .ok (.invokevirtual 243, 3) := by decide +kernel
theorem dX5_done_9 : decode cX5_done 9 = .ok (.ifCond .eq 15, 3) := by decide +kernel
theorem dX5_done_12 : decode cX5_done 12 = .ok (.aload_n 0, 1) := by decide +kernel
theorem dX5_done_13 : decode cX5_done 13 = .ok (.getfield 64, 3) := by decide +kernel
theorem dX5_done_16 : decode cX5_done 16 = .ok (.iload_n 1, 1) := by decide +kernel
theorem dX5_done_17 : decode cX5_done 17 = .ok (.iload_n 2, 1) := by decide +kernel
theorem dX5_done_18 : decode cX5_done 18 = .ok (.invokevirtual 246, 3) := by decide +kernel
theorem dX5_done_21 : decode cX5_done 21 = .ok (.goto 4, 3) := by decide +kernel
theorem dX5_done_24 : decode cX5_done 24 = .ok (.iconst (-1), 1) := by decide +kernel
theorem dX5_done_25 : decode cX5_done 25 = .ok (.ireturn, 1) := by decide +kernel
set_option maxRecDepth 20000 in
theorem ggX5_cost_X4_knows : GoodIn wsX5_cost wsX4_knows := goodIn_r _ [7, 8, 30, 31, 32] (by decide +kernel) (by decide +kernel)
set_option maxRecDepth 20000 in
theorem gX5_cost_X4_knows : GoodIn wsX5_cost (wsV RX5 243 RX4 yX4_knows wsX4_knows) := goodIn_app (goodIn_of _ (by decide +kernel)) ggX5_cost_X4_knows
set_option maxRecDepth 20000 in
theorem ggX5_cost_X4_leastAt : GoodIn wsX5_cost wsX4_leastAt := goodIn_r _ [12, 13, 30, 31, 32] (by decide +kernel) (by decide +kernel)
set_option maxRecDepth 20000 in
theorem gX5_cost_X4_leastAt : GoodIn wsX5_cost (wsV RX5 249 RX4 yX4_leastAt wsX4_leastAt) := goodIn_app (goodIn_of _ (by decide +kernel)) ggX5_cost_X4_leastAt
theorem dX5_cost_0 : decode cX5_cost 0 = .ok (.aload_n 0, 1) := by decide +kernel
theorem dX5_cost_1 : decode cX5_cost 1 = .ok (.getfield 64, 3) := by decide +kernel
theorem dX5_cost_4 : decode cX5_cost 4 = .ok (.iload_n 1, 1) := by decide +kernel
theorem dX5_cost_5 : decode cX5_cost 5 = .ok (.iload_n 2, 1) := by decide +kernel
theorem dX5_cost_6 : decode cX5_cost 6 = .ok (.invokevirtual 243, 3) := by decide +kernel
theorem dX5_cost_9 : decode cX5_cost 9 = .ok (.ifCond .eq 15, 3) := by decide +kernel
theorem dX5_cost_12 : decode cX5_cost 12 = .ok (.aload_n 0, 1) := by decide +kernel
theorem dX5_cost_13 : decode cX5_cost 13 = .ok (.getfield 64, 3) := by decide +kernel
theorem dX5_cost_16 : decode cX5_cost 16 = .ok (.iload_n 1, 1) := by decide +kernel
theorem dX5_cost_17 : decode cX5_cost 17 = .ok (.iload_n 2, 1) := by decide +kernel
theorem dX5_cost_18 : decode cX5_cost 18 = .ok (.invokevirtual 249, 3) := by decide +kernel
theorem dX5_cost_21 : decode cX5_cost 21 = .ok (.goto 6, 3) := by decide +kernel
theorem dX5_cost_24 : decode cX5_cost 24 = .ok (.ldc2_w 164, 3) := by decide +kernel
theorem dX5_cost_27 : decode cX5_cost 27 = .ok (.lreturn, 1) := by decide +kernel
set_option maxRecDepth 20000 in
theorem ggX5_enough_X4_lastToGoOn : GoodIn wsX5_enough wsX4_lastToGoOn := goodIn_r _ [6, 7, 8, 9, 10, 5, 11, 12, 37, 38, 39] (by decide +kernel) (by decide +kernel)
set_option maxRecDepth 20000 in
theorem gX5_enough_X4_lastToGoOn : GoodIn wsX5_enough (wsV RX5 252 RX4 yX4_lastToGoOn wsX4_lastToGoOn) := goodIn_app (goodIn_of _ (by decide +kernel)) ggX5_enough_X4_lastToGoOn
set_option maxRecDepth 20000 in
theorem ggX5_enough_X4_knows : GoodIn wsX5_enough wsX4_knows := goodIn_r _ [16, 7, 37, 38, 39] (by decide +kernel) (by decide +kernel)
set_option maxRecDepth 20000 in
theorem gX5_enough_X4_knows : GoodIn wsX5_enough (wsV RX5 243 RX4 yX4_knows wsX4_knows) := goodIn_app (goodIn_of _ (by decide +kernel)) ggX5_enough_X4_knows
set_option maxRecDepth 20000 in
theorem ggX5_enough_X4_leastToAccuse : GoodIn wsX5_enough wsX4_leastToAccuse := goodIn_r _ [20, 8, 9, 10, 5, 11, 12, 37, 38, 39] (by decide +kernel) (by decide +kernel)
set_option maxRecDepth 20000 in
theorem gX5_enough_X4_leastToAccuse : GoodIn wsX5_enough (wsV RX5 256 RX4 yX4_leastToAccuse wsX4_leastToAccuse) := goodIn_app (goodIn_of _ (by decide +kernel)) ggX5_enough_X4_leastToAccuse
theorem dX5_enough_0 : decode cX5_enough 0 = .ok (.iload_n 1, 1) := by decide +kernel
theorem dX5_enough_1 : decode cX5_enough 1 = .ok (.iconst (-1), 1) := by decide +kernel
theorem dX5_enough_2 : decode cX5_enough 2 = .ok (.if_icmp .ne 11, 3) := by decide +kernel
theorem dX5_enough_5 : decode cX5_enough 5 = .ok (.aload_n 0, 1) := by decide +kernel
theorem dX5_enough_6 : decode cX5_enough 6 = .ok (.getfield 64, 3) := by decide +kernel
theorem dX5_enough_9 : decode cX5_enough 9 = .ok (.invokevirtual 252, 3) := by decide +kernel
theorem dX5_enough_12 : decode cX5_enough 12 = .ok (.ireturn, 1) := by decide +kernel
theorem dX5_enough_13 : decode cX5_enough 13 = .ok (.aload_n 0, 1) := by decide +kernel
theorem dX5_enough_14 : decode cX5_enough 14 = .ok (.getfield 64, 3) := by decide +kernel
theorem dX5_enough_17 : decode cX5_enough 17 = .ok (.iload_n 1, 1) := by decide +kernel
theorem dX5_enough_18 : decode cX5_enough 18 = .ok (.iconst 0, 1) := by decide +kernel
theorem dX5_enough_19 : decode cX5_enough 19 = .ok (.invokevirtual 243, 3) := by decide +kernel
theorem dX5_enough_22 : decode cX5_enough 22 = .ok (.ifCond .eq 14, 3) := by decide +kernel
theorem dX5_enough_25 : decode cX5_enough 25 = .ok (.aload_n 0, 1) := by decide +kernel
theorem dX5_enough_26 : decode cX5_enough 26 = .ok (.getfield 64, 3) := by decide +kernel
theorem dX5_enough_29 : decode cX5_enough 29 = .ok (.iload_n 1, 1) := by decide +kernel
theorem dX5_enough_30 : decode cX5_enough 30 = .ok (.invokevirtual 256, 3) := by decide +kernel
theorem dX5_enough_33 : decode cX5_enough 33 = .ok (.goto 4, 3) := by decide +kernel
theorem dX5_enough_36 : decode cX5_enough 36 = .ok (.iconst (-1), 1) := by decide +kernel
theorem dX5_enough_37 : decode cX5_enough 37 = .ok (.ireturn, 1) := by decide +kernel
set_option maxRecDepth 20000 in
theorem ggX5_year_X5_isStall : GoodIn wsX5_year wsX5_isStall := goodIn_r _ [10, 3, 11, 48, 49, 50, 51, 52, 53, 54, 55, 56, 57, 58, 59, 60, 61, 62, 63, 64, 65, 66, 67, 68, 69, 70, 71, 72, 73, 74, 75] (by decide +kernel) (by decide +kernel)
set_option maxRecDepth 20000 in
theorem gX5_year_X5_isStall : GoodIn wsX5_year (wsV RX5 95 RX5 yX5_isStall wsX5_isStall) := goodIn_app (goodIn_of _ (by decide +kernel)) ggX5_year_X5_isStall
set_option maxRecDepth 20000 in
theorem ggX5_year_X5_within : GoodIn wsX5_year wsX5_within := goodIn_r _ [14] (by decide +kernel) (by decide +kernel)
set_option maxRecDepth 20000 in
theorem gX5_year_X5_within : GoodIn wsX5_year (va_wsS RX5 77 yX5_within wsX5_within) := goodIn_app (goodIn_of _ (by decide +kernel)) ggX5_year_X5_within
set_option maxRecDepth 20000 in
theorem ggX5_year_X5_isPart : GoodIn wsX5_year wsX5_isPart := goodIn_r _ [17] (by decide +kernel) (by decide +kernel)
set_option maxRecDepth 20000 in
theorem gX5_year_X5_isPart : GoodIn wsX5_year (va_wsS RX5 213 yX5_isPart wsX5_isPart) := goodIn_app (goodIn_of _ (by decide +kernel)) ggX5_year_X5_isPart
set_option maxRecDepth 20000 in
theorem ggX5_year_X0_bagsOf : GoodIn wsX5_year wsX0_bagsOf := goodIn_r _ [22, 23, 24, 25, 26, 21, 27, 28, 29, 76, 77, 78, 79, 80, 81, 82, 83, 84, 85, 86, 87, 88, 89, 90] (by decide +kernel) (by decide +kernel)
set_option maxRecDepth 20000 in
theorem gX5_year_X0_bagsOf : GoodIn wsX5_year (wsV RX5 108 RX0 yX0_bagsOf wsX0_bagsOf) := goodIn_app (goodIn_of _ (by decide +kernel)) ggX5_year_X0_bagsOf
set_option maxRecDepth 20000 in
theorem ggX5_year_X0_shortsAboveNone : GoodIn wsX5_year wsX0_shortsAboveNone := goodIn_r _ [33, 23, 34, 35, 36, 37, 38, 24, 25, 26, 21, 27, 28, 29, 76, 77, 78, 79, 80, 81, 82, 83, 84, 85, 86, 87, 88, 89, 90] (by decide +kernel) (by decide +kernel)
set_option maxRecDepth 20000 in
theorem gX5_year_X0_shortsAboveNone : GoodIn wsX5_year (wsV RX5 259 RX0 yX0_shortsAboveNone wsX0_shortsAboveNone) := goodIn_app (goodIn_of _ (by decide +kernel)) ggX5_year_X0_shortsAboveNone
set_option maxRecDepth 20000 in
theorem ggX5_year_X5_inLeastTerms : GoodIn wsX5_year wsX5_inLeastTerms := goodIn_r _ [41, 42, 43, 37, 44, 1, 45, 46, 9, 47] (by decide +kernel) (by decide +kernel)
set_option maxRecDepth 20000 in
theorem gX5_year_X5_inLeastTerms : GoodIn wsX5_year (va_wsS RX5 222 yX5_inLeastTerms wsX5_inLeastTerms) := goodIn_app (goodIn_of _ (by decide +kernel)) ggX5_year_X5_inLeastTerms
theorem dX5_year_0 : decode cX5_year 0 = .ok (.aload_n 0, 1) := by decide +kernel
theorem dX5_year_1 : decode cX5_year 1 = .ok (.iload_n 1, 1) := by decide +kernel
theorem dX5_year_2 : decode cX5_year 2 = .ok (.invokevirtual 95, 3) := by decide +kernel
theorem dX5_year_5 : decode cX5_year 5 = .ok (.ifCond .eq 21, 3) := by decide +kernel
theorem dX5_year_8 : decode cX5_year 8 = .ok (.iload_n 2, 1) := by decide +kernel
theorem dX5_year_9 : decode cX5_year 9 = .ok (.iconst 0, 1) := by decide +kernel
theorem dX5_year_10 : decode cX5_year 10 = .ok (.sipush 9999, 3) := by decide +kernel
theorem dX5_year_13 : decode cX5_year 13 = .ok (.invokestatic 77, 3) := by decide +kernel
theorem dX5_year_16 : decode cX5_year 16 = .ok (.ifCond .eq 10, 3) := by decide +kernel
theorem dX5_year_19 : decode cX5_year 19 = .ok (.iload_n 3, 1) := by decide +kernel
theorem dX5_year_20 : decode cX5_year 20 = .ok (.invokestatic 213, 3) := by decide +kernel
theorem dX5_year_23 : decode cX5_year 23 = .ok (.ifCond .ne 7, 3) := by decide +kernel
theorem dX5_year_26 : decode cX5_year 26 = .ok (.ldc2_w 164, 3) := by decide +kernel
theorem dX5_year_29 : decode cX5_year 29 = .ok (.lreturn, 1) := by decide +kernel
theorem dX5_year_30 : decode cX5_year 30 = .ok (.aload_n 0, 1) := by decide +kernel
theorem dX5_year_31 : decode cX5_year 31 = .ok (.getfield 38, 3) := by decide +kernel
theorem dX5_year_34 : decode cX5_year 34 = .ok (.iload_n 1, 1) := by decide +kernel
theorem dX5_year_35 : decode cX5_year 35 = .ok (.bipush 15, 2) := by decide +kernel
theorem dX5_year_37 : decode cX5_year 37 = .ok (.invokevirtual 108, 3) := by decide +kernel
theorem dX5_year_40 : decode cX5_year 40 = .ok (.istore 4, 2) := by decide +kernel
theorem dX5_year_42 : decode cX5_year 42 = .ok (.iload 4, 2) := by decide +kernel
theorem dX5_year_44 : decode cX5_year 44 = .ok (.ifCond .ne 7, 3) := by decide +kernel
theorem dX5_year_47 : decode cX5_year 47 = .ok (.ldc2_w 164, 3) := by decide +kernel
theorem dX5_year_50 : decode cX5_year 50 = .ok (.lreturn, 1) := by decide +kernel
theorem dX5_year_51 : decode cX5_year 51 = .ok (.aload_n 0, 1) := by decide +kernel
theorem dX5_year_52 : decode cX5_year 52 = .ok (.getfield 38, 3) := by decide +kernel
theorem dX5_year_55 : decode cX5_year 55 = .ok (.iload_n 1, 1) := by decide +kernel
theorem dX5_year_56 : decode cX5_year 56 = .ok (.invokevirtual 259, 3) := by decide +kernel
theorem dX5_year_59 : decode cX5_year 59 = .ok (.i2l, 1) := by decide +kernel
theorem dX5_year_60 : decode cX5_year 60 = .ok (.aload_n 0, 1) := by decide +kernel
theorem dX5_year_61 : decode cX5_year 61 = .ok (.getfield 16, 3) := by decide +kernel
theorem dX5_year_64 : decode cX5_year 64 = .ok (.getfield 105, 3) := by decide +kernel
theorem dX5_year_67 : decode cX5_year 67 = .ok (.iload_n 1, 1) := by decide +kernel
theorem dX5_year_68 : decode cX5_year 68 = .ok (.iaload, 1) := by decide +kernel
theorem dX5_year_69 : decode cX5_year 69 = .ok (.i2l, 1) := by decide +kernel
theorem dX5_year_70 : decode cX5_year 70 = .ok (.lmul, 1) := by decide +kernel
theorem dX5_year_71 : decode cX5_year 71 = .ok (.iload_n 2, 1) := by decide +kernel
theorem dX5_year_72 : decode cX5_year 72 = .ok (.i2l, 1) := by decide +kernel
theorem dX5_year_73 : decode cX5_year 73 = .ok (.lmul, 1) := by decide +kernel
theorem dX5_year_74 : decode cX5_year 74 = .ok (.lstore 5, 2) := by decide +kernel
theorem dX5_year_76 : decode cX5_year 76 = .ok (.lload 5, 2) := by decide +kernel
theorem dX5_year_78 : decode cX5_year 78 = .ok (.ldc2_w 262, 3) := by decide +kernel
theorem dX5_year_81 : decode cX5_year 81 = .ok (.iload 4, 2) := by decide +kernel
theorem dX5_year_83 : decode cX5_year 83 = .ok (.i2l, 1) := by decide +kernel
theorem dX5_year_84 : decode cX5_year 84 = .ok (.lmul, 1) := by decide +kernel
theorem dX5_year_85 : decode cX5_year 85 = .ok (.iload_n 3, 1) := by decide +kernel
theorem dX5_year_86 : decode cX5_year 86 = .ok (.invokestatic 222, 3) := by decide +kernel
theorem dX5_year_89 : decode cX5_year 89 = .ok (.lreturn, 1) := by decide +kernel
set_option maxRecDepth 20000 in
theorem ggX5_truly_X5_isStall : GoodIn wsX5_truly wsX5_isStall := goodIn_r _ [6, 7, 8, 50, 51, 52, 53, 54, 55, 56, 57, 58, 59, 60, 61, 62, 63, 64, 65, 66, 67, 68, 69, 70, 71, 72, 73, 74, 75, 76, 77] (by decide +kernel) (by decide +kernel)
set_option maxRecDepth 20000 in
theorem gX5_truly_X5_isStall : GoodIn wsX5_truly (wsV RX5 95 RX5 yX5_isStall wsX5_isStall) := goodIn_app (goodIn_of _ (by decide +kernel)) ggX5_truly_X5_isStall
set_option maxRecDepth 20000 in
theorem ggX5_truly_X5_isPart : GoodIn wsX5_truly wsX5_isPart := goodIn_r _ [11] (by decide +kernel) (by decide +kernel)
set_option maxRecDepth 20000 in
theorem gX5_truly_X5_isPart : GoodIn wsX5_truly (va_wsS RX5 213 yX5_isPart wsX5_isPart) := goodIn_app (goodIn_of _ (by decide +kernel)) ggX5_truly_X5_isPart
set_option maxRecDepth 20000 in
theorem ggX5_truly_X5_trulyGiven : GoodIn wsX5_truly wsX5_trulyGiven := goodIn_r _ [15, 16, 17, 18, 19, 20, 21, 22, 23, 24, 25, 26, 27, 28, 29, 30, 31, 32, 33, 34, 50, 51, 52, 53, 54, 55, 56, 57, 58, 59, 60, 61, 62, 63, 64, 65, 78, 79, 80, 81, 82, 83, 84, 85, 86, 87, 88, 89, 90, 91, 92] (by decide +kernel) (by decide +kernel)
set_option maxRecDepth 20000 in
theorem gX5_truly_X5_trulyGiven : GoodIn wsX5_truly (wsV RX5 264 RX5 yX5_trulyGiven wsX5_trulyGiven) := goodIn_app (goodIn_of _ (by decide +kernel)) ggX5_truly_X5_trulyGiven
set_option maxRecDepth 20000 in
theorem ggX5_truly_X5_paidFor : GoodIn wsX5_truly wsX5_paidFor := goodIn_r _ [38, 7, 39, 16, 17, 18, 19, 20, 21, 22, 23, 24, 25, 26, 27, 28, 29, 50, 51, 52, 53, 54, 55, 56, 57, 58, 59, 60, 61, 62, 63, 64, 65, 66, 67, 68, 69, 70, 71, 72, 73, 74, 75, 76, 77, 78, 79, 80, 81, 82, 83, 84, 85, 86, 87, 88, 89, 90, 91, 92] (by decide +kernel) (by decide +kernel)
set_option maxRecDepth 20000 in
theorem gX5_truly_X5_paidFor : GoodIn wsX5_truly (wsV RX5 267 RX5 yX5_paidFor wsX5_paidFor) := goodIn_app (goodIn_of _ (by decide +kernel)) ggX5_truly_X5_paidFor
set_option maxRecDepth 20000 in
theorem ggX5_truly_X5_inLeastTerms : GoodIn wsX5_truly wsX5_inLeastTerms := goodIn_r _ [42, 43, 44, 45, 46, 1, 47, 48, 5, 49] (by decide +kernel) (by decide +kernel)
set_option maxRecDepth 20000 in
theorem gX5_truly_X5_inLeastTerms : GoodIn wsX5_truly (va_wsS RX5 222 yX5_inLeastTerms wsX5_inLeastTerms) := goodIn_app (goodIn_of _ (by decide +kernel)) ggX5_truly_X5_inLeastTerms
theorem dX5_truly_0 : decode cX5_truly 0 = .ok (.aload_n 0, 1) := by decide +kernel
theorem dX5_truly_1 : decode cX5_truly 1 = .ok (.iload_n 1, 1) := by decide +kernel
theorem dX5_truly_2 : decode cX5_truly 2 = .ok (.invokevirtual 95, 3) := by decide +kernel
theorem dX5_truly_5 : decode cX5_truly 5 = .ok (.ifCond .eq 20, 3) := by decide +kernel
theorem dX5_truly_8 : decode cX5_truly 8 = .ok (.iload_n 2, 1) := by decide +kernel
theorem dX5_truly_9 : decode cX5_truly 9 = .ok (.invokestatic 213, 3) := by decide +kernel
theorem dX5_truly_12 : decode cX5_truly 12 = .ok (.ifCond .eq 13, 3) := by decide +kernel
theorem dX5_truly_15 : decode cX5_truly 15 = .ok (.aload_n 0, 1) := by decide +kernel
theorem dX5_truly_16 : decode cX5_truly 16 = .ok (.iload_n 1, 1) := by decide +kernel
theorem dX5_truly_17 : decode cX5_truly 17 = .ok (.invokevirtual 264, 3) := by decide +kernel
theorem dX5_truly_20 : decode cX5_truly 20 = .ok (.lconst 0, 1) := by decide +kernel
theorem dX5_truly_21 : decode cX5_truly 21 = .ok (.lcmp, 1) := by decide +kernel
theorem dX5_truly_22 : decode cX5_truly 22 = .ok (.ifCond .gt 7, 3) := by decide +kernel
theorem dX5_truly_25 : decode cX5_truly 25 = .ok (.ldc2_w 164, 3) := by decide +kernel
theorem dX5_truly_28 : decode cX5_truly 28 = .ok (.lreturn, 1) := by decide +kernel
theorem dX5_truly_29 : decode cX5_truly 29 = .ok (.aload_n 0, 1) := by decide +kernel
theorem dX5_truly_30 : decode cX5_truly 30 = .ok (.iload_n 1, 1) := by decide +kernel
theorem dX5_truly_31 : decode cX5_truly 31 = .ok (.invokevirtual 267, 3) := by decide +kernel
theorem dX5_truly_34 : decode cX5_truly 34 = .ok (.aload_n 0, 1) := by decide +kernel
theorem dX5_truly_35 : decode cX5_truly 35 = .ok (.iload_n 1, 1) := by decide +kernel
theorem dX5_truly_36 : decode cX5_truly 36 = .ok (.invokevirtual 264, 3) := by decide +kernel
theorem dX5_truly_39 : decode cX5_truly 39 = .ok (.iload_n 2, 1) := by decide +kernel
theorem dX5_truly_40 : decode cX5_truly 40 = .ok (.invokestatic 222, 3) := by decide +kernel
theorem dX5_truly_43 : decode cX5_truly 43 = .ok (.lreturn, 1) := by decide +kernel
set_option maxRecDepth 20000 in
theorem ggX5_cheap_X5_paidFor : GoodIn wsX5_cheap wsX5_paidFor := goodIn_r _ [7, 1, 8, 9, 10, 11, 12, 13, 14, 15, 16, 17, 18, 19, 20, 21, 22, 32, 33, 34, 35, 36, 37, 38, 39, 40, 41, 42, 43, 44, 45, 46, 47, 48, 49, 50, 51, 52, 53, 54, 55, 56, 57, 58, 59, 60, 61, 62, 63, 64, 65, 66, 67, 68, 69, 70, 71, 72, 73, 74] (by decide +kernel) (by decide +kernel)
set_option maxRecDepth 20000 in
theorem gX5_cheap_X5_paidFor : GoodIn wsX5_cheap (wsV RX5 267 RX5 yX5_paidFor wsX5_paidFor) := goodIn_app (goodIn_of _ (by decide +kernel)) ggX5_cheap_X5_paidFor
set_option maxRecDepth 20000 in
theorem ggX5_cheap_X5_trulyGiven : GoodIn wsX5_cheap wsX5_trulyGiven := goodIn_r _ [26, 9, 10, 11, 12, 13, 14, 15, 16, 17, 18, 19, 20, 21, 22, 27, 28, 29, 30, 31, 32, 33, 34, 35, 36, 37, 38, 39, 40, 41, 42, 43, 44, 45, 46, 47, 60, 61, 62, 63, 64, 65, 66, 67, 68, 69, 70, 71, 72, 73, 74] (by decide +kernel) (by decide +kernel)
set_option maxRecDepth 20000 in
theorem gX5_cheap_X5_trulyGiven : GoodIn wsX5_cheap (wsV RX5 264 RX5 yX5_trulyGiven wsX5_trulyGiven) := goodIn_app (goodIn_of _ (by decide +kernel)) ggX5_cheap_X5_trulyGiven
theorem dX5_cheap_0 : decode cX5_cheap 0 = .ok (.bipush (-9), 2) := by decide +kernel
theorem dX5_cheap_2 : decode cX5_cheap 2 = .ok (.istore_n 1, 1) := by decide +kernel
theorem dX5_cheap_3 : decode cX5_cheap 3 = .ok (.lconst 0, 1) := by decide +kernel
theorem dX5_cheap_4 : decode cX5_cheap 4 = .ok (.lstore_n 2, 1) := by decide +kernel
theorem dX5_cheap_5 : decode cX5_cheap 5 = .ok (.lconst 1, 1) := by decide +kernel
theorem dX5_cheap_6 : decode cX5_cheap 6 = .ok (.lstore 4, 2) := by decide +kernel
theorem dX5_cheap_8 : decode cX5_cheap 8 = .ok (.iconst 0, 1) := by decide +kernel
theorem dX5_cheap_9 : decode cX5_cheap 9 = .ok (.istore 6, 2) := by decide +kernel
theorem dX5_cheap_11 : decode cX5_cheap 11 = .ok (.iload 6, 2) := by decide +kernel
theorem dX5_cheap_13 : decode cX5_cheap 13 = .ok (.aload_n 0, 1) := by decide +kernel
theorem dX5_cheap_14 : decode cX5_cheap 14 = .ok (.getfield 16, 3) := by decide +kernel
theorem dX5_cheap_17 : decode cX5_cheap 17 = .ok (.getfield 270, 3) := by decide +kernel
theorem dX5_cheap_20 : decode cX5_cheap 20 = .ok (.if_icmp .ge 61, 3) := by decide +kernel
theorem dX5_cheap_23 : decode cX5_cheap 23 = .ok (.aload_n 0, 1) := by decide +kernel
theorem dX5_cheap_24 : decode cX5_cheap 24 = .ok (.iload 6, 2) := by decide +kernel
theorem dX5_cheap_26 : decode cX5_cheap 26 = .ok (.invokevirtual 267, 3) := by decide +kernel
theorem dX5_cheap_29 : decode cX5_cheap 29 = .ok (.lstore 7, 2) := by decide +kernel
theorem dX5_cheap_31 : decode cX5_cheap 31 = .ok (.aload_n 0, 1) := by decide +kernel
theorem dX5_cheap_32 : decode cX5_cheap 32 = .ok (.iload 6, 2) := by decide +kernel
theorem dX5_cheap_34 : decode cX5_cheap 34 = .ok (.invokevirtual 264, 3) := by decide +kernel
theorem dX5_cheap_37 : decode cX5_cheap 37 = .ok (.lstore 9, 2) := by decide +kernel
theorem dX5_cheap_39 : decode cX5_cheap 39 = .ok (.lload 9, 2) := by decide +kernel
theorem dX5_cheap_41 : decode cX5_cheap 41 = .ok (.lconst 0, 1) := by decide +kernel
theorem dX5_cheap_42 : decode cX5_cheap 42 = .ok (.lcmp, 1) := by decide +kernel
theorem dX5_cheap_43 : decode cX5_cheap 43 = .ok (.ifCond .le 32, 3) := by decide +kernel
theorem dX5_cheap_46 : decode cX5_cheap 46 = .ok (.iload_n 1, 1) := by decide +kernel
theorem dX5_cheap_47 : decode cX5_cheap 47 = .ok (.bipush (-9), 2) := by decide +kernel
theorem dX5_cheap_49 : decode cX5_cheap 49 = .ok (.if_icmp .eq 16, 3) := by decide +kernel
theorem dX5_cheap_52 : decode cX5_cheap 52 = .ok (.lload 7, 2) := by decide +kernel
theorem dX5_cheap_54 : decode cX5_cheap 54 = .ok (.lload 4, 2) := by decide +kernel
theorem dX5_cheap_56 : decode cX5_cheap 56 = .ok (.lmul, 1) := by decide +kernel
theorem dX5_cheap_57 : decode cX5_cheap 57 = .ok (.lload_n 2, 1) := by decide +kernel
theorem dX5_cheap_58 : decode cX5_cheap 58 = .ok (.lload 9, 2) := by decide +kernel
theorem dX5_cheap_60 : decode cX5_cheap 60 = .ok (.lmul, 1) := by decide +kernel
theorem dX5_cheap_61 : decode cX5_cheap 61 = .ok (.lcmp, 1) := by decide +kernel
theorem dX5_cheap_62 : decode cX5_cheap 62 = .ok (.ifCond .ge 13, 3) := by decide +kernel
theorem dX5_cheap_65 : decode cX5_cheap 65 = .ok (.iload 6, 2) := by decide +kernel
theorem dX5_cheap_67 : decode cX5_cheap 67 = .ok (.istore_n 1, 1) := by decide +kernel
theorem dX5_cheap_68 : decode cX5_cheap 68 = .ok (.lload 7, 2) := by decide +kernel
theorem dX5_cheap_70 : decode cX5_cheap 70 = .ok (.lstore_n 2, 1) := by decide +kernel
theorem dX5_cheap_71 : decode cX5_cheap 71 = .ok (.lload 9, 2) := by decide +kernel
theorem dX5_cheap_73 : decode cX5_cheap 73 = .ok (.lstore 4, 2) := by decide +kernel
theorem dX5_cheap_75 : decode cX5_cheap 75 = .ok (.iinc 6 1, 3) := by decide +kernel
theorem dX5_cheap_78 : decode cX5_cheap 78 = .ok (.goto (-67), 3) := by decide +kernel
theorem dX5_cheap_81 : decode cX5_cheap 81 = .ok (.iload_n 1, 1) := by decide +kernel
theorem dX5_cheap_82 : decode cX5_cheap 82 = .ok (.ireturn, 1) := by decide +kernel
set_option maxRecDepth 20000 in
theorem ggX5_favoured_X5_isStall : GoodIn wsX5_favoured wsX5_isStall := goodIn_r _ [6, 7, 8, 26, 27, 28, 29, 30, 31, 32, 33, 34, 35, 36, 37, 38, 39, 40, 41, 42, 43, 44, 45, 46, 47, 48, 49, 50, 51, 52, 53] (by decide +kernel) (by decide +kernel)
set_option maxRecDepth 20000 in
theorem gX5_favoured_X5_isStall : GoodIn wsX5_favoured (wsV RX5 95 RX5 yX5_isStall wsX5_isStall) := goodIn_app (goodIn_of _ (by decide +kernel)) ggX5_favoured_X5_isStall
set_option maxRecDepth 20000 in
theorem ggX5_favoured_X0_bagsOf : GoodIn wsX5_favoured wsX0_bagsOf := goodIn_r _ [13, 14, 15, 16, 17, 12, 18, 19, 20, 54, 55, 56, 57, 58, 59, 60, 61, 62, 63, 64, 65, 66, 67, 68] (by decide +kernel) (by decide +kernel)
set_option maxRecDepth 20000 in
theorem gX5_favoured_X0_bagsOf : GoodIn wsX5_favoured (wsV RX5 108 RX0 yX0_bagsOf wsX0_bagsOf) := goodIn_app (goodIn_of _ (by decide +kernel)) ggX5_favoured_X0_bagsOf
set_option maxRecDepth 20000 in
theorem ggX5_favoured_X0_shortsOf : GoodIn wsX5_favoured wsX0_shortsOf := goodIn_r _ [24, 14, 25, 15, 16, 17, 12, 18, 19, 20, 54, 55, 56, 57, 58, 59, 60, 61, 62, 63, 64, 65, 66, 67, 68] (by decide +kernel) (by decide +kernel)
set_option maxRecDepth 20000 in
theorem gX5_favoured_X0_shortsOf : GoodIn wsX5_favoured (wsV RX5 273 RX0 yX0_shortsOf wsX0_shortsOf) := goodIn_app (goodIn_of _ (by decide +kernel)) ggX5_favoured_X0_shortsOf
theorem dX5_favoured_0 : decode cX5_favoured 0 = .ok (.aload_n 0, 1) := by decide +kernel
theorem dX5_favoured_1 : decode cX5_favoured 1 = .ok (.iload_n 1, 1) := by decide +kernel
theorem dX5_favoured_2 : decode cX5_favoured 2 = .ok (.invokevirtual 95, 3) := by decide +kernel
theorem dX5_favoured_5 : decode cX5_favoured 5 = .ok (.ifCond .ne 5, 3) := by decide +kernel
theorem dX5_favoured_8 : decode cX5_favoured 8 = .ok (.iconst (-1), 1) := by decide +kernel
theorem dX5_favoured_9 : decode cX5_favoured 9 = .ok (.ireturn, 1) := by decide +kernel
theorem dX5_favoured_10 : decode cX5_favoured 10 = .ok (.bipush (-9), 2) := by decide +kernel
theorem dX5_favoured_12 : decode cX5_favoured 12 = .ok (.istore_n 2, 1) := by decide +kernel
theorem dX5_favoured_13 : decode cX5_favoured 13 = .ok (.lconst 0, 1) := by decide +kernel
theorem dX5_favoured_14 : decode cX5_favoured 14 = .ok (.lstore_n 3, 1) := by decide +kernel
theorem dX5_favoured_15 : decode cX5_favoured 15 = .ok (.lconst 1, 1) := by decide +kernel
theorem dX5_favoured_16 : decode cX5_favoured 16 = .ok (.lstore 5, 2) := by decide +kernel
theorem dX5_favoured_18 : decode cX5_favoured 18 = .ok (.iconst 0, 1) := by decide +kernel
theorem dX5_favoured_19 : decode cX5_favoured 19 = .ok (.istore 7, 2) := by decide +kernel
theorem dX5_favoured_21 : decode cX5_favoured 21 = .ok (.iload 7, 2) := by decide +kernel
theorem dX5_favoured_23 : decode cX5_favoured 23 = .ok (.iconst 4, 1) := by decide +kernel
theorem dX5_favoured_24 : decode cX5_favoured 24 = .ok (.if_icmp .ge 75, 3) := by decide +kernel
theorem dX5_favoured_27 : decode cX5_favoured 27 = .ok (.aload_n 0, 1) := by decide +kernel
theorem dX5_favoured_28 : decode cX5_favoured 28 = .ok (.getfield 38, 3) := by decide +kernel
theorem dX5_favoured_31 : decode cX5_favoured 31 = .ok (.iload_n 1, 1) := by decide +kernel
theorem dX5_favoured_32 : decode cX5_favoured 32 = .ok (.iconst 1, 1) := by decide +kernel
theorem dX5_favoured_33 : decode cX5_favoured 33 = .ok (.iload 7, 2) := by decide +kernel
theorem dX5_favoured_35 : decode cX5_favoured 35 = .ok (.ishl, 1) := by decide +kernel
theorem dX5_favoured_36 : decode cX5_favoured 36 = .ok (.invokevirtual 108, 3) := by decide +kernel
theorem dX5_favoured_39 : decode cX5_favoured 39 = .ok (.i2l, 1) := by decide +kernel
theorem dX5_favoured_40 : decode cX5_favoured 40 = .ok (.lstore 8, 2) := by decide +kernel
theorem dX5_favoured_42 : decode cX5_favoured 42 = .ok (.aload_n 0, 1) := by decide +kernel
theorem dX5_favoured_43 : decode cX5_favoured 43 = .ok (.getfield 38, 3) := by decide +kernel
theorem dX5_favoured_46 : decode cX5_favoured 46 = .ok (.iload_n 1, 1) := by decide +kernel
theorem dX5_favoured_47 : decode cX5_favoured 47 = .ok (.iconst 1, 1) := by decide +kernel
theorem dX5_favoured_48 : decode cX5_favoured 48 = .ok (.iload 7, 2) := by decide +kernel
theorem dX5_favoured_50 : decode cX5_favoured 50 = .ok (.ishl, 1) := by decide +kernel
theorem dX5_favoured_51 : decode cX5_favoured 51 = .ok (.invokevirtual 273, 3) := by decide +kernel
theorem dX5_favoured_54 : decode cX5_favoured 54 = .ok (.i2l, 1) := by decide +kernel
theorem dX5_favoured_55 : decode cX5_favoured 55 = .ok (.lstore 10, 2) := by decide +kernel
theorem dX5_favoured_57 : decode cX5_favoured 57 = .ok (.lload 8, 2) := by decide +kernel
theorem dX5_favoured_59 : decode cX5_favoured 59 = .ok (.lconst 0, 1) := by decide +kernel
theorem dX5_favoured_60 : decode cX5_favoured 60 = .ok (.lcmp, 1) := by decide +kernel
theorem dX5_favoured_61 : decode cX5_favoured 61 = .ok (.ifCond .le 32, 3) := by decide +kernel
theorem dX5_favoured_64 : decode cX5_favoured 64 = .ok (.iload_n 2, 1) := by decide +kernel
theorem dX5_favoured_65 : decode cX5_favoured 65 = .ok (.bipush (-9), 2) := by decide +kernel
theorem dX5_favoured_67 : decode cX5_favoured 67 = .ok (.if_icmp .eq 16, 3) := by decide +kernel
theorem dX5_favoured_70 : decode cX5_favoured 70 = .ok (.lload 10, 2) := by decide +kernel
theorem dX5_favoured_72 : decode cX5_favoured 72 = .ok (.lload 5, 2) := by decide +kernel
theorem dX5_favoured_74 : decode cX5_favoured 74 = .ok (.lmul, 1) := by decide +kernel
theorem dX5_favoured_75 : decode cX5_favoured 75 = .ok (.lload_n 3, 1) := by decide +kernel
theorem dX5_favoured_76 : decode cX5_favoured 76 = .ok (.lload 8, 2) := by decide +kernel
theorem dX5_favoured_78 : decode cX5_favoured 78 = .ok (.lmul, 1) := by decide +kernel
theorem dX5_favoured_79 : decode cX5_favoured 79 = .ok (.lcmp, 1) := by decide +kernel
theorem dX5_favoured_80 : decode cX5_favoured 80 = .ok (.ifCond .ge 13, 3) := by decide +kernel
theorem dX5_favoured_83 : decode cX5_favoured 83 = .ok (.iload 7, 2) := by decide +kernel
theorem dX5_favoured_85 : decode cX5_favoured 85 = .ok (.istore_n 2, 1) := by decide +kernel
theorem dX5_favoured_86 : decode cX5_favoured 86 = .ok (.lload 10, 2) := by decide +kernel
theorem dX5_favoured_88 : decode cX5_favoured 88 = .ok (.lstore_n 3, 1) := by decide +kernel
theorem dX5_favoured_89 : decode cX5_favoured 89 = .ok (.lload 8, 2) := by decide +kernel
theorem dX5_favoured_91 : decode cX5_favoured 91 = .ok (.lstore 5, 2) := by decide +kernel
theorem dX5_favoured_93 : decode cX5_favoured 93 = .ok (.iinc 7 1, 3) := by decide +kernel
theorem dX5_favoured_96 : decode cX5_favoured 96 = .ok (.goto (-75), 3) := by decide +kernel
theorem dX5_favoured_99 : decode cX5_favoured 99 = .ok (.iload_n 2, 1) := by decide +kernel
theorem dX5_favoured_100 : decode cX5_favoured 100 = .ok (.ireturn, 1) := by decide +kernel
set_option maxRecDepth 20000 in
theorem ggX5_even_X5_isStall : GoodIn wsX5_even wsX5_isStall := goodIn_r _ [12, 5, 13, 47, 48, 49, 50, 51, 52, 53, 54, 55, 56, 57, 58, 59, 60, 61, 62, 63, 64, 65, 66, 67, 68, 69, 70, 71, 72, 73, 74] (by decide +kernel) (by decide +kernel)
set_option maxRecDepth 20000 in
theorem gX5_even_X5_isStall : GoodIn wsX5_even (wsV RX5 95 RX5 yX5_isStall wsX5_isStall) := goodIn_app (goodIn_of _ (by decide +kernel)) ggX5_even_X5_isStall
set_option maxRecDepth 20000 in
theorem ggX5_even_X5_within : GoodIn wsX5_even wsX5_within := goodIn_r _ [16] (by decide +kernel) (by decide +kernel)
set_option maxRecDepth 20000 in
theorem gX5_even_X5_within : GoodIn wsX5_even (va_wsS RX5 77 yX5_within wsX5_within) := goodIn_app (goodIn_of _ (by decide +kernel)) ggX5_even_X5_within
set_option maxRecDepth 20000 in
theorem ggX5_even_X0_bagsOf : GoodIn wsX5_even wsX0_bagsOf := goodIn_r _ [21, 22, 23, 24, 25, 20, 26, 27, 28, 75, 76, 77, 78, 79, 80, 81, 82, 83, 84, 85, 86, 87, 88, 89] (by decide +kernel) (by decide +kernel)
set_option maxRecDepth 20000 in
theorem gX5_even_X0_bagsOf : GoodIn wsX5_even (wsV RX5 108 RX0 yX0_bagsOf wsX0_bagsOf) := goodIn_app (goodIn_of _ (by decide +kernel)) ggX5_even_X0_bagsOf
set_option maxRecDepth 20000 in
theorem ggX5_even_X0_justBagsOf : GoodIn wsX5_even wsX0_justBagsOf := goodIn_r _ [32, 22, 33, 23, 24, 25, 20, 26, 27, 28, 75, 76, 77, 78, 79, 80, 81, 82, 83, 84, 85, 86, 87, 88, 89] (by decide +kernel) (by decide +kernel)
set_option maxRecDepth 20000 in
theorem gX5_even_X0_justBagsOf : GoodIn wsX5_even (wsV RX5 276 RX0 yX0_justBagsOf wsX0_justBagsOf) := goodIn_app (goodIn_of _ (by decide +kernel)) ggX5_even_X0_justBagsOf
set_option maxRecDepth 20000 in
theorem ggX5_even_X1_withAtLeast : GoodIn wsX5_even wsX1_withAtLeast := goodIn_r _ [38, 39, 40, 41, 42, 37, 43, 90] (by decide +kernel) (by decide +kernel)
set_option maxRecDepth 20000 in
theorem gX5_even_X1_withAtLeast : GoodIn wsX5_even (wsV RX5 184 RX1 yX1_withAtLeast wsX1_withAtLeast) := goodIn_app (goodIn_of _ (by decide +kernel)) ggX5_even_X1_withAtLeast
set_option maxRecDepth 20000 in
theorem ggX5_even_X5_power : GoodIn wsX5_even wsX5_power := goodIn_r _ [46] (by decide +kernel) (by decide +kernel)
set_option maxRecDepth 20000 in
theorem gX5_even_X5_power : GoodIn wsX5_even (va_wsS RX5 194 yX5_power wsX5_power) := goodIn_app (goodIn_of _ (by decide +kernel)) ggX5_even_X5_power
theorem dX5_even_0 : decode cX5_even 0 = .ok (.aload_n 0, 1) := by decide +kernel
theorem dX5_even_1 : decode cX5_even 1 = .ok (.iload_n 1, 1) := by decide +kernel
theorem dX5_even_2 : decode cX5_even 2 = .ok (.invokevirtual 95, 3) := by decide +kernel
theorem dX5_even_5 : decode cX5_even 5 = .ok (.ifCond .eq 12, 3) := by decide +kernel
theorem dX5_even_8 : decode cX5_even 8 = .ok (.iload_n 2, 1) := by decide +kernel
theorem dX5_even_9 : decode cX5_even 9 = .ok (.iconst 0, 1) := by decide +kernel
theorem dX5_even_10 : decode cX5_even 10 = .ok (.iconst 2, 1) := by decide +kernel
theorem dX5_even_11 : decode cX5_even 11 = .ok (.invokestatic 77, 3) := by decide +kernel
theorem dX5_even_14 : decode cX5_even 14 = .ok (.ifCond .ne 7, 3) := by decide +kernel
theorem dX5_even_17 : decode cX5_even 17 = .ok (.ldc2_w 177, 3) := by decide +kernel
theorem dX5_even_20 : decode cX5_even 20 = .ok (.lreturn, 1) := by decide +kernel
theorem dX5_even_21 : decode cX5_even 21 = .ok (.aload_n 0, 1) := by decide +kernel
theorem dX5_even_22 : decode cX5_even 22 = .ok (.getfield 38, 3) := by decide +kernel
theorem dX5_even_25 : decode cX5_even 25 = .ok (.iload_n 1, 1) := by decide +kernel
theorem dX5_even_26 : decode cX5_even 26 = .ok (.bipush 15, 2) := by decide +kernel
theorem dX5_even_28 : decode cX5_even 28 = .ok (.invokevirtual 108, 3) := by decide +kernel
theorem dX5_even_31 : decode cX5_even 31 = .ok (.istore_n 3, 1) := by decide +kernel
theorem dX5_even_32 : decode cX5_even 32 = .ok (.iload_n 3, 1) := by decide +kernel
theorem dX5_even_33 : decode cX5_even 33 = .ok (.bipush 18, 2) := by decide +kernel
theorem dX5_even_35 : decode cX5_even 35 = .ok (.if_icmp .le 7, 3) := by decide +kernel
theorem dX5_even_38 : decode cX5_even 38 = .ok (.ldc2_w 179, 3) := by decide +kernel
theorem dX5_even_41 : decode cX5_even 41 = .ok (.lreturn, 1) := by decide +kernel
theorem dX5_even_42 : decode cX5_even 42 = .ok (.aload_n 0, 1) := by decide +kernel
theorem dX5_even_43 : decode cX5_even 43 = .ok (.getfield 38, 3) := by decide +kernel
theorem dX5_even_46 : decode cX5_even 46 = .ok (.iload_n 1, 1) := by decide +kernel
theorem dX5_even_47 : decode cX5_even 47 = .ok (.invokevirtual 276, 3) := by decide +kernel
theorem dX5_even_50 : decode cX5_even 50 = .ok (.istore 4, 2) := by decide +kernel
theorem dX5_even_52 : decode cX5_even 52 = .ok (.iload_n 2, 1) := by decide +kernel
theorem dX5_even_53 : decode cX5_even 53 = .ok (.lookupswitch 53 #[(0, 27), (1, 45)], 27) := by decide +kernel
theorem dX5_even_80 : decode cX5_even 80 = .ok (.aload_n 0, 1) := by decide +kernel
theorem dX5_even_81 : decode cX5_even 81 = .ok (.getfield 57, 3) := by decide +kernel
theorem dX5_even_84 : decode cX5_even 84 = .ok (.iload 4, 2) := by decide +kernel
theorem dX5_even_86 : decode cX5_even 86 = .ok (.iload_n 3, 1) := by decide +kernel
theorem dX5_even_87 : decode cX5_even 87 = .ok (.aload_n 0, 1) := by decide +kernel
theorem dX5_even_88 : decode cX5_even 88 = .ok (.getfield 16, 3) := by decide +kernel
theorem dX5_even_91 : decode cX5_even 91 = .ok (.getfield 279, 3) := by decide +kernel
theorem dX5_even_94 : decode cX5_even 94 = .ok (.invokevirtual 184, 3) := by decide +kernel
theorem dX5_even_97 : decode cX5_even 97 = .ok (.lreturn, 1) := by decide +kernel
theorem dX5_even_98 : decode cX5_even 98 = .ok (.ldc2_w 192, 3) := by decide +kernel
theorem dX5_even_101 : decode cX5_even 101 = .ok (.iload_n 3, 1) := by decide +kernel
theorem dX5_even_102 : decode cX5_even 102 = .ok (.invokestatic 194, 3) := by decide +kernel
theorem dX5_even_105 : decode cX5_even 105 = .ok (.lreturn, 1) := by decide +kernel
theorem dX5_even_106 : decode cX5_even 106 = .ok (.iload 4, 2) := by decide +kernel
theorem dX5_even_108 : decode cX5_even 108 = .ok (.i2l, 1) := by decide +kernel
theorem dX5_even_109 : decode cX5_even 109 = .ok (.lreturn, 1) := by decide +kernel
set_option maxRecDepth 20000 in
theorem ggX5_trial_X5_isStall : GoodIn wsX5_trial wsX5_isStall := goodIn_r _ [10, 11, 12, 23, 24, 25, 26, 27, 28, 29, 30, 31, 32, 33, 34, 35, 36, 37, 38, 54, 55, 56, 57, 58, 59, 60, 61, 62, 63, 64, 65] (by decide +kernel) (by decide +kernel)
set_option maxRecDepth 20000 in
theorem gX5_trial_X5_isStall : GoodIn wsX5_trial (wsV RX5 95 RX5 yX5_isStall wsX5_isStall) := goodIn_app (goodIn_of _ (by decide +kernel)) ggX5_trial_X5_isStall
set_option maxRecDepth 20000 in
theorem ggX5_trial_X5_within : GoodIn wsX5_trial wsX5_within := goodIn_r _ [15] (by decide +kernel) (by decide +kernel)
set_option maxRecDepth 20000 in
theorem gX5_trial_X5_within : GoodIn wsX5_trial (va_wsS RX5 77 yX5_within wsX5_within) := goodIn_app (goodIn_of _ (by decide +kernel)) ggX5_trial_X5_within
set_option maxRecDepth 20000 in
theorem ggX5_trial_X0_trialsOf : GoodIn wsX5_trial wsX0_trialsOf := goodIn_r _ [20, 21, 22, 39, 40, 41, 42, 43, 44, 45, 46, 47, 48, 49, 50, 51, 52, 53] (by decide +kernel) (by decide +kernel)
set_option maxRecDepth 20000 in
theorem gX5_trial_X0_trialsOf : GoodIn wsX5_trial (wsV RX5 112 RX0 yX0_trialsOf wsX0_trialsOf) := goodIn_app (goodIn_of _ (by decide +kernel)) ggX5_trial_X0_trialsOf
theorem dX5_trial_0 : decode cX5_trial 0 = .ok (.aload_n 0, 1) := by decide +kernel
theorem dX5_trial_1 : decode cX5_trial 1 = .ok (.iload_n 1, 1) := by decide +kernel
theorem dX5_trial_2 : decode cX5_trial 2 = .ok (.invokevirtual 95, 3) := by decide +kernel
theorem dX5_trial_5 : decode cX5_trial 5 = .ok (.ifCond .eq 37, 3) := by decide +kernel
theorem dX5_trial_8 : decode cX5_trial 8 = .ok (.iload_n 2, 1) := by decide +kernel
theorem dX5_trial_9 : decode cX5_trial 9 = .ok (.iconst 0, 1) := by decide +kernel
theorem dX5_trial_10 : decode cX5_trial 10 = .ok (.sipush 365, 3) := by decide +kernel
theorem dX5_trial_13 : decode cX5_trial 13 = .ok (.invokestatic 77, 3) := by decide +kernel
theorem dX5_trial_16 : decode cX5_trial 16 = .ok (.ifCond .eq 26, 3) := by decide +kernel
theorem dX5_trial_19 : decode cX5_trial 19 = .ok (.iload_n 3, 1) := by decide +kernel
theorem dX5_trial_20 : decode cX5_trial 20 = .ok (.iconst 1, 1) := by decide +kernel
theorem dX5_trial_21 : decode cX5_trial 21 = .ok (.sipush 999, 3) := by decide +kernel
theorem dX5_trial_24 : decode cX5_trial 24 = .ok (.invokestatic 77, 3) := by decide +kernel
theorem dX5_trial_27 : decode cX5_trial 27 = .ok (.ifCond .eq 15, 3) := by decide +kernel
theorem dX5_trial_30 : decode cX5_trial 30 = .ok (.iload 4, 2) := by decide +kernel
theorem dX5_trial_32 : decode cX5_trial 32 = .ok (.iconst 0, 1) := by decide +kernel
theorem dX5_trial_33 : decode cX5_trial 33 = .ok (.sipush 999, 3) := by decide +kernel
theorem dX5_trial_36 : decode cX5_trial 36 = .ok (.invokestatic 77, 3) := by decide +kernel
theorem dX5_trial_39 : decode cX5_trial 39 = .ok (.ifCond .ne 5, 3) := by decide +kernel
theorem dX5_trial_42 : decode cX5_trial 42 = .ok (.iconst (-1), 1) := by decide +kernel
theorem dX5_trial_43 : decode cX5_trial 43 = .ok (.ireturn, 1) := by decide +kernel
theorem dX5_trial_44 : decode cX5_trial 44 = .ok (.aload_n 0, 1) := by decide +kernel
theorem dX5_trial_45 : decode cX5_trial 45 = .ok (.getfield 38, 3) := by decide +kernel
theorem dX5_trial_48 : decode cX5_trial 48 = .ok (.getfield 282, 3) := by decide +kernel
theorem dX5_trial_51 : decode cX5_trial 51 = .ok (.bipush 20, 2) := by decide +kernel
theorem dX5_trial_53 : decode cX5_trial 53 = .ok (.if_icmp .lt 6, 3) := by decide +kernel
theorem dX5_trial_56 : decode cX5_trial 56 = .ok (.bipush (-3), 2) := by decide +kernel
theorem dX5_trial_58 : decode cX5_trial 58 = .ok (.ireturn, 1) := by decide +kernel
theorem dX5_trial_59 : decode cX5_trial 59 = .ok (.aload_n 0, 1) := by decide +kernel
theorem dX5_trial_60 : decode cX5_trial 60 = .ok (.getfield 38, 3) := by decide +kernel
theorem dX5_trial_63 : decode cX5_trial 63 = .ok (.getfield 285, 3) := by decide +kernel
theorem dX5_trial_66 : decode cX5_trial 66 = .ok (.aload_n 0, 1) := by decide +kernel
theorem dX5_trial_67 : decode cX5_trial 67 = .ok (.getfield 38, 3) := by decide +kernel
theorem dX5_trial_70 : decode cX5_trial 70 = .ok (.getfield 282, 3) := by decide +kernel
theorem dX5_trial_73 : decode cX5_trial 73 = .ok (.iload_n 1, 1) := by decide +kernel
theorem dX5_trial_74 : decode cX5_trial 74 = .ok (.iastore, 1) := by decide +kernel
theorem dX5_trial_75 : decode cX5_trial 75 = .ok (.aload_n 0, 1) := by decide +kernel
theorem dX5_trial_76 : decode cX5_trial 76 = .ok (.getfield 38, 3) := by decide +kernel
theorem dX5_trial_79 : decode cX5_trial 79 = .ok (.getfield 288, 3) := by decide +kernel
theorem dX5_trial_82 : decode cX5_trial 82 = .ok (.aload_n 0, 1) := by decide +kernel
theorem dX5_trial_83 : decode cX5_trial 83 = .ok (.getfield 38, 3) := by decide +kernel
theorem dX5_trial_86 : decode cX5_trial 86 = .ok (.getfield 282, 3) := by decide +kernel
theorem dX5_trial_89 : decode cX5_trial 89 = .ok (.iload_n 2, 1) := by decide +kernel
theorem dX5_trial_90 : decode cX5_trial 90 = .ok (.iastore, 1) := by decide +kernel
theorem dX5_trial_91 : decode cX5_trial 91 = .ok (.aload_n 0, 1) := by decide +kernel
theorem dX5_trial_92 : decode cX5_trial 92 = .ok (.getfield 38, 3) := by decide +kernel
theorem dX5_trial_95 : decode cX5_trial 95 = .ok (.getfield 291, 3) := by decide +kernel
theorem dX5_trial_98 : decode cX5_trial 98 = .ok (.aload_n 0, 1) := by decide +kernel
theorem dX5_trial_99 : decode cX5_trial 99 = .ok (.getfield 38, 3) := by decide +kernel
theorem dX5_trial_102 : decode cX5_trial 102 = .ok (.getfield 282, 3) := by decide +kernel
theorem dX5_trial_105 : decode cX5_trial 105 = .ok (.iload 4, 2) := by decide +kernel
theorem dX5_trial_107 : decode cX5_trial 107 = .ok (.iload_n 3, 1) := by decide +kernel
theorem dX5_trial_108 : decode cX5_trial 108 = .ok (.isub, 1) := by decide +kernel
theorem dX5_trial_109 : decode cX5_trial 109 = .ok (.iastore, 1) := by decide +kernel
theorem dX5_trial_110 : decode cX5_trial 110 = .ok (.aload_n 0, 1) := by decide +kernel
theorem dX5_trial_111 : decode cX5_trial 111 = .ok (.getfield 38, 3) := by decide +kernel
theorem dX5_trial_114 : decode cX5_trial 114 = .ok (.dup, 1) := by decide +kernel
theorem dX5_trial_115 : decode cX5_trial 115 = .ok (.getfield 282, 3) := by decide +kernel
theorem dX5_trial_118 : decode cX5_trial 118 = .ok (.iconst 1, 1) := by decide +kernel
theorem dX5_trial_119 : decode cX5_trial 119 = .ok (.iadd, 1) := by decide +kernel
theorem dX5_trial_120 : decode cX5_trial 120 = .ok (.putfield 282, 3) := by decide +kernel
theorem dX5_trial_123 : decode cX5_trial 123 = .ok (.aload_n 0, 1) := by decide +kernel
theorem dX5_trial_124 : decode cX5_trial 124 = .ok (.getfield 38, 3) := by decide +kernel
theorem dX5_trial_127 : decode cX5_trial 127 = .ok (.iload_n 1, 1) := by decide +kernel
theorem dX5_trial_128 : decode cX5_trial 128 = .ok (.invokevirtual 112, 3) := by decide +kernel
theorem dX5_trial_131 : decode cX5_trial 131 = .ok (.ireturn, 1) := by decide +kernel
set_option maxRecDepth 20000 in
theorem ggX5_middle_X5_isStall : GoodIn wsX5_middle wsX5_isStall := goodIn_r _ [7, 8, 9, 18, 19, 20, 21, 22, 23, 24, 25, 26, 27, 28, 29, 30, 31, 32, 33, 34, 35, 36, 37, 38, 39, 40, 41, 42, 43, 44, 45] (by decide +kernel) (by decide +kernel)
set_option maxRecDepth 20000 in
theorem gX5_middle_X5_isStall : GoodIn wsX5_middle (wsV RX5 95 RX5 yX5_isStall wsX5_isStall) := goodIn_app (goodIn_of _ (by decide +kernel)) ggX5_middle_X5_isStall
set_option maxRecDepth 20000 in
theorem ggX5_middle_X5_sortOffs : GoodIn wsX5_middle wsX5_sortOffs := goodIn_r _ [13, 14, 15, 16, 2, 17, 18, 19, 20, 21, 22, 23, 24, 25, 26, 27, 28, 29, 30, 31, 32, 33, 46, 47, 48, 49, 50, 51, 52, 53, 54, 55, 56, 57, 58, 59, 60] (by decide +kernel) (by decide +kernel)
set_option maxRecDepth 20000 in
theorem gX5_middle_X5_sortOffs : GoodIn wsX5_middle (wsV RX5 294 RX5 yX5_sortOffs wsX5_sortOffs) := goodIn_app (goodIn_of _ (by decide +kernel)) ggX5_middle_X5_sortOffs
theorem dX5_middle_0 : decode cX5_middle 0 = .ok (.aload_n 0, 1) := by decide +kernel
theorem dX5_middle_1 : decode cX5_middle 1 = .ok (.iload_n 1, 1) := by decide +kernel
theorem dX5_middle_2 : decode cX5_middle 2 = .ok (.invokevirtual 95, 3) := by decide +kernel
theorem dX5_middle_5 : decode cX5_middle 5 = .ok (.ifCond .ne 7, 3) := by decide +kernel
theorem dX5_middle_8 : decode cX5_middle 8 = .ok (.ldc2_w 164, 3) := by decide +kernel
theorem dX5_middle_11 : decode cX5_middle 11 = .ok (.lreturn, 1) := by decide +kernel
theorem dX5_middle_12 : decode cX5_middle 12 = .ok (.aload_n 0, 1) := by decide +kernel
theorem dX5_middle_13 : decode cX5_middle 13 = .ok (.iload_n 1, 1) := by decide +kernel
theorem dX5_middle_14 : decode cX5_middle 14 = .ok (.invokevirtual 294, 3) := by decide +kernel
theorem dX5_middle_17 : decode cX5_middle 17 = .ok (.istore_n 2, 1) := by decide +kernel
theorem dX5_middle_18 : decode cX5_middle 18 = .ok (.iload_n 2, 1) := by decide +kernel
theorem dX5_middle_19 : decode cX5_middle 19 = .ok (.ifCond .gt 9, 3) := by decide +kernel
theorem dX5_middle_22 : decode cX5_middle 22 = .ok (.ldc2_w 164, 3) := by decide +kernel
theorem dX5_middle_25 : decode cX5_middle 25 = .ok (.goto 14, 3) := by decide +kernel
theorem dX5_middle_28 : decode cX5_middle 28 = .ok (.aload_n 0, 1) := by decide +kernel
theorem dX5_middle_29 : decode cX5_middle 29 = .ok (.getfield 68, 3) := by decide +kernel
theorem dX5_middle_32 : decode cX5_middle 32 = .ok (.iload_n 2, 1) := by decide +kernel
theorem dX5_middle_33 : decode cX5_middle 33 = .ok (.iconst 1, 1) := by decide +kernel
theorem dX5_middle_34 : decode cX5_middle 34 = .ok (.isub, 1) := by decide +kernel
theorem dX5_middle_35 : decode cX5_middle 35 = .ok (.iconst 2, 1) := by decide +kernel
theorem dX5_middle_36 : decode cX5_middle 36 = .ok (.idiv, 1) := by decide +kernel
theorem dX5_middle_37 : decode cX5_middle 37 = .ok (.iaload, 1) := by decide +kernel
theorem dX5_middle_38 : decode cX5_middle 38 = .ok (.i2l, 1) := by decide +kernel
theorem dX5_middle_39 : decode cX5_middle 39 = .ok (.lreturn, 1) := by decide +kernel
set_option maxRecDepth 20000 in
theorem ggX5_drift_X5_isStall : GoodIn wsX5_drift wsX5_isStall := goodIn_r _ [11, 12, 13, 27, 28, 29, 30, 31, 32, 33, 34, 35, 36, 37, 38, 39, 40, 41, 42, 58, 59, 60, 61, 62, 63, 64, 65, 66, 67, 68, 69] (by decide +kernel) (by decide +kernel)
set_option maxRecDepth 20000 in
theorem gX5_drift_X5_isStall : GoodIn wsX5_drift (wsV RX5 95 RX5 yX5_isStall wsX5_isStall) := goodIn_app (goodIn_of _ (by decide +kernel)) ggX5_drift_X5_isStall
set_option maxRecDepth 20000 in
theorem ggX5_drift_X5_isPart : GoodIn wsX5_drift wsX5_isPart := goodIn_r _ [16] (by decide +kernel) (by decide +kernel)
set_option maxRecDepth 20000 in
theorem gX5_drift_X5_isPart : GoodIn wsX5_drift (va_wsS RX5 213 yX5_isPart wsX5_isPart) := goodIn_app (goodIn_of _ (by decide +kernel)) ggX5_drift_X5_isPart
set_option maxRecDepth 20000 in
theorem ggX5_drift_X5_inLeastTerms : GoodIn wsX5_drift wsX5_inLeastTerms := goodIn_r _ [19, 20, 21, 22, 23, 1, 24, 25, 10, 26] (by decide +kernel) (by decide +kernel)
set_option maxRecDepth 20000 in
theorem gX5_drift_X5_inLeastTerms : GoodIn wsX5_drift (va_wsS RX5 222 yX5_inLeastTerms wsX5_inLeastTerms) := goodIn_app (goodIn_of _ (by decide +kernel)) ggX5_drift_X5_inLeastTerms
theorem dX5_drift_0 : decode cX5_drift 0 = .ok (.aload_n 0, 1) := by decide +kernel
theorem dX5_drift_1 : decode cX5_drift 1 = .ok (.iload_n 1, 1) := by decide +kernel
theorem dX5_drift_2 : decode cX5_drift 2 = .ok (.invokevirtual 95, 3) := by decide +kernel
theorem dX5_drift_5 : decode cX5_drift 5 = .ok (.ifCond .eq 10, 3) := by decide +kernel
theorem dX5_drift_8 : decode cX5_drift 8 = .ok (.iload_n 2, 1) := by decide +kernel
theorem dX5_drift_9 : decode cX5_drift 9 = .ok (.invokestatic 213, 3) := by decide +kernel
theorem dX5_drift_12 : decode cX5_drift 12 = .ok (.ifCond .ne 7, 3) := by decide +kernel
theorem dX5_drift_15 : decode cX5_drift 15 = .ok (.ldc2_w 164, 3) := by decide +kernel
theorem dX5_drift_18 : decode cX5_drift 18 = .ok (.lreturn, 1) := by decide +kernel
theorem dX5_drift_19 : decode cX5_drift 19 = .ok (.lconst 0, 1) := by decide +kernel
theorem dX5_drift_20 : decode cX5_drift 20 = .ok (.lstore_n 3, 1) := by decide +kernel
theorem dX5_drift_21 : decode cX5_drift 21 = .ok (.lconst 0, 1) := by decide +kernel
theorem dX5_drift_22 : decode cX5_drift 22 = .ok (.lstore 5, 2) := by decide +kernel
theorem dX5_drift_24 : decode cX5_drift 24 = .ok (.lconst 0, 1) := by decide +kernel
theorem dX5_drift_25 : decode cX5_drift 25 = .ok (.lstore 7, 2) := by decide +kernel
theorem dX5_drift_27 : decode cX5_drift 27 = .ok (.lconst 0, 1) := by decide +kernel
theorem dX5_drift_28 : decode cX5_drift 28 = .ok (.lstore 9, 2) := by decide +kernel
theorem dX5_drift_30 : decode cX5_drift 30 = .ok (.lconst 0, 1) := by decide +kernel
theorem dX5_drift_31 : decode cX5_drift 31 = .ok (.lstore 11, 2) := by decide +kernel
theorem dX5_drift_33 : decode cX5_drift 33 = .ok (.iconst 0, 1) := by decide +kernel
theorem dX5_drift_34 : decode cX5_drift 34 = .ok (.istore 13, 2) := by decide +kernel
theorem dX5_drift_36 : decode cX5_drift 36 = .ok (.iload 13, 2) := by decide +kernel
theorem dX5_drift_38 : decode cX5_drift 38 = .ok (.aload_n 0, 1) := by decide +kernel
theorem dX5_drift_39 : decode cX5_drift 39 = .ok (.getfield 38, 3) := by decide +kernel
theorem dX5_drift_42 : decode cX5_drift 42 = .ok (.getfield 282, 3) := by decide +kernel
theorem dX5_drift_45 : decode cX5_drift 45 = .ok (.if_icmp .ge 87, 3) := by decide +kernel
theorem dX5_drift_48 : decode cX5_drift 48 = .ok (.aload_n 0, 1) := by decide +kernel
theorem dX5_drift_49 : decode cX5_drift 49 = .ok (.getfield 38, 3) := by decide +kernel
theorem dX5_drift_52 : decode cX5_drift 52 = .ok (.getfield 285, 3) := by decide +kernel
theorem dX5_drift_55 : decode cX5_drift 55 = .ok (.iload 13, 2) := by decide +kernel
theorem dX5_drift_57 : decode cX5_drift 57 = .ok (.iaload, 1) := by decide +kernel
theorem dX5_drift_58 : decode cX5_drift 58 = .ok (.iload_n 1, 1) := by decide +kernel
theorem dX5_drift_59 : decode cX5_drift 59 = .ok (.if_icmp .ne 67, 3) := by decide +kernel
theorem dX5_drift_62 : decode cX5_drift 62 = .ok (.aload_n 0, 1) := by decide +kernel
theorem dX5_drift_63 : decode cX5_drift 63 = .ok (.getfield 38, 3) := by decide +kernel
theorem dX5_drift_66 : decode cX5_drift 66 = .ok (.getfield 288, 3) := by decide +kernel
theorem dX5_drift_69 : decode cX5_drift 69 = .ok (.iload 13, 2) := by decide +kernel
theorem dX5_drift_71 : decode cX5_drift 71 = .ok (.iaload, 1) := by decide +kernel
theorem dX5_drift_72 : decode cX5_drift 72 = .ok (.i2l, 1) := by decide +kernel
theorem dX5_drift_73 : decode cX5_drift 73 = .ok (.lstore 14, 2) := by decide +kernel
theorem dX5_drift_75 : decode cX5_drift 75 = .ok (.aload_n 0, 1) := by decide +kernel
theorem dX5_drift_76 : decode cX5_drift 76 = .ok (.getfield 38, 3) := by decide +kernel
theorem dX5_drift_79 : decode cX5_drift 79 = .ok (.getfield 291, 3) := by decide +kernel
theorem dX5_drift_82 : decode cX5_drift 82 = .ok (.iload 13, 2) := by decide +kernel
theorem dX5_drift_84 : decode cX5_drift 84 = .ok (.iaload, 1) := by decide +kernel
theorem dX5_drift_85 : decode cX5_drift 85 = .ok (.i2l, 1) := by decide +kernel
theorem dX5_drift_86 : decode cX5_drift 86 = .ok (.lstore 16, 2) := by decide +kernel
theorem dX5_drift_88 : decode cX5_drift 88 = .ok (.lload_n 3, 1) := by decide +kernel
theorem dX5_drift_89 : decode cX5_drift 89 = .ok (.lconst 1, 1) := by decide +kernel
theorem dX5_drift_90 : decode cX5_drift 90 = .ok (.ladd, 1) := by decide +kernel
theorem dX5_drift_91 : decode cX5_drift 91 = .ok (.lstore_n 3, 1) := by decide +kernel
theorem dX5_drift_92 : decode cX5_drift 92 = .ok (.lload 5, 2) := by decide +kernel
theorem dX5_drift_94 : decode cX5_drift 94 = .ok (.lload 14, 2) := by decide +kernel
theorem dX5_drift_96 : decode cX5_drift 96 = .ok (.ladd, 1) := by decide +kernel
theorem dX5_drift_97 : decode cX5_drift 97 = .ok (.lstore 5, 2) := by decide +kernel
theorem dX5_drift_99 : decode cX5_drift 99 = .ok (.lload 7, 2) := by decide +kernel
theorem dX5_drift_101 : decode cX5_drift 101 = .ok (.lload 16, 2) := by decide +kernel
theorem dX5_drift_103 : decode cX5_drift 103 = .ok (.ladd, 1) := by decide +kernel
theorem dX5_drift_104 : decode cX5_drift 104 = .ok (.lstore 7, 2) := by decide +kernel
theorem dX5_drift_106 : decode cX5_drift 106 = .ok (.lload 9, 2) := by decide +kernel
theorem dX5_drift_108 : decode cX5_drift 108 = .ok (.lload 14, 2) := by decide +kernel
theorem dX5_drift_110 : decode cX5_drift 110 = .ok (.lload 16, 2) := by decide +kernel
theorem dX5_drift_112 : decode cX5_drift 112 = .ok (.lmul, 1) := by decide +kernel
theorem dX5_drift_113 : decode cX5_drift 113 = .ok (.ladd, 1) := by decide +kernel
theorem dX5_drift_114 : decode cX5_drift 114 = .ok (.lstore 9, 2) := by decide +kernel
theorem dX5_drift_116 : decode cX5_drift 116 = .ok (.lload 11, 2) := by decide +kernel
theorem dX5_drift_118 : decode cX5_drift 118 = .ok (.lload 14, 2) := by decide +kernel
theorem dX5_drift_120 : decode cX5_drift 120 = .ok (.lload 14, 2) := by decide +kernel
theorem dX5_drift_122 : decode cX5_drift 122 = .ok (.lmul, 1) := by decide +kernel
theorem dX5_drift_123 : decode cX5_drift 123 = .ok (.ladd, 1) := by decide +kernel
theorem dX5_drift_124 : decode cX5_drift 124 = .ok (.lstore 11, 2) := by decide +kernel
theorem dX5_drift_126 : decode cX5_drift 126 = .ok (.iinc 13 1, 3) := by decide +kernel
theorem dX5_drift_129 : decode cX5_drift 129 = .ok (.goto (-93), 3) := by decide +kernel
theorem dX5_drift_132 : decode cX5_drift 132 = .ok (.lload_n 3, 1) := by decide +kernel
theorem dX5_drift_133 : decode cX5_drift 133 = .ok (.lload 11, 2) := by decide +kernel
theorem dX5_drift_135 : decode cX5_drift 135 = .ok (.lmul, 1) := by decide +kernel
theorem dX5_drift_136 : decode cX5_drift 136 = .ok (.lload 5, 2) := by decide +kernel
theorem dX5_drift_138 : decode cX5_drift 138 = .ok (.lload 5, 2) := by decide +kernel
theorem dX5_drift_140 : decode cX5_drift 140 = .ok (.lmul, 1) := by decide +kernel
theorem dX5_drift_141 : decode cX5_drift 141 = .ok (.lsub, 1) := by decide +kernel
theorem dX5_drift_142 : decode cX5_drift 142 = .ok (.lstore 13, 2) := by decide +kernel
theorem dX5_drift_144 : decode cX5_drift 144 = .ok (.lload 13, 2) := by decide +kernel
theorem dX5_drift_146 : decode cX5_drift 146 = .ok (.lconst 0, 1) := by decide +kernel
theorem dX5_drift_147 : decode cX5_drift 147 = .ok (.lcmp, 1) := by decide +kernel
theorem dX5_drift_148 : decode cX5_drift 148 = .ok (.ifCond .gt 9, 3) := by decide +kernel
theorem dX5_drift_151 : decode cX5_drift 151 = .ok (.ldc2_w 164, 3) := by decide +kernel
theorem dX5_drift_154 : decode cX5_drift 154 = .ok (.goto 19, 3) := by decide +kernel
theorem dX5_drift_157 : decode cX5_drift 157 = .ok (.lload_n 3, 1) := by decide +kernel
theorem dX5_drift_158 : decode cX5_drift 158 = .ok (.lload 9, 2) := by decide +kernel
theorem dX5_drift_160 : decode cX5_drift 160 = .ok (.lmul, 1) := by decide +kernel
theorem dX5_drift_161 : decode cX5_drift 161 = .ok (.lload 5, 2) := by decide +kernel
theorem dX5_drift_163 : decode cX5_drift 163 = .ok (.lload 7, 2) := by decide +kernel
theorem dX5_drift_165 : decode cX5_drift 165 = .ok (.lmul, 1) := by decide +kernel
theorem dX5_drift_166 : decode cX5_drift 166 = .ok (.lsub, 1) := by decide +kernel
theorem dX5_drift_167 : decode cX5_drift 167 = .ok (.lload 13, 2) := by decide +kernel
theorem dX5_drift_169 : decode cX5_drift 169 = .ok (.iload_n 2, 1) := by decide +kernel
theorem dX5_drift_170 : decode cX5_drift 170 = .ok (.invokestatic 222, 3) := by decide +kernel
theorem dX5_drift_173 : decode cX5_drift 173 = .ok (.lreturn, 1) := by decide +kernel
theorem dX5_lot_0 : decode cX5_lot 0 = .ok (.aload_n 0, 1) := by decide +kernel
theorem dX5_lot_1 : decode cX5_lot 1 = .ok (.getfield 38, 3) := by decide +kernel
theorem dX5_lot_4 : decode cX5_lot 4 = .ok (.getfield 42, 3) := by decide +kernel
theorem dX5_lot_7 : decode cX5_lot 7 = .ok (.istore_n 2, 1) := by decide +kernel
theorem dX5_lot_8 : decode cX5_lot 8 = .ok (.aload_n 0, 1) := by decide +kernel
theorem dX5_lot_9 : decode cX5_lot 9 = .ok (.getfield 38, 3) := by decide +kernel
theorem dX5_lot_12 : decode cX5_lot 12 = .ok (.iload_n 1, 1) := by decide +kernel
theorem dX5_lot_13 : decode cX5_lot 13 = .ok (.putfield 42, 3) := by decide +kernel
theorem dX5_lot_16 : decode cX5_lot 16 = .ok (.iload_n 2, 1) := by decide +kernel
theorem dX5_lot_17 : decode cX5_lot 17 = .ok (.ireturn, 1) := by decide +kernel
set_option maxRecDepth 20000 in
theorem ggX5_sales_X5_isWay : GoodIn wsX5_sales wsX5_isWay := goodIn_r _ [6, 7, 8, 62, 63, 64, 65, 66, 67, 68, 69, 70, 71, 72, 73, 74, 75, 76, 77, 78, 79, 80, 81, 82, 83, 84, 85, 86, 87, 88, 89] (by decide +kernel) (by decide +kernel)
set_option maxRecDepth 20000 in
theorem gX5_sales_X5_isWay : GoodIn wsX5_sales (wsV RX5 115 RX5 yX5_isWay wsX5_isWay) := goodIn_app (goodIn_of _ (by decide +kernel)) ggX5_sales_X5_isWay
set_option maxRecDepth 20000 in
theorem ggX5_sales_X5_isStall : GoodIn wsX5_sales wsX5_isStall := goodIn_r _ [12, 7, 13, 62, 63, 64, 65, 66, 67, 68, 69, 70, 71, 72, 73, 74, 75, 76, 77, 78, 79, 80, 81, 82, 83, 84, 85, 86, 87, 88, 89] (by decide +kernel) (by decide +kernel)
set_option maxRecDepth 20000 in
theorem gX5_sales_X5_isStall : GoodIn wsX5_sales (wsV RX5 95 RX5 yX5_isStall wsX5_isStall) := goodIn_app (goodIn_of _ (by decide +kernel)) ggX5_sales_X5_isStall
set_option maxRecDepth 20000 in
theorem ggX5_sales_X5_isSort : GoodIn wsX5_sales wsX5_isSort := goodIn_r _ [16] (by decide +kernel) (by decide +kernel)
set_option maxRecDepth 20000 in
theorem gX5_sales_X5_isSort : GoodIn wsX5_sales (va_wsS RX5 130 yX5_isSort wsX5_isSort) := goodIn_app (goodIn_of _ (by decide +kernel)) ggX5_sales_X5_isSort
set_option maxRecDepth 20000 in
theorem ggX5_sales_X5_within : GoodIn wsX5_sales wsX5_within := goodIn_r _ [19] (by decide +kernel) (by decide +kernel)
set_option maxRecDepth 20000 in
theorem gX5_sales_X5_within : GoodIn wsX5_sales (va_wsS RX5 77 yX5_within wsX5_within) := goodIn_app (goodIn_of _ (by decide +kernel)) ggX5_sales_X5_within
set_option maxRecDepth 20000 in
theorem ggX5_sales_X5_fillChances : GoodIn wsX5_sales wsX5_fillChances := goodIn_r _ [23, 7, 24, 25, 26, 27, 28, 29, 30, 31, 32, 33, 34, 35, 36, 37, 38, 39, 40, 41, 42, 43, 44, 45, 46, 47, 48, 49, 50, 51, 52, 53, 54, 62, 63, 64, 65, 66, 67, 68, 69, 70, 71, 72, 73, 74, 75, 76, 77, 78, 79, 80, 81, 82, 83, 84, 85, 86, 87, 88, 89] (by decide +kernel) (by decide +kernel)
set_option maxRecDepth 20000 in
theorem gX5_sales_X5_fillChances : GoodIn wsX5_sales (wsV RX5 297 RX5 yX5_fillChances wsX5_fillChances) := goodIn_app (goodIn_of _ (by decide +kernel)) ggX5_sales_X5_fillChances
set_option maxRecDepth 20000 in
theorem ggX5_sales_X5_drawSteps : GoodIn wsX5_sales wsX5_drawSteps := goodIn_r _ [58, 59, 60, 61, 25, 24, 62, 63, 64, 65, 66, 67, 68, 69, 70, 71, 72, 73, 74, 75, 76, 77, 90, 91, 92, 93, 94, 95, 96, 97, 98, 99, 100, 101, 102, 103, 104] (by decide +kernel) (by decide +kernel)
set_option maxRecDepth 20000 in
theorem gX5_sales_X5_drawSteps : GoodIn wsX5_sales (wsV RX5 304 RX5 yX5_drawSteps wsX5_drawSteps) := goodIn_app (goodIn_of _ (by decide +kernel)) ggX5_sales_X5_drawSteps
theorem dX5_sales_0 : decode cX5_sales 0 = .ok (.aload_n 0, 1) := by decide +kernel
theorem dX5_sales_1 : decode cX5_sales 1 = .ok (.iload_n 1, 1) := by decide +kernel
theorem dX5_sales_2 : decode cX5_sales 2 = .ok (.invokevirtual 115, 3) := by decide +kernel
theorem dX5_sales_5 : decode cX5_sales 5 = .ok (.ifCond .eq 30, 3) := by decide +kernel
theorem dX5_sales_8 : decode cX5_sales 8 = .ok (.aload_n 0, 1) := by decide +kernel
theorem dX5_sales_9 : decode cX5_sales 9 = .ok (.iload_n 2, 1) := by decide +kernel
theorem dX5_sales_10 : decode cX5_sales 10 = .ok (.invokevirtual 95, 3) := by decide +kernel
theorem dX5_sales_13 : decode cX5_sales 13 = .ok (.ifCond .eq 22, 3) := by decide +kernel
theorem dX5_sales_16 : decode cX5_sales 16 = .ok (.iload_n 3, 1) := by decide +kernel
theorem dX5_sales_17 : decode cX5_sales 17 = .ok (.invokestatic 130, 3) := by decide +kernel
theorem dX5_sales_20 : decode cX5_sales 20 = .ok (.ifCond .eq 15, 3) := by decide +kernel
theorem dX5_sales_23 : decode cX5_sales 23 = .ok (.iload 4, 2) := by decide +kernel
theorem dX5_sales_25 : decode cX5_sales 25 = .ok (.iconst 1, 1) := by decide +kernel
theorem dX5_sales_26 : decode cX5_sales 26 = .ok (.sipush 200, 3) := by decide +kernel
theorem dX5_sales_29 : decode cX5_sales 29 = .ok (.invokestatic 77, 3) := by decide +kernel
theorem dX5_sales_32 : decode cX5_sales 32 = .ok (.ifCond .ne 5, 3) := by decide +kernel
theorem dX5_sales_35 : decode cX5_sales 35 = .ok (.iconst (-1), 1) := by decide +kernel
theorem dX5_sales_36 : decode cX5_sales 36 = .ok (.ireturn, 1) := by decide +kernel
theorem dX5_sales_37 : decode cX5_sales 37 = .ok (.aload_n 0, 1) := by decide +kernel
theorem dX5_sales_38 : decode cX5_sales 38 = .ok (.iload_n 1, 1) := by decide +kernel
theorem dX5_sales_39 : decode cX5_sales 39 = .ok (.iload_n 2, 1) := by decide +kernel
theorem dX5_sales_40 : decode cX5_sales 40 = .ok (.iload_n 3, 1) := by decide +kernel
theorem dX5_sales_41 : decode cX5_sales 41 = .ok (.invokevirtual 297, 3) := by decide +kernel
theorem dX5_sales_44 : decode cX5_sales 44 = .ok (.istore 5, 2) := by decide +kernel
theorem dX5_sales_46 : decode cX5_sales 46 = .ok (.iconst 0, 1) := by decide +kernel
theorem dX5_sales_47 : decode cX5_sales 47 = .ok (.istore 6, 2) := by decide +kernel
theorem dX5_sales_49 : decode cX5_sales 49 = .ok (.aload_n 0, 1) := by decide +kernel
theorem dX5_sales_50 : decode cX5_sales 50 = .ok (.iconst 0, 1) := by decide +kernel
theorem dX5_sales_51 : decode cX5_sales 51 = .ok (.putfield 301, 3) := by decide +kernel
theorem dX5_sales_54 : decode cX5_sales 54 = .ok (.iconst 0, 1) := by decide +kernel
theorem dX5_sales_55 : decode cX5_sales 55 = .ok (.istore 7, 2) := by decide +kernel
theorem dX5_sales_57 : decode cX5_sales 57 = .ok (.iload 7, 2) := by decide +kernel
theorem dX5_sales_59 : decode cX5_sales 59 = .ok (.iload 4, 2) := by decide +kernel
theorem dX5_sales_61 : decode cX5_sales 61 = .ok (.if_icmp .ge 37, 3) := by decide +kernel
theorem dX5_sales_64 : decode cX5_sales 64 = .ok (.aload_n 0, 1) := by decide +kernel
theorem dX5_sales_65 : decode cX5_sales 65 = .ok (.iload 5, 2) := by decide +kernel
theorem dX5_sales_67 : decode cX5_sales 67 = .ok (.invokevirtual 304, 3) := by decide +kernel
theorem dX5_sales_70 : decode cX5_sales 70 = .ok (.istore 8, 2) := by decide +kernel
theorem dX5_sales_72 : decode cX5_sales 72 = .ok (.aload_n 0, 1) := by decide +kernel
theorem dX5_sales_73 : decode cX5_sales 73 = .ok (.dup, 1) := by decide +kernel
theorem dX5_sales_74 : decode cX5_sales 74 = .ok (.getfield 301, 3) := by decide +kernel
theorem dX5_sales_77 : decode cX5_sales 77 = .ok (.iload 8, 2) := by decide +kernel
theorem dX5_sales_79 : decode cX5_sales 79 = .ok (.iadd, 1) := by decide +kernel
theorem dX5_sales_80 : decode cX5_sales 80 = .ok (.putfield 301, 3) := by decide +kernel
theorem dX5_sales_83 : decode cX5_sales 83 = .ok (.iload 8, 2) := by decide +kernel
theorem dX5_sales_85 : decode cX5_sales 85 = .ok (.iconst 1, 1) := by decide +kernel
theorem dX5_sales_86 : decode cX5_sales 86 = .ok (.if_icmp .lt 6, 3) := by decide +kernel
theorem dX5_sales_89 : decode cX5_sales 89 = .ok (.iinc 6 1, 3) := by decide +kernel
theorem dX5_sales_92 : decode cX5_sales 92 = .ok (.iinc 7 1, 3) := by decide +kernel
theorem dX5_sales_95 : decode cX5_sales 95 = .ok (.goto (-38), 3) := by decide +kernel
theorem dX5_sales_98 : decode cX5_sales 98 = .ok (.iload 6, 2) := by decide +kernel
theorem dX5_sales_100 : decode cX5_sales 100 = .ok (.ireturn, 1) := by decide +kernel
theorem dX5_steps_0 : decode cX5_steps 0 = .ok (.aload_n 0, 1) := by decide +kernel
theorem dX5_steps_1 : decode cX5_steps 1 = .ok (.getfield 301, 3) := by decide +kernel
theorem dX5_steps_4 : decode cX5_steps 4 = .ok (.ireturn, 1) := by decide +kernel
set_option maxRecDepth 20000 in
theorem ggX5_score_X5_isBag : GoodIn wsX5_score wsX5_isBag := goodIn_r _ [6, 7, 8, 52, 53, 54, 55, 56, 57, 58, 59, 60, 61, 62, 63, 64, 65, 66, 67, 68, 69, 70, 71, 72, 73, 74, 75, 76, 77, 78, 79, 80, 81, 82] (by decide +kernel) (by decide +kernel)
set_option maxRecDepth 20000 in
theorem gX5_score_X5_isBag : GoodIn wsX5_score (wsV RX5 161 RX5 yX5_isBag wsX5_isBag) := goodIn_app (goodIn_of _ (by decide +kernel)) ggX5_score_X5_isBag
set_option maxRecDepth 20000 in
theorem ggX5_score_X5_asWay : GoodIn wsX5_score wsX5_asWay := goodIn_r _ [12, 13, 7, 14, 52, 53, 54, 55, 56, 57, 58, 59, 60, 61, 62, 63, 64, 65, 66, 67, 68, 69, 70, 71, 72, 73, 74, 75, 76, 77, 78, 79, 80, 81, 82] (by decide +kernel) (by decide +kernel)
set_option maxRecDepth 20000 in
theorem gX5_score_X5_asWay : GoodIn wsX5_score (wsV RX5 307 RX5 yX5_asWay wsX5_asWay) := goodIn_app (goodIn_of _ (by decide +kernel)) ggX5_score_X5_asWay
set_option maxRecDepth 20000 in
theorem ggX5_score_X5_asHonest : GoodIn wsX5_score wsX5_asHonest := goodIn_r _ [18, 13, 19, 20, 9, 10, 11, 5, 12, 7, 14, 52, 53, 54, 55, 56, 57, 58, 59, 60, 61, 62, 63, 64, 65, 66, 67, 68, 69, 70, 71, 72, 73, 74, 75, 76, 77, 78, 79, 80, 81, 82] (by decide +kernel) (by decide +kernel)
set_option maxRecDepth 20000 in
theorem gX5_score_X5_asHonest : GoodIn wsX5_score (wsV RX5 310 RX5 yX5_asHonest wsX5_asHonest) := goodIn_app (goodIn_of _ (by decide +kernel)) ggX5_score_X5_asHonest
set_option maxRecDepth 20000 in
theorem ggX5_score_X5_asScale : GoodIn wsX5_score wsX5_asScale := goodIn_r _ [24, 13, 25, 26, 27, 7, 28, 9, 10, 11, 5, 12, 14, 52, 53, 54, 55, 56, 57, 58, 59, 60, 61, 62, 63, 64, 65, 66, 67, 83, 84, 85, 86, 87, 88, 89, 90, 91, 92, 93, 94, 68, 69, 70, 71, 72, 73, 74, 75, 76, 77, 78, 79, 80, 81, 82] (by decide +kernel) (by decide +kernel)
set_option maxRecDepth 20000 in
theorem gX5_score_X5_asScale : GoodIn wsX5_score (wsV RX5 313 RX5 yX5_asScale wsX5_asScale) := goodIn_app (goodIn_of _ (by decide +kernel)) ggX5_score_X5_asScale
set_option maxRecDepth 20000 in
theorem ggX5_score_X5_asThumb : GoodIn wsX5_score wsX5_asThumb := goodIn_r _ [32, 13, 33, 20, 9, 10, 11, 5, 12, 7, 14, 52, 53, 54, 55, 56, 57, 58, 59, 60, 61, 62, 63, 64, 65, 66, 67, 68, 69, 70, 71, 72, 73, 74, 75, 76, 77, 78, 79, 80, 81, 82] (by decide +kernel) (by decide +kernel)
set_option maxRecDepth 20000 in
theorem gX5_score_X5_asThumb : GoodIn wsX5_score (wsV RX5 316 RX5 yX5_asThumb wsX5_asThumb) := goodIn_app (goodIn_of _ (by decide +kernel)) ggX5_score_X5_asThumb
set_option maxRecDepth 20000 in
theorem ggX5_score_X5_asChoose : GoodIn wsX5_score wsX5_asChoose := goodIn_r _ [37, 13, 38, 7, 39, 29, 30, 31, 5, 32, 33, 20, 9, 10, 11, 12, 14, 52, 53, 54, 55, 56, 57, 58, 59, 60, 61, 62, 63, 64, 65, 66, 67, 68, 69, 70, 71, 72, 73, 74, 75, 76, 77, 78, 79, 80, 81, 82] (by decide +kernel) (by decide +kernel)
set_option maxRecDepth 20000 in
theorem gX5_score_X5_asChoose : GoodIn wsX5_score (wsV RX5 319 RX5 yX5_asChoose wsX5_asChoose) := goodIn_app (goodIn_of _ (by decide +kernel)) ggX5_score_X5_asChoose
set_option maxRecDepth 20000 in
theorem ggX5_score_X5_asRound : GoodIn wsX5_score wsX5_asRound := goodIn_r _ [43, 13, 44, 7, 45, 9, 10, 11, 5, 12, 14, 52, 53, 54, 55, 56, 57, 58, 59, 60, 61, 62, 63, 64, 65, 66, 67, 68, 69, 70, 71, 72, 73, 74, 75, 76, 77, 78, 79, 80, 81, 82] (by decide +kernel) (by decide +kernel)
set_option maxRecDepth 20000 in
theorem gX5_score_X5_asRound : GoodIn wsX5_score (wsV RX5 322 RX5 yX5_asRound wsX5_asRound) := goodIn_app (goodIn_of _ (by decide +kernel)) ggX5_score_X5_asRound
set_option maxRecDepth 20000 in
theorem ggX5_score_X5_asTold : GoodIn wsX5_score wsX5_asTold := goodIn_r _ [49, 13, 50, 7, 51, 40, 41, 42, 5, 43, 44, 45, 9, 10, 11, 12, 14, 52, 53, 54, 55, 56, 57, 58, 59, 60, 61, 62, 63, 64, 65, 66, 67, 68, 69, 70, 71, 72, 73, 74, 75, 76, 77, 78, 79, 80, 81, 82] (by decide +kernel) (by decide +kernel)
set_option maxRecDepth 20000 in
theorem gX5_score_X5_asTold : GoodIn wsX5_score (wsV RX5 325 RX5 yX5_asTold wsX5_asTold) := goodIn_app (goodIn_of _ (by decide +kernel)) ggX5_score_X5_asTold
theorem dX5_score_0 : decode cX5_score 0 = .ok (.aload_n 0, 1) := by decide +kernel
theorem dX5_score_1 : decode cX5_score 1 = .ok (.iload_n 2, 1) := by decide +kernel
theorem dX5_score_2 : decode cX5_score 2 = .ok (.invokevirtual 161, 3) := by decide +kernel
theorem dX5_score_5 : decode cX5_score 5 = .ok (.ifCond .ne 7, 3) := by decide +kernel
theorem dX5_score_8 : decode cX5_score 8 = .ok (.ldc2_w 164, 3) := by decide +kernel
theorem dX5_score_11 : decode cX5_score 11 = .ok (.lreturn, 1) := by decide +kernel
theorem dX5_score_12 : decode cX5_score 12 = .ok (.iload_n 1, 1) := by decide +kernel
theorem dX5_score_13 : decode cX5_score 13 = .ok (.tableswitch 85 0 6 #[43, 49, 55, 61, 67, 73, 79], 43) := by decide +kernel
theorem dX5_score_56 : decode cX5_score 56 = .ok (.aload_n 0, 1) := by decide +kernel
theorem dX5_score_57 : decode cX5_score 57 = .ok (.iload_n 2, 1) := by decide +kernel
theorem dX5_score_58 : decode cX5_score 58 = .ok (.invokevirtual 307, 3) := by decide +kernel
theorem dX5_score_61 : decode cX5_score 61 = .ok (.lreturn, 1) := by decide +kernel
theorem dX5_score_62 : decode cX5_score 62 = .ok (.aload_n 0, 1) := by decide +kernel
theorem dX5_score_63 : decode cX5_score 63 = .ok (.iload_n 2, 1) := by decide +kernel
theorem dX5_score_64 : decode cX5_score 64 = .ok (.invokevirtual 310, 3) := by decide +kernel
theorem dX5_score_67 : decode cX5_score 67 = .ok (.lreturn, 1) := by decide +kernel
theorem dX5_score_68 : decode cX5_score 68 = .ok (.aload_n 0, 1) := by decide +kernel
theorem dX5_score_69 : decode cX5_score 69 = .ok (.iload_n 2, 1) := by decide +kernel
theorem dX5_score_70 : decode cX5_score 70 = .ok (.invokevirtual 313, 3) := by decide +kernel
theorem dX5_score_73 : decode cX5_score 73 = .ok (.lreturn, 1) := by decide +kernel
theorem dX5_score_74 : decode cX5_score 74 = .ok (.aload_n 0, 1) := by decide +kernel
theorem dX5_score_75 : decode cX5_score 75 = .ok (.iload_n 2, 1) := by decide +kernel
theorem dX5_score_76 : decode cX5_score 76 = .ok (.invokevirtual 316, 3) := by decide +kernel
theorem dX5_score_79 : decode cX5_score 79 = .ok (.lreturn, 1) := by decide +kernel
theorem dX5_score_80 : decode cX5_score 80 = .ok (.aload_n 0, 1) := by decide +kernel
theorem dX5_score_81 : decode cX5_score 81 = .ok (.iload_n 2, 1) := by decide +kernel
theorem dX5_score_82 : decode cX5_score 82 = .ok (.invokevirtual 319, 3) := by decide +kernel
theorem dX5_score_85 : decode cX5_score 85 = .ok (.lreturn, 1) := by decide +kernel
theorem dX5_score_86 : decode cX5_score 86 = .ok (.aload_n 0, 1) := by decide +kernel
theorem dX5_score_87 : decode cX5_score 87 = .ok (.iload_n 2, 1) := by decide +kernel
theorem dX5_score_88 : decode cX5_score 88 = .ok (.invokevirtual 322, 3) := by decide +kernel
theorem dX5_score_91 : decode cX5_score 91 = .ok (.lreturn, 1) := by decide +kernel
theorem dX5_score_92 : decode cX5_score 92 = .ok (.aload_n 0, 1) := by decide +kernel
theorem dX5_score_93 : decode cX5_score 93 = .ok (.iload_n 2, 1) := by decide +kernel
theorem dX5_score_94 : decode cX5_score 94 = .ok (.invokevirtual 325, 3) := by decide +kernel
theorem dX5_score_97 : decode cX5_score 97 = .ok (.lreturn, 1) := by decide +kernel
theorem dX5_score_98 : decode cX5_score 98 = .ok (.ldc2_w 164, 3) := by decide +kernel
theorem dX5_score_101 : decode cX5_score 101 = .ok (.lreturn, 1) := by decide +kernel
set_option maxRecDepth 20000 in
theorem ggX5_keep_X5_within : GoodIn wsX5_keep wsX5_within := goodIn_r _ [8] (by decide +kernel) (by decide +kernel)
set_option maxRecDepth 20000 in
theorem gX5_keep_X5_within : GoodIn wsX5_keep (va_wsS RX5 77 yX5_within wsX5_within) := goodIn_app (goodIn_of _ (by decide +kernel)) ggX5_keep_X5_within
set_option maxRecDepth 20000 in
theorem ggX5_keep_X0_become : GoodIn wsX5_keep wsX0_become := goodIn_r _ [13, 14, 15, 16, 17, 18, 19, 20, 21, 22, 23, 24, 25, 26, 27, 28, 45, 46, 47, 48, 49, 50, 51, 52, 53, 54, 55, 56, 57, 58, 59] (by decide +kernel) (by decide +kernel)
set_option maxRecDepth 20000 in
theorem gX5_keep_X0_become : GoodIn wsX5_keep (wsV RX5 328 RX0 yX0_become wsX0_become) := goodIn_app (goodIn_of _ (by decide +kernel)) ggX5_keep_X0_become
theorem dX5_keep_0 : decode cX5_keep 0 = .ok (.iload_n 1, 1) := by decide +kernel
theorem dX5_keep_1 : decode cX5_keep 1 = .ok (.iconst 0, 1) := by decide +kernel
theorem dX5_keep_2 : decode cX5_keep 2 = .ok (.iconst 1, 1) := by decide +kernel
theorem dX5_keep_3 : decode cX5_keep 3 = .ok (.invokestatic 77, 3) := by decide +kernel
theorem dX5_keep_6 : decode cX5_keep 6 = .ok (.ifCond .ne 5, 3) := by decide +kernel
theorem dX5_keep_9 : decode cX5_keep 9 = .ok (.iconst (-1), 1) := by decide +kernel
theorem dX5_keep_10 : decode cX5_keep 10 = .ok (.ireturn, 1) := by decide +kernel
theorem dX5_keep_11 : decode cX5_keep 11 = .ok (.aload_n 0, 1) := by decide +kernel
theorem dX5_keep_12 : decode cX5_keep 12 = .ok (.getfield 46, 3) := by decide +kernel
theorem dX5_keep_15 : decode cX5_keep 15 = .ok (.iload_n 1, 1) := by decide +kernel
theorem dX5_keep_16 : decode cX5_keep 16 = .ok (.aaload, 1) := by decide +kernel
theorem dX5_keep_17 : decode cX5_keep 17 = .ok (.aload_n 0, 1) := by decide +kernel
theorem dX5_keep_18 : decode cX5_keep 18 = .ok (.getfield 38, 3) := by decide +kernel
theorem dX5_keep_21 : decode cX5_keep 21 = .ok (.invokevirtual 328, 3) := by decide +kernel
theorem dX5_keep_24 : decode cX5_keep 24 = .ok (.aload_n 0, 1) := by decide +kernel
theorem dX5_keep_25 : decode cX5_keep 25 = .ok (.getfield 50, 3) := by decide +kernel
theorem dX5_keep_28 : decode cX5_keep 28 = .ok (.iload_n 1, 1) := by decide +kernel
theorem dX5_keep_29 : decode cX5_keep 29 = .ok (.iconst 1, 1) := by decide +kernel
theorem dX5_keep_30 : decode cX5_keep 30 = .ok (.bastore, 1) := by decide +kernel
theorem dX5_keep_31 : decode cX5_keep 31 = .ok (.aload_n 0, 1) := by decide +kernel
theorem dX5_keep_32 : decode cX5_keep 32 = .ok (.getfield 38, 3) := by decide +kernel
theorem dX5_keep_35 : decode cX5_keep 35 = .ok (.getfield 137, 3) := by decide +kernel
theorem dX5_keep_38 : decode cX5_keep 38 = .ok (.ireturn, 1) := by decide +kernel
set_option maxRecDepth 20000 in
theorem ggX5_back_X5_within : GoodIn wsX5_back wsX5_within := goodIn_r _ [8] (by decide +kernel) (by decide +kernel)
set_option maxRecDepth 20000 in
theorem gX5_back_X5_within : GoodIn wsX5_back (va_wsS RX5 77 yX5_within wsX5_within) := goodIn_app (goodIn_of _ (by decide +kernel)) ggX5_back_X5_within
set_option maxRecDepth 20000 in
theorem ggX5_back_X0_become : GoodIn wsX5_back wsX0_become := goodIn_r _ [13, 14, 15, 16, 17, 18, 19, 20, 21, 22, 23, 24, 25, 26, 27, 28, 45, 46, 47, 48, 49, 50, 51, 52, 53, 54, 55, 56, 57, 58, 59] (by decide +kernel) (by decide +kernel)
set_option maxRecDepth 20000 in
theorem gX5_back_X0_become : GoodIn wsX5_back (wsV RX5 328 RX0 yX0_become wsX0_become) := goodIn_app (goodIn_of _ (by decide +kernel)) ggX5_back_X0_become
theorem dX5_back_0 : decode cX5_back 0 = .ok (.iload_n 1, 1) := by decide +kernel
theorem dX5_back_1 : decode cX5_back 1 = .ok (.iconst 0, 1) := by decide +kernel
theorem dX5_back_2 : decode cX5_back 2 = .ok (.iconst 1, 1) := by decide +kernel
theorem dX5_back_3 : decode cX5_back 3 = .ok (.invokestatic 77, 3) := by decide +kernel
theorem dX5_back_6 : decode cX5_back 6 = .ok (.ifCond .ne 5, 3) := by decide +kernel
theorem dX5_back_9 : decode cX5_back 9 = .ok (.iconst (-1), 1) := by decide +kernel
theorem dX5_back_10 : decode cX5_back 10 = .ok (.ireturn, 1) := by decide +kernel
theorem dX5_back_11 : decode cX5_back 11 = .ok (.aload_n 0, 1) := by decide +kernel
theorem dX5_back_12 : decode cX5_back 12 = .ok (.getfield 50, 3) := by decide +kernel
theorem dX5_back_15 : decode cX5_back 15 = .ok (.iload_n 1, 1) := by decide +kernel
theorem dX5_back_16 : decode cX5_back 16 = .ok (.baload, 1) := by decide +kernel
theorem dX5_back_17 : decode cX5_back 17 = .ok (.ifCond .ne 6, 3) := by decide +kernel
theorem dX5_back_20 : decode cX5_back 20 = .ok (.bipush (-2), 2) := by decide +kernel
theorem dX5_back_22 : decode cX5_back 22 = .ok (.ireturn, 1) := by decide +kernel
theorem dX5_back_23 : decode cX5_back 23 = .ok (.aload_n 0, 1) := by decide +kernel
theorem dX5_back_24 : decode cX5_back 24 = .ok (.getfield 38, 3) := by decide +kernel
theorem dX5_back_27 : decode cX5_back 27 = .ok (.aload_n 0, 1) := by decide +kernel
theorem dX5_back_28 : decode cX5_back 28 = .ok (.getfield 46, 3) := by decide +kernel
theorem dX5_back_31 : decode cX5_back 31 = .ok (.iload_n 1, 1) := by decide +kernel
theorem dX5_back_32 : decode cX5_back 32 = .ok (.aaload, 1) := by decide +kernel
theorem dX5_back_33 : decode cX5_back 33 = .ok (.invokevirtual 328, 3) := by decide +kernel
theorem dX5_back_36 : decode cX5_back 36 = .ok (.aload_n 0, 1) := by decide +kernel
theorem dX5_back_37 : decode cX5_back 37 = .ok (.getfield 38, 3) := by decide +kernel
theorem dX5_back_40 : decode cX5_back 40 = .ok (.getfield 137, 3) := by decide +kernel
theorem dX5_back_43 : decode cX5_back 43 = .ok (.ireturn, 1) := by decide +kernel
theorem dX5_count_0 : decode cX5_count 0 = .ok (.iload_n 1, 1) := by decide +kernel
theorem dX5_count_1 : decode cX5_count 1 = .ok (.tableswitch 108 0 7 #[47, 55, 63, 71, 79, 84, 92, 100], 47) := by decide +kernel
theorem dX5_count_48 : decode cX5_count 48 = .ok (.aload_n 0, 1) := by decide +kernel
theorem dX5_count_49 : decode cX5_count 49 = .ok (.getfield 16, 3) := by decide +kernel
theorem dX5_count_52 : decode cX5_count 52 = .ok (.getfield 270, 3) := by decide +kernel
theorem dX5_count_55 : decode cX5_count 55 = .ok (.ireturn, 1) := by decide +kernel
theorem dX5_count_56 : decode cX5_count 56 = .ok (.aload_n 0, 1) := by decide +kernel
theorem dX5_count_57 : decode cX5_count 57 = .ok (.getfield 16, 3) := by decide +kernel
theorem dX5_count_60 : decode cX5_count 60 = .ok (.getfield 230, 3) := by decide +kernel
theorem dX5_count_63 : decode cX5_count 63 = .ok (.ireturn, 1) := by decide +kernel
theorem dX5_count_64 : decode cX5_count 64 = .ok (.aload_n 0, 1) := by decide +kernel
theorem dX5_count_65 : decode cX5_count 65 = .ok (.getfield 38, 3) := by decide +kernel
theorem dX5_count_68 : decode cX5_count 68 = .ok (.getfield 137, 3) := by decide +kernel
theorem dX5_count_71 : decode cX5_count 71 = .ok (.ireturn, 1) := by decide +kernel
theorem dX5_count_72 : decode cX5_count 72 = .ok (.aload_n 0, 1) := by decide +kernel
theorem dX5_count_73 : decode cX5_count 73 = .ok (.getfield 38, 3) := by decide +kernel
theorem dX5_count_76 : decode cX5_count 76 = .ok (.getfield 282, 3) := by decide +kernel
theorem dX5_count_79 : decode cX5_count 79 = .ok (.ireturn, 1) := by decide +kernel
theorem dX5_count_80 : decode cX5_count 80 = .ok (.aload_n 0, 1) := by decide +kernel
theorem dX5_count_81 : decode cX5_count 81 = .ok (.getfield 81, 3) := by decide +kernel
theorem dX5_count_84 : decode cX5_count 84 = .ok (.ireturn, 1) := by decide +kernel
theorem dX5_count_85 : decode cX5_count 85 = .ok (.aload_n 0, 1) := by decide +kernel
theorem dX5_count_86 : decode cX5_count 86 = .ok (.getfield 16, 3) := by decide +kernel
theorem dX5_count_89 : decode cX5_count 89 = .ok (.getfield 331, 3) := by decide +kernel
theorem dX5_count_92 : decode cX5_count 92 = .ok (.ireturn, 1) := by decide +kernel
theorem dX5_count_93 : decode cX5_count 93 = .ok (.aload_n 0, 1) := by decide +kernel
theorem dX5_count_94 : decode cX5_count 94 = .ok (.getfield 16, 3) := by decide +kernel
theorem dX5_count_97 : decode cX5_count 97 = .ok (.getfield 279, 3) := by decide +kernel
theorem dX5_count_100 : decode cX5_count 100 = .ok (.ireturn, 1) := by decide +kernel
theorem dX5_count_101 : decode cX5_count 101 = .ok (.aload_n 0, 1) := by decide +kernel
theorem dX5_count_102 : decode cX5_count 102 = .ok (.getfield 16, 3) := by decide +kernel
theorem dX5_count_105 : decode cX5_count 105 = .ok (.getfield 334, 3) := by decide +kernel
theorem dX5_count_108 : decode cX5_count 108 = .ok (.ireturn, 1) := by decide +kernel
theorem dX5_count_109 : decode cX5_count 109 = .ok (.iconst (-1), 1) := by decide +kernel
theorem dX5_count_110 : decode cX5_count 110 = .ok (.ireturn, 1) := by decide +kernel
theorem dX5_trace_0 : decode cX5_trace 0 = .ok (.aload_n 0, 1) := by decide +kernel
theorem dX5_trace_1 : decode cX5_trace 1 = .ok (.getfield 337, 3) := by decide +kernel
theorem dX5_trace_4 : decode cX5_trace 4 = .ok (.lreturn, 1) := by decide +kernel
theorem dX5_within_0 : decode cX5_within 0 = .ok (.iload_n 0, 1) := by decide +kernel
theorem dX5_within_1 : decode cX5_within 1 = .ok (.iload_n 1, 1) := by decide +kernel
theorem dX5_within_2 : decode cX5_within 2 = .ok (.if_icmp .lt 12, 3) := by decide +kernel
theorem dX5_within_5 : decode cX5_within 5 = .ok (.iload_n 0, 1) := by decide +kernel
theorem dX5_within_6 : decode cX5_within 6 = .ok (.iload_n 2, 1) := by decide +kernel
theorem dX5_within_7 : decode cX5_within 7 = .ok (.if_icmp .gt 7, 3) := by decide +kernel
theorem dX5_within_10 : decode cX5_within 10 = .ok (.iconst 1, 1) := by decide +kernel
theorem dX5_within_11 : decode cX5_within 11 = .ok (.goto 4, 3) := by decide +kernel
theorem dX5_within_14 : decode cX5_within 14 = .ok (.iconst 0, 1) := by decide +kernel
theorem dX5_within_15 : decode cX5_within 15 = .ok (.ireturn, 1) := by decide +kernel
theorem dX5_isStall_0 : decode cX5_isStall 0 = .ok (.iload_n 1, 1) := by decide +kernel
theorem dX5_isStall_1 : decode cX5_isStall 1 = .ok (.ifCond .lt 18, 3) := by decide +kernel
theorem dX5_isStall_4 : decode cX5_isStall 4 = .ok (.iload_n 1, 1) := by decide +kernel
theorem dX5_isStall_5 : decode cX5_isStall 5 = .ok (.aload_n 0, 1) := by decide +kernel
theorem dX5_isStall_6 : decode cX5_isStall 6 = .ok (.getfield 16, 3) := by decide +kernel
theorem dX5_isStall_9 : decode cX5_isStall 9 = .ok (.getfield 270, 3) := by decide +kernel
theorem dX5_isStall_12 : decode cX5_isStall 12 = .ok (.if_icmp .ge 7, 3) := by decide +kernel
theorem dX5_isStall_15 : decode cX5_isStall 15 = .ok (.iconst 1, 1) := by decide +kernel
theorem dX5_isStall_16 : decode cX5_isStall 16 = .ok (.goto 4, 3) := by decide +kernel
theorem dX5_isStall_19 : decode cX5_isStall 19 = .ok (.iconst 0, 1) := by decide +kernel
theorem dX5_isStall_20 : decode cX5_isStall 20 = .ok (.ireturn, 1) := by decide +kernel
theorem dX5_isWay_0 : decode cX5_isWay 0 = .ok (.iload_n 1, 1) := by decide +kernel
theorem dX5_isWay_1 : decode cX5_isWay 1 = .ok (.ifCond .lt 18, 3) := by decide +kernel
theorem dX5_isWay_4 : decode cX5_isWay 4 = .ok (.iload_n 1, 1) := by decide +kernel
theorem dX5_isWay_5 : decode cX5_isWay 5 = .ok (.aload_n 0, 1) := by decide +kernel
theorem dX5_isWay_6 : decode cX5_isWay 6 = .ok (.getfield 16, 3) := by decide +kernel
theorem dX5_isWay_9 : decode cX5_isWay 9 = .ok (.getfield 230, 3) := by decide +kernel
theorem dX5_isWay_12 : decode cX5_isWay 12 = .ok (.if_icmp .ge 7, 3) := by decide +kernel
theorem dX5_isWay_15 : decode cX5_isWay 15 = .ok (.iconst 1, 1) := by decide +kernel
theorem dX5_isWay_16 : decode cX5_isWay 16 = .ok (.goto 4, 3) := by decide +kernel
theorem dX5_isWay_19 : decode cX5_isWay 19 = .ok (.iconst 0, 1) := by decide +kernel
theorem dX5_isWay_20 : decode cX5_isWay 20 = .ok (.ireturn, 1) := by decide +kernel
theorem dX5_isBag_0 : decode cX5_isBag 0 = .ok (.iload_n 1, 1) := by decide +kernel
theorem dX5_isBag_1 : decode cX5_isBag 1 = .ok (.ifCond .lt 18, 3) := by decide +kernel
theorem dX5_isBag_4 : decode cX5_isBag 4 = .ok (.iload_n 1, 1) := by decide +kernel
theorem dX5_isBag_5 : decode cX5_isBag 5 = .ok (.aload_n 0, 1) := by decide +kernel
theorem dX5_isBag_6 : decode cX5_isBag 6 = .ok (.getfield 38, 3) := by decide +kernel
theorem dX5_isBag_9 : decode cX5_isBag 9 = .ok (.getfield 137, 3) := by decide +kernel
theorem dX5_isBag_12 : decode cX5_isBag 12 = .ok (.if_icmp .ge 7, 3) := by decide +kernel
theorem dX5_isBag_15 : decode cX5_isBag 15 = .ok (.iconst 1, 1) := by decide +kernel
theorem dX5_isBag_16 : decode cX5_isBag 16 = .ok (.goto 4, 3) := by decide +kernel
theorem dX5_isBag_19 : decode cX5_isBag 19 = .ok (.iconst 0, 1) := by decide +kernel
theorem dX5_isBag_20 : decode cX5_isBag 20 = .ok (.ireturn, 1) := by decide +kernel
theorem dX5_isSort_0 : decode cX5_isSort 0 = .ok (.iload_n 0, 1) := by decide +kernel
theorem dX5_isSort_1 : decode cX5_isSort 1 = .ok (.ifCond .lt 12, 3) := by decide +kernel
theorem dX5_isSort_4 : decode cX5_isSort 4 = .ok (.iload_n 0, 1) := by decide +kernel
theorem dX5_isSort_5 : decode cX5_isSort 5 = .ok (.iconst 4, 1) := by decide +kernel
theorem dX5_isSort_6 : decode cX5_isSort 6 = .ok (.if_icmp .ge 7, 3) := by decide +kernel
theorem dX5_isSort_9 : decode cX5_isSort 9 = .ok (.iconst 1, 1) := by decide +kernel
theorem dX5_isSort_10 : decode cX5_isSort 10 = .ok (.goto 4, 3) := by decide +kernel
theorem dX5_isSort_13 : decode cX5_isSort 13 = .ok (.iconst 0, 1) := by decide +kernel
theorem dX5_isSort_14 : decode cX5_isSort 14 = .ok (.ireturn, 1) := by decide +kernel
theorem dX5_isPart_0 : decode cX5_isPart 0 = .ok (.iload_n 0, 1) := by decide +kernel
theorem dX5_isPart_1 : decode cX5_isPart 1 = .ok (.ifCond .eq 8, 3) := by decide +kernel
theorem dX5_isPart_4 : decode cX5_isPart 4 = .ok (.iload_n 0, 1) := by decide +kernel
theorem dX5_isPart_5 : decode cX5_isPart 5 = .ok (.iconst 1, 1) := by decide +kernel
theorem dX5_isPart_6 : decode cX5_isPart 6 = .ok (.if_icmp .ne 7, 3) := by decide +kernel
theorem dX5_isPart_9 : decode cX5_isPart 9 = .ok (.iconst 1, 1) := by decide +kernel
theorem dX5_isPart_10 : decode cX5_isPart 10 = .ok (.goto 4, 3) := by decide +kernel
theorem dX5_isPart_13 : decode cX5_isPart 13 = .ok (.iconst 0, 1) := by decide +kernel
theorem dX5_isPart_14 : decode cX5_isPart 14 = .ok (.ireturn, 1) := by decide +kernel
set_option maxRecDepth 20000 in
theorem ggX5_isLook_X5_isStall : GoodIn wsX5_isLook wsX5_isStall := goodIn_r _ [5, 6, 7, 11, 12, 13, 14, 15, 16, 17, 18, 19, 20, 21, 22, 23, 24, 25, 26, 27, 28, 29, 30, 31, 32, 33, 34, 35, 36, 37, 38] (by decide +kernel) (by decide +kernel)
set_option maxRecDepth 20000 in
theorem gX5_isLook_X5_isStall : GoodIn wsX5_isLook (wsV RX5 95 RX5 yX5_isStall wsX5_isStall) := goodIn_app (goodIn_of _ (by decide +kernel)) ggX5_isLook_X5_isStall
set_option maxRecDepth 20000 in
theorem ggX5_isLook_X5_within : GoodIn wsX5_isLook wsX5_within := goodIn_r _ [10] (by decide +kernel) (by decide +kernel)
set_option maxRecDepth 20000 in
theorem gX5_isLook_X5_within : GoodIn wsX5_isLook (va_wsS RX5 77 yX5_within wsX5_within) := goodIn_app (goodIn_of _ (by decide +kernel)) ggX5_isLook_X5_within
theorem dX5_isLook_0 : decode cX5_isLook 0 = .ok (.iload_n 1, 1) := by decide +kernel
theorem dX5_isLook_1 : decode cX5_isLook 1 = .ok (.iconst (-1), 1) := by decide +kernel
theorem dX5_isLook_2 : decode cX5_isLook 2 = .ok (.if_icmp .eq 11, 3) := by decide +kernel
theorem dX5_isLook_5 : decode cX5_isLook 5 = .ok (.aload_n 0, 1) := by decide +kernel
theorem dX5_isLook_6 : decode cX5_isLook 6 = .ok (.iload_n 1, 1) := by decide +kernel
theorem dX5_isLook_7 : decode cX5_isLook 7 = .ok (.invokevirtual 95, 3) := by decide +kernel
theorem dX5_isLook_10 : decode cX5_isLook 10 = .ok (.ifCond .eq 38, 3) := by decide +kernel
theorem dX5_isLook_13 : decode cX5_isLook 13 = .ok (.iload_n 2, 1) := by decide +kernel
theorem dX5_isLook_14 : decode cX5_isLook 14 = .ok (.iconst 0, 1) := by decide +kernel
theorem dX5_isLook_15 : decode cX5_isLook 15 = .ok (.bipush 11, 2) := by decide +kernel
theorem dX5_isLook_17 : decode cX5_isLook 17 = .ok (.invokestatic 77, 3) := by decide +kernel
theorem dX5_isLook_20 : decode cX5_isLook 20 = .ok (.ifCond .eq 28, 3) := by decide +kernel
theorem dX5_isLook_23 : decode cX5_isLook 23 = .ok (.iload_n 3, 1) := by decide +kernel
theorem dX5_isLook_24 : decode cX5_isLook 24 = .ok (.iconst 0, 1) := by decide +kernel
theorem dX5_isLook_25 : decode cX5_isLook 25 = .ok (.bipush 11, 2) := by decide +kernel
theorem dX5_isLook_27 : decode cX5_isLook 27 = .ok (.invokestatic 77, 3) := by decide +kernel
theorem dX5_isLook_30 : decode cX5_isLook 30 = .ok (.ifCond .eq 18, 3) := by decide +kernel
theorem dX5_isLook_33 : decode cX5_isLook 33 = .ok (.iload 4, 2) := by decide +kernel
theorem dX5_isLook_35 : decode cX5_isLook 35 = .ok (.iconst 0, 1) := by decide +kernel
theorem dX5_isLook_36 : decode cX5_isLook 36 = .ok (.bipush 15, 2) := by decide +kernel
theorem dX5_isLook_38 : decode cX5_isLook 38 = .ok (.invokestatic 77, 3) := by decide +kernel
theorem dX5_isLook_41 : decode cX5_isLook 41 = .ok (.ifCond .eq 7, 3) := by decide +kernel
theorem dX5_isLook_44 : decode cX5_isLook 44 = .ok (.iconst 1, 1) := by decide +kernel
theorem dX5_isLook_45 : decode cX5_isLook 45 = .ok (.goto 4, 3) := by decide +kernel
theorem dX5_isLook_48 : decode cX5_isLook 48 = .ok (.iconst 0, 1) := by decide +kernel
theorem dX5_isLook_49 : decode cX5_isLook 49 = .ok (.ireturn, 1) := by decide +kernel
theorem dX5_power_0 : decode cX5_power 0 = .ok (.lconst 1, 1) := by decide +kernel
theorem dX5_power_1 : decode cX5_power 1 = .ok (.lstore_n 3, 1) := by decide +kernel
theorem dX5_power_2 : decode cX5_power 2 = .ok (.iconst 0, 1) := by decide +kernel
theorem dX5_power_3 : decode cX5_power 3 = .ok (.istore 5, 2) := by decide +kernel
theorem dX5_power_5 : decode cX5_power 5 = .ok (.iload 5, 2) := by decide +kernel
theorem dX5_power_7 : decode cX5_power 7 = .ok (.iload_n 2, 1) := by decide +kernel
theorem dX5_power_8 : decode cX5_power 8 = .ok (.if_icmp .ge 13, 3) := by decide +kernel
theorem dX5_power_11 : decode cX5_power 11 = .ok (.lload_n 3, 1) := by decide +kernel
theorem dX5_power_12 : decode cX5_power 12 = .ok (.lload_n 0, 1) := by decide +kernel
theorem dX5_power_13 : decode cX5_power 13 = .ok (.lmul, 1) := by decide +kernel
theorem dX5_power_14 : decode cX5_power 14 = .ok (.lstore_n 3, 1) := by decide +kernel
theorem dX5_power_15 : decode cX5_power 15 = .ok (.iinc 5 1, 3) := by decide +kernel
theorem dX5_power_18 : decode cX5_power 18 = .ok (.goto (-13), 3) := by decide +kernel
theorem dX5_power_21 : decode cX5_power 21 = .ok (.lload_n 3, 1) := by decide +kernel
theorem dX5_power_22 : decode cX5_power 22 = .ok (.lreturn, 1) := by decide +kernel
theorem dX5_atMost_0 : decode cX5_atMost 0 = .ok (.iload_n 2, 1) := by decide +kernel
theorem dX5_atMost_1 : decode cX5_atMost 1 = .ok (.ifCond .gt 5, 3) := by decide +kernel
theorem dX5_atMost_4 : decode cX5_atMost 4 = .ok (.lconst 0, 1) := by decide +kernel
theorem dX5_atMost_5 : decode cX5_atMost 5 = .ok (.lreturn, 1) := by decide +kernel
theorem dX5_atMost_6 : decode cX5_atMost 6 = .ok (.lload_n 0, 1) := by decide +kernel
theorem dX5_atMost_7 : decode cX5_atMost 7 = .ok (.lload_n 3, 1) := by decide +kernel
theorem dX5_atMost_8 : decode cX5_atMost 8 = .ok (.iload_n 2, 1) := by decide +kernel
theorem dX5_atMost_9 : decode cX5_atMost 9 = .ok (.i2l, 1) := by decide +kernel
theorem dX5_atMost_10 : decode cX5_atMost 10 = .ok (.ldiv, 1) := by decide +kernel
theorem dX5_atMost_11 : decode cX5_atMost 11 = .ok (.lcmp, 1) := by decide +kernel
theorem dX5_atMost_12 : decode cX5_atMost 12 = .ok (.ifCond .le 7, 3) := by decide +kernel
theorem dX5_atMost_15 : decode cX5_atMost 15 = .ok (.lload_n 3, 1) := by decide +kernel
theorem dX5_atMost_16 : decode cX5_atMost 16 = .ok (.goto 7, 3) := by decide +kernel
theorem dX5_atMost_19 : decode cX5_atMost 19 = .ok (.lload_n 0, 1) := by decide +kernel
theorem dX5_atMost_20 : decode cX5_atMost 20 = .ok (.iload_n 2, 1) := by decide +kernel
theorem dX5_atMost_21 : decode cX5_atMost 21 = .ok (.i2l, 1) := by decide +kernel
theorem dX5_atMost_22 : decode cX5_atMost 22 = .ok (.lmul, 1) := by decide +kernel
theorem dX5_atMost_23 : decode cX5_atMost 23 = .ok (.lreturn, 1) := by decide +kernel
theorem dX5_commonDivisor_0 : decode cX5_commonDivisor 0 = .ok (.lload_n 0, 1) := by decide +kernel
theorem dX5_commonDivisor_1 : decode cX5_commonDivisor 1 = .ok (.lstore 4, 2) := by decide +kernel
theorem dX5_commonDivisor_3 : decode cX5_commonDivisor 3 = .ok (.lload_n 2, 1) := by decide +kernel
theorem dX5_commonDivisor_4 : decode cX5_commonDivisor 4 = .ok (.lstore 6, 2) := by decide +kernel
theorem dX5_commonDivisor_6 : decode cX5_commonDivisor 6 = .ok (.iconst 0, 1) := by decide +kernel
theorem dX5_commonDivisor_7 : decode cX5_commonDivisor 7 = .ok (.istore 8, 2) := by decide +kernel
theorem dX5_commonDivisor_9 : decode cX5_commonDivisor 9 = .ok (.iload 8, 2) := by decide +kernel
theorem dX5_commonDivisor_11 : decode cX5_commonDivisor 11 = .ok (.sipush 200, 3) := by decide +kernel
theorem dX5_commonDivisor_14 : decode cX5_commonDivisor 14 = .ok (.if_icmp .ge 31, 3) := by decide +kernel
theorem dX5_commonDivisor_17 : decode cX5_commonDivisor 17 = .ok (.lload 6, 2) := by decide +kernel
theorem dX5_commonDivisor_19 : decode cX5_commonDivisor 19 = .ok (.lconst 0, 1) := by decide +kernel
theorem dX5_commonDivisor_20 : decode cX5_commonDivisor 20 = .ok (.lcmp, 1) := by decide +kernel
theorem dX5_commonDivisor_21 : decode cX5_commonDivisor 21 = .ok (.ifCond .eq 24, 3) := by decide +kernel
theorem dX5_commonDivisor_24 : decode cX5_commonDivisor 24 = .ok (.lload 4, 2) := by decide +kernel
theorem dX5_commonDivisor_26 : decode cX5_commonDivisor 26 = .ok (.lload 6, 2) := by decide +kernel
theorem dX5_commonDivisor_28 : decode cX5_commonDivisor 28 = .ok (.lrem, 1) := by decide +kernel
theorem dX5_commonDivisor_29 : decode cX5_commonDivisor 29 = .ok (.lstore 9, 2) := by decide +kernel
theorem dX5_commonDivisor_31 : decode cX5_commonDivisor 31 = .ok (.lload 6, 2) := by decide +kernel
theorem dX5_commonDivisor_33 : decode cX5_commonDivisor 33 = .ok (.lstore 4, 2) := by decide +kernel
theorem dX5_commonDivisor_35 : decode cX5_commonDivisor 35 = .ok (.lload 9, 2) := by decide +kernel
theorem dX5_commonDivisor_37 : decode cX5_commonDivisor 37 = .ok (.lstore 6, 2) := by decide +kernel
theorem dX5_commonDivisor_39 : decode cX5_commonDivisor 39 = .ok (.iinc 8 1, 3) := by decide +kernel
theorem dX5_commonDivisor_42 : decode cX5_commonDivisor 42 = .ok (.goto (-33), 3) := by decide +kernel
theorem dX5_commonDivisor_45 : decode cX5_commonDivisor 45 = .ok (.lload 4, 2) := by decide +kernel
theorem dX5_commonDivisor_47 : decode cX5_commonDivisor 47 = .ok (.lreturn, 1) := by decide +kernel
set_option maxRecDepth 20000 in
theorem ggX5_inLeastTerms_X5_commonDivisor : GoodIn wsX5_inLeastTerms wsX5_commonDivisor := goodIn_r _ [9] (by decide +kernel) (by decide +kernel)
set_option maxRecDepth 20000 in
theorem gX5_inLeastTerms_X5_commonDivisor : GoodIn wsX5_inLeastTerms (va_wsS RX5 344 yX5_commonDivisor wsX5_commonDivisor) := goodIn_app (goodIn_of _ (by decide +kernel)) ggX5_inLeastTerms_X5_commonDivisor
theorem dX5_inLeastTerms_0 : decode cX5_inLeastTerms 0 = .ok (.lload_n 0, 1) := by decide +kernel
theorem dX5_inLeastTerms_1 : decode cX5_inLeastTerms 1 = .ok (.invokestatic 340, 3) := by decide +kernel
theorem dX5_inLeastTerms_4 : decode cX5_inLeastTerms 4 = .ok (.lload_n 2, 1) := by decide +kernel
theorem dX5_inLeastTerms_5 : decode cX5_inLeastTerms 5 = .ok (.invokestatic 344, 3) := by decide +kernel
theorem dX5_inLeastTerms_8 : decode cX5_inLeastTerms 8 = .ok (.lstore 5, 2) := by decide +kernel
theorem dX5_inLeastTerms_10 : decode cX5_inLeastTerms 10 = .ok (.lload 5, 2) := by decide +kernel
theorem dX5_inLeastTerms_12 : decode cX5_inLeastTerms 12 = .ok (.lconst 0, 1) := by decide +kernel
theorem dX5_inLeastTerms_13 : decode cX5_inLeastTerms 13 = .ok (.lcmp, 1) := by decide +kernel
theorem dX5_inLeastTerms_14 : decode cX5_inLeastTerms 14 = .ok (.ifCond .gt 7, 3) := by decide +kernel
theorem dX5_inLeastTerms_17 : decode cX5_inLeastTerms 17 = .ok (.ldc2_w 164, 3) := by decide +kernel
theorem dX5_inLeastTerms_20 : decode cX5_inLeastTerms 20 = .ok (.lreturn, 1) := by decide +kernel
theorem dX5_inLeastTerms_21 : decode cX5_inLeastTerms 21 = .ok (.iload 4, 2) := by decide +kernel
theorem dX5_inLeastTerms_23 : decode cX5_inLeastTerms 23 = .ok (.ifCond .ne 10, 3) := by decide +kernel
theorem dX5_inLeastTerms_26 : decode cX5_inLeastTerms 26 = .ok (.lload_n 0, 1) := by decide +kernel
theorem dX5_inLeastTerms_27 : decode cX5_inLeastTerms 27 = .ok (.lload 5, 2) := by decide +kernel
theorem dX5_inLeastTerms_29 : decode cX5_inLeastTerms 29 = .ok (.ldiv, 1) := by decide +kernel
theorem dX5_inLeastTerms_30 : decode cX5_inLeastTerms 30 = .ok (.goto 7, 3) := by decide +kernel
theorem dX5_inLeastTerms_33 : decode cX5_inLeastTerms 33 = .ok (.lload_n 2, 1) := by decide +kernel
theorem dX5_inLeastTerms_34 : decode cX5_inLeastTerms 34 = .ok (.lload 5, 2) := by decide +kernel
theorem dX5_inLeastTerms_36 : decode cX5_inLeastTerms 36 = .ok (.ldiv, 1) := by decide +kernel
theorem dX5_inLeastTerms_37 : decode cX5_inLeastTerms 37 = .ok (.lreturn, 1) := by decide +kernel
theorem dX5_seen_0 : decode cX5_seen 0 = .ok (.iconst 0, 1) := by decide +kernel
theorem dX5_seen_1 : decode cX5_seen 1 = .ok (.istore 6, 2) := by decide +kernel
theorem dX5_seen_3 : decode cX5_seen 3 = .ok (.iconst 0, 1) := by decide +kernel
theorem dX5_seen_4 : decode cX5_seen 4 = .ok (.istore 7, 2) := by decide +kernel
theorem dX5_seen_6 : decode cX5_seen 6 = .ok (.iload 7, 2) := by decide +kernel
theorem dX5_seen_8 : decode cX5_seen 8 = .ok (.aload_n 0, 1) := by decide +kernel
theorem dX5_seen_9 : decode cX5_seen 9 = .ok (.getfield 38, 3) := by decide +kernel
theorem dX5_seen_12 : decode cX5_seen 12 = .ok (.getfield 137, 3) := by decide +kernel
theorem dX5_seen_15 : decode cX5_seen 15 = .ok (.if_icmp .ge 129, 3) := by decide +kernel
theorem dX5_seen_18 : decode cX5_seen 18 = .ok (.iload_n 1, 1) := by decide +kernel
theorem dX5_seen_19 : decode cX5_seen 19 = .ok (.iconst (-1), 1) := by decide +kernel
theorem dX5_seen_20 : decode cX5_seen 20 = .ok (.if_icmp .eq 17, 3) := by decide +kernel
theorem dX5_seen_23 : decode cX5_seen 23 = .ok (.aload_n 0, 1) := by decide +kernel
theorem dX5_seen_24 : decode cX5_seen 24 = .ok (.getfield 38, 3) := by decide +kernel
theorem dX5_seen_27 : decode cX5_seen 27 = .ok (.getfield 140, 3) := by decide +kernel
theorem dX5_seen_30 : decode cX5_seen 30 = .ok (.iload 7, 2) := by decide +kernel
theorem dX5_seen_32 : decode cX5_seen 32 = .ok (.iaload, 1) := by decide +kernel
theorem dX5_seen_33 : decode cX5_seen 33 = .ok (.iload_n 1, 1) := by decide +kernel
theorem dX5_seen_34 : decode cX5_seen 34 = .ok (.if_icmp .ne 7, 3) := by decide +kernel
theorem dX5_seen_37 : decode cX5_seen 37 = .ok (.iconst 1, 1) := by decide +kernel
theorem dX5_seen_38 : decode cX5_seen 38 = .ok (.goto 4, 3) := by decide +kernel
theorem dX5_seen_41 : decode cX5_seen 41 = .ok (.iconst 0, 1) := by decide +kernel
theorem dX5_seen_42 : decode cX5_seen 42 = .ok (.istore 8, 2) := by decide +kernel
theorem dX5_seen_44 : decode cX5_seen 44 = .ok (.aload_n 0, 1) := by decide +kernel
theorem dX5_seen_45 : decode cX5_seen 45 = .ok (.getfield 38, 3) := by decide +kernel
theorem dX5_seen_48 : decode cX5_seen 48 = .ok (.getfield 143, 3) := by decide +kernel
theorem dX5_seen_51 : decode cX5_seen 51 = .ok (.iload 7, 2) := by decide +kernel
theorem dX5_seen_53 : decode cX5_seen 53 = .ok (.iaload, 1) := by decide +kernel
theorem dX5_seen_54 : decode cX5_seen 54 = .ok (.iload_n 2, 1) := by decide +kernel
theorem dX5_seen_55 : decode cX5_seen 55 = .ok (.if_icmp .lt 21, 3) := by decide +kernel
theorem dX5_seen_58 : decode cX5_seen 58 = .ok (.aload_n 0, 1) := by decide +kernel
theorem dX5_seen_59 : decode cX5_seen 59 = .ok (.getfield 38, 3) := by decide +kernel
theorem dX5_seen_62 : decode cX5_seen 62 = .ok (.getfield 143, 3) := by decide +kernel
theorem dX5_seen_65 : decode cX5_seen 65 = .ok (.iload 7, 2) := by decide +kernel
theorem dX5_seen_67 : decode cX5_seen 67 = .ok (.iaload, 1) := by decide +kernel
theorem dX5_seen_68 : decode cX5_seen 68 = .ok (.iload_n 3, 1) := by decide +kernel
theorem dX5_seen_69 : decode cX5_seen 69 = .ok (.if_icmp .gt 7, 3) := by decide +kernel
theorem dX5_seen_72 : decode cX5_seen 72 = .ok (.iconst 1, 1) := by decide +kernel
theorem dX5_seen_73 : decode cX5_seen 73 = .ok (.goto 4, 3) := by decide +kernel
theorem dX5_seen_76 : decode cX5_seen 76 = .ok (.iconst 0, 1) := by decide +kernel
theorem dX5_seen_77 : decode cX5_seen 77 = .ok (.istore 9, 2) := by decide +kernel
theorem dX5_seen_79 : decode cX5_seen 79 = .ok (.iload 4, 2) := by decide +kernel
theorem dX5_seen_81 : decode cX5_seen 81 = .ok (.aload_n 0, 1) := by decide +kernel
theorem dX5_seen_82 : decode cX5_seen 82 = .ok (.getfield 38, 3) := by decide +kernel
theorem dX5_seen_85 : decode cX5_seen 85 = .ok (.getfield 146, 3) := by decide +kernel
theorem dX5_seen_88 : decode cX5_seen 88 = .ok (.iload 7, 2) := by decide +kernel
theorem dX5_seen_90 : decode cX5_seen 90 = .ok (.iaload, 1) := by decide +kernel
theorem dX5_seen_91 : decode cX5_seen 91 = .ok (.ishr, 1) := by decide +kernel
theorem dX5_seen_92 : decode cX5_seen 92 = .ok (.iconst 1, 1) := by decide +kernel
theorem dX5_seen_93 : decode cX5_seen 93 = .ok (.iand, 1) := by decide +kernel
theorem dX5_seen_94 : decode cX5_seen 94 = .ok (.iconst 1, 1) := by decide +kernel
theorem dX5_seen_95 : decode cX5_seen 95 = .ok (.if_icmp .ne 7, 3) := by decide +kernel
theorem dX5_seen_98 : decode cX5_seen 98 = .ok (.iconst 1, 1) := by decide +kernel
theorem dX5_seen_99 : decode cX5_seen 99 = .ok (.goto 4, 3) := by decide +kernel
theorem dX5_seen_102 : decode cX5_seen 102 = .ok (.iconst 0, 1) := by decide +kernel
theorem dX5_seen_103 : decode cX5_seen 103 = .ok (.istore 10, 2) := by decide +kernel
theorem dX5_seen_105 : decode cX5_seen 105 = .ok (.iload 8, 2) := by decide +kernel
theorem dX5_seen_107 : decode cX5_seen 107 = .ok (.ifCond .eq 31, 3) := by decide +kernel
theorem dX5_seen_110 : decode cX5_seen 110 = .ok (.iload 9, 2) := by decide +kernel
theorem dX5_seen_112 : decode cX5_seen 112 = .ok (.ifCond .eq 26, 3) := by decide +kernel
theorem dX5_seen_115 : decode cX5_seen 115 = .ok (.iload 10, 2) := by decide +kernel
theorem dX5_seen_117 : decode cX5_seen 117 = .ok (.ifCond .eq 21, 3) := by decide +kernel
theorem dX5_seen_120 : decode cX5_seen 120 = .ok (.aload_n 0, 1) := by decide +kernel
theorem dX5_seen_121 : decode cX5_seen 121 = .ok (.getfield 38, 3) := by decide +kernel
theorem dX5_seen_124 : decode cX5_seen 124 = .ok (.getfield 155, 3) := by decide +kernel
theorem dX5_seen_127 : decode cX5_seen 127 = .ok (.iload 7, 2) := by decide +kernel
theorem dX5_seen_129 : decode cX5_seen 129 = .ok (.iaload, 1) := by decide +kernel
theorem dX5_seen_130 : decode cX5_seen 130 = .ok (.iload 5, 2) := by decide +kernel
theorem dX5_seen_132 : decode cX5_seen 132 = .ok (.if_icmp .lt 6, 3) := by decide +kernel
theorem dX5_seen_135 : decode cX5_seen 135 = .ok (.iinc 6 1, 3) := by decide +kernel
theorem dX5_seen_138 : decode cX5_seen 138 = .ok (.iinc 7 1, 3) := by decide +kernel
theorem dX5_seen_141 : decode cX5_seen 141 = .ok (.goto (-135), 3) := by decide +kernel
theorem dX5_seen_144 : decode cX5_seen 144 = .ok (.iload 6, 2) := by decide +kernel
theorem dX5_seen_146 : decode cX5_seen 146 = .ok (.ireturn, 1) := by decide +kernel
set_option maxRecDepth 20000 in
theorem ggX5_oftenTogether_X2_howOften : GoodIn wsX5_oftenTogether wsX2_howOften := goodIn_r _ [11, 12, 13, 14, 15, 10, 16, 17, 18, 19, 20, 21, 22, 23, 24, 25, 26, 27, 28, 29, 30, 31, 32, 33, 34, 35, 67, 68, 69, 70, 71, 72, 73, 74, 75, 76, 77, 78] (by decide +kernel) (by decide +kernel)
set_option maxRecDepth 20000 in
theorem gX5_oftenTogether_X2_howOften : GoodIn wsX5_oftenTogether (wsV RX5 133 RX2 yX2_howOften wsX2_howOften) := goodIn_app (goodIn_of _ (by decide +kernel)) ggX5_oftenTogether_X2_howOften
theorem dX5_oftenTogether_0 : decode cX5_oftenTogether 0 = .ok (.lconst 1, 1) := by decide +kernel
theorem dX5_oftenTogether_1 : decode cX5_oftenTogether 1 = .ok (.lstore_n 3, 1) := by decide +kernel
theorem dX5_oftenTogether_2 : decode cX5_oftenTogether 2 = .ok (.iconst 0, 1) := by decide +kernel
theorem dX5_oftenTogether_3 : decode cX5_oftenTogether 3 = .ok (.istore 5, 2) := by decide +kernel
theorem dX5_oftenTogether_5 : decode cX5_oftenTogether 5 = .ok (.iload 5, 2) := by decide +kernel
theorem dX5_oftenTogether_7 : decode cX5_oftenTogether 7 = .ok (.aload_n 0, 1) := by decide +kernel
theorem dX5_oftenTogether_8 : decode cX5_oftenTogether 8 = .ok (.getfield 38, 3) := by decide +kernel
theorem dX5_oftenTogether_11 : decode cX5_oftenTogether 11 = .ok (.getfield 137, 3) := by decide +kernel
theorem dX5_oftenTogether_14 : decode cX5_oftenTogether 14 = .ok (.if_icmp .ge 56, 3) := by decide +kernel
theorem dX5_oftenTogether_17 : decode cX5_oftenTogether 17 = .ok (.aload_n 0, 1) := by decide +kernel
theorem dX5_oftenTogether_18 : decode cX5_oftenTogether 18 = .ok (.getfield 38, 3) := by decide +kernel
theorem dX5_oftenTogether_21 : decode cX5_oftenTogether 21 = .ok (.getfield 140, 3) := by decide +kernel
theorem dX5_oftenTogether_24 : decode cX5_oftenTogether 24 = .ok (.iload 5, 2) := by decide +kernel
theorem dX5_oftenTogether_26 : decode cX5_oftenTogether 26 = .ok (.iaload, 1) := by decide +kernel
theorem dX5_oftenTogether_27 : decode cX5_oftenTogether 27 = .ok (.iload_n 2, 1) := by decide +kernel
theorem dX5_oftenTogether_28 : decode cX5_oftenTogether 28 = .ok (.if_icmp .ne 36, 3) := by decide +kernel
theorem dX5_oftenTogether_31 : decode cX5_oftenTogether 31 = .ok (.lload_n 3, 1) := by decide +kernel
theorem dX5_oftenTogether_32 : decode cX5_oftenTogether 32 = .ok (.aload_n 0, 1) := by decide +kernel
theorem dX5_oftenTogether_33 : decode cX5_oftenTogether 33 = .ok (.getfield 16, 3) := by decide +kernel
theorem dX5_oftenTogether_36 : decode cX5_oftenTogether 36 = .ok (.iload_n 1, 1) := by decide +kernel
theorem dX5_oftenTogether_37 : decode cX5_oftenTogether 37 = .ok (.iload_n 2, 1) := by decide +kernel
theorem dX5_oftenTogether_38 : decode cX5_oftenTogether 38 = .ok (.aload_n 0, 1) := by decide +kernel
theorem dX5_oftenTogether_39 : decode cX5_oftenTogether 39 = .ok (.getfield 38, 3) := by decide +kernel
theorem dX5_oftenTogether_42 : decode cX5_oftenTogether 42 = .ok (.getfield 146, 3) := by decide +kernel
theorem dX5_oftenTogether_45 : decode cX5_oftenTogether 45 = .ok (.iload 5, 2) := by decide +kernel
theorem dX5_oftenTogether_47 : decode cX5_oftenTogether 47 = .ok (.iaload, 1) := by decide +kernel
theorem dX5_oftenTogether_48 : decode cX5_oftenTogether 48 = .ok (.aload_n 0, 1) := by decide +kernel
theorem dX5_oftenTogether_49 : decode cX5_oftenTogether 49 = .ok (.getfield 38, 3) := by decide +kernel
theorem dX5_oftenTogether_52 : decode cX5_oftenTogether 52 = .ok (.getfield 155, 3) := by decide +kernel
theorem dX5_oftenTogether_55 : decode cX5_oftenTogether 55 = .ok (.iload 5, 2) := by decide +kernel
theorem dX5_oftenTogether_57 : decode cX5_oftenTogether 57 = .ok (.iaload, 1) := by decide +kernel
theorem dX5_oftenTogether_58 : decode cX5_oftenTogether 58 = .ok (.invokevirtual 133, 3) := by decide +kernel
theorem dX5_oftenTogether_61 : decode cX5_oftenTogether 61 = .ok (.i2l, 1) := by decide +kernel
theorem dX5_oftenTogether_62 : decode cX5_oftenTogether 62 = .ok (.lmul, 1) := by decide +kernel
theorem dX5_oftenTogether_63 : decode cX5_oftenTogether 63 = .ok (.lstore_n 3, 1) := by decide +kernel
theorem dX5_oftenTogether_64 : decode cX5_oftenTogether 64 = .ok (.iinc 5 1, 3) := by decide +kernel
theorem dX5_oftenTogether_67 : decode cX5_oftenTogether 67 = .ok (.goto (-62), 3) := by decide +kernel
theorem dX5_oftenTogether_70 : decode cX5_oftenTogether 70 = .ok (.lload_n 3, 1) := by decide +kernel
theorem dX5_oftenTogether_71 : decode cX5_oftenTogether 71 = .ok (.lreturn, 1) := by decide +kernel
set_option maxRecDepth 20000 in
theorem ggX5_allWeights_X0_bagsOf : GoodIn wsX5_allWeights wsX0_bagsOf := goodIn_r _ [9, 10, 11, 12, 13, 8, 14, 15, 16, 83, 84, 85, 86, 87, 88, 89, 90, 91, 92, 93, 94, 95, 96, 97] (by decide +kernel) (by decide +kernel)
set_option maxRecDepth 20000 in
theorem gX5_allWeights_X0_bagsOf : GoodIn wsX5_allWeights (wsV RX5 108 RX0 yX0_bagsOf wsX0_bagsOf) := goodIn_app (goodIn_of _ (by decide +kernel)) ggX5_allWeights_X0_bagsOf
set_option maxRecDepth 20000 in
theorem ggX5_allWeights_X5_oftenTogether : GoodIn wsX5_allWeights wsX5_oftenTogether := goodIn_r _ [21, 1, 22, 23, 2, 24, 25, 26, 27, 28, 29, 30, 31, 32, 33, 34, 35, 36, 37, 38, 39, 40, 41, 42, 43, 44, 45, 46, 47, 48, 49, 50, 51, 52, 53, 54, 55, 56, 57, 58, 59, 60, 61, 62, 63, 64, 65, 66, 67, 68, 69, 70, 83, 84, 85, 86, 87, 88, 89, 90, 91, 92, 93, 94, 95, 96, 97, 71, 72, 73, 74, 75, 76, 77, 78, 79, 80, 81, 82] (by decide +kernel) (by decide +kernel)
set_option maxRecDepth 20000 in
theorem gX5_allWeights_X5_oftenTogether : GoodIn wsX5_allWeights (wsV RX5 216 RX5 yX5_oftenTogether wsX5_oftenTogether) := goodIn_app (goodIn_of _ (by decide +kernel)) ggX5_allWeights_X5_oftenTogether
theorem dX5_allWeights_0 : decode cX5_allWeights 0 = .ok (.aload_n 0, 1) := by decide +kernel
theorem dX5_allWeights_1 : decode cX5_allWeights 1 = .ok (.getfield 38, 3) := by decide +kernel
theorem dX5_allWeights_4 : decode cX5_allWeights 4 = .ok (.iload_n 1, 1) := by decide +kernel
theorem dX5_allWeights_5 : decode cX5_allWeights 5 = .ok (.bipush 15, 2) := by decide +kernel
theorem dX5_allWeights_7 : decode cX5_allWeights 7 = .ok (.invokevirtual 108, 3) := by decide +kernel
theorem dX5_allWeights_10 : decode cX5_allWeights 10 = .ok (.bipush 6, 2) := by decide +kernel
theorem dX5_allWeights_12 : decode cX5_allWeights 12 = .ok (.if_icmp .le 5, 3) := by decide +kernel
theorem dX5_allWeights_15 : decode cX5_allWeights 15 = .ok (.lconst 0, 1) := by decide +kernel
theorem dX5_allWeights_16 : decode cX5_allWeights 16 = .ok (.lreturn, 1) := by decide +kernel
theorem dX5_allWeights_17 : decode cX5_allWeights 17 = .ok (.lconst 0, 1) := by decide +kernel
theorem dX5_allWeights_18 : decode cX5_allWeights 18 = .ok (.lstore_n 2, 1) := by decide +kernel
theorem dX5_allWeights_19 : decode cX5_allWeights 19 = .ok (.iconst 0, 1) := by decide +kernel
theorem dX5_allWeights_20 : decode cX5_allWeights 20 = .ok (.istore 4, 2) := by decide +kernel
theorem dX5_allWeights_22 : decode cX5_allWeights 22 = .ok (.iload 4, 2) := by decide +kernel
theorem dX5_allWeights_24 : decode cX5_allWeights 24 = .ok (.aload_n 0, 1) := by decide +kernel
theorem dX5_allWeights_25 : decode cX5_allWeights 25 = .ok (.getfield 16, 3) := by decide +kernel
theorem dX5_allWeights_28 : decode cX5_allWeights 28 = .ok (.getfield 230, 3) := by decide +kernel
theorem dX5_allWeights_31 : decode cX5_allWeights 31 = .ok (.if_icmp .ge 28, 3) := by decide +kernel
theorem dX5_allWeights_34 : decode cX5_allWeights 34 = .ok (.lload_n 2, 1) := by decide +kernel
theorem dX5_allWeights_35 : decode cX5_allWeights 35 = .ok (.aload_n 0, 1) := by decide +kernel
theorem dX5_allWeights_36 : decode cX5_allWeights 36 = .ok (.getfield 32, 3) := by decide +kernel
theorem dX5_allWeights_39 : decode cX5_allWeights 39 = .ok (.iload 4, 2) := by decide +kernel
theorem dX5_allWeights_41 : decode cX5_allWeights 41 = .ok (.iaload, 1) := by decide +kernel
theorem dX5_allWeights_42 : decode cX5_allWeights 42 = .ok (.i2l, 1) := by decide +kernel
theorem dX5_allWeights_43 : decode cX5_allWeights 43 = .ok (.aload_n 0, 1) := by decide +kernel
theorem dX5_allWeights_44 : decode cX5_allWeights 44 = .ok (.iload 4, 2) := by decide +kernel
theorem dX5_allWeights_46 : decode cX5_allWeights 46 = .ok (.iload_n 1, 1) := by decide +kernel
theorem dX5_allWeights_47 : decode cX5_allWeights 47 = .ok (.invokevirtual 216, 3) := by decide +kernel
theorem dX5_allWeights_50 : decode cX5_allWeights 50 = .ok (.lmul, 1) := by decide +kernel
theorem dX5_allWeights_51 : decode cX5_allWeights 51 = .ok (.ladd, 1) := by decide +kernel
theorem dX5_allWeights_52 : decode cX5_allWeights 52 = .ok (.lstore_n 2, 1) := by decide +kernel
theorem dX5_allWeights_53 : decode cX5_allWeights 53 = .ok (.iinc 4 1, 3) := by decide +kernel
theorem dX5_allWeights_56 : decode cX5_allWeights 56 = .ok (.goto (-34), 3) := by decide +kernel
theorem dX5_allWeights_59 : decode cX5_allWeights 59 = .ok (.lload_n 2, 1) := by decide +kernel
theorem dX5_allWeights_60 : decode cX5_allWeights 60 = .ok (.lreturn, 1) := by decide +kernel
set_option maxRecDepth 20000 in
theorem ggX5_distance_X2_howOften : GoodIn wsX5_distance wsX2_howOften := goodIn_r _ [10, 11, 12, 13, 14, 9, 15, 16, 17, 18, 19, 20, 21, 22, 23, 24, 25, 26, 27, 28, 29, 30, 31, 32, 33, 34, 51, 52, 53, 54, 55, 56, 57, 58, 59, 60, 61, 62] (by decide +kernel) (by decide +kernel)
set_option maxRecDepth 20000 in
theorem gX5_distance_X2_howOften : GoodIn wsX5_distance (wsV RX5 133 RX2 yX2_howOften wsX2_howOften) := goodIn_app (goodIn_of _ (by decide +kernel)) ggX5_distance_X2_howOften
theorem dX5_distance_0 : decode cX5_distance 0 = .ok (.iconst 0, 1) := by decide +kernel
theorem dX5_distance_1 : decode cX5_distance 1 = .ok (.istore 5, 2) := by decide +kernel
theorem dX5_distance_3 : decode cX5_distance 3 = .ok (.iconst (-1), 1) := by decide +kernel
theorem dX5_distance_4 : decode cX5_distance 4 = .ok (.istore 6, 2) := by decide +kernel
theorem dX5_distance_6 : decode cX5_distance 6 = .ok (.iload 6, 2) := by decide +kernel
theorem dX5_distance_8 : decode cX5_distance 8 = .ok (.bipush 100, 2) := by decide +kernel
theorem dX5_distance_10 : decode cX5_distance 10 = .ok (.if_icmp .gt 44, 3) := by decide +kernel
theorem dX5_distance_13 : decode cX5_distance 13 = .ok (.iload 5, 2) := by decide +kernel
theorem dX5_distance_15 : decode cX5_distance 15 = .ok (.aload_n 0, 1) := by decide +kernel
theorem dX5_distance_16 : decode cX5_distance 16 = .ok (.getfield 16, 3) := by decide +kernel
theorem dX5_distance_19 : decode cX5_distance 19 = .ok (.iload_n 1, 1) := by decide +kernel
theorem dX5_distance_20 : decode cX5_distance 20 = .ok (.iload_n 3, 1) := by decide +kernel
theorem dX5_distance_21 : decode cX5_distance 21 = .ok (.iload 4, 2) := by decide +kernel
theorem dX5_distance_23 : decode cX5_distance 23 = .ok (.iload 6, 2) := by decide +kernel
theorem dX5_distance_25 : decode cX5_distance 25 = .ok (.invokevirtual 133, 3) := by decide +kernel
theorem dX5_distance_28 : decode cX5_distance 28 = .ok (.aload_n 0, 1) := by decide +kernel
theorem dX5_distance_29 : decode cX5_distance 29 = .ok (.getfield 16, 3) := by decide +kernel
theorem dX5_distance_32 : decode cX5_distance 32 = .ok (.iload_n 2, 1) := by decide +kernel
theorem dX5_distance_33 : decode cX5_distance 33 = .ok (.iload_n 3, 1) := by decide +kernel
theorem dX5_distance_34 : decode cX5_distance 34 = .ok (.iload 4, 2) := by decide +kernel
theorem dX5_distance_36 : decode cX5_distance 36 = .ok (.iload 6, 2) := by decide +kernel
theorem dX5_distance_38 : decode cX5_distance 38 = .ok (.invokevirtual 133, 3) := by decide +kernel
theorem dX5_distance_41 : decode cX5_distance 41 = .ok (.isub, 1) := by decide +kernel
theorem dX5_distance_42 : decode cX5_distance 42 = .ok (.invokestatic 348, 3) := by decide +kernel
theorem dX5_distance_45 : decode cX5_distance 45 = .ok (.iadd, 1) := by decide +kernel
theorem dX5_distance_46 : decode cX5_distance 46 = .ok (.istore 5, 2) := by decide +kernel
theorem dX5_distance_48 : decode cX5_distance 48 = .ok (.iinc 6 1, 3) := by decide +kernel
theorem dX5_distance_51 : decode cX5_distance 51 = .ok (.goto (-45), 3) := by decide +kernel
theorem dX5_distance_54 : decode cX5_distance 54 = .ok (.iload 5, 2) := by decide +kernel
theorem dX5_distance_56 : decode cX5_distance 56 = .ok (.ireturn, 1) := by decide +kernel
set_option maxRecDepth 20000 in
theorem ggX5_paidFor_X0_toldOf : GoodIn wsX5_paidFor wsX0_toldOf := goodIn_r _ [8, 9, 10, 11, 12, 13, 7, 14, 15, 16, 45, 46, 47, 48, 49, 50, 51, 52, 53, 54, 55, 56, 57, 58, 59] (by decide +kernel) (by decide +kernel)
set_option maxRecDepth 20000 in
theorem gX5_paidFor_X0_toldOf : GoodIn wsX5_paidFor (wsV RX5 350 RX0 yX0_toldOf wsX0_toldOf) := goodIn_app (goodIn_of _ (by decide +kernel)) ggX5_paidFor_X0_toldOf
theorem dX5_paidFor_0 : decode cX5_paidFor 0 = .ok (.aload_n 0, 1) := by decide +kernel
theorem dX5_paidFor_1 : decode cX5_paidFor 1 = .ok (.getfield 16, 3) := by decide +kernel
theorem dX5_paidFor_4 : decode cX5_paidFor 4 = .ok (.getfield 105, 3) := by decide +kernel
theorem dX5_paidFor_7 : decode cX5_paidFor 7 = .ok (.iload_n 1, 1) := by decide +kernel
theorem dX5_paidFor_8 : decode cX5_paidFor 8 = .ok (.iaload, 1) := by decide +kernel
theorem dX5_paidFor_9 : decode cX5_paidFor 9 = .ok (.i2l, 1) := by decide +kernel
theorem dX5_paidFor_10 : decode cX5_paidFor 10 = .ok (.aload_n 0, 1) := by decide +kernel
theorem dX5_paidFor_11 : decode cX5_paidFor 11 = .ok (.getfield 38, 3) := by decide +kernel
theorem dX5_paidFor_14 : decode cX5_paidFor 14 = .ok (.iload_n 1, 1) := by decide +kernel
theorem dX5_paidFor_15 : decode cX5_paidFor 15 = .ok (.invokevirtual 350, 3) := by decide +kernel
theorem dX5_paidFor_18 : decode cX5_paidFor 18 = .ok (.i2l, 1) := by decide +kernel
theorem dX5_paidFor_19 : decode cX5_paidFor 19 = .ok (.lmul, 1) := by decide +kernel
theorem dX5_paidFor_20 : decode cX5_paidFor 20 = .ok (.lreturn, 1) := by decide +kernel
set_option maxRecDepth 20000 in
theorem ggX5_trulyGiven_X0_toldOf : GoodIn wsX5_trulyGiven wsX0_toldOf := goodIn_r _ [6, 7, 8, 9, 10, 11, 5, 12, 13, 14, 36, 37, 38, 39, 40, 41, 42, 43, 44, 45, 46, 47, 48, 49, 50] (by decide +kernel) (by decide +kernel)
set_option maxRecDepth 20000 in
theorem gX5_trulyGiven_X0_toldOf : GoodIn wsX5_trulyGiven (wsV RX5 350 RX0 yX0_toldOf wsX0_toldOf) := goodIn_app (goodIn_of _ (by decide +kernel)) ggX5_trulyGiven_X0_toldOf
set_option maxRecDepth 20000 in
theorem ggX5_trulyGiven_X0_shortsOf : GoodIn wsX5_trulyGiven wsX0_shortsOf := goodIn_r _ [18, 7, 19, 9, 10, 11, 5, 12, 13, 14, 36, 37, 38, 39, 40, 41, 42, 43, 44, 45, 46, 47, 48, 49, 50] (by decide +kernel) (by decide +kernel)
set_option maxRecDepth 20000 in
theorem gX5_trulyGiven_X0_shortsOf : GoodIn wsX5_trulyGiven (wsV RX5 273 RX0 yX0_shortsOf wsX0_shortsOf) := goodIn_app (goodIn_of _ (by decide +kernel)) ggX5_trulyGiven_X0_shortsOf
theorem dX5_trulyGiven_0 : decode cX5_trulyGiven 0 = .ok (.aload_n 0, 1) := by decide +kernel
theorem dX5_trulyGiven_1 : decode cX5_trulyGiven 1 = .ok (.getfield 38, 3) := by decide +kernel
theorem dX5_trulyGiven_4 : decode cX5_trulyGiven 4 = .ok (.iload_n 1, 1) := by decide +kernel
theorem dX5_trulyGiven_5 : decode cX5_trulyGiven 5 = .ok (.invokevirtual 350, 3) := by decide +kernel
theorem dX5_trulyGiven_8 : decode cX5_trulyGiven 8 = .ok (.aload_n 0, 1) := by decide +kernel
theorem dX5_trulyGiven_9 : decode cX5_trulyGiven 9 = .ok (.getfield 38, 3) := by decide +kernel
theorem dX5_trulyGiven_12 : decode cX5_trulyGiven 12 = .ok (.iload_n 1, 1) := by decide +kernel
theorem dX5_trulyGiven_13 : decode cX5_trulyGiven 13 = .ok (.bipush 15, 2) := by decide +kernel
theorem dX5_trulyGiven_15 : decode cX5_trulyGiven 15 = .ok (.invokevirtual 273, 3) := by decide +kernel
theorem dX5_trulyGiven_18 : decode cX5_trulyGiven 18 = .ok (.isub, 1) := by decide +kernel
theorem dX5_trulyGiven_19 : decode cX5_trulyGiven 19 = .ok (.i2l, 1) := by decide +kernel
theorem dX5_trulyGiven_20 : decode cX5_trulyGiven 20 = .ok (.lreturn, 1) := by decide +kernel
theorem dX5_sortOffs_0 : decode cX5_sortOffs 0 = .ok (.iconst 0, 1) := by decide +kernel
theorem dX5_sortOffs_1 : decode cX5_sortOffs 1 = .ok (.istore_n 2, 1) := by decide +kernel
theorem dX5_sortOffs_2 : decode cX5_sortOffs 2 = .ok (.iconst 0, 1) := by decide +kernel
theorem dX5_sortOffs_3 : decode cX5_sortOffs 3 = .ok (.istore_n 3, 1) := by decide +kernel
theorem dX5_sortOffs_4 : decode cX5_sortOffs 4 = .ok (.iload_n 3, 1) := by decide +kernel
theorem dX5_sortOffs_5 : decode cX5_sortOffs 5 = .ok (.aload_n 0, 1) := by decide +kernel
theorem dX5_sortOffs_6 : decode cX5_sortOffs 6 = .ok (.getfield 38, 3) := by decide +kernel
theorem dX5_sortOffs_9 : decode cX5_sortOffs 9 = .ok (.getfield 282, 3) := by decide +kernel
theorem dX5_sortOffs_12 : decode cX5_sortOffs 12 = .ok (.if_icmp .ge 92, 3) := by decide +kernel
theorem dX5_sortOffs_15 : decode cX5_sortOffs 15 = .ok (.aload_n 0, 1) := by decide +kernel
theorem dX5_sortOffs_16 : decode cX5_sortOffs 16 = .ok (.getfield 38, 3) := by decide +kernel
theorem dX5_sortOffs_19 : decode cX5_sortOffs 19 = .ok (.getfield 285, 3) := by decide +kernel
theorem dX5_sortOffs_22 : decode cX5_sortOffs 22 = .ok (.iload_n 3, 1) := by decide +kernel
theorem dX5_sortOffs_23 : decode cX5_sortOffs 23 = .ok (.iaload, 1) := by decide +kernel
theorem dX5_sortOffs_24 : decode cX5_sortOffs 24 = .ok (.iload_n 1, 1) := by decide +kernel
theorem dX5_sortOffs_25 : decode cX5_sortOffs 25 = .ok (.if_icmp .ne 73, 3) := by decide +kernel
theorem dX5_sortOffs_28 : decode cX5_sortOffs 28 = .ok (.iload_n 2, 1) := by decide +kernel
theorem dX5_sortOffs_29 : decode cX5_sortOffs 29 = .ok (.istore 4, 2) := by decide +kernel
theorem dX5_sortOffs_31 : decode cX5_sortOffs 31 = .ok (.iload 4, 2) := by decide +kernel
theorem dX5_sortOffs_33 : decode cX5_sortOffs 33 = .ok (.ifCond .le 46, 3) := by decide +kernel
theorem dX5_sortOffs_36 : decode cX5_sortOffs 36 = .ok (.aload_n 0, 1) := by decide +kernel
theorem dX5_sortOffs_37 : decode cX5_sortOffs 37 = .ok (.getfield 68, 3) := by decide +kernel
theorem dX5_sortOffs_40 : decode cX5_sortOffs 40 = .ok (.iload 4, 2) := by decide +kernel
theorem dX5_sortOffs_42 : decode cX5_sortOffs 42 = .ok (.iconst 1, 1) := by decide +kernel
theorem dX5_sortOffs_43 : decode cX5_sortOffs 43 = .ok (.isub, 1) := by decide +kernel
theorem dX5_sortOffs_44 : decode cX5_sortOffs 44 = .ok (.iaload, 1) := by decide +kernel
theorem dX5_sortOffs_45 : decode cX5_sortOffs 45 = .ok (.aload_n 0, 1) := by decide +kernel
theorem dX5_sortOffs_46 : decode cX5_sortOffs 46 = .ok (.getfield 38, 3) := by decide +kernel
theorem dX5_sortOffs_49 : decode cX5_sortOffs 49 = .ok (.getfield 291, 3) := by decide +kernel
theorem dX5_sortOffs_52 : decode cX5_sortOffs 52 = .ok (.iload_n 3, 1) := by decide +kernel
theorem dX5_sortOffs_53 : decode cX5_sortOffs 53 = .ok (.iaload, 1) := by decide +kernel
theorem dX5_sortOffs_54 : decode cX5_sortOffs 54 = .ok (.if_icmp .le 25, 3) := by decide +kernel
theorem dX5_sortOffs_57 : decode cX5_sortOffs 57 = .ok (.aload_n 0, 1) := by decide +kernel
theorem dX5_sortOffs_58 : decode cX5_sortOffs 58 = .ok (.getfield 68, 3) := by decide +kernel
theorem dX5_sortOffs_61 : decode cX5_sortOffs 61 = .ok (.iload 4, 2) := by decide +kernel
theorem dX5_sortOffs_63 : decode cX5_sortOffs 63 = .ok (.aload_n 0, 1) := by decide +kernel
theorem dX5_sortOffs_64 : decode cX5_sortOffs 64 = .ok (.getfield 68, 3) := by decide +kernel
theorem dX5_sortOffs_67 : decode cX5_sortOffs 67 = .ok (.iload 4, 2) := by decide +kernel
theorem dX5_sortOffs_69 : decode cX5_sortOffs 69 = .ok (.iconst 1, 1) := by decide +kernel
theorem dX5_sortOffs_70 : decode cX5_sortOffs 70 = .ok (.isub, 1) := by decide +kernel
theorem dX5_sortOffs_71 : decode cX5_sortOffs 71 = .ok (.iaload, 1) := by decide +kernel
theorem dX5_sortOffs_72 : decode cX5_sortOffs 72 = .ok (.iastore, 1) := by decide +kernel
theorem dX5_sortOffs_73 : decode cX5_sortOffs 73 = .ok (.iinc 4 (-1), 3) := by decide +kernel
theorem dX5_sortOffs_76 : decode cX5_sortOffs 76 = .ok (.goto (-45), 3) := by decide +kernel
theorem dX5_sortOffs_79 : decode cX5_sortOffs 79 = .ok (.aload_n 0, 1) := by decide +kernel
theorem dX5_sortOffs_80 : decode cX5_sortOffs 80 = .ok (.getfield 68, 3) := by decide +kernel
theorem dX5_sortOffs_83 : decode cX5_sortOffs 83 = .ok (.iload 4, 2) := by decide +kernel
theorem dX5_sortOffs_85 : decode cX5_sortOffs 85 = .ok (.aload_n 0, 1) := by decide +kernel
theorem dX5_sortOffs_86 : decode cX5_sortOffs 86 = .ok (.getfield 38, 3) := by decide +kernel
theorem dX5_sortOffs_89 : decode cX5_sortOffs 89 = .ok (.getfield 291, 3) := by decide +kernel
theorem dX5_sortOffs_92 : decode cX5_sortOffs 92 = .ok (.iload_n 3, 1) := by decide +kernel
theorem dX5_sortOffs_93 : decode cX5_sortOffs 93 = .ok (.iaload, 1) := by decide +kernel
theorem dX5_sortOffs_94 : decode cX5_sortOffs 94 = .ok (.iastore, 1) := by decide +kernel
theorem dX5_sortOffs_95 : decode cX5_sortOffs 95 = .ok (.iinc 2 1, 3) := by decide +kernel
theorem dX5_sortOffs_98 : decode cX5_sortOffs 98 = .ok (.iinc 3 1, 3) := by decide +kernel
theorem dX5_sortOffs_101 : decode cX5_sortOffs 101 = .ok (.goto (-97), 3) := by decide +kernel
theorem dX5_sortOffs_104 : decode cX5_sortOffs 104 = .ok (.iload_n 2, 1) := by decide +kernel
theorem dX5_sortOffs_105 : decode cX5_sortOffs 105 = .ok (.ireturn, 1) := by decide +kernel
set_option maxRecDepth 20000 in
theorem ggX5_fillChances_X2_howOften : GoodIn wsX5_fillChances wsX2_howOften := goodIn_r _ [8, 9, 10, 11, 12, 7, 13, 14, 15, 16, 17, 18, 19, 20, 21, 22, 23, 24, 25, 26, 27, 28, 29, 30, 31, 32, 49, 50, 51, 52, 53, 54, 55, 56, 57, 58, 59, 60] (by decide +kernel) (by decide +kernel)
set_option maxRecDepth 20000 in
theorem gX5_fillChances_X2_howOften : GoodIn wsX5_fillChances (wsV RX5 133 RX2 yX2_howOften wsX2_howOften) := goodIn_app (goodIn_of _ (by decide +kernel)) ggX5_fillChances_X2_howOften
theorem dX5_fillChances_0 : decode cX5_fillChances 0 = .ok (.iconst 0, 1) := by decide +kernel
theorem dX5_fillChances_1 : decode cX5_fillChances 1 = .ok (.istore 4, 2) := by decide +kernel
theorem dX5_fillChances_3 : decode cX5_fillChances 3 = .ok (.iconst (-1), 1) := by decide +kernel
theorem dX5_fillChances_4 : decode cX5_fillChances 4 = .ok (.istore 5, 2) := by decide +kernel
theorem dX5_fillChances_6 : decode cX5_fillChances 6 = .ok (.iload 5, 2) := by decide +kernel
theorem dX5_fillChances_8 : decode cX5_fillChances 8 = .ok (.bipush 100, 2) := by decide +kernel
theorem dX5_fillChances_10 : decode cX5_fillChances 10 = .ok (.if_icmp .gt 49, 3) := by decide +kernel
theorem dX5_fillChances_13 : decode cX5_fillChances 13 = .ok (.aload_n 0, 1) := by decide +kernel
theorem dX5_fillChances_14 : decode cX5_fillChances 14 = .ok (.getfield 16, 3) := by decide +kernel
theorem dX5_fillChances_17 : decode cX5_fillChances 17 = .ok (.iload_n 1, 1) := by decide +kernel
theorem dX5_fillChances_18 : decode cX5_fillChances 18 = .ok (.iload_n 2, 1) := by decide +kernel
theorem dX5_fillChances_19 : decode cX5_fillChances 19 = .ok (.iload_n 3, 1) := by decide +kernel
theorem dX5_fillChances_20 : decode cX5_fillChances 20 = .ok (.iload 5, 2) := by decide +kernel
theorem dX5_fillChances_22 : decode cX5_fillChances 22 = .ok (.invokevirtual 133, 3) := by decide +kernel
theorem dX5_fillChances_25 : decode cX5_fillChances 25 = .ok (.istore 6, 2) := by decide +kernel
theorem dX5_fillChances_27 : decode cX5_fillChances 27 = .ok (.iload 6, 2) := by decide +kernel
theorem dX5_fillChances_29 : decode cX5_fillChances 29 = .ok (.ifCond .le 24, 3) := by decide +kernel
theorem dX5_fillChances_32 : decode cX5_fillChances 32 = .ok (.aload_n 0, 1) := by decide +kernel
theorem dX5_fillChances_33 : decode cX5_fillChances 33 = .ok (.getfield 71, 3) := by decide +kernel
theorem dX5_fillChances_36 : decode cX5_fillChances 36 = .ok (.iload 4, 2) := by decide +kernel
theorem dX5_fillChances_38 : decode cX5_fillChances 38 = .ok (.iload 5, 2) := by decide +kernel
theorem dX5_fillChances_40 : decode cX5_fillChances 40 = .ok (.iastore, 1) := by decide +kernel
theorem dX5_fillChances_41 : decode cX5_fillChances 41 = .ok (.aload_n 0, 1) := by decide +kernel
theorem dX5_fillChances_42 : decode cX5_fillChances 42 = .ok (.getfield 74, 3) := by decide +kernel
theorem dX5_fillChances_45 : decode cX5_fillChances 45 = .ok (.iload 4, 2) := by decide +kernel
theorem dX5_fillChances_47 : decode cX5_fillChances 47 = .ok (.iload 6, 2) := by decide +kernel
theorem dX5_fillChances_49 : decode cX5_fillChances 49 = .ok (.iastore, 1) := by decide +kernel
theorem dX5_fillChances_50 : decode cX5_fillChances 50 = .ok (.iinc 4 1, 3) := by decide +kernel
theorem dX5_fillChances_53 : decode cX5_fillChances 53 = .ok (.iinc 5 1, 3) := by decide +kernel
theorem dX5_fillChances_56 : decode cX5_fillChances 56 = .ok (.goto (-50), 3) := by decide +kernel
theorem dX5_fillChances_59 : decode cX5_fillChances 59 = .ok (.iload 4, 2) := by decide +kernel
theorem dX5_fillChances_61 : decode cX5_fillChances 61 = .ok (.ireturn, 1) := by decide +kernel
theorem dX5_drawSteps_0 : decode cX5_drawSteps 0 = .ok (.aload_n 0, 1) := by decide +kernel
theorem dX5_drawSteps_1 : decode cX5_drawSteps 1 = .ok (.getfield 38, 3) := by decide +kernel
theorem dX5_drawSteps_4 : decode cX5_drawSteps 4 = .ok (.aload_n 0, 1) := by decide +kernel
theorem dX5_drawSteps_5 : decode cX5_drawSteps 5 = .ok (.getfield 38, 3) := by decide +kernel
theorem dX5_drawSteps_8 : decode cX5_drawSteps 8 = .ok (.getfield 42, 3) := by decide +kernel
theorem dX5_drawSteps_11 : decode cX5_drawSteps 11 = .ok (.ldc_w 353, 3) := by decide +kernel
theorem dX5_drawSteps_14 : decode cX5_drawSteps 14 = .ok (.imul, 1) := by decide +kernel
theorem dX5_drawSteps_15 : decode cX5_drawSteps 15 = .ok (.sipush 12345, 3) := by decide +kernel
theorem dX5_drawSteps_18 : decode cX5_drawSteps 18 = .ok (.iadd, 1) := by decide +kernel
theorem dX5_drawSteps_19 : decode cX5_drawSteps 19 = .ok (.putfield 42, 3) := by decide +kernel
theorem dX5_drawSteps_22 : decode cX5_drawSteps 22 = .ok (.aload_n 0, 1) := by decide +kernel
theorem dX5_drawSteps_23 : decode cX5_drawSteps 23 = .ok (.getfield 38, 3) := by decide +kernel
theorem dX5_drawSteps_26 : decode cX5_drawSteps 26 = .ok (.getfield 42, 3) := by decide +kernel
theorem dX5_drawSteps_29 : decode cX5_drawSteps 29 = .ok (.bipush 16, 2) := by decide +kernel
theorem dX5_drawSteps_31 : decode cX5_drawSteps 31 = .ok (.iushr, 1) := by decide +kernel
theorem dX5_drawSteps_32 : decode cX5_drawSteps 32 = .ok (.sipush 600, 3) := by decide +kernel
theorem dX5_drawSteps_35 : decode cX5_drawSteps 35 = .ok (.irem, 1) := by decide +kernel
theorem dX5_drawSteps_36 : decode cX5_drawSteps 36 = .ok (.istore_n 2, 1) := by decide +kernel
theorem dX5_drawSteps_37 : decode cX5_drawSteps 37 = .ok (.iconst 0, 1) := by decide +kernel
theorem dX5_drawSteps_38 : decode cX5_drawSteps 38 = .ok (.istore_n 3, 1) := by decide +kernel
theorem dX5_drawSteps_39 : decode cX5_drawSteps 39 = .ok (.iload_n 3, 1) := by decide +kernel
theorem dX5_drawSteps_40 : decode cX5_drawSteps 40 = .ok (.iload_n 1, 1) := by decide +kernel
theorem dX5_drawSteps_41 : decode cX5_drawSteps 41 = .ok (.if_icmp .ge 29, 3) := by decide +kernel
theorem dX5_drawSteps_44 : decode cX5_drawSteps 44 = .ok (.iload_n 2, 1) := by decide +kernel
theorem dX5_drawSteps_45 : decode cX5_drawSteps 45 = .ok (.aload_n 0, 1) := by decide +kernel
theorem dX5_drawSteps_46 : decode cX5_drawSteps 46 = .ok (.getfield 74, 3) := by decide +kernel
theorem dX5_drawSteps_49 : decode cX5_drawSteps 49 = .ok (.iload_n 3, 1) := by decide +kernel
theorem dX5_drawSteps_50 : decode cX5_drawSteps 50 = .ok (.iaload, 1) := by decide +kernel
theorem dX5_drawSteps_51 : decode cX5_drawSteps 51 = .ok (.isub, 1) := by decide +kernel
theorem dX5_drawSteps_52 : decode cX5_drawSteps 52 = .ok (.istore_n 2, 1) := by decide +kernel
theorem dX5_drawSteps_53 : decode cX5_drawSteps 53 = .ok (.iload_n 2, 1) := by decide +kernel
theorem dX5_drawSteps_54 : decode cX5_drawSteps 54 = .ok (.ifCond .ge 10, 3) := by decide +kernel
theorem dX5_drawSteps_57 : decode cX5_drawSteps 57 = .ok (.aload_n 0, 1) := by decide +kernel
theorem dX5_drawSteps_58 : decode cX5_drawSteps 58 = .ok (.getfield 71, 3) := by decide +kernel
theorem dX5_drawSteps_61 : decode cX5_drawSteps 61 = .ok (.iload_n 3, 1) := by decide +kernel
theorem dX5_drawSteps_62 : decode cX5_drawSteps 62 = .ok (.iaload, 1) := by decide +kernel
theorem dX5_drawSteps_63 : decode cX5_drawSteps 63 = .ok (.ireturn, 1) := by decide +kernel
theorem dX5_drawSteps_64 : decode cX5_drawSteps 64 = .ok (.iinc 3 1, 3) := by decide +kernel
theorem dX5_drawSteps_67 : decode cX5_drawSteps 67 = .ok (.goto (-28), 3) := by decide +kernel
theorem dX5_drawSteps_70 : decode cX5_drawSteps 70 = .ok (.iconst 0, 1) := by decide +kernel
theorem dX5_drawSteps_71 : decode cX5_drawSteps 71 = .ok (.ireturn, 1) := by decide +kernel
theorem dX5_asWay_0 : decode cX5_asWay 0 = .ok (.aload_n 0, 1) := by decide +kernel
theorem dX5_asWay_1 : decode cX5_asWay 1 = .ok (.dup, 1) := by decide +kernel
theorem dX5_asWay_2 : decode cX5_asWay 2 = .ok (.getfield 337, 3) := by decide +kernel
theorem dX5_asWay_5 : decode cX5_asWay 5 = .ok (.lconst 1, 1) := by decide +kernel
theorem dX5_asWay_6 : decode cX5_asWay 6 = .ok (.ladd, 1) := by decide +kernel
theorem dX5_asWay_7 : decode cX5_asWay 7 = .ok (.putfield 337, 3) := by decide +kernel
theorem dX5_asWay_10 : decode cX5_asWay 10 = .ok (.aload_n 0, 1) := by decide +kernel
theorem dX5_asWay_11 : decode cX5_asWay 11 = .ok (.getfield 38, 3) := by decide +kernel
theorem dX5_asWay_14 : decode cX5_asWay 14 = .ok (.getfield 152, 3) := by decide +kernel
theorem dX5_asWay_17 : decode cX5_asWay 17 = .ok (.iload_n 1, 1) := by decide +kernel
theorem dX5_asWay_18 : decode cX5_asWay 18 = .ok (.iaload, 1) := by decide +kernel
theorem dX5_asWay_19 : decode cX5_asWay 19 = .ok (.i2l, 1) := by decide +kernel
theorem dX5_asWay_20 : decode cX5_asWay 20 = .ok (.lreturn, 1) := by decide +kernel
set_option maxRecDepth 20000 in
theorem ggX5_asHonest_X5_asWay : GoodIn wsX5_asHonest wsX5_asWay := goodIn_r _ [8, 1, 9, 10, 11, 12, 13, 14, 15, 16, 17, 18, 19, 20, 21, 22, 23, 24, 25, 26, 27, 28, 29, 30, 31, 32, 33, 34, 35, 36, 37, 38, 39, 40, 41] (by decide +kernel) (by decide +kernel)
set_option maxRecDepth 20000 in
theorem gX5_asHonest_X5_asWay : GoodIn wsX5_asHonest (wsV RX5 307 RX5 yX5_asWay wsX5_asWay) := goodIn_app (goodIn_of _ (by decide +kernel)) ggX5_asHonest_X5_asWay
theorem dX5_asHonest_0 : decode cX5_asHonest 0 = .ok (.aload_n 0, 1) := by decide +kernel
theorem dX5_asHonest_1 : decode cX5_asHonest 1 = .ok (.dup, 1) := by decide +kernel
theorem dX5_asHonest_2 : decode cX5_asHonest 2 = .ok (.getfield 337, 3) := by decide +kernel
theorem dX5_asHonest_5 : decode cX5_asHonest 5 = .ok (.ldc2_w 192, 3) := by decide +kernel
theorem dX5_asHonest_8 : decode cX5_asHonest 8 = .ok (.ladd, 1) := by decide +kernel
theorem dX5_asHonest_9 : decode cX5_asHonest 9 = .ok (.putfield 337, 3) := by decide +kernel
theorem dX5_asHonest_12 : decode cX5_asHonest 12 = .ok (.aload_n 0, 1) := by decide +kernel
theorem dX5_asHonest_13 : decode cX5_asHonest 13 = .ok (.iload_n 1, 1) := by decide +kernel
theorem dX5_asHonest_14 : decode cX5_asHonest 14 = .ok (.invokevirtual 307, 3) := by decide +kernel
theorem dX5_asHonest_17 : decode cX5_asHonest 17 = .ok (.ldc2_w 354, 3) := by decide +kernel
theorem dX5_asHonest_20 : decode cX5_asHonest 20 = .ok (.ldiv, 1) := by decide +kernel
theorem dX5_asHonest_21 : decode cX5_asHonest 21 = .ok (.lreturn, 1) := by decide +kernel
set_option maxRecDepth 20000 in
theorem ggX5_asScale_X5_asWay : GoodIn wsX5_asScale wsX5_asWay := goodIn_r _ [11, 1, 5, 12, 13, 14, 15, 16, 17, 18, 19, 20, 21, 22, 23, 24, 25, 26, 27, 28, 41, 42, 43, 44, 45, 46, 47, 48, 49, 50, 51, 52, 53, 54, 55] (by decide +kernel) (by decide +kernel)
set_option maxRecDepth 20000 in
theorem gX5_asScale_X5_asWay : GoodIn wsX5_asScale (wsV RX5 307 RX5 yX5_asWay wsX5_asWay) := goodIn_app (goodIn_of _ (by decide +kernel)) ggX5_asScale_X5_asWay
theorem dX5_asScale_0 : decode cX5_asScale 0 = .ok (.aload_n 0, 1) := by decide +kernel
theorem dX5_asScale_1 : decode cX5_asScale 1 = .ok (.dup, 1) := by decide +kernel
theorem dX5_asScale_2 : decode cX5_asScale 2 = .ok (.getfield 337, 3) := by decide +kernel
theorem dX5_asScale_5 : decode cX5_asScale 5 = .ok (.ldc2_w 262, 3) := by decide +kernel
theorem dX5_asScale_8 : decode cX5_asScale 8 = .ok (.ladd, 1) := by decide +kernel
theorem dX5_asScale_9 : decode cX5_asScale 9 = .ok (.putfield 337, 3) := by decide +kernel
theorem dX5_asScale_12 : decode cX5_asScale 12 = .ok (.aload_n 0, 1) := by decide +kernel
theorem dX5_asScale_13 : decode cX5_asScale 13 = .ok (.iload_n 1, 1) := by decide +kernel
theorem dX5_asScale_14 : decode cX5_asScale 14 = .ok (.invokevirtual 307, 3) := by decide +kernel
theorem dX5_asScale_17 : decode cX5_asScale 17 = .ok (.aload_n 0, 1) := by decide +kernel
theorem dX5_asScale_18 : decode cX5_asScale 18 = .ok (.getfield 16, 3) := by decide +kernel
theorem dX5_asScale_21 : decode cX5_asScale 21 = .ok (.getfield 99, 3) := by decide +kernel
theorem dX5_asScale_24 : decode cX5_asScale 24 = .ok (.aload_n 0, 1) := by decide +kernel
theorem dX5_asScale_25 : decode cX5_asScale 25 = .ok (.getfield 38, 3) := by decide +kernel
theorem dX5_asScale_28 : decode cX5_asScale 28 = .ok (.getfield 140, 3) := by decide +kernel
theorem dX5_asScale_31 : decode cX5_asScale 31 = .ok (.iload_n 1, 1) := by decide +kernel
theorem dX5_asScale_32 : decode cX5_asScale 32 = .ok (.iaload, 1) := by decide +kernel
theorem dX5_asScale_33 : decode cX5_asScale 33 = .ok (.iaload, 1) := by decide +kernel
theorem dX5_asScale_34 : decode cX5_asScale 34 = .ok (.i2l, 1) := by decide +kernel
theorem dX5_asScale_35 : decode cX5_asScale 35 = .ok (.lsub, 1) := by decide +kernel
theorem dX5_asScale_36 : decode cX5_asScale 36 = .ok (.lreturn, 1) := by decide +kernel
set_option maxRecDepth 20000 in
theorem ggX5_asThumb_X5_asWay : GoodIn wsX5_asThumb wsX5_asWay := goodIn_r _ [8, 1, 9, 10, 11, 12, 13, 14, 15, 16, 17, 18, 19, 20, 21, 22, 23, 24, 25, 26, 27, 28, 29, 30, 31, 32, 33, 34, 35, 36, 37, 38, 39, 40, 41] (by decide +kernel) (by decide +kernel)
set_option maxRecDepth 20000 in
theorem gX5_asThumb_X5_asWay : GoodIn wsX5_asThumb (wsV RX5 307 RX5 yX5_asWay wsX5_asWay) := goodIn_app (goodIn_of _ (by decide +kernel)) ggX5_asThumb_X5_asWay
theorem dX5_asThumb_0 : decode cX5_asThumb 0 = .ok (.aload_n 0, 1) := by decide +kernel
theorem dX5_asThumb_1 : decode cX5_asThumb 1 = .ok (.dup, 1) := by decide +kernel
theorem dX5_asThumb_2 : decode cX5_asThumb 2 = .ok (.getfield 337, 3) := by decide +kernel
theorem dX5_asThumb_5 : decode cX5_asThumb 5 = .ok (.ldc2_w 356, 3) := by decide +kernel
theorem dX5_asThumb_8 : decode cX5_asThumb 8 = .ok (.ladd, 1) := by decide +kernel
theorem dX5_asThumb_9 : decode cX5_asThumb 9 = .ok (.putfield 337, 3) := by decide +kernel
theorem dX5_asThumb_12 : decode cX5_asThumb 12 = .ok (.ldc2_w 354, 3) := by decide +kernel
theorem dX5_asThumb_15 : decode cX5_asThumb 15 = .ok (.aload_n 0, 1) := by decide +kernel
theorem dX5_asThumb_16 : decode cX5_asThumb 16 = .ok (.iload_n 1, 1) := by decide +kernel
theorem dX5_asThumb_17 : decode cX5_asThumb 17 = .ok (.invokevirtual 307, 3) := by decide +kernel
theorem dX5_asThumb_20 : decode cX5_asThumb 20 = .ok (.lmul, 1) := by decide +kernel
theorem dX5_asThumb_21 : decode cX5_asThumb 21 = .ok (.lreturn, 1) := by decide +kernel
set_option maxRecDepth 20000 in
theorem ggX5_asChoose_X5_asThumb : GoodIn wsX5_asChoose wsX5_asThumb := goodIn_r _ [9, 1, 10, 11, 12, 13, 14, 8, 15, 3, 16, 17, 18, 19, 20, 21, 22, 23, 24, 25, 26, 27, 28, 29, 30, 31, 32, 33, 34, 35, 36, 37, 38, 39, 40, 41, 42, 43, 44, 45, 46, 47] (by decide +kernel) (by decide +kernel)
set_option maxRecDepth 20000 in
theorem gX5_asChoose_X5_asThumb : GoodIn wsX5_asChoose (wsV RX5 316 RX5 yX5_asThumb wsX5_asThumb) := goodIn_app (goodIn_of _ (by decide +kernel)) ggX5_asChoose_X5_asThumb
theorem dX5_asChoose_0 : decode cX5_asChoose 0 = .ok (.aload_n 0, 1) := by decide +kernel
theorem dX5_asChoose_1 : decode cX5_asChoose 1 = .ok (.dup, 1) := by decide +kernel
theorem dX5_asChoose_2 : decode cX5_asChoose 2 = .ok (.getfield 337, 3) := by decide +kernel
theorem dX5_asChoose_5 : decode cX5_asChoose 5 = .ok (.ldc2_w 358, 3) := by decide +kernel
theorem dX5_asChoose_8 : decode cX5_asChoose 8 = .ok (.ladd, 1) := by decide +kernel
theorem dX5_asChoose_9 : decode cX5_asChoose 9 = .ok (.putfield 337, 3) := by decide +kernel
theorem dX5_asChoose_12 : decode cX5_asChoose 12 = .ok (.aload_n 0, 1) := by decide +kernel
theorem dX5_asChoose_13 : decode cX5_asChoose 13 = .ok (.iload_n 1, 1) := by decide +kernel
theorem dX5_asChoose_14 : decode cX5_asChoose 14 = .ok (.invokevirtual 316, 3) := by decide +kernel
theorem dX5_asChoose_17 : decode cX5_asChoose 17 = .ok (.aload_n 0, 1) := by decide +kernel
theorem dX5_asChoose_18 : decode cX5_asChoose 18 = .ok (.getfield 38, 3) := by decide +kernel
theorem dX5_asChoose_21 : decode cX5_asChoose 21 = .ok (.getfield 146, 3) := by decide +kernel
theorem dX5_asChoose_24 : decode cX5_asChoose 24 = .ok (.iload_n 1, 1) := by decide +kernel
theorem dX5_asChoose_25 : decode cX5_asChoose 25 = .ok (.iaload, 1) := by decide +kernel
theorem dX5_asChoose_26 : decode cX5_asChoose 26 = .ok (.i2l, 1) := by decide +kernel
theorem dX5_asChoose_27 : decode cX5_asChoose 27 = .ok (.ladd, 1) := by decide +kernel
theorem dX5_asChoose_28 : decode cX5_asChoose 28 = .ok (.lreturn, 1) := by decide +kernel
set_option maxRecDepth 20000 in
theorem ggX5_asRound_X5_asWay : GoodIn wsX5_asRound wsX5_asWay := goodIn_r _ [9, 1, 3, 10, 11, 12, 13, 14, 15, 16, 17, 18, 19, 20, 21, 22, 23, 24, 25, 26, 27, 28, 29, 30, 31, 32, 33, 34, 35, 36, 37, 38, 39, 40, 41] (by decide +kernel) (by decide +kernel)
set_option maxRecDepth 20000 in
theorem gX5_asRound_X5_asWay : GoodIn wsX5_asRound (wsV RX5 307 RX5 yX5_asWay wsX5_asWay) := goodIn_app (goodIn_of _ (by decide +kernel)) ggX5_asRound_X5_asWay
theorem dX5_asRound_0 : decode cX5_asRound 0 = .ok (.aload_n 0, 1) := by decide +kernel
theorem dX5_asRound_1 : decode cX5_asRound 1 = .ok (.dup, 1) := by decide +kernel
theorem dX5_asRound_2 : decode cX5_asRound 2 = .ok (.getfield 337, 3) := by decide +kernel
theorem dX5_asRound_5 : decode cX5_asRound 5 = .ok (.ldc2_w 360, 3) := by decide +kernel
theorem dX5_asRound_8 : decode cX5_asRound 8 = .ok (.ladd, 1) := by decide +kernel
theorem dX5_asRound_9 : decode cX5_asRound 9 = .ok (.putfield 337, 3) := by decide +kernel
theorem dX5_asRound_12 : decode cX5_asRound 12 = .ok (.aload_n 0, 1) := by decide +kernel
theorem dX5_asRound_13 : decode cX5_asRound 13 = .ok (.iload_n 1, 1) := by decide +kernel
theorem dX5_asRound_14 : decode cX5_asRound 14 = .ok (.invokevirtual 307, 3) := by decide +kernel
theorem dX5_asRound_17 : decode cX5_asRound 17 = .ok (.aload_n 0, 1) := by decide +kernel
theorem dX5_asRound_18 : decode cX5_asRound 18 = .ok (.getfield 38, 3) := by decide +kernel
theorem dX5_asRound_21 : decode cX5_asRound 21 = .ok (.getfield 155, 3) := by decide +kernel
theorem dX5_asRound_24 : decode cX5_asRound 24 = .ok (.iload_n 1, 1) := by decide +kernel
theorem dX5_asRound_25 : decode cX5_asRound 25 = .ok (.iaload, 1) := by decide +kernel
theorem dX5_asRound_26 : decode cX5_asRound 26 = .ok (.i2l, 1) := by decide +kernel
theorem dX5_asRound_27 : decode cX5_asRound 27 = .ok (.ladd, 1) := by decide +kernel
theorem dX5_asRound_28 : decode cX5_asRound 28 = .ok (.lreturn, 1) := by decide +kernel
set_option maxRecDepth 20000 in
theorem ggX5_asTold_X5_asRound : GoodIn wsX5_asTold wsX5_asRound := goodIn_r _ [9, 1, 10, 3, 11, 12, 13, 14, 8, 15, 16, 17, 18, 19, 20, 21, 22, 23, 24, 25, 26, 27, 28, 29, 30, 31, 32, 33, 34, 35, 36, 37, 38, 39, 40, 41, 42, 43, 44, 45, 46, 47] (by decide +kernel) (by decide +kernel)
set_option maxRecDepth 20000 in
theorem gX5_asTold_X5_asRound : GoodIn wsX5_asTold (wsV RX5 322 RX5 yX5_asRound wsX5_asRound) := goodIn_app (goodIn_of _ (by decide +kernel)) ggX5_asTold_X5_asRound
theorem dX5_asTold_0 : decode cX5_asTold 0 = .ok (.aload_n 0, 1) := by decide +kernel
theorem dX5_asTold_1 : decode cX5_asTold 1 = .ok (.dup, 1) := by decide +kernel
theorem dX5_asTold_2 : decode cX5_asTold 2 = .ok (.getfield 337, 3) := by decide +kernel
theorem dX5_asTold_5 : decode cX5_asTold 5 = .ok (.ldc2_w 362, 3) := by decide +kernel
theorem dX5_asTold_8 : decode cX5_asTold 8 = .ok (.ladd, 1) := by decide +kernel
theorem dX5_asTold_9 : decode cX5_asTold 9 = .ok (.putfield 337, 3) := by decide +kernel
theorem dX5_asTold_12 : decode cX5_asTold 12 = .ok (.aload_n 0, 1) := by decide +kernel
theorem dX5_asTold_13 : decode cX5_asTold 13 = .ok (.iload_n 1, 1) := by decide +kernel
theorem dX5_asTold_14 : decode cX5_asTold 14 = .ok (.invokevirtual 322, 3) := by decide +kernel
theorem dX5_asTold_17 : decode cX5_asTold 17 = .ok (.aload_n 0, 1) := by decide +kernel
theorem dX5_asTold_18 : decode cX5_asTold 18 = .ok (.getfield 38, 3) := by decide +kernel
theorem dX5_asTold_21 : decode cX5_asTold 21 = .ok (.getfield 143, 3) := by decide +kernel
theorem dX5_asTold_24 : decode cX5_asTold 24 = .ok (.iload_n 1, 1) := by decide +kernel
theorem dX5_asTold_25 : decode cX5_asTold 25 = .ok (.iaload, 1) := by decide +kernel
theorem dX5_asTold_26 : decode cX5_asTold 26 = .ok (.i2l, 1) := by decide +kernel
theorem dX5_asTold_27 : decode cX5_asTold 27 = .ok (.lsub, 1) := by decide +kernel
theorem dX5_asTold_28 : decode cX5_asTold 28 = .ok (.lreturn, 1) := by decide +kernel
