theorem dX6_even_0 : decode cX6_even 0 = .ok (.aload_n 0, 1) := by decide +kernel
theorem dX6_even_1 : decode cX6_even 1 = .ok (.iconst 0, 1) := by decide +kernel
theorem dX6_even_2 : decode cX6_even 2 = .ok (.putfield 54, 3) := by decide +kernel
theorem dX6_even_5 : decode cX6_even 5 = .ok (.aload_n 0, 1) := by decide +kernel
theorem dX6_even_6 : decode cX6_even 6 = .ok (.iload_n 1, 1) := by decide +kernel
theorem dX6_even_7 : decode cX6_even 7 = .ok (.invokevirtual 158, 3) := by decide +kernel
theorem dX6_even_10 : decode cX6_even 10 = .ok (.ifCond .eq 12, 3) := by decide +kernel
theorem dX6_even_13 : decode cX6_even 13 = .ok (.iload_n 2, 1) := by decide +kernel
theorem dX6_even_14 : decode cX6_even 14 = .ok (.iconst 0, 1) := by decide +kernel
theorem dX6_even_15 : decode cX6_even 15 = .ok (.iconst 2, 1) := by decide +kernel
theorem dX6_even_16 : decode cX6_even 16 = .ok (.invokestatic 61, 3) := by decide +kernel
theorem dX6_even_19 : decode cX6_even 19 = .ok (.ifCond .ne 7, 3) := by decide +kernel
theorem dX6_even_22 : decode cX6_even 22 = .ok (.ldc2_w 205, 3) := by decide +kernel
theorem dX6_even_25 : decode cX6_even 25 = .ok (.lreturn, 1) := by decide +kernel
theorem dX6_even_26 : decode cX6_even 26 = .ok (.aload_n 0, 1) := by decide +kernel
theorem dX6_even_27 : decode cX6_even 27 = .ok (.iload_n 1, 1) := by decide +kernel
theorem dX6_even_28 : decode cX6_even 28 = .ok (.invokevirtual 161, 3) := by decide +kernel
theorem dX6_even_31 : decode cX6_even 31 = .ok (.istore_n 3, 1) := by decide +kernel
theorem dX6_even_32 : decode cX6_even 32 = .ok (.iload_n 3, 1) := by decide +kernel
theorem dX6_even_33 : decode cX6_even 33 = .ok (.bipush 18, 2) := by decide +kernel
theorem dX6_even_35 : decode cX6_even 35 = .ok (.if_icmp .le 7, 3) := by decide +kernel
theorem dX6_even_38 : decode cX6_even 38 = .ok (.ldc2_w 207, 3) := by decide +kernel
theorem dX6_even_41 : decode cX6_even 41 = .ok (.lreturn, 1) := by decide +kernel
theorem dX6_even_42 : decode cX6_even 42 = .ok (.iconst 0, 1) := by decide +kernel
theorem dX6_even_43 : decode cX6_even 43 = .ok (.istore 4, 2) := by decide +kernel
theorem dX6_even_45 : decode cX6_even 45 = .ok (.iconst 0, 1) := by decide +kernel
theorem dX6_even_46 : decode cX6_even 46 = .ok (.istore 5, 2) := by decide +kernel
theorem dX6_even_48 : decode cX6_even 48 = .ok (.iload 5, 2) := by decide +kernel
theorem dX6_even_50 : decode cX6_even 50 = .ok (.aload_n 0, 1) := by decide +kernel
theorem dX6_even_51 : decode cX6_even 51 = .ok (.getfield 7, 3) := by decide +kernel
theorem dX6_even_54 : decode cX6_even 54 = .ok (.iconst 0, 1) := by decide +kernel
theorem dX6_even_55 : decode cX6_even 55 = .ok (.iaload, 1) := by decide +kernel
theorem dX6_even_56 : decode cX6_even 56 = .ok (.if_icmp .ge 39, 3) := by decide +kernel
theorem dX6_even_59 : decode cX6_even 59 = .ok (.iload 4, 2) := by decide +kernel
theorem dX6_even_61 : decode cX6_even 61 = .ok (.aload_n 0, 1) := by decide +kernel
theorem dX6_even_62 : decode cX6_even 62 = .ok (.iload 5, 2) := by decide +kernel
theorem dX6_even_64 : decode cX6_even 64 = .ok (.iconst 0, 1) := by decide +kernel
theorem dX6_even_65 : decode cX6_even 65 = .ok (.invokevirtual 155, 3) := by decide +kernel
theorem dX6_even_68 : decode cX6_even 68 = .ok (.iload_n 1, 1) := by decide +kernel
theorem dX6_even_69 : decode cX6_even 69 = .ok (.if_icmp .ne 16, 3) := by decide +kernel
theorem dX6_even_72 : decode cX6_even 72 = .ok (.aload_n 0, 1) := by decide +kernel
theorem dX6_even_73 : decode cX6_even 73 = .ok (.iload 5, 2) := by decide +kernel
theorem dX6_even_75 : decode cX6_even 75 = .ok (.invokevirtual 191, 3) := by decide +kernel
theorem dX6_even_78 : decode cX6_even 78 = .ok (.ifCond .ne 7, 3) := by decide +kernel
theorem dX6_even_81 : decode cX6_even 81 = .ok (.iconst 1, 1) := by decide +kernel
theorem dX6_even_82 : decode cX6_even 82 = .ok (.goto 4, 3) := by decide +kernel
theorem dX6_even_85 : decode cX6_even 85 = .ok (.iconst 0, 1) := by decide +kernel
theorem dX6_even_86 : decode cX6_even 86 = .ok (.iadd, 1) := by decide +kernel
theorem dX6_even_87 : decode cX6_even 87 = .ok (.istore 4, 2) := by decide +kernel
theorem dX6_even_89 : decode cX6_even 89 = .ok (.iinc 5 1, 3) := by decide +kernel
theorem dX6_even_92 : decode cX6_even 92 = .ok (.goto (-44), 3) := by decide +kernel
theorem dX6_even_95 : decode cX6_even 95 = .ok (.iload_n 2, 1) := by decide +kernel
theorem dX6_even_96 : decode cX6_even 96 = .ok (.ifCond .ne 19, 3) := by decide +kernel
theorem dX6_even_99 : decode cX6_even 99 = .ok (.aload_n 0, 1) := by decide +kernel
theorem dX6_even_100 : decode cX6_even 100 = .ok (.iload_n 3, 1) := by decide +kernel
theorem dX6_even_101 : decode cX6_even 101 = .ok (.iload 4, 2) := by decide +kernel
theorem dX6_even_103 : decode cX6_even 103 = .ok (.aload_n 0, 1) := by decide +kernel
theorem dX6_even_104 : decode cX6_even 104 = .ok (.getfield 27, 3) := by decide +kernel
theorem dX6_even_107 : decode cX6_even 107 = .ok (.iconst 1, 1) := by decide +kernel
theorem dX6_even_108 : decode cX6_even 108 = .ok (.iaload, 1) := by decide +kernel
theorem dX6_even_109 : decode cX6_even 109 = .ok (.invokevirtual 209, 3) := by decide +kernel
theorem dX6_even_112 : decode cX6_even 112 = .ok (.goto 21, 3) := by decide +kernel
theorem dX6_even_115 : decode cX6_even 115 = .ok (.iload_n 2, 1) := by decide +kernel
theorem dX6_even_116 : decode cX6_even 116 = .ok (.iconst 1, 1) := by decide +kernel
theorem dX6_even_117 : decode cX6_even 117 = .ok (.if_icmp .ne 13, 3) := by decide +kernel
theorem dX6_even_120 : decode cX6_even 120 = .ok (.ldc2_w 213, 3) := by decide +kernel
theorem dX6_even_123 : decode cX6_even 123 = .ok (.iload_n 3, 1) := by decide +kernel
theorem dX6_even_124 : decode cX6_even 124 = .ok (.invokestatic 202, 3) := by decide +kernel
theorem dX6_even_127 : decode cX6_even 127 = .ok (.goto 6, 3) := by decide +kernel
theorem dX6_even_130 : decode cX6_even 130 = .ok (.iload 4, 2) := by decide +kernel
theorem dX6_even_132 : decode cX6_even 132 = .ok (.i2l, 1) := by decide +kernel
theorem dX6_even_133 : decode cX6_even 133 = .ok (.lreturn, 1) := by decide +kernel
set_option maxRecDepth 20000 in
theorem ggX6_trial_X6_isStall : GoodIn wsX6_trial wsX6_isStall := goodIn_r _ [7, 8, 9, 10, 6, 11, 16, 17, 18, 19, 20, 21, 22, 23, 24, 25, 26, 27, 28, 29, 30, 31, 32, 33, 34, 35, 36, 37, 38, 39, 40, 41, 42, 43, 44] (by decide +kernel) (by decide +kernel)
set_option maxRecDepth 20000 in
theorem gX6_trial_X6_isStall : GoodIn wsX6_trial (wsV RX6 158 RX6 yX6_isStall wsX6_isStall) := goodIn_app (goodIn_of _ (by decide +kernel)) ggX6_trial_X6_isStall
set_option maxRecDepth 20000 in
theorem ggX6_trial_X6_in : GoodIn wsX6_trial wsX6_in := goodIn_r _ [11] (by decide +kernel) (by decide +kernel)
set_option maxRecDepth 20000 in
theorem gX6_trial_X6_in : GoodIn wsX6_trial (va_wsS RX6 61 yX6_in wsX6_in) := goodIn_app (goodIn_of _ (by decide +kernel)) ggX6_trial_X6_in
set_option maxRecDepth 20000 in
theorem ggX6_trial_X6_trialsOf : GoodIn wsX6_trial wsX6_trialsOf := goodIn_r _ [15, 2, 16, 17, 18, 19, 20, 21, 22, 23, 24, 25, 26, 27, 28, 29, 30, 31, 32, 33, 34, 35, 36, 37, 38, 39, 40, 41, 42, 43, 44] (by decide +kernel) (by decide +kernel)
set_option maxRecDepth 20000 in
theorem gX6_trial_X6_trialsOf : GoodIn wsX6_trial (wsV RX6 164 RX6 yX6_trialsOf wsX6_trialsOf) := goodIn_app (goodIn_of _ (by decide +kernel)) ggX6_trial_X6_trialsOf
theorem dX6_trial_0 : decode cX6_trial 0 = .ok (.aload_n 0, 1) := by decide +kernel
theorem dX6_trial_1 : decode cX6_trial 1 = .ok (.iconst 0, 1) := by decide +kernel
theorem dX6_trial_2 : decode cX6_trial 2 = .ok (.putfield 54, 3) := by decide +kernel
theorem dX6_trial_5 : decode cX6_trial 5 = .ok (.aload_n 0, 1) := by decide +kernel
theorem dX6_trial_6 : decode cX6_trial 6 = .ok (.iload_n 1, 1) := by decide +kernel
theorem dX6_trial_7 : decode cX6_trial 7 = .ok (.invokevirtual 158, 3) := by decide +kernel
theorem dX6_trial_10 : decode cX6_trial 10 = .ok (.ifCond .eq 37, 3) := by decide +kernel
theorem dX6_trial_13 : decode cX6_trial 13 = .ok (.iload_n 2, 1) := by decide +kernel
theorem dX6_trial_14 : decode cX6_trial 14 = .ok (.iconst 0, 1) := by decide +kernel
theorem dX6_trial_15 : decode cX6_trial 15 = .ok (.sipush 365, 3) := by decide +kernel
theorem dX6_trial_18 : decode cX6_trial 18 = .ok (.invokestatic 61, 3) := by decide +kernel
theorem dX6_trial_21 : decode cX6_trial 21 = .ok (.ifCond .eq 26, 3) := by decide +kernel
theorem dX6_trial_24 : decode cX6_trial 24 = .ok (.iload_n 3, 1) := by decide +kernel
theorem dX6_trial_25 : decode cX6_trial 25 = .ok (.iconst 1, 1) := by decide +kernel
theorem dX6_trial_26 : decode cX6_trial 26 = .ok (.sipush 999, 3) := by decide +kernel
theorem dX6_trial_29 : decode cX6_trial 29 = .ok (.invokestatic 61, 3) := by decide +kernel
theorem dX6_trial_32 : decode cX6_trial 32 = .ok (.ifCond .eq 15, 3) := by decide +kernel
theorem dX6_trial_35 : decode cX6_trial 35 = .ok (.iload 4, 2) := by decide +kernel
theorem dX6_trial_37 : decode cX6_trial 37 = .ok (.iconst 0, 1) := by decide +kernel
theorem dX6_trial_38 : decode cX6_trial 38 = .ok (.sipush 999, 3) := by decide +kernel
theorem dX6_trial_41 : decode cX6_trial 41 = .ok (.invokestatic 61, 3) := by decide +kernel
theorem dX6_trial_44 : decode cX6_trial 44 = .ok (.ifCond .ne 5, 3) := by decide +kernel
theorem dX6_trial_47 : decode cX6_trial 47 = .ok (.iconst (-1), 1) := by decide +kernel
theorem dX6_trial_48 : decode cX6_trial 48 = .ok (.ireturn, 1) := by decide +kernel
theorem dX6_trial_49 : decode cX6_trial 49 = .ok (.aload_n 0, 1) := by decide +kernel
theorem dX6_trial_50 : decode cX6_trial 50 = .ok (.getfield 7, 3) := by decide +kernel
theorem dX6_trial_53 : decode cX6_trial 53 = .ok (.sipush 181, 3) := by decide +kernel
theorem dX6_trial_56 : decode cX6_trial 56 = .ok (.iaload, 1) := by decide +kernel
theorem dX6_trial_57 : decode cX6_trial 57 = .ok (.bipush 20, 2) := by decide +kernel
theorem dX6_trial_59 : decode cX6_trial 59 = .ok (.if_icmp .ne 6, 3) := by decide +kernel
theorem dX6_trial_62 : decode cX6_trial 62 = .ok (.bipush (-3), 2) := by decide +kernel
theorem dX6_trial_64 : decode cX6_trial 64 = .ok (.ireturn, 1) := by decide +kernel
theorem dX6_trial_65 : decode cX6_trial 65 = .ok (.sipush 182, 3) := by decide +kernel
theorem dX6_trial_68 : decode cX6_trial 68 = .ok (.iconst 4, 1) := by decide +kernel
theorem dX6_trial_69 : decode cX6_trial 69 = .ok (.aload_n 0, 1) := by decide +kernel
theorem dX6_trial_70 : decode cX6_trial 70 = .ok (.getfield 7, 3) := by decide +kernel
theorem dX6_trial_73 : decode cX6_trial 73 = .ok (.sipush 181, 3) := by decide +kernel
theorem dX6_trial_76 : decode cX6_trial 76 = .ok (.iaload, 1) := by decide +kernel
theorem dX6_trial_77 : decode cX6_trial 77 = .ok (.imul, 1) := by decide +kernel
theorem dX6_trial_78 : decode cX6_trial 78 = .ok (.iadd, 1) := by decide +kernel
theorem dX6_trial_79 : decode cX6_trial 79 = .ok (.istore 5, 2) := by decide +kernel
theorem dX6_trial_81 : decode cX6_trial 81 = .ok (.aload_n 0, 1) := by decide +kernel
theorem dX6_trial_82 : decode cX6_trial 82 = .ok (.getfield 7, 3) := by decide +kernel
theorem dX6_trial_85 : decode cX6_trial 85 = .ok (.iload 5, 2) := by decide +kernel
theorem dX6_trial_87 : decode cX6_trial 87 = .ok (.iload_n 1, 1) := by decide +kernel
theorem dX6_trial_88 : decode cX6_trial 88 = .ok (.iastore, 1) := by decide +kernel
theorem dX6_trial_89 : decode cX6_trial 89 = .ok (.aload_n 0, 1) := by decide +kernel
theorem dX6_trial_90 : decode cX6_trial 90 = .ok (.getfield 7, 3) := by decide +kernel
theorem dX6_trial_93 : decode cX6_trial 93 = .ok (.iload 5, 2) := by decide +kernel
theorem dX6_trial_95 : decode cX6_trial 95 = .ok (.iconst 1, 1) := by decide +kernel
theorem dX6_trial_96 : decode cX6_trial 96 = .ok (.iadd, 1) := by decide +kernel
theorem dX6_trial_97 : decode cX6_trial 97 = .ok (.iload_n 2, 1) := by decide +kernel
theorem dX6_trial_98 : decode cX6_trial 98 = .ok (.iastore, 1) := by decide +kernel
theorem dX6_trial_99 : decode cX6_trial 99 = .ok (.aload_n 0, 1) := by decide +kernel
theorem dX6_trial_100 : decode cX6_trial 100 = .ok (.getfield 7, 3) := by decide +kernel
theorem dX6_trial_103 : decode cX6_trial 103 = .ok (.iload 5, 2) := by decide +kernel
theorem dX6_trial_105 : decode cX6_trial 105 = .ok (.iconst 2, 1) := by decide +kernel
theorem dX6_trial_106 : decode cX6_trial 106 = .ok (.iadd, 1) := by decide +kernel
theorem dX6_trial_107 : decode cX6_trial 107 = .ok (.iload_n 3, 1) := by decide +kernel
theorem dX6_trial_108 : decode cX6_trial 108 = .ok (.iastore, 1) := by decide +kernel
theorem dX6_trial_109 : decode cX6_trial 109 = .ok (.aload_n 0, 1) := by decide +kernel
theorem dX6_trial_110 : decode cX6_trial 110 = .ok (.getfield 7, 3) := by decide +kernel
theorem dX6_trial_113 : decode cX6_trial 113 = .ok (.iload 5, 2) := by decide +kernel
theorem dX6_trial_115 : decode cX6_trial 115 = .ok (.iconst 3, 1) := by decide +kernel
theorem dX6_trial_116 : decode cX6_trial 116 = .ok (.iadd, 1) := by decide +kernel
theorem dX6_trial_117 : decode cX6_trial 117 = .ok (.iload 4, 2) := by decide +kernel
theorem dX6_trial_119 : decode cX6_trial 119 = .ok (.iastore, 1) := by decide +kernel
theorem dX6_trial_120 : decode cX6_trial 120 = .ok (.aload_n 0, 1) := by decide +kernel
theorem dX6_trial_121 : decode cX6_trial 121 = .ok (.getfield 7, 3) := by decide +kernel
theorem dX6_trial_124 : decode cX6_trial 124 = .ok (.sipush 181, 3) := by decide +kernel
theorem dX6_trial_127 : decode cX6_trial 127 = .ok (.dup2, 1) := by decide +kernel
theorem dX6_trial_128 : decode cX6_trial 128 = .ok (.iaload, 1) := by decide +kernel
theorem dX6_trial_129 : decode cX6_trial 129 = .ok (.iconst 1, 1) := by decide +kernel
theorem dX6_trial_130 : decode cX6_trial 130 = .ok (.iadd, 1) := by decide +kernel
theorem dX6_trial_131 : decode cX6_trial 131 = .ok (.iastore, 1) := by decide +kernel
theorem dX6_trial_132 : decode cX6_trial 132 = .ok (.aload_n 0, 1) := by decide +kernel
theorem dX6_trial_133 : decode cX6_trial 133 = .ok (.iload_n 1, 1) := by decide +kernel
theorem dX6_trial_134 : decode cX6_trial 134 = .ok (.invokevirtual 164, 3) := by decide +kernel
theorem dX6_trial_137 : decode cX6_trial 137 = .ok (.ireturn, 1) := by decide +kernel
theorem dX6_offOf_0 : decode cX6_offOf 0 = .ok (.aload_n 0, 1) := by decide +kernel
theorem dX6_offOf_1 : decode cX6_offOf 1 = .ok (.getfield 7, 3) := by decide +kernel
theorem dX6_offOf_4 : decode cX6_offOf 4 = .ok (.sipush 182, 3) := by decide +kernel
theorem dX6_offOf_7 : decode cX6_offOf 7 = .ok (.iconst 4, 1) := by decide +kernel
theorem dX6_offOf_8 : decode cX6_offOf 8 = .ok (.iload_n 1, 1) := by decide +kernel
theorem dX6_offOf_9 : decode cX6_offOf 9 = .ok (.imul, 1) := by decide +kernel
theorem dX6_offOf_10 : decode cX6_offOf 10 = .ok (.iadd, 1) := by decide +kernel
theorem dX6_offOf_11 : decode cX6_offOf 11 = .ok (.iconst 3, 1) := by decide +kernel
theorem dX6_offOf_12 : decode cX6_offOf 12 = .ok (.iadd, 1) := by decide +kernel
theorem dX6_offOf_13 : decode cX6_offOf 13 = .ok (.iaload, 1) := by decide +kernel
theorem dX6_offOf_14 : decode cX6_offOf 14 = .ok (.aload_n 0, 1) := by decide +kernel
theorem dX6_offOf_15 : decode cX6_offOf 15 = .ok (.getfield 7, 3) := by decide +kernel
theorem dX6_offOf_18 : decode cX6_offOf 18 = .ok (.sipush 182, 3) := by decide +kernel
theorem dX6_offOf_21 : decode cX6_offOf 21 = .ok (.iconst 4, 1) := by decide +kernel
theorem dX6_offOf_22 : decode cX6_offOf 22 = .ok (.iload_n 1, 1) := by decide +kernel
theorem dX6_offOf_23 : decode cX6_offOf 23 = .ok (.imul, 1) := by decide +kernel
theorem dX6_offOf_24 : decode cX6_offOf 24 = .ok (.iadd, 1) := by decide +kernel
theorem dX6_offOf_25 : decode cX6_offOf 25 = .ok (.iconst 2, 1) := by decide +kernel
theorem dX6_offOf_26 : decode cX6_offOf 26 = .ok (.iadd, 1) := by decide +kernel
theorem dX6_offOf_27 : decode cX6_offOf 27 = .ok (.iaload, 1) := by decide +kernel
theorem dX6_offOf_28 : decode cX6_offOf 28 = .ok (.isub, 1) := by decide +kernel
theorem dX6_offOf_29 : decode cX6_offOf 29 = .ok (.ireturn, 1) := by decide +kernel
set_option maxRecDepth 20000 in
theorem ggX6_middle_X6_isStall : GoodIn wsX6_middle wsX6_isStall := goodIn_r _ [9, 10, 11, 12, 8, 13, 22, 23, 24, 25, 26, 27, 28, 29, 30, 31, 32, 33, 34, 35, 36, 37, 38, 39, 40, 41, 42, 43, 44, 45, 46, 47, 48, 49, 50] (by decide +kernel) (by decide +kernel)
set_option maxRecDepth 20000 in
theorem gX6_middle_X6_isStall : GoodIn wsX6_middle (wsV RX6 158 RX6 yX6_isStall wsX6_isStall) := goodIn_app (goodIn_of _ (by decide +kernel)) ggX6_middle_X6_isStall
set_option maxRecDepth 20000 in
theorem ggX6_middle_X6_trialsOf : GoodIn wsX6_middle wsX6_trialsOf := goodIn_r _ [17, 3, 22, 23, 24, 25, 26, 27, 28, 29, 30, 31, 32, 33, 34, 35, 36, 37, 38, 39, 40, 41, 42, 43, 44, 45, 46, 47, 48, 49, 50] (by decide +kernel) (by decide +kernel)
set_option maxRecDepth 20000 in
theorem gX6_middle_X6_trialsOf : GoodIn wsX6_middle (wsV RX6 164 RX6 yX6_trialsOf wsX6_trialsOf) := goodIn_app (goodIn_of _ (by decide +kernel)) ggX6_middle_X6_trialsOf
set_option maxRecDepth 20000 in
theorem ggX6_middle_X6_offOf : GoodIn wsX6_middle wsX6_offOf := goodIn_r _ [21, 3, 22, 23, 24, 25, 26, 27, 28, 29, 30, 31, 32, 33, 34, 35, 36, 37, 38, 39, 40, 41, 42, 43, 44, 45, 46, 47, 48, 49, 50] (by decide +kernel) (by decide +kernel)
set_option maxRecDepth 20000 in
theorem gX6_middle_X6_offOf : GoodIn wsX6_middle (wsV RX6 251 RX6 yX6_offOf wsX6_offOf) := goodIn_app (goodIn_of _ (by decide +kernel)) ggX6_middle_X6_offOf
theorem dX6_middle_0 : decode cX6_middle 0 = .ok (.aload_n 0, 1) := by decide +kernel
theorem dX6_middle_1 : decode cX6_middle 1 = .ok (.iconst 0, 1) := by decide +kernel
theorem dX6_middle_2 : decode cX6_middle 2 = .ok (.putfield 54, 3) := by decide +kernel
theorem dX6_middle_5 : decode cX6_middle 5 = .ok (.aload_n 0, 1) := by decide +kernel
theorem dX6_middle_6 : decode cX6_middle 6 = .ok (.iload_n 1, 1) := by decide +kernel
theorem dX6_middle_7 : decode cX6_middle 7 = .ok (.invokevirtual 158, 3) := by decide +kernel
theorem dX6_middle_10 : decode cX6_middle 10 = .ok (.ifCond .eq 11, 3) := by decide +kernel
theorem dX6_middle_13 : decode cX6_middle 13 = .ok (.aload_n 0, 1) := by decide +kernel
theorem dX6_middle_14 : decode cX6_middle 14 = .ok (.iload_n 1, 1) := by decide +kernel
theorem dX6_middle_15 : decode cX6_middle 15 = .ok (.invokevirtual 164, 3) := by decide +kernel
theorem dX6_middle_18 : decode cX6_middle 18 = .ok (.ifCond .ne 7, 3) := by decide +kernel
theorem dX6_middle_21 : decode cX6_middle 21 = .ok (.ldc2_w 189, 3) := by decide +kernel
theorem dX6_middle_24 : decode cX6_middle 24 = .ok (.lreturn, 1) := by decide +kernel
theorem dX6_middle_25 : decode cX6_middle 25 = .ok (.iconst 0, 1) := by decide +kernel
theorem dX6_middle_26 : decode cX6_middle 26 = .ok (.istore_n 2, 1) := by decide +kernel
theorem dX6_middle_27 : decode cX6_middle 27 = .ok (.iconst 0, 1) := by decide +kernel
theorem dX6_middle_28 : decode cX6_middle 28 = .ok (.istore_n 3, 1) := by decide +kernel
theorem dX6_middle_29 : decode cX6_middle 29 = .ok (.iload_n 3, 1) := by decide +kernel
theorem dX6_middle_30 : decode cX6_middle 30 = .ok (.aload_n 0, 1) := by decide +kernel
theorem dX6_middle_31 : decode cX6_middle 31 = .ok (.getfield 7, 3) := by decide +kernel
theorem dX6_middle_34 : decode cX6_middle 34 = .ok (.sipush 181, 3) := by decide +kernel
theorem dX6_middle_37 : decode cX6_middle 37 = .ok (.iaload, 1) := by decide +kernel
theorem dX6_middle_38 : decode cX6_middle 38 = .ok (.if_icmp .ge 88, 3) := by decide +kernel
theorem dX6_middle_41 : decode cX6_middle 41 = .ok (.aload_n 0, 1) := by decide +kernel
theorem dX6_middle_42 : decode cX6_middle 42 = .ok (.getfield 7, 3) := by decide +kernel
theorem dX6_middle_45 : decode cX6_middle 45 = .ok (.sipush 182, 3) := by decide +kernel
theorem dX6_middle_48 : decode cX6_middle 48 = .ok (.iconst 4, 1) := by decide +kernel
theorem dX6_middle_49 : decode cX6_middle 49 = .ok (.iload_n 3, 1) := by decide +kernel
theorem dX6_middle_50 : decode cX6_middle 50 = .ok (.imul, 1) := by decide +kernel
theorem dX6_middle_51 : decode cX6_middle 51 = .ok (.iadd, 1) := by decide +kernel
theorem dX6_middle_52 : decode cX6_middle 52 = .ok (.iaload, 1) := by decide +kernel
theorem dX6_middle_53 : decode cX6_middle 53 = .ok (.iload_n 1, 1) := by decide +kernel
theorem dX6_middle_54 : decode cX6_middle 54 = .ok (.if_icmp .ne 66, 3) := by decide +kernel
theorem dX6_middle_57 : decode cX6_middle 57 = .ok (.aload_n 0, 1) := by decide +kernel
theorem dX6_middle_58 : decode cX6_middle 58 = .ok (.iload_n 3, 1) := by decide +kernel
theorem dX6_middle_59 : decode cX6_middle 59 = .ok (.invokevirtual 251, 3) := by decide +kernel
theorem dX6_middle_62 : decode cX6_middle 62 = .ok (.istore 4, 2) := by decide +kernel
theorem dX6_middle_64 : decode cX6_middle 64 = .ok (.iload_n 2, 1) := by decide +kernel
theorem dX6_middle_65 : decode cX6_middle 65 = .ok (.istore 5, 2) := by decide +kernel
theorem dX6_middle_67 : decode cX6_middle 67 = .ok (.iload 5, 2) := by decide +kernel
theorem dX6_middle_69 : decode cX6_middle 69 = .ok (.ifCond .le 39, 3) := by decide +kernel
theorem dX6_middle_72 : decode cX6_middle 72 = .ok (.aload_n 0, 1) := by decide +kernel
theorem dX6_middle_73 : decode cX6_middle 73 = .ok (.getfield 51, 3) := by decide +kernel
theorem dX6_middle_76 : decode cX6_middle 76 = .ok (.iload 5, 2) := by decide +kernel
theorem dX6_middle_78 : decode cX6_middle 78 = .ok (.iconst 1, 1) := by decide +kernel
theorem dX6_middle_79 : decode cX6_middle 79 = .ok (.isub, 1) := by decide +kernel
theorem dX6_middle_80 : decode cX6_middle 80 = .ok (.iaload, 1) := by decide +kernel
theorem dX6_middle_81 : decode cX6_middle 81 = .ok (.iload 4, 2) := by decide +kernel
theorem dX6_middle_83 : decode cX6_middle 83 = .ok (.if_icmp .le 25, 3) := by decide +kernel
theorem dX6_middle_86 : decode cX6_middle 86 = .ok (.aload_n 0, 1) := by decide +kernel
theorem dX6_middle_87 : decode cX6_middle 87 = .ok (.getfield 51, 3) := by decide +kernel
theorem dX6_middle_90 : decode cX6_middle 90 = .ok (.iload 5, 2) := by decide +kernel
theorem dX6_middle_92 : decode cX6_middle 92 = .ok (.aload_n 0, 1) := by decide +kernel
theorem dX6_middle_93 : decode cX6_middle 93 = .ok (.getfield 51, 3) := by decide +kernel
theorem dX6_middle_96 : decode cX6_middle 96 = .ok (.iload 5, 2) := by decide +kernel
theorem dX6_middle_98 : decode cX6_middle 98 = .ok (.iconst 1, 1) := by decide +kernel
theorem dX6_middle_99 : decode cX6_middle 99 = .ok (.isub, 1) := by decide +kernel
theorem dX6_middle_100 : decode cX6_middle 100 = .ok (.iaload, 1) := by decide +kernel
theorem dX6_middle_101 : decode cX6_middle 101 = .ok (.iastore, 1) := by decide +kernel
theorem dX6_middle_102 : decode cX6_middle 102 = .ok (.iinc 5 (-1), 3) := by decide +kernel
theorem dX6_middle_105 : decode cX6_middle 105 = .ok (.goto (-38), 3) := by decide +kernel
theorem dX6_middle_108 : decode cX6_middle 108 = .ok (.aload_n 0, 1) := by decide +kernel
theorem dX6_middle_109 : decode cX6_middle 109 = .ok (.getfield 51, 3) := by decide +kernel
theorem dX6_middle_112 : decode cX6_middle 112 = .ok (.iload 5, 2) := by decide +kernel
theorem dX6_middle_114 : decode cX6_middle 114 = .ok (.iload 4, 2) := by decide +kernel
theorem dX6_middle_116 : decode cX6_middle 116 = .ok (.iastore, 1) := by decide +kernel
theorem dX6_middle_117 : decode cX6_middle 117 = .ok (.iinc 2 1, 3) := by decide +kernel
theorem dX6_middle_120 : decode cX6_middle 120 = .ok (.iinc 3 1, 3) := by decide +kernel
theorem dX6_middle_123 : decode cX6_middle 123 = .ok (.goto (-94), 3) := by decide +kernel
theorem dX6_middle_126 : decode cX6_middle 126 = .ok (.aload_n 0, 1) := by decide +kernel
theorem dX6_middle_127 : decode cX6_middle 127 = .ok (.getfield 51, 3) := by decide +kernel
theorem dX6_middle_130 : decode cX6_middle 130 = .ok (.iload_n 2, 1) := by decide +kernel
theorem dX6_middle_131 : decode cX6_middle 131 = .ok (.iconst 1, 1) := by decide +kernel
theorem dX6_middle_132 : decode cX6_middle 132 = .ok (.isub, 1) := by decide +kernel
theorem dX6_middle_133 : decode cX6_middle 133 = .ok (.iconst 2, 1) := by decide +kernel
theorem dX6_middle_134 : decode cX6_middle 134 = .ok (.idiv, 1) := by decide +kernel
theorem dX6_middle_135 : decode cX6_middle 135 = .ok (.iaload, 1) := by decide +kernel
theorem dX6_middle_136 : decode cX6_middle 136 = .ok (.i2l, 1) := by decide +kernel
theorem dX6_middle_137 : decode cX6_middle 137 = .ok (.lreturn, 1) := by decide +kernel
set_option maxRecDepth 20000 in
theorem ggX6_drift_X6_isStall : GoodIn wsX6_drift wsX6_isStall := goodIn_r _ [8, 9, 10, 11, 7, 12, 26, 27, 28, 29, 30, 31, 32, 33, 34, 35, 36, 37, 38, 39, 40, 41, 42, 43, 44, 45, 46, 47, 48, 49, 50, 51, 52, 53, 54] (by decide +kernel) (by decide +kernel)
set_option maxRecDepth 20000 in
theorem gX6_drift_X6_isStall : GoodIn wsX6_drift (wsV RX6 158 RX6 yX6_isStall wsX6_isStall) := goodIn_app (goodIn_of _ (by decide +kernel)) ggX6_drift_X6_isStall
set_option maxRecDepth 20000 in
theorem ggX6_drift_X6_in : GoodIn wsX6_drift wsX6_in := goodIn_r _ [12] (by decide +kernel) (by decide +kernel)
set_option maxRecDepth 20000 in
theorem gX6_drift_X6_in : GoodIn wsX6_drift (va_wsS RX6 61 yX6_in wsX6_in) := goodIn_app (goodIn_of _ (by decide +kernel)) ggX6_drift_X6_in
set_option maxRecDepth 20000 in
theorem ggX6_drift_X6_offOf : GoodIn wsX6_drift wsX6_offOf := goodIn_r _ [16, 3, 26, 27, 28, 29, 30, 31, 32, 33, 34, 35, 36, 37, 38, 39, 40, 41, 42, 43, 44, 45, 46, 47, 48, 49, 50, 51, 52, 53, 54] (by decide +kernel) (by decide +kernel)
set_option maxRecDepth 20000 in
theorem gX6_drift_X6_offOf : GoodIn wsX6_drift (wsV RX6 251 RX6 yX6_offOf wsX6_offOf) := goodIn_app (goodIn_of _ (by decide +kernel)) ggX6_drift_X6_offOf
set_option maxRecDepth 20000 in
theorem ggX6_drift_X6_part : GoodIn wsX6_drift wsX6_part := goodIn_r _ [19, 20, 21, 7, 22, 23, 24, 25] (by decide +kernel) (by decide +kernel)
set_option maxRecDepth 20000 in
theorem gX6_drift_X6_part : GoodIn wsX6_drift (va_wsS RX6 221 yX6_part wsX6_part) := goodIn_app (goodIn_of _ (by decide +kernel)) ggX6_drift_X6_part
theorem dX6_drift_0 : decode cX6_drift 0 = .ok (.aload_n 0, 1) := by decide +kernel
theorem dX6_drift_1 : decode cX6_drift 1 = .ok (.iconst 0, 1) := by decide +kernel
theorem dX6_drift_2 : decode cX6_drift 2 = .ok (.putfield 54, 3) := by decide +kernel
theorem dX6_drift_5 : decode cX6_drift 5 = .ok (.aload_n 0, 1) := by decide +kernel
theorem dX6_drift_6 : decode cX6_drift 6 = .ok (.iload_n 1, 1) := by decide +kernel
theorem dX6_drift_7 : decode cX6_drift 7 = .ok (.invokevirtual 158, 3) := by decide +kernel
theorem dX6_drift_10 : decode cX6_drift 10 = .ok (.ifCond .eq 12, 3) := by decide +kernel
theorem dX6_drift_13 : decode cX6_drift 13 = .ok (.iload_n 2, 1) := by decide +kernel
theorem dX6_drift_14 : decode cX6_drift 14 = .ok (.iconst 0, 1) := by decide +kernel
theorem dX6_drift_15 : decode cX6_drift 15 = .ok (.iconst 1, 1) := by decide +kernel
theorem dX6_drift_16 : decode cX6_drift 16 = .ok (.invokestatic 61, 3) := by decide +kernel
theorem dX6_drift_19 : decode cX6_drift 19 = .ok (.ifCond .ne 7, 3) := by decide +kernel
theorem dX6_drift_22 : decode cX6_drift 22 = .ok (.ldc2_w 189, 3) := by decide +kernel
theorem dX6_drift_25 : decode cX6_drift 25 = .ok (.lreturn, 1) := by decide +kernel
theorem dX6_drift_26 : decode cX6_drift 26 = .ok (.lconst 0, 1) := by decide +kernel
theorem dX6_drift_27 : decode cX6_drift 27 = .ok (.lstore_n 3, 1) := by decide +kernel
theorem dX6_drift_28 : decode cX6_drift 28 = .ok (.lconst 0, 1) := by decide +kernel
theorem dX6_drift_29 : decode cX6_drift 29 = .ok (.lstore 5, 2) := by decide +kernel
theorem dX6_drift_31 : decode cX6_drift 31 = .ok (.lconst 0, 1) := by decide +kernel
theorem dX6_drift_32 : decode cX6_drift 32 = .ok (.lstore 7, 2) := by decide +kernel
theorem dX6_drift_34 : decode cX6_drift 34 = .ok (.lconst 0, 1) := by decide +kernel
theorem dX6_drift_35 : decode cX6_drift 35 = .ok (.lstore 9, 2) := by decide +kernel
theorem dX6_drift_37 : decode cX6_drift 37 = .ok (.lconst 0, 1) := by decide +kernel
theorem dX6_drift_38 : decode cX6_drift 38 = .ok (.lstore 11, 2) := by decide +kernel
theorem dX6_drift_40 : decode cX6_drift 40 = .ok (.iconst 0, 1) := by decide +kernel
theorem dX6_drift_41 : decode cX6_drift 41 = .ok (.istore 13, 2) := by decide +kernel
theorem dX6_drift_43 : decode cX6_drift 43 = .ok (.iload 13, 2) := by decide +kernel
theorem dX6_drift_45 : decode cX6_drift 45 = .ok (.aload_n 0, 1) := by decide +kernel
theorem dX6_drift_46 : decode cX6_drift 46 = .ok (.getfield 7, 3) := by decide +kernel
theorem dX6_drift_49 : decode cX6_drift 49 = .ok (.sipush 181, 3) := by decide +kernel
theorem dX6_drift_52 : decode cX6_drift 52 = .ok (.iaload, 1) := by decide +kernel
theorem dX6_drift_53 : decode cX6_drift 53 = .ok (.if_icmp .ge 92, 3) := by decide +kernel
theorem dX6_drift_56 : decode cX6_drift 56 = .ok (.aload_n 0, 1) := by decide +kernel
theorem dX6_drift_57 : decode cX6_drift 57 = .ok (.getfield 7, 3) := by decide +kernel
theorem dX6_drift_60 : decode cX6_drift 60 = .ok (.sipush 182, 3) := by decide +kernel
theorem dX6_drift_63 : decode cX6_drift 63 = .ok (.iconst 4, 1) := by decide +kernel
theorem dX6_drift_64 : decode cX6_drift 64 = .ok (.iload 13, 2) := by decide +kernel
theorem dX6_drift_66 : decode cX6_drift 66 = .ok (.imul, 1) := by decide +kernel
theorem dX6_drift_67 : decode cX6_drift 67 = .ok (.iadd, 1) := by decide +kernel
theorem dX6_drift_68 : decode cX6_drift 68 = .ok (.iaload, 1) := by decide +kernel
theorem dX6_drift_69 : decode cX6_drift 69 = .ok (.iload_n 1, 1) := by decide +kernel
theorem dX6_drift_70 : decode cX6_drift 70 = .ok (.if_icmp .ne 69, 3) := by decide +kernel
theorem dX6_drift_73 : decode cX6_drift 73 = .ok (.aload_n 0, 1) := by decide +kernel
theorem dX6_drift_74 : decode cX6_drift 74 = .ok (.getfield 7, 3) := by decide +kernel
theorem dX6_drift_77 : decode cX6_drift 77 = .ok (.sipush 182, 3) := by decide +kernel
theorem dX6_drift_80 : decode cX6_drift 80 = .ok (.iconst 4, 1) := by decide +kernel
theorem dX6_drift_81 : decode cX6_drift 81 = .ok (.iload 13, 2) := by decide +kernel
theorem dX6_drift_83 : decode cX6_drift 83 = .ok (.imul, 1) := by decide +kernel
theorem dX6_drift_84 : decode cX6_drift 84 = .ok (.iadd, 1) := by decide +kernel
theorem dX6_drift_85 : decode cX6_drift 85 = .ok (.iconst 1, 1) := by decide +kernel
theorem dX6_drift_86 : decode cX6_drift 86 = .ok (.iadd, 1) := by decide +kernel
theorem dX6_drift_87 : decode cX6_drift 87 = .ok (.iaload, 1) := by decide +kernel
theorem dX6_drift_88 : decode cX6_drift 88 = .ok (.i2l, 1) := by decide +kernel
theorem dX6_drift_89 : decode cX6_drift 89 = .ok (.lstore 14, 2) := by decide +kernel
theorem dX6_drift_91 : decode cX6_drift 91 = .ok (.lload_n 3, 1) := by decide +kernel
theorem dX6_drift_92 : decode cX6_drift 92 = .ok (.lconst 1, 1) := by decide +kernel
theorem dX6_drift_93 : decode cX6_drift 93 = .ok (.ladd, 1) := by decide +kernel
theorem dX6_drift_94 : decode cX6_drift 94 = .ok (.lstore_n 3, 1) := by decide +kernel
theorem dX6_drift_95 : decode cX6_drift 95 = .ok (.lload 5, 2) := by decide +kernel
theorem dX6_drift_97 : decode cX6_drift 97 = .ok (.lload 14, 2) := by decide +kernel
theorem dX6_drift_99 : decode cX6_drift 99 = .ok (.ladd, 1) := by decide +kernel
theorem dX6_drift_100 : decode cX6_drift 100 = .ok (.lstore 5, 2) := by decide +kernel
theorem dX6_drift_102 : decode cX6_drift 102 = .ok (.lload 7, 2) := by decide +kernel
theorem dX6_drift_104 : decode cX6_drift 104 = .ok (.aload_n 0, 1) := by decide +kernel
theorem dX6_drift_105 : decode cX6_drift 105 = .ok (.iload 13, 2) := by decide +kernel
theorem dX6_drift_107 : decode cX6_drift 107 = .ok (.invokevirtual 251, 3) := by decide +kernel
theorem dX6_drift_110 : decode cX6_drift 110 = .ok (.i2l, 1) := by decide +kernel
theorem dX6_drift_111 : decode cX6_drift 111 = .ok (.ladd, 1) := by decide +kernel
theorem dX6_drift_112 : decode cX6_drift 112 = .ok (.lstore 7, 2) := by decide +kernel
theorem dX6_drift_114 : decode cX6_drift 114 = .ok (.lload 9, 2) := by decide +kernel
theorem dX6_drift_116 : decode cX6_drift 116 = .ok (.lload 14, 2) := by decide +kernel
theorem dX6_drift_118 : decode cX6_drift 118 = .ok (.lload 14, 2) := by decide +kernel
theorem dX6_drift_120 : decode cX6_drift 120 = .ok (.lmul, 1) := by decide +kernel
theorem dX6_drift_121 : decode cX6_drift 121 = .ok (.ladd, 1) := by decide +kernel
theorem dX6_drift_122 : decode cX6_drift 122 = .ok (.lstore 9, 2) := by decide +kernel
theorem dX6_drift_124 : decode cX6_drift 124 = .ok (.lload 11, 2) := by decide +kernel
theorem dX6_drift_126 : decode cX6_drift 126 = .ok (.lload 14, 2) := by decide +kernel
theorem dX6_drift_128 : decode cX6_drift 128 = .ok (.aload_n 0, 1) := by decide +kernel
theorem dX6_drift_129 : decode cX6_drift 129 = .ok (.iload 13, 2) := by decide +kernel
theorem dX6_drift_131 : decode cX6_drift 131 = .ok (.invokevirtual 251, 3) := by decide +kernel
theorem dX6_drift_134 : decode cX6_drift 134 = .ok (.i2l, 1) := by decide +kernel
theorem dX6_drift_135 : decode cX6_drift 135 = .ok (.lmul, 1) := by decide +kernel
theorem dX6_drift_136 : decode cX6_drift 136 = .ok (.ladd, 1) := by decide +kernel
theorem dX6_drift_137 : decode cX6_drift 137 = .ok (.lstore 11, 2) := by decide +kernel
theorem dX6_drift_139 : decode cX6_drift 139 = .ok (.iinc 13 1, 3) := by decide +kernel
theorem dX6_drift_142 : decode cX6_drift 142 = .ok (.goto (-99), 3) := by decide +kernel
theorem dX6_drift_145 : decode cX6_drift 145 = .ok (.lload_n 3, 1) := by decide +kernel
theorem dX6_drift_146 : decode cX6_drift 146 = .ok (.lload 9, 2) := by decide +kernel
theorem dX6_drift_148 : decode cX6_drift 148 = .ok (.lmul, 1) := by decide +kernel
theorem dX6_drift_149 : decode cX6_drift 149 = .ok (.lload 5, 2) := by decide +kernel
theorem dX6_drift_151 : decode cX6_drift 151 = .ok (.lload 5, 2) := by decide +kernel
theorem dX6_drift_153 : decode cX6_drift 153 = .ok (.lmul, 1) := by decide +kernel
theorem dX6_drift_154 : decode cX6_drift 154 = .ok (.lsub, 1) := by decide +kernel
theorem dX6_drift_155 : decode cX6_drift 155 = .ok (.lstore 13, 2) := by decide +kernel
theorem dX6_drift_157 : decode cX6_drift 157 = .ok (.lload 13, 2) := by decide +kernel
theorem dX6_drift_159 : decode cX6_drift 159 = .ok (.lconst 0, 1) := by decide +kernel
theorem dX6_drift_160 : decode cX6_drift 160 = .ok (.lcmp, 1) := by decide +kernel
theorem dX6_drift_161 : decode cX6_drift 161 = .ok (.ifCond .ne 9, 3) := by decide +kernel
theorem dX6_drift_164 : decode cX6_drift 164 = .ok (.ldc2_w 189, 3) := by decide +kernel
theorem dX6_drift_167 : decode cX6_drift 167 = .ok (.goto 19, 3) := by decide +kernel
theorem dX6_drift_170 : decode cX6_drift 170 = .ok (.lload_n 3, 1) := by decide +kernel
theorem dX6_drift_171 : decode cX6_drift 171 = .ok (.lload 11, 2) := by decide +kernel
theorem dX6_drift_173 : decode cX6_drift 173 = .ok (.lmul, 1) := by decide +kernel
theorem dX6_drift_174 : decode cX6_drift 174 = .ok (.lload 5, 2) := by decide +kernel
theorem dX6_drift_176 : decode cX6_drift 176 = .ok (.lload 7, 2) := by decide +kernel
theorem dX6_drift_178 : decode cX6_drift 178 = .ok (.lmul, 1) := by decide +kernel
theorem dX6_drift_179 : decode cX6_drift 179 = .ok (.lsub, 1) := by decide +kernel
theorem dX6_drift_180 : decode cX6_drift 180 = .ok (.lload 13, 2) := by decide +kernel
theorem dX6_drift_182 : decode cX6_drift 182 = .ok (.iload_n 2, 1) := by decide +kernel
theorem dX6_drift_183 : decode cX6_drift 183 = .ok (.invokestatic 221, 3) := by decide +kernel
theorem dX6_drift_186 : decode cX6_drift 186 = .ok (.lreturn, 1) := by decide +kernel
theorem dX6_lot_0 : decode cX6_lot 0 = .ok (.aload_n 0, 1) := by decide +kernel
theorem dX6_lot_1 : decode cX6_lot 1 = .ok (.iconst 0, 1) := by decide +kernel
theorem dX6_lot_2 : decode cX6_lot 2 = .ok (.putfield 54, 3) := by decide +kernel
theorem dX6_lot_5 : decode cX6_lot 5 = .ok (.aload_n 0, 1) := by decide +kernel
theorem dX6_lot_6 : decode cX6_lot 6 = .ok (.getfield 7, 3) := by decide +kernel
theorem dX6_lot_9 : decode cX6_lot 9 = .ok (.sipush 263, 3) := by decide +kernel
theorem dX6_lot_12 : decode cX6_lot 12 = .ok (.iaload, 1) := by decide +kernel
theorem dX6_lot_13 : decode cX6_lot 13 = .ok (.istore_n 2, 1) := by decide +kernel
theorem dX6_lot_14 : decode cX6_lot 14 = .ok (.aload_n 0, 1) := by decide +kernel
theorem dX6_lot_15 : decode cX6_lot 15 = .ok (.getfield 7, 3) := by decide +kernel
theorem dX6_lot_18 : decode cX6_lot 18 = .ok (.sipush 263, 3) := by decide +kernel
theorem dX6_lot_21 : decode cX6_lot 21 = .ok (.iload_n 1, 1) := by decide +kernel
theorem dX6_lot_22 : decode cX6_lot 22 = .ok (.iastore, 1) := by decide +kernel
theorem dX6_lot_23 : decode cX6_lot 23 = .ok (.iload_n 2, 1) := by decide +kernel
theorem dX6_lot_24 : decode cX6_lot 24 = .ok (.ireturn, 1) := by decide +kernel
set_option maxRecDepth 20000 in
theorem ggX6_sales_X6_isWay : GoodIn wsX6_sales wsX6_isWay := goodIn_r _ [10, 11, 12, 13, 9, 14, 34, 35, 36, 37, 38, 39, 40, 41, 42, 43, 44, 45, 46, 47, 48, 49, 50, 51, 52, 53, 54, 55, 56, 57, 58, 59, 60, 61, 62] (by decide +kernel) (by decide +kernel)
set_option maxRecDepth 20000 in
theorem gX6_sales_X6_isWay : GoodIn wsX6_sales (wsV RX6 167 RX6 yX6_isWay wsX6_isWay) := goodIn_app (goodIn_of _ (by decide +kernel)) ggX6_sales_X6_isWay
set_option maxRecDepth 20000 in
theorem ggX6_sales_X6_isStall : GoodIn wsX6_sales wsX6_isStall := goodIn_r _ [18, 19, 12, 13, 9, 14, 34, 35, 36, 37, 38, 39, 40, 41, 42, 43, 44, 45, 46, 47, 48, 49, 50, 51, 52, 53, 54, 55, 56, 57, 58, 59, 60, 61, 62] (by decide +kernel) (by decide +kernel)
set_option maxRecDepth 20000 in
theorem gX6_sales_X6_isStall : GoodIn wsX6_sales (wsV RX6 158 RX6 yX6_isStall wsX6_isStall) := goodIn_app (goodIn_of _ (by decide +kernel)) ggX6_sales_X6_isStall
set_option maxRecDepth 20000 in
theorem ggX6_sales_X6_isSort : GoodIn wsX6_sales wsX6_isSort := goodIn_r _ [22, 12, 13, 9, 14] (by decide +kernel) (by decide +kernel)
set_option maxRecDepth 20000 in
theorem gX6_sales_X6_isSort : GoodIn wsX6_sales (va_wsS RX6 173 yX6_isSort wsX6_isSort) := goodIn_app (goodIn_of _ (by decide +kernel)) ggX6_sales_X6_isSort
set_option maxRecDepth 20000 in
theorem ggX6_sales_X6_in : GoodIn wsX6_sales wsX6_in := goodIn_r _ [14] (by decide +kernel) (by decide +kernel)
set_option maxRecDepth 20000 in
theorem gX6_sales_X6_in : GoodIn wsX6_sales (va_wsS RX6 61 yX6_in wsX6_in) := goodIn_app (goodIn_of _ (by decide +kernel)) ggX6_sales_X6_in
set_option maxRecDepth 20000 in
theorem ggX6_sales_X6_oftenOf : GoodIn wsX6_sales wsX6_oftenOf := goodIn_r _ [26, 27, 28, 12, 13, 9, 14, 29, 30, 31, 32, 33, 34, 35, 36, 37, 38, 39, 40, 41, 42, 43, 44, 45, 46, 47, 48, 49, 50, 51, 52, 53, 54, 55, 56, 57, 58, 59, 60, 61, 62] (by decide +kernel) (by decide +kernel)
set_option maxRecDepth 20000 in
theorem gX6_sales_X6_oftenOf : GoodIn wsX6_sales (wsV RX6 176 RX6 yX6_oftenOf wsX6_oftenOf) := goodIn_app (goodIn_of _ (by decide +kernel)) ggX6_sales_X6_oftenOf
theorem dX6_sales_0 : decode cX6_sales 0 = .ok (.aload_n 0, 1) := by decide +kernel
theorem dX6_sales_1 : decode cX6_sales 1 = .ok (.iconst 0, 1) := by decide +kernel
theorem dX6_sales_2 : decode cX6_sales 2 = .ok (.putfield 54, 3) := by decide +kernel
theorem dX6_sales_5 : decode cX6_sales 5 = .ok (.aload_n 0, 1) := by decide +kernel
theorem dX6_sales_6 : decode cX6_sales 6 = .ok (.iload_n 1, 1) := by decide +kernel
theorem dX6_sales_7 : decode cX6_sales 7 = .ok (.invokevirtual 167, 3) := by decide +kernel
theorem dX6_sales_10 : decode cX6_sales 10 = .ok (.ifCond .eq 30, 3) := by decide +kernel
theorem dX6_sales_13 : decode cX6_sales 13 = .ok (.aload_n 0, 1) := by decide +kernel
theorem dX6_sales_14 : decode cX6_sales 14 = .ok (.iload_n 2, 1) := by decide +kernel
theorem dX6_sales_15 : decode cX6_sales 15 = .ok (.invokevirtual 158, 3) := by decide +kernel
theorem dX6_sales_18 : decode cX6_sales 18 = .ok (.ifCond .eq 22, 3) := by decide +kernel
theorem dX6_sales_21 : decode cX6_sales 21 = .ok (.iload_n 3, 1) := by decide +kernel
theorem dX6_sales_22 : decode cX6_sales 22 = .ok (.invokestatic 173, 3) := by decide +kernel
theorem dX6_sales_25 : decode cX6_sales 25 = .ok (.ifCond .eq 15, 3) := by decide +kernel
theorem dX6_sales_28 : decode cX6_sales 28 = .ok (.iload 4, 2) := by decide +kernel
theorem dX6_sales_30 : decode cX6_sales 30 = .ok (.iconst 1, 1) := by decide +kernel
theorem dX6_sales_31 : decode cX6_sales 31 = .ok (.sipush 200, 3) := by decide +kernel
theorem dX6_sales_34 : decode cX6_sales 34 = .ok (.invokestatic 61, 3) := by decide +kernel
theorem dX6_sales_37 : decode cX6_sales 37 = .ok (.ifCond .ne 5, 3) := by decide +kernel
theorem dX6_sales_40 : decode cX6_sales 40 = .ok (.iconst (-1), 1) := by decide +kernel
theorem dX6_sales_41 : decode cX6_sales 41 = .ok (.ireturn, 1) := by decide +kernel
theorem dX6_sales_42 : decode cX6_sales 42 = .ok (.iconst 0, 1) := by decide +kernel
theorem dX6_sales_43 : decode cX6_sales 43 = .ok (.istore 5, 2) := by decide +kernel
theorem dX6_sales_45 : decode cX6_sales 45 = .ok (.aload_n 0, 1) := by decide +kernel
theorem dX6_sales_46 : decode cX6_sales 46 = .ok (.iconst 0, 1) := by decide +kernel
theorem dX6_sales_47 : decode cX6_sales 47 = .ok (.putfield 254, 3) := by decide +kernel
theorem dX6_sales_50 : decode cX6_sales 50 = .ok (.iconst 0, 1) := by decide +kernel
theorem dX6_sales_51 : decode cX6_sales 51 = .ok (.istore 6, 2) := by decide +kernel
theorem dX6_sales_53 : decode cX6_sales 53 = .ok (.iload 6, 2) := by decide +kernel
theorem dX6_sales_55 : decode cX6_sales 55 = .ok (.iload 4, 2) := by decide +kernel
theorem dX6_sales_57 : decode cX6_sales 57 = .ok (.if_icmp .ge 117, 3) := by decide +kernel
theorem dX6_sales_60 : decode cX6_sales 60 = .ok (.aload_n 0, 1) := by decide +kernel
theorem dX6_sales_61 : decode cX6_sales 61 = .ok (.getfield 7, 3) := by decide +kernel
theorem dX6_sales_64 : decode cX6_sales 64 = .ok (.sipush 263, 3) := by decide +kernel
theorem dX6_sales_67 : decode cX6_sales 67 = .ok (.aload_n 0, 1) := by decide +kernel
theorem dX6_sales_68 : decode cX6_sales 68 = .ok (.getfield 7, 3) := by decide +kernel
theorem dX6_sales_71 : decode cX6_sales 71 = .ok (.sipush 263, 3) := by decide +kernel
theorem dX6_sales_74 : decode cX6_sales 74 = .ok (.iaload, 1) := by decide +kernel
theorem dX6_sales_75 : decode cX6_sales 75 = .ok (.ldc_w 257, 3) := by decide +kernel
theorem dX6_sales_78 : decode cX6_sales 78 = .ok (.imul, 1) := by decide +kernel
theorem dX6_sales_79 : decode cX6_sales 79 = .ok (.sipush 12345, 3) := by decide +kernel
theorem dX6_sales_82 : decode cX6_sales 82 = .ok (.iadd, 1) := by decide +kernel
theorem dX6_sales_83 : decode cX6_sales 83 = .ok (.iastore, 1) := by decide +kernel
theorem dX6_sales_84 : decode cX6_sales 84 = .ok (.aload_n 0, 1) := by decide +kernel
theorem dX6_sales_85 : decode cX6_sales 85 = .ok (.getfield 7, 3) := by decide +kernel
theorem dX6_sales_88 : decode cX6_sales 88 = .ok (.sipush 263, 3) := by decide +kernel
theorem dX6_sales_91 : decode cX6_sales 91 = .ok (.iaload, 1) := by decide +kernel
theorem dX6_sales_92 : decode cX6_sales 92 = .ok (.bipush 16, 2) := by decide +kernel
theorem dX6_sales_94 : decode cX6_sales 94 = .ok (.ishr, 1) := by decide +kernel
theorem dX6_sales_95 : decode cX6_sales 95 = .ok (.ldc_w 258, 3) := by decide +kernel
theorem dX6_sales_98 : decode cX6_sales 98 = .ok (.iand, 1) := by decide +kernel
theorem dX6_sales_99 : decode cX6_sales 99 = .ok (.sipush 600, 3) := by decide +kernel
theorem dX6_sales_102 : decode cX6_sales 102 = .ok (.irem, 1) := by decide +kernel
theorem dX6_sales_103 : decode cX6_sales 103 = .ok (.istore 7, 2) := by decide +kernel
theorem dX6_sales_105 : decode cX6_sales 105 = .ok (.iconst (-1), 1) := by decide +kernel
theorem dX6_sales_106 : decode cX6_sales 106 = .ok (.istore 8, 2) := by decide +kernel
theorem dX6_sales_108 : decode cX6_sales 108 = .ok (.iload 7, 2) := by decide +kernel
theorem dX6_sales_110 : decode cX6_sales 110 = .ok (.aload_n 0, 1) := by decide +kernel
theorem dX6_sales_111 : decode cX6_sales 111 = .ok (.iload_n 1, 1) := by decide +kernel
theorem dX6_sales_112 : decode cX6_sales 112 = .ok (.iload_n 2, 1) := by decide +kernel
theorem dX6_sales_113 : decode cX6_sales 113 = .ok (.iload_n 3, 1) := by decide +kernel
theorem dX6_sales_114 : decode cX6_sales 114 = .ok (.iload 8, 2) := by decide +kernel
theorem dX6_sales_116 : decode cX6_sales 116 = .ok (.invokevirtual 176, 3) := by decide +kernel
theorem dX6_sales_119 : decode cX6_sales 119 = .ok (.if_icmp .lt 23, 3) := by decide +kernel
theorem dX6_sales_122 : decode cX6_sales 122 = .ok (.iload 7, 2) := by decide +kernel
theorem dX6_sales_124 : decode cX6_sales 124 = .ok (.aload_n 0, 1) := by decide +kernel
theorem dX6_sales_125 : decode cX6_sales 125 = .ok (.iload_n 1, 1) := by decide +kernel
theorem dX6_sales_126 : decode cX6_sales 126 = .ok (.iload_n 2, 1) := by decide +kernel
theorem dX6_sales_127 : decode cX6_sales 127 = .ok (.iload_n 3, 1) := by decide +kernel
theorem dX6_sales_128 : decode cX6_sales 128 = .ok (.iload 8, 2) := by decide +kernel
theorem dX6_sales_130 : decode cX6_sales 130 = .ok (.invokevirtual 176, 3) := by decide +kernel
theorem dX6_sales_133 : decode cX6_sales 133 = .ok (.isub, 1) := by decide +kernel
theorem dX6_sales_134 : decode cX6_sales 134 = .ok (.istore 7, 2) := by decide +kernel
theorem dX6_sales_136 : decode cX6_sales 136 = .ok (.iinc 8 1, 3) := by decide +kernel
theorem dX6_sales_139 : decode cX6_sales 139 = .ok (.goto (-31), 3) := by decide +kernel
theorem dX6_sales_142 : decode cX6_sales 142 = .ok (.iload 5, 2) := by decide +kernel
theorem dX6_sales_144 : decode cX6_sales 144 = .ok (.iload 8, 2) := by decide +kernel
theorem dX6_sales_146 : decode cX6_sales 146 = .ok (.ifCond .le 7, 3) := by decide +kernel
theorem dX6_sales_149 : decode cX6_sales 149 = .ok (.iconst 1, 1) := by decide +kernel
theorem dX6_sales_150 : decode cX6_sales 150 = .ok (.goto 4, 3) := by decide +kernel
theorem dX6_sales_153 : decode cX6_sales 153 = .ok (.iconst 0, 1) := by decide +kernel
theorem dX6_sales_154 : decode cX6_sales 154 = .ok (.iadd, 1) := by decide +kernel
theorem dX6_sales_155 : decode cX6_sales 155 = .ok (.istore 5, 2) := by decide +kernel
theorem dX6_sales_157 : decode cX6_sales 157 = .ok (.aload_n 0, 1) := by decide +kernel
theorem dX6_sales_158 : decode cX6_sales 158 = .ok (.dup, 1) := by decide +kernel
theorem dX6_sales_159 : decode cX6_sales 159 = .ok (.getfield 254, 3) := by decide +kernel
theorem dX6_sales_162 : decode cX6_sales 162 = .ok (.iload 8, 2) := by decide +kernel
theorem dX6_sales_164 : decode cX6_sales 164 = .ok (.iadd, 1) := by decide +kernel
theorem dX6_sales_165 : decode cX6_sales 165 = .ok (.putfield 254, 3) := by decide +kernel
theorem dX6_sales_168 : decode cX6_sales 168 = .ok (.iinc 6 1, 3) := by decide +kernel
theorem dX6_sales_171 : decode cX6_sales 171 = .ok (.goto (-118), 3) := by decide +kernel
theorem dX6_sales_174 : decode cX6_sales 174 = .ok (.iload 5, 2) := by decide +kernel
theorem dX6_sales_176 : decode cX6_sales 176 = .ok (.ireturn, 1) := by decide +kernel
theorem dX6_steps_0 : decode cX6_steps 0 = .ok (.aload_n 0, 1) := by decide +kernel
theorem dX6_steps_1 : decode cX6_steps 1 = .ok (.iconst 0, 1) := by decide +kernel
theorem dX6_steps_2 : decode cX6_steps 2 = .ok (.putfield 54, 3) := by decide +kernel
theorem dX6_steps_5 : decode cX6_steps 5 = .ok (.aload_n 0, 1) := by decide +kernel
theorem dX6_steps_6 : decode cX6_steps 6 = .ok (.getfield 254, 3) := by decide +kernel
theorem dX6_steps_9 : decode cX6_steps 9 = .ok (.ireturn, 1) := by decide +kernel
set_option maxRecDepth 20000 in
theorem ggX6_score_X6_in : GoodIn wsX6_score wsX6_in := goodIn_r _ [14] (by decide +kernel) (by decide +kernel)
set_option maxRecDepth 20000 in
theorem gX6_score_X6_in : GoodIn wsX6_score (va_wsS RX6 61 yX6_in wsX6_in) := goodIn_app (goodIn_of _ (by decide +kernel)) ggX6_score_X6_in
set_option maxRecDepth 20000 in
theorem ggX6_score_X6_isBag : GoodIn wsX6_score wsX6_isBag := goodIn_r _ [18, 19, 11, 12, 13, 14, 35, 36, 37, 38, 39, 40, 41, 42, 43, 44, 45, 46, 47, 48, 49, 50, 51, 52, 53, 54, 55, 56, 57, 58, 59, 60, 61, 62, 63] (by decide +kernel) (by decide +kernel)
set_option maxRecDepth 20000 in
theorem gX6_score_X6_isBag : GoodIn wsX6_score (wsV RX6 186 RX6 yX6_isBag wsX6_isBag) := goodIn_app (goodIn_of _ (by decide +kernel)) ggX6_score_X6_isBag
set_option maxRecDepth 20000 in
theorem ggX6_score_X6_shortOf : GoodIn wsX6_score wsX6_shortOf := goodIn_r _ [23, 10, 24, 25, 26, 13, 27, 19, 35, 36, 37, 38, 39, 40, 41, 42, 43, 44, 45, 46, 47, 48, 49, 50, 51, 52, 53, 54, 55, 56, 57, 58, 59, 60, 61, 62, 63] (by decide +kernel) (by decide +kernel)
set_option maxRecDepth 20000 in
theorem gX6_score_X6_shortOf : GoodIn wsX6_score (wsV RX6 180 RX6 yX6_shortOf wsX6_shortOf) := goodIn_app (goodIn_of _ (by decide +kernel)) ggX6_score_X6_shortOf
set_option maxRecDepth 20000 in
theorem ggX6_score_X6_bag : GoodIn wsX6_score wsX6_bag := goodIn_r _ [27, 19, 35, 36, 37, 38, 39, 40, 41, 42, 43, 44, 45, 46, 47, 48, 49, 50, 51, 52, 53, 54, 55, 56, 57, 58, 59, 60, 61, 62, 63] (by decide +kernel) (by decide +kernel)
set_option maxRecDepth 20000 in
theorem gX6_score_X6_bag : GoodIn wsX6_score (wsV RX6 155 RX6 yX6_bag wsX6_bag) := goodIn_app (goodIn_of _ (by decide +kernel)) ggX6_score_X6_bag
set_option maxRecDepth 20000 in
theorem ggX6_score_X6_stepsOf : GoodIn wsX6_score wsX6_stepsOf := goodIn_r _ [31, 10, 24, 25, 26, 13, 27, 19, 20, 21, 22, 23, 32, 33, 34, 35, 36, 37, 38, 39, 40, 41, 42, 43, 44, 45, 46, 47, 48, 49, 50, 51, 52, 53, 54, 55, 56, 57, 58, 59, 60, 61, 62, 63] (by decide +kernel) (by decide +kernel)
set_option maxRecDepth 20000 in
theorem gX6_score_X6_stepsOf : GoodIn wsX6_score (wsV RX6 191 RX6 yX6_stepsOf wsX6_stepsOf) := goodIn_app (goodIn_of _ (by decide +kernel)) ggX6_score_X6_stepsOf
theorem dX6_score_0 : decode cX6_score 0 = .ok (.aload_n 0, 1) := by decide +kernel
theorem dX6_score_1 : decode cX6_score 1 = .ok (.iconst 0, 1) := by decide +kernel
theorem dX6_score_2 : decode cX6_score 2 = .ok (.putfield 54, 3) := by decide +kernel
theorem dX6_score_5 : decode cX6_score 5 = .ok (.iload_n 1, 1) := by decide +kernel
theorem dX6_score_6 : decode cX6_score 6 = .ok (.iconst 0, 1) := by decide +kernel
theorem dX6_score_7 : decode cX6_score 7 = .ok (.bipush 6, 2) := by decide +kernel
theorem dX6_score_9 : decode cX6_score 9 = .ok (.invokestatic 61, 3) := by decide +kernel
theorem dX6_score_12 : decode cX6_score 12 = .ok (.ifCond .eq 11, 3) := by decide +kernel
theorem dX6_score_15 : decode cX6_score 15 = .ok (.aload_n 0, 1) := by decide +kernel
theorem dX6_score_16 : decode cX6_score 16 = .ok (.iload_n 2, 1) := by decide +kernel
theorem dX6_score_17 : decode cX6_score 17 = .ok (.invokevirtual 186, 3) := by decide +kernel
theorem dX6_score_20 : decode cX6_score 20 = .ok (.ifCond .ne 7, 3) := by decide +kernel
theorem dX6_score_23 : decode cX6_score 23 = .ok (.ldc2_w 189, 3) := by decide +kernel
theorem dX6_score_26 : decode cX6_score 26 = .ok (.lreturn, 1) := by decide +kernel
theorem dX6_score_27 : decode cX6_score 27 = .ok (.aload_n 0, 1) := by decide +kernel
theorem dX6_score_28 : decode cX6_score 28 = .ok (.iload_n 2, 1) := by decide +kernel
theorem dX6_score_29 : decode cX6_score 29 = .ok (.invokevirtual 180, 3) := by decide +kernel
theorem dX6_score_32 : decode cX6_score 32 = .ok (.istore_n 3, 1) := by decide +kernel
theorem dX6_score_33 : decode cX6_score 33 = .ok (.aload_n 0, 1) := by decide +kernel
theorem dX6_score_34 : decode cX6_score 34 = .ok (.dup, 1) := by decide +kernel
theorem dX6_score_35 : decode cX6_score 35 = .ok (.getfield 259, 3) := by decide +kernel
theorem dX6_score_38 : decode cX6_score 38 = .ok (.iload_n 1, 1) := by decide +kernel
theorem dX6_score_39 : decode cX6_score 39 = .ok (.ifCond .ne 7, 3) := by decide +kernel
theorem dX6_score_42 : decode cX6_score 42 = .ok (.lconst 1, 1) := by decide +kernel
theorem dX6_score_43 : decode cX6_score 43 = .ok (.goto 61, 3) := by decide +kernel
theorem dX6_score_46 : decode cX6_score 46 = .ok (.iload_n 1, 1) := by decide +kernel
theorem dX6_score_47 : decode cX6_score 47 = .ok (.iconst 1, 1) := by decide +kernel
theorem dX6_score_48 : decode cX6_score 48 = .ok (.if_icmp .ne 9, 3) := by decide +kernel
theorem dX6_score_51 : decode cX6_score 51 = .ok (.ldc2_w 262, 3) := by decide +kernel
theorem dX6_score_54 : decode cX6_score 54 = .ok (.goto 50, 3) := by decide +kernel
theorem dX6_score_57 : decode cX6_score 57 = .ok (.iload_n 1, 1) := by decide +kernel
theorem dX6_score_58 : decode cX6_score 58 = .ok (.iconst 2, 1) := by decide +kernel
theorem dX6_score_59 : decode cX6_score 59 = .ok (.if_icmp .ne 9, 3) := by decide +kernel
theorem dX6_score_62 : decode cX6_score 62 = .ok (.ldc2_w 91, 3) := by decide +kernel
theorem dX6_score_65 : decode cX6_score 65 = .ok (.goto 39, 3) := by decide +kernel
theorem dX6_score_68 : decode cX6_score 68 = .ok (.iload_n 1, 1) := by decide +kernel
theorem dX6_score_69 : decode cX6_score 69 = .ok (.iconst 3, 1) := by decide +kernel
theorem dX6_score_70 : decode cX6_score 70 = .ok (.if_icmp .ne 9, 3) := by decide +kernel
theorem dX6_score_73 : decode cX6_score 73 = .ok (.ldc2_w 264, 3) := by decide +kernel
theorem dX6_score_76 : decode cX6_score 76 = .ok (.goto 28, 3) := by decide +kernel
theorem dX6_score_79 : decode cX6_score 79 = .ok (.iload_n 1, 1) := by decide +kernel
theorem dX6_score_80 : decode cX6_score 80 = .ok (.iconst 4, 1) := by decide +kernel
theorem dX6_score_81 : decode cX6_score 81 = .ok (.if_icmp .ne 9, 3) := by decide +kernel
theorem dX6_score_84 : decode cX6_score 84 = .ok (.ldc2_w 266, 3) := by decide +kernel
theorem dX6_score_87 : decode cX6_score 87 = .ok (.goto 17, 3) := by decide +kernel
theorem dX6_score_90 : decode cX6_score 90 = .ok (.iload_n 1, 1) := by decide +kernel
theorem dX6_score_91 : decode cX6_score 91 = .ok (.iconst 5, 1) := by decide +kernel
theorem dX6_score_92 : decode cX6_score 92 = .ok (.if_icmp .ne 9, 3) := by decide +kernel
theorem dX6_score_95 : decode cX6_score 95 = .ok (.ldc2_w 268, 3) := by decide +kernel
theorem dX6_score_98 : decode cX6_score 98 = .ok (.goto 6, 3) := by decide +kernel
theorem dX6_score_101 : decode cX6_score 101 = .ok (.ldc2_w 270, 3) := by decide +kernel
theorem dX6_score_104 : decode cX6_score 104 = .ok (.ladd, 1) := by decide +kernel
theorem dX6_score_105 : decode cX6_score 105 = .ok (.putfield 259, 3) := by decide +kernel
theorem dX6_score_108 : decode cX6_score 108 = .ok (.iload_n 1, 1) := by decide +kernel
theorem dX6_score_109 : decode cX6_score 109 = .ok (.ifCond .ne 8, 3) := by decide +kernel
theorem dX6_score_112 : decode cX6_score 112 = .ok (.iload_n 3, 1) := by decide +kernel
theorem dX6_score_113 : decode cX6_score 113 = .ok (.i2l, 1) := by decide +kernel
theorem dX6_score_114 : decode cX6_score 114 = .ok (.goto 101, 3) := by decide +kernel
theorem dX6_score_117 : decode cX6_score 117 = .ok (.iload_n 1, 1) := by decide +kernel
theorem dX6_score_118 : decode cX6_score 118 = .ok (.iconst 1, 1) := by decide +kernel
theorem dX6_score_119 : decode cX6_score 119 = .ok (.if_icmp .ne 10, 3) := by decide +kernel
theorem dX6_score_122 : decode cX6_score 122 = .ok (.iload_n 3, 1) := by decide +kernel
theorem dX6_score_123 : decode cX6_score 123 = .ok (.iconst 2, 1) := by decide +kernel
theorem dX6_score_124 : decode cX6_score 124 = .ok (.idiv, 1) := by decide +kernel
theorem dX6_score_125 : decode cX6_score 125 = .ok (.i2l, 1) := by decide +kernel
theorem dX6_score_126 : decode cX6_score 126 = .ok (.goto 89, 3) := by decide +kernel
theorem dX6_score_129 : decode cX6_score 129 = .ok (.iload_n 1, 1) := by decide +kernel
theorem dX6_score_130 : decode cX6_score 130 = .ok (.iconst 2, 1) := by decide +kernel
theorem dX6_score_131 : decode cX6_score 131 = .ok (.if_icmp .ne 22, 3) := by decide +kernel
theorem dX6_score_134 : decode cX6_score 134 = .ok (.iload_n 3, 1) := by decide +kernel
theorem dX6_score_135 : decode cX6_score 135 = .ok (.aload_n 0, 1) := by decide +kernel
theorem dX6_score_136 : decode cX6_score 136 = .ok (.getfield 30, 3) := by decide +kernel
theorem dX6_score_139 : decode cX6_score 139 = .ok (.iconst 3, 1) := by decide +kernel
theorem dX6_score_140 : decode cX6_score 140 = .ok (.aload_n 0, 1) := by decide +kernel
theorem dX6_score_141 : decode cX6_score 141 = .ok (.iload_n 2, 1) := by decide +kernel
theorem dX6_score_142 : decode cX6_score 142 = .ok (.iconst 0, 1) := by decide +kernel
theorem dX6_score_143 : decode cX6_score 143 = .ok (.invokevirtual 155, 3) := by decide +kernel
theorem dX6_score_146 : decode cX6_score 146 = .ok (.imul, 1) := by decide +kernel
theorem dX6_score_147 : decode cX6_score 147 = .ok (.iaload, 1) := by decide +kernel
theorem dX6_score_148 : decode cX6_score 148 = .ok (.isub, 1) := by decide +kernel
theorem dX6_score_149 : decode cX6_score 149 = .ok (.i2l, 1) := by decide +kernel
theorem dX6_score_150 : decode cX6_score 150 = .ok (.goto 65, 3) := by decide +kernel
theorem dX6_score_153 : decode cX6_score 153 = .ok (.iload_n 1, 1) := by decide +kernel
theorem dX6_score_154 : decode cX6_score 154 = .ok (.iconst 3, 1) := by decide +kernel
theorem dX6_score_155 : decode cX6_score 155 = .ok (.if_icmp .ne 10, 3) := by decide +kernel
theorem dX6_score_158 : decode cX6_score 158 = .ok (.iconst 2, 1) := by decide +kernel
theorem dX6_score_159 : decode cX6_score 159 = .ok (.iload_n 3, 1) := by decide +kernel
theorem dX6_score_160 : decode cX6_score 160 = .ok (.imul, 1) := by decide +kernel
theorem dX6_score_161 : decode cX6_score 161 = .ok (.i2l, 1) := by decide +kernel
theorem dX6_score_162 : decode cX6_score 162 = .ok (.goto 53, 3) := by decide +kernel
theorem dX6_score_165 : decode cX6_score 165 = .ok (.iload_n 1, 1) := by decide +kernel
theorem dX6_score_166 : decode cX6_score 166 = .ok (.iconst 4, 1) := by decide +kernel
theorem dX6_score_167 : decode cX6_score 167 = .ok (.if_icmp .ne 17, 3) := by decide +kernel
theorem dX6_score_170 : decode cX6_score 170 = .ok (.iconst 2, 1) := by decide +kernel
theorem dX6_score_171 : decode cX6_score 171 = .ok (.iload_n 3, 1) := by decide +kernel
theorem dX6_score_172 : decode cX6_score 172 = .ok (.imul, 1) := by decide +kernel
theorem dX6_score_173 : decode cX6_score 173 = .ok (.aload_n 0, 1) := by decide +kernel
theorem dX6_score_174 : decode cX6_score 174 = .ok (.iload_n 2, 1) := by decide +kernel
theorem dX6_score_175 : decode cX6_score 175 = .ok (.iconst 2, 1) := by decide +kernel
theorem dX6_score_176 : decode cX6_score 176 = .ok (.invokevirtual 155, 3) := by decide +kernel
theorem dX6_score_179 : decode cX6_score 179 = .ok (.iadd, 1) := by decide +kernel
theorem dX6_score_180 : decode cX6_score 180 = .ok (.i2l, 1) := by decide +kernel
theorem dX6_score_181 : decode cX6_score 181 = .ok (.goto 34, 3) := by decide +kernel
theorem dX6_score_184 : decode cX6_score 184 = .ok (.iload_n 1, 1) := by decide +kernel
theorem dX6_score_185 : decode cX6_score 185 = .ok (.iconst 5, 1) := by decide +kernel
theorem dX6_score_186 : decode cX6_score 186 = .ok (.if_icmp .ne 14, 3) := by decide +kernel
theorem dX6_score_189 : decode cX6_score 189 = .ok (.iload_n 3, 1) := by decide +kernel
theorem dX6_score_190 : decode cX6_score 190 = .ok (.aload_n 0, 1) := by decide +kernel
theorem dX6_score_191 : decode cX6_score 191 = .ok (.iload_n 2, 1) := by decide +kernel
theorem dX6_score_192 : decode cX6_score 192 = .ok (.invokevirtual 191, 3) := by decide +kernel
theorem dX6_score_195 : decode cX6_score 195 = .ok (.iadd, 1) := by decide +kernel
theorem dX6_score_196 : decode cX6_score 196 = .ok (.i2l, 1) := by decide +kernel
theorem dX6_score_197 : decode cX6_score 197 = .ok (.goto 18, 3) := by decide +kernel
theorem dX6_score_200 : decode cX6_score 200 = .ok (.iload_n 3, 1) := by decide +kernel
theorem dX6_score_201 : decode cX6_score 201 = .ok (.aload_n 0, 1) := by decide +kernel
theorem dX6_score_202 : decode cX6_score 202 = .ok (.iload_n 2, 1) := by decide +kernel
theorem dX6_score_203 : decode cX6_score 203 = .ok (.invokevirtual 191, 3) := by decide +kernel
theorem dX6_score_206 : decode cX6_score 206 = .ok (.iadd, 1) := by decide +kernel
theorem dX6_score_207 : decode cX6_score 207 = .ok (.aload_n 0, 1) := by decide +kernel
theorem dX6_score_208 : decode cX6_score 208 = .ok (.iload_n 2, 1) := by decide +kernel
theorem dX6_score_209 : decode cX6_score 209 = .ok (.iconst 1, 1) := by decide +kernel
theorem dX6_score_210 : decode cX6_score 210 = .ok (.invokevirtual 155, 3) := by decide +kernel
theorem dX6_score_213 : decode cX6_score 213 = .ok (.isub, 1) := by decide +kernel
theorem dX6_score_214 : decode cX6_score 214 = .ok (.i2l, 1) := by decide +kernel
theorem dX6_score_215 : decode cX6_score 215 = .ok (.lreturn, 1) := by decide +kernel
set_option maxRecDepth 20000 in
theorem ggX6_keep_X6_in : GoodIn wsX6_keep wsX6_in := goodIn_r _ [9] (by decide +kernel) (by decide +kernel)
set_option maxRecDepth 20000 in
theorem gX6_keep_X6_in : GoodIn wsX6_keep (va_wsS RX6 61 yX6_in wsX6_in) := goodIn_app (goodIn_of _ (by decide +kernel)) ggX6_keep_X6_in
theorem dX6_keep_0 : decode cX6_keep 0 = .ok (.aload_n 0, 1) := by decide +kernel
theorem dX6_keep_1 : decode cX6_keep 1 = .ok (.iconst 0, 1) := by decide +kernel
theorem dX6_keep_2 : decode cX6_keep 2 = .ok (.putfield 54, 3) := by decide +kernel
theorem dX6_keep_5 : decode cX6_keep 5 = .ok (.iload_n 1, 1) := by decide +kernel
theorem dX6_keep_6 : decode cX6_keep 6 = .ok (.iconst 0, 1) := by decide +kernel
theorem dX6_keep_7 : decode cX6_keep 7 = .ok (.iconst 1, 1) := by decide +kernel
theorem dX6_keep_8 : decode cX6_keep 8 = .ok (.invokestatic 61, 3) := by decide +kernel
theorem dX6_keep_11 : decode cX6_keep 11 = .ok (.ifCond .ne 5, 3) := by decide +kernel
theorem dX6_keep_14 : decode cX6_keep 14 = .ok (.iconst (-1), 1) := by decide +kernel
theorem dX6_keep_15 : decode cX6_keep 15 = .ok (.ireturn, 1) := by decide +kernel
theorem dX6_keep_16 : decode cX6_keep 16 = .ok (.iconst 0, 1) := by decide +kernel
theorem dX6_keep_17 : decode cX6_keep 17 = .ok (.istore_n 2, 1) := by decide +kernel
theorem dX6_keep_18 : decode cX6_keep 18 = .ok (.iload_n 2, 1) := by decide +kernel
theorem dX6_keep_19 : decode cX6_keep 19 = .ok (.sipush 264, 3) := by decide +kernel
theorem dX6_keep_22 : decode cX6_keep 22 = .ok (.if_icmp .ge 27, 3) := by decide +kernel
theorem dX6_keep_25 : decode cX6_keep 25 = .ok (.aload_n 0, 1) := by decide +kernel
theorem dX6_keep_26 : decode cX6_keep 26 = .ok (.getfield 13, 3) := by decide +kernel
theorem dX6_keep_29 : decode cX6_keep 29 = .ok (.sipush 264, 3) := by decide +kernel
theorem dX6_keep_32 : decode cX6_keep 32 = .ok (.iload_n 1, 1) := by decide +kernel
theorem dX6_keep_33 : decode cX6_keep 33 = .ok (.imul, 1) := by decide +kernel
theorem dX6_keep_34 : decode cX6_keep 34 = .ok (.iload_n 2, 1) := by decide +kernel
theorem dX6_keep_35 : decode cX6_keep 35 = .ok (.iadd, 1) := by decide +kernel
theorem dX6_keep_36 : decode cX6_keep 36 = .ok (.aload_n 0, 1) := by decide +kernel
theorem dX6_keep_37 : decode cX6_keep 37 = .ok (.getfield 7, 3) := by decide +kernel
theorem dX6_keep_40 : decode cX6_keep 40 = .ok (.iload_n 2, 1) := by decide +kernel
theorem dX6_keep_41 : decode cX6_keep 41 = .ok (.iaload, 1) := by decide +kernel
theorem dX6_keep_42 : decode cX6_keep 42 = .ok (.iastore, 1) := by decide +kernel
theorem dX6_keep_43 : decode cX6_keep 43 = .ok (.iinc 2 1, 3) := by decide +kernel
theorem dX6_keep_46 : decode cX6_keep 46 = .ok (.goto (-28), 3) := by decide +kernel
theorem dX6_keep_49 : decode cX6_keep 49 = .ok (.aload_n 0, 1) := by decide +kernel
theorem dX6_keep_50 : decode cX6_keep 50 = .ok (.getfield 20, 3) := by decide +kernel
theorem dX6_keep_53 : decode cX6_keep 53 = .ok (.iconst 2, 1) := by decide +kernel
theorem dX6_keep_54 : decode cX6_keep 54 = .ok (.iconst 2, 1) := by decide +kernel
theorem dX6_keep_55 : decode cX6_keep 55 = .ok (.iload_n 1, 1) := by decide +kernel
theorem dX6_keep_56 : decode cX6_keep 56 = .ok (.imul, 1) := by decide +kernel
theorem dX6_keep_57 : decode cX6_keep 57 = .ok (.iadd, 1) := by decide +kernel
theorem dX6_keep_58 : decode cX6_keep 58 = .ok (.aload_n 0, 1) := by decide +kernel
theorem dX6_keep_59 : decode cX6_keep 59 = .ok (.getfield 20, 3) := by decide +kernel
theorem dX6_keep_62 : decode cX6_keep 62 = .ok (.iconst 0, 1) := by decide +kernel
theorem dX6_keep_63 : decode cX6_keep 63 = .ok (.laload, 1) := by decide +kernel
theorem dX6_keep_64 : decode cX6_keep 64 = .ok (.lastore, 1) := by decide +kernel
theorem dX6_keep_65 : decode cX6_keep 65 = .ok (.aload_n 0, 1) := by decide +kernel
theorem dX6_keep_66 : decode cX6_keep 66 = .ok (.getfield 20, 3) := by decide +kernel
theorem dX6_keep_69 : decode cX6_keep 69 = .ok (.iconst 3, 1) := by decide +kernel
theorem dX6_keep_70 : decode cX6_keep 70 = .ok (.iconst 2, 1) := by decide +kernel
theorem dX6_keep_71 : decode cX6_keep 71 = .ok (.iload_n 1, 1) := by decide +kernel
theorem dX6_keep_72 : decode cX6_keep 72 = .ok (.imul, 1) := by decide +kernel
theorem dX6_keep_73 : decode cX6_keep 73 = .ok (.iadd, 1) := by decide +kernel
theorem dX6_keep_74 : decode cX6_keep 74 = .ok (.aload_n 0, 1) := by decide +kernel
theorem dX6_keep_75 : decode cX6_keep 75 = .ok (.getfield 20, 3) := by decide +kernel
theorem dX6_keep_78 : decode cX6_keep 78 = .ok (.iconst 1, 1) := by decide +kernel
theorem dX6_keep_79 : decode cX6_keep 79 = .ok (.laload, 1) := by decide +kernel
theorem dX6_keep_80 : decode cX6_keep 80 = .ok (.lastore, 1) := by decide +kernel
theorem dX6_keep_81 : decode cX6_keep 81 = .ok (.aload_n 0, 1) := by decide +kernel
theorem dX6_keep_82 : decode cX6_keep 82 = .ok (.getfield 16, 3) := by decide +kernel
theorem dX6_keep_85 : decode cX6_keep 85 = .ok (.iload_n 1, 1) := by decide +kernel
theorem dX6_keep_86 : decode cX6_keep 86 = .ok (.iconst 1, 1) := by decide +kernel
theorem dX6_keep_87 : decode cX6_keep 87 = .ok (.bastore, 1) := by decide +kernel
theorem dX6_keep_88 : decode cX6_keep 88 = .ok (.aload_n 0, 1) := by decide +kernel
theorem dX6_keep_89 : decode cX6_keep 89 = .ok (.getfield 7, 3) := by decide +kernel
theorem dX6_keep_92 : decode cX6_keep 92 = .ok (.iconst 0, 1) := by decide +kernel
theorem dX6_keep_93 : decode cX6_keep 93 = .ok (.iaload, 1) := by decide +kernel
theorem dX6_keep_94 : decode cX6_keep 94 = .ok (.ireturn, 1) := by decide +kernel
set_option maxRecDepth 20000 in
theorem ggX6_back_X6_in : GoodIn wsX6_back wsX6_in := goodIn_r _ [9] (by decide +kernel) (by decide +kernel)
set_option maxRecDepth 20000 in
theorem gX6_back_X6_in : GoodIn wsX6_back (va_wsS RX6 61 yX6_in wsX6_in) := goodIn_app (goodIn_of _ (by decide +kernel)) ggX6_back_X6_in
theorem dX6_back_0 : decode cX6_back 0 = .ok (.aload_n 0, 1) := by decide +kernel
theorem dX6_back_1 : decode cX6_back 1 = .ok (.iconst 0, 1) := by decide +kernel
theorem dX6_back_2 : decode cX6_back 2 = .ok (.putfield 54, 3) := by decide +kernel
theorem dX6_back_5 : decode cX6_back 5 = .ok (.iload_n 1, 1) := by decide +kernel
theorem dX6_back_6 : decode cX6_back 6 = .ok (.iconst 0, 1) := by decide +kernel
theorem dX6_back_7 : decode cX6_back 7 = .ok (.iconst 1, 1) := by decide +kernel
theorem dX6_back_8 : decode cX6_back 8 = .ok (.invokestatic 61, 3) := by decide +kernel
theorem dX6_back_11 : decode cX6_back 11 = .ok (.ifCond .ne 5, 3) := by decide +kernel
theorem dX6_back_14 : decode cX6_back 14 = .ok (.iconst (-1), 1) := by decide +kernel
theorem dX6_back_15 : decode cX6_back 15 = .ok (.ireturn, 1) := by decide +kernel
theorem dX6_back_16 : decode cX6_back 16 = .ok (.aload_n 0, 1) := by decide +kernel
theorem dX6_back_17 : decode cX6_back 17 = .ok (.getfield 16, 3) := by decide +kernel
theorem dX6_back_20 : decode cX6_back 20 = .ok (.iload_n 1, 1) := by decide +kernel
theorem dX6_back_21 : decode cX6_back 21 = .ok (.baload, 1) := by decide +kernel
theorem dX6_back_22 : decode cX6_back 22 = .ok (.ifCond .ne 6, 3) := by decide +kernel
theorem dX6_back_25 : decode cX6_back 25 = .ok (.bipush (-2), 2) := by decide +kernel
theorem dX6_back_27 : decode cX6_back 27 = .ok (.ireturn, 1) := by decide +kernel
theorem dX6_back_28 : decode cX6_back 28 = .ok (.iconst 0, 1) := by decide +kernel
theorem dX6_back_29 : decode cX6_back 29 = .ok (.istore_n 2, 1) := by decide +kernel
theorem dX6_back_30 : decode cX6_back 30 = .ok (.iload_n 2, 1) := by decide +kernel
theorem dX6_back_31 : decode cX6_back 31 = .ok (.sipush 264, 3) := by decide +kernel
theorem dX6_back_34 : decode cX6_back 34 = .ok (.if_icmp .ge 27, 3) := by decide +kernel
theorem dX6_back_37 : decode cX6_back 37 = .ok (.aload_n 0, 1) := by decide +kernel
theorem dX6_back_38 : decode cX6_back 38 = .ok (.getfield 7, 3) := by decide +kernel
theorem dX6_back_41 : decode cX6_back 41 = .ok (.iload_n 2, 1) := by decide +kernel
theorem dX6_back_42 : decode cX6_back 42 = .ok (.aload_n 0, 1) := by decide +kernel
theorem dX6_back_43 : decode cX6_back 43 = .ok (.getfield 13, 3) := by decide +kernel
theorem dX6_back_46 : decode cX6_back 46 = .ok (.sipush 264, 3) := by decide +kernel
theorem dX6_back_49 : decode cX6_back 49 = .ok (.iload_n 1, 1) := by decide +kernel
theorem dX6_back_50 : decode cX6_back 50 = .ok (.imul, 1) := by decide +kernel
theorem dX6_back_51 : decode cX6_back 51 = .ok (.iload_n 2, 1) := by decide +kernel
theorem dX6_back_52 : decode cX6_back 52 = .ok (.iadd, 1) := by decide +kernel
theorem dX6_back_53 : decode cX6_back 53 = .ok (.iaload, 1) := by decide +kernel
theorem dX6_back_54 : decode cX6_back 54 = .ok (.iastore, 1) := by decide +kernel
theorem dX6_back_55 : decode cX6_back 55 = .ok (.iinc 2 1, 3) := by decide +kernel
theorem dX6_back_58 : decode cX6_back 58 = .ok (.goto (-28), 3) := by decide +kernel
theorem dX6_back_61 : decode cX6_back 61 = .ok (.aload_n 0, 1) := by decide +kernel
theorem dX6_back_62 : decode cX6_back 62 = .ok (.getfield 20, 3) := by decide +kernel
theorem dX6_back_65 : decode cX6_back 65 = .ok (.iconst 0, 1) := by decide +kernel
theorem dX6_back_66 : decode cX6_back 66 = .ok (.aload_n 0, 1) := by decide +kernel
theorem dX6_back_67 : decode cX6_back 67 = .ok (.getfield 20, 3) := by decide +kernel
theorem dX6_back_70 : decode cX6_back 70 = .ok (.iconst 2, 1) := by decide +kernel
theorem dX6_back_71 : decode cX6_back 71 = .ok (.iconst 2, 1) := by decide +kernel
theorem dX6_back_72 : decode cX6_back 72 = .ok (.iload_n 1, 1) := by decide +kernel
theorem dX6_back_73 : decode cX6_back 73 = .ok (.imul, 1) := by decide +kernel
theorem dX6_back_74 : decode cX6_back 74 = .ok (.iadd, 1) := by decide +kernel
theorem dX6_back_75 : decode cX6_back 75 = .ok (.laload, 1) := by decide +kernel
theorem dX6_back_76 : decode cX6_back 76 = .ok (.lastore, 1) := by decide +kernel
theorem dX6_back_77 : decode cX6_back 77 = .ok (.aload_n 0, 1) := by decide +kernel
theorem dX6_back_78 : decode cX6_back 78 = .ok (.getfield 20, 3) := by decide +kernel
theorem dX6_back_81 : decode cX6_back 81 = .ok (.iconst 1, 1) := by decide +kernel
theorem dX6_back_82 : decode cX6_back 82 = .ok (.aload_n 0, 1) := by decide +kernel
theorem dX6_back_83 : decode cX6_back 83 = .ok (.getfield 20, 3) := by decide +kernel
theorem dX6_back_86 : decode cX6_back 86 = .ok (.iconst 3, 1) := by decide +kernel
theorem dX6_back_87 : decode cX6_back 87 = .ok (.iconst 2, 1) := by decide +kernel
theorem dX6_back_88 : decode cX6_back 88 = .ok (.iload_n 1, 1) := by decide +kernel
theorem dX6_back_89 : decode cX6_back 89 = .ok (.imul, 1) := by decide +kernel
theorem dX6_back_90 : decode cX6_back 90 = .ok (.iadd, 1) := by decide +kernel
theorem dX6_back_91 : decode cX6_back 91 = .ok (.laload, 1) := by decide +kernel
theorem dX6_back_92 : decode cX6_back 92 = .ok (.lastore, 1) := by decide +kernel
theorem dX6_back_93 : decode cX6_back 93 = .ok (.aload_n 0, 1) := by decide +kernel
theorem dX6_back_94 : decode cX6_back 94 = .ok (.getfield 7, 3) := by decide +kernel
theorem dX6_back_97 : decode cX6_back 97 = .ok (.iconst 0, 1) := by decide +kernel
theorem dX6_back_98 : decode cX6_back 98 = .ok (.iaload, 1) := by decide +kernel
theorem dX6_back_99 : decode cX6_back 99 = .ok (.ireturn, 1) := by decide +kernel
set_option maxRecDepth 20000 in
theorem ggX6_count_X6_in : GoodIn wsX6_count wsX6_in := goodIn_r _ [10] (by decide +kernel) (by decide +kernel)
set_option maxRecDepth 20000 in
theorem gX6_count_X6_in : GoodIn wsX6_count (va_wsS RX6 61 yX6_in wsX6_in) := goodIn_app (goodIn_of _ (by decide +kernel)) ggX6_count_X6_in
theorem dX6_count_0 : decode cX6_count 0 = .ok (.aload_n 0, 1) := by decide +kernel
theorem dX6_count_1 : decode cX6_count 1 = .ok (.iconst 0, 1) := by decide +kernel
theorem dX6_count_2 : decode cX6_count 2 = .ok (.putfield 54, 3) := by decide +kernel
theorem dX6_count_5 : decode cX6_count 5 = .ok (.iload_n 1, 1) := by decide +kernel
theorem dX6_count_6 : decode cX6_count 6 = .ok (.ifCond .ne 10, 3) := by decide +kernel
theorem dX6_count_9 : decode cX6_count 9 = .ok (.aload_n 0, 1) := by decide +kernel
theorem dX6_count_10 : decode cX6_count 10 = .ok (.getfield 58, 3) := by decide +kernel
theorem dX6_count_13 : decode cX6_count 13 = .ok (.goto 79, 3) := by decide +kernel
theorem dX6_count_16 : decode cX6_count 16 = .ok (.iload_n 1, 1) := by decide +kernel
theorem dX6_count_17 : decode cX6_count 17 = .ok (.iconst 1, 1) := by decide +kernel
theorem dX6_count_18 : decode cX6_count 18 = .ok (.if_icmp .ne 10, 3) := by decide +kernel
theorem dX6_count_21 : decode cX6_count 21 = .ok (.aload_n 0, 1) := by decide +kernel
theorem dX6_count_22 : decode cX6_count 22 = .ok (.getfield 65, 3) := by decide +kernel
theorem dX6_count_25 : decode cX6_count 25 = .ok (.goto 67, 3) := by decide +kernel
theorem dX6_count_28 : decode cX6_count 28 = .ok (.iload_n 1, 1) := by decide +kernel
theorem dX6_count_29 : decode cX6_count 29 = .ok (.iconst 2, 1) := by decide +kernel
theorem dX6_count_30 : decode cX6_count 30 = .ok (.if_icmp .ne 12, 3) := by decide +kernel
theorem dX6_count_33 : decode cX6_count 33 = .ok (.aload_n 0, 1) := by decide +kernel
theorem dX6_count_34 : decode cX6_count 34 = .ok (.getfield 7, 3) := by decide +kernel
theorem dX6_count_37 : decode cX6_count 37 = .ok (.iconst 0, 1) := by decide +kernel
theorem dX6_count_38 : decode cX6_count 38 = .ok (.iaload, 1) := by decide +kernel
theorem dX6_count_39 : decode cX6_count 39 = .ok (.goto 53, 3) := by decide +kernel
theorem dX6_count_42 : decode cX6_count 42 = .ok (.iload_n 1, 1) := by decide +kernel
theorem dX6_count_43 : decode cX6_count 43 = .ok (.iconst 3, 1) := by decide +kernel
theorem dX6_count_44 : decode cX6_count 44 = .ok (.if_icmp .ne 14, 3) := by decide +kernel
theorem dX6_count_47 : decode cX6_count 47 = .ok (.aload_n 0, 1) := by decide +kernel
theorem dX6_count_48 : decode cX6_count 48 = .ok (.getfield 7, 3) := by decide +kernel
theorem dX6_count_51 : decode cX6_count 51 = .ok (.sipush 181, 3) := by decide +kernel
theorem dX6_count_54 : decode cX6_count 54 = .ok (.iaload, 1) := by decide +kernel
theorem dX6_count_55 : decode cX6_count 55 = .ok (.goto 37, 3) := by decide +kernel
theorem dX6_count_58 : decode cX6_count 58 = .ok (.iload_n 1, 1) := by decide +kernel
theorem dX6_count_59 : decode cX6_count 59 = .ok (.iconst 4, 1) := by decide +kernel
theorem dX6_count_60 : decode cX6_count 60 = .ok (.if_icmp .ne 10, 3) := by decide +kernel
theorem dX6_count_63 : decode cX6_count 63 = .ok (.aload_n 0, 1) := by decide +kernel
theorem dX6_count_64 : decode cX6_count 64 = .ok (.getfield 76, 3) := by decide +kernel
theorem dX6_count_67 : decode cX6_count 67 = .ok (.goto 25, 3) := by decide +kernel
theorem dX6_count_70 : decode cX6_count 70 = .ok (.iload_n 1, 1) := by decide +kernel
theorem dX6_count_71 : decode cX6_count 71 = .ok (.iconst 5, 1) := by decide +kernel
theorem dX6_count_72 : decode cX6_count 72 = .ok (.bipush 7, 2) := by decide +kernel
theorem dX6_count_74 : decode cX6_count 74 = .ok (.invokestatic 61, 3) := by decide +kernel
theorem dX6_count_77 : decode cX6_count 77 = .ok (.ifCond .eq 14, 3) := by decide +kernel
theorem dX6_count_80 : decode cX6_count 80 = .ok (.aload_n 0, 1) := by decide +kernel
theorem dX6_count_81 : decode cX6_count 81 = .ok (.getfield 27, 3) := by decide +kernel
theorem dX6_count_84 : decode cX6_count 84 = .ok (.iload_n 1, 1) := by decide +kernel
theorem dX6_count_85 : decode cX6_count 85 = .ok (.iconst 5, 1) := by decide +kernel
theorem dX6_count_86 : decode cX6_count 86 = .ok (.isub, 1) := by decide +kernel
theorem dX6_count_87 : decode cX6_count 87 = .ok (.iaload, 1) := by decide +kernel
theorem dX6_count_88 : decode cX6_count 88 = .ok (.goto 4, 3) := by decide +kernel
theorem dX6_count_91 : decode cX6_count 91 = .ok (.iconst (-1), 1) := by decide +kernel
theorem dX6_count_92 : decode cX6_count 92 = .ok (.ireturn, 1) := by decide +kernel
theorem dX6_trace_0 : decode cX6_trace 0 = .ok (.aload_n 0, 1) := by decide +kernel
theorem dX6_trace_1 : decode cX6_trace 1 = .ok (.iconst 0, 1) := by decide +kernel
theorem dX6_trace_2 : decode cX6_trace 2 = .ok (.putfield 54, 3) := by decide +kernel
theorem dX6_trace_5 : decode cX6_trace 5 = .ok (.aload_n 0, 1) := by decide +kernel
theorem dX6_trace_6 : decode cX6_trace 6 = .ok (.getfield 259, 3) := by decide +kernel
theorem dX6_trace_9 : decode cX6_trace 9 = .ok (.lreturn, 1) := by decide +kernel

