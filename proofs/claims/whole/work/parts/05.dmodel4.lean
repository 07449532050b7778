theorem dX6_apartOf_0 : decode cX6_apartOf 0 = .ok (.iconst 0, 1) := by decide +kernel
theorem dX6_apartOf_1 : decode cX6_apartOf 1 = .ok (.istore 5, 2) := by decide +kernel
theorem dX6_apartOf_3 : decode cX6_apartOf 3 = .ok (.iconst (-1), 1) := by decide +kernel
theorem dX6_apartOf_4 : decode cX6_apartOf 4 = .ok (.istore 6, 2) := by decide +kernel
theorem dX6_apartOf_6 : decode cX6_apartOf 6 = .ok (.iload 6, 2) := by decide +kernel
theorem dX6_apartOf_8 : decode cX6_apartOf 8 = .ok (.bipush 101, 2) := by decide +kernel
theorem dX6_apartOf_10 : decode cX6_apartOf 10 = .ok (.if_icmp .ge 40, 3) := by decide +kernel
theorem dX6_apartOf_13 : decode cX6_apartOf 13 = .ok (.iload 5, 2) := by decide +kernel
theorem dX6_apartOf_15 : decode cX6_apartOf 15 = .ok (.aload_n 0, 1) := by decide +kernel
theorem dX6_apartOf_16 : decode cX6_apartOf 16 = .ok (.iload_n 1, 1) := by decide +kernel
theorem dX6_apartOf_17 : decode cX6_apartOf 17 = .ok (.iload_n 3, 1) := by decide +kernel
theorem dX6_apartOf_18 : decode cX6_apartOf 18 = .ok (.iload 4, 2) := by decide +kernel
theorem dX6_apartOf_20 : decode cX6_apartOf 20 = .ok (.iload 6, 2) := by decide +kernel
theorem dX6_apartOf_22 : decode cX6_apartOf 22 = .ok (.invokevirtual 176, 3) := by decide +kernel
theorem dX6_apartOf_25 : decode cX6_apartOf 25 = .ok (.aload_n 0, 1) := by decide +kernel
theorem dX6_apartOf_26 : decode cX6_apartOf 26 = .ok (.iload_n 2, 1) := by decide +kernel
theorem dX6_apartOf_27 : decode cX6_apartOf 27 = .ok (.iload_n 3, 1) := by decide +kernel
theorem dX6_apartOf_28 : decode cX6_apartOf 28 = .ok (.iload 4, 2) := by decide +kernel
theorem dX6_apartOf_30 : decode cX6_apartOf 30 = .ok (.iload 6, 2) := by decide +kernel
theorem dX6_apartOf_32 : decode cX6_apartOf 32 = .ok (.invokevirtual 176, 3) := by decide +kernel
theorem dX6_apartOf_35 : decode cX6_apartOf 35 = .ok (.isub, 1) := by decide +kernel
theorem dX6_apartOf_36 : decode cX6_apartOf 36 = .ok (.i2l, 1) := by decide +kernel
theorem dX6_apartOf_37 : decode cX6_apartOf 37 = .ok (.invokestatic 68, 3) := by decide +kernel
theorem dX6_apartOf_40 : decode cX6_apartOf 40 = .ok (.l2i, 1) := by decide +kernel
theorem dX6_apartOf_41 : decode cX6_apartOf 41 = .ok (.iadd, 1) := by decide +kernel
theorem dX6_apartOf_42 : decode cX6_apartOf 42 = .ok (.istore 5, 2) := by decide +kernel
theorem dX6_apartOf_44 : decode cX6_apartOf 44 = .ok (.iinc 6 1, 3) := by decide +kernel
theorem dX6_apartOf_47 : decode cX6_apartOf 47 = .ok (.goto (-41), 3) := by decide +kernel
theorem dX6_apartOf_50 : decode cX6_apartOf 50 = .ok (.iload 5, 2) := by decide +kernel
theorem dX6_apartOf_52 : decode cX6_apartOf 52 = .ok (.ireturn, 1) := by decide +kernel
set_option maxRecDepth 20000 in
theorem ggX6_apart_X6_isWay : GoodIn wsX6_apart wsX6_isWay := goodIn_r _ [6, 7, 8, 9, 5, 10, 37, 38, 39, 40, 41, 42, 43, 44, 45, 46, 47, 48, 49, 50, 51, 52, 53, 54, 55, 56, 57, 58, 59, 60, 61, 62, 63, 64, 65] (by decide +kernel) (by decide +kernel)
set_option maxRecDepth 20000 in
theorem gX6_apart_X6_isWay : GoodIn wsX6_apart (wsV RX6 167 RX6 yX6_isWay wsX6_isWay) := goodIn_app (goodIn_of _ (by decide +kernel)) ggX6_apart_X6_isWay
set_option maxRecDepth 20000 in
theorem ggX6_apart_X6_isStall : GoodIn wsX6_apart wsX6_isStall := goodIn_r _ [14, 15, 8, 9, 5, 10, 37, 38, 39, 40, 41, 42, 43, 44, 45, 46, 47, 48, 49, 50, 51, 52, 53, 54, 55, 56, 57, 58, 59, 60, 61, 62, 63, 64, 65] (by decide +kernel) (by decide +kernel)
set_option maxRecDepth 20000 in
theorem gX6_apart_X6_isStall : GoodIn wsX6_apart (wsV RX6 158 RX6 yX6_isStall wsX6_isStall) := goodIn_app (goodIn_of _ (by decide +kernel)) ggX6_apart_X6_isStall
set_option maxRecDepth 20000 in
theorem ggX6_apart_X6_isSort : GoodIn wsX6_apart wsX6_isSort := goodIn_r _ [18, 8, 9, 5, 10] (by decide +kernel) (by decide +kernel)
set_option maxRecDepth 20000 in
theorem gX6_apart_X6_isSort : GoodIn wsX6_apart (va_wsS RX6 173 yX6_isSort wsX6_isSort) := goodIn_app (goodIn_of _ (by decide +kernel)) ggX6_apart_X6_isSort
set_option maxRecDepth 20000 in
theorem ggX6_apart_X6_apartOf : GoodIn wsX6_apart wsX6_apartOf := goodIn_r _ [22, 23, 24, 25, 5, 26, 27, 28, 8, 9, 10, 29, 30, 31, 32, 33, 34, 35, 36, 37, 38, 39, 40, 41, 42, 43, 44, 45, 46, 47, 48, 49, 50, 51, 52, 53, 54, 55, 56, 57, 58, 59, 60, 61, 62, 63, 64, 65] (by decide +kernel) (by decide +kernel)
set_option maxRecDepth 20000 in
theorem gX6_apart_X6_apartOf : GoodIn wsX6_apart (wsV RX6 229 RX6 yX6_apartOf wsX6_apartOf) := goodIn_app (goodIn_of _ (by decide +kernel)) ggX6_apart_X6_apartOf
theorem dX6_apart_0 : decode cX6_apart 0 = .ok (.aload_n 0, 1) := by decide +kernel
theorem dX6_apart_1 : decode cX6_apart 1 = .ok (.iconst 0, 1) := by decide +kernel
theorem dX6_apart_2 : decode cX6_apart 2 = .ok (.putfield 54, 3) := by decide +kernel
theorem dX6_apart_5 : decode cX6_apart 5 = .ok (.aload_n 0, 1) := by decide +kernel
theorem dX6_apart_6 : decode cX6_apart 6 = .ok (.iload_n 1, 1) := by decide +kernel
theorem dX6_apart_7 : decode cX6_apart 7 = .ok (.invokevirtual 167, 3) := by decide +kernel
theorem dX6_apart_10 : decode cX6_apart 10 = .ok (.ifCond .eq 39, 3) := by decide +kernel
theorem dX6_apart_13 : decode cX6_apart 13 = .ok (.aload_n 0, 1) := by decide +kernel
theorem dX6_apart_14 : decode cX6_apart 14 = .ok (.iload_n 2, 1) := by decide +kernel
theorem dX6_apart_15 : decode cX6_apart 15 = .ok (.invokevirtual 167, 3) := by decide +kernel
theorem dX6_apart_18 : decode cX6_apart 18 = .ok (.ifCond .eq 31, 3) := by decide +kernel
theorem dX6_apart_21 : decode cX6_apart 21 = .ok (.aload_n 0, 1) := by decide +kernel
theorem dX6_apart_22 : decode cX6_apart 22 = .ok (.iload_n 3, 1) := by decide +kernel
theorem dX6_apart_23 : decode cX6_apart 23 = .ok (.invokevirtual 158, 3) := by decide +kernel
theorem dX6_apart_26 : decode cX6_apart 26 = .ok (.ifCond .eq 23, 3) := by decide +kernel
theorem dX6_apart_29 : decode cX6_apart 29 = .ok (.iload 4, 2) := by decide +kernel
theorem dX6_apart_31 : decode cX6_apart 31 = .ok (.invokestatic 173, 3) := by decide +kernel
theorem dX6_apart_34 : decode cX6_apart 34 = .ok (.ifCond .eq 15, 3) := by decide +kernel
theorem dX6_apart_37 : decode cX6_apart 37 = .ok (.aload_n 0, 1) := by decide +kernel
theorem dX6_apart_38 : decode cX6_apart 38 = .ok (.iload_n 1, 1) := by decide +kernel
theorem dX6_apart_39 : decode cX6_apart 39 = .ok (.iload_n 2, 1) := by decide +kernel
theorem dX6_apart_40 : decode cX6_apart 40 = .ok (.iload_n 3, 1) := by decide +kernel
theorem dX6_apart_41 : decode cX6_apart 41 = .ok (.iload 4, 2) := by decide +kernel
theorem dX6_apart_43 : decode cX6_apart 43 = .ok (.invokevirtual 229, 3) := by decide +kernel
theorem dX6_apart_46 : decode cX6_apart 46 = .ok (.goto 4, 3) := by decide +kernel
theorem dX6_apart_49 : decode cX6_apart 49 = .ok (.iconst (-1), 1) := by decide +kernel
theorem dX6_apart_50 : decode cX6_apart 50 = .ok (.ireturn, 1) := by decide +kernel
set_option maxRecDepth 20000 in
theorem ggX6_follow_X6_isWay : GoodIn wsX6_follow wsX6_isWay := goodIn_r _ [6, 7, 8, 9, 5, 10, 34, 35, 36, 37, 38, 39, 40, 41, 42, 43, 44, 45, 46, 47, 48, 49, 50, 51, 52, 53, 54, 55, 56, 57, 58, 59, 60, 61, 62] (by decide +kernel) (by decide +kernel)
set_option maxRecDepth 20000 in
theorem gX6_follow_X6_isWay : GoodIn wsX6_follow (wsV RX6 167 RX6 yX6_isWay wsX6_isWay) := goodIn_app (goodIn_of _ (by decide +kernel)) ggX6_follow_X6_isWay
set_option maxRecDepth 20000 in
theorem ggX6_follow_X6_isStall : GoodIn wsX6_follow wsX6_isStall := goodIn_r _ [14, 15, 8, 9, 5, 10, 34, 35, 36, 37, 38, 39, 40, 41, 42, 43, 44, 45, 46, 47, 48, 49, 50, 51, 52, 53, 54, 55, 56, 57, 58, 59, 60, 61, 62] (by decide +kernel) (by decide +kernel)
set_option maxRecDepth 20000 in
theorem gX6_follow_X6_isStall : GoodIn wsX6_follow (wsV RX6 158 RX6 yX6_isStall wsX6_isStall) := goodIn_app (goodIn_of _ (by decide +kernel)) ggX6_follow_X6_isStall
set_option maxRecDepth 20000 in
theorem ggX6_follow_X6_apartOf : GoodIn wsX6_follow wsX6_apartOf := goodIn_r _ [19, 20, 21, 22, 5, 23, 24, 25, 8, 9, 10, 26, 27, 28, 29, 30, 31, 32, 33, 34, 35, 36, 37, 38, 39, 40, 41, 42, 43, 44, 45, 46, 47, 48, 49, 50, 51, 52, 53, 54, 55, 56, 57, 58, 59, 60, 61, 62] (by decide +kernel) (by decide +kernel)
set_option maxRecDepth 20000 in
theorem gX6_follow_X6_apartOf : GoodIn wsX6_follow (wsV RX6 229 RX6 yX6_apartOf wsX6_apartOf) := goodIn_app (goodIn_of _ (by decide +kernel)) ggX6_follow_X6_apartOf
theorem dX6_follow_0 : decode cX6_follow 0 = .ok (.aload_n 0, 1) := by decide +kernel
theorem dX6_follow_1 : decode cX6_follow 1 = .ok (.iconst 0, 1) := by decide +kernel
theorem dX6_follow_2 : decode cX6_follow 2 = .ok (.putfield 54, 3) := by decide +kernel
theorem dX6_follow_5 : decode cX6_follow 5 = .ok (.aload_n 0, 1) := by decide +kernel
theorem dX6_follow_6 : decode cX6_follow 6 = .ok (.iload_n 1, 1) := by decide +kernel
theorem dX6_follow_7 : decode cX6_follow 7 = .ok (.invokevirtual 167, 3) := by decide +kernel
theorem dX6_follow_10 : decode cX6_follow 10 = .ok (.ifCond .eq 19, 3) := by decide +kernel
theorem dX6_follow_13 : decode cX6_follow 13 = .ok (.aload_n 0, 1) := by decide +kernel
theorem dX6_follow_14 : decode cX6_follow 14 = .ok (.iload_n 2, 1) := by decide +kernel
theorem dX6_follow_15 : decode cX6_follow 15 = .ok (.invokevirtual 167, 3) := by decide +kernel
theorem dX6_follow_18 : decode cX6_follow 18 = .ok (.ifCond .eq 11, 3) := by decide +kernel
theorem dX6_follow_21 : decode cX6_follow 21 = .ok (.aload_n 0, 1) := by decide +kernel
theorem dX6_follow_22 : decode cX6_follow 22 = .ok (.iload_n 3, 1) := by decide +kernel
theorem dX6_follow_23 : decode cX6_follow 23 = .ok (.invokevirtual 158, 3) := by decide +kernel
theorem dX6_follow_26 : decode cX6_follow 26 = .ok (.ifCond .ne 5, 3) := by decide +kernel
theorem dX6_follow_29 : decode cX6_follow 29 = .ok (.iconst (-1), 1) := by decide +kernel
theorem dX6_follow_30 : decode cX6_follow 30 = .ok (.ireturn, 1) := by decide +kernel
theorem dX6_follow_31 : decode cX6_follow 31 = .ok (.bipush (-9), 2) := by decide +kernel
theorem dX6_follow_33 : decode cX6_follow 33 = .ok (.istore 4, 2) := by decide +kernel
theorem dX6_follow_35 : decode cX6_follow 35 = .ok (.iconst 0, 1) := by decide +kernel
theorem dX6_follow_36 : decode cX6_follow 36 = .ok (.istore 5, 2) := by decide +kernel
theorem dX6_follow_38 : decode cX6_follow 38 = .ok (.iconst 0, 1) := by decide +kernel
theorem dX6_follow_39 : decode cX6_follow 39 = .ok (.istore 6, 2) := by decide +kernel
theorem dX6_follow_41 : decode cX6_follow 41 = .ok (.iload 6, 2) := by decide +kernel
theorem dX6_follow_43 : decode cX6_follow 43 = .ok (.iconst 4, 1) := by decide +kernel
theorem dX6_follow_44 : decode cX6_follow 44 = .ok (.if_icmp .ge 52, 3) := by decide +kernel
theorem dX6_follow_47 : decode cX6_follow 47 = .ok (.aload_n 0, 1) := by decide +kernel
theorem dX6_follow_48 : decode cX6_follow 48 = .ok (.iload_n 1, 1) := by decide +kernel
theorem dX6_follow_49 : decode cX6_follow 49 = .ok (.iload_n 2, 1) := by decide +kernel
theorem dX6_follow_50 : decode cX6_follow 50 = .ok (.iload_n 3, 1) := by decide +kernel
theorem dX6_follow_51 : decode cX6_follow 51 = .ok (.iload 6, 2) := by decide +kernel
theorem dX6_follow_53 : decode cX6_follow 53 = .ok (.invokevirtual 229, 3) := by decide +kernel
theorem dX6_follow_56 : decode cX6_follow 56 = .ok (.istore 7, 2) := by decide +kernel
theorem dX6_follow_58 : decode cX6_follow 58 = .ok (.iload 7, 2) := by decide +kernel
theorem dX6_follow_60 : decode cX6_follow 60 = .ok (.iload 5, 2) := by decide +kernel
theorem dX6_follow_62 : decode cX6_follow 62 = .ok (.if_icmp .le 8, 3) := by decide +kernel
theorem dX6_follow_65 : decode cX6_follow 65 = .ok (.iload 6, 2) := by decide +kernel
theorem dX6_follow_67 : decode cX6_follow 67 = .ok (.goto 5, 3) := by decide +kernel
theorem dX6_follow_70 : decode cX6_follow 70 = .ok (.iload 4, 2) := by decide +kernel
theorem dX6_follow_72 : decode cX6_follow 72 = .ok (.istore 4, 2) := by decide +kernel
theorem dX6_follow_74 : decode cX6_follow 74 = .ok (.iload 7, 2) := by decide +kernel
theorem dX6_follow_76 : decode cX6_follow 76 = .ok (.iload 5, 2) := by decide +kernel
theorem dX6_follow_78 : decode cX6_follow 78 = .ok (.if_icmp .le 8, 3) := by decide +kernel
theorem dX6_follow_81 : decode cX6_follow 81 = .ok (.iload 7, 2) := by decide +kernel
theorem dX6_follow_83 : decode cX6_follow 83 = .ok (.goto 5, 3) := by decide +kernel
theorem dX6_follow_86 : decode cX6_follow 86 = .ok (.iload 5, 2) := by decide +kernel
theorem dX6_follow_88 : decode cX6_follow 88 = .ok (.istore 5, 2) := by decide +kernel
theorem dX6_follow_90 : decode cX6_follow 90 = .ok (.iinc 6 1, 3) := by decide +kernel
theorem dX6_follow_93 : decode cX6_follow 93 = .ok (.goto (-52), 3) := by decide +kernel
theorem dX6_follow_96 : decode cX6_follow 96 = .ok (.iload 4, 2) := by decide +kernel
theorem dX6_follow_98 : decode cX6_follow 98 = .ok (.ireturn, 1) := by decide +kernel
set_option maxRecDepth 20000 in
theorem ggX6_bar_X6_in : GoodIn wsX6_bar wsX6_in := goodIn_r _ [6] (by decide +kernel) (by decide +kernel)
set_option maxRecDepth 20000 in
theorem gX6_bar_X6_in : GoodIn wsX6_bar (va_wsS RX6 61 yX6_in wsX6_in) := goodIn_app (goodIn_of _ (by decide +kernel)) ggX6_bar_X6_in
theorem dX6_bar_0 : decode cX6_bar 0 = .ok (.aload_n 0, 1) := by decide +kernel
theorem dX6_bar_1 : decode cX6_bar 1 = .ok (.iconst 0, 1) := by decide +kernel
theorem dX6_bar_2 : decode cX6_bar 2 = .ok (.putfield 54, 3) := by decide +kernel
theorem dX6_bar_5 : decode cX6_bar 5 = .ok (.iload_n 1, 1) := by decide +kernel
theorem dX6_bar_6 : decode cX6_bar 6 = .ok (.iconst 0, 1) := by decide +kernel
theorem dX6_bar_7 : decode cX6_bar 7 = .ok (.bipush 7, 2) := by decide +kernel
theorem dX6_bar_9 : decode cX6_bar 9 = .ok (.invokestatic 61, 3) := by decide +kernel
theorem dX6_bar_12 : decode cX6_bar 12 = .ok (.ifCond .ne 5, 3) := by decide +kernel
theorem dX6_bar_15 : decode cX6_bar 15 = .ok (.iconst (-1), 1) := by decide +kernel
theorem dX6_bar_16 : decode cX6_bar 16 = .ok (.ireturn, 1) := by decide +kernel
theorem dX6_bar_17 : decode cX6_bar 17 = .ok (.iload_n 1, 1) := by decide +kernel
theorem dX6_bar_18 : decode cX6_bar 18 = .ok (.iconst 2, 1) := by decide +kernel
theorem dX6_bar_19 : decode cX6_bar 19 = .ok (.if_icmp .eq 14, 3) := by decide +kernel
theorem dX6_bar_22 : decode cX6_bar 22 = .ok (.iload_n 1, 1) := by decide +kernel
theorem dX6_bar_23 : decode cX6_bar 23 = .ok (.iconst 3, 1) := by decide +kernel
theorem dX6_bar_24 : decode cX6_bar 24 = .ok (.if_icmp .eq 9, 3) := by decide +kernel
theorem dX6_bar_27 : decode cX6_bar 27 = .ok (.iload_n 1, 1) := by decide +kernel
theorem dX6_bar_28 : decode cX6_bar 28 = .ok (.bipush 7, 2) := by decide +kernel
theorem dX6_bar_30 : decode cX6_bar 30 = .ok (.if_icmp .ne 7, 3) := by decide +kernel
theorem dX6_bar_33 : decode cX6_bar 33 = .ok (.iconst 1, 1) := by decide +kernel
theorem dX6_bar_34 : decode cX6_bar 34 = .ok (.goto 4, 3) := by decide +kernel
theorem dX6_bar_37 : decode cX6_bar 37 = .ok (.iconst 0, 1) := by decide +kernel
theorem dX6_bar_38 : decode cX6_bar 38 = .ok (.istore_n 3, 1) := by decide +kernel
theorem dX6_bar_39 : decode cX6_bar 39 = .ok (.iload_n 1, 1) := by decide +kernel
theorem dX6_bar_40 : decode cX6_bar 40 = .ok (.iconst 2, 1) := by decide +kernel
theorem dX6_bar_41 : decode cX6_bar 41 = .ok (.if_icmp .ge 8, 3) := by decide +kernel
theorem dX6_bar_44 : decode cX6_bar 44 = .ok (.bipush 10, 2) := by decide +kernel
theorem dX6_bar_46 : decode cX6_bar 46 = .ok (.goto 38, 3) := by decide +kernel
theorem dX6_bar_49 : decode cX6_bar 49 = .ok (.iload_n 1, 1) := by decide +kernel
theorem dX6_bar_50 : decode cX6_bar 50 = .ok (.iconst 4, 1) := by decide +kernel
theorem dX6_bar_51 : decode cX6_bar 51 = .ok (.if_icmp .ge 8, 3) := by decide +kernel
theorem dX6_bar_54 : decode cX6_bar 54 = .ok (.bipush 9, 2) := by decide +kernel
theorem dX6_bar_56 : decode cX6_bar 56 = .ok (.goto 28, 3) := by decide +kernel
theorem dX6_bar_59 : decode cX6_bar 59 = .ok (.iload_n 1, 1) := by decide +kernel
theorem dX6_bar_60 : decode cX6_bar 60 = .ok (.bipush 6, 2) := by decide +kernel
theorem dX6_bar_62 : decode cX6_bar 62 = .ok (.if_icmp .ge 9, 3) := by decide +kernel
theorem dX6_bar_65 : decode cX6_bar 65 = .ok (.sipush 999, 3) := by decide +kernel
theorem dX6_bar_68 : decode cX6_bar 68 = .ok (.goto 16, 3) := by decide +kernel
theorem dX6_bar_71 : decode cX6_bar 71 = .ok (.iload_n 1, 1) := by decide +kernel
theorem dX6_bar_72 : decode cX6_bar 72 = .ok (.bipush 6, 2) := by decide +kernel
theorem dX6_bar_74 : decode cX6_bar 74 = .ok (.if_icmp .ne 8, 3) := by decide +kernel
theorem dX6_bar_77 : decode cX6_bar 77 = .ok (.bipush 99, 2) := by decide +kernel
theorem dX6_bar_79 : decode cX6_bar 79 = .ok (.goto 5, 3) := by decide +kernel
theorem dX6_bar_82 : decode cX6_bar 82 = .ok (.bipush 8, 2) := by decide +kernel
theorem dX6_bar_84 : decode cX6_bar 84 = .ok (.istore 4, 2) := by decide +kernel
theorem dX6_bar_86 : decode cX6_bar 86 = .ok (.iload_n 2, 1) := by decide +kernel
theorem dX6_bar_87 : decode cX6_bar 87 = .ok (.iload_n 3, 1) := by decide +kernel
theorem dX6_bar_88 : decode cX6_bar 88 = .ok (.iload 4, 2) := by decide +kernel
theorem dX6_bar_90 : decode cX6_bar 90 = .ok (.invokestatic 61, 3) := by decide +kernel
theorem dX6_bar_93 : decode cX6_bar 93 = .ok (.ifCond .ne 5, 3) := by decide +kernel
theorem dX6_bar_96 : decode cX6_bar 96 = .ok (.iconst (-1), 1) := by decide +kernel
theorem dX6_bar_97 : decode cX6_bar 97 = .ok (.ireturn, 1) := by decide +kernel
theorem dX6_bar_98 : decode cX6_bar 98 = .ok (.aload_n 0, 1) := by decide +kernel
theorem dX6_bar_99 : decode cX6_bar 99 = .ok (.getfield 39, 3) := by decide +kernel
theorem dX6_bar_102 : decode cX6_bar 102 = .ok (.iload_n 1, 1) := by decide +kernel
theorem dX6_bar_103 : decode cX6_bar 103 = .ok (.iaload, 1) := by decide +kernel
theorem dX6_bar_104 : decode cX6_bar 104 = .ok (.istore 5, 2) := by decide +kernel
theorem dX6_bar_106 : decode cX6_bar 106 = .ok (.aload_n 0, 1) := by decide +kernel
theorem dX6_bar_107 : decode cX6_bar 107 = .ok (.getfield 39, 3) := by decide +kernel
theorem dX6_bar_110 : decode cX6_bar 110 = .ok (.iload_n 1, 1) := by decide +kernel
theorem dX6_bar_111 : decode cX6_bar 111 = .ok (.iload_n 2, 1) := by decide +kernel
theorem dX6_bar_112 : decode cX6_bar 112 = .ok (.iastore, 1) := by decide +kernel
theorem dX6_bar_113 : decode cX6_bar 113 = .ok (.iload 5, 2) := by decide +kernel
theorem dX6_bar_115 : decode cX6_bar 115 = .ok (.ireturn, 1) := by decide +kernel
set_option maxRecDepth 20000 in
theorem ggX6_weighsAll_X6_power : GoodIn wsX6_weighsAll wsX6_power := goodIn_r _ [8] (by decide +kernel) (by decide +kernel)
set_option maxRecDepth 20000 in
theorem gX6_weighsAll_X6_power : GoodIn wsX6_weighsAll (va_wsS RX6 202 yX6_power wsX6_power) := goodIn_app (goodIn_of _ (by decide +kernel)) ggX6_weighsAll_X6_power
theorem dX6_weighsAll_0 : decode cX6_weighsAll 0 = .ok (.aload_n 0, 1) := by decide +kernel
theorem dX6_weighsAll_1 : decode cX6_weighsAll 1 = .ok (.getfield 39, 3) := by decide +kernel
theorem dX6_weighsAll_4 : decode cX6_weighsAll 4 = .ok (.bipush 7, 2) := by decide +kernel
theorem dX6_weighsAll_6 : decode cX6_weighsAll 6 = .ok (.iaload, 1) := by decide +kernel
theorem dX6_weighsAll_7 : decode cX6_weighsAll 7 = .ok (.istore_n 1, 1) := by decide +kernel
theorem dX6_weighsAll_8 : decode cX6_weighsAll 8 = .ok (.iload_n 1, 1) := by decide +kernel
theorem dX6_weighsAll_9 : decode cX6_weighsAll 9 = .ok (.istore_n 2, 1) := by decide +kernel
theorem dX6_weighsAll_10 : decode cX6_weighsAll 10 = .ok (.iload_n 2, 1) := by decide +kernel
theorem dX6_weighsAll_11 : decode cX6_weighsAll 11 = .ok (.ifCond .lt 276, 3) := by decide +kernel
theorem dX6_weighsAll_14 : decode cX6_weighsAll 14 = .ok (.ldc2_w 213, 3) := by decide +kernel
theorem dX6_weighsAll_17 : decode cX6_weighsAll 17 = .ok (.iload_n 1, 1) := by decide +kernel
theorem dX6_weighsAll_18 : decode cX6_weighsAll 18 = .ok (.iload_n 2, 1) := by decide +kernel
theorem dX6_weighsAll_19 : decode cX6_weighsAll 19 = .ok (.isub, 1) := by decide +kernel
theorem dX6_weighsAll_20 : decode cX6_weighsAll 20 = .ok (.invokestatic 202, 3) := by decide +kernel
theorem dX6_weighsAll_23 : decode cX6_weighsAll 23 = .ok (.lstore_n 3, 1) := by decide +kernel
theorem dX6_weighsAll_24 : decode cX6_weighsAll 24 = .ok (.iconst 0, 1) := by decide +kernel
theorem dX6_weighsAll_25 : decode cX6_weighsAll 25 = .ok (.istore 5, 2) := by decide +kernel
theorem dX6_weighsAll_27 : decode cX6_weighsAll 27 = .ok (.iload 5, 2) := by decide +kernel
theorem dX6_weighsAll_29 : decode cX6_weighsAll 29 = .ok (.iload_n 2, 1) := by decide +kernel
theorem dX6_weighsAll_30 : decode cX6_weighsAll 30 = .ok (.if_icmp .gt 251, 3) := by decide +kernel
theorem dX6_weighsAll_33 : decode cX6_weighsAll 33 = .ok (.aload_n 0, 1) := by decide +kernel
theorem dX6_weighsAll_34 : decode cX6_weighsAll 34 = .ok (.getfield 39, 3) := by decide +kernel
theorem dX6_weighsAll_37 : decode cX6_weighsAll 37 = .ok (.iconst 2, 1) := by decide +kernel
theorem dX6_weighsAll_38 : decode cX6_weighsAll 38 = .ok (.iaload, 1) := by decide +kernel
theorem dX6_weighsAll_39 : decode cX6_weighsAll 39 = .ok (.i2l, 1) := by decide +kernel
theorem dX6_weighsAll_40 : decode cX6_weighsAll 40 = .ok (.aload_n 0, 1) := by decide +kernel
theorem dX6_weighsAll_41 : decode cX6_weighsAll 41 = .ok (.getfield 39, 3) := by decide +kernel
theorem dX6_weighsAll_44 : decode cX6_weighsAll 44 = .ok (.iconst 0, 1) := by decide +kernel
theorem dX6_weighsAll_45 : decode cX6_weighsAll 45 = .ok (.iaload, 1) := by decide +kernel
theorem dX6_weighsAll_46 : decode cX6_weighsAll 46 = .ok (.i2l, 1) := by decide +kernel
theorem dX6_weighsAll_47 : decode cX6_weighsAll 47 = .ok (.iload 5, 2) := by decide +kernel
theorem dX6_weighsAll_49 : decode cX6_weighsAll 49 = .ok (.invokestatic 202, 3) := by decide +kernel
theorem dX6_weighsAll_52 : decode cX6_weighsAll 52 = .ok (.lmul, 1) := by decide +kernel
theorem dX6_weighsAll_53 : decode cX6_weighsAll 53 = .ok (.bipush 10, 2) := by decide +kernel
theorem dX6_weighsAll_55 : decode cX6_weighsAll 55 = .ok (.aload_n 0, 1) := by decide +kernel
theorem dX6_weighsAll_56 : decode cX6_weighsAll 56 = .ok (.getfield 39, 3) := by decide +kernel
theorem dX6_weighsAll_59 : decode cX6_weighsAll 59 = .ok (.iconst 0, 1) := by decide +kernel
theorem dX6_weighsAll_60 : decode cX6_weighsAll 60 = .ok (.iaload, 1) := by decide +kernel
theorem dX6_weighsAll_61 : decode cX6_weighsAll 61 = .ok (.isub, 1) := by decide +kernel
theorem dX6_weighsAll_62 : decode cX6_weighsAll 62 = .ok (.i2l, 1) := by decide +kernel
theorem dX6_weighsAll_63 : decode cX6_weighsAll 63 = .ok (.iload_n 2, 1) := by decide +kernel
theorem dX6_weighsAll_64 : decode cX6_weighsAll 64 = .ok (.iload 5, 2) := by decide +kernel
theorem dX6_weighsAll_66 : decode cX6_weighsAll 66 = .ok (.isub, 1) := by decide +kernel
theorem dX6_weighsAll_67 : decode cX6_weighsAll 67 = .ok (.invokestatic 202, 3) := by decide +kernel
theorem dX6_weighsAll_70 : decode cX6_weighsAll 70 = .ok (.lmul, 1) := by decide +kernel
theorem dX6_weighsAll_71 : decode cX6_weighsAll 71 = .ok (.lstore 6, 2) := by decide +kernel
theorem dX6_weighsAll_73 : decode cX6_weighsAll 73 = .ok (.aload_n 0, 1) := by decide +kernel
theorem dX6_weighsAll_74 : decode cX6_weighsAll 74 = .ok (.getfield 39, 3) := by decide +kernel
theorem dX6_weighsAll_77 : decode cX6_weighsAll 77 = .ok (.iconst 3, 1) := by decide +kernel
theorem dX6_weighsAll_78 : decode cX6_weighsAll 78 = .ok (.iaload, 1) := by decide +kernel
theorem dX6_weighsAll_79 : decode cX6_weighsAll 79 = .ok (.i2l, 1) := by decide +kernel
theorem dX6_weighsAll_80 : decode cX6_weighsAll 80 = .ok (.aload_n 0, 1) := by decide +kernel
theorem dX6_weighsAll_81 : decode cX6_weighsAll 81 = .ok (.getfield 39, 3) := by decide +kernel
theorem dX6_weighsAll_84 : decode cX6_weighsAll 84 = .ok (.iconst 1, 1) := by decide +kernel
theorem dX6_weighsAll_85 : decode cX6_weighsAll 85 = .ok (.iaload, 1) := by decide +kernel
theorem dX6_weighsAll_86 : decode cX6_weighsAll 86 = .ok (.i2l, 1) := by decide +kernel
theorem dX6_weighsAll_87 : decode cX6_weighsAll 87 = .ok (.iload 5, 2) := by decide +kernel
theorem dX6_weighsAll_89 : decode cX6_weighsAll 89 = .ok (.invokestatic 202, 3) := by decide +kernel
theorem dX6_weighsAll_92 : decode cX6_weighsAll 92 = .ok (.lmul, 1) := by decide +kernel
theorem dX6_weighsAll_93 : decode cX6_weighsAll 93 = .ok (.bipush 10, 2) := by decide +kernel
theorem dX6_weighsAll_95 : decode cX6_weighsAll 95 = .ok (.aload_n 0, 1) := by decide +kernel
theorem dX6_weighsAll_96 : decode cX6_weighsAll 96 = .ok (.getfield 39, 3) := by decide +kernel
theorem dX6_weighsAll_99 : decode cX6_weighsAll 99 = .ok (.iconst 1, 1) := by decide +kernel
theorem dX6_weighsAll_100 : decode cX6_weighsAll 100 = .ok (.iaload, 1) := by decide +kernel
theorem dX6_weighsAll_101 : decode cX6_weighsAll 101 = .ok (.isub, 1) := by decide +kernel
theorem dX6_weighsAll_102 : decode cX6_weighsAll 102 = .ok (.i2l, 1) := by decide +kernel
theorem dX6_weighsAll_103 : decode cX6_weighsAll 103 = .ok (.iload_n 2, 1) := by decide +kernel
theorem dX6_weighsAll_104 : decode cX6_weighsAll 104 = .ok (.iload 5, 2) := by decide +kernel
theorem dX6_weighsAll_106 : decode cX6_weighsAll 106 = .ok (.isub, 1) := by decide +kernel
theorem dX6_weighsAll_107 : decode cX6_weighsAll 107 = .ok (.invokestatic 202, 3) := by decide +kernel
theorem dX6_weighsAll_110 : decode cX6_weighsAll 110 = .ok (.lmul, 1) := by decide +kernel
theorem dX6_weighsAll_111 : decode cX6_weighsAll 111 = .ok (.lstore 8, 2) := by decide +kernel
theorem dX6_weighsAll_113 : decode cX6_weighsAll 113 = .ok (.aload_n 0, 1) := by decide +kernel
theorem dX6_weighsAll_114 : decode cX6_weighsAll 114 = .ok (.getfield 39, 3) := by decide +kernel
theorem dX6_weighsAll_117 : decode cX6_weighsAll 117 = .ok (.iconst 4, 1) := by decide +kernel
theorem dX6_weighsAll_118 : decode cX6_weighsAll 118 = .ok (.iaload, 1) := by decide +kernel
theorem dX6_weighsAll_119 : decode cX6_weighsAll 119 = .ok (.i2l, 1) := by decide +kernel
theorem dX6_weighsAll_120 : decode cX6_weighsAll 120 = .ok (.lload 6, 2) := by decide +kernel
theorem dX6_weighsAll_122 : decode cX6_weighsAll 122 = .ok (.lmul, 1) := by decide +kernel
theorem dX6_weighsAll_123 : decode cX6_weighsAll 123 = .ok (.lload_n 3, 1) := by decide +kernel
theorem dX6_weighsAll_124 : decode cX6_weighsAll 124 = .ok (.lmul, 1) := by decide +kernel
theorem dX6_weighsAll_125 : decode cX6_weighsAll 125 = .ok (.lstore 10, 2) := by decide +kernel
theorem dX6_weighsAll_127 : decode cX6_weighsAll 127 = .ok (.iconst 0, 1) := by decide +kernel
theorem dX6_weighsAll_128 : decode cX6_weighsAll 128 = .ok (.istore 12, 2) := by decide +kernel
theorem dX6_weighsAll_130 : decode cX6_weighsAll 130 = .ok (.aload_n 0, 1) := by decide +kernel
theorem dX6_weighsAll_131 : decode cX6_weighsAll 131 = .ok (.getfield 39, 3) := by decide +kernel
theorem dX6_weighsAll_134 : decode cX6_weighsAll 134 = .ok (.iconst 5, 1) := by decide +kernel
theorem dX6_weighsAll_135 : decode cX6_weighsAll 135 = .ok (.iaload, 1) := by decide +kernel
theorem dX6_weighsAll_136 : decode cX6_weighsAll 136 = .ok (.i2l, 1) := by decide +kernel
theorem dX6_weighsAll_137 : decode cX6_weighsAll 137 = .ok (.lload 8, 2) := by decide +kernel
theorem dX6_weighsAll_139 : decode cX6_weighsAll 139 = .ok (.lmul, 1) := by decide +kernel
theorem dX6_weighsAll_140 : decode cX6_weighsAll 140 = .ok (.lload_n 3, 1) := by decide +kernel
theorem dX6_weighsAll_141 : decode cX6_weighsAll 141 = .ok (.lmul, 1) := by decide +kernel
theorem dX6_weighsAll_142 : decode cX6_weighsAll 142 = .ok (.lstore 13, 2) := by decide +kernel
theorem dX6_weighsAll_144 : decode cX6_weighsAll 144 = .ok (.lload 13, 2) := by decide +kernel
theorem dX6_weighsAll_146 : decode cX6_weighsAll 146 = .ok (.lload 10, 2) := by decide +kernel
theorem dX6_weighsAll_148 : decode cX6_weighsAll 148 = .ok (.lcmp, 1) := by decide +kernel
theorem dX6_weighsAll_149 : decode cX6_weighsAll 149 = .ok (.ifCond .ge 10, 3) := by decide +kernel
theorem dX6_weighsAll_152 : decode cX6_weighsAll 152 = .ok (.lload 13, 2) := by decide +kernel
theorem dX6_weighsAll_154 : decode cX6_weighsAll 154 = .ok (.lstore 10, 2) := by decide +kernel
theorem dX6_weighsAll_156 : decode cX6_weighsAll 156 = .ok (.iconst 1, 1) := by decide +kernel
theorem dX6_weighsAll_157 : decode cX6_weighsAll 157 = .ok (.istore 12, 2) := by decide +kernel
theorem dX6_weighsAll_159 : decode cX6_weighsAll 159 = .ok (.iload_n 2, 1) := by decide +kernel
theorem dX6_weighsAll_160 : decode cX6_weighsAll 160 = .ok (.iload_n 1, 1) := by decide +kernel
theorem dX6_weighsAll_161 : decode cX6_weighsAll 161 = .ok (.if_icmp .ge 86, 3) := by decide +kernel
theorem dX6_weighsAll_164 : decode cX6_weighsAll 164 = .ok (.aload_n 0, 1) := by decide +kernel
theorem dX6_weighsAll_165 : decode cX6_weighsAll 165 = .ok (.getfield 39, 3) := by decide +kernel
theorem dX6_weighsAll_168 : decode cX6_weighsAll 168 = .ok (.bipush 6, 2) := by decide +kernel
theorem dX6_weighsAll_170 : decode cX6_weighsAll 170 = .ok (.iaload, 1) := by decide +kernel
theorem dX6_weighsAll_171 : decode cX6_weighsAll 171 = .ok (.i2l, 1) := by decide +kernel
theorem dX6_weighsAll_172 : decode cX6_weighsAll 172 = .ok (.lload 6, 2) := by decide +kernel
theorem dX6_weighsAll_174 : decode cX6_weighsAll 174 = .ok (.lload 8, 2) := by decide +kernel
theorem dX6_weighsAll_176 : decode cX6_weighsAll 176 = .ok (.ladd, 1) := by decide +kernel
theorem dX6_weighsAll_177 : decode cX6_weighsAll 177 = .ok (.lmul, 1) := by decide +kernel
theorem dX6_weighsAll_178 : decode cX6_weighsAll 178 = .ok (.lload_n 3, 1) := by decide +kernel
theorem dX6_weighsAll_179 : decode cX6_weighsAll 179 = .ok (.lmul, 1) := by decide +kernel
theorem dX6_weighsAll_180 : decode cX6_weighsAll 180 = .ok (.aload_n 0, 1) := by decide +kernel
theorem dX6_weighsAll_181 : decode cX6_weighsAll 181 = .ok (.getfield 45, 3) := by decide +kernel
theorem dX6_weighsAll_184 : decode cX6_weighsAll 184 = .ok (.bipush 10, 2) := by decide +kernel
theorem dX6_weighsAll_186 : decode cX6_weighsAll 186 = .ok (.iload_n 2, 1) := by decide +kernel
theorem dX6_weighsAll_187 : decode cX6_weighsAll 187 = .ok (.iconst 1, 1) := by decide +kernel
theorem dX6_weighsAll_188 : decode cX6_weighsAll 188 = .ok (.iadd, 1) := by decide +kernel
theorem dX6_weighsAll_189 : decode cX6_weighsAll 189 = .ok (.imul, 1) := by decide +kernel
theorem dX6_weighsAll_190 : decode cX6_weighsAll 190 = .ok (.iload 5, 2) := by decide +kernel
theorem dX6_weighsAll_192 : decode cX6_weighsAll 192 = .ok (.iadd, 1) := by decide +kernel
theorem dX6_weighsAll_193 : decode cX6_weighsAll 193 = .ok (.iconst 1, 1) := by decide +kernel
theorem dX6_weighsAll_194 : decode cX6_weighsAll 194 = .ok (.iadd, 1) := by decide +kernel
theorem dX6_weighsAll_195 : decode cX6_weighsAll 195 = .ok (.laload, 1) := by decide +kernel
theorem dX6_weighsAll_196 : decode cX6_weighsAll 196 = .ok (.ladd, 1) := by decide +kernel
theorem dX6_weighsAll_197 : decode cX6_weighsAll 197 = .ok (.aload_n 0, 1) := by decide +kernel
theorem dX6_weighsAll_198 : decode cX6_weighsAll 198 = .ok (.getfield 45, 3) := by decide +kernel
theorem dX6_weighsAll_201 : decode cX6_weighsAll 201 = .ok (.bipush 10, 2) := by decide +kernel
theorem dX6_weighsAll_203 : decode cX6_weighsAll 203 = .ok (.iload_n 2, 1) := by decide +kernel
theorem dX6_weighsAll_204 : decode cX6_weighsAll 204 = .ok (.iconst 1, 1) := by decide +kernel
theorem dX6_weighsAll_205 : decode cX6_weighsAll 205 = .ok (.iadd, 1) := by decide +kernel
theorem dX6_weighsAll_206 : decode cX6_weighsAll 206 = .ok (.imul, 1) := by decide +kernel
theorem dX6_weighsAll_207 : decode cX6_weighsAll 207 = .ok (.iload 5, 2) := by decide +kernel
theorem dX6_weighsAll_209 : decode cX6_weighsAll 209 = .ok (.iadd, 1) := by decide +kernel
theorem dX6_weighsAll_210 : decode cX6_weighsAll 210 = .ok (.laload, 1) := by decide +kernel
theorem dX6_weighsAll_211 : decode cX6_weighsAll 211 = .ok (.ladd, 1) := by decide +kernel
theorem dX6_weighsAll_212 : decode cX6_weighsAll 212 = .ok (.lstore 15, 2) := by decide +kernel
theorem dX6_weighsAll_214 : decode cX6_weighsAll 214 = .ok (.lload 15, 2) := by decide +kernel
theorem dX6_weighsAll_216 : decode cX6_weighsAll 216 = .ok (.lload 10, 2) := by decide +kernel
theorem dX6_weighsAll_218 : decode cX6_weighsAll 218 = .ok (.lcmp, 1) := by decide +kernel
theorem dX6_weighsAll_219 : decode cX6_weighsAll 219 = .ok (.ifCond .ge 7, 3) := by decide +kernel
theorem dX6_weighsAll_222 : decode cX6_weighsAll 222 = .ok (.iconst 2, 1) := by decide +kernel
theorem dX6_weighsAll_223 : decode cX6_weighsAll 223 = .ok (.goto 5, 3) := by decide +kernel
theorem dX6_weighsAll_226 : decode cX6_weighsAll 226 = .ok (.iload 12, 2) := by decide +kernel
theorem dX6_weighsAll_228 : decode cX6_weighsAll 228 = .ok (.istore 12, 2) := by decide +kernel
theorem dX6_weighsAll_230 : decode cX6_weighsAll 230 = .ok (.lload 15, 2) := by decide +kernel
theorem dX6_weighsAll_232 : decode cX6_weighsAll 232 = .ok (.lload 10, 2) := by decide +kernel
theorem dX6_weighsAll_234 : decode cX6_weighsAll 234 = .ok (.lcmp, 1) := by decide +kernel
theorem dX6_weighsAll_235 : decode cX6_weighsAll 235 = .ok (.ifCond .ge 8, 3) := by decide +kernel
theorem dX6_weighsAll_238 : decode cX6_weighsAll 238 = .ok (.lload 15, 2) := by decide +kernel
theorem dX6_weighsAll_240 : decode cX6_weighsAll 240 = .ok (.goto 5, 3) := by decide +kernel
theorem dX6_weighsAll_243 : decode cX6_weighsAll 243 = .ok (.lload 10, 2) := by decide +kernel
theorem dX6_weighsAll_245 : decode cX6_weighsAll 245 = .ok (.lstore 10, 2) := by decide +kernel
theorem dX6_weighsAll_247 : decode cX6_weighsAll 247 = .ok (.aload_n 0, 1) := by decide +kernel
theorem dX6_weighsAll_248 : decode cX6_weighsAll 248 = .ok (.getfield 45, 3) := by decide +kernel
theorem dX6_weighsAll_251 : decode cX6_weighsAll 251 = .ok (.bipush 10, 2) := by decide +kernel
theorem dX6_weighsAll_253 : decode cX6_weighsAll 253 = .ok (.iload_n 2, 1) := by decide +kernel
theorem dX6_weighsAll_254 : decode cX6_weighsAll 254 = .ok (.imul, 1) := by decide +kernel
theorem dX6_weighsAll_255 : decode cX6_weighsAll 255 = .ok (.iload 5, 2) := by decide +kernel
theorem dX6_weighsAll_257 : decode cX6_weighsAll 257 = .ok (.iadd, 1) := by decide +kernel
theorem dX6_weighsAll_258 : decode cX6_weighsAll 258 = .ok (.lload 10, 2) := by decide +kernel
theorem dX6_weighsAll_260 : decode cX6_weighsAll 260 = .ok (.lastore, 1) := by decide +kernel
theorem dX6_weighsAll_261 : decode cX6_weighsAll 261 = .ok (.aload_n 0, 1) := by decide +kernel
theorem dX6_weighsAll_262 : decode cX6_weighsAll 262 = .ok (.getfield 48, 3) := by decide +kernel
theorem dX6_weighsAll_265 : decode cX6_weighsAll 265 = .ok (.bipush 10, 2) := by decide +kernel
theorem dX6_weighsAll_267 : decode cX6_weighsAll 267 = .ok (.iload_n 2, 1) := by decide +kernel
theorem dX6_weighsAll_268 : decode cX6_weighsAll 268 = .ok (.imul, 1) := by decide +kernel
theorem dX6_weighsAll_269 : decode cX6_weighsAll 269 = .ok (.iload 5, 2) := by decide +kernel
theorem dX6_weighsAll_271 : decode cX6_weighsAll 271 = .ok (.iadd, 1) := by decide +kernel
theorem dX6_weighsAll_272 : decode cX6_weighsAll 272 = .ok (.iload 12, 2) := by decide +kernel
theorem dX6_weighsAll_274 : decode cX6_weighsAll 274 = .ok (.iastore, 1) := by decide +kernel
theorem dX6_weighsAll_275 : decode cX6_weighsAll 275 = .ok (.iinc 5 1, 3) := by decide +kernel
theorem dX6_weighsAll_278 : decode cX6_weighsAll 278 = .ok (.goto (-251), 3) := by decide +kernel
theorem dX6_weighsAll_281 : decode cX6_weighsAll 281 = .ok (.iinc 2 (-1), 3) := by decide +kernel
theorem dX6_weighsAll_284 : decode cX6_weighsAll 284 = .ok (.goto (-274), 3) := by decide +kernel
theorem dX6_weighsAll_287 : decode cX6_weighsAll 287 = .ok (.return_, 1) := by decide +kernel
set_option maxRecDepth 20000 in
theorem ggX6_isBehind_X6_in : GoodIn wsX6_isBehind wsX6_in := goodIn_r _ [5] (by decide +kernel) (by decide +kernel)
set_option maxRecDepth 20000 in
theorem gX6_isBehind_X6_in : GoodIn wsX6_isBehind (va_wsS RX6 61 yX6_in wsX6_in) := goodIn_app (goodIn_of _ (by decide +kernel)) ggX6_isBehind_X6_in
theorem dX6_isBehind_0 : decode cX6_isBehind 0 = .ok (.iload_n 1, 1) := by decide +kernel
theorem dX6_isBehind_1 : decode cX6_isBehind 1 = .ok (.iconst 0, 1) := by decide +kernel
theorem dX6_isBehind_2 : decode cX6_isBehind 2 = .ok (.aload_n 0, 1) := by decide +kernel
theorem dX6_isBehind_3 : decode cX6_isBehind 3 = .ok (.getfield 39, 3) := by decide +kernel
theorem dX6_isBehind_6 : decode cX6_isBehind 6 = .ok (.bipush 7, 2) := by decide +kernel
theorem dX6_isBehind_8 : decode cX6_isBehind 8 = .ok (.iaload, 1) := by decide +kernel
theorem dX6_isBehind_9 : decode cX6_isBehind 9 = .ok (.invokestatic 61, 3) := by decide +kernel
theorem dX6_isBehind_12 : decode cX6_isBehind 12 = .ok (.ifCond .eq 16, 3) := by decide +kernel
theorem dX6_isBehind_15 : decode cX6_isBehind 15 = .ok (.iload_n 2, 1) := by decide +kernel
theorem dX6_isBehind_16 : decode cX6_isBehind 16 = .ok (.iconst 0, 1) := by decide +kernel
theorem dX6_isBehind_17 : decode cX6_isBehind 17 = .ok (.iload_n 1, 1) := by decide +kernel
theorem dX6_isBehind_18 : decode cX6_isBehind 18 = .ok (.invokestatic 61, 3) := by decide +kernel
theorem dX6_isBehind_21 : decode cX6_isBehind 21 = .ok (.ifCond .eq 7, 3) := by decide +kernel
theorem dX6_isBehind_24 : decode cX6_isBehind 24 = .ok (.iconst 1, 1) := by decide +kernel
theorem dX6_isBehind_25 : decode cX6_isBehind 25 = .ok (.goto 4, 3) := by decide +kernel
theorem dX6_isBehind_28 : decode cX6_isBehind 28 = .ok (.iconst 0, 1) := by decide +kernel
theorem dX6_isBehind_29 : decode cX6_isBehind 29 = .ok (.ireturn, 1) := by decide +kernel
set_option maxRecDepth 20000 in
theorem ggX6_done_X6_isBehind : GoodIn wsX6_done wsX6_isBehind := goodIn_r _ [7, 8, 9, 10, 6, 11, 21, 22, 23, 24, 25, 26, 27, 28, 29, 30, 31, 32, 33, 34, 35, 36, 37, 38, 39, 40, 41, 42, 43, 44, 45, 46, 47, 48, 49] (by decide +kernel) (by decide +kernel)
set_option maxRecDepth 20000 in
theorem gX6_done_X6_isBehind : GoodIn wsX6_done (wsV RX6 232 RX6 yX6_isBehind wsX6_isBehind) := goodIn_app (goodIn_of _ (by decide +kernel)) ggX6_done_X6_isBehind
set_option maxRecDepth 20000 in
theorem ggX6_done_X6_weighsAll : GoodIn wsX6_done wsX6_weighsAll := goodIn_r _ [15, 8, 16, 17, 2, 18, 19, 6, 20, 21, 22, 23, 24, 25, 26, 27, 28, 29, 30, 31, 32, 33, 34, 35, 36, 37, 38, 39, 40, 41, 42, 43, 44, 45, 46, 47, 48, 49] (by decide +kernel) (by decide +kernel)
set_option maxRecDepth 20000 in
theorem gX6_done_X6_weighsAll : GoodIn wsX6_done (wsV RX6 236 RX6 yX6_weighsAll wsX6_weighsAll) := goodIn_app (goodIn_of _ (by decide +kernel)) ggX6_done_X6_weighsAll
theorem dX6_done_0 : decode cX6_done 0 = .ok (.aload_n 0, 1) := by decide +kernel
theorem dX6_done_1 : decode cX6_done 1 = .ok (.iconst 0, 1) := by decide +kernel
theorem dX6_done_2 : decode cX6_done 2 = .ok (.putfield 54, 3) := by decide +kernel
theorem dX6_done_5 : decode cX6_done 5 = .ok (.aload_n 0, 1) := by decide +kernel
theorem dX6_done_6 : decode cX6_done 6 = .ok (.iload_n 1, 1) := by decide +kernel
theorem dX6_done_7 : decode cX6_done 7 = .ok (.iload_n 2, 1) := by decide +kernel
theorem dX6_done_8 : decode cX6_done 8 = .ok (.invokevirtual 232, 3) := by decide +kernel
theorem dX6_done_11 : decode cX6_done 11 = .ok (.ifCond .ne 5, 3) := by decide +kernel
theorem dX6_done_14 : decode cX6_done 14 = .ok (.iconst (-1), 1) := by decide +kernel
theorem dX6_done_15 : decode cX6_done 15 = .ok (.ireturn, 1) := by decide +kernel
theorem dX6_done_16 : decode cX6_done 16 = .ok (.aload_n 0, 1) := by decide +kernel
theorem dX6_done_17 : decode cX6_done 17 = .ok (.invokevirtual 236, 3) := by decide +kernel
theorem dX6_done_20 : decode cX6_done 20 = .ok (.aload_n 0, 1) := by decide +kernel
theorem dX6_done_21 : decode cX6_done 21 = .ok (.getfield 48, 3) := by decide +kernel
theorem dX6_done_24 : decode cX6_done 24 = .ok (.bipush 10, 2) := by decide +kernel
theorem dX6_done_26 : decode cX6_done 26 = .ok (.iload_n 1, 1) := by decide +kernel
theorem dX6_done_27 : decode cX6_done 27 = .ok (.imul, 1) := by decide +kernel
theorem dX6_done_28 : decode cX6_done 28 = .ok (.iload_n 2, 1) := by decide +kernel
theorem dX6_done_29 : decode cX6_done 29 = .ok (.iadd, 1) := by decide +kernel
theorem dX6_done_30 : decode cX6_done 30 = .ok (.iaload, 1) := by decide +kernel
theorem dX6_done_31 : decode cX6_done 31 = .ok (.ireturn, 1) := by decide +kernel
set_option maxRecDepth 20000 in
theorem ggX6_cost_X6_isBehind : GoodIn wsX6_cost wsX6_isBehind := goodIn_r _ [8, 9, 10, 11, 7, 12, 22, 23, 24, 25, 26, 27, 28, 29, 30, 31, 32, 33, 34, 35, 36, 37, 38, 39, 40, 41, 42, 43, 44, 45, 46, 47, 48, 49, 50] (by decide +kernel) (by decide +kernel)
set_option maxRecDepth 20000 in
theorem gX6_cost_X6_isBehind : GoodIn wsX6_cost (wsV RX6 232 RX6 yX6_isBehind wsX6_isBehind) := goodIn_app (goodIn_of _ (by decide +kernel)) ggX6_cost_X6_isBehind
set_option maxRecDepth 20000 in
theorem ggX6_cost_X6_weighsAll : GoodIn wsX6_cost wsX6_weighsAll := goodIn_r _ [16, 9, 17, 3, 18, 19, 20, 7, 21, 22, 23, 24, 25, 26, 27, 28, 29, 30, 31, 32, 33, 34, 35, 36, 37, 38, 39, 40, 41, 42, 43, 44, 45, 46, 47, 48, 49, 50] (by decide +kernel) (by decide +kernel)
set_option maxRecDepth 20000 in
theorem gX6_cost_X6_weighsAll : GoodIn wsX6_cost (wsV RX6 236 RX6 yX6_weighsAll wsX6_weighsAll) := goodIn_app (goodIn_of _ (by decide +kernel)) ggX6_cost_X6_weighsAll
theorem dX6_cost_0 : decode cX6_cost 0 = .ok (.aload_n 0, 1) := by decide +kernel
theorem dX6_cost_1 : decode cX6_cost 1 = .ok (.iconst 0, 1) := by decide +kernel
theorem dX6_cost_2 : decode cX6_cost 2 = .ok (.putfield 54, 3) := by decide +kernel
theorem dX6_cost_5 : decode cX6_cost 5 = .ok (.aload_n 0, 1) := by decide +kernel
theorem dX6_cost_6 : decode cX6_cost 6 = .ok (.iload_n 1, 1) := by decide +kernel
theorem dX6_cost_7 : decode cX6_cost 7 = .ok (.iload_n 2, 1) := by decide +kernel
theorem dX6_cost_8 : decode cX6_cost 8 = .ok (.invokevirtual 232, 3) := by decide +kernel
theorem dX6_cost_11 : decode cX6_cost 11 = .ok (.ifCond .ne 7, 3) := by decide +kernel
theorem dX6_cost_14 : decode cX6_cost 14 = .ok (.ldc2_w 189, 3) := by decide +kernel
theorem dX6_cost_17 : decode cX6_cost 17 = .ok (.lreturn, 1) := by decide +kernel
theorem dX6_cost_18 : decode cX6_cost 18 = .ok (.aload_n 0, 1) := by decide +kernel
theorem dX6_cost_19 : decode cX6_cost 19 = .ok (.invokevirtual 236, 3) := by decide +kernel
theorem dX6_cost_22 : decode cX6_cost 22 = .ok (.aload_n 0, 1) := by decide +kernel
theorem dX6_cost_23 : decode cX6_cost 23 = .ok (.getfield 45, 3) := by decide +kernel
theorem dX6_cost_26 : decode cX6_cost 26 = .ok (.bipush 10, 2) := by decide +kernel
theorem dX6_cost_28 : decode cX6_cost 28 = .ok (.iload_n 1, 1) := by decide +kernel
theorem dX6_cost_29 : decode cX6_cost 29 = .ok (.imul, 1) := by decide +kernel
theorem dX6_cost_30 : decode cX6_cost 30 = .ok (.iload_n 2, 1) := by decide +kernel
theorem dX6_cost_31 : decode cX6_cost 31 = .ok (.iadd, 1) := by decide +kernel
theorem dX6_cost_32 : decode cX6_cost 32 = .ok (.laload, 1) := by decide +kernel
theorem dX6_cost_33 : decode cX6_cost 33 = .ok (.lreturn, 1) := by decide +kernel
set_option maxRecDepth 20000 in
theorem ggX6_enough_X6_in : GoodIn wsX6_enough wsX6_in := goodIn_r _ [7] (by decide +kernel) (by decide +kernel)
set_option maxRecDepth 20000 in
theorem gX6_enough_X6_in : GoodIn wsX6_enough (va_wsS RX6 61 yX6_in wsX6_in) := goodIn_app (goodIn_of _ (by decide +kernel)) ggX6_enough_X6_in
set_option maxRecDepth 20000 in
theorem ggX6_enough_X6_weighsAll : GoodIn wsX6_enough wsX6_weighsAll := goodIn_r _ [11, 2, 12, 13, 3, 14, 15, 6, 16, 17, 18, 19, 20, 21, 22, 23, 24, 25, 26, 27, 28, 29, 30, 31, 32, 33, 34, 35, 36, 37, 38, 39, 40, 41, 42, 43, 44, 45] (by decide +kernel) (by decide +kernel)
set_option maxRecDepth 20000 in
theorem gX6_enough_X6_weighsAll : GoodIn wsX6_enough (wsV RX6 236 RX6 yX6_weighsAll wsX6_weighsAll) := goodIn_app (goodIn_of _ (by decide +kernel)) ggX6_enough_X6_weighsAll
theorem dX6_enough_0 : decode cX6_enough 0 = .ok (.aload_n 0, 1) := by decide +kernel
theorem dX6_enough_1 : decode cX6_enough 1 = .ok (.iconst 0, 1) := by decide +kernel
theorem dX6_enough_2 : decode cX6_enough 2 = .ok (.putfield 54, 3) := by decide +kernel
theorem dX6_enough_5 : decode cX6_enough 5 = .ok (.iload_n 1, 1) := by decide +kernel
theorem dX6_enough_6 : decode cX6_enough 6 = .ok (.iconst (-1), 1) := by decide +kernel
theorem dX6_enough_7 : decode cX6_enough 7 = .ok (.aload_n 0, 1) := by decide +kernel
theorem dX6_enough_8 : decode cX6_enough 8 = .ok (.getfield 39, 3) := by decide +kernel
theorem dX6_enough_11 : decode cX6_enough 11 = .ok (.bipush 7, 2) := by decide +kernel
theorem dX6_enough_13 : decode cX6_enough 13 = .ok (.iaload, 1) := by decide +kernel
theorem dX6_enough_14 : decode cX6_enough 14 = .ok (.invokestatic 61, 3) := by decide +kernel
theorem dX6_enough_17 : decode cX6_enough 17 = .ok (.ifCond .ne 5, 3) := by decide +kernel
theorem dX6_enough_20 : decode cX6_enough 20 = .ok (.iconst (-1), 1) := by decide +kernel
theorem dX6_enough_21 : decode cX6_enough 21 = .ok (.ireturn, 1) := by decide +kernel
theorem dX6_enough_22 : decode cX6_enough 22 = .ok (.aload_n 0, 1) := by decide +kernel
theorem dX6_enough_23 : decode cX6_enough 23 = .ok (.invokevirtual 236, 3) := by decide +kernel
theorem dX6_enough_26 : decode cX6_enough 26 = .ok (.bipush (-9), 2) := by decide +kernel
theorem dX6_enough_28 : decode cX6_enough 28 = .ok (.istore_n 2, 1) := by decide +kernel
theorem dX6_enough_29 : decode cX6_enough 29 = .ok (.bipush (-9), 2) := by decide +kernel
theorem dX6_enough_31 : decode cX6_enough 31 = .ok (.istore_n 3, 1) := by decide +kernel
theorem dX6_enough_32 : decode cX6_enough 32 = .ok (.iconst 0, 1) := by decide +kernel
theorem dX6_enough_33 : decode cX6_enough 33 = .ok (.istore 4, 2) := by decide +kernel
theorem dX6_enough_35 : decode cX6_enough 35 = .ok (.iload 4, 2) := by decide +kernel
theorem dX6_enough_37 : decode cX6_enough 37 = .ok (.aload_n 0, 1) := by decide +kernel
theorem dX6_enough_38 : decode cX6_enough 38 = .ok (.getfield 39, 3) := by decide +kernel
theorem dX6_enough_41 : decode cX6_enough 41 = .ok (.bipush 7, 2) := by decide +kernel
theorem dX6_enough_43 : decode cX6_enough 43 = .ok (.iaload, 1) := by decide +kernel
theorem dX6_enough_44 : decode cX6_enough 44 = .ok (.if_icmp .gt 77, 3) := by decide +kernel
theorem dX6_enough_47 : decode cX6_enough 47 = .ok (.iload 4, 2) := by decide +kernel
theorem dX6_enough_49 : decode cX6_enough 49 = .ok (.istore 5, 2) := by decide +kernel
theorem dX6_enough_51 : decode cX6_enough 51 = .ok (.iload 5, 2) := by decide +kernel
theorem dX6_enough_53 : decode cX6_enough 53 = .ok (.ifCond .lt 62, 3) := by decide +kernel
theorem dX6_enough_56 : decode cX6_enough 56 = .ok (.aload_n 0, 1) := by decide +kernel
theorem dX6_enough_57 : decode cX6_enough 57 = .ok (.getfield 48, 3) := by decide +kernel
theorem dX6_enough_60 : decode cX6_enough 60 = .ok (.bipush 10, 2) := by decide +kernel
theorem dX6_enough_62 : decode cX6_enough 62 = .ok (.iload 4, 2) := by decide +kernel
theorem dX6_enough_64 : decode cX6_enough 64 = .ok (.imul, 1) := by decide +kernel
theorem dX6_enough_65 : decode cX6_enough 65 = .ok (.iload 5, 2) := by decide +kernel
theorem dX6_enough_67 : decode cX6_enough 67 = .ok (.iadd, 1) := by decide +kernel
theorem dX6_enough_68 : decode cX6_enough 68 = .ok (.iaload, 1) := by decide +kernel
theorem dX6_enough_69 : decode cX6_enough 69 = .ok (.iconst 2, 1) := by decide +kernel
theorem dX6_enough_70 : decode cX6_enough 70 = .ok (.if_icmp .ne 8, 3) := by decide +kernel
theorem dX6_enough_73 : decode cX6_enough 73 = .ok (.iload 4, 2) := by decide +kernel
theorem dX6_enough_75 : decode cX6_enough 75 = .ok (.goto 4, 3) := by decide +kernel
theorem dX6_enough_78 : decode cX6_enough 78 = .ok (.iload_n 2, 1) := by decide +kernel
theorem dX6_enough_79 : decode cX6_enough 79 = .ok (.istore_n 2, 1) := by decide +kernel
theorem dX6_enough_80 : decode cX6_enough 80 = .ok (.iload 4, 2) := by decide +kernel
theorem dX6_enough_82 : decode cX6_enough 82 = .ok (.iload_n 1, 1) := by decide +kernel
theorem dX6_enough_83 : decode cX6_enough 83 = .ok (.if_icmp .ne 24, 3) := by decide +kernel
theorem dX6_enough_86 : decode cX6_enough 86 = .ok (.aload_n 0, 1) := by decide +kernel
theorem dX6_enough_87 : decode cX6_enough 87 = .ok (.getfield 48, 3) := by decide +kernel
theorem dX6_enough_90 : decode cX6_enough 90 = .ok (.bipush 10, 2) := by decide +kernel
theorem dX6_enough_92 : decode cX6_enough 92 = .ok (.iload 4, 2) := by decide +kernel
theorem dX6_enough_94 : decode cX6_enough 94 = .ok (.imul, 1) := by decide +kernel
theorem dX6_enough_95 : decode cX6_enough 95 = .ok (.iload 5, 2) := by decide +kernel
theorem dX6_enough_97 : decode cX6_enough 97 = .ok (.iadd, 1) := by decide +kernel
theorem dX6_enough_98 : decode cX6_enough 98 = .ok (.iaload, 1) := by decide +kernel
theorem dX6_enough_99 : decode cX6_enough 99 = .ok (.ifCond .ne 8, 3) := by decide +kernel
theorem dX6_enough_102 : decode cX6_enough 102 = .ok (.iload 5, 2) := by decide +kernel
theorem dX6_enough_104 : decode cX6_enough 104 = .ok (.goto 4, 3) := by decide +kernel
theorem dX6_enough_107 : decode cX6_enough 107 = .ok (.iload_n 3, 1) := by decide +kernel
theorem dX6_enough_108 : decode cX6_enough 108 = .ok (.istore_n 3, 1) := by decide +kernel
theorem dX6_enough_109 : decode cX6_enough 109 = .ok (.iinc 5 (-1), 3) := by decide +kernel
theorem dX6_enough_112 : decode cX6_enough 112 = .ok (.goto (-61), 3) := by decide +kernel
theorem dX6_enough_115 : decode cX6_enough 115 = .ok (.iinc 4 1, 3) := by decide +kernel
theorem dX6_enough_118 : decode cX6_enough 118 = .ok (.goto (-83), 3) := by decide +kernel
theorem dX6_enough_121 : decode cX6_enough 121 = .ok (.iload_n 1, 1) := by decide +kernel
theorem dX6_enough_122 : decode cX6_enough 122 = .ok (.iconst (-1), 1) := by decide +kernel
theorem dX6_enough_123 : decode cX6_enough 123 = .ok (.if_icmp .ne 7, 3) := by decide +kernel
theorem dX6_enough_126 : decode cX6_enough 126 = .ok (.iload_n 2, 1) := by decide +kernel
theorem dX6_enough_127 : decode cX6_enough 127 = .ok (.goto 4, 3) := by decide +kernel
theorem dX6_enough_130 : decode cX6_enough 130 = .ok (.iload_n 3, 1) := by decide +kernel
theorem dX6_enough_131 : decode cX6_enough 131 = .ok (.ireturn, 1) := by decide +kernel
set_option maxRecDepth 20000 in
theorem ggX6_year_X6_isStall : GoodIn wsX6_year wsX6_isStall := goodIn_r _ [10, 11, 12, 13, 9, 14, 36, 37, 38, 39, 40, 41, 42, 43, 44, 45, 46, 47, 48, 49, 50, 51, 52, 53, 54, 55, 56, 57, 58, 59, 60, 61, 62, 63, 64] (by decide +kernel) (by decide +kernel)
set_option maxRecDepth 20000 in
theorem gX6_year_X6_isStall : GoodIn wsX6_year (wsV RX6 158 RX6 yX6_isStall wsX6_isStall) := goodIn_app (goodIn_of _ (by decide +kernel)) ggX6_year_X6_isStall
set_option maxRecDepth 20000 in
theorem ggX6_year_X6_in : GoodIn wsX6_year wsX6_in := goodIn_r _ [14] (by decide +kernel) (by decide +kernel)
set_option maxRecDepth 20000 in
theorem gX6_year_X6_in : GoodIn wsX6_year (va_wsS RX6 61 yX6_in wsX6_in) := goodIn_app (goodIn_of _ (by decide +kernel)) ggX6_year_X6_in
set_option maxRecDepth 20000 in
theorem ggX6_year_X6_bagsOf : GoodIn wsX6_year wsX6_bagsOf := goodIn_r _ [18, 3, 19, 20, 21, 9, 22, 36, 37, 38, 39, 40, 41, 42, 43, 44, 45, 46, 47, 48, 49, 50, 51, 52, 53, 54, 55, 56, 57, 58, 59, 60, 61, 62, 63, 64] (by decide +kernel) (by decide +kernel)
set_option maxRecDepth 20000 in
theorem gX6_year_X6_bagsOf : GoodIn wsX6_year (wsV RX6 161 RX6 yX6_bagsOf wsX6_bagsOf) := goodIn_app (goodIn_of _ (by decide +kernel)) ggX6_year_X6_bagsOf
set_option maxRecDepth 20000 in
theorem ggX6_year_X6_shortOf : GoodIn wsX6_year wsX6_shortOf := goodIn_r _ [26, 4, 19, 20, 21, 9, 22, 3, 36, 37, 38, 39, 40, 41, 42, 43, 44, 45, 46, 47, 48, 49, 50, 51, 52, 53, 54, 55, 56, 57, 58, 59, 60, 61, 62, 63, 64] (by decide +kernel) (by decide +kernel)
set_option maxRecDepth 20000 in
theorem gX6_year_X6_shortOf : GoodIn wsX6_year (wsV RX6 180 RX6 yX6_shortOf wsX6_shortOf) := goodIn_app (goodIn_of _ (by decide +kernel)) ggX6_year_X6_shortOf
set_option maxRecDepth 20000 in
theorem ggX6_year_X6_bag : GoodIn wsX6_year wsX6_bag := goodIn_r _ [22, 3, 36, 37, 38, 39, 40, 41, 42, 43, 44, 45, 46, 47, 48, 49, 50, 51, 52, 53, 54, 55, 56, 57, 58, 59, 60, 61, 62, 63, 64] (by decide +kernel) (by decide +kernel)
set_option maxRecDepth 20000 in
theorem gX6_year_X6_bag : GoodIn wsX6_year (wsV RX6 155 RX6 yX6_bag wsX6_bag) := goodIn_app (goodIn_of _ (by decide +kernel)) ggX6_year_X6_bag
set_option maxRecDepth 20000 in
theorem ggX6_year_X6_part : GoodIn wsX6_year wsX6_part := goodIn_r _ [29, 30, 31, 9, 32, 33, 34, 35] (by decide +kernel) (by decide +kernel)
set_option maxRecDepth 20000 in
theorem gX6_year_X6_part : GoodIn wsX6_year (va_wsS RX6 221 yX6_part wsX6_part) := goodIn_app (goodIn_of _ (by decide +kernel)) ggX6_year_X6_part
theorem dX6_year_0 : decode cX6_year 0 = .ok (.aload_n 0, 1) := by decide +kernel
theorem dX6_year_1 : decode cX6_year 1 = .ok (.iconst 0, 1) := by decide +kernel
theorem dX6_year_2 : decode cX6_year 2 = .ok (.putfield 54, 3) := by decide +kernel
theorem dX6_year_5 : decode cX6_year 5 = .ok (.aload_n 0, 1) := by decide +kernel
theorem dX6_year_6 : decode cX6_year 6 = .ok (.iload_n 1, 1) := by decide +kernel
theorem dX6_year_7 : decode cX6_year 7 = .ok (.invokevirtual 158, 3) := by decide +kernel
theorem dX6_year_10 : decode cX6_year 10 = .ok (.ifCond .eq 31, 3) := by decide +kernel
theorem dX6_year_13 : decode cX6_year 13 = .ok (.iload_n 2, 1) := by decide +kernel
theorem dX6_year_14 : decode cX6_year 14 = .ok (.iconst 0, 1) := by decide +kernel
theorem dX6_year_15 : decode cX6_year 15 = .ok (.sipush 9999, 3) := by decide +kernel
theorem dX6_year_18 : decode cX6_year 18 = .ok (.invokestatic 61, 3) := by decide +kernel
theorem dX6_year_21 : decode cX6_year 21 = .ok (.ifCond .eq 20, 3) := by decide +kernel
theorem dX6_year_24 : decode cX6_year 24 = .ok (.iload_n 3, 1) := by decide +kernel
theorem dX6_year_25 : decode cX6_year 25 = .ok (.iconst 0, 1) := by decide +kernel
theorem dX6_year_26 : decode cX6_year 26 = .ok (.iconst 1, 1) := by decide +kernel
theorem dX6_year_27 : decode cX6_year 27 = .ok (.invokestatic 61, 3) := by decide +kernel
theorem dX6_year_30 : decode cX6_year 30 = .ok (.ifCond .eq 11, 3) := by decide +kernel
theorem dX6_year_33 : decode cX6_year 33 = .ok (.aload_n 0, 1) := by decide +kernel
theorem dX6_year_34 : decode cX6_year 34 = .ok (.iload_n 1, 1) := by decide +kernel
theorem dX6_year_35 : decode cX6_year 35 = .ok (.invokevirtual 161, 3) := by decide +kernel
theorem dX6_year_38 : decode cX6_year 38 = .ok (.ifCond .ne 7, 3) := by decide +kernel
theorem dX6_year_41 : decode cX6_year 41 = .ok (.ldc2_w 189, 3) := by decide +kernel
theorem dX6_year_44 : decode cX6_year 44 = .ok (.lreturn, 1) := by decide +kernel
theorem dX6_year_45 : decode cX6_year 45 = .ok (.lconst 0, 1) := by decide +kernel
theorem dX6_year_46 : decode cX6_year 46 = .ok (.lstore 4, 2) := by decide +kernel
theorem dX6_year_48 : decode cX6_year 48 = .ok (.iconst 0, 1) := by decide +kernel
theorem dX6_year_49 : decode cX6_year 49 = .ok (.istore 6, 2) := by decide +kernel
theorem dX6_year_51 : decode cX6_year 51 = .ok (.iload 6, 2) := by decide +kernel
theorem dX6_year_53 : decode cX6_year 53 = .ok (.aload_n 0, 1) := by decide +kernel
theorem dX6_year_54 : decode cX6_year 54 = .ok (.getfield 7, 3) := by decide +kernel
theorem dX6_year_57 : decode cX6_year 57 = .ok (.iconst 0, 1) := by decide +kernel
theorem dX6_year_58 : decode cX6_year 58 = .ok (.iaload, 1) := by decide +kernel
theorem dX6_year_59 : decode cX6_year 59 = .ok (.if_icmp .ge 45, 3) := by decide +kernel
theorem dX6_year_62 : decode cX6_year 62 = .ok (.aload_n 0, 1) := by decide +kernel
theorem dX6_year_63 : decode cX6_year 63 = .ok (.iload 6, 2) := by decide +kernel
theorem dX6_year_65 : decode cX6_year 65 = .ok (.invokevirtual 180, 3) := by decide +kernel
theorem dX6_year_68 : decode cX6_year 68 = .ok (.istore 7, 2) := by decide +kernel
theorem dX6_year_70 : decode cX6_year 70 = .ok (.lload 4, 2) := by decide +kernel
theorem dX6_year_72 : decode cX6_year 72 = .ok (.aload_n 0, 1) := by decide +kernel
theorem dX6_year_73 : decode cX6_year 73 = .ok (.iload 6, 2) := by decide +kernel
theorem dX6_year_75 : decode cX6_year 75 = .ok (.iconst 0, 1) := by decide +kernel
theorem dX6_year_76 : decode cX6_year 76 = .ok (.invokevirtual 155, 3) := by decide +kernel
theorem dX6_year_79 : decode cX6_year 79 = .ok (.iload_n 1, 1) := by decide +kernel
theorem dX6_year_80 : decode cX6_year 80 = .ok (.if_icmp .ne 14, 3) := by decide +kernel
theorem dX6_year_83 : decode cX6_year 83 = .ok (.iload 7, 2) := by decide +kernel
theorem dX6_year_85 : decode cX6_year 85 = .ok (.ifCond .le 9, 3) := by decide +kernel
theorem dX6_year_88 : decode cX6_year 88 = .ok (.iload 7, 2) := by decide +kernel
theorem dX6_year_90 : decode cX6_year 90 = .ok (.i2l, 1) := by decide +kernel
theorem dX6_year_91 : decode cX6_year 91 = .ok (.goto 4, 3) := by decide +kernel
theorem dX6_year_94 : decode cX6_year 94 = .ok (.lconst 0, 1) := by decide +kernel
theorem dX6_year_95 : decode cX6_year 95 = .ok (.ladd, 1) := by decide +kernel
theorem dX6_year_96 : decode cX6_year 96 = .ok (.lstore 4, 2) := by decide +kernel
theorem dX6_year_98 : decode cX6_year 98 = .ok (.iinc 6 1, 3) := by decide +kernel
theorem dX6_year_101 : decode cX6_year 101 = .ok (.goto (-50), 3) := by decide +kernel
theorem dX6_year_104 : decode cX6_year 104 = .ok (.lload 4, 2) := by decide +kernel
theorem dX6_year_106 : decode cX6_year 106 = .ok (.aload_n 0, 1) := by decide +kernel
theorem dX6_year_107 : decode cX6_year 107 = .ok (.getfield 30, 3) := by decide +kernel
theorem dX6_year_110 : decode cX6_year 110 = .ok (.iconst 3, 1) := by decide +kernel
theorem dX6_year_111 : decode cX6_year 111 = .ok (.iload_n 1, 1) := by decide +kernel
theorem dX6_year_112 : decode cX6_year 112 = .ok (.imul, 1) := by decide +kernel
theorem dX6_year_113 : decode cX6_year 113 = .ok (.iconst 2, 1) := by decide +kernel
theorem dX6_year_114 : decode cX6_year 114 = .ok (.iadd, 1) := by decide +kernel
theorem dX6_year_115 : decode cX6_year 115 = .ok (.iaload, 1) := by decide +kernel
theorem dX6_year_116 : decode cX6_year 116 = .ok (.i2l, 1) := by decide +kernel
theorem dX6_year_117 : decode cX6_year 117 = .ok (.lmul, 1) := by decide +kernel
theorem dX6_year_118 : decode cX6_year 118 = .ok (.iload_n 2, 1) := by decide +kernel
theorem dX6_year_119 : decode cX6_year 119 = .ok (.i2l, 1) := by decide +kernel
theorem dX6_year_120 : decode cX6_year 120 = .ok (.lmul, 1) := by decide +kernel
theorem dX6_year_121 : decode cX6_year 121 = .ok (.ldc2_w 239, 3) := by decide +kernel
theorem dX6_year_124 : decode cX6_year 124 = .ok (.aload_n 0, 1) := by decide +kernel
theorem dX6_year_125 : decode cX6_year 125 = .ok (.iload_n 1, 1) := by decide +kernel
theorem dX6_year_126 : decode cX6_year 126 = .ok (.invokevirtual 161, 3) := by decide +kernel
theorem dX6_year_129 : decode cX6_year 129 = .ok (.i2l, 1) := by decide +kernel
theorem dX6_year_130 : decode cX6_year 130 = .ok (.lmul, 1) := by decide +kernel
theorem dX6_year_131 : decode cX6_year 131 = .ok (.iload_n 3, 1) := by decide +kernel
theorem dX6_year_132 : decode cX6_year 132 = .ok (.invokestatic 221, 3) := by decide +kernel
theorem dX6_year_135 : decode cX6_year 135 = .ok (.lreturn, 1) := by decide +kernel
set_option maxRecDepth 20000 in
theorem ggX6_isTrue_X6_bag : GoodIn wsX6_isTrue wsX6_bag := goodIn_r _ [9, 3, 18, 19, 20, 21, 22, 23, 24, 25, 26, 27, 28, 29, 30, 31, 32, 33, 34, 35, 36, 37, 38, 39, 40, 41, 42, 43, 44, 45, 46] (by decide +kernel) (by decide +kernel)
set_option maxRecDepth 20000 in
theorem gX6_isTrue_X6_bag : GoodIn wsX6_isTrue (wsV RX6 155 RX6 yX6_bag wsX6_bag) := goodIn_app (goodIn_of _ (by decide +kernel)) ggX6_isTrue_X6_bag
set_option maxRecDepth 20000 in
theorem ggX6_isTrue_X6_shortOf : GoodIn wsX6_isTrue wsX6_shortOf := goodIn_r _ [13, 4, 5, 6, 7, 8, 9, 3, 18, 19, 20, 21, 22, 23, 24, 25, 26, 27, 28, 29, 30, 31, 32, 33, 34, 35, 36, 37, 38, 39, 40, 41, 42, 43, 44, 45, 46] (by decide +kernel) (by decide +kernel)
set_option maxRecDepth 20000 in
theorem gX6_isTrue_X6_shortOf : GoodIn wsX6_isTrue (wsV RX6 180 RX6 yX6_shortOf wsX6_shortOf) := goodIn_app (goodIn_of _ (by decide +kernel)) ggX6_isTrue_X6_shortOf
set_option maxRecDepth 20000 in
theorem ggX6_isTrue_X6_bagsOf : GoodIn wsX6_isTrue wsX6_bagsOf := goodIn_r _ [17, 3, 5, 6, 7, 8, 9, 18, 19, 20, 21, 22, 23, 24, 25, 26, 27, 28, 29, 30, 31, 32, 33, 34, 35, 36, 37, 38, 39, 40, 41, 42, 43, 44, 45, 46] (by decide +kernel) (by decide +kernel)
set_option maxRecDepth 20000 in
theorem gX6_isTrue_X6_bagsOf : GoodIn wsX6_isTrue (wsV RX6 161 RX6 yX6_bagsOf wsX6_bagsOf) := goodIn_app (goodIn_of _ (by decide +kernel)) ggX6_isTrue_X6_bagsOf
theorem dX6_isTrue_0 : decode cX6_isTrue 0 = .ok (.aload_n 0, 1) := by decide +kernel
theorem dX6_isTrue_1 : decode cX6_isTrue 1 = .ok (.lconst 0, 1) := by decide +kernel
theorem dX6_isTrue_2 : decode cX6_isTrue 2 = .ok (.putfield 241, 3) := by decide +kernel
theorem dX6_isTrue_5 : decode cX6_isTrue 5 = .ok (.aload_n 0, 1) := by decide +kernel
theorem dX6_isTrue_6 : decode cX6_isTrue 6 = .ok (.lconst 0, 1) := by decide +kernel
theorem dX6_isTrue_7 : decode cX6_isTrue 7 = .ok (.putfield 245, 3) := by decide +kernel
theorem dX6_isTrue_10 : decode cX6_isTrue 10 = .ok (.iconst 0, 1) := by decide +kernel
theorem dX6_isTrue_11 : decode cX6_isTrue 11 = .ok (.istore_n 2, 1) := by decide +kernel
theorem dX6_isTrue_12 : decode cX6_isTrue 12 = .ok (.iload_n 2, 1) := by decide +kernel
theorem dX6_isTrue_13 : decode cX6_isTrue 13 = .ok (.aload_n 0, 1) := by decide +kernel
theorem dX6_isTrue_14 : decode cX6_isTrue 14 = .ok (.getfield 7, 3) := by decide +kernel
theorem dX6_isTrue_17 : decode cX6_isTrue 17 = .ok (.iconst 0, 1) := by decide +kernel
theorem dX6_isTrue_18 : decode cX6_isTrue 18 = .ok (.iaload, 1) := by decide +kernel
theorem dX6_isTrue_19 : decode cX6_isTrue 19 = .ok (.if_icmp .ge 57, 3) := by decide +kernel
theorem dX6_isTrue_22 : decode cX6_isTrue 22 = .ok (.aload_n 0, 1) := by decide +kernel
theorem dX6_isTrue_23 : decode cX6_isTrue 23 = .ok (.iload_n 2, 1) := by decide +kernel
theorem dX6_isTrue_24 : decode cX6_isTrue 24 = .ok (.iconst 0, 1) := by decide +kernel
theorem dX6_isTrue_25 : decode cX6_isTrue 25 = .ok (.invokevirtual 155, 3) := by decide +kernel
theorem dX6_isTrue_28 : decode cX6_isTrue 28 = .ok (.iload_n 1, 1) := by decide +kernel
theorem dX6_isTrue_29 : decode cX6_isTrue 29 = .ok (.if_icmp .ne 41, 3) := by decide +kernel
theorem dX6_isTrue_32 : decode cX6_isTrue 32 = .ok (.aload_n 0, 1) := by decide +kernel
theorem dX6_isTrue_33 : decode cX6_isTrue 33 = .ok (.dup, 1) := by decide +kernel
theorem dX6_isTrue_34 : decode cX6_isTrue 34 = .ok (.getfield 241, 3) := by decide +kernel
theorem dX6_isTrue_37 : decode cX6_isTrue 37 = .ok (.aload_n 0, 1) := by decide +kernel
theorem dX6_isTrue_38 : decode cX6_isTrue 38 = .ok (.iload_n 2, 1) := by decide +kernel
theorem dX6_isTrue_39 : decode cX6_isTrue 39 = .ok (.iconst 3, 1) := by decide +kernel
theorem dX6_isTrue_40 : decode cX6_isTrue 40 = .ok (.invokevirtual 155, 3) := by decide +kernel
theorem dX6_isTrue_43 : decode cX6_isTrue 43 = .ok (.i2l, 1) := by decide +kernel
theorem dX6_isTrue_44 : decode cX6_isTrue 44 = .ok (.ladd, 1) := by decide +kernel
theorem dX6_isTrue_45 : decode cX6_isTrue 45 = .ok (.putfield 241, 3) := by decide +kernel
theorem dX6_isTrue_48 : decode cX6_isTrue 48 = .ok (.aload_n 0, 1) := by decide +kernel
theorem dX6_isTrue_49 : decode cX6_isTrue 49 = .ok (.dup, 1) := by decide +kernel
theorem dX6_isTrue_50 : decode cX6_isTrue 50 = .ok (.getfield 245, 3) := by decide +kernel
theorem dX6_isTrue_53 : decode cX6_isTrue 53 = .ok (.aload_n 0, 1) := by decide +kernel
theorem dX6_isTrue_54 : decode cX6_isTrue 54 = .ok (.iload_n 2, 1) := by decide +kernel
theorem dX6_isTrue_55 : decode cX6_isTrue 55 = .ok (.iconst 3, 1) := by decide +kernel
theorem dX6_isTrue_56 : decode cX6_isTrue 56 = .ok (.invokevirtual 155, 3) := by decide +kernel
theorem dX6_isTrue_59 : decode cX6_isTrue 59 = .ok (.aload_n 0, 1) := by decide +kernel
theorem dX6_isTrue_60 : decode cX6_isTrue 60 = .ok (.iload_n 2, 1) := by decide +kernel
theorem dX6_isTrue_61 : decode cX6_isTrue 61 = .ok (.invokevirtual 180, 3) := by decide +kernel
theorem dX6_isTrue_64 : decode cX6_isTrue 64 = .ok (.isub, 1) := by decide +kernel
theorem dX6_isTrue_65 : decode cX6_isTrue 65 = .ok (.i2l, 1) := by decide +kernel
theorem dX6_isTrue_66 : decode cX6_isTrue 66 = .ok (.ladd, 1) := by decide +kernel
theorem dX6_isTrue_67 : decode cX6_isTrue 67 = .ok (.putfield 245, 3) := by decide +kernel
theorem dX6_isTrue_70 : decode cX6_isTrue 70 = .ok (.iinc 2 1, 3) := by decide +kernel
theorem dX6_isTrue_73 : decode cX6_isTrue 73 = .ok (.goto (-61), 3) := by decide +kernel
theorem dX6_isTrue_76 : decode cX6_isTrue 76 = .ok (.aload_n 0, 1) := by decide +kernel
theorem dX6_isTrue_77 : decode cX6_isTrue 77 = .ok (.dup, 1) := by decide +kernel
theorem dX6_isTrue_78 : decode cX6_isTrue 78 = .ok (.getfield 241, 3) := by decide +kernel
theorem dX6_isTrue_81 : decode cX6_isTrue 81 = .ok (.aload_n 0, 1) := by decide +kernel
theorem dX6_isTrue_82 : decode cX6_isTrue 82 = .ok (.getfield 30, 3) := by decide +kernel
theorem dX6_isTrue_85 : decode cX6_isTrue 85 = .ok (.iconst 3, 1) := by decide +kernel
theorem dX6_isTrue_86 : decode cX6_isTrue 86 = .ok (.iload_n 1, 1) := by decide +kernel
theorem dX6_isTrue_87 : decode cX6_isTrue 87 = .ok (.imul, 1) := by decide +kernel
theorem dX6_isTrue_88 : decode cX6_isTrue 88 = .ok (.iconst 2, 1) := by decide +kernel
theorem dX6_isTrue_89 : decode cX6_isTrue 89 = .ok (.iadd, 1) := by decide +kernel
theorem dX6_isTrue_90 : decode cX6_isTrue 90 = .ok (.iaload, 1) := by decide +kernel
theorem dX6_isTrue_91 : decode cX6_isTrue 91 = .ok (.i2l, 1) := by decide +kernel
theorem dX6_isTrue_92 : decode cX6_isTrue 92 = .ok (.lmul, 1) := by decide +kernel
theorem dX6_isTrue_93 : decode cX6_isTrue 93 = .ok (.putfield 241, 3) := by decide +kernel
theorem dX6_isTrue_96 : decode cX6_isTrue 96 = .ok (.aload_n 0, 1) := by decide +kernel
theorem dX6_isTrue_97 : decode cX6_isTrue 97 = .ok (.iload_n 1, 1) := by decide +kernel
theorem dX6_isTrue_98 : decode cX6_isTrue 98 = .ok (.invokevirtual 161, 3) := by decide +kernel
theorem dX6_isTrue_101 : decode cX6_isTrue 101 = .ok (.ifCond .le 16, 3) := by decide +kernel
theorem dX6_isTrue_104 : decode cX6_isTrue 104 = .ok (.aload_n 0, 1) := by decide +kernel
theorem dX6_isTrue_105 : decode cX6_isTrue 105 = .ok (.getfield 245, 3) := by decide +kernel
theorem dX6_isTrue_108 : decode cX6_isTrue 108 = .ok (.lconst 0, 1) := by decide +kernel
theorem dX6_isTrue_109 : decode cX6_isTrue 109 = .ok (.lcmp, 1) := by decide +kernel
theorem dX6_isTrue_110 : decode cX6_isTrue 110 = .ok (.ifCond .le 7, 3) := by decide +kernel
theorem dX6_isTrue_113 : decode cX6_isTrue 113 = .ok (.iconst 1, 1) := by decide +kernel
theorem dX6_isTrue_114 : decode cX6_isTrue 114 = .ok (.goto 4, 3) := by decide +kernel
theorem dX6_isTrue_117 : decode cX6_isTrue 117 = .ok (.iconst 0, 1) := by decide +kernel
theorem dX6_isTrue_118 : decode cX6_isTrue 118 = .ok (.ireturn, 1) := by decide +kernel
set_option maxRecDepth 20000 in
theorem ggX6_truly_X6_isStall : GoodIn wsX6_truly wsX6_isStall := goodIn_r _ [9, 10, 11, 12, 8, 13, 41, 42, 43, 44, 45, 46, 47, 48, 49, 50, 51, 52, 53, 54, 55, 56, 57, 58, 59, 60, 61, 62, 63, 64, 65, 66, 67, 68, 69] (by decide +kernel) (by decide +kernel)
set_option maxRecDepth 20000 in
theorem gX6_truly_X6_isStall : GoodIn wsX6_truly (wsV RX6 158 RX6 yX6_isStall wsX6_isStall) := goodIn_app (goodIn_of _ (by decide +kernel)) ggX6_truly_X6_isStall
set_option maxRecDepth 20000 in
theorem ggX6_truly_X6_in : GoodIn wsX6_truly wsX6_in := goodIn_r _ [13] (by decide +kernel) (by decide +kernel)
set_option maxRecDepth 20000 in
theorem gX6_truly_X6_in : GoodIn wsX6_truly (va_wsS RX6 61 yX6_in wsX6_in) := goodIn_app (goodIn_of _ (by decide +kernel)) ggX6_truly_X6_in
set_option maxRecDepth 20000 in
theorem ggX6_truly_X6_isTrue : GoodIn wsX6_truly wsX6_isTrue := goodIn_r _ [17, 2, 3, 18, 19, 20, 21, 22, 8, 23, 24, 25, 26, 27, 28, 29, 30, 31, 41, 42, 43, 44, 45, 46, 47, 48, 49, 50, 51, 52, 53, 54, 55, 56, 57, 58, 59, 60, 61, 62, 63, 64, 65, 66, 67, 68, 69] (by decide +kernel) (by decide +kernel)
set_option maxRecDepth 20000 in
theorem gX6_truly_X6_isTrue : GoodIn wsX6_truly (wsV RX6 248 RX6 yX6_isTrue wsX6_isTrue) := goodIn_app (goodIn_of _ (by decide +kernel)) ggX6_truly_X6_isTrue
set_option maxRecDepth 20000 in
theorem ggX6_truly_X6_part : GoodIn wsX6_truly wsX6_part := goodIn_r _ [34, 35, 36, 8, 37, 38, 39, 40] (by decide +kernel) (by decide +kernel)
set_option maxRecDepth 20000 in
theorem gX6_truly_X6_part : GoodIn wsX6_truly (va_wsS RX6 221 yX6_part wsX6_part) := goodIn_app (goodIn_of _ (by decide +kernel)) ggX6_truly_X6_part
theorem dX6_truly_0 : decode cX6_truly 0 = .ok (.aload_n 0, 1) := by decide +kernel
theorem dX6_truly_1 : decode cX6_truly 1 = .ok (.iconst 0, 1) := by decide +kernel
theorem dX6_truly_2 : decode cX6_truly 2 = .ok (.putfield 54, 3) := by decide +kernel
theorem dX6_truly_5 : decode cX6_truly 5 = .ok (.aload_n 0, 1) := by decide +kernel
theorem dX6_truly_6 : decode cX6_truly 6 = .ok (.iload_n 1, 1) := by decide +kernel
theorem dX6_truly_7 : decode cX6_truly 7 = .ok (.invokevirtual 158, 3) := by decide +kernel
theorem dX6_truly_10 : decode cX6_truly 10 = .ok (.ifCond .eq 35, 3) := by decide +kernel
theorem dX6_truly_13 : decode cX6_truly 13 = .ok (.iload_n 2, 1) := by decide +kernel
theorem dX6_truly_14 : decode cX6_truly 14 = .ok (.iconst 0, 1) := by decide +kernel
theorem dX6_truly_15 : decode cX6_truly 15 = .ok (.iconst 1, 1) := by decide +kernel
theorem dX6_truly_16 : decode cX6_truly 16 = .ok (.invokestatic 61, 3) := by decide +kernel
theorem dX6_truly_19 : decode cX6_truly 19 = .ok (.ifCond .eq 26, 3) := by decide +kernel
theorem dX6_truly_22 : decode cX6_truly 22 = .ok (.aload_n 0, 1) := by decide +kernel
theorem dX6_truly_23 : decode cX6_truly 23 = .ok (.iload_n 1, 1) := by decide +kernel
theorem dX6_truly_24 : decode cX6_truly 24 = .ok (.invokevirtual 248, 3) := by decide +kernel
theorem dX6_truly_27 : decode cX6_truly 27 = .ok (.ifCond .eq 18, 3) := by decide +kernel
theorem dX6_truly_30 : decode cX6_truly 30 = .ok (.aload_n 0, 1) := by decide +kernel
theorem dX6_truly_31 : decode cX6_truly 31 = .ok (.getfield 241, 3) := by decide +kernel
theorem dX6_truly_34 : decode cX6_truly 34 = .ok (.aload_n 0, 1) := by decide +kernel
theorem dX6_truly_35 : decode cX6_truly 35 = .ok (.getfield 245, 3) := by decide +kernel
theorem dX6_truly_38 : decode cX6_truly 38 = .ok (.iload_n 2, 1) := by decide +kernel
theorem dX6_truly_39 : decode cX6_truly 39 = .ok (.invokestatic 221, 3) := by decide +kernel
theorem dX6_truly_42 : decode cX6_truly 42 = .ok (.goto 6, 3) := by decide +kernel
theorem dX6_truly_45 : decode cX6_truly 45 = .ok (.ldc2_w 189, 3) := by decide +kernel
theorem dX6_truly_48 : decode cX6_truly 48 = .ok (.lreturn, 1) := by decide +kernel
set_option maxRecDepth 20000 in
theorem ggX6_cheap_X6_isTrue : GoodIn wsX6_cheap wsX6_isTrue := goodIn_r _ [9, 3, 4, 10, 11, 12, 13, 14, 8, 15, 16, 17, 18, 19, 20, 21, 22, 23, 24, 25, 26, 27, 28, 29, 30, 31, 32, 33, 34, 35, 36, 37, 38, 39, 40, 41, 42, 43, 44, 45, 46, 47, 48, 49, 50, 51, 52] (by decide +kernel) (by decide +kernel)
set_option maxRecDepth 20000 in
theorem gX6_cheap_X6_isTrue : GoodIn wsX6_cheap (wsV RX6 248 RX6 yX6_isTrue wsX6_isTrue) := goodIn_app (goodIn_of _ (by decide +kernel)) ggX6_cheap_X6_isTrue
theorem dX6_cheap_0 : decode cX6_cheap 0 = .ok (.aload_n 0, 1) := by decide +kernel
theorem dX6_cheap_1 : decode cX6_cheap 1 = .ok (.iconst 0, 1) := by decide +kernel
theorem dX6_cheap_2 : decode cX6_cheap 2 = .ok (.putfield 54, 3) := by decide +kernel
theorem dX6_cheap_5 : decode cX6_cheap 5 = .ok (.bipush (-9), 2) := by decide +kernel
theorem dX6_cheap_7 : decode cX6_cheap 7 = .ok (.istore_n 1, 1) := by decide +kernel
theorem dX6_cheap_8 : decode cX6_cheap 8 = .ok (.lconst 0, 1) := by decide +kernel
theorem dX6_cheap_9 : decode cX6_cheap 9 = .ok (.lstore_n 2, 1) := by decide +kernel
theorem dX6_cheap_10 : decode cX6_cheap 10 = .ok (.lconst 1, 1) := by decide +kernel
theorem dX6_cheap_11 : decode cX6_cheap 11 = .ok (.lstore 4, 2) := by decide +kernel
theorem dX6_cheap_13 : decode cX6_cheap 13 = .ok (.iconst 0, 1) := by decide +kernel
theorem dX6_cheap_14 : decode cX6_cheap 14 = .ok (.istore 6, 2) := by decide +kernel
theorem dX6_cheap_16 : decode cX6_cheap 16 = .ok (.iload 6, 2) := by decide +kernel
theorem dX6_cheap_18 : decode cX6_cheap 18 = .ok (.aload_n 0, 1) := by decide +kernel
theorem dX6_cheap_19 : decode cX6_cheap 19 = .ok (.getfield 58, 3) := by decide +kernel
theorem dX6_cheap_22 : decode cX6_cheap 22 = .ok (.if_icmp .ge 55, 3) := by decide +kernel
theorem dX6_cheap_25 : decode cX6_cheap 25 = .ok (.aload_n 0, 1) := by decide +kernel
theorem dX6_cheap_26 : decode cX6_cheap 26 = .ok (.iload 6, 2) := by decide +kernel
theorem dX6_cheap_28 : decode cX6_cheap 28 = .ok (.invokevirtual 248, 3) := by decide +kernel
theorem dX6_cheap_31 : decode cX6_cheap 31 = .ok (.ifCond .eq 40, 3) := by decide +kernel
theorem dX6_cheap_34 : decode cX6_cheap 34 = .ok (.iload_n 1, 1) := by decide +kernel
theorem dX6_cheap_35 : decode cX6_cheap 35 = .ok (.bipush (-9), 2) := by decide +kernel
theorem dX6_cheap_37 : decode cX6_cheap 37 = .ok (.if_icmp .eq 20, 3) := by decide +kernel
theorem dX6_cheap_40 : decode cX6_cheap 40 = .ok (.aload_n 0, 1) := by decide +kernel
theorem dX6_cheap_41 : decode cX6_cheap 41 = .ok (.getfield 241, 3) := by decide +kernel
theorem dX6_cheap_44 : decode cX6_cheap 44 = .ok (.lload 4, 2) := by decide +kernel
theorem dX6_cheap_46 : decode cX6_cheap 46 = .ok (.lmul, 1) := by decide +kernel
theorem dX6_cheap_47 : decode cX6_cheap 47 = .ok (.lload_n 2, 1) := by decide +kernel
theorem dX6_cheap_48 : decode cX6_cheap 48 = .ok (.aload_n 0, 1) := by decide +kernel
theorem dX6_cheap_49 : decode cX6_cheap 49 = .ok (.getfield 245, 3) := by decide +kernel
theorem dX6_cheap_52 : decode cX6_cheap 52 = .ok (.lmul, 1) := by decide +kernel
theorem dX6_cheap_53 : decode cX6_cheap 53 = .ok (.lcmp, 1) := by decide +kernel
theorem dX6_cheap_54 : decode cX6_cheap 54 = .ok (.ifCond .ge 17, 3) := by decide +kernel
theorem dX6_cheap_57 : decode cX6_cheap 57 = .ok (.iload 6, 2) := by decide +kernel
theorem dX6_cheap_59 : decode cX6_cheap 59 = .ok (.istore_n 1, 1) := by decide +kernel
theorem dX6_cheap_60 : decode cX6_cheap 60 = .ok (.aload_n 0, 1) := by decide +kernel
theorem dX6_cheap_61 : decode cX6_cheap 61 = .ok (.getfield 241, 3) := by decide +kernel
theorem dX6_cheap_64 : decode cX6_cheap 64 = .ok (.lstore_n 2, 1) := by decide +kernel
theorem dX6_cheap_65 : decode cX6_cheap 65 = .ok (.aload_n 0, 1) := by decide +kernel
theorem dX6_cheap_66 : decode cX6_cheap 66 = .ok (.getfield 245, 3) := by decide +kernel
theorem dX6_cheap_69 : decode cX6_cheap 69 = .ok (.lstore 4, 2) := by decide +kernel
theorem dX6_cheap_71 : decode cX6_cheap 71 = .ok (.iinc 6 1, 3) := by decide +kernel
theorem dX6_cheap_74 : decode cX6_cheap 74 = .ok (.goto (-58), 3) := by decide +kernel
theorem dX6_cheap_77 : decode cX6_cheap 77 = .ok (.iload_n 1, 1) := by decide +kernel
theorem dX6_cheap_78 : decode cX6_cheap 78 = .ok (.ireturn, 1) := by decide +kernel
set_option maxRecDepth 20000 in
theorem ggX6_favoured_X6_isStall : GoodIn wsX6_favoured wsX6_isStall := goodIn_r _ [7, 8, 9, 10, 6, 11, 21, 22, 23, 24, 25, 26, 27, 28, 29, 30, 31, 32, 33, 34, 35, 36, 37, 38, 39, 40, 41, 42, 43, 44, 45, 46, 47, 48, 49] (by decide +kernel) (by decide +kernel)
set_option maxRecDepth 20000 in
theorem gX6_favoured_X6_isStall : GoodIn wsX6_favoured (wsV RX6 158 RX6 yX6_isStall wsX6_isStall) := goodIn_app (goodIn_of _ (by decide +kernel)) ggX6_favoured_X6_isStall
set_option maxRecDepth 20000 in
theorem ggX6_favoured_X6_bag : GoodIn wsX6_favoured wsX6_bag := goodIn_r _ [15, 2, 21, 22, 23, 24, 25, 26, 27, 28, 29, 30, 31, 32, 33, 34, 35, 36, 37, 38, 39, 40, 41, 42, 43, 44, 45, 46, 47, 48, 49] (by decide +kernel) (by decide +kernel)
set_option maxRecDepth 20000 in
theorem gX6_favoured_X6_bag : GoodIn wsX6_favoured (wsV RX6 155 RX6 yX6_bag wsX6_bag) := goodIn_app (goodIn_of _ (by decide +kernel)) ggX6_favoured_X6_bag
set_option maxRecDepth 20000 in
theorem ggX6_favoured_X6_shortOf : GoodIn wsX6_favoured wsX6_shortOf := goodIn_r _ [19, 20, 12, 13, 14, 6, 15, 2, 21, 22, 23, 24, 25, 26, 27, 28, 29, 30, 31, 32, 33, 34, 35, 36, 37, 38, 39, 40, 41, 42, 43, 44, 45, 46, 47, 48, 49] (by decide +kernel) (by decide +kernel)
set_option maxRecDepth 20000 in
theorem gX6_favoured_X6_shortOf : GoodIn wsX6_favoured (wsV RX6 180 RX6 yX6_shortOf wsX6_shortOf) := goodIn_app (goodIn_of _ (by decide +kernel)) ggX6_favoured_X6_shortOf
theorem dX6_favoured_0 : decode cX6_favoured 0 = .ok (.aload_n 0, 1) := by decide +kernel
theorem dX6_favoured_1 : decode cX6_favoured 1 = .ok (.iconst 0, 1) := by decide +kernel
theorem dX6_favoured_2 : decode cX6_favoured 2 = .ok (.putfield 54, 3) := by decide +kernel
theorem dX6_favoured_5 : decode cX6_favoured 5 = .ok (.aload_n 0, 1) := by decide +kernel
theorem dX6_favoured_6 : decode cX6_favoured 6 = .ok (.iload_n 1, 1) := by decide +kernel
theorem dX6_favoured_7 : decode cX6_favoured 7 = .ok (.invokevirtual 158, 3) := by decide +kernel
theorem dX6_favoured_10 : decode cX6_favoured 10 = .ok (.ifCond .ne 5, 3) := by decide +kernel
theorem dX6_favoured_13 : decode cX6_favoured 13 = .ok (.iconst (-1), 1) := by decide +kernel
theorem dX6_favoured_14 : decode cX6_favoured 14 = .ok (.ireturn, 1) := by decide +kernel
theorem dX6_favoured_15 : decode cX6_favoured 15 = .ok (.bipush (-9), 2) := by decide +kernel
theorem dX6_favoured_17 : decode cX6_favoured 17 = .ok (.istore_n 2, 1) := by decide +kernel
theorem dX6_favoured_18 : decode cX6_favoured 18 = .ok (.lconst 0, 1) := by decide +kernel
theorem dX6_favoured_19 : decode cX6_favoured 19 = .ok (.lstore_n 3, 1) := by decide +kernel
theorem dX6_favoured_20 : decode cX6_favoured 20 = .ok (.lconst 1, 1) := by decide +kernel
theorem dX6_favoured_21 : decode cX6_favoured 21 = .ok (.lstore 5, 2) := by decide +kernel
theorem dX6_favoured_23 : decode cX6_favoured 23 = .ok (.iconst 0, 1) := by decide +kernel
theorem dX6_favoured_24 : decode cX6_favoured 24 = .ok (.istore 7, 2) := by decide +kernel
theorem dX6_favoured_26 : decode cX6_favoured 26 = .ok (.iload 7, 2) := by decide +kernel
theorem dX6_favoured_28 : decode cX6_favoured 28 = .ok (.iconst 4, 1) := by decide +kernel
theorem dX6_favoured_29 : decode cX6_favoured 29 = .ok (.if_icmp .ge 137, 3) := by decide +kernel
theorem dX6_favoured_32 : decode cX6_favoured 32 = .ok (.lconst 0, 1) := by decide +kernel
theorem dX6_favoured_33 : decode cX6_favoured 33 = .ok (.lstore 8, 2) := by decide +kernel
theorem dX6_favoured_35 : decode cX6_favoured 35 = .ok (.lconst 0, 1) := by decide +kernel
theorem dX6_favoured_36 : decode cX6_favoured 36 = .ok (.lstore 10, 2) := by decide +kernel
theorem dX6_favoured_38 : decode cX6_favoured 38 = .ok (.iconst 0, 1) := by decide +kernel
theorem dX6_favoured_39 : decode cX6_favoured 39 = .ok (.istore 12, 2) := by decide +kernel
theorem dX6_favoured_41 : decode cX6_favoured 41 = .ok (.iload 12, 2) := by decide +kernel
theorem dX6_favoured_43 : decode cX6_favoured 43 = .ok (.aload_n 0, 1) := by decide +kernel
theorem dX6_favoured_44 : decode cX6_favoured 44 = .ok (.getfield 7, 3) := by decide +kernel
theorem dX6_favoured_47 : decode cX6_favoured 47 = .ok (.iconst 0, 1) := by decide +kernel
theorem dX6_favoured_48 : decode cX6_favoured 48 = .ok (.iaload, 1) := by decide +kernel
theorem dX6_favoured_49 : decode cX6_favoured 49 = .ok (.if_icmp .ge 75, 3) := by decide +kernel
theorem dX6_favoured_52 : decode cX6_favoured 52 = .ok (.aload_n 0, 1) := by decide +kernel
theorem dX6_favoured_53 : decode cX6_favoured 53 = .ok (.iload 12, 2) := by decide +kernel
theorem dX6_favoured_55 : decode cX6_favoured 55 = .ok (.iconst 0, 1) := by decide +kernel
theorem dX6_favoured_56 : decode cX6_favoured 56 = .ok (.invokevirtual 155, 3) := by decide +kernel
theorem dX6_favoured_59 : decode cX6_favoured 59 = .ok (.iload_n 1, 1) := by decide +kernel
theorem dX6_favoured_60 : decode cX6_favoured 60 = .ok (.if_icmp .ne 19, 3) := by decide +kernel
theorem dX6_favoured_63 : decode cX6_favoured 63 = .ok (.aload_n 0, 1) := by decide +kernel
theorem dX6_favoured_64 : decode cX6_favoured 64 = .ok (.iload 12, 2) := by decide +kernel
theorem dX6_favoured_66 : decode cX6_favoured 66 = .ok (.iconst 2, 1) := by decide +kernel
theorem dX6_favoured_67 : decode cX6_favoured 67 = .ok (.invokevirtual 155, 3) := by decide +kernel
theorem dX6_favoured_70 : decode cX6_favoured 70 = .ok (.iload 7, 2) := by decide +kernel
theorem dX6_favoured_72 : decode cX6_favoured 72 = .ok (.if_icmp .ne 7, 3) := by decide +kernel
theorem dX6_favoured_75 : decode cX6_favoured 75 = .ok (.iconst 1, 1) := by decide +kernel
theorem dX6_favoured_76 : decode cX6_favoured 76 = .ok (.goto 4, 3) := by decide +kernel
theorem dX6_favoured_79 : decode cX6_favoured 79 = .ok (.iconst 0, 1) := by decide +kernel
theorem dX6_favoured_80 : decode cX6_favoured 80 = .ok (.istore 13, 2) := by decide +kernel
theorem dX6_favoured_82 : decode cX6_favoured 82 = .ok (.lload 8, 2) := by decide +kernel
theorem dX6_favoured_84 : decode cX6_favoured 84 = .ok (.iload 13, 2) := by decide +kernel
theorem dX6_favoured_86 : decode cX6_favoured 86 = .ok (.ifCond .eq 13, 3) := by decide +kernel
theorem dX6_favoured_89 : decode cX6_favoured 89 = .ok (.aload_n 0, 1) := by decide +kernel
theorem dX6_favoured_90 : decode cX6_favoured 90 = .ok (.iload 12, 2) := by decide +kernel
theorem dX6_favoured_92 : decode cX6_favoured 92 = .ok (.invokevirtual 180, 3) := by decide +kernel
theorem dX6_favoured_95 : decode cX6_favoured 95 = .ok (.i2l, 1) := by decide +kernel
theorem dX6_favoured_96 : decode cX6_favoured 96 = .ok (.goto 4, 3) := by decide +kernel
theorem dX6_favoured_99 : decode cX6_favoured 99 = .ok (.lconst 0, 1) := by decide +kernel
theorem dX6_favoured_100 : decode cX6_favoured 100 = .ok (.ladd, 1) := by decide +kernel
theorem dX6_favoured_101 : decode cX6_favoured 101 = .ok (.lstore 8, 2) := by decide +kernel
theorem dX6_favoured_103 : decode cX6_favoured 103 = .ok (.lload 10, 2) := by decide +kernel
theorem dX6_favoured_105 : decode cX6_favoured 105 = .ok (.iload 13, 2) := by decide +kernel
theorem dX6_favoured_107 : decode cX6_favoured 107 = .ok (.ifCond .eq 7, 3) := by decide +kernel
theorem dX6_favoured_110 : decode cX6_favoured 110 = .ok (.lconst 1, 1) := by decide +kernel
theorem dX6_favoured_111 : decode cX6_favoured 111 = .ok (.goto 4, 3) := by decide +kernel
theorem dX6_favoured_114 : decode cX6_favoured 114 = .ok (.lconst 0, 1) := by decide +kernel
theorem dX6_favoured_115 : decode cX6_favoured 115 = .ok (.ladd, 1) := by decide +kernel
theorem dX6_favoured_116 : decode cX6_favoured 116 = .ok (.lstore 10, 2) := by decide +kernel
theorem dX6_favoured_118 : decode cX6_favoured 118 = .ok (.iinc 12 1, 3) := by decide +kernel
theorem dX6_favoured_121 : decode cX6_favoured 121 = .ok (.goto (-80), 3) := by decide +kernel
theorem dX6_favoured_124 : decode cX6_favoured 124 = .ok (.lload 10, 2) := by decide +kernel
theorem dX6_favoured_126 : decode cX6_favoured 126 = .ok (.lconst 0, 1) := by decide +kernel
theorem dX6_favoured_127 : decode cX6_favoured 127 = .ok (.lcmp, 1) := by decide +kernel
theorem dX6_favoured_128 : decode cX6_favoured 128 = .ok (.ifCond .le 32, 3) := by decide +kernel
theorem dX6_favoured_131 : decode cX6_favoured 131 = .ok (.iload_n 2, 1) := by decide +kernel
theorem dX6_favoured_132 : decode cX6_favoured 132 = .ok (.bipush (-9), 2) := by decide +kernel
theorem dX6_favoured_134 : decode cX6_favoured 134 = .ok (.if_icmp .eq 16, 3) := by decide +kernel
theorem dX6_favoured_137 : decode cX6_favoured 137 = .ok (.lload 8, 2) := by decide +kernel
theorem dX6_favoured_139 : decode cX6_favoured 139 = .ok (.lload 5, 2) := by decide +kernel
theorem dX6_favoured_141 : decode cX6_favoured 141 = .ok (.lmul, 1) := by decide +kernel
theorem dX6_favoured_142 : decode cX6_favoured 142 = .ok (.lload_n 3, 1) := by decide +kernel
theorem dX6_favoured_143 : decode cX6_favoured 143 = .ok (.lload 10, 2) := by decide +kernel
theorem dX6_favoured_145 : decode cX6_favoured 145 = .ok (.lmul, 1) := by decide +kernel
theorem dX6_favoured_146 : decode cX6_favoured 146 = .ok (.lcmp, 1) := by decide +kernel
theorem dX6_favoured_147 : decode cX6_favoured 147 = .ok (.ifCond .ge 13, 3) := by decide +kernel
theorem dX6_favoured_150 : decode cX6_favoured 150 = .ok (.iload 7, 2) := by decide +kernel
theorem dX6_favoured_152 : decode cX6_favoured 152 = .ok (.istore_n 2, 1) := by decide +kernel
theorem dX6_favoured_153 : decode cX6_favoured 153 = .ok (.lload 8, 2) := by decide +kernel
theorem dX6_favoured_155 : decode cX6_favoured 155 = .ok (.lstore_n 3, 1) := by decide +kernel
theorem dX6_favoured_156 : decode cX6_favoured 156 = .ok (.lload 10, 2) := by decide +kernel
theorem dX6_favoured_158 : decode cX6_favoured 158 = .ok (.lstore 5, 2) := by decide +kernel
theorem dX6_favoured_160 : decode cX6_favoured 160 = .ok (.iinc 7 1, 3) := by decide +kernel
theorem dX6_favoured_163 : decode cX6_favoured 163 = .ok (.goto (-137), 3) := by decide +kernel
theorem dX6_favoured_166 : decode cX6_favoured 166 = .ok (.iload_n 2, 1) := by decide +kernel
theorem dX6_favoured_167 : decode cX6_favoured 167 = .ok (.ireturn, 1) := by decide +kernel
set_option maxRecDepth 20000 in
theorem ggX6_even_X6_isStall : GoodIn wsX6_even wsX6_isStall := goodIn_r _ [11, 12, 13, 14, 10, 15, 44, 45, 46, 47, 48, 49, 50, 51, 52, 53, 54, 55, 56, 57, 58, 59, 60, 61, 62, 63, 64, 65, 66, 67, 68, 69, 70, 71, 72] (by decide +kernel) (by decide +kernel)
set_option maxRecDepth 20000 in
theorem gX6_even_X6_isStall : GoodIn wsX6_even (wsV RX6 158 RX6 yX6_isStall wsX6_isStall) := goodIn_app (goodIn_of _ (by decide +kernel)) ggX6_even_X6_isStall
set_option maxRecDepth 20000 in
theorem ggX6_even_X6_in : GoodIn wsX6_even wsX6_in := goodIn_r _ [15] (by decide +kernel) (by decide +kernel)
set_option maxRecDepth 20000 in
theorem gX6_even_X6_in : GoodIn wsX6_even (va_wsS RX6 61 yX6_in wsX6_in) := goodIn_app (goodIn_of _ (by decide +kernel)) ggX6_even_X6_in
set_option maxRecDepth 20000 in
theorem ggX6_even_X6_bagsOf : GoodIn wsX6_even wsX6_bagsOf := goodIn_r _ [19, 4, 20, 21, 22, 10, 23, 44, 45, 46, 47, 48, 49, 50, 51, 52, 53, 54, 55, 56, 57, 58, 59, 60, 61, 62, 63, 64, 65, 66, 67, 68, 69, 70, 71, 72] (by decide +kernel) (by decide +kernel)
set_option maxRecDepth 20000 in
theorem gX6_even_X6_bagsOf : GoodIn wsX6_even (wsV RX6 161 RX6 yX6_bagsOf wsX6_bagsOf) := goodIn_app (goodIn_of _ (by decide +kernel)) ggX6_even_X6_bagsOf
set_option maxRecDepth 20000 in
theorem ggX6_even_X6_bag : GoodIn wsX6_even wsX6_bag := goodIn_r _ [23, 4, 44, 45, 46, 47, 48, 49, 50, 51, 52, 53, 54, 55, 56, 57, 58, 59, 60, 61, 62, 63, 64, 65, 66, 67, 68, 69, 70, 71, 72] (by decide +kernel) (by decide +kernel)
set_option maxRecDepth 20000 in
theorem gX6_even_X6_bag : GoodIn wsX6_even (wsV RX6 155 RX6 yX6_bag wsX6_bag) := goodIn_app (goodIn_of _ (by decide +kernel)) ggX6_even_X6_bag
set_option maxRecDepth 20000 in
theorem ggX6_even_X6_stepsOf : GoodIn wsX6_even wsX6_stepsOf := goodIn_r _ [27, 28, 20, 21, 22, 10, 23, 4, 29, 30, 31, 32, 33, 34, 35, 44, 45, 46, 47, 48, 49, 50, 51, 52, 53, 54, 55, 56, 57, 58, 59, 60, 61, 62, 63, 64, 65, 66, 67, 68, 69, 70, 71, 72] (by decide +kernel) (by decide +kernel)
set_option maxRecDepth 20000 in
theorem gX6_even_X6_stepsOf : GoodIn wsX6_even (wsV RX6 191 RX6 yX6_stepsOf wsX6_stepsOf) := goodIn_app (goodIn_of _ (by decide +kernel)) ggX6_even_X6_stepsOf
set_option maxRecDepth 20000 in
theorem ggX6_even_X6_rows : GoodIn wsX6_even wsX6_rows := goodIn_r _ [39, 40, 41, 42, 10, 43, 44, 45, 46, 47, 48, 49, 50, 51, 52, 53, 54, 55, 56, 57, 58, 59, 60, 61, 62, 63, 64, 65, 66, 67, 68, 69, 70, 71, 72] (by decide +kernel) (by decide +kernel)
set_option maxRecDepth 20000 in
theorem gX6_even_X6_rows : GoodIn wsX6_even (wsV RX6 209 RX6 yX6_rows wsX6_rows) := goodIn_app (goodIn_of _ (by decide +kernel)) ggX6_even_X6_rows
set_option maxRecDepth 20000 in
theorem ggX6_even_X6_power : GoodIn wsX6_even wsX6_power := goodIn_r _ [43] (by decide +kernel) (by decide +kernel)
set_option maxRecDepth 20000 in
theorem gX6_even_X6_power : GoodIn wsX6_even (va_wsS RX6 202 yX6_power wsX6_power) := goodIn_app (goodIn_of _ (by decide +kernel)) ggX6_even_X6_power
