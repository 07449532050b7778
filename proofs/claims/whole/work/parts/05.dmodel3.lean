theorem dX6_bag__0 : decode cX6_bag_ 0 = .ok (.aload_n 0, 1) := by decide +kernel
theorem dX6_bag__1 : decode cX6_bag_ 1 = .ok (.iconst 0, 1) := by decide +kernel
theorem dX6_bag__2 : decode cX6_bag_ 2 = .ok (.putfield 54, 3) := by decide +kernel
theorem dX6_bag__5 : decode cX6_bag_ 5 = .ok (.aload_n 0, 1) := by decide +kernel
theorem dX6_bag__6 : decode cX6_bag_ 6 = .ok (.iload_n 1, 1) := by decide +kernel
theorem dX6_bag__7 : decode cX6_bag_ 7 = .ok (.invokevirtual 158, 3) := by decide +kernel
theorem dX6_bag__10 : decode cX6_bag_ 10 = .ok (.ifCond .eq 55, 3) := by decide +kernel
theorem dX6_bag__13 : decode cX6_bag_ 13 = .ok (.iload_n 2, 1) := by decide +kernel
theorem dX6_bag__14 : decode cX6_bag_ 14 = .ok (.iconst 0, 1) := by decide +kernel
theorem dX6_bag__15 : decode cX6_bag_ 15 = .ok (.bipush 11, 2) := by decide +kernel
theorem dX6_bag__17 : decode cX6_bag_ 17 = .ok (.invokestatic 61, 3) := by decide +kernel
theorem dX6_bag__20 : decode cX6_bag_ 20 = .ok (.ifCond .eq 45, 3) := by decide +kernel
theorem dX6_bag__23 : decode cX6_bag_ 23 = .ok (.iload_n 3, 1) := by decide +kernel
theorem dX6_bag__24 : decode cX6_bag_ 24 = .ok (.invokestatic 173, 3) := by decide +kernel
theorem dX6_bag__27 : decode cX6_bag_ 27 = .ok (.ifCond .eq 38, 3) := by decide +kernel
theorem dX6_bag__30 : decode cX6_bag_ 30 = .ok (.iload 4, 2) := by decide +kernel
theorem dX6_bag__32 : decode cX6_bag_ 32 = .ok (.iconst 1, 1) := by decide +kernel
theorem dX6_bag__33 : decode cX6_bag_ 33 = .ok (.sipush 999, 3) := by decide +kernel
theorem dX6_bag__36 : decode cX6_bag_ 36 = .ok (.invokestatic 61, 3) := by decide +kernel
theorem dX6_bag__39 : decode cX6_bag_ 39 = .ok (.ifCond .eq 26, 3) := by decide +kernel
theorem dX6_bag__42 : decode cX6_bag_ 42 = .ok (.iload 5, 2) := by decide +kernel
theorem dX6_bag__44 : decode cX6_bag_ 44 = .ok (.iconst 0, 1) := by decide +kernel
theorem dX6_bag__45 : decode cX6_bag_ 45 = .ok (.sipush 999, 3) := by decide +kernel
theorem dX6_bag__48 : decode cX6_bag_ 48 = .ok (.invokestatic 61, 3) := by decide +kernel
theorem dX6_bag__51 : decode cX6_bag_ 51 = .ok (.ifCond .eq 14, 3) := by decide +kernel
theorem dX6_bag__54 : decode cX6_bag_ 54 = .ok (.iload 6, 2) := by decide +kernel
theorem dX6_bag__56 : decode cX6_bag_ 56 = .ok (.iconst 0, 1) := by decide +kernel
theorem dX6_bag__57 : decode cX6_bag_ 57 = .ok (.bipush 99, 2) := by decide +kernel
theorem dX6_bag__59 : decode cX6_bag_ 59 = .ok (.invokestatic 61, 3) := by decide +kernel
theorem dX6_bag__62 : decode cX6_bag_ 62 = .ok (.ifCond .ne 5, 3) := by decide +kernel
theorem dX6_bag__65 : decode cX6_bag_ 65 = .ok (.iconst (-1), 1) := by decide +kernel
theorem dX6_bag__66 : decode cX6_bag_ 66 = .ok (.ireturn, 1) := by decide +kernel
theorem dX6_bag__67 : decode cX6_bag_ 67 = .ok (.aload_n 0, 1) := by decide +kernel
theorem dX6_bag__68 : decode cX6_bag_ 68 = .ok (.getfield 7, 3) := by decide +kernel
theorem dX6_bag__71 : decode cX6_bag_ 71 = .ok (.iconst 0, 1) := by decide +kernel
theorem dX6_bag__72 : decode cX6_bag_ 72 = .ok (.iaload, 1) := by decide +kernel
theorem dX6_bag__73 : decode cX6_bag_ 73 = .ok (.bipush 30, 2) := by decide +kernel
theorem dX6_bag__75 : decode cX6_bag_ 75 = .ok (.if_icmp .ne 6, 3) := by decide +kernel
theorem dX6_bag__78 : decode cX6_bag_ 78 = .ok (.bipush (-3), 2) := by decide +kernel
theorem dX6_bag__80 : decode cX6_bag_ 80 = .ok (.ireturn, 1) := by decide +kernel
theorem dX6_bag__81 : decode cX6_bag_ 81 = .ok (.iconst 1, 1) := by decide +kernel
theorem dX6_bag__82 : decode cX6_bag_ 82 = .ok (.bipush 6, 2) := by decide +kernel
theorem dX6_bag__84 : decode cX6_bag_ 84 = .ok (.aload_n 0, 1) := by decide +kernel
theorem dX6_bag__85 : decode cX6_bag_ 85 = .ok (.getfield 7, 3) := by decide +kernel
theorem dX6_bag__88 : decode cX6_bag_ 88 = .ok (.iconst 0, 1) := by decide +kernel
theorem dX6_bag__89 : decode cX6_bag_ 89 = .ok (.iaload, 1) := by decide +kernel
theorem dX6_bag__90 : decode cX6_bag_ 90 = .ok (.imul, 1) := by decide +kernel
theorem dX6_bag__91 : decode cX6_bag_ 91 = .ok (.iadd, 1) := by decide +kernel
theorem dX6_bag__92 : decode cX6_bag_ 92 = .ok (.istore 7, 2) := by decide +kernel
theorem dX6_bag__94 : decode cX6_bag_ 94 = .ok (.aload_n 0, 1) := by decide +kernel
theorem dX6_bag__95 : decode cX6_bag_ 95 = .ok (.getfield 7, 3) := by decide +kernel
theorem dX6_bag__98 : decode cX6_bag_ 98 = .ok (.iload 7, 2) := by decide +kernel
theorem dX6_bag__100 : decode cX6_bag_ 100 = .ok (.iload_n 1, 1) := by decide +kernel
theorem dX6_bag__101 : decode cX6_bag_ 101 = .ok (.iastore, 1) := by decide +kernel
theorem dX6_bag__102 : decode cX6_bag_ 102 = .ok (.aload_n 0, 1) := by decide +kernel
theorem dX6_bag__103 : decode cX6_bag_ 103 = .ok (.getfield 7, 3) := by decide +kernel
theorem dX6_bag__106 : decode cX6_bag_ 106 = .ok (.iload 7, 2) := by decide +kernel
theorem dX6_bag__108 : decode cX6_bag_ 108 = .ok (.iconst 1, 1) := by decide +kernel
theorem dX6_bag__109 : decode cX6_bag_ 109 = .ok (.iadd, 1) := by decide +kernel
theorem dX6_bag__110 : decode cX6_bag_ 110 = .ok (.iload_n 2, 1) := by decide +kernel
theorem dX6_bag__111 : decode cX6_bag_ 111 = .ok (.iastore, 1) := by decide +kernel
theorem dX6_bag__112 : decode cX6_bag_ 112 = .ok (.aload_n 0, 1) := by decide +kernel
theorem dX6_bag__113 : decode cX6_bag_ 113 = .ok (.getfield 7, 3) := by decide +kernel
theorem dX6_bag__116 : decode cX6_bag_ 116 = .ok (.iload 7, 2) := by decide +kernel
theorem dX6_bag__118 : decode cX6_bag_ 118 = .ok (.iconst 2, 1) := by decide +kernel
theorem dX6_bag__119 : decode cX6_bag_ 119 = .ok (.iadd, 1) := by decide +kernel
theorem dX6_bag__120 : decode cX6_bag_ 120 = .ok (.iload_n 3, 1) := by decide +kernel
theorem dX6_bag__121 : decode cX6_bag_ 121 = .ok (.iastore, 1) := by decide +kernel
theorem dX6_bag__122 : decode cX6_bag_ 122 = .ok (.aload_n 0, 1) := by decide +kernel
theorem dX6_bag__123 : decode cX6_bag_ 123 = .ok (.getfield 7, 3) := by decide +kernel
theorem dX6_bag__126 : decode cX6_bag_ 126 = .ok (.iload 7, 2) := by decide +kernel
theorem dX6_bag__128 : decode cX6_bag_ 128 = .ok (.iconst 3, 1) := by decide +kernel
theorem dX6_bag__129 : decode cX6_bag_ 129 = .ok (.iadd, 1) := by decide +kernel
theorem dX6_bag__130 : decode cX6_bag_ 130 = .ok (.iload 4, 2) := by decide +kernel
theorem dX6_bag__132 : decode cX6_bag_ 132 = .ok (.iastore, 1) := by decide +kernel
theorem dX6_bag__133 : decode cX6_bag_ 133 = .ok (.aload_n 0, 1) := by decide +kernel
theorem dX6_bag__134 : decode cX6_bag_ 134 = .ok (.getfield 7, 3) := by decide +kernel
theorem dX6_bag__137 : decode cX6_bag_ 137 = .ok (.iload 7, 2) := by decide +kernel
theorem dX6_bag__139 : decode cX6_bag_ 139 = .ok (.iconst 4, 1) := by decide +kernel
theorem dX6_bag__140 : decode cX6_bag_ 140 = .ok (.iadd, 1) := by decide +kernel
theorem dX6_bag__141 : decode cX6_bag_ 141 = .ok (.iload 5, 2) := by decide +kernel
theorem dX6_bag__143 : decode cX6_bag_ 143 = .ok (.iastore, 1) := by decide +kernel
theorem dX6_bag__144 : decode cX6_bag_ 144 = .ok (.aload_n 0, 1) := by decide +kernel
theorem dX6_bag__145 : decode cX6_bag_ 145 = .ok (.getfield 7, 3) := by decide +kernel
theorem dX6_bag__148 : decode cX6_bag_ 148 = .ok (.iload 7, 2) := by decide +kernel
theorem dX6_bag__150 : decode cX6_bag_ 150 = .ok (.iconst 5, 1) := by decide +kernel
theorem dX6_bag__151 : decode cX6_bag_ 151 = .ok (.iadd, 1) := by decide +kernel
theorem dX6_bag__152 : decode cX6_bag_ 152 = .ok (.iload 6, 2) := by decide +kernel
theorem dX6_bag__154 : decode cX6_bag_ 154 = .ok (.iastore, 1) := by decide +kernel
theorem dX6_bag__155 : decode cX6_bag_ 155 = .ok (.aload_n 0, 1) := by decide +kernel
theorem dX6_bag__156 : decode cX6_bag_ 156 = .ok (.getfield 7, 3) := by decide +kernel
theorem dX6_bag__159 : decode cX6_bag_ 159 = .ok (.iconst 0, 1) := by decide +kernel
theorem dX6_bag__160 : decode cX6_bag_ 160 = .ok (.dup2, 1) := by decide +kernel
theorem dX6_bag__161 : decode cX6_bag_ 161 = .ok (.iaload, 1) := by decide +kernel
theorem dX6_bag__162 : decode cX6_bag_ 162 = .ok (.iconst 1, 1) := by decide +kernel
theorem dX6_bag__163 : decode cX6_bag_ 163 = .ok (.iadd, 1) := by decide +kernel
theorem dX6_bag__164 : decode cX6_bag_ 164 = .ok (.iastore, 1) := by decide +kernel
theorem dX6_bag__165 : decode cX6_bag_ 165 = .ok (.aload_n 0, 1) := by decide +kernel
theorem dX6_bag__166 : decode cX6_bag_ 166 = .ok (.getfield 7, 3) := by decide +kernel
theorem dX6_bag__169 : decode cX6_bag_ 169 = .ok (.iconst 0, 1) := by decide +kernel
theorem dX6_bag__170 : decode cX6_bag_ 170 = .ok (.iaload, 1) := by decide +kernel
theorem dX6_bag__171 : decode cX6_bag_ 171 = .ok (.iconst 1, 1) := by decide +kernel
theorem dX6_bag__172 : decode cX6_bag_ 172 = .ok (.isub, 1) := by decide +kernel
theorem dX6_bag__173 : decode cX6_bag_ 173 = .ok (.ireturn, 1) := by decide +kernel
set_option maxRecDepth 20000 in
theorem ggX6_shortOf_X6_bag : GoodIn wsX6_shortOf wsX6_bag := goodIn_r _ [6, 7, 8, 9, 10, 11, 12, 13, 14, 15, 16, 17, 18, 19, 20, 21, 22, 23, 24, 25, 26, 27, 28, 29, 30, 31, 32, 33, 34, 35, 36] (by decide +kernel) (by decide +kernel)
set_option maxRecDepth 20000 in
theorem gX6_shortOf_X6_bag : GoodIn wsX6_shortOf (wsV RX6 155 RX6 yX6_bag wsX6_bag) := goodIn_app (goodIn_of _ (by decide +kernel)) ggX6_shortOf_X6_bag
theorem dX6_shortOf_0 : decode cX6_shortOf 0 = .ok (.aload_n 0, 1) := by decide +kernel
theorem dX6_shortOf_1 : decode cX6_shortOf 1 = .ok (.iload_n 1, 1) := by decide +kernel
theorem dX6_shortOf_2 : decode cX6_shortOf 2 = .ok (.iconst 3, 1) := by decide +kernel
theorem dX6_shortOf_3 : decode cX6_shortOf 3 = .ok (.invokevirtual 155, 3) := by decide +kernel
theorem dX6_shortOf_6 : decode cX6_shortOf 6 = .ok (.aload_n 0, 1) := by decide +kernel
theorem dX6_shortOf_7 : decode cX6_shortOf 7 = .ok (.iload_n 1, 1) := by decide +kernel
theorem dX6_shortOf_8 : decode cX6_shortOf 8 = .ok (.iconst 4, 1) := by decide +kernel
theorem dX6_shortOf_9 : decode cX6_shortOf 9 = .ok (.invokevirtual 155, 3) := by decide +kernel
theorem dX6_shortOf_12 : decode cX6_shortOf 12 = .ok (.isub, 1) := by decide +kernel
theorem dX6_shortOf_13 : decode cX6_shortOf 13 = .ok (.aload_n 0, 1) := by decide +kernel
theorem dX6_shortOf_14 : decode cX6_shortOf 14 = .ok (.getfield 30, 3) := by decide +kernel
theorem dX6_shortOf_17 : decode cX6_shortOf 17 = .ok (.iconst 3, 1) := by decide +kernel
theorem dX6_shortOf_18 : decode cX6_shortOf 18 = .ok (.aload_n 0, 1) := by decide +kernel
theorem dX6_shortOf_19 : decode cX6_shortOf 19 = .ok (.iload_n 1, 1) := by decide +kernel
theorem dX6_shortOf_20 : decode cX6_shortOf 20 = .ok (.iconst 0, 1) := by decide +kernel
theorem dX6_shortOf_21 : decode cX6_shortOf 21 = .ok (.invokevirtual 155, 3) := by decide +kernel
theorem dX6_shortOf_24 : decode cX6_shortOf 24 = .ok (.imul, 1) := by decide +kernel
theorem dX6_shortOf_25 : decode cX6_shortOf 25 = .ok (.iconst 1, 1) := by decide +kernel
theorem dX6_shortOf_26 : decode cX6_shortOf 26 = .ok (.iadd, 1) := by decide +kernel
theorem dX6_shortOf_27 : decode cX6_shortOf 27 = .ok (.iaload, 1) := by decide +kernel
theorem dX6_shortOf_28 : decode cX6_shortOf 28 = .ok (.aload_n 0, 1) := by decide +kernel
theorem dX6_shortOf_29 : decode cX6_shortOf 29 = .ok (.iload_n 1, 1) := by decide +kernel
theorem dX6_shortOf_30 : decode cX6_shortOf 30 = .ok (.iconst 5, 1) := by decide +kernel
theorem dX6_shortOf_31 : decode cX6_shortOf 31 = .ok (.invokevirtual 155, 3) := by decide +kernel
theorem dX6_shortOf_34 : decode cX6_shortOf 34 = .ok (.imul, 1) := by decide +kernel
theorem dX6_shortOf_35 : decode cX6_shortOf 35 = .ok (.bipush 10, 2) := by decide +kernel
theorem dX6_shortOf_37 : decode cX6_shortOf 37 = .ok (.idiv, 1) := by decide +kernel
theorem dX6_shortOf_38 : decode cX6_shortOf 38 = .ok (.isub, 1) := by decide +kernel
theorem dX6_shortOf_39 : decode cX6_shortOf 39 = .ok (.ireturn, 1) := by decide +kernel
set_option maxRecDepth 20000 in
theorem ggX6_stepsOf_X6_bag : GoodIn wsX6_stepsOf wsX6_bag := goodIn_r _ [6, 7, 15, 16, 17, 18, 19, 20, 21, 22, 23, 24, 25, 26, 27, 28, 29, 30, 31, 32, 33, 34, 35, 36, 37, 38, 39, 40, 41, 42, 43] (by decide +kernel) (by decide +kernel)
set_option maxRecDepth 20000 in
theorem gX6_stepsOf_X6_bag : GoodIn wsX6_stepsOf (wsV RX6 155 RX6 yX6_bag wsX6_bag) := goodIn_app (goodIn_of _ (by decide +kernel)) ggX6_stepsOf_X6_bag
set_option maxRecDepth 20000 in
theorem ggX6_stepsOf_X6_shortOf : GoodIn wsX6_stepsOf wsX6_shortOf := goodIn_r _ [11, 1, 2, 3, 4, 5, 6, 7, 15, 16, 17, 18, 19, 20, 21, 22, 23, 24, 25, 26, 27, 28, 29, 30, 31, 32, 33, 34, 35, 36, 37, 38, 39, 40, 41, 42, 43] (by decide +kernel) (by decide +kernel)
set_option maxRecDepth 20000 in
theorem gX6_stepsOf_X6_shortOf : GoodIn wsX6_stepsOf (wsV RX6 180 RX6 yX6_shortOf wsX6_shortOf) := goodIn_app (goodIn_of _ (by decide +kernel)) ggX6_stepsOf_X6_shortOf
set_option maxRecDepth 20000 in
theorem ggX6_stepsOf_X6_floor : GoodIn wsX6_stepsOf wsX6_floor := goodIn_r _ [14] (by decide +kernel) (by decide +kernel)
set_option maxRecDepth 20000 in
theorem gX6_stepsOf_X6_floor : GoodIn wsX6_stepsOf (va_wsS RX6 183 yX6_floor wsX6_floor) := goodIn_app (goodIn_of _ (by decide +kernel)) ggX6_stepsOf_X6_floor
theorem dX6_stepsOf_0 : decode cX6_stepsOf 0 = .ok (.aload_n 0, 1) := by decide +kernel
theorem dX6_stepsOf_1 : decode cX6_stepsOf 1 = .ok (.getfield 30, 3) := by decide +kernel
theorem dX6_stepsOf_4 : decode cX6_stepsOf 4 = .ok (.iconst 3, 1) := by decide +kernel
theorem dX6_stepsOf_5 : decode cX6_stepsOf 5 = .ok (.aload_n 0, 1) := by decide +kernel
theorem dX6_stepsOf_6 : decode cX6_stepsOf 6 = .ok (.iload_n 1, 1) := by decide +kernel
theorem dX6_stepsOf_7 : decode cX6_stepsOf 7 = .ok (.iconst 0, 1) := by decide +kernel
theorem dX6_stepsOf_8 : decode cX6_stepsOf 8 = .ok (.invokevirtual 155, 3) := by decide +kernel
theorem dX6_stepsOf_11 : decode cX6_stepsOf 11 = .ok (.imul, 1) := by decide +kernel
theorem dX6_stepsOf_12 : decode cX6_stepsOf 12 = .ok (.iaload, 1) := by decide +kernel
theorem dX6_stepsOf_13 : decode cX6_stepsOf 13 = .ok (.istore_n 2, 1) := by decide +kernel
theorem dX6_stepsOf_14 : decode cX6_stepsOf 14 = .ok (.iconst 2, 1) := by decide +kernel
theorem dX6_stepsOf_15 : decode cX6_stepsOf 15 = .ok (.aload_n 0, 1) := by decide +kernel
theorem dX6_stepsOf_16 : decode cX6_stepsOf 16 = .ok (.iload_n 1, 1) := by decide +kernel
theorem dX6_stepsOf_17 : decode cX6_stepsOf 17 = .ok (.invokevirtual 180, 3) := by decide +kernel
theorem dX6_stepsOf_20 : decode cX6_stepsOf 20 = .ok (.imul, 1) := by decide +kernel
theorem dX6_stepsOf_21 : decode cX6_stepsOf 21 = .ok (.iload_n 2, 1) := by decide +kernel
theorem dX6_stepsOf_22 : decode cX6_stepsOf 22 = .ok (.iadd, 1) := by decide +kernel
theorem dX6_stepsOf_23 : decode cX6_stepsOf 23 = .ok (.iconst 2, 1) := by decide +kernel
theorem dX6_stepsOf_24 : decode cX6_stepsOf 24 = .ok (.iload_n 2, 1) := by decide +kernel
theorem dX6_stepsOf_25 : decode cX6_stepsOf 25 = .ok (.imul, 1) := by decide +kernel
theorem dX6_stepsOf_26 : decode cX6_stepsOf 26 = .ok (.invokestatic 183, 3) := by decide +kernel
theorem dX6_stepsOf_29 : decode cX6_stepsOf 29 = .ok (.ireturn, 1) := by decide +kernel
set_option maxRecDepth 20000 in
theorem ggX6_isBag_X6_in : GoodIn wsX6_isBag wsX6_in := goodIn_r _ [5] (by decide +kernel) (by decide +kernel)
set_option maxRecDepth 20000 in
theorem gX6_isBag_X6_in : GoodIn wsX6_isBag (va_wsS RX6 61 yX6_in wsX6_in) := goodIn_app (goodIn_of _ (by decide +kernel)) ggX6_isBag_X6_in
theorem dX6_isBag_0 : decode cX6_isBag 0 = .ok (.iload_n 1, 1) := by decide +kernel
theorem dX6_isBag_1 : decode cX6_isBag 1 = .ok (.iconst 0, 1) := by decide +kernel
theorem dX6_isBag_2 : decode cX6_isBag 2 = .ok (.aload_n 0, 1) := by decide +kernel
theorem dX6_isBag_3 : decode cX6_isBag 3 = .ok (.getfield 7, 3) := by decide +kernel
theorem dX6_isBag_6 : decode cX6_isBag 6 = .ok (.iconst 0, 1) := by decide +kernel
theorem dX6_isBag_7 : decode cX6_isBag 7 = .ok (.iaload, 1) := by decide +kernel
theorem dX6_isBag_8 : decode cX6_isBag 8 = .ok (.iconst 1, 1) := by decide +kernel
theorem dX6_isBag_9 : decode cX6_isBag 9 = .ok (.isub, 1) := by decide +kernel
theorem dX6_isBag_10 : decode cX6_isBag 10 = .ok (.invokestatic 61, 3) := by decide +kernel
theorem dX6_isBag_13 : decode cX6_isBag 13 = .ok (.ireturn, 1) := by decide +kernel
set_option maxRecDepth 20000 in
theorem ggX6_about_X6_isBag : GoodIn wsX6_about wsX6_isBag := goodIn_r _ [7, 8, 9, 10, 6, 11, 28, 29, 30, 31, 32, 33, 34, 35, 36, 37, 38, 39, 40, 41, 42, 43, 44, 45, 46, 47, 48, 49, 50, 51, 52, 53, 54, 55, 56] (by decide +kernel) (by decide +kernel)
set_option maxRecDepth 20000 in
theorem gX6_about_X6_isBag : GoodIn wsX6_about (wsV RX6 186 RX6 yX6_isBag wsX6_isBag) := goodIn_app (goodIn_of _ (by decide +kernel)) ggX6_about_X6_isBag
set_option maxRecDepth 20000 in
theorem ggX6_about_X6_in : GoodIn wsX6_about wsX6_in := goodIn_r _ [11] (by decide +kernel) (by decide +kernel)
set_option maxRecDepth 20000 in
theorem gX6_about_X6_in : GoodIn wsX6_about (va_wsS RX6 61 yX6_in wsX6_in) := goodIn_app (goodIn_of _ (by decide +kernel)) ggX6_about_X6_in
set_option maxRecDepth 20000 in
theorem ggX6_about_X6_bag : GoodIn wsX6_about wsX6_bag := goodIn_r _ [15, 8, 28, 29, 30, 31, 32, 33, 34, 35, 36, 37, 38, 39, 40, 41, 42, 43, 44, 45, 46, 47, 48, 49, 50, 51, 52, 53, 54, 55, 56] (by decide +kernel) (by decide +kernel)
set_option maxRecDepth 20000 in
theorem gX6_about_X6_bag : GoodIn wsX6_about (wsV RX6 155 RX6 yX6_bag wsX6_bag) := goodIn_app (goodIn_of _ (by decide +kernel)) ggX6_about_X6_bag
set_option maxRecDepth 20000 in
theorem ggX6_about_X6_shortOf : GoodIn wsX6_about wsX6_shortOf := goodIn_r _ [19, 20, 12, 13, 14, 6, 15, 8, 28, 29, 30, 31, 32, 33, 34, 35, 36, 37, 38, 39, 40, 41, 42, 43, 44, 45, 46, 47, 48, 49, 50, 51, 52, 53, 54, 55, 56] (by decide +kernel) (by decide +kernel)
set_option maxRecDepth 20000 in
theorem gX6_about_X6_shortOf : GoodIn wsX6_about (wsV RX6 180 RX6 yX6_shortOf wsX6_shortOf) := goodIn_app (goodIn_of _ (by decide +kernel)) ggX6_about_X6_shortOf
set_option maxRecDepth 20000 in
theorem ggX6_about_X6_stepsOf : GoodIn wsX6_about wsX6_stepsOf := goodIn_r _ [24, 20, 12, 13, 14, 6, 15, 8, 16, 17, 18, 19, 25, 26, 27, 28, 29, 30, 31, 32, 33, 34, 35, 36, 37, 38, 39, 40, 41, 42, 43, 44, 45, 46, 47, 48, 49, 50, 51, 52, 53, 54, 55, 56] (by decide +kernel) (by decide +kernel)
set_option maxRecDepth 20000 in
theorem gX6_about_X6_stepsOf : GoodIn wsX6_about (wsV RX6 191 RX6 yX6_stepsOf wsX6_stepsOf) := goodIn_app (goodIn_of _ (by decide +kernel)) ggX6_about_X6_stepsOf
theorem dX6_about_0 : decode cX6_about 0 = .ok (.aload_n 0, 1) := by decide +kernel
theorem dX6_about_1 : decode cX6_about 1 = .ok (.iconst 0, 1) := by decide +kernel
theorem dX6_about_2 : decode cX6_about 2 = .ok (.putfield 54, 3) := by decide +kernel
theorem dX6_about_5 : decode cX6_about 5 = .ok (.aload_n 0, 1) := by decide +kernel
theorem dX6_about_6 : decode cX6_about 6 = .ok (.iload_n 1, 1) := by decide +kernel
theorem dX6_about_7 : decode cX6_about 7 = .ok (.invokevirtual 186, 3) := by decide +kernel
theorem dX6_about_10 : decode cX6_about 10 = .ok (.ifCond .eq 12, 3) := by decide +kernel
theorem dX6_about_13 : decode cX6_about 13 = .ok (.iload_n 2, 1) := by decide +kernel
theorem dX6_about_14 : decode cX6_about 14 = .ok (.iconst 0, 1) := by decide +kernel
theorem dX6_about_15 : decode cX6_about 15 = .ok (.iconst 4, 1) := by decide +kernel
theorem dX6_about_16 : decode cX6_about 16 = .ok (.invokestatic 61, 3) := by decide +kernel
theorem dX6_about_19 : decode cX6_about 19 = .ok (.ifCond .ne 9, 3) := by decide +kernel
theorem dX6_about_22 : decode cX6_about 22 = .ok (.ldc2_w 189, 3) := by decide +kernel
theorem dX6_about_25 : decode cX6_about 25 = .ok (.goto 38, 3) := by decide +kernel
theorem dX6_about_28 : decode cX6_about 28 = .ok (.iload_n 2, 1) := by decide +kernel
theorem dX6_about_29 : decode cX6_about 29 = .ok (.iconst 3, 1) := by decide +kernel
theorem dX6_about_30 : decode cX6_about 30 = .ok (.if_icmp .ge 13, 3) := by decide +kernel
theorem dX6_about_33 : decode cX6_about 33 = .ok (.aload_n 0, 1) := by decide +kernel
theorem dX6_about_34 : decode cX6_about 34 = .ok (.iload_n 1, 1) := by decide +kernel
theorem dX6_about_35 : decode cX6_about 35 = .ok (.iload_n 2, 1) := by decide +kernel
theorem dX6_about_36 : decode cX6_about 36 = .ok (.invokevirtual 155, 3) := by decide +kernel
theorem dX6_about_39 : decode cX6_about 39 = .ok (.i2l, 1) := by decide +kernel
theorem dX6_about_40 : decode cX6_about 40 = .ok (.goto 23, 3) := by decide +kernel
theorem dX6_about_43 : decode cX6_about 43 = .ok (.iload_n 2, 1) := by decide +kernel
theorem dX6_about_44 : decode cX6_about 44 = .ok (.iconst 3, 1) := by decide +kernel
theorem dX6_about_45 : decode cX6_about 45 = .ok (.if_icmp .ne 12, 3) := by decide +kernel
theorem dX6_about_48 : decode cX6_about 48 = .ok (.aload_n 0, 1) := by decide +kernel
theorem dX6_about_49 : decode cX6_about 49 = .ok (.iload_n 1, 1) := by decide +kernel
theorem dX6_about_50 : decode cX6_about 50 = .ok (.invokevirtual 180, 3) := by decide +kernel
theorem dX6_about_53 : decode cX6_about 53 = .ok (.i2l, 1) := by decide +kernel
theorem dX6_about_54 : decode cX6_about 54 = .ok (.goto 9, 3) := by decide +kernel
theorem dX6_about_57 : decode cX6_about 57 = .ok (.aload_n 0, 1) := by decide +kernel
theorem dX6_about_58 : decode cX6_about 58 = .ok (.iload_n 1, 1) := by decide +kernel
theorem dX6_about_59 : decode cX6_about 59 = .ok (.invokevirtual 191, 3) := by decide +kernel
theorem dX6_about_62 : decode cX6_about 62 = .ok (.i2l, 1) := by decide +kernel
theorem dX6_about_63 : decode cX6_about 63 = .ok (.lreturn, 1) := by decide +kernel
set_option maxRecDepth 20000 in
theorem ggX6_isLook_X6_isStall : GoodIn wsX6_isLook wsX6_isStall := goodIn_r _ [5, 6, 7, 8, 4, 9, 10, 11, 12, 13, 14, 15, 16, 17, 18, 19, 20, 21, 22, 23, 24, 25, 26, 27, 28, 29, 30, 31, 32, 33, 34, 35, 36, 37, 38] (by decide +kernel) (by decide +kernel)
set_option maxRecDepth 20000 in
theorem gX6_isLook_X6_isStall : GoodIn wsX6_isLook (wsV RX6 158 RX6 yX6_isStall wsX6_isStall) := goodIn_app (goodIn_of _ (by decide +kernel)) ggX6_isLook_X6_isStall
set_option maxRecDepth 20000 in
theorem ggX6_isLook_X6_in : GoodIn wsX6_isLook wsX6_in := goodIn_r _ [9] (by decide +kernel) (by decide +kernel)
set_option maxRecDepth 20000 in
theorem gX6_isLook_X6_in : GoodIn wsX6_isLook (va_wsS RX6 61 yX6_in wsX6_in) := goodIn_app (goodIn_of _ (by decide +kernel)) ggX6_isLook_X6_in
theorem dX6_isLook_0 : decode cX6_isLook 0 = .ok (.iload_n 1, 1) := by decide +kernel
theorem dX6_isLook_1 : decode cX6_isLook 1 = .ok (.iconst (-1), 1) := by decide +kernel
theorem dX6_isLook_2 : decode cX6_isLook 2 = .ok (.if_icmp .eq 11, 3) := by decide +kernel
theorem dX6_isLook_5 : decode cX6_isLook 5 = .ok (.aload_n 0, 1) := by decide +kernel
theorem dX6_isLook_6 : decode cX6_isLook 6 = .ok (.iload_n 1, 1) := by decide +kernel
theorem dX6_isLook_7 : decode cX6_isLook 7 = .ok (.invokevirtual 158, 3) := by decide +kernel
theorem dX6_isLook_10 : decode cX6_isLook 10 = .ok (.ifCond .eq 38, 3) := by decide +kernel
theorem dX6_isLook_13 : decode cX6_isLook 13 = .ok (.iload_n 2, 1) := by decide +kernel
theorem dX6_isLook_14 : decode cX6_isLook 14 = .ok (.iconst 0, 1) := by decide +kernel
theorem dX6_isLook_15 : decode cX6_isLook 15 = .ok (.bipush 11, 2) := by decide +kernel
theorem dX6_isLook_17 : decode cX6_isLook 17 = .ok (.invokestatic 61, 3) := by decide +kernel
theorem dX6_isLook_20 : decode cX6_isLook 20 = .ok (.ifCond .eq 28, 3) := by decide +kernel
theorem dX6_isLook_23 : decode cX6_isLook 23 = .ok (.iload_n 3, 1) := by decide +kernel
theorem dX6_isLook_24 : decode cX6_isLook 24 = .ok (.iconst 0, 1) := by decide +kernel
theorem dX6_isLook_25 : decode cX6_isLook 25 = .ok (.bipush 11, 2) := by decide +kernel
theorem dX6_isLook_27 : decode cX6_isLook 27 = .ok (.invokestatic 61, 3) := by decide +kernel
theorem dX6_isLook_30 : decode cX6_isLook 30 = .ok (.ifCond .eq 18, 3) := by decide +kernel
theorem dX6_isLook_33 : decode cX6_isLook 33 = .ok (.iload 4, 2) := by decide +kernel
theorem dX6_isLook_35 : decode cX6_isLook 35 = .ok (.iconst 0, 1) := by decide +kernel
theorem dX6_isLook_36 : decode cX6_isLook 36 = .ok (.bipush 15, 2) := by decide +kernel
theorem dX6_isLook_38 : decode cX6_isLook 38 = .ok (.invokestatic 61, 3) := by decide +kernel
theorem dX6_isLook_41 : decode cX6_isLook 41 = .ok (.ifCond .eq 7, 3) := by decide +kernel
theorem dX6_isLook_44 : decode cX6_isLook 44 = .ok (.iconst 1, 1) := by decide +kernel
theorem dX6_isLook_45 : decode cX6_isLook 45 = .ok (.goto 4, 3) := by decide +kernel
theorem dX6_isLook_48 : decode cX6_isLook 48 = .ok (.iconst 0, 1) := by decide +kernel
theorem dX6_isLook_49 : decode cX6_isLook 49 = .ok (.ireturn, 1) := by decide +kernel
set_option maxRecDepth 20000 in
theorem ggX6_looked_X6_bag : GoodIn wsX6_looked wsX6_bag := goodIn_r _ [6, 1, 22, 23, 24, 25, 26, 27, 28, 29, 30, 31, 32, 33, 34, 35, 36, 37, 38, 39, 40, 41, 42, 43, 44, 45, 46, 47, 48, 49, 50] (by decide +kernel) (by decide +kernel)
set_option maxRecDepth 20000 in
theorem gX6_looked_X6_bag : GoodIn wsX6_looked (wsV RX6 155 RX6 yX6_bag wsX6_bag) := goodIn_app (goodIn_of _ (by decide +kernel)) ggX6_looked_X6_bag
set_option maxRecDepth 20000 in
theorem ggX6_looked_X6_in : GoodIn wsX6_looked wsX6_in := goodIn_r _ [9] (by decide +kernel) (by decide +kernel)
set_option maxRecDepth 20000 in
theorem gX6_looked_X6_in : GoodIn wsX6_looked (va_wsS RX6 61 yX6_in wsX6_in) := goodIn_app (goodIn_of _ (by decide +kernel)) ggX6_looked_X6_in
set_option maxRecDepth 20000 in
theorem ggX6_looked_X6_stepsOf : GoodIn wsX6_looked wsX6_stepsOf := goodIn_r _ [13, 14, 2, 3, 4, 5, 6, 1, 15, 16, 17, 18, 19, 20, 21, 22, 23, 24, 25, 26, 27, 28, 29, 30, 31, 32, 33, 34, 35, 36, 37, 38, 39, 40, 41, 42, 43, 44, 45, 46, 47, 48, 49, 50] (by decide +kernel) (by decide +kernel)
set_option maxRecDepth 20000 in
theorem gX6_looked_X6_stepsOf : GoodIn wsX6_looked (wsV RX6 191 RX6 yX6_stepsOf wsX6_stepsOf) := goodIn_app (goodIn_of _ (by decide +kernel)) ggX6_looked_X6_stepsOf
theorem dX6_looked_0 : decode cX6_looked 0 = .ok (.iconst 0, 1) := by decide +kernel
theorem dX6_looked_1 : decode cX6_looked 1 = .ok (.istore 7, 2) := by decide +kernel
theorem dX6_looked_3 : decode cX6_looked 3 = .ok (.iconst 0, 1) := by decide +kernel
theorem dX6_looked_4 : decode cX6_looked 4 = .ok (.istore 8, 2) := by decide +kernel
theorem dX6_looked_6 : decode cX6_looked 6 = .ok (.iload 8, 2) := by decide +kernel
theorem dX6_looked_8 : decode cX6_looked 8 = .ok (.aload_n 0, 1) := by decide +kernel
theorem dX6_looked_9 : decode cX6_looked 9 = .ok (.getfield 7, 3) := by decide +kernel
theorem dX6_looked_12 : decode cX6_looked 12 = .ok (.iconst 0, 1) := by decide +kernel
theorem dX6_looked_13 : decode cX6_looked 13 = .ok (.iaload, 1) := by decide +kernel
theorem dX6_looked_14 : decode cX6_looked 14 = .ok (.if_icmp .ge 94, 3) := by decide +kernel
theorem dX6_looked_17 : decode cX6_looked 17 = .ok (.iload_n 1, 1) := by decide +kernel
theorem dX6_looked_18 : decode cX6_looked 18 = .ok (.iconst (-1), 1) := by decide +kernel
theorem dX6_looked_19 : decode cX6_looked 19 = .ok (.if_icmp .eq 14, 3) := by decide +kernel
theorem dX6_looked_22 : decode cX6_looked 22 = .ok (.aload_n 0, 1) := by decide +kernel
theorem dX6_looked_23 : decode cX6_looked 23 = .ok (.iload 8, 2) := by decide +kernel
theorem dX6_looked_25 : decode cX6_looked 25 = .ok (.iconst 0, 1) := by decide +kernel
theorem dX6_looked_26 : decode cX6_looked 26 = .ok (.invokevirtual 155, 3) := by decide +kernel
theorem dX6_looked_29 : decode cX6_looked 29 = .ok (.iload_n 1, 1) := by decide +kernel
theorem dX6_looked_30 : decode cX6_looked 30 = .ok (.if_icmp .ne 38, 3) := by decide +kernel
theorem dX6_looked_33 : decode cX6_looked 33 = .ok (.aload_n 0, 1) := by decide +kernel
theorem dX6_looked_34 : decode cX6_looked 34 = .ok (.iload 8, 2) := by decide +kernel
theorem dX6_looked_36 : decode cX6_looked 36 = .ok (.iconst 1, 1) := by decide +kernel
theorem dX6_looked_37 : decode cX6_looked 37 = .ok (.invokevirtual 155, 3) := by decide +kernel
theorem dX6_looked_40 : decode cX6_looked 40 = .ok (.iload_n 2, 1) := by decide +kernel
theorem dX6_looked_41 : decode cX6_looked 41 = .ok (.iload_n 3, 1) := by decide +kernel
theorem dX6_looked_42 : decode cX6_looked 42 = .ok (.invokestatic 61, 3) := by decide +kernel
theorem dX6_looked_45 : decode cX6_looked 45 = .ok (.ifCond .eq 23, 3) := by decide +kernel
theorem dX6_looked_48 : decode cX6_looked 48 = .ok (.iload 4, 2) := by decide +kernel
theorem dX6_looked_50 : decode cX6_looked 50 = .ok (.aload_n 0, 1) := by decide +kernel
theorem dX6_looked_51 : decode cX6_looked 51 = .ok (.iload 8, 2) := by decide +kernel
theorem dX6_looked_53 : decode cX6_looked 53 = .ok (.iconst 2, 1) := by decide +kernel
theorem dX6_looked_54 : decode cX6_looked 54 = .ok (.invokevirtual 155, 3) := by decide +kernel
theorem dX6_looked_57 : decode cX6_looked 57 = .ok (.ishr, 1) := by decide +kernel
theorem dX6_looked_58 : decode cX6_looked 58 = .ok (.iconst 1, 1) := by decide +kernel
theorem dX6_looked_59 : decode cX6_looked 59 = .ok (.iand, 1) := by decide +kernel
theorem dX6_looked_60 : decode cX6_looked 60 = .ok (.iconst 1, 1) := by decide +kernel
theorem dX6_looked_61 : decode cX6_looked 61 = .ok (.if_icmp .ne 7, 3) := by decide +kernel
theorem dX6_looked_64 : decode cX6_looked 64 = .ok (.iconst 1, 1) := by decide +kernel
theorem dX6_looked_65 : decode cX6_looked 65 = .ok (.goto 4, 3) := by decide +kernel
theorem dX6_looked_68 : decode cX6_looked 68 = .ok (.iconst 0, 1) := by decide +kernel
theorem dX6_looked_69 : decode cX6_looked 69 = .ok (.istore 9, 2) := by decide +kernel
theorem dX6_looked_71 : decode cX6_looked 71 = .ok (.iload 7, 2) := by decide +kernel
theorem dX6_looked_73 : decode cX6_looked 73 = .ok (.iload 9, 2) := by decide +kernel
theorem dX6_looked_75 : decode cX6_looked 75 = .ok (.ifCond .eq 23, 3) := by decide +kernel
theorem dX6_looked_78 : decode cX6_looked 78 = .ok (.iload 6, 2) := by decide +kernel
theorem dX6_looked_80 : decode cX6_looked 80 = .ok (.ifCond .eq 14, 3) := by decide +kernel
theorem dX6_looked_83 : decode cX6_looked 83 = .ok (.aload_n 0, 1) := by decide +kernel
theorem dX6_looked_84 : decode cX6_looked 84 = .ok (.iload 8, 2) := by decide +kernel
theorem dX6_looked_86 : decode cX6_looked 86 = .ok (.invokevirtual 191, 3) := by decide +kernel
theorem dX6_looked_89 : decode cX6_looked 89 = .ok (.iload 5, 2) := by decide +kernel
theorem dX6_looked_91 : decode cX6_looked 91 = .ok (.if_icmp .lt 7, 3) := by decide +kernel
theorem dX6_looked_94 : decode cX6_looked 94 = .ok (.iconst 1, 1) := by decide +kernel
theorem dX6_looked_95 : decode cX6_looked 95 = .ok (.goto 4, 3) := by decide +kernel
theorem dX6_looked_98 : decode cX6_looked 98 = .ok (.iconst 0, 1) := by decide +kernel
theorem dX6_looked_99 : decode cX6_looked 99 = .ok (.iadd, 1) := by decide +kernel
theorem dX6_looked_100 : decode cX6_looked 100 = .ok (.istore 7, 2) := by decide +kernel
theorem dX6_looked_102 : decode cX6_looked 102 = .ok (.iinc 8 1, 3) := by decide +kernel
theorem dX6_looked_105 : decode cX6_looked 105 = .ok (.goto (-99), 3) := by decide +kernel
theorem dX6_looked_108 : decode cX6_looked 108 = .ok (.iload 7, 2) := by decide +kernel
theorem dX6_looked_110 : decode cX6_looked 110 = .ok (.ireturn, 1) := by decide +kernel
set_option maxRecDepth 20000 in
theorem ggX6_look_X6_isLook : GoodIn wsX6_look wsX6_isLook := goodIn_r _ [6, 7, 8, 9, 5, 10, 11, 12, 13, 14, 36, 37, 38, 39, 40, 41, 42, 43, 44, 45, 46, 47, 48, 49, 50, 51, 52, 53, 54, 55, 56, 57, 58, 59, 60, 61, 62, 63, 64] (by decide +kernel) (by decide +kernel)
set_option maxRecDepth 20000 in
theorem gX6_look_X6_isLook : GoodIn wsX6_look (wsV RX6 194 RX6 yX6_isLook wsX6_isLook) := goodIn_app (goodIn_of _ (by decide +kernel)) ggX6_look_X6_isLook
set_option maxRecDepth 20000 in
theorem ggX6_look_X6_in : GoodIn wsX6_look wsX6_in := goodIn_r _ [14] (by decide +kernel) (by decide +kernel)
set_option maxRecDepth 20000 in
theorem gX6_look_X6_in : GoodIn wsX6_look (va_wsS RX6 61 yX6_in wsX6_in) := goodIn_app (goodIn_of _ (by decide +kernel)) ggX6_look_X6_in
set_option maxRecDepth 20000 in
theorem ggX6_look_X6_looked : GoodIn wsX6_look wsX6_looked := goodIn_r _ [18, 19, 20, 21, 22, 5, 23, 12, 13, 14, 24, 25, 26, 27, 28, 29, 30, 31, 32, 33, 34, 35, 36, 37, 38, 39, 40, 41, 42, 43, 44, 45, 46, 47, 48, 49, 50, 51, 52, 53, 54, 55, 56, 57, 58, 59, 60, 61, 62, 63, 64] (by decide +kernel) (by decide +kernel)
set_option maxRecDepth 20000 in
theorem gX6_look_X6_looked : GoodIn wsX6_look (wsV RX6 198 RX6 yX6_looked wsX6_looked) := goodIn_app (goodIn_of _ (by decide +kernel)) ggX6_look_X6_looked
theorem dX6_look_0 : decode cX6_look 0 = .ok (.aload_n 0, 1) := by decide +kernel
theorem dX6_look_1 : decode cX6_look 1 = .ok (.iconst 0, 1) := by decide +kernel
theorem dX6_look_2 : decode cX6_look 2 = .ok (.putfield 54, 3) := by decide +kernel
theorem dX6_look_5 : decode cX6_look 5 = .ok (.aload_n 0, 1) := by decide +kernel
theorem dX6_look_6 : decode cX6_look 6 = .ok (.iload_n 1, 1) := by decide +kernel
theorem dX6_look_7 : decode cX6_look 7 = .ok (.iload_n 2, 1) := by decide +kernel
theorem dX6_look_8 : decode cX6_look 8 = .ok (.iload_n 3, 1) := by decide +kernel
theorem dX6_look_9 : decode cX6_look 9 = .ok (.iload 4, 2) := by decide +kernel
theorem dX6_look_11 : decode cX6_look 11 = .ok (.invokevirtual 194, 3) := by decide +kernel
theorem dX6_look_14 : decode cX6_look 14 = .ok (.ifCond .eq 38, 3) := by decide +kernel
theorem dX6_look_17 : decode cX6_look 17 = .ok (.iload 6, 2) := by decide +kernel
theorem dX6_look_19 : decode cX6_look 19 = .ok (.iconst 0, 1) := by decide +kernel
theorem dX6_look_20 : decode cX6_look 20 = .ok (.iconst 1, 1) := by decide +kernel
theorem dX6_look_21 : decode cX6_look 21 = .ok (.invokestatic 61, 3) := by decide +kernel
theorem dX6_look_24 : decode cX6_look 24 = .ok (.ifCond .eq 28, 3) := by decide +kernel
theorem dX6_look_27 : decode cX6_look 27 = .ok (.aload_n 0, 1) := by decide +kernel
theorem dX6_look_28 : decode cX6_look 28 = .ok (.iload_n 1, 1) := by decide +kernel
theorem dX6_look_29 : decode cX6_look 29 = .ok (.iload_n 2, 1) := by decide +kernel
theorem dX6_look_30 : decode cX6_look 30 = .ok (.iload_n 3, 1) := by decide +kernel
theorem dX6_look_31 : decode cX6_look 31 = .ok (.iload 4, 2) := by decide +kernel
theorem dX6_look_33 : decode cX6_look 33 = .ok (.iload 5, 2) := by decide +kernel
theorem dX6_look_35 : decode cX6_look 35 = .ok (.iload 6, 2) := by decide +kernel
theorem dX6_look_37 : decode cX6_look 37 = .ok (.iconst 1, 1) := by decide +kernel
theorem dX6_look_38 : decode cX6_look 38 = .ok (.if_icmp .ne 7, 3) := by decide +kernel
theorem dX6_look_41 : decode cX6_look 41 = .ok (.iconst 1, 1) := by decide +kernel
theorem dX6_look_42 : decode cX6_look 42 = .ok (.goto 4, 3) := by decide +kernel
theorem dX6_look_45 : decode cX6_look 45 = .ok (.iconst 0, 1) := by decide +kernel
theorem dX6_look_46 : decode cX6_look 46 = .ok (.invokevirtual 198, 3) := by decide +kernel
theorem dX6_look_49 : decode cX6_look 49 = .ok (.goto 4, 3) := by decide +kernel
theorem dX6_look_52 : decode cX6_look 52 = .ok (.iconst (-1), 1) := by decide +kernel
theorem dX6_look_53 : decode cX6_look 53 = .ok (.ireturn, 1) := by decide +kernel
set_option maxRecDepth 20000 in
theorem ggX6_rows_X6_power : GoodIn wsX6_rows wsX6_power := goodIn_r _ [5] (by decide +kernel) (by decide +kernel)
set_option maxRecDepth 20000 in
theorem gX6_rows_X6_power : GoodIn wsX6_rows (va_wsS RX6 202 yX6_power wsX6_power) := goodIn_app (goodIn_of _ (by decide +kernel)) ggX6_rows_X6_power
theorem dX6_rows_0 : decode cX6_rows 0 = .ok (.lconst 0, 1) := by decide +kernel
theorem dX6_rows_1 : decode cX6_rows 1 = .ok (.lstore 4, 2) := by decide +kernel
theorem dX6_rows_3 : decode cX6_rows 3 = .ok (.iload_n 2, 1) := by decide +kernel
theorem dX6_rows_4 : decode cX6_rows 4 = .ok (.istore 6, 2) := by decide +kernel
theorem dX6_rows_6 : decode cX6_rows 6 = .ok (.iload 6, 2) := by decide +kernel
theorem dX6_rows_8 : decode cX6_rows 8 = .ok (.iload_n 1, 1) := by decide +kernel
theorem dX6_rows_9 : decode cX6_rows 9 = .ok (.if_icmp .gt 47, 3) := by decide +kernel
theorem dX6_rows_12 : decode cX6_rows 12 = .ok (.lload 4, 2) := by decide +kernel
theorem dX6_rows_14 : decode cX6_rows 14 = .ok (.aload_n 0, 1) := by decide +kernel
theorem dX6_rows_15 : decode cX6_rows 15 = .ok (.getfield 42, 3) := by decide +kernel
theorem dX6_rows_18 : decode cX6_rows 18 = .ok (.bipush 20, 2) := by decide +kernel
theorem dX6_rows_20 : decode cX6_rows 20 = .ok (.iload_n 1, 1) := by decide +kernel
theorem dX6_rows_21 : decode cX6_rows 21 = .ok (.imul, 1) := by decide +kernel
theorem dX6_rows_22 : decode cX6_rows 22 = .ok (.iload 6, 2) := by decide +kernel
theorem dX6_rows_24 : decode cX6_rows 24 = .ok (.iadd, 1) := by decide +kernel
theorem dX6_rows_25 : decode cX6_rows 25 = .ok (.laload, 1) := by decide +kernel
theorem dX6_rows_26 : decode cX6_rows 26 = .ok (.iload_n 3, 1) := by decide +kernel
theorem dX6_rows_27 : decode cX6_rows 27 = .ok (.i2l, 1) := by decide +kernel
theorem dX6_rows_28 : decode cX6_rows 28 = .ok (.iload 6, 2) := by decide +kernel
theorem dX6_rows_30 : decode cX6_rows 30 = .ok (.invokestatic 202, 3) := by decide +kernel
theorem dX6_rows_33 : decode cX6_rows 33 = .ok (.lmul, 1) := by decide +kernel
theorem dX6_rows_34 : decode cX6_rows 34 = .ok (.bipush 10, 2) := by decide +kernel
theorem dX6_rows_36 : decode cX6_rows 36 = .ok (.iload_n 3, 1) := by decide +kernel
theorem dX6_rows_37 : decode cX6_rows 37 = .ok (.isub, 1) := by decide +kernel
theorem dX6_rows_38 : decode cX6_rows 38 = .ok (.i2l, 1) := by decide +kernel
theorem dX6_rows_39 : decode cX6_rows 39 = .ok (.iload_n 1, 1) := by decide +kernel
theorem dX6_rows_40 : decode cX6_rows 40 = .ok (.iload 6, 2) := by decide +kernel
theorem dX6_rows_42 : decode cX6_rows 42 = .ok (.isub, 1) := by decide +kernel
theorem dX6_rows_43 : decode cX6_rows 43 = .ok (.invokestatic 202, 3) := by decide +kernel
theorem dX6_rows_46 : decode cX6_rows 46 = .ok (.lmul, 1) := by decide +kernel
theorem dX6_rows_47 : decode cX6_rows 47 = .ok (.ladd, 1) := by decide +kernel
theorem dX6_rows_48 : decode cX6_rows 48 = .ok (.lstore 4, 2) := by decide +kernel
theorem dX6_rows_50 : decode cX6_rows 50 = .ok (.iinc 6 1, 3) := by decide +kernel
theorem dX6_rows_53 : decode cX6_rows 53 = .ok (.goto (-47), 3) := by decide +kernel
theorem dX6_rows_56 : decode cX6_rows 56 = .ok (.lload 4, 2) := by decide +kernel
theorem dX6_rows_58 : decode cX6_rows 58 = .ok (.lreturn, 1) := by decide +kernel
set_option maxRecDepth 20000 in
theorem ggX6_seldom_X6_isLook : GoodIn wsX6_seldom wsX6_isLook := goodIn_r _ [12, 13, 14, 15, 11, 16, 17, 18, 19, 20, 49, 50, 51, 52, 53, 54, 55, 56, 57, 58, 59, 60, 61, 62, 63, 64, 65, 66, 67, 68, 69, 70, 71, 72, 73, 74, 75, 76, 77] (by decide +kernel) (by decide +kernel)
set_option maxRecDepth 20000 in
theorem gX6_seldom_X6_isLook : GoodIn wsX6_seldom (wsV RX6 194 RX6 yX6_isLook wsX6_isLook) := goodIn_app (goodIn_of _ (by decide +kernel)) ggX6_seldom_X6_isLook
set_option maxRecDepth 20000 in
theorem ggX6_seldom_X6_looked : GoodIn wsX6_seldom wsX6_looked := goodIn_r _ [24, 7, 25, 26, 27, 11, 28, 18, 19, 20, 29, 30, 31, 32, 33, 34, 35, 36, 37, 38, 39, 40, 49, 50, 51, 52, 53, 54, 55, 56, 57, 58, 59, 60, 61, 62, 63, 64, 65, 66, 67, 68, 69, 70, 71, 72, 73, 74, 75, 76, 77] (by decide +kernel) (by decide +kernel)
set_option maxRecDepth 20000 in
theorem gX6_seldom_X6_looked : GoodIn wsX6_seldom (wsV RX6 198 RX6 yX6_looked wsX6_looked) := goodIn_app (goodIn_of _ (by decide +kernel)) ggX6_seldom_X6_looked
set_option maxRecDepth 20000 in
theorem ggX6_seldom_X6_rows : GoodIn wsX6_seldom wsX6_rows := goodIn_r _ [44, 45, 46, 47, 11, 48, 49, 50, 51, 52, 53, 54, 55, 56, 57, 58, 59, 60, 61, 62, 63, 64, 65, 66, 67, 68, 69, 70, 71, 72, 73, 74, 75, 76, 77] (by decide +kernel) (by decide +kernel)
set_option maxRecDepth 20000 in
theorem gX6_seldom_X6_rows : GoodIn wsX6_seldom (wsV RX6 209 RX6 yX6_rows wsX6_rows) := goodIn_app (goodIn_of _ (by decide +kernel)) ggX6_seldom_X6_rows
set_option maxRecDepth 20000 in
theorem ggX6_seldom_X6_power : GoodIn wsX6_seldom wsX6_power := goodIn_r _ [48] (by decide +kernel) (by decide +kernel)
set_option maxRecDepth 20000 in
theorem gX6_seldom_X6_power : GoodIn wsX6_seldom (va_wsS RX6 202 yX6_power wsX6_power) := goodIn_app (goodIn_of _ (by decide +kernel)) ggX6_seldom_X6_power
theorem dX6_seldom_0 : decode cX6_seldom 0 = .ok (.aload_n 0, 1) := by decide +kernel
theorem dX6_seldom_1 : decode cX6_seldom 1 = .ok (.iconst 0, 1) := by decide +kernel
theorem dX6_seldom_2 : decode cX6_seldom 2 = .ok (.putfield 54, 3) := by decide +kernel
theorem dX6_seldom_5 : decode cX6_seldom 5 = .ok (.aload_n 0, 1) := by decide +kernel
theorem dX6_seldom_6 : decode cX6_seldom 6 = .ok (.iload_n 1, 1) := by decide +kernel
theorem dX6_seldom_7 : decode cX6_seldom 7 = .ok (.iload_n 2, 1) := by decide +kernel
theorem dX6_seldom_8 : decode cX6_seldom 8 = .ok (.iload_n 3, 1) := by decide +kernel
theorem dX6_seldom_9 : decode cX6_seldom 9 = .ok (.iload 4, 2) := by decide +kernel
theorem dX6_seldom_11 : decode cX6_seldom 11 = .ok (.invokevirtual 194, 3) := by decide +kernel
theorem dX6_seldom_14 : decode cX6_seldom 14 = .ok (.ifCond .ne 7, 3) := by decide +kernel
theorem dX6_seldom_17 : decode cX6_seldom 17 = .ok (.ldc2_w 205, 3) := by decide +kernel
theorem dX6_seldom_20 : decode cX6_seldom 20 = .ok (.lreturn, 1) := by decide +kernel
theorem dX6_seldom_21 : decode cX6_seldom 21 = .ok (.aload_n 0, 1) := by decide +kernel
theorem dX6_seldom_22 : decode cX6_seldom 22 = .ok (.iload_n 1, 1) := by decide +kernel
theorem dX6_seldom_23 : decode cX6_seldom 23 = .ok (.iload_n 2, 1) := by decide +kernel
theorem dX6_seldom_24 : decode cX6_seldom 24 = .ok (.iload_n 3, 1) := by decide +kernel
theorem dX6_seldom_25 : decode cX6_seldom 25 = .ok (.iload 4, 2) := by decide +kernel
theorem dX6_seldom_27 : decode cX6_seldom 27 = .ok (.iload 5, 2) := by decide +kernel
theorem dX6_seldom_29 : decode cX6_seldom 29 = .ok (.iconst 0, 1) := by decide +kernel
theorem dX6_seldom_30 : decode cX6_seldom 30 = .ok (.invokevirtual 198, 3) := by decide +kernel
theorem dX6_seldom_33 : decode cX6_seldom 33 = .ok (.istore 6, 2) := by decide +kernel
theorem dX6_seldom_35 : decode cX6_seldom 35 = .ok (.iload 6, 2) := by decide +kernel
theorem dX6_seldom_37 : decode cX6_seldom 37 = .ok (.bipush 18, 2) := by decide +kernel
theorem dX6_seldom_39 : decode cX6_seldom 39 = .ok (.if_icmp .le 7, 3) := by decide +kernel
theorem dX6_seldom_42 : decode cX6_seldom 42 = .ok (.ldc2_w 207, 3) := by decide +kernel
theorem dX6_seldom_45 : decode cX6_seldom 45 = .ok (.lreturn, 1) := by decide +kernel
theorem dX6_seldom_46 : decode cX6_seldom 46 = .ok (.iload 5, 2) := by decide +kernel
theorem dX6_seldom_48 : decode cX6_seldom 48 = .ok (.ifCond .ge 8, 3) := by decide +kernel
theorem dX6_seldom_51 : decode cX6_seldom 51 = .ok (.bipush 10, 2) := by decide +kernel
theorem dX6_seldom_53 : decode cX6_seldom 53 = .ok (.goto 40, 3) := by decide +kernel
theorem dX6_seldom_56 : decode cX6_seldom 56 = .ok (.iload 5, 2) := by decide +kernel
theorem dX6_seldom_58 : decode cX6_seldom 58 = .ok (.ifCond .ne 19, 3) := by decide +kernel
theorem dX6_seldom_61 : decode cX6_seldom 61 = .ok (.aload_n 0, 1) := by decide +kernel
theorem dX6_seldom_62 : decode cX6_seldom 62 = .ok (.getfield 27, 3) := by decide +kernel
theorem dX6_seldom_65 : decode cX6_seldom 65 = .ok (.iconst 1, 1) := by decide +kernel
theorem dX6_seldom_66 : decode cX6_seldom 66 = .ok (.iaload, 1) := by decide +kernel
theorem dX6_seldom_67 : decode cX6_seldom 67 = .ok (.aload_n 0, 1) := by decide +kernel
theorem dX6_seldom_68 : decode cX6_seldom 68 = .ok (.getfield 27, 3) := by decide +kernel
theorem dX6_seldom_71 : decode cX6_seldom 71 = .ok (.iconst 2, 1) := by decide +kernel
theorem dX6_seldom_72 : decode cX6_seldom 72 = .ok (.iaload, 1) := by decide +kernel
theorem dX6_seldom_73 : decode cX6_seldom 73 = .ok (.iadd, 1) := by decide +kernel
theorem dX6_seldom_74 : decode cX6_seldom 74 = .ok (.goto 19, 3) := by decide +kernel
theorem dX6_seldom_77 : decode cX6_seldom 77 = .ok (.iload 5, 2) := by decide +kernel
theorem dX6_seldom_79 : decode cX6_seldom 79 = .ok (.iconst 1, 1) := by decide +kernel
theorem dX6_seldom_80 : decode cX6_seldom 80 = .ok (.if_icmp .ne 12, 3) := by decide +kernel
theorem dX6_seldom_83 : decode cX6_seldom 83 = .ok (.aload_n 0, 1) := by decide +kernel
theorem dX6_seldom_84 : decode cX6_seldom 84 = .ok (.getfield 27, 3) := by decide +kernel
theorem dX6_seldom_87 : decode cX6_seldom 87 = .ok (.iconst 2, 1) := by decide +kernel
theorem dX6_seldom_88 : decode cX6_seldom 88 = .ok (.iaload, 1) := by decide +kernel
theorem dX6_seldom_89 : decode cX6_seldom 89 = .ok (.goto 4, 3) := by decide +kernel
theorem dX6_seldom_92 : decode cX6_seldom 92 = .ok (.iconst 0, 1) := by decide +kernel
theorem dX6_seldom_93 : decode cX6_seldom 93 = .ok (.istore 7, 2) := by decide +kernel
theorem dX6_seldom_95 : decode cX6_seldom 95 = .ok (.aload_n 0, 1) := by decide +kernel
theorem dX6_seldom_96 : decode cX6_seldom 96 = .ok (.getfield 20, 3) := by decide +kernel
theorem dX6_seldom_99 : decode cX6_seldom 99 = .ok (.iconst 0, 1) := by decide +kernel
theorem dX6_seldom_100 : decode cX6_seldom 100 = .ok (.aload_n 0, 1) := by decide +kernel
theorem dX6_seldom_101 : decode cX6_seldom 101 = .ok (.iload 6, 2) := by decide +kernel
theorem dX6_seldom_103 : decode cX6_seldom 103 = .ok (.aload_n 0, 1) := by decide +kernel
theorem dX6_seldom_104 : decode cX6_seldom 104 = .ok (.iload_n 1, 1) := by decide +kernel
theorem dX6_seldom_105 : decode cX6_seldom 105 = .ok (.iload_n 2, 1) := by decide +kernel
theorem dX6_seldom_106 : decode cX6_seldom 106 = .ok (.iload_n 3, 1) := by decide +kernel
theorem dX6_seldom_107 : decode cX6_seldom 107 = .ok (.iload 4, 2) := by decide +kernel
theorem dX6_seldom_109 : decode cX6_seldom 109 = .ok (.iload 5, 2) := by decide +kernel
theorem dX6_seldom_111 : decode cX6_seldom 111 = .ok (.iconst 1, 1) := by decide +kernel
theorem dX6_seldom_112 : decode cX6_seldom 112 = .ok (.invokevirtual 198, 3) := by decide +kernel
theorem dX6_seldom_115 : decode cX6_seldom 115 = .ok (.iload 7, 2) := by decide +kernel
theorem dX6_seldom_117 : decode cX6_seldom 117 = .ok (.invokevirtual 209, 3) := by decide +kernel
theorem dX6_seldom_120 : decode cX6_seldom 120 = .ok (.lastore, 1) := by decide +kernel
theorem dX6_seldom_121 : decode cX6_seldom 121 = .ok (.aload_n 0, 1) := by decide +kernel
theorem dX6_seldom_122 : decode cX6_seldom 122 = .ok (.getfield 20, 3) := by decide +kernel
theorem dX6_seldom_125 : decode cX6_seldom 125 = .ok (.iconst 1, 1) := by decide +kernel
theorem dX6_seldom_126 : decode cX6_seldom 126 = .ok (.ldc2_w 213, 3) := by decide +kernel
theorem dX6_seldom_129 : decode cX6_seldom 129 = .ok (.iload 6, 2) := by decide +kernel
theorem dX6_seldom_131 : decode cX6_seldom 131 = .ok (.invokestatic 202, 3) := by decide +kernel
theorem dX6_seldom_134 : decode cX6_seldom 134 = .ok (.lastore, 1) := by decide +kernel
theorem dX6_seldom_135 : decode cX6_seldom 135 = .ok (.aload_n 0, 1) := by decide +kernel
theorem dX6_seldom_136 : decode cX6_seldom 136 = .ok (.getfield 7, 3) := by decide +kernel
theorem dX6_seldom_139 : decode cX6_seldom 139 = .ok (.sipush 262, 3) := by decide +kernel
theorem dX6_seldom_142 : decode cX6_seldom 142 = .ok (.dup2, 1) := by decide +kernel
theorem dX6_seldom_143 : decode cX6_seldom 143 = .ok (.iaload, 1) := by decide +kernel
theorem dX6_seldom_144 : decode cX6_seldom 144 = .ok (.aload_n 0, 1) := by decide +kernel
theorem dX6_seldom_145 : decode cX6_seldom 145 = .ok (.getfield 7, 3) := by decide +kernel
theorem dX6_seldom_148 : decode cX6_seldom 148 = .ok (.sipush 262, 3) := by decide +kernel
theorem dX6_seldom_151 : decode cX6_seldom 151 = .ok (.iaload, 1) := by decide +kernel
theorem dX6_seldom_152 : decode cX6_seldom 152 = .ok (.sipush 999, 3) := by decide +kernel
theorem dX6_seldom_155 : decode cX6_seldom 155 = .ok (.if_icmp .ge 7, 3) := by decide +kernel
theorem dX6_seldom_158 : decode cX6_seldom 158 = .ok (.iconst 1, 1) := by decide +kernel
theorem dX6_seldom_159 : decode cX6_seldom 159 = .ok (.goto 4, 3) := by decide +kernel
theorem dX6_seldom_162 : decode cX6_seldom 162 = .ok (.iconst 0, 1) := by decide +kernel
theorem dX6_seldom_163 : decode cX6_seldom 163 = .ok (.iadd, 1) := by decide +kernel
theorem dX6_seldom_164 : decode cX6_seldom 164 = .ok (.iastore, 1) := by decide +kernel
theorem dX6_seldom_165 : decode cX6_seldom 165 = .ok (.aload_n 0, 1) := by decide +kernel
theorem dX6_seldom_166 : decode cX6_seldom 166 = .ok (.getfield 20, 3) := by decide +kernel
theorem dX6_seldom_169 : decode cX6_seldom 169 = .ok (.iconst 0, 1) := by decide +kernel
theorem dX6_seldom_170 : decode cX6_seldom 170 = .ok (.laload, 1) := by decide +kernel
theorem dX6_seldom_171 : decode cX6_seldom 171 = .ok (.lreturn, 1) := by decide +kernel
set_option maxRecDepth 20000 in
theorem ggX6_counted_X6_in : GoodIn wsX6_counted wsX6_in := goodIn_r _ [9] (by decide +kernel) (by decide +kernel)
set_option maxRecDepth 20000 in
theorem gX6_counted_X6_in : GoodIn wsX6_counted (va_wsS RX6 61 yX6_in wsX6_in) := goodIn_app (goodIn_of _ (by decide +kernel)) ggX6_counted_X6_in
theorem dX6_counted_0 : decode cX6_counted 0 = .ok (.aload_n 0, 1) := by decide +kernel
theorem dX6_counted_1 : decode cX6_counted 1 = .ok (.iconst 0, 1) := by decide +kernel
theorem dX6_counted_2 : decode cX6_counted 2 = .ok (.putfield 54, 3) := by decide +kernel
theorem dX6_counted_5 : decode cX6_counted 5 = .ok (.iload_n 1, 1) := by decide +kernel
theorem dX6_counted_6 : decode cX6_counted 6 = .ok (.iconst 0, 1) := by decide +kernel
theorem dX6_counted_7 : decode cX6_counted 7 = .ok (.iconst 2, 1) := by decide +kernel
theorem dX6_counted_8 : decode cX6_counted 8 = .ok (.invokestatic 61, 3) := by decide +kernel
theorem dX6_counted_11 : decode cX6_counted 11 = .ok (.ifCond .ne 7, 3) := by decide +kernel
theorem dX6_counted_14 : decode cX6_counted 14 = .ok (.ldc2_w 205, 3) := by decide +kernel
theorem dX6_counted_17 : decode cX6_counted 17 = .ok (.lreturn, 1) := by decide +kernel
theorem dX6_counted_18 : decode cX6_counted 18 = .ok (.aload_n 0, 1) := by decide +kernel
theorem dX6_counted_19 : decode cX6_counted 19 = .ok (.getfield 7, 3) := by decide +kernel
theorem dX6_counted_22 : decode cX6_counted 22 = .ok (.sipush 262, 3) := by decide +kernel
theorem dX6_counted_25 : decode cX6_counted 25 = .ok (.iaload, 1) := by decide +kernel
theorem dX6_counted_26 : decode cX6_counted 26 = .ok (.ifCond .ne 7, 3) := by decide +kernel
theorem dX6_counted_29 : decode cX6_counted 29 = .ok (.ldc2_w 207, 3) := by decide +kernel
theorem dX6_counted_32 : decode cX6_counted 32 = .ok (.lreturn, 1) := by decide +kernel
theorem dX6_counted_33 : decode cX6_counted 33 = .ok (.aload_n 0, 1) := by decide +kernel
theorem dX6_counted_34 : decode cX6_counted 34 = .ok (.getfield 20, 3) := by decide +kernel
theorem dX6_counted_37 : decode cX6_counted 37 = .ok (.iconst 1, 1) := by decide +kernel
theorem dX6_counted_38 : decode cX6_counted 38 = .ok (.laload, 1) := by decide +kernel
theorem dX6_counted_39 : decode cX6_counted 39 = .ok (.aload_n 0, 1) := by decide +kernel
theorem dX6_counted_40 : decode cX6_counted 40 = .ok (.getfield 7, 3) := by decide +kernel
theorem dX6_counted_43 : decode cX6_counted 43 = .ok (.sipush 262, 3) := by decide +kernel
theorem dX6_counted_46 : decode cX6_counted 46 = .ok (.iaload, 1) := by decide +kernel
theorem dX6_counted_47 : decode cX6_counted 47 = .ok (.i2l, 1) := by decide +kernel
theorem dX6_counted_48 : decode cX6_counted 48 = .ok (.ldiv, 1) := by decide +kernel
theorem dX6_counted_49 : decode cX6_counted 49 = .ok (.lstore_n 2, 1) := by decide +kernel
theorem dX6_counted_50 : decode cX6_counted 50 = .ok (.iload_n 1, 1) := by decide +kernel
theorem dX6_counted_51 : decode cX6_counted 51 = .ok (.iconst 2, 1) := by decide +kernel
theorem dX6_counted_52 : decode cX6_counted 52 = .ok (.if_icmp .ne 15, 3) := by decide +kernel
theorem dX6_counted_55 : decode cX6_counted 55 = .ok (.aload_n 0, 1) := by decide +kernel
theorem dX6_counted_56 : decode cX6_counted 56 = .ok (.getfield 7, 3) := by decide +kernel
theorem dX6_counted_59 : decode cX6_counted 59 = .ok (.sipush 262, 3) := by decide +kernel
theorem dX6_counted_62 : decode cX6_counted 62 = .ok (.iaload, 1) := by decide +kernel
theorem dX6_counted_63 : decode cX6_counted 63 = .ok (.i2l, 1) := by decide +kernel
theorem dX6_counted_64 : decode cX6_counted 64 = .ok (.goto 53, 3) := by decide +kernel
theorem dX6_counted_67 : decode cX6_counted 67 = .ok (.iload_n 1, 1) := by decide +kernel
theorem dX6_counted_68 : decode cX6_counted 68 = .ok (.iconst 1, 1) := by decide +kernel
theorem dX6_counted_69 : decode cX6_counted 69 = .ok (.if_icmp .ne 12, 3) := by decide +kernel
theorem dX6_counted_72 : decode cX6_counted 72 = .ok (.aload_n 0, 1) := by decide +kernel
theorem dX6_counted_73 : decode cX6_counted 73 = .ok (.getfield 20, 3) := by decide +kernel
theorem dX6_counted_76 : decode cX6_counted 76 = .ok (.iconst 1, 1) := by decide +kernel
theorem dX6_counted_77 : decode cX6_counted 77 = .ok (.laload, 1) := by decide +kernel
theorem dX6_counted_78 : decode cX6_counted 78 = .ok (.goto 39, 3) := by decide +kernel
theorem dX6_counted_81 : decode cX6_counted 81 = .ok (.aload_n 0, 1) := by decide +kernel
theorem dX6_counted_82 : decode cX6_counted 82 = .ok (.getfield 20, 3) := by decide +kernel
theorem dX6_counted_85 : decode cX6_counted 85 = .ok (.iconst 0, 1) := by decide +kernel
theorem dX6_counted_86 : decode cX6_counted 86 = .ok (.laload, 1) := by decide +kernel
theorem dX6_counted_87 : decode cX6_counted 87 = .ok (.lload_n 2, 1) := by decide +kernel
theorem dX6_counted_88 : decode cX6_counted 88 = .ok (.lcmp, 1) := by decide +kernel
theorem dX6_counted_89 : decode cX6_counted 89 = .ok (.ifCond .le 12, 3) := by decide +kernel
theorem dX6_counted_92 : decode cX6_counted 92 = .ok (.aload_n 0, 1) := by decide +kernel
theorem dX6_counted_93 : decode cX6_counted 93 = .ok (.getfield 20, 3) := by decide +kernel
theorem dX6_counted_96 : decode cX6_counted 96 = .ok (.iconst 1, 1) := by decide +kernel
theorem dX6_counted_97 : decode cX6_counted 97 = .ok (.laload, 1) := by decide +kernel
theorem dX6_counted_98 : decode cX6_counted 98 = .ok (.goto 19, 3) := by decide +kernel
theorem dX6_counted_101 : decode cX6_counted 101 = .ok (.aload_n 0, 1) := by decide +kernel
theorem dX6_counted_102 : decode cX6_counted 102 = .ok (.getfield 20, 3) := by decide +kernel
theorem dX6_counted_105 : decode cX6_counted 105 = .ok (.iconst 0, 1) := by decide +kernel
theorem dX6_counted_106 : decode cX6_counted 106 = .ok (.laload, 1) := by decide +kernel
theorem dX6_counted_107 : decode cX6_counted 107 = .ok (.aload_n 0, 1) := by decide +kernel
theorem dX6_counted_108 : decode cX6_counted 108 = .ok (.getfield 7, 3) := by decide +kernel
theorem dX6_counted_111 : decode cX6_counted 111 = .ok (.sipush 262, 3) := by decide +kernel
theorem dX6_counted_114 : decode cX6_counted 114 = .ok (.iaload, 1) := by decide +kernel
theorem dX6_counted_115 : decode cX6_counted 115 = .ok (.i2l, 1) := by decide +kernel
theorem dX6_counted_116 : decode cX6_counted 116 = .ok (.lmul, 1) := by decide +kernel
theorem dX6_counted_117 : decode cX6_counted 117 = .ok (.lreturn, 1) := by decide +kernel
set_option maxRecDepth 20000 in
theorem ggX6_made_X6_bag : GoodIn wsX6_made wsX6_bag := goodIn_r _ [6, 1, 32, 33, 34, 35, 36, 37, 38, 39, 40, 41, 42, 43, 44, 45, 46, 47, 48, 49, 50, 51, 52, 53, 54, 55, 56, 57, 58, 59, 60] (by decide +kernel) (by decide +kernel)
set_option maxRecDepth 20000 in
theorem gX6_made_X6_bag : GoodIn wsX6_made (wsV RX6 155 RX6 yX6_bag wsX6_bag) := goodIn_app (goodIn_of _ (by decide +kernel)) ggX6_made_X6_bag
set_option maxRecDepth 20000 in
theorem ggX6_made_X6_stepsOf : GoodIn wsX6_made wsX6_stepsOf := goodIn_r _ [10, 11, 2, 3, 4, 5, 6, 1, 12, 13, 14, 15, 16, 17, 18, 32, 33, 34, 35, 36, 37, 38, 39, 40, 41, 42, 43, 44, 45, 46, 47, 48, 49, 50, 51, 52, 53, 54, 55, 56, 57, 58, 59, 60] (by decide +kernel) (by decide +kernel)
set_option maxRecDepth 20000 in
theorem gX6_made_X6_stepsOf : GoodIn wsX6_made (wsV RX6 191 RX6 yX6_stepsOf wsX6_stepsOf) := goodIn_app (goodIn_of _ (by decide +kernel)) ggX6_made_X6_stepsOf
set_option maxRecDepth 20000 in
theorem ggX6_made_X6_oftenOf : GoodIn wsX6_made wsX6_oftenOf := goodIn_r _ [22, 23, 11, 24, 25, 5, 26, 27, 28, 29, 30, 31, 32, 33, 34, 35, 36, 37, 38, 39, 40, 41, 42, 43, 44, 45, 46, 47, 48, 49, 50, 51, 52, 53, 54, 55, 56, 57, 58, 59, 60] (by decide +kernel) (by decide +kernel)
set_option maxRecDepth 20000 in
theorem gX6_made_X6_oftenOf : GoodIn wsX6_made (wsV RX6 176 RX6 yX6_oftenOf wsX6_oftenOf) := goodIn_app (goodIn_of _ (by decide +kernel)) ggX6_made_X6_oftenOf
theorem dX6_made_0 : decode cX6_made 0 = .ok (.lconst 1, 1) := by decide +kernel
theorem dX6_made_1 : decode cX6_made 1 = .ok (.lstore_n 3, 1) := by decide +kernel
theorem dX6_made_2 : decode cX6_made 2 = .ok (.iconst 0, 1) := by decide +kernel
theorem dX6_made_3 : decode cX6_made 3 = .ok (.istore 5, 2) := by decide +kernel
theorem dX6_made_5 : decode cX6_made 5 = .ok (.iload 5, 2) := by decide +kernel
theorem dX6_made_7 : decode cX6_made 7 = .ok (.aload_n 0, 1) := by decide +kernel
theorem dX6_made_8 : decode cX6_made 8 = .ok (.getfield 7, 3) := by decide +kernel
theorem dX6_made_11 : decode cX6_made 11 = .ok (.iconst 0, 1) := by decide +kernel
theorem dX6_made_12 : decode cX6_made 12 = .ok (.iaload, 1) := by decide +kernel
theorem dX6_made_13 : decode cX6_made 13 = .ok (.if_icmp .ge 47, 3) := by decide +kernel
theorem dX6_made_16 : decode cX6_made 16 = .ok (.lload_n 3, 1) := by decide +kernel
theorem dX6_made_17 : decode cX6_made 17 = .ok (.aload_n 0, 1) := by decide +kernel
theorem dX6_made_18 : decode cX6_made 18 = .ok (.iload 5, 2) := by decide +kernel
theorem dX6_made_20 : decode cX6_made 20 = .ok (.iconst 0, 1) := by decide +kernel
theorem dX6_made_21 : decode cX6_made 21 = .ok (.invokevirtual 155, 3) := by decide +kernel
theorem dX6_made_24 : decode cX6_made 24 = .ok (.iload_n 2, 1) := by decide +kernel
theorem dX6_made_25 : decode cX6_made 25 = .ok (.if_icmp .ne 26, 3) := by decide +kernel
theorem dX6_made_28 : decode cX6_made 28 = .ok (.aload_n 0, 1) := by decide +kernel
theorem dX6_made_29 : decode cX6_made 29 = .ok (.iload_n 1, 1) := by decide +kernel
theorem dX6_made_30 : decode cX6_made 30 = .ok (.iload_n 2, 1) := by decide +kernel
theorem dX6_made_31 : decode cX6_made 31 = .ok (.aload_n 0, 1) := by decide +kernel
theorem dX6_made_32 : decode cX6_made 32 = .ok (.iload 5, 2) := by decide +kernel
theorem dX6_made_34 : decode cX6_made 34 = .ok (.iconst 2, 1) := by decide +kernel
theorem dX6_made_35 : decode cX6_made 35 = .ok (.invokevirtual 155, 3) := by decide +kernel
theorem dX6_made_38 : decode cX6_made 38 = .ok (.aload_n 0, 1) := by decide +kernel
theorem dX6_made_39 : decode cX6_made 39 = .ok (.iload 5, 2) := by decide +kernel
theorem dX6_made_41 : decode cX6_made 41 = .ok (.invokevirtual 191, 3) := by decide +kernel
theorem dX6_made_44 : decode cX6_made 44 = .ok (.invokevirtual 176, 3) := by decide +kernel
theorem dX6_made_47 : decode cX6_made 47 = .ok (.i2l, 1) := by decide +kernel
theorem dX6_made_48 : decode cX6_made 48 = .ok (.goto 4, 3) := by decide +kernel
theorem dX6_made_51 : decode cX6_made 51 = .ok (.lconst 1, 1) := by decide +kernel
theorem dX6_made_52 : decode cX6_made 52 = .ok (.lmul, 1) := by decide +kernel
theorem dX6_made_53 : decode cX6_made 53 = .ok (.lstore_n 3, 1) := by decide +kernel
theorem dX6_made_54 : decode cX6_made 54 = .ok (.iinc 5 1, 3) := by decide +kernel
theorem dX6_made_57 : decode cX6_made 57 = .ok (.goto (-52), 3) := by decide +kernel
theorem dX6_made_60 : decode cX6_made 60 = .ok (.lload_n 3, 1) := by decide +kernel
theorem dX6_made_61 : decode cX6_made 61 = .ok (.lreturn, 1) := by decide +kernel
set_option maxRecDepth 20000 in
theorem ggX6_likely_X6_isWay : GoodIn wsX6_likely wsX6_isWay := goodIn_r _ [9, 10, 11, 12, 8, 13, 66, 67, 68, 69, 70, 71, 72, 73, 74, 75, 76, 77, 78, 79, 80, 81, 82, 83, 84, 85, 86, 87, 88, 89, 90, 91, 92, 93, 94] (by decide +kernel) (by decide +kernel)
set_option maxRecDepth 20000 in
theorem gX6_likely_X6_isWay : GoodIn wsX6_likely (wsV RX6 167 RX6 yX6_isWay wsX6_isWay) := goodIn_app (goodIn_of _ (by decide +kernel)) ggX6_likely_X6_isWay
set_option maxRecDepth 20000 in
theorem ggX6_likely_X6_isStall : GoodIn wsX6_likely wsX6_isStall := goodIn_r _ [17, 18, 11, 12, 8, 13, 66, 67, 68, 69, 70, 71, 72, 73, 74, 75, 76, 77, 78, 79, 80, 81, 82, 83, 84, 85, 86, 87, 88, 89, 90, 91, 92, 93, 94] (by decide +kernel) (by decide +kernel)
set_option maxRecDepth 20000 in
theorem gX6_likely_X6_isStall : GoodIn wsX6_likely (wsV RX6 158 RX6 yX6_isStall wsX6_isStall) := goodIn_app (goodIn_of _ (by decide +kernel)) ggX6_likely_X6_isStall
set_option maxRecDepth 20000 in
theorem ggX6_likely_X6_in : GoodIn wsX6_likely wsX6_in := goodIn_r _ [13] (by decide +kernel) (by decide +kernel)
set_option maxRecDepth 20000 in
theorem gX6_likely_X6_in : GoodIn wsX6_likely (va_wsS RX6 61 yX6_in wsX6_in) := goodIn_app (goodIn_of _ (by decide +kernel)) ggX6_likely_X6_in
set_option maxRecDepth 20000 in
theorem ggX6_likely_X6_bagsOf : GoodIn wsX6_likely wsX6_bagsOf := goodIn_r _ [22, 23, 24, 25, 26, 8, 27, 66, 67, 68, 69, 70, 71, 72, 73, 74, 75, 76, 77, 78, 79, 80, 81, 82, 83, 84, 85, 86, 87, 88, 89, 90, 91, 92, 93, 94] (by decide +kernel) (by decide +kernel)
set_option maxRecDepth 20000 in
theorem gX6_likely_X6_bagsOf : GoodIn wsX6_likely (wsV RX6 161 RX6 yX6_bagsOf wsX6_bagsOf) := goodIn_app (goodIn_of _ (by decide +kernel)) ggX6_likely_X6_bagsOf
set_option maxRecDepth 20000 in
theorem ggX6_likely_X6_made : GoodIn wsX6_likely wsX6_made := goodIn_r _ [31, 23, 24, 25, 26, 8, 27, 32, 33, 34, 35, 36, 37, 38, 39, 40, 41, 42, 43, 44, 45, 46, 47, 48, 11, 12, 13, 49, 50, 51, 52, 53, 66, 67, 68, 69, 70, 71, 72, 73, 74, 75, 76, 77, 78, 79, 80, 81, 82, 83, 84, 85, 86, 87, 88, 89, 90, 91, 92, 93, 94] (by decide +kernel) (by decide +kernel)
set_option maxRecDepth 20000 in
theorem gX6_likely_X6_made : GoodIn wsX6_likely (wsV RX6 215 RX6 yX6_made wsX6_made) := goodIn_app (goodIn_of _ (by decide +kernel)) ggX6_likely_X6_made
set_option maxRecDepth 20000 in
theorem ggX6_likely_X6_power : GoodIn wsX6_likely wsX6_power := goodIn_r _ [56] (by decide +kernel) (by decide +kernel)
set_option maxRecDepth 20000 in
theorem gX6_likely_X6_power : GoodIn wsX6_likely (va_wsS RX6 202 yX6_power wsX6_power) := goodIn_app (goodIn_of _ (by decide +kernel)) ggX6_likely_X6_power
set_option maxRecDepth 20000 in
theorem ggX6_likely_X6_part : GoodIn wsX6_likely wsX6_part := goodIn_r _ [59, 60, 61, 8, 62, 63, 64, 65] (by decide +kernel) (by decide +kernel)
set_option maxRecDepth 20000 in
theorem gX6_likely_X6_part : GoodIn wsX6_likely (va_wsS RX6 221 yX6_part wsX6_part) := goodIn_app (goodIn_of _ (by decide +kernel)) ggX6_likely_X6_part
theorem dX6_likely_0 : decode cX6_likely 0 = .ok (.aload_n 0, 1) := by decide +kernel
theorem dX6_likely_1 : decode cX6_likely 1 = .ok (.iconst 0, 1) := by decide +kernel
theorem dX6_likely_2 : decode cX6_likely 2 = .ok (.putfield 54, 3) := by decide +kernel
theorem dX6_likely_5 : decode cX6_likely 5 = .ok (.aload_n 0, 1) := by decide +kernel
theorem dX6_likely_6 : decode cX6_likely 6 = .ok (.iload_n 1, 1) := by decide +kernel
theorem dX6_likely_7 : decode cX6_likely 7 = .ok (.invokevirtual 167, 3) := by decide +kernel
theorem dX6_likely_10 : decode cX6_likely 10 = .ok (.ifCond .eq 20, 3) := by decide +kernel
theorem dX6_likely_13 : decode cX6_likely 13 = .ok (.aload_n 0, 1) := by decide +kernel
theorem dX6_likely_14 : decode cX6_likely 14 = .ok (.iload_n 2, 1) := by decide +kernel
theorem dX6_likely_15 : decode cX6_likely 15 = .ok (.invokevirtual 158, 3) := by decide +kernel
theorem dX6_likely_18 : decode cX6_likely 18 = .ok (.ifCond .eq 12, 3) := by decide +kernel
theorem dX6_likely_21 : decode cX6_likely 21 = .ok (.iload_n 3, 1) := by decide +kernel
theorem dX6_likely_22 : decode cX6_likely 22 = .ok (.iconst 0, 1) := by decide +kernel
theorem dX6_likely_23 : decode cX6_likely 23 = .ok (.iconst 1, 1) := by decide +kernel
theorem dX6_likely_24 : decode cX6_likely 24 = .ok (.invokestatic 61, 3) := by decide +kernel
theorem dX6_likely_27 : decode cX6_likely 27 = .ok (.ifCond .ne 7, 3) := by decide +kernel
theorem dX6_likely_30 : decode cX6_likely 30 = .ok (.ldc2_w 205, 3) := by decide +kernel
theorem dX6_likely_33 : decode cX6_likely 33 = .ok (.lreturn, 1) := by decide +kernel
theorem dX6_likely_34 : decode cX6_likely 34 = .ok (.aload_n 0, 1) := by decide +kernel
theorem dX6_likely_35 : decode cX6_likely 35 = .ok (.iload_n 2, 1) := by decide +kernel
theorem dX6_likely_36 : decode cX6_likely 36 = .ok (.invokevirtual 161, 3) := by decide +kernel
theorem dX6_likely_39 : decode cX6_likely 39 = .ok (.istore 4, 2) := by decide +kernel
theorem dX6_likely_41 : decode cX6_likely 41 = .ok (.iload 4, 2) := by decide +kernel
theorem dX6_likely_43 : decode cX6_likely 43 = .ok (.bipush 6, 2) := by decide +kernel
theorem dX6_likely_45 : decode cX6_likely 45 = .ok (.if_icmp .le 9, 3) := by decide +kernel
theorem dX6_likely_48 : decode cX6_likely 48 = .ok (.ldc2_w 207, 3) := by decide +kernel
theorem dX6_likely_51 : decode cX6_likely 51 = .ok (.goto 21, 3) := by decide +kernel
theorem dX6_likely_54 : decode cX6_likely 54 = .ok (.aload_n 0, 1) := by decide +kernel
theorem dX6_likely_55 : decode cX6_likely 55 = .ok (.iload_n 1, 1) := by decide +kernel
theorem dX6_likely_56 : decode cX6_likely 56 = .ok (.iload_n 2, 1) := by decide +kernel
theorem dX6_likely_57 : decode cX6_likely 57 = .ok (.invokevirtual 215, 3) := by decide +kernel
theorem dX6_likely_60 : decode cX6_likely 60 = .ok (.ldc2_w 219, 3) := by decide +kernel
theorem dX6_likely_63 : decode cX6_likely 63 = .ok (.iload 4, 2) := by decide +kernel
theorem dX6_likely_65 : decode cX6_likely 65 = .ok (.invokestatic 202, 3) := by decide +kernel
theorem dX6_likely_68 : decode cX6_likely 68 = .ok (.iload_n 3, 1) := by decide +kernel
theorem dX6_likely_69 : decode cX6_likely 69 = .ok (.invokestatic 221, 3) := by decide +kernel
theorem dX6_likely_72 : decode cX6_likely 72 = .ok (.lreturn, 1) := by decide +kernel
set_option maxRecDepth 20000 in
theorem ggX6_belief_X6_isWay : GoodIn wsX6_belief wsX6_isWay := goodIn_r _ [7, 8, 9, 10, 6, 11, 12, 13, 14, 15, 16, 17, 18, 19, 20, 21, 22, 23, 24, 25, 26, 27, 28, 29, 30, 31, 32, 33, 34, 35, 36, 37, 38, 39, 40] (by decide +kernel) (by decide +kernel)
set_option maxRecDepth 20000 in
theorem gX6_belief_X6_isWay : GoodIn wsX6_belief (wsV RX6 167 RX6 yX6_isWay wsX6_isWay) := goodIn_app (goodIn_of _ (by decide +kernel)) ggX6_belief_X6_isWay
set_option maxRecDepth 20000 in
theorem ggX6_belief_X6_in : GoodIn wsX6_belief wsX6_in := goodIn_r _ [11] (by decide +kernel) (by decide +kernel)
set_option maxRecDepth 20000 in
theorem gX6_belief_X6_in : GoodIn wsX6_belief (va_wsS RX6 61 yX6_in wsX6_in) := goodIn_app (goodIn_of _ (by decide +kernel)) ggX6_belief_X6_in
theorem dX6_belief_0 : decode cX6_belief 0 = .ok (.aload_n 0, 1) := by decide +kernel
theorem dX6_belief_1 : decode cX6_belief 1 = .ok (.iconst 0, 1) := by decide +kernel
theorem dX6_belief_2 : decode cX6_belief 2 = .ok (.putfield 54, 3) := by decide +kernel
theorem dX6_belief_5 : decode cX6_belief 5 = .ok (.aload_n 0, 1) := by decide +kernel
theorem dX6_belief_6 : decode cX6_belief 6 = .ok (.iload_n 1, 1) := by decide +kernel
theorem dX6_belief_7 : decode cX6_belief 7 = .ok (.invokevirtual 167, 3) := by decide +kernel
theorem dX6_belief_10 : decode cX6_belief 10 = .ok (.ifCond .eq 13, 3) := by decide +kernel
theorem dX6_belief_13 : decode cX6_belief 13 = .ok (.iload_n 2, 1) := by decide +kernel
theorem dX6_belief_14 : decode cX6_belief 14 = .ok (.iconst 0, 1) := by decide +kernel
theorem dX6_belief_15 : decode cX6_belief 15 = .ok (.bipush 9, 2) := by decide +kernel
theorem dX6_belief_17 : decode cX6_belief 17 = .ok (.invokestatic 61, 3) := by decide +kernel
theorem dX6_belief_20 : decode cX6_belief 20 = .ok (.ifCond .ne 5, 3) := by decide +kernel
theorem dX6_belief_23 : decode cX6_belief 23 = .ok (.iconst (-1), 1) := by decide +kernel
theorem dX6_belief_24 : decode cX6_belief 24 = .ok (.ireturn, 1) := by decide +kernel
theorem dX6_belief_25 : decode cX6_belief 25 = .ok (.aload_n 0, 1) := by decide +kernel
theorem dX6_belief_26 : decode cX6_belief 26 = .ok (.getfield 36, 3) := by decide +kernel
theorem dX6_belief_29 : decode cX6_belief 29 = .ok (.iload_n 1, 1) := by decide +kernel
theorem dX6_belief_30 : decode cX6_belief 30 = .ok (.iaload, 1) := by decide +kernel
theorem dX6_belief_31 : decode cX6_belief 31 = .ok (.istore_n 3, 1) := by decide +kernel
theorem dX6_belief_32 : decode cX6_belief 32 = .ok (.aload_n 0, 1) := by decide +kernel
theorem dX6_belief_33 : decode cX6_belief 33 = .ok (.getfield 36, 3) := by decide +kernel
theorem dX6_belief_36 : decode cX6_belief 36 = .ok (.iload_n 1, 1) := by decide +kernel
theorem dX6_belief_37 : decode cX6_belief 37 = .ok (.iload_n 2, 1) := by decide +kernel
theorem dX6_belief_38 : decode cX6_belief 38 = .ok (.iastore, 1) := by decide +kernel
theorem dX6_belief_39 : decode cX6_belief 39 = .ok (.iload_n 3, 1) := by decide +kernel
theorem dX6_belief_40 : decode cX6_belief 40 = .ok (.ireturn, 1) := by decide +kernel
set_option maxRecDepth 20000 in
theorem ggX6_believedAll_X6_made : GoodIn wsX6_believedAll wsX6_made := goodIn_r _ [7, 8, 9, 10, 11, 6, 12, 13, 14, 15, 16, 17, 18, 19, 20, 21, 22, 23, 24, 25, 26, 27, 28, 29, 30, 31, 32, 33, 34, 35, 36, 37, 38, 39, 40, 41, 42, 43, 44, 45, 46, 47, 48, 49, 50, 51, 52, 53, 54, 55, 56, 57, 58, 59, 60, 61, 62, 63, 64, 65, 66] (by decide +kernel) (by decide +kernel)
set_option maxRecDepth 20000 in
theorem gX6_believedAll_X6_made : GoodIn wsX6_believedAll (wsV RX6 215 RX6 yX6_made wsX6_made) := goodIn_app (goodIn_of _ (by decide +kernel)) ggX6_believedAll_X6_made
theorem dX6_believedAll_0 : decode cX6_believedAll 0 = .ok (.lconst 0, 1) := by decide +kernel
theorem dX6_believedAll_1 : decode cX6_believedAll 1 = .ok (.lstore_n 2, 1) := by decide +kernel
theorem dX6_believedAll_2 : decode cX6_believedAll 2 = .ok (.iconst 0, 1) := by decide +kernel
theorem dX6_believedAll_3 : decode cX6_believedAll 3 = .ok (.istore 4, 2) := by decide +kernel
theorem dX6_believedAll_5 : decode cX6_believedAll 5 = .ok (.iload 4, 2) := by decide +kernel
theorem dX6_believedAll_7 : decode cX6_believedAll 7 = .ok (.aload_n 0, 1) := by decide +kernel
theorem dX6_believedAll_8 : decode cX6_believedAll 8 = .ok (.getfield 65, 3) := by decide +kernel
theorem dX6_believedAll_11 : decode cX6_believedAll 11 = .ok (.if_icmp .ge 28, 3) := by decide +kernel
theorem dX6_believedAll_14 : decode cX6_believedAll 14 = .ok (.lload_n 2, 1) := by decide +kernel
theorem dX6_believedAll_15 : decode cX6_believedAll 15 = .ok (.aload_n 0, 1) := by decide +kernel
theorem dX6_believedAll_16 : decode cX6_believedAll 16 = .ok (.getfield 36, 3) := by decide +kernel
theorem dX6_believedAll_19 : decode cX6_believedAll 19 = .ok (.iload 4, 2) := by decide +kernel
theorem dX6_believedAll_21 : decode cX6_believedAll 21 = .ok (.iaload, 1) := by decide +kernel
theorem dX6_believedAll_22 : decode cX6_believedAll 22 = .ok (.i2l, 1) := by decide +kernel
theorem dX6_believedAll_23 : decode cX6_believedAll 23 = .ok (.aload_n 0, 1) := by decide +kernel
theorem dX6_believedAll_24 : decode cX6_believedAll 24 = .ok (.iload 4, 2) := by decide +kernel
theorem dX6_believedAll_26 : decode cX6_believedAll 26 = .ok (.iload_n 1, 1) := by decide +kernel
theorem dX6_believedAll_27 : decode cX6_believedAll 27 = .ok (.invokevirtual 215, 3) := by decide +kernel
theorem dX6_believedAll_30 : decode cX6_believedAll 30 = .ok (.lmul, 1) := by decide +kernel
theorem dX6_believedAll_31 : decode cX6_believedAll 31 = .ok (.ladd, 1) := by decide +kernel
theorem dX6_believedAll_32 : decode cX6_believedAll 32 = .ok (.lstore_n 2, 1) := by decide +kernel
theorem dX6_believedAll_33 : decode cX6_believedAll 33 = .ok (.iinc 4 1, 3) := by decide +kernel
theorem dX6_believedAll_36 : decode cX6_believedAll 36 = .ok (.goto (-31), 3) := by decide +kernel
theorem dX6_believedAll_39 : decode cX6_believedAll 39 = .ok (.lload_n 2, 1) := by decide +kernel
theorem dX6_believedAll_40 : decode cX6_believedAll 40 = .ok (.lreturn, 1) := by decide +kernel
set_option maxRecDepth 20000 in
theorem ggX6_odds_X6_isWay : GoodIn wsX6_odds wsX6_isWay := goodIn_r _ [9, 10, 11, 12, 8, 13, 67, 68, 69, 70, 71, 72, 73, 74, 75, 76, 77, 78, 79, 80, 81, 82, 83, 84, 85, 86, 87, 88, 89, 90, 91, 92, 93, 94, 95] (by decide +kernel) (by decide +kernel)
set_option maxRecDepth 20000 in
theorem gX6_odds_X6_isWay : GoodIn wsX6_odds (wsV RX6 167 RX6 yX6_isWay wsX6_isWay) := goodIn_app (goodIn_of _ (by decide +kernel)) ggX6_odds_X6_isWay
set_option maxRecDepth 20000 in
theorem ggX6_odds_X6_isStall : GoodIn wsX6_odds wsX6_isStall := goodIn_r _ [17, 18, 11, 12, 8, 13, 67, 68, 69, 70, 71, 72, 73, 74, 75, 76, 77, 78, 79, 80, 81, 82, 83, 84, 85, 86, 87, 88, 89, 90, 91, 92, 93, 94, 95] (by decide +kernel) (by decide +kernel)
set_option maxRecDepth 20000 in
theorem gX6_odds_X6_isStall : GoodIn wsX6_odds (wsV RX6 158 RX6 yX6_isStall wsX6_isStall) := goodIn_app (goodIn_of _ (by decide +kernel)) ggX6_odds_X6_isStall
set_option maxRecDepth 20000 in
theorem ggX6_odds_X6_in : GoodIn wsX6_odds wsX6_in := goodIn_r _ [13] (by decide +kernel) (by decide +kernel)
set_option maxRecDepth 20000 in
theorem gX6_odds_X6_in : GoodIn wsX6_odds (va_wsS RX6 61 yX6_in wsX6_in) := goodIn_app (goodIn_of _ (by decide +kernel)) ggX6_odds_X6_in
set_option maxRecDepth 20000 in
theorem ggX6_odds_X6_bagsOf : GoodIn wsX6_odds wsX6_bagsOf := goodIn_r _ [22, 23, 24, 25, 26, 8, 27, 67, 68, 69, 70, 71, 72, 73, 74, 75, 76, 77, 78, 79, 80, 81, 82, 83, 84, 85, 86, 87, 88, 89, 90, 91, 92, 93, 94, 95] (by decide +kernel) (by decide +kernel)
set_option maxRecDepth 20000 in
theorem gX6_odds_X6_bagsOf : GoodIn wsX6_odds (wsV RX6 161 RX6 yX6_bagsOf wsX6_bagsOf) := goodIn_app (goodIn_of _ (by decide +kernel)) ggX6_odds_X6_bagsOf
set_option maxRecDepth 20000 in
theorem ggX6_odds_X6_believedAll : GoodIn wsX6_odds wsX6_believedAll := goodIn_r _ [31, 10, 4, 32, 33, 34, 8, 35, 23, 24, 25, 26, 27, 36, 37, 38, 39, 40, 41, 42, 43, 44, 45, 46, 47, 48, 49, 50, 51, 52, 11, 12, 13, 53, 54, 55, 56, 57, 67, 68, 69, 70, 71, 72, 73, 74, 75, 76, 77, 78, 79, 80, 81, 82, 83, 84, 85, 86, 87, 88, 89, 90, 91, 92, 93, 94, 95] (by decide +kernel) (by decide +kernel)
set_option maxRecDepth 20000 in
theorem gX6_odds_X6_believedAll : GoodIn wsX6_odds (wsV RX6 225 RX6 yX6_believedAll wsX6_believedAll) := goodIn_app (goodIn_of _ (by decide +kernel)) ggX6_odds_X6_believedAll
set_option maxRecDepth 20000 in
theorem ggX6_odds_X6_made : GoodIn wsX6_odds wsX6_made := goodIn_r _ [35, 23, 24, 25, 26, 8, 27, 36, 37, 38, 39, 40, 41, 42, 43, 44, 45, 46, 47, 48, 49, 50, 51, 52, 11, 12, 13, 53, 54, 55, 56, 57, 67, 68, 69, 70, 71, 72, 73, 74, 75, 76, 77, 78, 79, 80, 81, 82, 83, 84, 85, 86, 87, 88, 89, 90, 91, 92, 93, 94, 95] (by decide +kernel) (by decide +kernel)
set_option maxRecDepth 20000 in
theorem gX6_odds_X6_made : GoodIn wsX6_odds (wsV RX6 215 RX6 yX6_made wsX6_made) := goodIn_app (goodIn_of _ (by decide +kernel)) ggX6_odds_X6_made
set_option maxRecDepth 20000 in
theorem ggX6_odds_X6_part : GoodIn wsX6_odds wsX6_part := goodIn_r _ [60, 61, 62, 8, 63, 64, 65, 66] (by decide +kernel) (by decide +kernel)
set_option maxRecDepth 20000 in
theorem gX6_odds_X6_part : GoodIn wsX6_odds (va_wsS RX6 221 yX6_part wsX6_part) := goodIn_app (goodIn_of _ (by decide +kernel)) ggX6_odds_X6_part
theorem dX6_odds_0 : decode cX6_odds 0 = .ok (.aload_n 0, 1) := by decide +kernel
theorem dX6_odds_1 : decode cX6_odds 1 = .ok (.iconst 0, 1) := by decide +kernel
theorem dX6_odds_2 : decode cX6_odds 2 = .ok (.putfield 54, 3) := by decide +kernel
theorem dX6_odds_5 : decode cX6_odds 5 = .ok (.aload_n 0, 1) := by decide +kernel
theorem dX6_odds_6 : decode cX6_odds 6 = .ok (.iload_n 1, 1) := by decide +kernel
theorem dX6_odds_7 : decode cX6_odds 7 = .ok (.invokevirtual 167, 3) := by decide +kernel
theorem dX6_odds_10 : decode cX6_odds 10 = .ok (.ifCond .eq 20, 3) := by decide +kernel
theorem dX6_odds_13 : decode cX6_odds 13 = .ok (.aload_n 0, 1) := by decide +kernel
theorem dX6_odds_14 : decode cX6_odds 14 = .ok (.iload_n 2, 1) := by decide +kernel
theorem dX6_odds_15 : decode cX6_odds 15 = .ok (.invokevirtual 158, 3) := by decide +kernel
theorem dX6_odds_18 : decode cX6_odds 18 = .ok (.ifCond .eq 12, 3) := by decide +kernel
theorem dX6_odds_21 : decode cX6_odds 21 = .ok (.iload_n 3, 1) := by decide +kernel
theorem dX6_odds_22 : decode cX6_odds 22 = .ok (.iconst 0, 1) := by decide +kernel
theorem dX6_odds_23 : decode cX6_odds 23 = .ok (.iconst 1, 1) := by decide +kernel
theorem dX6_odds_24 : decode cX6_odds 24 = .ok (.invokestatic 61, 3) := by decide +kernel
theorem dX6_odds_27 : decode cX6_odds 27 = .ok (.ifCond .ne 7, 3) := by decide +kernel
theorem dX6_odds_30 : decode cX6_odds 30 = .ok (.ldc2_w 205, 3) := by decide +kernel
theorem dX6_odds_33 : decode cX6_odds 33 = .ok (.lreturn, 1) := by decide +kernel
theorem dX6_odds_34 : decode cX6_odds 34 = .ok (.aload_n 0, 1) := by decide +kernel
theorem dX6_odds_35 : decode cX6_odds 35 = .ok (.iload_n 2, 1) := by decide +kernel
theorem dX6_odds_36 : decode cX6_odds 36 = .ok (.invokevirtual 161, 3) := by decide +kernel
theorem dX6_odds_39 : decode cX6_odds 39 = .ok (.bipush 6, 2) := by decide +kernel
theorem dX6_odds_41 : decode cX6_odds 41 = .ok (.if_icmp .gt 13, 3) := by decide +kernel
theorem dX6_odds_44 : decode cX6_odds 44 = .ok (.aload_n 0, 1) := by decide +kernel
theorem dX6_odds_45 : decode cX6_odds 45 = .ok (.iload_n 2, 1) := by decide +kernel
theorem dX6_odds_46 : decode cX6_odds 46 = .ok (.invokevirtual 225, 3) := by decide +kernel
theorem dX6_odds_49 : decode cX6_odds 49 = .ok (.lconst 0, 1) := by decide +kernel
theorem dX6_odds_50 : decode cX6_odds 50 = .ok (.lcmp, 1) := by decide +kernel
theorem dX6_odds_51 : decode cX6_odds 51 = .ok (.ifCond .ne 7, 3) := by decide +kernel
theorem dX6_odds_54 : decode cX6_odds 54 = .ok (.ldc2_w 207, 3) := by decide +kernel
theorem dX6_odds_57 : decode cX6_odds 57 = .ok (.lreturn, 1) := by decide +kernel
theorem dX6_odds_58 : decode cX6_odds 58 = .ok (.aload_n 0, 1) := by decide +kernel
theorem dX6_odds_59 : decode cX6_odds 59 = .ok (.getfield 36, 3) := by decide +kernel
theorem dX6_odds_62 : decode cX6_odds 62 = .ok (.iload_n 1, 1) := by decide +kernel
theorem dX6_odds_63 : decode cX6_odds 63 = .ok (.iaload, 1) := by decide +kernel
theorem dX6_odds_64 : decode cX6_odds 64 = .ok (.i2l, 1) := by decide +kernel
theorem dX6_odds_65 : decode cX6_odds 65 = .ok (.aload_n 0, 1) := by decide +kernel
theorem dX6_odds_66 : decode cX6_odds 66 = .ok (.iload_n 1, 1) := by decide +kernel
theorem dX6_odds_67 : decode cX6_odds 67 = .ok (.iload_n 2, 1) := by decide +kernel
theorem dX6_odds_68 : decode cX6_odds 68 = .ok (.invokevirtual 215, 3) := by decide +kernel
theorem dX6_odds_71 : decode cX6_odds 71 = .ok (.lmul, 1) := by decide +kernel
theorem dX6_odds_72 : decode cX6_odds 72 = .ok (.aload_n 0, 1) := by decide +kernel
theorem dX6_odds_73 : decode cX6_odds 73 = .ok (.iload_n 2, 1) := by decide +kernel
theorem dX6_odds_74 : decode cX6_odds 74 = .ok (.invokevirtual 225, 3) := by decide +kernel
theorem dX6_odds_77 : decode cX6_odds 77 = .ok (.iload_n 3, 1) := by decide +kernel
theorem dX6_odds_78 : decode cX6_odds 78 = .ok (.invokestatic 221, 3) := by decide +kernel
theorem dX6_odds_81 : decode cX6_odds 81 = .ok (.lreturn, 1) := by decide +kernel
set_option maxRecDepth 20000 in
theorem ggX6_judged_X6_isStall : GoodIn wsX6_judged wsX6_isStall := goodIn_r _ [8, 9, 10, 11, 7, 12, 52, 53, 54, 55, 56, 57, 58, 59, 60, 61, 62, 63, 64, 65, 66, 67, 68, 69, 70, 71, 72, 73, 74, 75, 76, 77, 78, 79, 80] (by decide +kernel) (by decide +kernel)
set_option maxRecDepth 20000 in
theorem gX6_judged_X6_isStall : GoodIn wsX6_judged (wsV RX6 158 RX6 yX6_isStall wsX6_isStall) := goodIn_app (goodIn_of _ (by decide +kernel)) ggX6_judged_X6_isStall
set_option maxRecDepth 20000 in
theorem ggX6_judged_X6_bagsOf : GoodIn wsX6_judged wsX6_bagsOf := goodIn_r _ [16, 17, 18, 19, 20, 7, 21, 52, 53, 54, 55, 56, 57, 58, 59, 60, 61, 62, 63, 64, 65, 66, 67, 68, 69, 70, 71, 72, 73, 74, 75, 76, 77, 78, 79, 80] (by decide +kernel) (by decide +kernel)
set_option maxRecDepth 20000 in
theorem gX6_judged_X6_bagsOf : GoodIn wsX6_judged (wsV RX6 161 RX6 yX6_bagsOf wsX6_bagsOf) := goodIn_app (goodIn_of _ (by decide +kernel)) ggX6_judged_X6_bagsOf
set_option maxRecDepth 20000 in
theorem ggX6_judged_X6_believedAll : GoodIn wsX6_judged wsX6_believedAll := goodIn_r _ [25, 2, 3, 26, 27, 28, 7, 29, 17, 18, 19, 20, 21, 30, 31, 32, 33, 34, 35, 36, 37, 38, 39, 40, 41, 42, 43, 44, 45, 46, 10, 11, 12, 47, 48, 49, 50, 51, 52, 53, 54, 55, 56, 57, 58, 59, 60, 61, 62, 63, 64, 65, 66, 67, 68, 69, 70, 71, 72, 73, 74, 75, 76, 77, 78, 79, 80] (by decide +kernel) (by decide +kernel)
set_option maxRecDepth 20000 in
theorem gX6_judged_X6_believedAll : GoodIn wsX6_judged (wsV RX6 225 RX6 yX6_believedAll wsX6_believedAll) := goodIn_app (goodIn_of _ (by decide +kernel)) ggX6_judged_X6_believedAll
set_option maxRecDepth 20000 in
theorem ggX6_judged_X6_made : GoodIn wsX6_judged wsX6_made := goodIn_r _ [29, 17, 18, 19, 20, 7, 21, 30, 31, 32, 33, 34, 35, 36, 37, 38, 39, 40, 41, 42, 43, 44, 45, 46, 10, 11, 12, 47, 48, 49, 50, 51, 52, 53, 54, 55, 56, 57, 58, 59, 60, 61, 62, 63, 64, 65, 66, 67, 68, 69, 70, 71, 72, 73, 74, 75, 76, 77, 78, 79, 80] (by decide +kernel) (by decide +kernel)
set_option maxRecDepth 20000 in
theorem gX6_judged_X6_made : GoodIn wsX6_judged (wsV RX6 215 RX6 yX6_made wsX6_made) := goodIn_app (goodIn_of _ (by decide +kernel)) ggX6_judged_X6_made
theorem dX6_judged_0 : decode cX6_judged 0 = .ok (.aload_n 0, 1) := by decide +kernel
theorem dX6_judged_1 : decode cX6_judged 1 = .ok (.iconst 0, 1) := by decide +kernel
theorem dX6_judged_2 : decode cX6_judged 2 = .ok (.putfield 54, 3) := by decide +kernel
theorem dX6_judged_5 : decode cX6_judged 5 = .ok (.aload_n 0, 1) := by decide +kernel
theorem dX6_judged_6 : decode cX6_judged 6 = .ok (.iload_n 1, 1) := by decide +kernel
theorem dX6_judged_7 : decode cX6_judged 7 = .ok (.invokevirtual 158, 3) := by decide +kernel
theorem dX6_judged_10 : decode cX6_judged 10 = .ok (.ifCond .ne 5, 3) := by decide +kernel
theorem dX6_judged_13 : decode cX6_judged 13 = .ok (.iconst (-1), 1) := by decide +kernel
theorem dX6_judged_14 : decode cX6_judged 14 = .ok (.ireturn, 1) := by decide +kernel
theorem dX6_judged_15 : decode cX6_judged 15 = .ok (.aload_n 0, 1) := by decide +kernel
theorem dX6_judged_16 : decode cX6_judged 16 = .ok (.iload_n 1, 1) := by decide +kernel
theorem dX6_judged_17 : decode cX6_judged 17 = .ok (.invokevirtual 161, 3) := by decide +kernel
theorem dX6_judged_20 : decode cX6_judged 20 = .ok (.bipush 6, 2) := by decide +kernel
theorem dX6_judged_22 : decode cX6_judged 22 = .ok (.if_icmp .gt 13, 3) := by decide +kernel
theorem dX6_judged_25 : decode cX6_judged 25 = .ok (.aload_n 0, 1) := by decide +kernel
theorem dX6_judged_26 : decode cX6_judged 26 = .ok (.iload_n 1, 1) := by decide +kernel
theorem dX6_judged_27 : decode cX6_judged 27 = .ok (.invokevirtual 225, 3) := by decide +kernel
theorem dX6_judged_30 : decode cX6_judged 30 = .ok (.lconst 0, 1) := by decide +kernel
theorem dX6_judged_31 : decode cX6_judged 31 = .ok (.lcmp, 1) := by decide +kernel
theorem dX6_judged_32 : decode cX6_judged 32 = .ok (.ifCond .ne 6, 3) := by decide +kernel
theorem dX6_judged_35 : decode cX6_judged 35 = .ok (.bipush (-2), 2) := by decide +kernel
theorem dX6_judged_37 : decode cX6_judged 37 = .ok (.ireturn, 1) := by decide +kernel
theorem dX6_judged_38 : decode cX6_judged 38 = .ok (.iconst 0, 1) := by decide +kernel
theorem dX6_judged_39 : decode cX6_judged 39 = .ok (.istore_n 2, 1) := by decide +kernel
theorem dX6_judged_40 : decode cX6_judged 40 = .ok (.iconst 1, 1) := by decide +kernel
theorem dX6_judged_41 : decode cX6_judged 41 = .ok (.istore_n 3, 1) := by decide +kernel
theorem dX6_judged_42 : decode cX6_judged 42 = .ok (.iload_n 3, 1) := by decide +kernel
theorem dX6_judged_43 : decode cX6_judged 43 = .ok (.aload_n 0, 1) := by decide +kernel
theorem dX6_judged_44 : decode cX6_judged 44 = .ok (.getfield 65, 3) := by decide +kernel
theorem dX6_judged_47 : decode cX6_judged 47 = .ok (.if_icmp .ge 47, 3) := by decide +kernel
theorem dX6_judged_50 : decode cX6_judged 50 = .ok (.aload_n 0, 1) := by decide +kernel
theorem dX6_judged_51 : decode cX6_judged 51 = .ok (.getfield 36, 3) := by decide +kernel
theorem dX6_judged_54 : decode cX6_judged 54 = .ok (.iload_n 3, 1) := by decide +kernel
theorem dX6_judged_55 : decode cX6_judged 55 = .ok (.iaload, 1) := by decide +kernel
theorem dX6_judged_56 : decode cX6_judged 56 = .ok (.i2l, 1) := by decide +kernel
theorem dX6_judged_57 : decode cX6_judged 57 = .ok (.aload_n 0, 1) := by decide +kernel
theorem dX6_judged_58 : decode cX6_judged 58 = .ok (.iload_n 3, 1) := by decide +kernel
theorem dX6_judged_59 : decode cX6_judged 59 = .ok (.iload_n 1, 1) := by decide +kernel
theorem dX6_judged_60 : decode cX6_judged 60 = .ok (.invokevirtual 215, 3) := by decide +kernel
theorem dX6_judged_63 : decode cX6_judged 63 = .ok (.lmul, 1) := by decide +kernel
theorem dX6_judged_64 : decode cX6_judged 64 = .ok (.aload_n 0, 1) := by decide +kernel
theorem dX6_judged_65 : decode cX6_judged 65 = .ok (.getfield 36, 3) := by decide +kernel
theorem dX6_judged_68 : decode cX6_judged 68 = .ok (.iload_n 2, 1) := by decide +kernel
theorem dX6_judged_69 : decode cX6_judged 69 = .ok (.iaload, 1) := by decide +kernel
theorem dX6_judged_70 : decode cX6_judged 70 = .ok (.i2l, 1) := by decide +kernel
theorem dX6_judged_71 : decode cX6_judged 71 = .ok (.aload_n 0, 1) := by decide +kernel
theorem dX6_judged_72 : decode cX6_judged 72 = .ok (.iload_n 2, 1) := by decide +kernel
theorem dX6_judged_73 : decode cX6_judged 73 = .ok (.iload_n 1, 1) := by decide +kernel
theorem dX6_judged_74 : decode cX6_judged 74 = .ok (.invokevirtual 215, 3) := by decide +kernel
theorem dX6_judged_77 : decode cX6_judged 77 = .ok (.lmul, 1) := by decide +kernel
theorem dX6_judged_78 : decode cX6_judged 78 = .ok (.lcmp, 1) := by decide +kernel
theorem dX6_judged_79 : decode cX6_judged 79 = .ok (.ifCond .le 7, 3) := by decide +kernel
theorem dX6_judged_82 : decode cX6_judged 82 = .ok (.iload_n 3, 1) := by decide +kernel
theorem dX6_judged_83 : decode cX6_judged 83 = .ok (.goto 4, 3) := by decide +kernel
theorem dX6_judged_86 : decode cX6_judged 86 = .ok (.iload_n 2, 1) := by decide +kernel
theorem dX6_judged_87 : decode cX6_judged 87 = .ok (.istore_n 2, 1) := by decide +kernel
theorem dX6_judged_88 : decode cX6_judged 88 = .ok (.iinc 3 1, 3) := by decide +kernel
theorem dX6_judged_91 : decode cX6_judged 91 = .ok (.goto (-49), 3) := by decide +kernel
theorem dX6_judged_94 : decode cX6_judged 94 = .ok (.iload_n 2, 1) := by decide +kernel
theorem dX6_judged_95 : decode cX6_judged 95 = .ok (.ireturn, 1) := by decide +kernel
set_option maxRecDepth 20000 in
theorem ggX6_apartOf_X6_oftenOf : GoodIn wsX6_apartOf wsX6_oftenOf := goodIn_r _ [5, 6, 7, 8, 9, 4, 10, 11, 12, 13, 14, 15, 19, 20, 21, 22, 23, 24, 25, 26, 27, 28, 29, 30, 31, 32, 33, 34, 35, 36, 37, 38, 39, 40, 41, 42, 43, 44, 45, 46, 47] (by decide +kernel) (by decide +kernel)
set_option maxRecDepth 20000 in
theorem gX6_apartOf_X6_oftenOf : GoodIn wsX6_apartOf (wsV RX6 176 RX6 yX6_oftenOf wsX6_oftenOf) := goodIn_app (goodIn_of _ (by decide +kernel)) ggX6_apartOf_X6_oftenOf
set_option maxRecDepth 20000 in
theorem ggX6_apartOf_X6_size : GoodIn wsX6_apartOf wsX6_size := goodIn_r _ [18] (by decide +kernel) (by decide +kernel)
set_option maxRecDepth 20000 in
theorem gX6_apartOf_X6_size : GoodIn wsX6_apartOf (va_wsS RX6 68 yX6_size wsX6_size) := goodIn_app (goodIn_of _ (by decide +kernel)) ggX6_apartOf_X6_size
