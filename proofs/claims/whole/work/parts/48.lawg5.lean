set_option maxRecDepth 100000 in
set_option maxHeartbeats 4000000 in
theorem gT_X6_drift : GoodIn lw_tbl (wsV RL 141 RX6 yX6_drift wsX6_drift) := goodIn_r _ [1232, 1233, 1234, 78, 1235, 872, 1083, 874, 1032, 1034, 51, 78, 1035, 888, 964, 965, 966, 1228, 1230, 70, 1231, 1134, 1135, 1136, 1137, 1138, 1139, 1140, 1141, 1142, 901, 903, 905, 907, 909, 911, 913, 915, 917, 919, 921, 923, 925, 927, 929, 931, 933, 935, 937, 939, 941, 943, 945, 947, 949, 951, 953, 955, 957] (rfl) (by decide +kernel)
set_option maxRecDepth 100000 in
set_option maxHeartbeats 4000000 in
theorem gT_X5_lot : GoodIn lw_tbl (wsV RL 142 RX5 yX5_lot wsX5_lot) := goodIn_r _ [788, 789, 790, 72, 791, 314, 225, 324, 326, 328, 330, 332, 334, 336, 338, 340, 342, 344, 346, 348, 350, 352, 354, 227, 229, 231, 233, 235, 237, 239, 241, 243, 245, 247, 249, 251, 253, 255] (rfl) (by decide +kernel)
set_option maxRecDepth 100000 in
set_option maxHeartbeats 4000000 in
theorem gT_X6_lot : GoodIn lw_tbl (wsV RL 145 RX6 yX6_lot wsX6_lot) := goodIn_r _ [1236, 1237, 1238, 78, 1239, 872, 874, 901, 903, 905, 907, 909, 911, 913, 915, 917, 919, 921, 923, 925, 927, 929, 931, 933, 935, 937, 939, 941, 943, 945, 947, 949, 951, 953, 955, 957] (rfl) (by decide +kernel)
set_option maxRecDepth 100000 in
set_option maxHeartbeats 4000000 in
theorem gT_X5_sales : GoodIn lw_tbl (wsV RL 146 RX5 yX5_sales wsX5_sales) := goodIn_r _ [792, 793, 794, 72, 795, 322, 534, 536, 17, 72, 537, 311, 122, 514, 516, 15, 517, 113, 542, 543, 544, 361, 362, 363, 796, 798, 32, 799, 320, 321, 545, 546, 547, 73, 548, 123, 549, 551, 18, 552, 114, 125, 553, 555, 19, 556, 102, 105, 108, 557, 559, 20, 560, 127, 129, 561, 563, 21, 564, 800, 802, 33, 803, 314, 225, 804, 324, 326, 328, 330, 332, 334, 336, 338, 340, 342, 344, 346, 348, 350, 352, 354, 131, 133, 135, 137, 139, 141, 143, 145, 147, 149, 151, 153, 227, 229, 231, 233, 235, 237, 239, 241, 243, 245, 247, 249, 251, 253, 255] (rfl) (by decide +kernel)
set_option maxRecDepth 100000 in
set_option maxHeartbeats 4000000 in
theorem gT_X6_sales : GoodIn lw_tbl (wsV RL 149 RX6 yX6_sales wsX6_sales) := goodIn_r _ [1240, 1241, 1242, 78, 1243, 872, 900, 874, 1244, 1245, 1052, 1054, 55, 78, 1055, 889, 964, 965, 966, 1032, 1034, 51, 1035, 888, 1060, 1061, 1062, 1063, 1065, 56, 1066, 887, 886, 1067, 1069, 57, 1070, 885, 901, 903, 905, 907, 909, 911, 913, 915, 917, 919, 921, 923, 925, 927, 929, 931, 933, 935, 937, 939, 941, 943, 945, 947, 949, 951, 953, 955, 957] (rfl) (by decide +kernel)
set_option maxRecDepth 100000 in
set_option maxHeartbeats 4000000 in
theorem gT_X5_steps : GoodIn lw_tbl (wsV RL 150 RX5 yX5_steps wsX5_steps) := goodIn_r _ [805, 806, 807, 72, 808, 322, 324, 326, 328, 330, 332, 334, 336, 338, 340, 342, 344, 346, 348, 350, 352, 354] (rfl) (by decide +kernel)
set_option maxRecDepth 100000 in
set_option maxHeartbeats 4000000 in
theorem gT_X6_steps : GoodIn lw_tbl (wsV RL 153 RX6 yX6_steps wsX6_steps) := goodIn_r _ [1246, 1247, 1248, 78, 1249, 872, 900, 901, 903, 905, 907, 909, 911, 913, 915, 917, 919, 921, 923, 925, 927, 929, 931, 933, 935, 937, 939, 941, 943, 945, 947, 949, 951, 953, 955, 957] (rfl) (by decide +kernel)
set_option maxRecDepth 100000 in
set_option maxHeartbeats 4000000 in
theorem gT_X5_score : GoodIn lw_tbl (wsV RL 154 RX5 yX5_score wsX5_score) := goodIn_r _ [809, 810, 811, 72, 812, 584, 580, 582, 22, 72, 583, 314, 198, 813, 815, 34, 816, 323, 208, 817, 819, 35, 820, 616, 821, 822, 824, 36, 825, 735, 311, 115, 200, 826, 828, 37, 829, 830, 831, 833, 38, 834, 835, 204, 836, 838, 39, 839, 840, 210, 841, 843, 40, 844, 845, 202, 324, 326, 328, 330, 332, 334, 336, 338, 340, 342, 344, 346, 348, 350, 352, 354, 227, 229, 231, 233, 235, 237, 239, 241, 243, 245, 247, 249, 251, 253, 255, 131, 133, 135, 137, 139, 141, 143, 145, 147, 149, 151, 153] (rfl) (by decide +kernel)
set_option maxRecDepth 100000 in
set_option maxHeartbeats 4000000 in
theorem gT_X6_score : GoodIn lw_tbl (wsV RL 157 RX6 yX6_score wsX6_score) := goodIn_r _ [1250, 1251, 1252, 78, 1253, 872, 1083, 873, 1254, 998, 1255, 1256, 1257, 1258, 886, 964, 965, 78, 966, 1079, 1081, 58, 1082, 874, 1084, 1086, 59, 1087, 1040, 1042, 53, 1043, 1088, 1090, 60, 1091, 1092, 1093, 1094, 901, 903, 905, 907, 909, 911, 913, 915, 917, 919, 921, 923, 925, 927, 929, 931, 933, 935, 937, 939, 941, 943, 945, 947, 949, 951, 953, 955, 957] (rfl) (by decide +kernel)
set_option maxRecDepth 100000 in
set_option maxHeartbeats 4000000 in
theorem gT_X5_keep : GoodIn lw_tbl (wsV RL 158 RX5 yX5_keep wsX5_keep) := goodIn_r _ [846, 847, 848, 72, 849, 315, 314, 316, 198, 361, 362, 72, 363, 850, 851, 852, 75, 853, 197, 199, 201, 203, 205, 207, 209, 211, 213, 215, 217, 219, 221, 223, 226, 324, 326, 328, 330, 332, 334, 336, 338, 340, 342, 344, 346, 348, 350, 352, 354, 227, 229, 231, 233, 235, 237, 239, 241, 243, 245, 247, 249, 251, 253, 255] (rfl) (by decide +kernel)
set_option maxRecDepth 100000 in
set_option maxHeartbeats 4000000 in
theorem gT_X6_keep : GoodIn lw_tbl (wsV RL 161 RX6 yX6_keep wsX6_keep) := goodIn_r _ [1259, 1260, 1261, 78, 1262, 872, 875, 874, 877, 876, 964, 965, 78, 966, 901, 903, 905, 907, 909, 911, 913, 915, 917, 919, 921, 923, 925, 927, 929, 931, 933, 935, 937, 939, 941, 943, 945, 947, 949, 951, 953, 955, 957] (rfl) (by decide +kernel)
set_option maxRecDepth 100000 in
set_option maxHeartbeats 4000000 in
theorem gT_X5_back : GoodIn lw_tbl (wsV RL 162 RX5 yX5_back wsX5_back) := goodIn_r _ [854, 855, 856, 72, 857, 316, 314, 315, 198, 361, 362, 72, 363, 850, 851, 852, 75, 853, 197, 199, 201, 203, 205, 207, 209, 211, 213, 215, 217, 219, 221, 223, 226, 324, 326, 328, 330, 332, 334, 336, 338, 340, 342, 344, 346, 348, 350, 352, 354, 227, 229, 231, 233, 235, 237, 239, 241, 243, 245, 247, 249, 251, 253, 255] (rfl) (by decide +kernel)
set_option maxRecDepth 100000 in
set_option maxHeartbeats 4000000 in
theorem gT_X6_back : GoodIn lw_tbl (wsV RL 165 RX6 yX6_back wsX6_back) := goodIn_r _ [1263, 1264, 1265, 78, 1266, 872, 876, 874, 875, 877, 964, 965, 78, 966, 901, 903, 905, 907, 909, 911, 913, 915, 917, 919, 921, 923, 925, 927, 929, 931, 933, 935, 937, 939, 941, 943, 945, 947, 949, 951, 953, 955, 957] (rfl) (by decide +kernel)
set_option maxRecDepth 100000 in
set_option maxHeartbeats 4000000 in
theorem gT_X5_count : GoodIn lw_tbl (wsV RL 166 RX5 yX5_count wsX5_count) := goodIn_r _ [858, 859, 860, 72, 861, 311, 113, 122, 314, 198, 212, 309, 104, 107, 110, 324, 326, 328, 330, 332, 334, 336, 338, 340, 342, 344, 346, 348, 350, 352, 354, 131, 133, 135, 137, 139, 141, 143, 145, 147, 149, 151, 153, 227, 229, 231, 233, 235, 237, 239, 241, 243, 245, 247, 249, 251, 253, 255] (rfl) (by decide +kernel)
set_option maxRecDepth 100000 in
set_option maxHeartbeats 4000000 in
theorem gT_X6_count : GoodIn lw_tbl (wsV RL 169 RX6 yX6_count wsX6_count) := goodIn_r _ [1267, 1268, 1269, 78, 1270, 872, 888, 889, 874, 879, 885, 964, 965, 78, 966, 901, 903, 905, 907, 909, 911, 913, 915, 917, 919, 921, 923, 925, 927, 929, 931, 933, 935, 937, 939, 941, 943, 945, 947, 949, 951, 953, 955, 957] (rfl) (by decide +kernel)
set_option maxRecDepth 100000 in
set_option maxHeartbeats 4000000 in
theorem gT_X5_trace : GoodIn lw_tbl (wsV RL 170 RX5 yX5_trace wsX5_trace) := goodIn_r _ [862, 863, 864, 72, 865, 323, 324, 326, 328, 330, 332, 334, 336, 338, 340, 342, 344, 346, 348, 350, 352, 354] (rfl) (by decide +kernel)
set_option maxRecDepth 100000 in
set_option maxHeartbeats 4000000 in
theorem gT_X6_trace : GoodIn lw_tbl (wsV RL 174 RX6 yX6_trace wsX6_trace) := goodIn_r _ [1271, 1272, 1273, 78, 1274, 872, 873, 901, 903, 905, 907, 909, 911, 913, 915, 917, 919, 921, 923, 925, 927, 929, 931, 933, 935, 937, 939, 941, 943, 945, 947, 949, 951, 953, 955, 957] (rfl) (by decide +kernel)
set_option maxRecDepth 100000 in
set_option maxHeartbeats 4000000 in
theorem gT_fX0 : GoodIn lw_tbl (wsX00) := goodIn_r _ [227, 229, 231, 233, 235, 237, 239, 241, 243, 245, 247, 249, 251, 253, 255] (rfl) (by decide +kernel)
set_option maxRecDepth 100000 in
set_option maxHeartbeats 4000000 in
theorem gT_fX1 : GoodIn lw_tbl (wsX10) := goodIn_r _ [266] (rfl) (by decide +kernel)
set_option maxRecDepth 100000 in
set_option maxHeartbeats 4000000 in
theorem gT_fX2 : GoodIn lw_tbl (wsX20) := goodIn_r _ [131, 133, 135, 137, 139, 141, 143, 145, 147, 149, 151, 153] (rfl) (by decide +kernel)
set_option maxRecDepth 100000 in
set_option maxHeartbeats 4000000 in
theorem gT_fX3 : GoodIn lw_tbl (wsX30) := goodIn_r _ [172, 174, 176, 178, 180, 182, 184, 186, 188] (rfl) (by decide +kernel)
set_option maxRecDepth 100000 in
set_option maxHeartbeats 4000000 in
theorem gT_fX4 : GoodIn lw_tbl (wsX40) := goodIn_r _ [301, 303, 305] (rfl) (by decide +kernel)
set_option maxRecDepth 100000 in
set_option maxHeartbeats 4000000 in
theorem gT_fX5 : GoodIn lw_tbl (wsX50) := goodIn_r _ [324, 326, 328, 330, 332, 334, 336, 338, 340, 342, 344, 346, 348, 350, 352, 354] (rfl) (by decide +kernel)
set_option maxRecDepth 100000 in
set_option maxHeartbeats 4000000 in
theorem gT_fX6 : GoodIn lw_tbl (wsX60) := goodIn_r _ [901, 903, 905, 907, 909, 911, 913, 915, 917, 919, 921, 923, 925, 927, 929, 931, 933, 935, 937, 939, 941, 943, 945, 947, 949, 951, 953, 955, 957] (rfl) (by decide +kernel)
