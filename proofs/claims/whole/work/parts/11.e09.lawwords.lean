set_option maxRecDepth 20000 in
theorem ggL_law_X7_see : GoodIn wsL_law wsX7_see := goodIn_r _ [1068, 459, 115, 76, 689, 690, 691, 5, 692, 390, 391, 392, 464, 465, 466, 467, 468, 469, 470, 471, 476, 477, 478, 479, 480, 78, 370, 371, 372, 1226, 1227, 1228, 1229, 1230, 1231, 1232, 1233, 1234, 1235, 1236, 1237, 1238, 1239, 1240, 1241, 1242, 1243, 1244, 1245, 1246, 1247, 1248, 1249, 1250, 1251, 1252, 1253, 1254] (by decide +kernel) (by decide +kernel)
set_option maxRecDepth 20000 in
theorem gL_law_X7_see : GoodIn wsL_law (wsV RL 212 RX7 yX7_see wsX7_see) := goodIn_app (goodIn_of _ (by decide +kernel)) ggL_law_X7_see
set_option maxRecDepth 20000 in
theorem ggL_law_L_forget : GoodIn wsL_law wsL_forget := goodIn_ca (goodIn_r _ [1071, 661, 1072, 1073, 1074, 2, 1075, 18, 17, 485, 708, 709, 710, 711, 670, 671, 353, 354, 355, 16, 356, 44, 142, 143, 144, 145, 45, 47, 48, 357, 358, 359, 1076, 1077, 1078, 1079, 328, 329, 330, 331, 336, 337, 338, 339, 340, 341, 342, 343, 22, 344, 345, 346, 21, 347, 53, 348, 349, 350, 236, 237, 238, 351, 352, 14, 15, 41, 42, 43, 12, 13, 6, 46, 1217, 1218, 1219, 1220, 1221, 1222, 1223, 1224, 1225, 1255, 1256, 1257, 1258, 1259, 1260, 1261, 1262, 1263, 1264, 1265] (by decide +kernel) (by decide +kernel)) (goodIn_sub (fun _ h => List.mem_append_right _ h) (by decide +kernel))
set_option maxRecDepth 20000 in
theorem gL_law_L_forget : GoodIn wsL_law (va_wsS RL 213 yL_forget wsL_forget) := goodIn_app (goodIn_of _ (by decide +kernel)) ggL_law_L_forget
set_option maxRecDepth 20000 in
theorem ggL_law_X7_forget : GoodIn wsL_law wsX7_forget := goodIn_r _ [1083, 115, 76, 716, 717, 718, 5, 719, 390, 391, 392, 476, 477, 478, 479, 480, 78, 370, 371, 372, 1226, 1227, 1228, 1229, 1230, 1231, 1232, 1233, 1234, 1235, 1236, 1237, 1238, 1239, 1240, 1241, 1242, 1243, 1244, 1245, 1246, 1247, 1248, 1249, 1250, 1251, 1252, 1253, 1254] (by decide +kernel) (by decide +kernel)
set_option maxRecDepth 20000 in
theorem gL_law_X7_forget : GoodIn wsL_law (wsV RL 215 RX7 yX7_forget wsX7_forget) := goodIn_app (goodIn_of _ (by decide +kernel)) ggL_law_X7_forget
set_option maxRecDepth 20000 in
theorem ggL_law_L_setMoon : GoodIn wsL_law wsL_setMoon := goodIn_ca (goodIn_ca (goodIn_r _ [1086, 661, 506, 1087, 1088, 1089, 2, 1090, 18, 17, 666, 667, 668, 669, 670, 671, 127, 672, 673, 674, 511, 512, 1091, 286, 287, 288, 1092, 289, 290, 291, 353, 354, 355, 16, 356, 44, 142, 143, 144, 145, 45, 47, 48, 357, 358, 359, 1093, 293, 294, 295, 1094, 297, 298, 299, 300, 301, 302, 303, 679, 340, 341, 342, 343, 22, 344, 345, 346, 21, 347, 53, 348, 349, 350, 236, 237, 238, 351, 352, 14, 15, 41, 42, 43, 12, 13, 6, 46, 1217, 1218, 1219, 1220, 1221, 1222, 1223, 1224, 1225, 1255, 1256, 1257, 1258, 1259, 1260, 1261, 1262, 1263, 1264, 1265] (by decide +kernel) (by decide +kernel)) (goodIn_sub (fun _ h => List.mem_append_right _ h) (by decide +kernel))) (goodIn_sub (fun _ h => List.mem_append_left _ (List.mem_append_right _ h)) (by decide +kernel))
set_option maxRecDepth 20000 in
theorem gL_law_L_setMoon : GoodIn wsL_law (va_wsS RL 216 yL_setMoon wsL_setMoon) := goodIn_app (goodIn_of _ (by decide +kernel)) ggL_law_L_setMoon
set_option maxRecDepth 20000 in
theorem ggL_law_X7_setMoon : GoodIn wsL_law wsX7_setMoon := goodIn_r _ [1098, 115, 76, 689, 690, 691, 5, 692, 390, 391, 392, 444, 445, 446, 447, 448, 449, 450, 436, 437, 438, 439, 440, 441, 442, 443, 451, 452, 453, 454, 476, 477, 478, 479, 480, 78, 370, 371, 372, 1226, 1227, 1228, 1229, 1230, 1231, 1232, 1233, 1234, 1235, 1236, 1237, 1238, 1239, 1240, 1241, 1242, 1243, 1244, 1245, 1246, 1247, 1248, 1249, 1250, 1251, 1252, 1253, 1254] (by decide +kernel) (by decide +kernel)
set_option maxRecDepth 20000 in
theorem gL_law_X7_setMoon : GoodIn wsL_law (wsV RL 218 RX7 yX7_setMoon wsX7_setMoon) := goodIn_app (goodIn_of _ (by decide +kernel)) ggL_law_X7_setMoon
set_option maxRecDepth 20000 in
theorem ggL_law_L_setLight : GoodIn wsL_law wsL_setLight := goodIn_ca (goodIn_r _ [1101, 506, 1102, 1103, 1104, 2, 1105, 17, 514, 18, 515, 672, 673, 674, 511, 512, 353, 354, 355, 16, 356, 44, 142, 143, 144, 145, 45, 47, 48, 357, 358, 359, 340, 341, 342, 343, 22, 344, 345, 346, 21, 347, 53, 348, 349, 350, 236, 237, 238, 351, 352, 14, 15, 41, 42, 43, 12, 13, 6, 46, 1217, 1218, 1219, 1220, 1221, 1222, 1223, 1224, 1225, 1255, 1256, 1257, 1258, 1259, 1260, 1261, 1262, 1263, 1264, 1265] (by decide +kernel) (by decide +kernel)) (goodIn_sub (fun _ h => List.mem_append_left _ (List.mem_append_right _ h)) (by decide +kernel))
set_option maxRecDepth 20000 in
theorem gL_law_L_setLight : GoodIn wsL_law (va_wsS RL 219 yL_setLight wsL_setLight) := goodIn_app (goodIn_of _ (by decide +kernel)) ggL_law_L_setLight
