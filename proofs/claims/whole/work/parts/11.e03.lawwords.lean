set_option maxRecDepth 20000 in
theorem ggL_law_X7_sine : GoodIn wsL_law wsX7_sine := goodIn_r _ [728, 115, 624, 625, 5, 626, 627, 628, 629, 630, 631, 632, 633, 1226, 1227, 1228, 1229, 1230, 1231, 1232, 1233, 1234, 1235, 1236, 1237, 1238, 1239, 1240, 1241, 1242, 1243, 1244, 1245, 1246, 1247, 1248, 1249, 1250, 1251, 1252, 1253, 1254] (by decide +kernel) (by decide +kernel)
set_option maxRecDepth 20000 in
theorem gL_law_X7_sine : GoodIn wsL_law (wsV RL 154 RX7 yX7_sine wsX7_sine) := goodIn_app (goodIn_of _ (by decide +kernel)) ggL_law_X7_sine
set_option maxRecDepth 20000 in
theorem ggL_law_L_light : GoodIn wsL_law wsL_light := goodIn_ca (goodIn_r _ [731, 506, 732, 733, 734, 2, 735, 17, 514, 515, 551, 736, 737, 738, 525, 672, 673, 674, 511, 512, 739, 575, 576, 740, 631, 632, 633, 1217, 1218, 1219, 1220, 1221, 1222, 1223, 1224, 1225, 1255, 1256, 1257, 1258, 1259, 1260, 1261, 1262] (by decide +kernel) (by decide +kernel)) (goodIn_sub (fun _ h => List.mem_append_left _ (List.mem_append_right _ h)) (by decide +kernel))
set_option maxRecDepth 20000 in
theorem gL_law_L_light : GoodIn wsL_law (va_wsS RL 155 yL_light wsL_light) := goodIn_app (goodIn_of _ (by decide +kernel)) ggL_law_L_light
set_option maxRecDepth 20000 in
theorem ggL_law_X7_light : GoodIn wsL_law wsX7_light := goodIn_r _ [744, 115, 745, 746, 5, 747, 459, 390, 391, 392, 640, 641, 642, 643, 76, 627, 630, 631, 632, 633, 1226, 1227, 1228, 1229, 1230, 1231, 1232, 1233, 1234, 1235, 1236, 1237, 1238, 1239, 1240, 1241, 1242, 1243, 1244, 1245, 1246, 1247, 1248, 1249, 1250, 1251, 1252, 1253, 1254] (by decide +kernel) (by decide +kernel)
set_option maxRecDepth 20000 in
theorem gL_law_X7_light : GoodIn wsL_law (wsV RL 157 RX7 yX7_light wsX7_light) := goodIn_app (goodIn_of _ (by decide +kernel)) ggL_law_X7_light
set_option maxRecDepth 20000 in
theorem ggL_law_L_place : GoodIn wsL_law wsL_place := goodIn_ca (goodIn_ca (goodIn_r _ [750, 661, 506, 751, 752, 753, 2, 754, 39, 755, 756, 757, 758, 759, 760, 761, 762, 17, 666, 667, 668, 669, 670, 671, 127, 736, 737, 738, 525, 672, 673, 674, 511, 512, 527, 528, 529, 38, 530, 531, 532, 533, 534, 535, 536, 537, 538, 539, 540, 541, 542, 543, 544, 545, 301, 302, 16, 303, 47, 546, 547, 548, 549, 550, 551, 552, 553, 554, 763, 560, 561, 562, 563, 564, 565, 566, 567, 568, 569, 570, 571, 572, 573, 574, 575, 576, 1217, 1218, 1219, 1220, 1221, 1222, 1223, 1224, 1225, 1286, 1287, 1288, 1289, 1290, 1291, 1292, 1293, 1294, 1295, 1296, 1297, 1298, 1299, 1300, 1255, 1256, 1257, 1258, 1259, 1260, 1261, 1262] (by decide +kernel) (by decide +kernel)) (goodIn_sub (fun _ h => List.mem_append_right _ h) (by decide +kernel))) (goodIn_sub (fun _ h => List.mem_append_left _ (List.mem_append_right _ h)) (by decide +kernel))
set_option maxRecDepth 20000 in
theorem gL_law_L_place : GoodIn wsL_law (va_wsS RL 158 yL_place wsL_place) := goodIn_app (goodIn_of _ (by decide +kernel)) ggL_law_L_place
set_option maxRecDepth 20000 in
theorem ggL_law_X7_place : GoodIn wsL_law wsX7_place := goodIn_r _ [767, 115, 620, 621, 622, 623, 689, 690, 691, 5, 692, 76, 390, 391, 392, 768, 769, 770, 771, 745, 746, 747, 459, 612, 613, 614, 615, 616, 617, 618, 619, 436, 437, 438, 439, 624, 625, 626, 627, 628, 629, 630, 631, 632, 633, 634, 635, 636, 637, 638, 639, 640, 641, 642, 643, 1226, 1227, 1228, 1229, 1230, 1231, 1232, 1233, 1234, 1235, 1236, 1237, 1238, 1239, 1240, 1241, 1242, 1243, 1244, 1245, 1246, 1247, 1248, 1249, 1250, 1251, 1252, 1253, 1254] (by decide +kernel) (by decide +kernel)
set_option maxRecDepth 20000 in
theorem gL_law_X7_place : GoodIn wsL_law (wsV RL 161 RX7 yX7_place wsX7_place) := goodIn_app (goodIn_of _ (by decide +kernel)) ggL_law_X7_place
set_option maxRecDepth 20000 in
theorem ggL_law_L_far : GoodIn wsL_law wsL_far := goodIn_ca (goodIn_ca (goodIn_r _ [774, 661, 506, 775, 776, 777, 2, 778, 39, 755, 756, 759, 760, 761, 762, 17, 666, 667, 668, 669, 670, 671, 127, 736, 737, 738, 525, 672, 673, 674, 511, 512, 527, 528, 529, 38, 530, 531, 532, 533, 534, 535, 536, 537, 538, 539, 540, 541, 542, 543, 544, 545, 301, 302, 16, 303, 47, 546, 547, 548, 549, 550, 551, 552, 553, 554, 763, 560, 561, 562, 563, 564, 565, 566, 567, 568, 569, 570, 571, 572, 573, 574, 575, 576, 1217, 1218, 1219, 1220, 1221, 1222, 1223, 1224, 1225, 1286, 1287, 1288, 1289, 1290, 1291, 1292, 1293, 1294, 1295, 1296, 1297, 1298, 1299, 1300, 1255, 1256, 1257, 1258, 1259, 1260, 1261, 1262] (by decide +kernel) (by decide +kernel)) (goodIn_sub (fun _ h => List.mem_append_right _ h) (by decide +kernel))) (goodIn_sub (fun _ h => List.mem_append_left _ (List.mem_append_right _ h)) (by decide +kernel))
set_option maxRecDepth 20000 in
theorem gL_law_L_far : GoodIn wsL_law (va_wsS RL 162 yL_far wsL_far) := goodIn_app (goodIn_of _ (by decide +kernel)) ggL_law_L_far
