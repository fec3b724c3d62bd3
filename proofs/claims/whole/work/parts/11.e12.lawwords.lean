set_option maxRecDepth 20000 in
theorem ggL_law_X7_writtenByte : GoodIn wsL_law wsX7_writtenByte := goodIn_r _ [1216, 965, 115, 85, 390, 391, 5, 392, 1226, 1227, 1228, 1229, 1230, 1231, 1232, 1233, 1234, 1235, 1236, 1237, 1238, 1239, 1240, 1241, 1242, 1243, 1244, 1245, 1246, 1247, 1248, 1249, 1250, 1251, 1252, 1253, 1254] (by decide +kernel) (by decide +kernel)
set_option maxRecDepth 20000 in
theorem gL_law_X7_writtenByte : GoodIn wsL_law (wsV RL 241 RX7 yX7_writtenByte wsX7_writtenByte) := goodIn_app (goodIn_of _ (by decide +kernel)) ggL_law_X7_writtenByte
