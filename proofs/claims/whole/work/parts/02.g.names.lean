theorem dX7_load_132 : decode cX7_load 132 = .ok (.getfield 97, 3) := by decide +kernel
theorem dX7_load_135 : decode cX7_load 135 = .ok (.ireturn, 1) := by decide +kernel
set_option maxRecDepth 20000 in
theorem ggX7_read_X7_starts : GoodIn wsX7_read wsX7_starts := goodIn_r _ [7, 8, 9, 2, 10, 1, 11, 12, 6, 13, 14, 15, 16, 17, 18, 19, 20, 21, 22, 23, 24, 25, 26, 27, 28, 29, 30, 31, 32, 33, 34, 35, 36, 37, 38, 39, 40, 41, 42, 153, 154, 155, 156, 157, 158, 159, 160, 161, 162, 163, 164, 165, 166, 167, 168, 169, 170, 171, 172, 173, 174, 175, 176, 177, 178, 179, 180, 181] (by decide +kernel) (by decide +kernel)
set_option maxRecDepth 20000 in
theorem gX7_read_X7_starts : GoodIn wsX7_read (wsV RX7 179 RX7 yX7_starts wsX7_starts) := goodIn_app (goodIn_of _ (by decide +kernel)) ggX7_read_X7_starts
set_option maxRecDepth 20000 in
theorem ggX7_read_X7_isWord : GoodIn wsX7_read wsX7_isWord := goodIn_r _ [46, 2, 21, 9, 18, 31, 47, 48, 49, 50, 51, 52, 53, 54, 55, 56, 57, 58, 59, 60, 61, 62, 63, 64, 65, 66, 67, 68, 69, 70, 71, 72, 73, 74, 75, 76, 77, 78, 79, 80, 81, 82, 83, 84, 85, 86, 87, 88, 89, 90, 91, 92, 93, 94, 95, 153, 154, 155, 156, 157, 158, 159, 160, 161, 162, 163, 164, 165, 166, 167, 168, 169, 170, 171, 172, 173, 174, 175, 176, 177, 178, 179, 180, 181] (by decide +kernel) (by decide +kernel)
set_option maxRecDepth 20000 in
theorem gX7_read_X7_isWord : GoodIn wsX7_read (wsV RX7 152 RX7 yX7_isWord wsX7_isWord) := goodIn_app (goodIn_of _ (by decide +kernel)) ggX7_read_X7_isWord
set_option maxRecDepth 20000 in
theorem ggX7_read_X7_readsSight : GoodIn wsX7_read wsX7_readsSight := goodIn_r _ [99, 1, 2, 21, 19, 100, 101, 102, 103, 6, 104, 18, 105, 106, 107, 108, 109, 14, 15, 16, 17, 9, 20, 22, 23, 24, 25, 26, 27, 28, 29, 30, 31, 32, 33, 34, 35, 36, 37, 38, 39, 40, 41, 42, 110, 111, 112, 113, 114, 115, 116, 117, 118, 119, 120, 121, 122, 123, 124, 125, 43, 44, 45, 46, 47, 48, 49, 50, 51, 52, 53, 54, 55, 56, 57, 58, 59, 60, 61, 62, 63, 64, 65, 66, 67, 68, 69, 70, 71, 72, 73, 74, 75, 76, 77, 78, 79, 80, 81, 82, 83, 84, 85, 86, 87, 88, 89, 90, 91, 92, 93, 94, 95, 126, 127, 128, 129, 130, 131, 132, 133, 134, 135, 136, 137, 138, 139, 140, 141, 153, 154, 155, 156, 157, 158, 159, 160, 161, 162, 163, 164, 165, 166, 167, 168, 169, 170, 171, 172, 173, 174, 175, 176, 177, 178, 179, 180, 181] (by decide +kernel) (by decide +kernel)
set_option maxRecDepth 20000 in
theorem gX7_read_X7_readsSight : GoodIn wsX7_read (wsV RX7 193 RX7 yX7_readsSight wsX7_readsSight) := goodIn_app (goodIn_of _ (by decide +kernel)) ggX7_read_X7_readsSight
set_option maxRecDepth 20000 in
theorem ggX7_read_X7_ends : GoodIn wsX7_read wsX7_ends := goodIn_r _ [145, 2, 21, 105, 146, 20, 10, 1, 101, 102, 103, 6, 104, 18, 147, 148, 149, 150, 151, 152, 11, 12, 13, 153, 154, 155, 156, 157, 158, 159, 160, 161, 162, 163, 164, 165, 166, 167, 168, 169, 170, 171, 172, 173, 174, 175, 176, 177, 178, 179, 180, 181] (by decide +kernel) (by decide +kernel)
set_option maxRecDepth 20000 in
theorem gX7_read_X7_ends : GoodIn wsX7_read (wsV RX7 196 RX7 yX7_ends wsX7_ends) := goodIn_app (goodIn_of _ (by decide +kernel)) ggX7_read_X7_ends
theorem dX7_read_0 : decode cX7_read 0 = .ok (.aload_n 0, 1) := by decide +kernel
theorem dX7_read_1 : decode cX7_read 1 = .ok (.invokevirtual 179, 3) := by decide +kernel
theorem dX7_read_4 : decode cX7_read 4 = .ok (.aload_n 0, 1) := by decide +kernel
theorem dX7_read_5 : decode cX7_read 5 = .ok (.ldc 191, 2) := by decide +kernel
theorem dX7_read_7 : decode cX7_read 7 = .ok (.invokevirtual 152, 3) := by decide +kernel
theorem dX7_read_10 : decode cX7_read 10 = .ok (.ifCond .eq 10, 3) := by decide +kernel
theorem dX7_read_13 : decode cX7_read 13 = .ok (.aload_n 0, 1) := by decide +kernel
theorem dX7_read_14 : decode cX7_read 14 = .ok (.invokevirtual 193, 3) := by decide +kernel
theorem dX7_read_17 : decode cX7_read 17 = .ok (.goto (-13), 3) := by decide +kernel
theorem dX7_read_20 : decode cX7_read 20 = .ok (.aload_n 0, 1) := by decide +kernel
theorem dX7_read_21 : decode cX7_read 21 = .ok (.invokevirtual 196, 3) := by decide +kernel
theorem dX7_read_24 : decode cX7_read 24 = .ok (.ifCond .eq 12, 3) := by decide +kernel
theorem dX7_read_27 : decode cX7_read 27 = .ok (.aload_n 0, 1) := by decide +kernel
theorem dX7_read_28 : decode cX7_read 28 = .ok (.getfield 7, 3) := by decide +kernel
theorem dX7_read_31 : decode cX7_read 31 = .ok (.iconst 4, 1) := by decide +kernel
theorem dX7_read_32 : decode cX7_read 32 = .ok (.iaload, 1) := by decide +kernel
theorem dX7_read_33 : decode cX7_read 33 = .ok (.goto 7, 3) := by decide +kernel
theorem dX7_read_36 : decode cX7_read 36 = .ok (.aload_n 0, 1) := by decide +kernel
theorem dX7_read_37 : decode cX7_read 37 = .ok (.getfield 97, 3) := by decide +kernel
theorem dX7_read_40 : decode cX7_read 40 = .ok (.ireturn, 1) := by decide +kernel
theorem dX7_errorPosition_0 : decode cX7_errorPosition 0 = .ok (.aload_n 0, 1) := by decide +kernel
theorem dX7_errorPosition_1 : decode cX7_errorPosition 1 = .ok (.iconst 0, 1) := by decide +kernel
theorem dX7_errorPosition_2 : decode cX7_errorPosition 2 = .ok (.putfield 42, 3) := by decide +kernel
theorem dX7_errorPosition_5 : decode cX7_errorPosition 5 = .ok (.aload_n 0, 1) := by decide +kernel
theorem dX7_errorPosition_6 : decode cX7_errorPosition 6 = .ok (.getfield 29, 3) := by decide +kernel
theorem dX7_errorPosition_9 : decode cX7_errorPosition 9 = .ok (.ireturn, 1) := by decide +kernel
set_option maxRecDepth 20000 in
theorem ggX7_sineOf_J9_floorMod_7cf53 : GoodIn wsX7_sineOf wsJ9_floorMod_7cf53 := goodIn_r _ [7] (by decide +kernel) (by decide +kernel)
set_option maxRecDepth 20000 in
theorem gX7_sineOf_J9_floorMod_7cf53 : GoodIn wsX7_sineOf (va_wsS RX7 201 yJ9_floorMod_7cf53 wsJ9_floorMod_7cf53) := goodIn_app (goodIn_of _ (by decide +kernel)) ggX7_sineOf_J9_floorMod_7cf53
set_option maxRecDepth 20000 in
theorem ggX7_sineOf_X7_sineOf : GoodIn wsX7_sineOf wsX7_sineOf := goodIn_r _ [0, 1, 2, 3, 4, 5, 6, 7, 8, 9, 10] (by decide +kernel) (by decide +kernel)
set_option maxRecDepth 20000 in
theorem gX7_sineOf_X7_sineOf : GoodIn wsX7_sineOf (va_wsS RX7 204 yX7_sineOf wsX7_sineOf) := goodIn_app (goodIn_of _ (by decide +kernel)) ggX7_sineOf_X7_sineOf
theorem dX7_sineOf_0 : decode cX7_sineOf 0 = .ok (.iload_n 0, 1) := by decide +kernel
theorem dX7_sineOf_1 : decode cX7_sineOf 1 = .ok (.ldc 200, 2) := by decide +kernel
theorem dX7_sineOf_3 : decode cX7_sineOf 3 = .ok (.invokestatic 201, 3) := by decide +kernel
theorem dX7_sineOf_6 : decode cX7_sineOf 6 = .ok (.istore_n 1, 1) := by decide +kernel
theorem dX7_sineOf_7 : decode cX7_sineOf 7 = .ok (.iload_n 1, 1) := by decide +kernel
theorem dX7_sineOf_8 : decode cX7_sineOf 8 = .ok (.sipush 18000, 3) := by decide +kernel
theorem dX7_sineOf_11 : decode cX7_sineOf 11 = .ok (.if_icmp .le 13, 3) := by decide +kernel
theorem dX7_sineOf_14 : decode cX7_sineOf 14 = .ok (.iload_n 1, 1) := by decide +kernel
theorem dX7_sineOf_15 : decode cX7_sineOf 15 = .ok (.sipush 18000, 3) := by decide +kernel
theorem dX7_sineOf_18 : decode cX7_sineOf 18 = .ok (.isub, 1) := by decide +kernel
theorem dX7_sineOf_19 : decode cX7_sineOf 19 = .ok (.invokestatic 204, 3) := by decide +kernel
theorem dX7_sineOf_22 : decode cX7_sineOf 22 = .ok (.ineg, 1) := by decide +kernel
theorem dX7_sineOf_23 : decode cX7_sineOf 23 = .ok (.ireturn, 1) := by decide +kernel
theorem dX7_sineOf_24 : decode cX7_sineOf 24 = .ok (.iload_n 1, 1) := by decide +kernel
theorem dX7_sineOf_25 : decode cX7_sineOf 25 = .ok (.i2l, 1) := by decide +kernel
theorem dX7_sineOf_26 : decode cX7_sineOf 26 = .ok (.sipush 18000, 3) := by decide +kernel
theorem dX7_sineOf_29 : decode cX7_sineOf 29 = .ok (.iload_n 1, 1) := by decide +kernel
theorem dX7_sineOf_30 : decode cX7_sineOf 30 = .ok (.isub, 1) := by decide +kernel
theorem dX7_sineOf_31 : decode cX7_sineOf 31 = .ok (.i2l, 1) := by decide +kernel
theorem dX7_sineOf_32 : decode cX7_sineOf 32 = .ok (.lmul, 1) := by decide +kernel
theorem dX7_sineOf_33 : decode cX7_sineOf 33 = .ok (.lstore_n 2, 1) := by decide +kernel
theorem dX7_sineOf_34 : decode cX7_sineOf 34 = .ok (.ldc2_w 207, 3) := by decide +kernel
theorem dX7_sineOf_37 : decode cX7_sineOf 37 = .ok (.lload_n 2, 1) := by decide +kernel
theorem dX7_sineOf_38 : decode cX7_sineOf 38 = .ok (.lmul, 1) := by decide +kernel
theorem dX7_sineOf_39 : decode cX7_sineOf 39 = .ok (.ldc2_w 209, 3) := by decide +kernel
theorem dX7_sineOf_42 : decode cX7_sineOf 42 = .ok (.lload_n 2, 1) := by decide +kernel
theorem dX7_sineOf_43 : decode cX7_sineOf 43 = .ok (.lsub, 1) := by decide +kernel
theorem dX7_sineOf_44 : decode cX7_sineOf 44 = .ok (.ldiv, 1) := by decide +kernel
theorem dX7_sineOf_45 : decode cX7_sineOf 45 = .ok (.l2i, 1) := by decide +kernel
theorem dX7_sineOf_46 : decode cX7_sineOf 46 = .ok (.ireturn, 1) := by decide +kernel
set_option maxRecDepth 20000 in
theorem ggX7_cosineOf_J9_floorMod_7cf53 : GoodIn wsX7_cosineOf wsJ9_floorMod_7cf53 := goodIn_r _ [5] (by decide +kernel) (by decide +kernel)
set_option maxRecDepth 20000 in
theorem gX7_cosineOf_J9_floorMod_7cf53 : GoodIn wsX7_cosineOf (va_wsS RX7 201 yJ9_floorMod_7cf53 wsJ9_floorMod_7cf53) := goodIn_app (goodIn_of _ (by decide +kernel)) ggX7_cosineOf_J9_floorMod_7cf53
set_option maxRecDepth 20000 in
theorem ggX7_cosineOf_X7_sineOf : GoodIn wsX7_cosineOf wsX7_sineOf := goodIn_r _ [9, 1, 10, 11, 2, 3, 4, 5, 6, 7, 8] (by decide +kernel) (by decide +kernel)
set_option maxRecDepth 20000 in
theorem gX7_cosineOf_X7_sineOf : GoodIn wsX7_cosineOf (va_wsS RX7 204 yX7_sineOf wsX7_sineOf) := goodIn_app (goodIn_of _ (by decide +kernel)) ggX7_cosineOf_X7_sineOf
theorem dX7_cosineOf_0 : decode cX7_cosineOf 0 = .ok (.iload_n 0, 1) := by decide +kernel
theorem dX7_cosineOf_1 : decode cX7_cosineOf 1 = .ok (.ldc 200, 2) := by decide +kernel
theorem dX7_cosineOf_3 : decode cX7_cosineOf 3 = .ok (.invokestatic 201, 3) := by decide +kernel
theorem dX7_cosineOf_6 : decode cX7_cosineOf 6 = .ok (.sipush 9000, 3) := by decide +kernel
theorem dX7_cosineOf_9 : decode cX7_cosineOf 9 = .ok (.iadd, 1) := by decide +kernel
theorem dX7_cosineOf_10 : decode cX7_cosineOf 10 = .ok (.invokestatic 204, 3) := by decide +kernel
theorem dX7_cosineOf_13 : decode cX7_cosineOf 13 = .ok (.ireturn, 1) := by decide +kernel
set_option maxRecDepth 20000 in
theorem ggX7_lightAt_J9_floorMod_7cf53 : GoodIn wsX7_lightAt wsJ9_floorMod_7cf53 := goodIn_r _ [6] (by decide +kernel) (by decide +kernel)
set_option maxRecDepth 20000 in
theorem gX7_lightAt_J9_floorMod_7cf53 : GoodIn wsX7_lightAt (va_wsS RX7 201 yJ9_floorMod_7cf53 wsJ9_floorMod_7cf53) := goodIn_app (goodIn_of _ (by decide +kernel)) ggX7_lightAt_J9_floorMod_7cf53
theorem dX7_lightAt_0 : decode cX7_lightAt 0 = .ok (.bipush 100, 2) := by decide +kernel
theorem dX7_lightAt_2 : decode cX7_lightAt 2 = .ok (.aload_n 0, 1) := by decide +kernel
theorem dX7_lightAt_3 : decode cX7_lightAt 3 = .ok (.getfield 7, 3) := by decide +kernel
theorem dX7_lightAt_6 : decode cX7_lightAt 6 = .ok (.iconst 1, 1) := by decide +kernel
theorem dX7_lightAt_7 : decode cX7_lightAt 7 = .ok (.iaload, 1) := by decide +kernel
theorem dX7_lightAt_8 : decode cX7_lightAt 8 = .ok (.imul, 1) := by decide +kernel
theorem dX7_lightAt_9 : decode cX7_lightAt 9 = .ok (.aload_n 0, 1) := by decide +kernel
theorem dX7_lightAt_10 : decode cX7_lightAt 10 = .ok (.getfield 7, 3) := by decide +kernel
theorem dX7_lightAt_13 : decode cX7_lightAt 13 = .ok (.iconst 2, 1) := by decide +kernel
theorem dX7_lightAt_14 : decode cX7_lightAt 14 = .ok (.iaload, 1) := by decide +kernel
theorem dX7_lightAt_15 : decode cX7_lightAt 15 = .ok (.iload_n 1, 1) := by decide +kernel
theorem dX7_lightAt_16 : decode cX7_lightAt 16 = .ok (.imul, 1) := by decide +kernel
theorem dX7_lightAt_17 : decode cX7_lightAt 17 = .ok (.iadd, 1) := by decide +kernel
theorem dX7_lightAt_18 : decode cX7_lightAt 18 = .ok (.ldc 200, 2) := by decide +kernel
theorem dX7_lightAt_20 : decode cX7_lightAt 20 = .ok (.invokestatic 201, 3) := by decide +kernel
theorem dX7_lightAt_23 : decode cX7_lightAt 23 = .ok (.ireturn, 1) := by decide +kernel
theorem dX7_of_0 : decode cX7_of 0 = .ok (.aload_n 0, 1) := by decide +kernel
theorem dX7_of_1 : decode cX7_of 1 = .ok (.getfield 7, 3) := by decide +kernel
theorem dX7_of_4 : decode cX7_of 4 = .ok (.iconst 5, 1) := by decide +kernel
theorem dX7_of_5 : decode cX7_of 5 = .ok (.bipush 14, 2) := by decide +kernel
theorem dX7_of_7 : decode cX7_of 7 = .ok (.iload_n 1, 1) := by decide +kernel
theorem dX7_of_8 : decode cX7_of 8 = .ok (.imul, 1) := by decide +kernel
theorem dX7_of_9 : decode cX7_of 9 = .ok (.iadd, 1) := by decide +kernel
theorem dX7_of_10 : decode cX7_of 10 = .ok (.iload_n 2, 1) := by decide +kernel
theorem dX7_of_11 : decode cX7_of 11 = .ok (.iadd, 1) := by decide +kernel
theorem dX7_of_12 : decode cX7_of 12 = .ok (.iaload, 1) := by decide +kernel
theorem dX7_of_13 : decode cX7_of 13 = .ok (.ireturn, 1) := by decide +kernel
theorem dX7_puts_0 : decode cX7_puts 0 = .ok (.aload_n 0, 1) := by decide +kernel
theorem dX7_puts_1 : decode cX7_puts 1 = .ok (.getfield 7, 3) := by decide +kernel
theorem dX7_puts_4 : decode cX7_puts 4 = .ok (.iconst 5, 1) := by decide +kernel
theorem dX7_puts_5 : decode cX7_puts 5 = .ok (.bipush 14, 2) := by decide +kernel
theorem dX7_puts_7 : decode cX7_puts 7 = .ok (.iload_n 1, 1) := by decide +kernel
theorem dX7_puts_8 : decode cX7_puts 8 = .ok (.imul, 1) := by decide +kernel
theorem dX7_puts_9 : decode cX7_puts 9 = .ok (.iadd, 1) := by decide +kernel
theorem dX7_puts_10 : decode cX7_puts 10 = .ok (.iload_n 2, 1) := by decide +kernel
theorem dX7_puts_11 : decode cX7_puts 11 = .ok (.iadd, 1) := by decide +kernel
theorem dX7_puts_12 : decode cX7_puts 12 = .ok (.iload_n 3, 1) := by decide +kernel
theorem dX7_puts_13 : decode cX7_puts 13 = .ok (.iastore, 1) := by decide +kernel
theorem dX7_puts_14 : decode cX7_puts 14 = .ok (.return_, 1) := by decide +kernel
set_option maxRecDepth 20000 in
theorem ggX7_isMoon_X7_isIn : GoodIn wsX7_isMoon wsX7_isIn := goodIn_r _ [5] (by decide +kernel) (by decide +kernel)
set_option maxRecDepth 20000 in
theorem gX7_isMoon_X7_isIn : GoodIn wsX7_isMoon (va_wsS RX7 52 yX7_isIn wsX7_isIn) := goodIn_app (goodIn_of _ (by decide +kernel)) ggX7_isMoon_X7_isIn
theorem dX7_isMoon_0 : decode cX7_isMoon 0 = .ok (.iload_n 1, 1) := by decide +kernel
theorem dX7_isMoon_1 : decode cX7_isMoon 1 = .ok (.iconst 0, 1) := by decide +kernel
theorem dX7_isMoon_2 : decode cX7_isMoon 2 = .ok (.aload_n 0, 1) := by decide +kernel
theorem dX7_isMoon_3 : decode cX7_isMoon 3 = .ok (.getfield 7, 3) := by decide +kernel
theorem dX7_isMoon_6 : decode cX7_isMoon 6 = .ok (.iconst 3, 1) := by decide +kernel
theorem dX7_isMoon_7 : decode cX7_isMoon 7 = .ok (.iaload, 1) := by decide +kernel
theorem dX7_isMoon_8 : decode cX7_isMoon 8 = .ok (.iconst 1, 1) := by decide +kernel
theorem dX7_isMoon_9 : decode cX7_isMoon 9 = .ok (.isub, 1) := by decide +kernel
theorem dX7_isMoon_10 : decode cX7_isMoon 10 = .ok (.invokestatic 52, 3) := by decide +kernel
theorem dX7_isMoon_13 : decode cX7_isMoon 13 = .ok (.ireturn, 1) := by decide +kernel
set_option maxRecDepth 20000 in
theorem ggX7_isMisfit_X7_of : GoodIn wsX7_isMisfit wsX7_of := goodIn_r _ [6, 1, 7, 8, 9, 10, 11, 12, 13, 14, 15, 16, 17, 18, 19, 20, 21, 22, 23, 24, 25, 26, 27, 28, 29, 30, 31, 32, 33, 34, 35] (by decide +kernel) (by decide +kernel)
set_option maxRecDepth 20000 in
theorem gX7_isMisfit_X7_of : GoodIn wsX7_isMisfit (wsV RX7 128 RX7 yX7_of wsX7_of) := goodIn_app (goodIn_of _ (by decide +kernel)) ggX7_isMisfit_X7_of
theorem dX7_isMisfit_0 : decode cX7_isMisfit 0 = .ok (.aload_n 0, 1) := by decide +kernel
theorem dX7_isMisfit_1 : decode cX7_isMisfit 1 = .ok (.iload_n 1, 1) := by decide +kernel
theorem dX7_isMisfit_2 : decode cX7_isMisfit 2 = .ok (.iconst 0, 1) := by decide +kernel
theorem dX7_isMisfit_3 : decode cX7_isMisfit 3 = .ok (.invokevirtual 128, 3) := by decide +kernel
theorem dX7_isMisfit_6 : decode cX7_isMisfit 6 = .ok (.bipush 100, 2) := by decide +kernel
theorem dX7_isMisfit_8 : decode cX7_isMisfit 8 = .ok (.aload_n 0, 1) := by decide +kernel
theorem dX7_isMisfit_9 : decode cX7_isMisfit 9 = .ok (.iload_n 1, 1) := by decide +kernel
theorem dX7_isMisfit_10 : decode cX7_isMisfit 10 = .ok (.iconst 1, 1) := by decide +kernel
theorem dX7_isMisfit_11 : decode cX7_isMisfit 11 = .ok (.invokevirtual 128, 3) := by decide +kernel
theorem dX7_isMisfit_14 : decode cX7_isMisfit 14 = .ok (.isub, 1) := by decide +kernel
theorem dX7_isMisfit_15 : decode cX7_isMisfit 15 = .ok (.imul, 1) := by decide +kernel
theorem dX7_isMisfit_16 : decode cX7_isMisfit 16 = .ok (.bipush 100, 2) := by decide +kernel
theorem dX7_isMisfit_18 : decode cX7_isMisfit 18 = .ok (.idiv, 1) := by decide +kernel
theorem dX7_isMisfit_19 : decode cX7_isMisfit 19 = .ok (.aload_n 0, 1) := by decide +kernel
theorem dX7_isMisfit_20 : decode cX7_isMisfit 20 = .ok (.getfield 7, 3) := by decide +kernel
theorem dX7_isMisfit_23 : decode cX7_isMisfit 23 = .ok (.iconst 0, 1) := by decide +kernel
theorem dX7_isMisfit_24 : decode cX7_isMisfit 24 = .ok (.iaload, 1) := by decide +kernel
theorem dX7_isMisfit_25 : decode cX7_isMisfit 25 = .ok (.aload_n 0, 1) := by decide +kernel
theorem dX7_isMisfit_26 : decode cX7_isMisfit 26 = .ok (.iload_n 1, 1) := by decide +kernel
theorem dX7_isMisfit_27 : decode cX7_isMisfit 27 = .ok (.iconst 5, 1) := by decide +kernel
theorem dX7_isMisfit_28 : decode cX7_isMisfit 28 = .ok (.invokevirtual 128, 3) := by decide +kernel
theorem dX7_isMisfit_31 : decode cX7_isMisfit 31 = .ok (.iadd, 1) := by decide +kernel
theorem dX7_isMisfit_32 : decode cX7_isMisfit 32 = .ok (.if_icmp .gt 7, 3) := by decide +kernel
theorem dX7_isMisfit_35 : decode cX7_isMisfit 35 = .ok (.iconst 1, 1) := by decide +kernel
theorem dX7_isMisfit_36 : decode cX7_isMisfit 36 = .ok (.goto 4, 3) := by decide +kernel
theorem dX7_isMisfit_39 : decode cX7_isMisfit 39 = .ok (.iconst 0, 1) := by decide +kernel
theorem dX7_isMisfit_40 : decode cX7_isMisfit 40 = .ok (.ireturn, 1) := by decide +kernel
theorem dX7_inSight_0 : decode cX7_inSight 0 = .ok (.aload_n 0, 1) := by decide +kernel
theorem dX7_inSight_1 : decode cX7_inSight 1 = .ok (.getfield 7, 3) := by decide +kernel
theorem dX7_inSight_4 : decode cX7_inSight 4 = .ok (.bipush 89, 2) := by decide +kernel
theorem dX7_inSight_6 : decode cX7_inSight 6 = .ok (.iconst 3, 1) := by decide +kernel
theorem dX7_inSight_7 : decode cX7_inSight 7 = .ok (.iload_n 1, 1) := by decide +kernel
theorem dX7_inSight_8 : decode cX7_inSight 8 = .ok (.imul, 1) := by decide +kernel
theorem dX7_inSight_9 : decode cX7_inSight 9 = .ok (.iadd, 1) := by decide +kernel
theorem dX7_inSight_10 : decode cX7_inSight 10 = .ok (.iload_n 2, 1) := by decide +kernel
theorem dX7_inSight_11 : decode cX7_inSight 11 = .ok (.iadd, 1) := by decide +kernel
theorem dX7_inSight_12 : decode cX7_inSight 12 = .ok (.iaload, 1) := by decide +kernel
theorem dX7_inSight_13 : decode cX7_inSight 13 = .ok (.ireturn, 1) := by decide +kernel
set_option maxRecDepth 20000 in
theorem ggX7_sightOf_X7_inSight : GoodIn wsX7_sightOf wsX7_inSight := goodIn_r _ [6, 1, 7, 8, 9, 10, 11, 12, 13, 14, 15, 16, 17, 18, 19, 20, 21, 22, 23, 24, 25, 26, 27, 28, 29, 30, 31, 32, 33, 34, 35] (by decide +kernel) (by decide +kernel)
set_option maxRecDepth 20000 in
theorem gX7_sightOf_X7_inSight : GoodIn wsX7_sightOf (wsV RX7 211 RX7 yX7_inSight wsX7_inSight) := goodIn_app (goodIn_of _ (by decide +kernel)) ggX7_sightOf_X7_inSight
theorem dX7_sightOf_0 : decode cX7_sightOf 0 = .ok (.iconst 0, 1) := by decide +kernel
theorem dX7_sightOf_1 : decode cX7_sightOf 1 = .ok (.istore 4, 2) := by decide +kernel
theorem dX7_sightOf_3 : decode cX7_sightOf 3 = .ok (.iload 4, 2) := by decide +kernel
theorem dX7_sightOf_5 : decode cX7_sightOf 5 = .ok (.aload_n 0, 1) := by decide +kernel
theorem dX7_sightOf_6 : decode cX7_sightOf 6 = .ok (.getfield 7, 3) := by decide +kernel
theorem dX7_sightOf_9 : decode cX7_sightOf 9 = .ok (.iconst 4, 1) := by decide +kernel
theorem dX7_sightOf_10 : decode cX7_sightOf 10 = .ok (.iaload, 1) := by decide +kernel
theorem dX7_sightOf_11 : decode cX7_sightOf 11 = .ok (.if_icmp .ge 45, 3) := by decide +kernel
theorem dX7_sightOf_14 : decode cX7_sightOf 14 = .ok (.aload_n 0, 1) := by decide +kernel
theorem dX7_sightOf_15 : decode cX7_sightOf 15 = .ok (.iload 4, 2) := by decide +kernel
theorem dX7_sightOf_17 : decode cX7_sightOf 17 = .ok (.iconst 0, 1) := by decide +kernel
theorem dX7_sightOf_18 : decode cX7_sightOf 18 = .ok (.invokevirtual 211, 3) := by decide +kernel
theorem dX7_sightOf_21 : decode cX7_sightOf 21 = .ok (.iload_n 1, 1) := by decide +kernel
theorem dX7_sightOf_22 : decode cX7_sightOf 22 = .ok (.if_icmp .ne 28, 3) := by decide +kernel
theorem dX7_sightOf_25 : decode cX7_sightOf 25 = .ok (.aload_n 0, 1) := by decide +kernel
theorem dX7_sightOf_26 : decode cX7_sightOf 26 = .ok (.iload 4, 2) := by decide +kernel
theorem dX7_sightOf_28 : decode cX7_sightOf 28 = .ok (.iconst 1, 1) := by decide +kernel
theorem dX7_sightOf_29 : decode cX7_sightOf 29 = .ok (.invokevirtual 211, 3) := by decide +kernel
theorem dX7_sightOf_32 : decode cX7_sightOf 32 = .ok (.iload_n 2, 1) := by decide +kernel
theorem dX7_sightOf_33 : decode cX7_sightOf 33 = .ok (.if_icmp .ne 17, 3) := by decide +kernel
theorem dX7_sightOf_36 : decode cX7_sightOf 36 = .ok (.aload_n 0, 1) := by decide +kernel
theorem dX7_sightOf_37 : decode cX7_sightOf 37 = .ok (.iload 4, 2) := by decide +kernel
theorem dX7_sightOf_39 : decode cX7_sightOf 39 = .ok (.iconst 2, 1) := by decide +kernel
theorem dX7_sightOf_40 : decode cX7_sightOf 40 = .ok (.invokevirtual 211, 3) := by decide +kernel
theorem dX7_sightOf_43 : decode cX7_sightOf 43 = .ok (.iload_n 3, 1) := by decide +kernel
theorem dX7_sightOf_44 : decode cX7_sightOf 44 = .ok (.if_icmp .ne 6, 3) := by decide +kernel
theorem dX7_sightOf_47 : decode cX7_sightOf 47 = .ok (.iload 4, 2) := by decide +kernel
theorem dX7_sightOf_49 : decode cX7_sightOf 49 = .ok (.ireturn, 1) := by decide +kernel
theorem dX7_sightOf_50 : decode cX7_sightOf 50 = .ok (.iinc 4 1, 3) := by decide +kernel
theorem dX7_sightOf_53 : decode cX7_sightOf 53 = .ok (.goto (-50), 3) := by decide +kernel
theorem dX7_sightOf_56 : decode cX7_sightOf 56 = .ok (.iconst (-1), 1) := by decide +kernel
theorem dX7_sightOf_57 : decode cX7_sightOf 57 = .ok (.ireturn, 1) := by decide +kernel
theorem dX7_rootOf_0 : decode cX7_rootOf 0 = .ok (.iconst 0, 1) := by decide +kernel
theorem dX7_rootOf_1 : decode cX7_rootOf 1 = .ok (.istore_n 1, 1) := by decide +kernel
theorem dX7_rootOf_2 : decode cX7_rootOf 2 = .ok (.iload_n 1, 1) := by decide +kernel
theorem dX7_rootOf_3 : decode cX7_rootOf 3 = .ok (.iconst 1, 1) := by decide +kernel
theorem dX7_rootOf_4 : decode cX7_rootOf 4 = .ok (.iadd, 1) := by decide +kernel
theorem dX7_rootOf_5 : decode cX7_rootOf 5 = .ok (.iload_n 1, 1) := by decide +kernel
theorem dX7_rootOf_6 : decode cX7_rootOf 6 = .ok (.iconst 1, 1) := by decide +kernel
theorem dX7_rootOf_7 : decode cX7_rootOf 7 = .ok (.iadd, 1) := by decide +kernel
theorem dX7_rootOf_8 : decode cX7_rootOf 8 = .ok (.imul, 1) := by decide +kernel
theorem dX7_rootOf_9 : decode cX7_rootOf 9 = .ok (.iload_n 0, 1) := by decide +kernel
theorem dX7_rootOf_10 : decode cX7_rootOf 10 = .ok (.if_icmp .gt 9, 3) := by decide +kernel
theorem dX7_rootOf_13 : decode cX7_rootOf 13 = .ok (.iinc 1 1, 3) := by decide +kernel
theorem dX7_rootOf_16 : decode cX7_rootOf 16 = .ok (.goto (-14), 3) := by decide +kernel
theorem dX7_rootOf_19 : decode cX7_rootOf 19 = .ok (.iload_n 1, 1) := by decide +kernel
theorem dX7_rootOf_20 : decode cX7_rootOf 20 = .ok (.ireturn, 1) := by decide +kernel
set_option maxRecDepth 20000 in
theorem ggX7_lays_X7_of : GoodIn wsX7_lays wsX7_of := goodIn_r _ [13, 14, 35, 36, 37, 38, 39, 40, 41, 42, 43, 44, 45, 46, 47, 48, 49, 50, 51, 52, 53, 54, 55, 56, 57, 58, 59, 60, 61, 62, 63] (by decide +kernel) (by decide +kernel)
set_option maxRecDepth 20000 in
theorem gX7_lays_X7_of : GoodIn wsX7_lays (wsV RX7 128 RX7 yX7_of wsX7_of) := goodIn_app (goodIn_of _ (by decide +kernel)) ggX7_lays_X7_of
set_option maxRecDepth 20000 in
theorem ggX7_lays_X7_sineOf : GoodIn wsX7_lays wsX7_sineOf := goodIn_r _ [17, 18, 19, 20, 21, 22, 23, 24, 15, 16, 12] (by decide +kernel) (by decide +kernel)
set_option maxRecDepth 20000 in
theorem gX7_lays_X7_sineOf : GoodIn wsX7_lays (va_wsS RX7 204 yX7_sineOf wsX7_sineOf) := goodIn_app (goodIn_of _ (by decide +kernel)) ggX7_lays_X7_sineOf
set_option maxRecDepth 20000 in
theorem ggX7_lays_X7_cosineOf : GoodIn wsX7_lays wsX7_cosineOf := goodIn_r _ [27, 18, 21, 22, 23, 24, 15, 16, 12, 17, 19, 20] (by decide +kernel) (by decide +kernel)
set_option maxRecDepth 20000 in
theorem gX7_lays_X7_cosineOf : GoodIn wsX7_lays (va_wsS RX7 219 yX7_cosineOf wsX7_cosineOf) := goodIn_app (goodIn_of _ (by decide +kernel)) ggX7_lays_X7_cosineOf
set_option maxRecDepth 20000 in
theorem ggX7_lays_X7_rootOf : GoodIn wsX7_lays wsX7_rootOf := goodIn_r _ [30] (by decide +kernel) (by decide +kernel)
set_option maxRecDepth 20000 in
theorem gX7_lays_X7_rootOf : GoodIn wsX7_lays (va_wsS RX7 222 yX7_rootOf wsX7_rootOf) := goodIn_app (goodIn_of _ (by decide +kernel)) ggX7_lays_X7_rootOf
set_option maxRecDepth 20000 in
theorem ggX7_lays_X7_lightAt : GoodIn wsX7_lays wsX7_lightAt := goodIn_r _ [34, 14, 18, 21, 22, 23, 24, 35, 36, 37, 38, 39, 40, 41, 42, 43, 44, 45, 46, 47, 48, 49, 50, 51, 52, 53, 54, 55, 56, 57, 58, 59, 60, 61, 62, 63] (by decide +kernel) (by decide +kernel)
set_option maxRecDepth 20000 in
theorem gX7_lays_X7_lightAt : GoodIn wsX7_lays (wsV RX7 234 RX7 yX7_lightAt wsX7_lightAt) := goodIn_app (goodIn_of _ (by decide +kernel)) ggX7_lays_X7_lightAt
theorem dX7_lays_0 : decode cX7_lays 0 = .ok (.aload_n 0, 1) := by decide +kernel
theorem dX7_lays_1 : decode cX7_lays 1 = .ok (.iload_n 1, 1) := by decide +kernel
theorem dX7_lays_2 : decode cX7_lays 2 = .ok (.iconst 1, 1) := by decide +kernel
theorem dX7_lays_3 : decode cX7_lays 3 = .ok (.invokevirtual 128, 3) := by decide +kernel
theorem dX7_lays_6 : decode cX7_lays 6 = .ok (.istore_n 3, 1) := by decide +kernel
theorem dX7_lays_7 : decode cX7_lays 7 = .ok (.ldc2_w 214, 3) := by decide +kernel
theorem dX7_lays_10 : decode cX7_lays 10 = .ok (.aload_n 0, 1) := by decide +kernel
theorem dX7_lays_11 : decode cX7_lays 11 = .ok (.iload_n 1, 1) := by decide +kernel
theorem dX7_lays_12 : decode cX7_lays 12 = .ok (.iconst 4, 1) := by decide +kernel
theorem dX7_lays_13 : decode cX7_lays 13 = .ok (.invokevirtual 128, 3) := by decide +kernel
theorem dX7_lays_16 : decode cX7_lays 16 = .ok (.i2l, 1) := by decide +kernel
theorem dX7_lays_17 : decode cX7_lays 17 = .ok (.lmul, 1) := by decide +kernel
theorem dX7_lays_18 : decode cX7_lays 18 = .ok (.ldc2_w 216, 3) := by decide +kernel
theorem dX7_lays_21 : decode cX7_lays 21 = .ok (.iload_n 2, 1) := by decide +kernel
theorem dX7_lays_22 : decode cX7_lays 22 = .ok (.i2l, 1) := by decide +kernel
theorem dX7_lays_23 : decode cX7_lays 23 = .ok (.lmul, 1) := by decide +kernel
theorem dX7_lays_24 : decode cX7_lays 24 = .ok (.aload_n 0, 1) := by decide +kernel
theorem dX7_lays_25 : decode cX7_lays 25 = .ok (.iload_n 1, 1) := by decide +kernel
theorem dX7_lays_26 : decode cX7_lays 26 = .ok (.iconst 3, 1) := by decide +kernel
theorem dX7_lays_27 : decode cX7_lays 27 = .ok (.invokevirtual 128, 3) := by decide +kernel
theorem dX7_lays_30 : decode cX7_lays 30 = .ok (.i2l, 1) := by decide +kernel
theorem dX7_lays_31 : decode cX7_lays 31 = .ok (.ldiv, 1) := by decide +kernel
theorem dX7_lays_32 : decode cX7_lays 32 = .ok (.ladd, 1) := by decide +kernel
theorem dX7_lays_33 : decode cX7_lays 33 = .ok (.ldc2_w 216, 3) := by decide +kernel
theorem dX7_lays_36 : decode cX7_lays 36 = .ok (.lrem, 1) := by decide +kernel
theorem dX7_lays_37 : decode cX7_lays 37 = .ok (.l2i, 1) := by decide +kernel
theorem dX7_lays_38 : decode cX7_lays 38 = .ok (.istore 4, 2) := by decide +kernel
theorem dX7_lays_40 : decode cX7_lays 40 = .ok (.iload 4, 2) := by decide +kernel
theorem dX7_lays_42 : decode cX7_lays 42 = .ok (.istore 5, 2) := by decide +kernel
theorem dX7_lays_44 : decode cX7_lays 44 = .ok (.iconst 0, 1) := by decide +kernel
theorem dX7_lays_45 : decode cX7_lays 45 = .ok (.istore 6, 2) := by decide +kernel
theorem dX7_lays_47 : decode cX7_lays 47 = .ok (.iload 6, 2) := by decide +kernel
theorem dX7_lays_49 : decode cX7_lays 49 = .ok (.bipush 6, 2) := by decide +kernel
theorem dX7_lays_51 : decode cX7_lays 51 = .ok (.if_icmp .ge 28, 3) := by decide +kernel
theorem dX7_lays_54 : decode cX7_lays 54 = .ok (.iload 4, 2) := by decide +kernel
theorem dX7_lays_56 : decode cX7_lays 56 = .ok (.iload_n 3, 1) := by decide +kernel
theorem dX7_lays_57 : decode cX7_lays 57 = .ok (.iload 5, 2) := by decide +kernel
theorem dX7_lays_59 : decode cX7_lays 59 = .ok (.invokestatic 204, 3) := by decide +kernel
theorem dX7_lays_62 : decode cX7_lays 62 = .ok (.imul, 1) := by decide +kernel
theorem dX7_lays_63 : decode cX7_lays 63 = .ok (.sipush 573, 3) := by decide +kernel
theorem dX7_lays_66 : decode cX7_lays 66 = .ok (.imul, 1) := by decide +kernel
theorem dX7_lays_67 : decode cX7_lays 67 = .ok (.ldc 218, 2) := by decide +kernel
theorem dX7_lays_69 : decode cX7_lays 69 = .ok (.idiv, 1) := by decide +kernel
theorem dX7_lays_70 : decode cX7_lays 70 = .ok (.iadd, 1) := by decide +kernel
theorem dX7_lays_71 : decode cX7_lays 71 = .ok (.istore 5, 2) := by decide +kernel
theorem dX7_lays_73 : decode cX7_lays 73 = .ok (.iinc 6 1, 3) := by decide +kernel
theorem dX7_lays_76 : decode cX7_lays 76 = .ok (.goto (-29), 3) := by decide +kernel
theorem dX7_lays_79 : decode cX7_lays 79 = .ok (.aload_n 0, 1) := by decide +kernel
theorem dX7_lays_80 : decode cX7_lays 80 = .ok (.iload_n 1, 1) := by decide +kernel
theorem dX7_lays_81 : decode cX7_lays 81 = .ok (.iconst 0, 1) := by decide +kernel
theorem dX7_lays_82 : decode cX7_lays 82 = .ok (.invokevirtual 128, 3) := by decide +kernel
theorem dX7_lays_85 : decode cX7_lays 85 = .ok (.i2l, 1) := by decide +kernel
theorem dX7_lays_86 : decode cX7_lays 86 = .ok (.iload 5, 2) := by decide +kernel
theorem dX7_lays_88 : decode cX7_lays 88 = .ok (.invokestatic 219, 3) := by decide +kernel
theorem dX7_lays_91 : decode cX7_lays 91 = .ok (.bipush 100, 2) := by decide +kernel
theorem dX7_lays_93 : decode cX7_lays 93 = .ok (.iload_n 3, 1) := by decide +kernel
theorem dX7_lays_94 : decode cX7_lays 94 = .ok (.imul, 1) := by decide +kernel
theorem dX7_lays_95 : decode cX7_lays 95 = .ok (.isub, 1) := by decide +kernel
theorem dX7_lays_96 : decode cX7_lays 96 = .ok (.i2l, 1) := by decide +kernel
theorem dX7_lays_97 : decode cX7_lays 97 = .ok (.lmul, 1) := by decide +kernel
theorem dX7_lays_98 : decode cX7_lays 98 = .ok (.ldc2_w 214, 3) := by decide +kernel
theorem dX7_lays_101 : decode cX7_lays 101 = .ok (.ldiv, 1) := by decide +kernel
theorem dX7_lays_102 : decode cX7_lays 102 = .ok (.lstore 6, 2) := by decide +kernel
theorem dX7_lays_104 : decode cX7_lays 104 = .ok (.aload_n 0, 1) := by decide +kernel
theorem dX7_lays_105 : decode cX7_lays 105 = .ok (.iload_n 1, 1) := by decide +kernel
theorem dX7_lays_106 : decode cX7_lays 106 = .ok (.iconst 0, 1) := by decide +kernel
theorem dX7_lays_107 : decode cX7_lays 107 = .ok (.invokevirtual 128, 3) := by decide +kernel
theorem dX7_lays_110 : decode cX7_lays 110 = .ok (.i2l, 1) := by decide +kernel
theorem dX7_lays_111 : decode cX7_lays 111 = .ok (.sipush 10000, 3) := by decide +kernel
theorem dX7_lays_114 : decode cX7_lays 114 = .ok (.iload_n 3, 1) := by decide +kernel
theorem dX7_lays_115 : decode cX7_lays 115 = .ok (.iload_n 3, 1) := by decide +kernel
theorem dX7_lays_116 : decode cX7_lays 116 = .ok (.imul, 1) := by decide +kernel
theorem dX7_lays_117 : decode cX7_lays 117 = .ok (.isub, 1) := by decide +kernel
theorem dX7_lays_118 : decode cX7_lays 118 = .ok (.invokestatic 222, 3) := by decide +kernel
theorem dX7_lays_121 : decode cX7_lays 121 = .ok (.i2l, 1) := by decide +kernel
theorem dX7_lays_122 : decode cX7_lays 122 = .ok (.lmul, 1) := by decide +kernel
theorem dX7_lays_123 : decode cX7_lays 123 = .ok (.iload 5, 2) := by decide +kernel
theorem dX7_lays_125 : decode cX7_lays 125 = .ok (.invokestatic 204, 3) := by decide +kernel
theorem dX7_lays_128 : decode cX7_lays 128 = .ok (.i2l, 1) := by decide +kernel
theorem dX7_lays_129 : decode cX7_lays 129 = .ok (.lmul, 1) := by decide +kernel
theorem dX7_lays_130 : decode cX7_lays 130 = .ok (.ldc2_w 225, 3) := by decide +kernel
theorem dX7_lays_133 : decode cX7_lays 133 = .ok (.ldiv, 1) := by decide +kernel
theorem dX7_lays_134 : decode cX7_lays 134 = .ok (.lstore 8, 2) := by decide +kernel
theorem dX7_lays_136 : decode cX7_lays 136 = .ok (.bipush 100, 2) := by decide +kernel
theorem dX7_lays_138 : decode cX7_lays 138 = .ok (.aload_n 0, 1) := by decide +kernel
theorem dX7_lays_139 : decode cX7_lays 139 = .ok (.iload_n 1, 1) := by decide +kernel
theorem dX7_lays_140 : decode cX7_lays 140 = .ok (.iconst 2, 1) := by decide +kernel
theorem dX7_lays_141 : decode cX7_lays 141 = .ok (.invokevirtual 128, 3) := by decide +kernel
theorem dX7_lays_144 : decode cX7_lays 144 = .ok (.imul, 1) := by decide +kernel
theorem dX7_lays_145 : decode cX7_lays 145 = .ok (.istore 10, 2) := by decide +kernel
theorem dX7_lays_147 : decode cX7_lays 147 = .ok (.aload_n 0, 1) := by decide +kernel
theorem dX7_lays_148 : decode cX7_lays 148 = .ok (.lload 6, 2) := by decide +kernel
theorem dX7_lays_150 : decode cX7_lays 150 = .ok (.iload 10, 2) := by decide +kernel
theorem dX7_lays_152 : decode cX7_lays 152 = .ok (.invokestatic 219, 3) := by decide +kernel
theorem dX7_lays_155 : decode cX7_lays 155 = .ok (.i2l, 1) := by decide +kernel
theorem dX7_lays_156 : decode cX7_lays 156 = .ok (.lmul, 1) := by decide +kernel
theorem dX7_lays_157 : decode cX7_lays 157 = .ok (.lload 8, 2) := by decide +kernel
theorem dX7_lays_159 : decode cX7_lays 159 = .ok (.iload 10, 2) := by decide +kernel
theorem dX7_lays_161 : decode cX7_lays 161 = .ok (.invokestatic 204, 3) := by decide +kernel
theorem dX7_lays_164 : decode cX7_lays 164 = .ok (.i2l, 1) := by decide +kernel
theorem dX7_lays_165 : decode cX7_lays 165 = .ok (.lmul, 1) := by decide +kernel
theorem dX7_lays_166 : decode cX7_lays 166 = .ok (.lsub, 1) := by decide +kernel
theorem dX7_lays_167 : decode cX7_lays 167 = .ok (.ldc2_w 225, 3) := by decide +kernel
theorem dX7_lays_170 : decode cX7_lays 170 = .ok (.ldiv, 1) := by decide +kernel
theorem dX7_lays_171 : decode cX7_lays 171 = .ok (.putfield 227, 3) := by decide +kernel
theorem dX7_lays_174 : decode cX7_lays 174 = .ok (.aload_n 0, 1) := by decide +kernel
theorem dX7_lays_175 : decode cX7_lays 175 = .ok (.lload 6, 2) := by decide +kernel
theorem dX7_lays_177 : decode cX7_lays 177 = .ok (.iload 10, 2) := by decide +kernel
theorem dX7_lays_179 : decode cX7_lays 179 = .ok (.invokestatic 204, 3) := by decide +kernel
theorem dX7_lays_182 : decode cX7_lays 182 = .ok (.i2l, 1) := by decide +kernel
theorem dX7_lays_183 : decode cX7_lays 183 = .ok (.lmul, 1) := by decide +kernel
theorem dX7_lays_184 : decode cX7_lays 184 = .ok (.lload 8, 2) := by decide +kernel
theorem dX7_lays_186 : decode cX7_lays 186 = .ok (.iload 10, 2) := by decide +kernel
theorem dX7_lays_188 : decode cX7_lays 188 = .ok (.invokestatic 219, 3) := by decide +kernel
theorem dX7_lays_191 : decode cX7_lays 191 = .ok (.i2l, 1) := by decide +kernel
theorem dX7_lays_192 : decode cX7_lays 192 = .ok (.lmul, 1) := by decide +kernel
theorem dX7_lays_193 : decode cX7_lays 193 = .ok (.ladd, 1) := by decide +kernel
theorem dX7_lays_194 : decode cX7_lays 194 = .ok (.ldc2_w 225, 3) := by decide +kernel
theorem dX7_lays_197 : decode cX7_lays 197 = .ok (.ldiv, 1) := by decide +kernel
theorem dX7_lays_198 : decode cX7_lays 198 = .ok (.putfield 231, 3) := by decide +kernel
theorem dX7_lays_201 : decode cX7_lays 201 = .ok (.aload_n 0, 1) := by decide +kernel
theorem dX7_lays_202 : decode cX7_lays 202 = .ok (.iload_n 2, 1) := by decide +kernel
theorem dX7_lays_203 : decode cX7_lays 203 = .ok (.invokevirtual 234, 3) := by decide +kernel
theorem dX7_lays_206 : decode cX7_lays 206 = .ok (.istore 11, 2) := by decide +kernel
theorem dX7_lays_208 : decode cX7_lays 208 = .ok (.aload_n 0, 1) := by decide +kernel
theorem dX7_lays_209 : decode cX7_lays 209 = .ok (.aload_n 0, 1) := by decide +kernel
theorem dX7_lays_210 : decode cX7_lays 210 = .ok (.getfield 227, 3) := by decide +kernel
theorem dX7_lays_213 : decode cX7_lays 213 = .ok (.iload 11, 2) := by decide +kernel
theorem dX7_lays_215 : decode cX7_lays 215 = .ok (.invokestatic 219, 3) := by decide +kernel
theorem dX7_lays_218 : decode cX7_lays 218 = .ok (.i2l, 1) := by decide +kernel
theorem dX7_lays_219 : decode cX7_lays 219 = .ok (.lmul, 1) := by decide +kernel
theorem dX7_lays_220 : decode cX7_lays 220 = .ok (.aload_n 0, 1) := by decide +kernel
theorem dX7_lays_221 : decode cX7_lays 221 = .ok (.getfield 231, 3) := by decide +kernel
theorem dX7_lays_224 : decode cX7_lays 224 = .ok (.iload 11, 2) := by decide +kernel
theorem dX7_lays_226 : decode cX7_lays 226 = .ok (.invokestatic 204, 3) := by decide +kernel
theorem dX7_lays_229 : decode cX7_lays 229 = .ok (.i2l, 1) := by decide +kernel
theorem dX7_lays_230 : decode cX7_lays 230 = .ok (.lmul, 1) := by decide +kernel
theorem dX7_lays_231 : decode cX7_lays 231 = .ok (.ladd, 1) := by decide +kernel
theorem dX7_lays_232 : decode cX7_lays 232 = .ok (.ldc2_w 225, 3) := by decide +kernel
theorem dX7_lays_235 : decode cX7_lays 235 = .ok (.ldiv, 1) := by decide +kernel
theorem dX7_lays_236 : decode cX7_lays 236 = .ok (.putfield 237, 3) := by decide +kernel
theorem dX7_lays_239 : decode cX7_lays 239 = .ok (.aload_n 0, 1) := by decide +kernel
theorem dX7_lays_240 : decode cX7_lays 240 = .ok (.aload_n 0, 1) := by decide +kernel
theorem dX7_lays_241 : decode cX7_lays 241 = .ok (.getfield 231, 3) := by decide +kernel
theorem dX7_lays_244 : decode cX7_lays 244 = .ok (.iload 11, 2) := by decide +kernel
theorem dX7_lays_246 : decode cX7_lays 246 = .ok (.invokestatic 219, 3) := by decide +kernel
theorem dX7_lays_249 : decode cX7_lays 249 = .ok (.i2l, 1) := by decide +kernel
theorem dX7_lays_250 : decode cX7_lays 250 = .ok (.lmul, 1) := by decide +kernel
theorem dX7_lays_251 : decode cX7_lays 251 = .ok (.aload_n 0, 1) := by decide +kernel
theorem dX7_lays_252 : decode cX7_lays 252 = .ok (.getfield 227, 3) := by decide +kernel
theorem dX7_lays_255 : decode cX7_lays 255 = .ok (.iload 11, 2) := by decide +kernel
theorem dX7_lays_257 : decode cX7_lays 257 = .ok (.invokestatic 204, 3) := by decide +kernel
theorem dX7_lays_260 : decode cX7_lays 260 = .ok (.i2l, 1) := by decide +kernel
theorem dX7_lays_261 : decode cX7_lays 261 = .ok (.lmul, 1) := by decide +kernel
theorem dX7_lays_262 : decode cX7_lays 262 = .ok (.lsub, 1) := by decide +kernel
theorem dX7_lays_263 : decode cX7_lays 263 = .ok (.ldc2_w 225, 3) := by decide +kernel
theorem dX7_lays_266 : decode cX7_lays 266 = .ok (.ldiv, 1) := by decide +kernel
theorem dX7_lays_267 : decode cX7_lays 267 = .ok (.putfield 240, 3) := by decide +kernel
theorem dX7_lays_270 : decode cX7_lays 270 = .ok (.return_, 1) := by decide +kernel
theorem dX7_sizeOf_0 : decode cX7_sizeOf 0 = .ok (.lload_n 0, 1) := by decide +kernel
theorem dX7_sizeOf_1 : decode cX7_sizeOf 1 = .ok (.lconst 0, 1) := by decide +kernel
theorem dX7_sizeOf_2 : decode cX7_sizeOf 2 = .ok (.lcmp, 1) := by decide +kernel
theorem dX7_sizeOf_3 : decode cX7_sizeOf 3 = .ok (.ifCond .ge 8, 3) := by decide +kernel
theorem dX7_sizeOf_6 : decode cX7_sizeOf 6 = .ok (.lload_n 0, 1) := by decide +kernel
theorem dX7_sizeOf_7 : decode cX7_sizeOf 7 = .ok (.lneg, 1) := by decide +kernel
theorem dX7_sizeOf_8 : decode cX7_sizeOf 8 = .ok (.goto 4, 3) := by decide +kernel
theorem dX7_sizeOf_11 : decode cX7_sizeOf 11 = .ok (.lload_n 0, 1) := by decide +kernel
theorem dX7_sizeOf_12 : decode cX7_sizeOf 12 = .ok (.lreturn, 1) := by decide +kernel
set_option maxRecDepth 20000 in
theorem ggX7_stateLaid_X7_sizeOf : GoodIn wsX7_stateLaid wsX7_sizeOf := goodIn_r _ [8] (by decide +kernel) (by decide +kernel)
set_option maxRecDepth 20000 in
theorem gX7_stateLaid_X7_sizeOf : GoodIn wsX7_stateLaid (va_wsS RX7 243 yX7_sizeOf wsX7_sizeOf) := goodIn_app (goodIn_of _ (by decide +kernel)) ggX7_stateLaid_X7_sizeOf
set_option maxRecDepth 20000 in
theorem ggX7_stateLaid_X7_of : GoodIn wsX7_stateLaid wsX7_of := goodIn_r _ [12, 4, 13, 14, 15, 16, 17, 18, 19, 20, 21, 22, 23, 24, 25, 26, 27, 28, 29, 30, 31, 32, 33, 34, 35, 36, 37, 38, 39, 40, 41] (by decide +kernel) (by decide +kernel)
set_option maxRecDepth 20000 in
theorem gX7_stateLaid_X7_of : GoodIn wsX7_stateLaid (wsV RX7 128 RX7 yX7_of wsX7_of) := goodIn_app (goodIn_of _ (by decide +kernel)) ggX7_stateLaid_X7_of
theorem dX7_stateLaid_0 : decode cX7_stateLaid 0 = .ok (.aload_n 0, 1) := by decide +kernel
theorem dX7_stateLaid_1 : decode cX7_stateLaid 1 = .ok (.getfield 237, 3) := by decide +kernel
theorem dX7_stateLaid_4 : decode cX7_stateLaid 4 = .ok (.lconst 0, 1) := by decide +kernel
theorem dX7_stateLaid_5 : decode cX7_stateLaid 5 = .ok (.lcmp, 1) := by decide +kernel
theorem dX7_stateLaid_6 : decode cX7_stateLaid 6 = .ok (.ifCond .lt 5, 3) := by decide +kernel
theorem dX7_stateLaid_9 : decode cX7_stateLaid 9 = .ok (.iconst 0, 1) := by decide +kernel
theorem dX7_stateLaid_10 : decode cX7_stateLaid 10 = .ok (.ireturn, 1) := by decide +kernel
theorem dX7_stateLaid_11 : decode cX7_stateLaid 11 = .ok (.aload_n 0, 1) := by decide +kernel
theorem dX7_stateLaid_12 : decode cX7_stateLaid 12 = .ok (.getfield 240, 3) := by decide +kernel
theorem dX7_stateLaid_15 : decode cX7_stateLaid 15 = .ok (.invokestatic 243, 3) := by decide +kernel
theorem dX7_stateLaid_18 : decode cX7_stateLaid 18 = .ok (.lstore_n 2, 1) := by decide +kernel
theorem dX7_stateLaid_19 : decode cX7_stateLaid 19 = .ok (.lload_n 2, 1) := by decide +kernel
theorem dX7_stateLaid_20 : decode cX7_stateLaid 20 = .ok (.ldc2_w 214, 3) := by decide +kernel
theorem dX7_stateLaid_23 : decode cX7_stateLaid 23 = .ok (.aload_n 0, 1) := by decide +kernel
theorem dX7_stateLaid_24 : decode cX7_stateLaid 24 = .ok (.iload_n 1, 1) := by decide +kernel
theorem dX7_stateLaid_25 : decode cX7_stateLaid 25 = .ok (.iconst 5, 1) := by decide +kernel
theorem dX7_stateLaid_26 : decode cX7_stateLaid 26 = .ok (.invokevirtual 128, 3) := by decide +kernel
theorem dX7_stateLaid_29 : decode cX7_stateLaid 29 = .ok (.i2l, 1) := by decide +kernel
theorem dX7_stateLaid_30 : decode cX7_stateLaid 30 = .ok (.lmul, 1) := by decide +kernel
theorem dX7_stateLaid_31 : decode cX7_stateLaid 31 = .ok (.ladd, 1) := by decide +kernel
theorem dX7_stateLaid_32 : decode cX7_stateLaid 32 = .ok (.ldc2_w 214, 3) := by decide +kernel
theorem dX7_stateLaid_35 : decode cX7_stateLaid 35 = .ok (.aload_n 0, 1) := by decide +kernel
theorem dX7_stateLaid_36 : decode cX7_stateLaid 36 = .ok (.getfield 7, 3) := by decide +kernel
theorem dX7_stateLaid_39 : decode cX7_stateLaid 39 = .ok (.iconst 0, 1) := by decide +kernel
theorem dX7_stateLaid_40 : decode cX7_stateLaid 40 = .ok (.iaload, 1) := by decide +kernel
theorem dX7_stateLaid_41 : decode cX7_stateLaid 41 = .ok (.i2l, 1) := by decide +kernel
theorem dX7_stateLaid_42 : decode cX7_stateLaid 42 = .ok (.lmul, 1) := by decide +kernel
theorem dX7_stateLaid_43 : decode cX7_stateLaid 43 = .ok (.lcmp, 1) := by decide +kernel
theorem dX7_stateLaid_44 : decode cX7_stateLaid 44 = .ok (.ifCond .gt 5, 3) := by decide +kernel
theorem dX7_stateLaid_47 : decode cX7_stateLaid 47 = .ok (.iconst 2, 1) := by decide +kernel
theorem dX7_stateLaid_48 : decode cX7_stateLaid 48 = .ok (.ireturn, 1) := by decide +kernel
theorem dX7_stateLaid_49 : decode cX7_stateLaid 49 = .ok (.lload_n 2, 1) := by decide +kernel
theorem dX7_stateLaid_50 : decode cX7_stateLaid 50 = .ok (.ldc2_w 214, 3) := by decide +kernel
theorem dX7_stateLaid_53 : decode cX7_stateLaid 53 = .ok (.aload_n 0, 1) := by decide +kernel
theorem dX7_stateLaid_54 : decode cX7_stateLaid 54 = .ok (.getfield 7, 3) := by decide +kernel
theorem dX7_stateLaid_57 : decode cX7_stateLaid 57 = .ok (.iconst 0, 1) := by decide +kernel
theorem dX7_stateLaid_58 : decode cX7_stateLaid 58 = .ok (.iaload, 1) := by decide +kernel
theorem dX7_stateLaid_59 : decode cX7_stateLaid 59 = .ok (.aload_n 0, 1) := by decide +kernel
theorem dX7_stateLaid_60 : decode cX7_stateLaid 60 = .ok (.iload_n 1, 1) := by decide +kernel
theorem dX7_stateLaid_61 : decode cX7_stateLaid 61 = .ok (.iconst 5, 1) := by decide +kernel
theorem dX7_stateLaid_62 : decode cX7_stateLaid 62 = .ok (.invokevirtual 128, 3) := by decide +kernel
theorem dX7_stateLaid_65 : decode cX7_stateLaid 65 = .ok (.iadd, 1) := by decide +kernel
theorem dX7_stateLaid_66 : decode cX7_stateLaid 66 = .ok (.i2l, 1) := by decide +kernel
theorem dX7_stateLaid_67 : decode cX7_stateLaid 67 = .ok (.lmul, 1) := by decide +kernel
theorem dX7_stateLaid_68 : decode cX7_stateLaid 68 = .ok (.lcmp, 1) := by decide +kernel
theorem dX7_stateLaid_69 : decode cX7_stateLaid 69 = .ok (.ifCond .ge 7, 3) := by decide +kernel
theorem dX7_stateLaid_72 : decode cX7_stateLaid 72 = .ok (.iconst 1, 1) := by decide +kernel
theorem dX7_stateLaid_73 : decode cX7_stateLaid 73 = .ok (.goto 4, 3) := by decide +kernel
theorem dX7_stateLaid_76 : decode cX7_stateLaid 76 = .ok (.iconst 0, 1) := by decide +kernel
theorem dX7_stateLaid_77 : decode cX7_stateLaid 77 = .ok (.ireturn, 1) := by decide +kernel
set_option maxRecDepth 20000 in
theorem ggX7_castsLaid_X7_sizeOf : GoodIn wsX7_castsLaid wsX7_sizeOf := goodIn_r _ [8] (by decide +kernel) (by decide +kernel)
set_option maxRecDepth 20000 in
theorem gX7_castsLaid_X7_sizeOf : GoodIn wsX7_castsLaid (va_wsS RX7 243 yX7_sizeOf wsX7_sizeOf) := goodIn_app (goodIn_of _ (by decide +kernel)) ggX7_castsLaid_X7_sizeOf
set_option maxRecDepth 20000 in
theorem ggX7_castsLaid_X7_of : GoodIn wsX7_castsLaid wsX7_of := goodIn_r _ [12, 4, 13, 14, 15, 16, 17, 18, 19, 20, 21, 22, 23, 24, 25, 26, 27, 28, 29, 30, 31, 32, 33, 34, 35, 36, 37, 38, 39, 40, 41] (by decide +kernel) (by decide +kernel)
set_option maxRecDepth 20000 in
theorem gX7_castsLaid_X7_of : GoodIn wsX7_castsLaid (wsV RX7 128 RX7 yX7_of wsX7_of) := goodIn_app (goodIn_of _ (by decide +kernel)) ggX7_castsLaid_X7_of
theorem dX7_castsLaid_0 : decode cX7_castsLaid 0 = .ok (.aload_n 0, 1) := by decide +kernel
theorem dX7_castsLaid_1 : decode cX7_castsLaid 1 = .ok (.getfield 237, 3) := by decide +kernel
theorem dX7_castsLaid_4 : decode cX7_castsLaid 4 = .ok (.lconst 0, 1) := by decide +kernel
theorem dX7_castsLaid_5 : decode cX7_castsLaid 5 = .ok (.lcmp, 1) := by decide +kernel
theorem dX7_castsLaid_6 : decode cX7_castsLaid 6 = .ok (.ifCond .le 36, 3) := by decide +kernel
theorem dX7_castsLaid_9 : decode cX7_castsLaid 9 = .ok (.aload_n 0, 1) := by decide +kernel
theorem dX7_castsLaid_10 : decode cX7_castsLaid 10 = .ok (.getfield 240, 3) := by decide +kernel
theorem dX7_castsLaid_13 : decode cX7_castsLaid 13 = .ok (.invokestatic 243, 3) := by decide +kernel
theorem dX7_castsLaid_16 : decode cX7_castsLaid 16 = .ok (.ldc2_w 214, 3) := by decide +kernel
theorem dX7_castsLaid_19 : decode cX7_castsLaid 19 = .ok (.aload_n 0, 1) := by decide +kernel
theorem dX7_castsLaid_20 : decode cX7_castsLaid 20 = .ok (.getfield 7, 3) := by decide +kernel
theorem dX7_castsLaid_23 : decode cX7_castsLaid 23 = .ok (.iconst 0, 1) := by decide +kernel
theorem dX7_castsLaid_24 : decode cX7_castsLaid 24 = .ok (.iaload, 1) := by decide +kernel
theorem dX7_castsLaid_25 : decode cX7_castsLaid 25 = .ok (.aload_n 0, 1) := by decide +kernel
theorem dX7_castsLaid_26 : decode cX7_castsLaid 26 = .ok (.iload_n 1, 1) := by decide +kernel
theorem dX7_castsLaid_27 : decode cX7_castsLaid 27 = .ok (.iconst 5, 1) := by decide +kernel
theorem dX7_castsLaid_28 : decode cX7_castsLaid 28 = .ok (.invokevirtual 128, 3) := by decide +kernel
theorem dX7_castsLaid_31 : decode cX7_castsLaid 31 = .ok (.iadd, 1) := by decide +kernel
theorem dX7_castsLaid_32 : decode cX7_castsLaid 32 = .ok (.i2l, 1) := by decide +kernel
theorem dX7_castsLaid_33 : decode cX7_castsLaid 33 = .ok (.lmul, 1) := by decide +kernel
theorem dX7_castsLaid_34 : decode cX7_castsLaid 34 = .ok (.lcmp, 1) := by decide +kernel
theorem dX7_castsLaid_35 : decode cX7_castsLaid 35 = .ok (.ifCond .ge 7, 3) := by decide +kernel
theorem dX7_castsLaid_38 : decode cX7_castsLaid 38 = .ok (.iconst 1, 1) := by decide +kernel
theorem dX7_castsLaid_39 : decode cX7_castsLaid 39 = .ok (.goto 4, 3) := by decide +kernel
theorem dX7_castsLaid_42 : decode cX7_castsLaid 42 = .ok (.iconst 0, 1) := by decide +kernel
theorem dX7_castsLaid_43 : decode cX7_castsLaid 43 = .ok (.ireturn, 1) := by decide +kernel
set_option maxRecDepth 20000 in
theorem ggX7_stateAt_X7_lays : GoodIn wsX7_stateAt wsX7_lays := goodIn_r _ [5, 6, 7, 8, 9, 10, 11, 12, 13, 14, 15, 16, 4, 17, 18, 19, 20, 21, 22, 23, 24, 25, 26, 27, 28, 29, 30, 31, 32, 33, 34, 35, 36, 37, 38, 46, 47, 48, 49, 50, 51, 52, 53, 54, 55, 56, 57, 58, 59, 60, 61, 62, 63, 64, 65, 66, 67, 68, 69, 70, 71, 72, 73, 74] (by decide +kernel) (by decide +kernel)
set_option maxRecDepth 20000 in
theorem gX7_stateAt_X7_lays : GoodIn wsX7_stateAt (wsV RX7 247 RX7 yX7_lays wsX7_lays) := goodIn_app (goodIn_of _ (by decide +kernel)) ggX7_stateAt_X7_lays
set_option maxRecDepth 20000 in
theorem ggX7_stateAt_X7_stateLaid : GoodIn wsX7_stateAt wsX7_stateLaid := goodIn_r _ [42, 12, 13, 6, 18, 43, 44, 4, 45, 14, 15, 16, 17, 46, 47, 48, 49, 50, 51, 52, 53, 54, 55, 56, 57, 58, 59, 60, 61, 62, 63, 64, 65, 66, 67, 68, 69, 70, 71, 72, 73, 74] (by decide +kernel) (by decide +kernel)
set_option maxRecDepth 20000 in
theorem gX7_stateAt_X7_stateLaid : GoodIn wsX7_stateAt (wsV RX7 251 RX7 yX7_stateLaid wsX7_stateLaid) := goodIn_app (goodIn_of _ (by decide +kernel)) ggX7_stateAt_X7_stateLaid
theorem dX7_stateAt_0 : decode cX7_stateAt 0 = .ok (.aload_n 0, 1) := by decide +kernel
theorem dX7_stateAt_1 : decode cX7_stateAt 1 = .ok (.iload_n 1, 1) := by decide +kernel
theorem dX7_stateAt_2 : decode cX7_stateAt 2 = .ok (.iload_n 2, 1) := by decide +kernel
theorem dX7_stateAt_3 : decode cX7_stateAt 3 = .ok (.invokevirtual 247, 3) := by decide +kernel
theorem dX7_stateAt_6 : decode cX7_stateAt 6 = .ok (.aload_n 0, 1) := by decide +kernel
theorem dX7_stateAt_7 : decode cX7_stateAt 7 = .ok (.iload_n 1, 1) := by decide +kernel
theorem dX7_stateAt_8 : decode cX7_stateAt 8 = .ok (.invokevirtual 251, 3) := by decide +kernel
theorem dX7_stateAt_11 : decode cX7_stateAt 11 = .ok (.ireturn, 1) := by decide +kernel
set_option maxRecDepth 20000 in
theorem ggX7_looksAt_X7_lays : GoodIn wsX7_looksAt wsX7_lays := goodIn_r _ [5, 6, 7, 8, 9, 10, 11, 12, 13, 14, 15, 16, 4, 17, 18, 19, 20, 21, 22, 23, 24, 25, 26, 27, 28, 29, 30, 31, 32, 33, 34, 35, 36, 37, 38, 50, 51, 52, 53, 54, 55, 56, 57, 58, 59, 60, 61, 62, 63, 64, 65, 66, 67, 68, 69, 70, 71, 72, 73, 74, 75, 76, 77, 78] (by decide +kernel) (by decide +kernel)
set_option maxRecDepth 20000 in
theorem gX7_looksAt_X7_lays : GoodIn wsX7_looksAt (wsV RX7 247 RX7 yX7_lays wsX7_lays) := goodIn_app (goodIn_of _ (by decide +kernel)) ggX7_looksAt_X7_lays
set_option maxRecDepth 20000 in
theorem ggX7_looksAt_X7_stateLaid : GoodIn wsX7_looksAt wsX7_stateLaid := goodIn_r _ [42, 12, 13, 6, 18, 43, 44, 4, 45, 14, 15, 16, 17, 50, 51, 52, 53, 54, 55, 56, 57, 58, 59, 60, 61, 62, 63, 64, 65, 66, 67, 68, 69, 70, 71, 72, 73, 74, 75, 76, 77, 78] (by decide +kernel) (by decide +kernel)
set_option maxRecDepth 20000 in
theorem gX7_looksAt_X7_stateLaid : GoodIn wsX7_looksAt (wsV RX7 251 RX7 yX7_stateLaid wsX7_stateLaid) := goodIn_app (goodIn_of _ (by decide +kernel)) ggX7_looksAt_X7_stateLaid
set_option maxRecDepth 20000 in
theorem ggX7_looksAt_X7_castsLaid : GoodIn wsX7_looksAt wsX7_castsLaid := goodIn_r _ [49, 12, 13, 6, 18, 43, 44, 4, 45, 14, 15, 16, 17, 50, 51, 52, 53, 54, 55, 56, 57, 58, 59, 60, 61, 62, 63, 64, 65, 66, 67, 68, 69, 70, 71, 72, 73, 74, 75, 76, 77, 78] (by decide +kernel) (by decide +kernel)
set_option maxRecDepth 20000 in
theorem gX7_looksAt_X7_castsLaid : GoodIn wsX7_looksAt (wsV RX7 254 RX7 yX7_castsLaid wsX7_castsLaid) := goodIn_app (goodIn_of _ (by decide +kernel)) ggX7_looksAt_X7_castsLaid
theorem dX7_looksAt_0 : decode cX7_looksAt 0 = .ok (.aload_n 0, 1) := by decide +kernel
theorem dX7_looksAt_1 : decode cX7_looksAt 1 = .ok (.iload_n 1, 1) := by decide +kernel
theorem dX7_looksAt_2 : decode cX7_looksAt 2 = .ok (.iload_n 2, 1) := by decide +kernel
theorem dX7_looksAt_3 : decode cX7_looksAt 3 = .ok (.invokevirtual 247, 3) := by decide +kernel
theorem dX7_looksAt_6 : decode cX7_looksAt 6 = .ok (.aload_n 0, 1) := by decide +kernel
theorem dX7_looksAt_7 : decode cX7_looksAt 7 = .ok (.iload_n 1, 1) := by decide +kernel
theorem dX7_looksAt_8 : decode cX7_looksAt 8 = .ok (.invokevirtual 251, 3) := by decide +kernel
theorem dX7_looksAt_11 : decode cX7_looksAt 11 = .ok (.ifCond .le 7, 3) := by decide +kernel
theorem dX7_looksAt_14 : decode cX7_looksAt 14 = .ok (.iconst 1, 1) := by decide +kernel
theorem dX7_looksAt_15 : decode cX7_looksAt 15 = .ok (.goto 16, 3) := by decide +kernel
theorem dX7_looksAt_18 : decode cX7_looksAt 18 = .ok (.aload_n 0, 1) := by decide +kernel
theorem dX7_looksAt_19 : decode cX7_looksAt 19 = .ok (.iload_n 1, 1) := by decide +kernel
theorem dX7_looksAt_20 : decode cX7_looksAt 20 = .ok (.invokevirtual 254, 3) := by decide +kernel
theorem dX7_looksAt_23 : decode cX7_looksAt 23 = .ok (.ifCond .eq 7, 3) := by decide +kernel
theorem dX7_looksAt_26 : decode cX7_looksAt 26 = .ok (.iconst 2, 1) := by decide +kernel
theorem dX7_looksAt_27 : decode cX7_looksAt 27 = .ok (.goto 4, 3) := by decide +kernel
theorem dX7_looksAt_30 : decode cX7_looksAt 30 = .ok (.iconst 0, 1) := by decide +kernel
theorem dX7_looksAt_31 : decode cX7_looksAt 31 = .ok (.ireturn, 1) := by decide +kernel
theorem dX7_isEvent_0 : decode cX7_isEvent 0 = .ok (.iload_n 0, 1) := by decide +kernel
theorem dX7_isEvent_1 : decode cX7_isEvent 1 = .ok (.iconst 2, 1) := by decide +kernel
theorem dX7_isEvent_2 : decode cX7_isEvent 2 = .ok (.if_icmp .ge 7, 3) := by decide +kernel
theorem dX7_isEvent_5 : decode cX7_isEvent 5 = .ok (.iconst 1, 1) := by decide +kernel
theorem dX7_isEvent_6 : decode cX7_isEvent 6 = .ok (.goto 4, 3) := by decide +kernel
theorem dX7_isEvent_9 : decode cX7_isEvent 9 = .ok (.iconst 2, 1) := by decide +kernel
theorem dX7_isEvent_10 : decode cX7_isEvent 10 = .ok (.istore_n 3, 1) := by decide +kernel
theorem dX7_isEvent_11 : decode cX7_isEvent 11 = .ok (.iload_n 1, 1) := by decide +kernel
theorem dX7_isEvent_12 : decode cX7_isEvent 12 = .ok (.iload_n 3, 1) := by decide +kernel
theorem dX7_isEvent_13 : decode cX7_isEvent 13 = .ok (.if_icmp .ne 7, 3) := by decide +kernel
theorem dX7_isEvent_16 : decode cX7_isEvent 16 = .ok (.iconst 1, 1) := by decide +kernel
theorem dX7_isEvent_17 : decode cX7_isEvent 17 = .ok (.goto 4, 3) := by decide +kernel
theorem dX7_isEvent_20 : decode cX7_isEvent 20 = .ok (.iconst 0, 1) := by decide +kernel
theorem dX7_isEvent_21 : decode cX7_isEvent 21 = .ok (.iload_n 2, 1) := by decide +kernel
theorem dX7_isEvent_22 : decode cX7_isEvent 22 = .ok (.iload_n 3, 1) := by decide +kernel
theorem dX7_isEvent_23 : decode cX7_isEvent 23 = .ok (.if_icmp .ne 7, 3) := by decide +kernel
theorem dX7_isEvent_26 : decode cX7_isEvent 26 = .ok (.iconst 1, 1) := by decide +kernel
theorem dX7_isEvent_27 : decode cX7_isEvent 27 = .ok (.goto 4, 3) := by decide +kernel
theorem dX7_isEvent_30 : decode cX7_isEvent 30 = .ok (.iconst 0, 1) := by decide +kernel
theorem dX7_isEvent_31 : decode cX7_isEvent 31 = .ok (.if_icmp .eq 31, 3) := by decide +kernel
theorem dX7_isEvent_34 : decode cX7_isEvent 34 = .ok (.iload_n 2, 1) := by decide +kernel
theorem dX7_isEvent_35 : decode cX7_isEvent 35 = .ok (.iload_n 3, 1) := by decide +kernel
theorem dX7_isEvent_36 : decode cX7_isEvent 36 = .ok (.if_icmp .ne 7, 3) := by decide +kernel
theorem dX7_isEvent_39 : decode cX7_isEvent 39 = .ok (.iconst 1, 1) := by decide +kernel
theorem dX7_isEvent_40 : decode cX7_isEvent 40 = .ok (.goto 4, 3) := by decide +kernel
theorem dX7_isEvent_43 : decode cX7_isEvent 43 = .ok (.iconst 0, 1) := by decide +kernel
theorem dX7_isEvent_44 : decode cX7_isEvent 44 = .ok (.iload_n 0, 1) := by decide +kernel
theorem dX7_isEvent_45 : decode cX7_isEvent 45 = .ok (.iconst 2, 1) := by decide +kernel
theorem dX7_isEvent_46 : decode cX7_isEvent 46 = .ok (.irem, 1) := by decide +kernel
theorem dX7_isEvent_47 : decode cX7_isEvent 47 = .ok (.ifCond .ne 7, 3) := by decide +kernel
theorem dX7_isEvent_50 : decode cX7_isEvent 50 = .ok (.iconst 1, 1) := by decide +kernel
theorem dX7_isEvent_51 : decode cX7_isEvent 51 = .ok (.goto 4, 3) := by decide +kernel
theorem dX7_isEvent_54 : decode cX7_isEvent 54 = .ok (.iconst 0, 1) := by decide +kernel
theorem dX7_isEvent_55 : decode cX7_isEvent 55 = .ok (.if_icmp .ne 7, 3) := by decide +kernel
theorem dX7_isEvent_58 : decode cX7_isEvent 58 = .ok (.iconst 1, 1) := by decide +kernel
theorem dX7_isEvent_59 : decode cX7_isEvent 59 = .ok (.goto 4, 3) := by decide +kernel
theorem dX7_isEvent_62 : decode cX7_isEvent 62 = .ok (.iconst 0, 1) := by decide +kernel
theorem dX7_isEvent_63 : decode cX7_isEvent 63 = .ok (.ireturn, 1) := by decide +kernel
set_option maxRecDepth 20000 in
theorem ggX7_isTime_X7_isIn : GoodIn wsX7_isTime wsX7_isIn := goodIn_r _ [5] (by decide +kernel) (by decide +kernel)
set_option maxRecDepth 20000 in
theorem gX7_isTime_X7_isIn : GoodIn wsX7_isTime (va_wsS RX7 52 yX7_isIn wsX7_isIn) := goodIn_app (goodIn_of _ (by decide +kernel)) ggX7_isTime_X7_isIn
theorem dX7_isTime_0 : decode cX7_isTime 0 = .ok (.iload_n 0, 1) := by decide +kernel
theorem dX7_isTime_1 : decode cX7_isTime 1 = .ok (.iconst 0, 1) := by decide +kernel
theorem dX7_isTime_2 : decode cX7_isTime 2 = .ok (.ldc 174, 2) := by decide +kernel
theorem dX7_isTime_4 : decode cX7_isTime 4 = .ok (.invokestatic 52, 3) := by decide +kernel
theorem dX7_isTime_7 : decode cX7_isTime 7 = .ok (.ireturn, 1) := by decide +kernel
set_option maxRecDepth 20000 in
theorem ggX7_sightsOf_X7_inSight : GoodIn wsX7_sightsOf wsX7_inSight := goodIn_r _ [6, 1, 7, 8, 9, 10, 11, 12, 13, 14, 15, 16, 17, 18, 19, 20, 21, 22, 23, 24, 25, 26, 27, 28, 29, 30, 31, 32, 33, 34, 35] (by decide +kernel) (by decide +kernel)
set_option maxRecDepth 20000 in
theorem gX7_sightsOf_X7_inSight : GoodIn wsX7_sightsOf (wsV RX7 211 RX7 yX7_inSight wsX7_inSight) := goodIn_app (goodIn_of _ (by decide +kernel)) ggX7_sightsOf_X7_inSight
theorem dX7_sightsOf_0 : decode cX7_sightsOf 0 = .ok (.iconst 0, 1) := by decide +kernel
theorem dX7_sightsOf_1 : decode cX7_sightsOf 1 = .ok (.istore_n 2, 1) := by decide +kernel
theorem dX7_sightsOf_2 : decode cX7_sightsOf 2 = .ok (.iconst 0, 1) := by decide +kernel
theorem dX7_sightsOf_3 : decode cX7_sightsOf 3 = .ok (.istore_n 3, 1) := by decide +kernel
theorem dX7_sightsOf_4 : decode cX7_sightsOf 4 = .ok (.iload_n 3, 1) := by decide +kernel
theorem dX7_sightsOf_5 : decode cX7_sightsOf 5 = .ok (.aload_n 0, 1) := by decide +kernel
theorem dX7_sightsOf_6 : decode cX7_sightsOf 6 = .ok (.getfield 7, 3) := by decide +kernel
theorem dX7_sightsOf_9 : decode cX7_sightsOf 9 = .ok (.iconst 4, 1) := by decide +kernel
theorem dX7_sightsOf_10 : decode cX7_sightsOf 10 = .ok (.iaload, 1) := by decide +kernel
theorem dX7_sightsOf_11 : decode cX7_sightsOf 11 = .ok (.if_icmp .ge 27, 3) := by decide +kernel
theorem dX7_sightsOf_14 : decode cX7_sightsOf 14 = .ok (.iload_n 2, 1) := by decide +kernel
theorem dX7_sightsOf_15 : decode cX7_sightsOf 15 = .ok (.aload_n 0, 1) := by decide +kernel
theorem dX7_sightsOf_16 : decode cX7_sightsOf 16 = .ok (.iload_n 3, 1) := by decide +kernel
theorem dX7_sightsOf_17 : decode cX7_sightsOf 17 = .ok (.iconst 0, 1) := by decide +kernel
theorem dX7_sightsOf_18 : decode cX7_sightsOf 18 = .ok (.invokevirtual 211, 3) := by decide +kernel
theorem dX7_sightsOf_21 : decode cX7_sightsOf 21 = .ok (.iload_n 1, 1) := by decide +kernel
theorem dX7_sightsOf_22 : decode cX7_sightsOf 22 = .ok (.if_icmp .ne 7, 3) := by decide +kernel
theorem dX7_sightsOf_25 : decode cX7_sightsOf 25 = .ok (.iconst 1, 1) := by decide +kernel
theorem dX7_sightsOf_26 : decode cX7_sightsOf 26 = .ok (.goto 4, 3) := by decide +kernel
theorem dX7_sightsOf_29 : decode cX7_sightsOf 29 = .ok (.iconst 0, 1) := by decide +kernel
theorem dX7_sightsOf_30 : decode cX7_sightsOf 30 = .ok (.iadd, 1) := by decide +kernel
theorem dX7_sightsOf_31 : decode cX7_sightsOf 31 = .ok (.istore_n 2, 1) := by decide +kernel
theorem dX7_sightsOf_32 : decode cX7_sightsOf 32 = .ok (.iinc 3 1, 3) := by decide +kernel
theorem dX7_sightsOf_35 : decode cX7_sightsOf 35 = .ok (.goto (-31), 3) := by decide +kernel
theorem dX7_sightsOf_38 : decode cX7_sightsOf 38 = .ok (.iload_n 2, 1) := by decide +kernel
theorem dX7_sightsOf_39 : decode cX7_sightsOf 39 = .ok (.ireturn, 1) := by decide +kernel
set_option maxRecDepth 20000 in
theorem ggX7_isThere_X7_isIn : GoodIn wsX7_isThere wsX7_isIn := goodIn_r _ [5] (by decide +kernel) (by decide +kernel)
set_option maxRecDepth 20000 in
theorem gX7_isThere_X7_isIn : GoodIn wsX7_isThere (va_wsS RX7 52 yX7_isIn wsX7_isIn) := goodIn_app (goodIn_of _ (by decide +kernel)) ggX7_isThere_X7_isIn
set_option maxRecDepth 20000 in
theorem ggX7_isThere_X7_looksAt : GoodIn wsX7_isThere wsX7_looksAt := goodIn_r _ [9, 10, 11, 12, 4, 13, 14, 15, 16, 17, 18, 19, 20, 21, 22, 23, 24, 25, 26, 27, 28, 29, 30, 31, 32, 33, 34, 35, 36, 37, 38, 39, 40, 41, 42, 43, 44, 45, 46, 47, 48, 49, 50, 51, 52, 53, 54, 55, 56, 57, 61, 62, 63, 64, 65, 66, 67, 68, 69, 70, 71, 72, 73, 74, 75, 76, 77, 78, 79, 80, 81, 82, 83, 84, 85, 86, 87, 88, 89] (by decide +kernel) (by decide +kernel)
set_option maxRecDepth 20000 in
theorem gX7_isThere_X7_looksAt : GoodIn wsX7_isThere (wsV RX7 257 RX7 yX7_looksAt wsX7_looksAt) := goodIn_app (goodIn_of _ (by decide +kernel)) ggX7_isThere_X7_looksAt
set_option maxRecDepth 20000 in
theorem ggX7_isThere_X7_isEvent : GoodIn wsX7_isThere wsX7_isEvent := goodIn_r _ [60] (by decide +kernel) (by decide +kernel)
set_option maxRecDepth 20000 in
theorem gX7_isThere_X7_isEvent : GoodIn wsX7_isThere (va_wsS RX7 260 yX7_isEvent wsX7_isEvent) := goodIn_app (goodIn_of _ (by decide +kernel)) ggX7_isThere_X7_isEvent
theorem dX7_isThere_0 : decode cX7_isThere 0 = .ok (.iload_n 3, 1) := by decide +kernel
theorem dX7_isThere_1 : decode cX7_isThere 1 = .ok (.iconst 1, 1) := by decide +kernel
theorem dX7_isThere_2 : decode cX7_isThere 2 = .ok (.ldc 174, 2) := by decide +kernel
theorem dX7_isThere_4 : decode cX7_isThere 4 = .ok (.invokestatic 52, 3) := by decide +kernel
theorem dX7_isThere_7 : decode cX7_isThere 7 = .ok (.ifCond .eq 28, 3) := by decide +kernel
theorem dX7_isThere_10 : decode cX7_isThere 10 = .ok (.iload_n 2, 1) := by decide +kernel
theorem dX7_isThere_11 : decode cX7_isThere 11 = .ok (.aload_n 0, 1) := by decide +kernel
theorem dX7_isThere_12 : decode cX7_isThere 12 = .ok (.iload_n 1, 1) := by decide +kernel
theorem dX7_isThere_13 : decode cX7_isThere 13 = .ok (.iload_n 3, 1) := by decide +kernel
theorem dX7_isThere_14 : decode cX7_isThere 14 = .ok (.iconst 1, 1) := by decide +kernel
theorem dX7_isThere_15 : decode cX7_isThere 15 = .ok (.isub, 1) := by decide +kernel
theorem dX7_isThere_16 : decode cX7_isThere 16 = .ok (.invokevirtual 257, 3) := by decide +kernel
theorem dX7_isThere_19 : decode cX7_isThere 19 = .ok (.aload_n 0, 1) := by decide +kernel
theorem dX7_isThere_20 : decode cX7_isThere 20 = .ok (.iload_n 1, 1) := by decide +kernel
theorem dX7_isThere_21 : decode cX7_isThere 21 = .ok (.iload_n 3, 1) := by decide +kernel
theorem dX7_isThere_22 : decode cX7_isThere 22 = .ok (.invokevirtual 257, 3) := by decide +kernel
theorem dX7_isThere_25 : decode cX7_isThere 25 = .ok (.invokestatic 260, 3) := by decide +kernel
theorem dX7_isThere_28 : decode cX7_isThere 28 = .ok (.ifCond .eq 7, 3) := by decide +kernel
theorem dX7_isThere_31 : decode cX7_isThere 31 = .ok (.iconst 1, 1) := by decide +kernel
theorem dX7_isThere_32 : decode cX7_isThere 32 = .ok (.goto 4, 3) := by decide +kernel
theorem dX7_isThere_35 : decode cX7_isThere 35 = .ok (.iconst 0, 1) := by decide +kernel
theorem dX7_isThere_36 : decode cX7_isThere 36 = .ok (.ireturn, 1) := by decide +kernel
set_option maxRecDepth 20000 in
theorem ggX7_offOf_X7_inSight : GoodIn wsX7_offOf wsX7_inSight := goodIn_r _ [6, 7, 70, 71, 72, 73, 74, 75, 76, 77, 78, 79, 80, 81, 82, 83, 84, 85, 86, 87, 88, 89, 90, 91, 92, 93, 94, 95, 96, 97, 98] (by decide +kernel) (by decide +kernel)
set_option maxRecDepth 20000 in
theorem gX7_offOf_X7_inSight : GoodIn wsX7_offOf (wsV RX7 211 RX7 yX7_inSight wsX7_inSight) := goodIn_app (goodIn_of _ (by decide +kernel)) ggX7_offOf_X7_inSight
set_option maxRecDepth 20000 in
theorem ggX7_offOf_X7_isThere : GoodIn wsX7_offOf wsX7_isThere := goodIn_r _ [11, 12, 13, 14, 5, 15, 16, 17, 18, 19, 20, 21, 22, 23, 24, 25, 26, 27, 28, 29, 30, 31, 32, 33, 34, 35, 7, 36, 37, 38, 39, 40, 41, 42, 43, 44, 45, 46, 47, 48, 49, 50, 51, 52, 53, 54, 55, 56, 57, 58, 59, 60, 61, 62, 63, 64, 65, 66, 67, 68, 69, 70, 71, 72, 73, 74, 75, 76, 77, 78, 79, 80, 81, 82, 83, 84, 85, 86, 87, 88, 89, 90, 91, 92, 93, 94, 95, 96, 97, 98] (by decide +kernel) (by decide +kernel)
set_option maxRecDepth 20000 in
theorem gX7_offOf_X7_isThere : GoodIn wsX7_offOf (wsV RX7 263 RX7 yX7_isThere wsX7_isThere) := goodIn_app (goodIn_of _ (by decide +kernel)) ggX7_offOf_X7_isThere
theorem dX7_offOf_0 : decode cX7_offOf 0 = .ok (.aload_n 0, 1) := by decide +kernel
theorem dX7_offOf_1 : decode cX7_offOf 1 = .ok (.iload_n 1, 1) := by decide +kernel
theorem dX7_offOf_2 : decode cX7_offOf 2 = .ok (.iconst 0, 1) := by decide +kernel
theorem dX7_offOf_3 : decode cX7_offOf 3 = .ok (.invokevirtual 211, 3) := by decide +kernel
theorem dX7_offOf_6 : decode cX7_offOf 6 = .ok (.istore_n 2, 1) := by decide +kernel
theorem dX7_offOf_7 : decode cX7_offOf 7 = .ok (.iconst 0, 1) := by decide +kernel
theorem dX7_offOf_8 : decode cX7_offOf 8 = .ok (.istore_n 3, 1) := by decide +kernel
theorem dX7_offOf_9 : decode cX7_offOf 9 = .ok (.iload_n 3, 1) := by decide +kernel
theorem dX7_offOf_10 : decode cX7_offOf 10 = .ok (.sipush 400, 3) := by decide +kernel
theorem dX7_offOf_13 : decode cX7_offOf 13 = .ok (.if_icmp .gt 58, 3) := by decide +kernel
theorem dX7_offOf_16 : decode cX7_offOf 16 = .ok (.aload_n 0, 1) := by decide +kernel
theorem dX7_offOf_17 : decode cX7_offOf 17 = .ok (.iload_n 2, 1) := by decide +kernel
theorem dX7_offOf_18 : decode cX7_offOf 18 = .ok (.aload_n 0, 1) := by decide +kernel
theorem dX7_offOf_19 : decode cX7_offOf 19 = .ok (.iload_n 1, 1) := by decide +kernel
theorem dX7_offOf_20 : decode cX7_offOf 20 = .ok (.iconst 1, 1) := by decide +kernel
theorem dX7_offOf_21 : decode cX7_offOf 21 = .ok (.invokevirtual 211, 3) := by decide +kernel
theorem dX7_offOf_24 : decode cX7_offOf 24 = .ok (.aload_n 0, 1) := by decide +kernel
theorem dX7_offOf_25 : decode cX7_offOf 25 = .ok (.iload_n 1, 1) := by decide +kernel
theorem dX7_offOf_26 : decode cX7_offOf 26 = .ok (.iconst 2, 1) := by decide +kernel
theorem dX7_offOf_27 : decode cX7_offOf 27 = .ok (.invokevirtual 211, 3) := by decide +kernel
theorem dX7_offOf_30 : decode cX7_offOf 30 = .ok (.iload_n 3, 1) := by decide +kernel
theorem dX7_offOf_31 : decode cX7_offOf 31 = .ok (.isub, 1) := by decide +kernel
theorem dX7_offOf_32 : decode cX7_offOf 32 = .ok (.invokevirtual 263, 3) := by decide +kernel
theorem dX7_offOf_35 : decode cX7_offOf 35 = .ok (.ifCond .eq 6, 3) := by decide +kernel
theorem dX7_offOf_38 : decode cX7_offOf 38 = .ok (.iload_n 3, 1) := by decide +kernel
theorem dX7_offOf_39 : decode cX7_offOf 39 = .ok (.ineg, 1) := by decide +kernel
theorem dX7_offOf_40 : decode cX7_offOf 40 = .ok (.ireturn, 1) := by decide +kernel
theorem dX7_offOf_41 : decode cX7_offOf 41 = .ok (.aload_n 0, 1) := by decide +kernel
theorem dX7_offOf_42 : decode cX7_offOf 42 = .ok (.iload_n 2, 1) := by decide +kernel
theorem dX7_offOf_43 : decode cX7_offOf 43 = .ok (.aload_n 0, 1) := by decide +kernel
theorem dX7_offOf_44 : decode cX7_offOf 44 = .ok (.iload_n 1, 1) := by decide +kernel
theorem dX7_offOf_45 : decode cX7_offOf 45 = .ok (.iconst 1, 1) := by decide +kernel
theorem dX7_offOf_46 : decode cX7_offOf 46 = .ok (.invokevirtual 211, 3) := by decide +kernel
theorem dX7_offOf_49 : decode cX7_offOf 49 = .ok (.aload_n 0, 1) := by decide +kernel
theorem dX7_offOf_50 : decode cX7_offOf 50 = .ok (.iload_n 1, 1) := by decide +kernel
theorem dX7_offOf_51 : decode cX7_offOf 51 = .ok (.iconst 2, 1) := by decide +kernel
theorem dX7_offOf_52 : decode cX7_offOf 52 = .ok (.invokevirtual 211, 3) := by decide +kernel
theorem dX7_offOf_55 : decode cX7_offOf 55 = .ok (.iload_n 3, 1) := by decide +kernel
theorem dX7_offOf_56 : decode cX7_offOf 56 = .ok (.iadd, 1) := by decide +kernel
theorem dX7_offOf_57 : decode cX7_offOf 57 = .ok (.invokevirtual 263, 3) := by decide +kernel
theorem dX7_offOf_60 : decode cX7_offOf 60 = .ok (.ifCond .eq 5, 3) := by decide +kernel
theorem dX7_offOf_63 : decode cX7_offOf 63 = .ok (.iload_n 3, 1) := by decide +kernel
theorem dX7_offOf_64 : decode cX7_offOf 64 = .ok (.ireturn, 1) := by decide +kernel
theorem dX7_offOf_65 : decode cX7_offOf 65 = .ok (.iinc 3 1, 3) := by decide +kernel
theorem dX7_offOf_68 : decode cX7_offOf 68 = .ok (.goto (-59), 3) := by decide +kernel
theorem dX7_offOf_71 : decode cX7_offOf 71 = .ok (.ldc_w 266, 3) := by decide +kernel
theorem dX7_offOf_74 : decode cX7_offOf 74 = .ok (.ireturn, 1) := by decide +kernel
set_option maxRecDepth 20000 in
theorem ggX7_burdenOf_X7_inSight : GoodIn wsX7_burdenOf wsX7_inSight := goodIn_r _ [7, 1, 74, 75, 76, 77, 78, 79, 80, 81, 82, 83, 84, 85, 86, 87, 88, 89, 90, 91, 92, 93, 94, 95, 96, 97, 98, 99, 100, 101, 102] (by decide +kernel) (by decide +kernel)
set_option maxRecDepth 20000 in
theorem gX7_burdenOf_X7_inSight : GoodIn wsX7_burdenOf (wsV RX7 211 RX7 yX7_inSight wsX7_inSight) := goodIn_app (goodIn_of _ (by decide +kernel)) ggX7_burdenOf_X7_inSight
set_option maxRecDepth 20000 in
theorem ggX7_burdenOf_X7_offOf : GoodIn wsX7_burdenOf wsX7_offOf := goodIn_r _ [11, 2, 3, 4, 5, 6, 7, 1, 12, 13, 14, 15, 16, 17, 18, 19, 20, 21, 22, 23, 24, 25, 26, 27, 28, 29, 30, 31, 32, 33, 34, 35, 36, 37, 38, 39, 40, 41, 42, 43, 44, 45, 46, 47, 48, 49, 50, 51, 52, 53, 54, 55, 56, 57, 58, 59, 60, 61, 62, 63, 64, 65, 66, 67, 68, 69, 70, 71, 72, 73, 74, 75, 76, 77, 78, 79, 80, 81, 82, 83, 84, 85, 86, 87, 88, 89, 90, 91, 92, 93, 94, 95, 96, 97, 98, 99, 100, 101, 102] (by decide +kernel) (by decide +kernel)
set_option maxRecDepth 20000 in
theorem gX7_burdenOf_X7_offOf : GoodIn wsX7_burdenOf (wsV RX7 267 RX7 yX7_offOf wsX7_offOf) := goodIn_app (goodIn_of _ (by decide +kernel)) ggX7_burdenOf_X7_offOf
theorem dX7_burdenOf_0 : decode cX7_burdenOf 0 = .ok (.iconst 0, 1) := by decide +kernel
theorem dX7_burdenOf_1 : decode cX7_burdenOf 1 = .ok (.istore_n 2, 1) := by decide +kernel
theorem dX7_burdenOf_2 : decode cX7_burdenOf 2 = .ok (.iconst 0, 1) := by decide +kernel
theorem dX7_burdenOf_3 : decode cX7_burdenOf 3 = .ok (.istore_n 3, 1) := by decide +kernel
theorem dX7_burdenOf_4 : decode cX7_burdenOf 4 = .ok (.iload_n 3, 1) := by decide +kernel
theorem dX7_burdenOf_5 : decode cX7_burdenOf 5 = .ok (.aload_n 0, 1) := by decide +kernel
theorem dX7_burdenOf_6 : decode cX7_burdenOf 6 = .ok (.getfield 7, 3) := by decide +kernel
theorem dX7_burdenOf_9 : decode cX7_burdenOf 9 = .ok (.iconst 4, 1) := by decide +kernel
theorem dX7_burdenOf_10 : decode cX7_burdenOf 10 = .ok (.iaload, 1) := by decide +kernel
theorem dX7_burdenOf_11 : decode cX7_burdenOf 11 = .ok (.if_icmp .ge 59, 3) := by decide +kernel
theorem dX7_burdenOf_14 : decode cX7_burdenOf 14 = .ok (.aload_n 0, 1) := by decide +kernel
theorem dX7_burdenOf_15 : decode cX7_burdenOf 15 = .ok (.iload_n 3, 1) := by decide +kernel
theorem dX7_burdenOf_16 : decode cX7_burdenOf 16 = .ok (.iconst 0, 1) := by decide +kernel
theorem dX7_burdenOf_17 : decode cX7_burdenOf 17 = .ok (.invokevirtual 211, 3) := by decide +kernel
theorem dX7_burdenOf_20 : decode cX7_burdenOf 20 = .ok (.iload_n 1, 1) := by decide +kernel
theorem dX7_burdenOf_21 : decode cX7_burdenOf 21 = .ok (.if_icmp .eq 6, 3) := by decide +kernel
theorem dX7_burdenOf_24 : decode cX7_burdenOf 24 = .ok (.goto 40, 3) := by decide +kernel
theorem dX7_burdenOf_27 : decode cX7_burdenOf 27 = .ok (.aload_n 0, 1) := by decide +kernel
theorem dX7_burdenOf_28 : decode cX7_burdenOf 28 = .ok (.iload_n 3, 1) := by decide +kernel
theorem dX7_burdenOf_29 : decode cX7_burdenOf 29 = .ok (.invokevirtual 267, 3) := by decide +kernel
theorem dX7_burdenOf_32 : decode cX7_burdenOf 32 = .ok (.istore 4, 2) := by decide +kernel
theorem dX7_burdenOf_34 : decode cX7_burdenOf 34 = .ok (.iload_n 2, 1) := by decide +kernel
theorem dX7_burdenOf_35 : decode cX7_burdenOf 35 = .ok (.iload 4, 2) := by decide +kernel
theorem dX7_burdenOf_37 : decode cX7_burdenOf 37 = .ok (.ldc_w 266, 3) := by decide +kernel
theorem dX7_burdenOf_40 : decode cX7_burdenOf 40 = .ok (.if_icmp .ne 9, 3) := by decide +kernel
theorem dX7_burdenOf_43 : decode cX7_burdenOf 43 = .ok (.sipush 401, 3) := by decide +kernel
theorem dX7_burdenOf_46 : decode cX7_burdenOf 46 = .ok (.goto 16, 3) := by decide +kernel
theorem dX7_burdenOf_49 : decode cX7_burdenOf 49 = .ok (.iload 4, 2) := by decide +kernel
theorem dX7_burdenOf_51 : decode cX7_burdenOf 51 = .ok (.ifCond .ge 9, 3) := by decide +kernel
theorem dX7_burdenOf_54 : decode cX7_burdenOf 54 = .ok (.iload 4, 2) := by decide +kernel
theorem dX7_burdenOf_56 : decode cX7_burdenOf 56 = .ok (.ineg, 1) := by decide +kernel
theorem dX7_burdenOf_57 : decode cX7_burdenOf 57 = .ok (.goto 5, 3) := by decide +kernel
theorem dX7_burdenOf_60 : decode cX7_burdenOf 60 = .ok (.iload 4, 2) := by decide +kernel
theorem dX7_burdenOf_62 : decode cX7_burdenOf 62 = .ok (.iadd, 1) := by decide +kernel
theorem dX7_burdenOf_63 : decode cX7_burdenOf 63 = .ok (.istore_n 2, 1) := by decide +kernel
theorem dX7_burdenOf_64 : decode cX7_burdenOf 64 = .ok (.iinc 3 1, 3) := by decide +kernel
theorem dX7_burdenOf_67 : decode cX7_burdenOf 67 = .ok (.goto (-63), 3) := by decide +kernel
theorem dX7_burdenOf_70 : decode cX7_burdenOf 70 = .ok (.iload_n 2, 1) := by decide +kernel
theorem dX7_burdenOf_71 : decode cX7_burdenOf 71 = .ok (.ireturn, 1) := by decide +kernel
set_option maxRecDepth 20000 in
theorem ggX7_lostOnes_X7_offOf : GoodIn wsX7_lostOnes wsX7_offOf := goodIn_r _ [7, 2, 8, 9, 10, 6, 11, 1, 12, 13, 14, 15, 16, 17, 18, 19, 20, 21, 22, 23, 24, 25, 26, 27, 28, 29, 30, 31, 32, 33, 34, 35, 36, 37, 38, 39, 40, 41, 42, 43, 44, 45, 46, 47, 48, 49, 50, 51, 52, 53, 54, 55, 56, 57, 58, 59, 60, 61, 62, 63, 64, 65, 66, 67, 68, 69, 70, 71, 72, 73, 74, 75, 76, 77, 78, 79, 80, 81, 82, 83, 84, 85, 86, 87, 88, 89, 90, 91, 92, 93, 94, 95, 96, 97, 98, 99, 100, 101, 102] (by decide +kernel) (by decide +kernel)
set_option maxRecDepth 20000 in
theorem gX7_lostOnes_X7_offOf : GoodIn wsX7_lostOnes (wsV RX7 267 RX7 yX7_offOf wsX7_offOf) := goodIn_app (goodIn_of _ (by decide +kernel)) ggX7_lostOnes_X7_offOf
theorem dX7_lostOnes_0 : decode cX7_lostOnes 0 = .ok (.iconst 0, 1) := by decide +kernel
theorem dX7_lostOnes_1 : decode cX7_lostOnes 1 = .ok (.istore_n 1, 1) := by decide +kernel
theorem dX7_lostOnes_2 : decode cX7_lostOnes 2 = .ok (.iconst 0, 1) := by decide +kernel
theorem dX7_lostOnes_3 : decode cX7_lostOnes 3 = .ok (.istore_n 2, 1) := by decide +kernel
theorem dX7_lostOnes_4 : decode cX7_lostOnes 4 = .ok (.iload_n 2, 1) := by decide +kernel
theorem dX7_lostOnes_5 : decode cX7_lostOnes 5 = .ok (.aload_n 0, 1) := by decide +kernel
theorem dX7_lostOnes_6 : decode cX7_lostOnes 6 = .ok (.getfield 7, 3) := by decide +kernel
theorem dX7_lostOnes_9 : decode cX7_lostOnes 9 = .ok (.iconst 4, 1) := by decide +kernel
theorem dX7_lostOnes_10 : decode cX7_lostOnes 10 = .ok (.iaload, 1) := by decide +kernel
theorem dX7_lostOnes_11 : decode cX7_lostOnes 11 = .ok (.if_icmp .ge 28, 3) := by decide +kernel
theorem dX7_lostOnes_14 : decode cX7_lostOnes 14 = .ok (.iload_n 1, 1) := by decide +kernel
theorem dX7_lostOnes_15 : decode cX7_lostOnes 15 = .ok (.aload_n 0, 1) := by decide +kernel
theorem dX7_lostOnes_16 : decode cX7_lostOnes 16 = .ok (.iload_n 2, 1) := by decide +kernel
theorem dX7_lostOnes_17 : decode cX7_lostOnes 17 = .ok (.invokevirtual 267, 3) := by decide +kernel
theorem dX7_lostOnes_20 : decode cX7_lostOnes 20 = .ok (.ldc_w 266, 3) := by decide +kernel
theorem dX7_lostOnes_23 : decode cX7_lostOnes 23 = .ok (.if_icmp .ne 7, 3) := by decide +kernel
theorem dX7_lostOnes_26 : decode cX7_lostOnes 26 = .ok (.iconst 1, 1) := by decide +kernel
theorem dX7_lostOnes_27 : decode cX7_lostOnes 27 = .ok (.goto 4, 3) := by decide +kernel
theorem dX7_lostOnes_30 : decode cX7_lostOnes 30 = .ok (.iconst 0, 1) := by decide +kernel
theorem dX7_lostOnes_31 : decode cX7_lostOnes 31 = .ok (.iadd, 1) := by decide +kernel
theorem dX7_lostOnes_32 : decode cX7_lostOnes 32 = .ok (.istore_n 1, 1) := by decide +kernel
theorem dX7_lostOnes_33 : decode cX7_lostOnes 33 = .ok (.iinc 2 1, 3) := by decide +kernel
theorem dX7_lostOnes_36 : decode cX7_lostOnes 36 = .ok (.goto (-32), 3) := by decide +kernel
theorem dX7_lostOnes_39 : decode cX7_lostOnes 39 = .ok (.iload_n 1, 1) := by decide +kernel
theorem dX7_lostOnes_40 : decode cX7_lostOnes 40 = .ok (.ireturn, 1) := by decide +kernel
set_option maxRecDepth 20000 in
theorem ggX7_count_X7_isIn : GoodIn wsX7_count wsX7_isIn := goodIn_r _ [6] (by decide +kernel) (by decide +kernel)
set_option maxRecDepth 20000 in
theorem gX7_count_X7_isIn : GoodIn wsX7_count (va_wsS RX7 52 yX7_isIn wsX7_isIn) := goodIn_app (goodIn_of _ (by decide +kernel)) ggX7_count_X7_isIn
set_option maxRecDepth 20000 in
theorem ggX7_count_X7_lostOnes : GoodIn wsX7_count wsX7_lostOnes := goodIn_r _ [10, 2, 11, 12, 13, 14, 5, 15, 16, 17, 18, 19, 20, 21, 22, 23, 24, 3, 4, 6, 25, 26, 27, 28, 29, 30, 31, 32, 33, 34, 35, 36, 37, 38, 39, 40, 41, 42, 43, 44, 45, 46, 47, 48, 49, 50, 51, 52, 53, 54, 55, 56, 57, 58, 59, 60, 61, 62, 63, 64, 65, 66, 67, 68, 69, 70, 71, 72, 73, 74, 75, 76, 77, 78, 79, 80, 81, 82, 83, 84, 85, 86, 87, 88, 89, 90, 91, 92, 93, 94, 95, 96, 97, 98, 99, 100, 101, 102, 103, 104, 105, 106, 107] (by decide +kernel) (by decide +kernel)
set_option maxRecDepth 20000 in
theorem gX7_count_X7_lostOnes : GoodIn wsX7_count (wsV RX7 270 RX7 yX7_lostOnes wsX7_lostOnes) := goodIn_app (goodIn_of _ (by decide +kernel)) ggX7_count_X7_lostOnes
theorem dX7_count_0 : decode cX7_count 0 = .ok (.aload_n 0, 1) := by decide +kernel
theorem dX7_count_1 : decode cX7_count 1 = .ok (.iload_n 1, 1) := by decide +kernel
theorem dX7_count_2 : decode cX7_count 2 = .ok (.iconst 0, 1) := by decide +kernel
theorem dX7_count_3 : decode cX7_count 3 = .ok (.iconst 5, 1) := by decide +kernel
theorem dX7_count_4 : decode cX7_count 4 = .ok (.invokestatic 52, 3) := by decide +kernel
theorem dX7_count_7 : decode cX7_count 7 = .ok (.ifCond .eq 7, 3) := by decide +kernel
theorem dX7_count_10 : decode cX7_count 10 = .ok (.iconst 0, 1) := by decide +kernel
theorem dX7_count_11 : decode cX7_count 11 = .ok (.goto 4, 3) := by decide +kernel
theorem dX7_count_14 : decode cX7_count 14 = .ok (.iconst 1, 1) := by decide +kernel
theorem dX7_count_15 : decode cX7_count 15 = .ok (.putfield 42, 3) := by decide +kernel
theorem dX7_count_18 : decode cX7_count 18 = .ok (.aload_n 0, 1) := by decide +kernel
theorem dX7_count_19 : decode cX7_count 19 = .ok (.getfield 42, 3) := by decide +kernel
theorem dX7_count_22 : decode cX7_count 22 = .ok (.ifCond .le 5, 3) := by decide +kernel
theorem dX7_count_25 : decode cX7_count 25 = .ok (.iconst 0, 1) := by decide +kernel
theorem dX7_count_26 : decode cX7_count 26 = .ok (.ireturn, 1) := by decide +kernel
theorem dX7_count_27 : decode cX7_count 27 = .ok (.iload_n 1, 1) := by decide +kernel
theorem dX7_count_28 : decode cX7_count 28 = .ok (.iconst 5, 1) := by decide +kernel
theorem dX7_count_29 : decode cX7_count 29 = .ok (.if_icmp .ge 12, 3) := by decide +kernel
theorem dX7_count_32 : decode cX7_count 32 = .ok (.aload_n 0, 1) := by decide +kernel
theorem dX7_count_33 : decode cX7_count 33 = .ok (.getfield 7, 3) := by decide +kernel
theorem dX7_count_36 : decode cX7_count 36 = .ok (.iload_n 1, 1) := by decide +kernel
theorem dX7_count_37 : decode cX7_count 37 = .ok (.iaload, 1) := by decide +kernel
theorem dX7_count_38 : decode cX7_count 38 = .ok (.goto 7, 3) := by decide +kernel
theorem dX7_count_41 : decode cX7_count 41 = .ok (.aload_n 0, 1) := by decide +kernel
theorem dX7_count_42 : decode cX7_count 42 = .ok (.invokevirtual 270, 3) := by decide +kernel
theorem dX7_count_45 : decode cX7_count 45 = .ok (.ireturn, 1) := by decide +kernel
set_option maxRecDepth 20000 in
theorem ggX7_moon_X7_isMoon : GoodIn wsX7_moon wsX7_isMoon := goodIn_r _ [6, 7, 8, 9, 5, 10, 87, 88, 89, 90, 91, 92, 93, 94, 95, 96, 97, 98, 99, 100, 101, 102, 103, 104, 105, 106, 107, 108, 109, 110, 111, 112, 113, 114, 115] (by decide +kernel) (by decide +kernel)
set_option maxRecDepth 20000 in
theorem gX7_moon_X7_isMoon : GoodIn wsX7_moon (wsV RX7 273 RX7 yX7_isMoon wsX7_isMoon) := goodIn_app (goodIn_of _ (by decide +kernel)) ggX7_moon_X7_isMoon
set_option maxRecDepth 20000 in
theorem ggX7_moon_X7_isIn : GoodIn wsX7_moon wsX7_isIn := goodIn_r _ [10] (by decide +kernel) (by decide +kernel)
set_option maxRecDepth 20000 in
theorem gX7_moon_X7_isIn : GoodIn wsX7_moon (va_wsS RX7 52 yX7_isIn wsX7_isIn) := goodIn_app (goodIn_of _ (by decide +kernel)) ggX7_moon_X7_isIn
set_option maxRecDepth 20000 in
theorem ggX7_moon_X7_of : GoodIn wsX7_moon wsX7_of := goodIn_r _ [14, 7, 87, 88, 89, 90, 91, 92, 93, 94, 95, 96, 97, 98, 99, 100, 101, 102, 103, 104, 105, 106, 107, 108, 109, 110, 111, 112, 113, 114, 115] (by decide +kernel) (by decide +kernel)
set_option maxRecDepth 20000 in
theorem gX7_moon_X7_of : GoodIn wsX7_moon (wsV RX7 128 RX7 yX7_of wsX7_of) := goodIn_app (goodIn_of _ (by decide +kernel)) ggX7_moon_X7_of
set_option maxRecDepth 20000 in
theorem ggX7_moon_X7_sightsOf : GoodIn wsX7_moon wsX7_sightsOf := goodIn_r _ [18, 7, 19, 20, 21, 5, 22, 87, 88, 89, 90, 91, 92, 93, 94, 95, 96, 97, 98, 99, 100, 101, 102, 103, 104, 105, 106, 107, 108, 109, 110, 111, 112, 113, 114, 115] (by decide +kernel) (by decide +kernel)
set_option maxRecDepth 20000 in
theorem gX7_moon_X7_sightsOf : GoodIn wsX7_moon (wsV RX7 276 RX7 yX7_sightsOf wsX7_sightsOf) := goodIn_app (goodIn_of _ (by decide +kernel)) ggX7_moon_X7_sightsOf
set_option maxRecDepth 20000 in
theorem ggX7_moon_X7_burdenOf : GoodIn wsX7_moon wsX7_burdenOf := goodIn_r _ [26, 7, 27, 19, 20, 21, 5, 22, 28, 29, 30, 31, 32, 33, 34, 35, 36, 8, 9, 10, 37, 38, 39, 40, 41, 42, 43, 44, 45, 46, 47, 48, 49, 50, 51, 52, 11, 12, 13, 14, 53, 54, 55, 56, 57, 58, 59, 60, 61, 62, 63, 64, 65, 66, 67, 68, 69, 70, 71, 72, 73, 74, 75, 76, 77, 78, 79, 80, 81, 82, 83, 84, 85, 86, 87, 88, 89, 90, 91, 92, 93, 94, 95, 96, 97, 98, 99, 100, 101, 102, 103, 104, 105, 106, 107, 108, 109, 110, 111, 112, 113, 114, 115] (by decide +kernel) (by decide +kernel)
set_option maxRecDepth 20000 in
theorem gX7_moon_X7_burdenOf : GoodIn wsX7_moon (wsV RX7 279 RX7 yX7_burdenOf wsX7_burdenOf) := goodIn_app (goodIn_of _ (by decide +kernel)) ggX7_moon_X7_burdenOf
theorem dX7_moon_0 : decode cX7_moon 0 = .ok (.aload_n 0, 1) := by decide +kernel
theorem dX7_moon_1 : decode cX7_moon 1 = .ok (.aload_n 0, 1) := by decide +kernel
theorem dX7_moon_2 : decode cX7_moon 2 = .ok (.iload_n 1, 1) := by decide +kernel
theorem dX7_moon_3 : decode cX7_moon 3 = .ok (.invokevirtual 273, 3) := by decide +kernel
theorem dX7_moon_6 : decode cX7_moon 6 = .ok (.ifCond .ne 7, 3) := by decide +kernel
theorem dX7_moon_9 : decode cX7_moon 9 = .ok (.iconst 1, 1) := by decide +kernel
theorem dX7_moon_10 : decode cX7_moon 10 = .ok (.goto 18, 3) := by decide +kernel
theorem dX7_moon_13 : decode cX7_moon 13 = .ok (.iload_n 2, 1) := by decide +kernel
theorem dX7_moon_14 : decode cX7_moon 14 = .ok (.iconst 0, 1) := by decide +kernel
theorem dX7_moon_15 : decode cX7_moon 15 = .ok (.bipush 7, 2) := by decide +kernel
theorem dX7_moon_17 : decode cX7_moon 17 = .ok (.invokestatic 52, 3) := by decide +kernel
theorem dX7_moon_20 : decode cX7_moon 20 = .ok (.ifCond .eq 7, 3) := by decide +kernel
theorem dX7_moon_23 : decode cX7_moon 23 = .ok (.iconst 0, 1) := by decide +kernel
theorem dX7_moon_24 : decode cX7_moon 24 = .ok (.goto 4, 3) := by decide +kernel
theorem dX7_moon_27 : decode cX7_moon 27 = .ok (.iconst 2, 1) := by decide +kernel
theorem dX7_moon_28 : decode cX7_moon 28 = .ok (.putfield 42, 3) := by decide +kernel
theorem dX7_moon_31 : decode cX7_moon 31 = .ok (.aload_n 0, 1) := by decide +kernel
theorem dX7_moon_32 : decode cX7_moon 32 = .ok (.getfield 42, 3) := by decide +kernel
theorem dX7_moon_35 : decode cX7_moon 35 = .ok (.ifCond .le 5, 3) := by decide +kernel
theorem dX7_moon_38 : decode cX7_moon 38 = .ok (.iconst 0, 1) := by decide +kernel
theorem dX7_moon_39 : decode cX7_moon 39 = .ok (.ireturn, 1) := by decide +kernel
theorem dX7_moon_40 : decode cX7_moon 40 = .ok (.iload_n 2, 1) := by decide +kernel
theorem dX7_moon_41 : decode cX7_moon 41 = .ok (.bipush 6, 2) := by decide +kernel
theorem dX7_moon_43 : decode cX7_moon 43 = .ok (.if_icmp .ge 12, 3) := by decide +kernel
theorem dX7_moon_46 : decode cX7_moon 46 = .ok (.aload_n 0, 1) := by decide +kernel
theorem dX7_moon_47 : decode cX7_moon 47 = .ok (.iload_n 1, 1) := by decide +kernel
theorem dX7_moon_48 : decode cX7_moon 48 = .ok (.iload_n 2, 1) := by decide +kernel
theorem dX7_moon_49 : decode cX7_moon 49 = .ok (.invokevirtual 128, 3) := by decide +kernel
theorem dX7_moon_52 : decode cX7_moon 52 = .ok (.goto 22, 3) := by decide +kernel
theorem dX7_moon_55 : decode cX7_moon 55 = .ok (.iload_n 2, 1) := by decide +kernel
theorem dX7_moon_56 : decode cX7_moon 56 = .ok (.bipush 6, 2) := by decide +kernel
theorem dX7_moon_58 : decode cX7_moon 58 = .ok (.if_icmp .ne 11, 3) := by decide +kernel
theorem dX7_moon_61 : decode cX7_moon 61 = .ok (.aload_n 0, 1) := by decide +kernel
theorem dX7_moon_62 : decode cX7_moon 62 = .ok (.iload_n 1, 1) := by decide +kernel
theorem dX7_moon_63 : decode cX7_moon 63 = .ok (.invokevirtual 276, 3) := by decide +kernel
theorem dX7_moon_66 : decode cX7_moon 66 = .ok (.goto 8, 3) := by decide +kernel
theorem dX7_moon_69 : decode cX7_moon 69 = .ok (.aload_n 0, 1) := by decide +kernel
theorem dX7_moon_70 : decode cX7_moon 70 = .ok (.iload_n 1, 1) := by decide +kernel
theorem dX7_moon_71 : decode cX7_moon 71 = .ok (.invokevirtual 279, 3) := by decide +kernel
theorem dX7_moon_74 : decode cX7_moon 74 = .ok (.ireturn, 1) := by decide +kernel
set_option maxRecDepth 20000 in
theorem ggX7_isSight_X7_isIn : GoodIn wsX7_isSight wsX7_isIn := goodIn_r _ [5] (by decide +kernel) (by decide +kernel)
set_option maxRecDepth 20000 in
theorem gX7_isSight_X7_isIn : GoodIn wsX7_isSight (va_wsS RX7 52 yX7_isIn wsX7_isIn) := goodIn_app (goodIn_of _ (by decide +kernel)) ggX7_isSight_X7_isIn
theorem dX7_isSight_0 : decode cX7_isSight 0 = .ok (.iload_n 1, 1) := by decide +kernel
theorem dX7_isSight_1 : decode cX7_isSight 1 = .ok (.iconst 0, 1) := by decide +kernel
theorem dX7_isSight_2 : decode cX7_isSight 2 = .ok (.aload_n 0, 1) := by decide +kernel
theorem dX7_isSight_3 : decode cX7_isSight 3 = .ok (.getfield 7, 3) := by decide +kernel
theorem dX7_isSight_6 : decode cX7_isSight 6 = .ok (.iconst 4, 1) := by decide +kernel
theorem dX7_isSight_7 : decode cX7_isSight 7 = .ok (.iaload, 1) := by decide +kernel
theorem dX7_isSight_8 : decode cX7_isSight 8 = .ok (.iconst 1, 1) := by decide +kernel
theorem dX7_isSight_9 : decode cX7_isSight 9 = .ok (.isub, 1) := by decide +kernel
theorem dX7_isSight_10 : decode cX7_isSight 10 = .ok (.invokestatic 52, 3) := by decide +kernel
theorem dX7_isSight_13 : decode cX7_isSight 13 = .ok (.ireturn, 1) := by decide +kernel
set_option maxRecDepth 20000 in
theorem ggX7_sight_X7_isSight : GoodIn wsX7_sight wsX7_isSight := goodIn_r _ [6, 7, 8, 9, 5, 10, 79, 80, 81, 82, 83, 84, 85, 86, 87, 88, 89, 90, 91, 92, 93, 94, 95, 96, 97, 98, 99, 100, 101, 102, 103, 104, 105, 106, 107] (by decide +kernel) (by decide +kernel)
set_option maxRecDepth 20000 in
theorem gX7_sight_X7_isSight : GoodIn wsX7_sight (wsV RX7 282 RX7 yX7_isSight wsX7_isSight) := goodIn_app (goodIn_of _ (by decide +kernel)) ggX7_sight_X7_isSight
set_option maxRecDepth 20000 in
theorem ggX7_sight_X7_isIn : GoodIn wsX7_sight wsX7_isIn := goodIn_r _ [10] (by decide +kernel) (by decide +kernel)
set_option maxRecDepth 20000 in
theorem gX7_sight_X7_isIn : GoodIn wsX7_sight (va_wsS RX7 52 yX7_isIn wsX7_isIn) := goodIn_app (goodIn_of _ (by decide +kernel)) ggX7_sight_X7_isIn
set_option maxRecDepth 20000 in
theorem ggX7_sight_X7_inSight : GoodIn wsX7_sight wsX7_inSight := goodIn_r _ [14, 7, 79, 80, 81, 82, 83, 84, 85, 86, 87, 88, 89, 90, 91, 92, 93, 94, 95, 96, 97, 98, 99, 100, 101, 102, 103, 104, 105, 106, 107] (by decide +kernel) (by decide +kernel)
set_option maxRecDepth 20000 in
theorem gX7_sight_X7_inSight : GoodIn wsX7_sight (wsV RX7 211 RX7 yX7_inSight wsX7_inSight) := goodIn_app (goodIn_of _ (by decide +kernel)) ggX7_sight_X7_inSight
set_option maxRecDepth 20000 in
theorem ggX7_sight_X7_offOf : GoodIn wsX7_sight wsX7_offOf := goodIn_r _ [18, 19, 11, 12, 13, 5, 14, 7, 20, 21, 22, 23, 24, 8, 9, 10, 25, 26, 27, 28, 29, 30, 31, 32, 33, 34, 35, 36, 37, 38, 39, 40, 41, 42, 43, 44, 45, 46, 47, 48, 49, 50, 51, 52, 53, 54, 55, 56, 57, 58, 59, 60, 61, 62, 63, 64, 65, 66, 67, 68, 69, 70, 71, 72, 73, 74, 75, 76, 77, 78, 79, 80, 81, 82, 83, 84, 85, 86, 87, 88, 89, 90, 91, 92, 93, 94, 95, 96, 97, 98, 99, 100, 101, 102, 103, 104, 105, 106, 107] (by decide +kernel) (by decide +kernel)
set_option maxRecDepth 20000 in
theorem gX7_sight_X7_offOf : GoodIn wsX7_sight (wsV RX7 267 RX7 yX7_offOf wsX7_offOf) := goodIn_app (goodIn_of _ (by decide +kernel)) ggX7_sight_X7_offOf
theorem dX7_sight_0 : decode cX7_sight 0 = .ok (.aload_n 0, 1) := by decide +kernel
theorem dX7_sight_1 : decode cX7_sight 1 = .ok (.aload_n 0, 1) := by decide +kernel
theorem dX7_sight_2 : decode cX7_sight 2 = .ok (.iload_n 1, 1) := by decide +kernel
theorem dX7_sight_3 : decode cX7_sight 3 = .ok (.invokevirtual 282, 3) := by decide +kernel
theorem dX7_sight_6 : decode cX7_sight 6 = .ok (.ifCond .ne 7, 3) := by decide +kernel
theorem dX7_sight_9 : decode cX7_sight 9 = .ok (.iconst 1, 1) := by decide +kernel
theorem dX7_sight_10 : decode cX7_sight 10 = .ok (.goto 17, 3) := by decide +kernel
theorem dX7_sight_13 : decode cX7_sight 13 = .ok (.iload_n 2, 1) := by decide +kernel
theorem dX7_sight_14 : decode cX7_sight 14 = .ok (.iconst 0, 1) := by decide +kernel
theorem dX7_sight_15 : decode cX7_sight 15 = .ok (.iconst 3, 1) := by decide +kernel
theorem dX7_sight_16 : decode cX7_sight 16 = .ok (.invokestatic 52, 3) := by decide +kernel
theorem dX7_sight_19 : decode cX7_sight 19 = .ok (.ifCond .eq 7, 3) := by decide +kernel
theorem dX7_sight_22 : decode cX7_sight 22 = .ok (.iconst 0, 1) := by decide +kernel
theorem dX7_sight_23 : decode cX7_sight 23 = .ok (.goto 4, 3) := by decide +kernel
theorem dX7_sight_26 : decode cX7_sight 26 = .ok (.iconst 2, 1) := by decide +kernel
theorem dX7_sight_27 : decode cX7_sight 27 = .ok (.putfield 42, 3) := by decide +kernel
theorem dX7_sight_30 : decode cX7_sight 30 = .ok (.aload_n 0, 1) := by decide +kernel
theorem dX7_sight_31 : decode cX7_sight 31 = .ok (.getfield 42, 3) := by decide +kernel
theorem dX7_sight_34 : decode cX7_sight 34 = .ok (.ifCond .le 5, 3) := by decide +kernel
theorem dX7_sight_37 : decode cX7_sight 37 = .ok (.iconst 0, 1) := by decide +kernel
theorem dX7_sight_38 : decode cX7_sight 38 = .ok (.ireturn, 1) := by decide +kernel
theorem dX7_sight_39 : decode cX7_sight 39 = .ok (.iload_n 2, 1) := by decide +kernel
theorem dX7_sight_40 : decode cX7_sight 40 = .ok (.iconst 3, 1) := by decide +kernel
theorem dX7_sight_41 : decode cX7_sight 41 = .ok (.if_icmp .ge 12, 3) := by decide +kernel
theorem dX7_sight_44 : decode cX7_sight 44 = .ok (.aload_n 0, 1) := by decide +kernel
theorem dX7_sight_45 : decode cX7_sight 45 = .ok (.iload_n 1, 1) := by decide +kernel
theorem dX7_sight_46 : decode cX7_sight 46 = .ok (.iload_n 2, 1) := by decide +kernel
theorem dX7_sight_47 : decode cX7_sight 47 = .ok (.invokevirtual 211, 3) := by decide +kernel
theorem dX7_sight_50 : decode cX7_sight 50 = .ok (.goto 8, 3) := by decide +kernel
theorem dX7_sight_53 : decode cX7_sight 53 = .ok (.aload_n 0, 1) := by decide +kernel
theorem dX7_sight_54 : decode cX7_sight 54 = .ok (.iload_n 1, 1) := by decide +kernel
theorem dX7_sight_55 : decode cX7_sight 55 = .ok (.invokevirtual 267, 3) := by decide +kernel
theorem dX7_sight_58 : decode cX7_sight 58 = .ok (.ireturn, 1) := by decide +kernel
set_option maxRecDepth 20000 in
theorem ggX7_sine_X7_sineOf : GoodIn wsX7_sine wsX7_sineOf := goodIn_r _ [5, 6, 7, 8, 9, 10, 11, 12, 2, 3, 4] (by decide +kernel) (by decide +kernel)
set_option maxRecDepth 20000 in
theorem gX7_sine_X7_sineOf : GoodIn wsX7_sine (va_wsS RX7 204 yX7_sineOf wsX7_sineOf) := goodIn_app (goodIn_of _ (by decide +kernel)) ggX7_sine_X7_sineOf
theorem dX7_sine_0 : decode cX7_sine 0 = .ok (.aload_n 0, 1) := by decide +kernel
theorem dX7_sine_1 : decode cX7_sine 1 = .ok (.iconst 0, 1) := by decide +kernel
theorem dX7_sine_2 : decode cX7_sine 2 = .ok (.putfield 42, 3) := by decide +kernel
theorem dX7_sine_5 : decode cX7_sine 5 = .ok (.iload_n 1, 1) := by decide +kernel
theorem dX7_sine_6 : decode cX7_sine 6 = .ok (.invokestatic 204, 3) := by decide +kernel
theorem dX7_sine_9 : decode cX7_sine 9 = .ok (.ireturn, 1) := by decide +kernel
set_option maxRecDepth 20000 in
theorem ggX7_light_X7_isTime : GoodIn wsX7_light wsX7_isTime := goodIn_r _ [5, 6, 7, 8, 4, 9] (by decide +kernel) (by decide +kernel)
set_option maxRecDepth 20000 in
theorem gX7_light_X7_isTime : GoodIn wsX7_light (va_wsS RX7 285 yX7_isTime wsX7_isTime) := goodIn_app (goodIn_of _ (by decide +kernel)) ggX7_light_X7_isTime
set_option maxRecDepth 20000 in
theorem ggX7_light_X7_lightAt : GoodIn wsX7_light wsX7_lightAt := goodIn_r _ [13, 14, 15, 16, 17, 18, 19, 20, 21, 22, 23, 24, 25, 26, 27, 28, 29, 30, 31, 32, 33, 34, 35, 36, 37, 38, 39, 40, 41, 42, 43, 44, 45, 46, 47, 48] (by decide +kernel) (by decide +kernel)
set_option maxRecDepth 20000 in
theorem gX7_light_X7_lightAt : GoodIn wsX7_light (wsV RX7 234 RX7 yX7_lightAt wsX7_lightAt) := goodIn_app (goodIn_of _ (by decide +kernel)) ggX7_light_X7_lightAt
theorem dX7_light_0 : decode cX7_light 0 = .ok (.aload_n 0, 1) := by decide +kernel
theorem dX7_light_1 : decode cX7_light 1 = .ok (.iload_n 1, 1) := by decide +kernel
theorem dX7_light_2 : decode cX7_light 2 = .ok (.invokestatic 285, 3) := by decide +kernel
theorem dX7_light_5 : decode cX7_light 5 = .ok (.ifCond .eq 7, 3) := by decide +kernel
theorem dX7_light_8 : decode cX7_light 8 = .ok (.iconst 0, 1) := by decide +kernel
theorem dX7_light_9 : decode cX7_light 9 = .ok (.goto 4, 3) := by decide +kernel
theorem dX7_light_12 : decode cX7_light 12 = .ok (.iconst 1, 1) := by decide +kernel
theorem dX7_light_13 : decode cX7_light 13 = .ok (.putfield 42, 3) := by decide +kernel
theorem dX7_light_16 : decode cX7_light 16 = .ok (.aload_n 0, 1) := by decide +kernel
theorem dX7_light_17 : decode cX7_light 17 = .ok (.getfield 42, 3) := by decide +kernel
theorem dX7_light_20 : decode cX7_light 20 = .ok (.ifCond .le 7, 3) := by decide +kernel
theorem dX7_light_23 : decode cX7_light 23 = .ok (.iconst 0, 1) := by decide +kernel
theorem dX7_light_24 : decode cX7_light 24 = .ok (.goto 8, 3) := by decide +kernel
theorem dX7_light_27 : decode cX7_light 27 = .ok (.aload_n 0, 1) := by decide +kernel
theorem dX7_light_28 : decode cX7_light 28 = .ok (.iload_n 1, 1) := by decide +kernel
theorem dX7_light_29 : decode cX7_light 29 = .ok (.invokevirtual 234, 3) := by decide +kernel
theorem dX7_light_32 : decode cX7_light 32 = .ok (.ireturn, 1) := by decide +kernel
set_option maxRecDepth 20000 in
theorem ggX7_noPlace_X7_isMoon : GoodIn wsX7_noPlace wsX7_isMoon := goodIn_r _ [5, 6, 7, 8, 4, 9, 14, 15, 16, 17, 18, 19, 20, 21, 22, 23, 24, 25, 26, 27, 28, 29, 30, 31, 32, 33, 34, 35, 36, 37, 38, 39, 40, 41, 42] (by decide +kernel) (by decide +kernel)
set_option maxRecDepth 20000 in
theorem gX7_noPlace_X7_isMoon : GoodIn wsX7_noPlace (wsV RX7 273 RX7 yX7_isMoon wsX7_isMoon) := goodIn_app (goodIn_of _ (by decide +kernel)) ggX7_noPlace_X7_isMoon
set_option maxRecDepth 20000 in
theorem ggX7_noPlace_X7_isTime : GoodIn wsX7_noPlace wsX7_isTime := goodIn_r _ [12, 13, 7, 8, 4, 9] (by decide +kernel) (by decide +kernel)
set_option maxRecDepth 20000 in
theorem gX7_noPlace_X7_isTime : GoodIn wsX7_noPlace (va_wsS RX7 285 yX7_isTime wsX7_isTime) := goodIn_app (goodIn_of _ (by decide +kernel)) ggX7_noPlace_X7_isTime
theorem dX7_noPlace_0 : decode cX7_noPlace 0 = .ok (.aload_n 0, 1) := by decide +kernel
theorem dX7_noPlace_1 : decode cX7_noPlace 1 = .ok (.iload_n 1, 1) := by decide +kernel
theorem dX7_noPlace_2 : decode cX7_noPlace 2 = .ok (.invokevirtual 273, 3) := by decide +kernel
theorem dX7_noPlace_5 : decode cX7_noPlace 5 = .ok (.ifCond .ne 7, 3) := by decide +kernel
theorem dX7_noPlace_8 : decode cX7_noPlace 8 = .ok (.iconst 1, 1) := by decide +kernel
theorem dX7_noPlace_9 : decode cX7_noPlace 9 = .ok (.goto 15, 3) := by decide +kernel
theorem dX7_noPlace_12 : decode cX7_noPlace 12 = .ok (.iload_n 2, 1) := by decide +kernel
theorem dX7_noPlace_13 : decode cX7_noPlace 13 = .ok (.invokestatic 285, 3) := by decide +kernel
theorem dX7_noPlace_16 : decode cX7_noPlace 16 = .ok (.ifCond .eq 7, 3) := by decide +kernel
theorem dX7_noPlace_19 : decode cX7_noPlace 19 = .ok (.iconst 0, 1) := by decide +kernel
theorem dX7_noPlace_20 : decode cX7_noPlace 20 = .ok (.goto 4, 3) := by decide +kernel
theorem dX7_noPlace_23 : decode cX7_noPlace 23 = .ok (.iconst 2, 1) := by decide +kernel
theorem dX7_noPlace_24 : decode cX7_noPlace 24 = .ok (.ireturn, 1) := by decide +kernel
set_option maxRecDepth 20000 in
theorem ggX7_place_X7_isMoon : GoodIn wsX7_place wsX7_isMoon := goodIn_r _ [10, 11, 12, 13, 9, 14, 55, 56, 57, 58, 59, 60, 61, 62, 63, 64, 65, 66, 67, 68, 69, 70, 71, 72, 73, 74, 75, 76, 77, 78, 79, 80, 81, 82, 83] (by decide +kernel) (by decide +kernel)
set_option maxRecDepth 20000 in
theorem gX7_place_X7_isMoon : GoodIn wsX7_place (wsV RX7 273 RX7 yX7_isMoon wsX7_isMoon) := goodIn_app (goodIn_of _ (by decide +kernel)) ggX7_place_X7_isMoon
set_option maxRecDepth 20000 in
theorem ggX7_place_X7_isIn : GoodIn wsX7_place wsX7_isIn := goodIn_r _ [14] (by decide +kernel) (by decide +kernel)
set_option maxRecDepth 20000 in
theorem gX7_place_X7_isIn : GoodIn wsX7_place (va_wsS RX7 52 yX7_isIn wsX7_isIn) := goodIn_app (goodIn_of _ (by decide +kernel)) ggX7_place_X7_isIn
set_option maxRecDepth 20000 in
theorem ggX7_place_X7_noPlace : GoodIn wsX7_place wsX7_noPlace := goodIn_r _ [18, 6, 7, 8, 9, 10, 11, 12, 13, 14, 19, 20, 21, 22, 55, 56, 57, 58, 59, 60, 61, 62, 63, 64, 65, 66, 67, 68, 69, 70, 71, 72, 73, 74, 75, 76, 77, 78, 79, 80, 81, 82, 83] (by decide +kernel) (by decide +kernel)
set_option maxRecDepth 20000 in
theorem gX7_place_X7_noPlace : GoodIn wsX7_place (wsV RX7 288 RX7 yX7_noPlace wsX7_noPlace) := goodIn_app (goodIn_of _ (by decide +kernel)) ggX7_place_X7_noPlace
set_option maxRecDepth 20000 in
theorem ggX7_place_X7_lays : GoodIn wsX7_place wsX7_lays := goodIn_r _ [26, 27, 28, 29, 30, 2, 3, 4, 5, 31, 32, 33, 9, 34, 11, 35, 36, 37, 38, 39, 40, 41, 42, 43, 44, 45, 46, 47, 48, 49, 50, 51, 52, 53, 54, 55, 56, 57, 58, 59, 60, 61, 62, 63, 64, 65, 66, 67, 68, 69, 70, 71, 72, 73, 74, 75, 76, 77, 78, 79, 80, 81, 82, 83] (by decide +kernel) (by decide +kernel)
set_option maxRecDepth 20000 in
theorem gX7_place_X7_lays : GoodIn wsX7_place (wsV RX7 247 RX7 yX7_lays wsX7_lays) := goodIn_app (goodIn_of _ (by decide +kernel)) ggX7_place_X7_lays
theorem dX7_place_0 : decode cX7_place 0 = .ok (.aload_n 0, 1) := by decide +kernel
theorem dX7_place_1 : decode cX7_place 1 = .ok (.aload_n 0, 1) := by decide +kernel
theorem dX7_place_2 : decode cX7_place 2 = .ok (.iload_n 1, 1) := by decide +kernel
theorem dX7_place_3 : decode cX7_place 3 = .ok (.invokevirtual 273, 3) := by decide +kernel
theorem dX7_place_6 : decode cX7_place 6 = .ok (.ifCond .eq 16, 3) := by decide +kernel
theorem dX7_place_9 : decode cX7_place 9 = .ok (.iload_n 3, 1) := by decide +kernel
theorem dX7_place_10 : decode cX7_place 10 = .ok (.iconst 0, 1) := by decide +kernel
theorem dX7_place_11 : decode cX7_place 11 = .ok (.iconst 3, 1) := by decide +kernel
theorem dX7_place_12 : decode cX7_place 12 = .ok (.invokestatic 52, 3) := by decide +kernel
theorem dX7_place_15 : decode cX7_place 15 = .ok (.ifCond .ne 7, 3) := by decide +kernel
theorem dX7_place_18 : decode cX7_place 18 = .ok (.iconst 2, 1) := by decide +kernel
theorem dX7_place_19 : decode cX7_place 19 = .ok (.goto 9, 3) := by decide +kernel
theorem dX7_place_22 : decode cX7_place 22 = .ok (.aload_n 0, 1) := by decide +kernel
theorem dX7_place_23 : decode cX7_place 23 = .ok (.iload_n 1, 1) := by decide +kernel
theorem dX7_place_24 : decode cX7_place 24 = .ok (.iload_n 2, 1) := by decide +kernel
theorem dX7_place_25 : decode cX7_place 25 = .ok (.invokevirtual 288, 3) := by decide +kernel
theorem dX7_place_28 : decode cX7_place 28 = .ok (.putfield 42, 3) := by decide +kernel
theorem dX7_place_31 : decode cX7_place 31 = .ok (.aload_n 0, 1) := by decide +kernel
theorem dX7_place_32 : decode cX7_place 32 = .ok (.getfield 42, 3) := by decide +kernel
theorem dX7_place_35 : decode cX7_place 35 = .ok (.ifCond .le 5, 3) := by decide +kernel
theorem dX7_place_38 : decode cX7_place 38 = .ok (.iconst 0, 1) := by decide +kernel
theorem dX7_place_39 : decode cX7_place 39 = .ok (.ireturn, 1) := by decide +kernel
theorem dX7_place_40 : decode cX7_place 40 = .ok (.aload_n 0, 1) := by decide +kernel
theorem dX7_place_41 : decode cX7_place 41 = .ok (.iload_n 1, 1) := by decide +kernel
theorem dX7_place_42 : decode cX7_place 42 = .ok (.iload_n 2, 1) := by decide +kernel
theorem dX7_place_43 : decode cX7_place 43 = .ok (.invokevirtual 247, 3) := by decide +kernel
theorem dX7_place_46 : decode cX7_place 46 = .ok (.iload_n 3, 1) := by decide +kernel
theorem dX7_place_47 : decode cX7_place 47 = .ok (.ifCond .ne 10, 3) := by decide +kernel
theorem dX7_place_50 : decode cX7_place 50 = .ok (.aload_n 0, 1) := by decide +kernel
theorem dX7_place_51 : decode cX7_place 51 = .ok (.getfield 227, 3) := by decide +kernel
theorem dX7_place_54 : decode cX7_place 54 = .ok (.goto 31, 3) := by decide +kernel
theorem dX7_place_57 : decode cX7_place 57 = .ok (.iload_n 3, 1) := by decide +kernel
theorem dX7_place_58 : decode cX7_place 58 = .ok (.iconst 1, 1) := by decide +kernel
theorem dX7_place_59 : decode cX7_place 59 = .ok (.if_icmp .ne 10, 3) := by decide +kernel
theorem dX7_place_62 : decode cX7_place 62 = .ok (.aload_n 0, 1) := by decide +kernel
theorem dX7_place_63 : decode cX7_place 63 = .ok (.getfield 231, 3) := by decide +kernel
theorem dX7_place_66 : decode cX7_place 66 = .ok (.goto 19, 3) := by decide +kernel
theorem dX7_place_69 : decode cX7_place 69 = .ok (.iload_n 3, 1) := by decide +kernel
theorem dX7_place_70 : decode cX7_place 70 = .ok (.iconst 2, 1) := by decide +kernel
theorem dX7_place_71 : decode cX7_place 71 = .ok (.if_icmp .ne 10, 3) := by decide +kernel
theorem dX7_place_74 : decode cX7_place 74 = .ok (.aload_n 0, 1) := by decide +kernel
theorem dX7_place_75 : decode cX7_place 75 = .ok (.getfield 237, 3) := by decide +kernel
theorem dX7_place_78 : decode cX7_place 78 = .ok (.goto 7, 3) := by decide +kernel
theorem dX7_place_81 : decode cX7_place 81 = .ok (.aload_n 0, 1) := by decide +kernel
theorem dX7_place_82 : decode cX7_place 82 = .ok (.getfield 240, 3) := by decide +kernel
theorem dX7_place_85 : decode cX7_place 85 = .ok (.l2i, 1) := by decide +kernel
theorem dX7_place_86 : decode cX7_place 86 = .ok (.ireturn, 1) := by decide +kernel
set_option maxRecDepth 20000 in
theorem ggX7_far_X7_noPlace : GoodIn wsX7_far wsX7_noPlace := goodIn_r _ [8, 9, 10, 11, 7, 12, 13, 14, 15, 16, 17, 18, 19, 20, 55, 56, 57, 58, 59, 60, 61, 62, 63, 64, 65, 66, 67, 68, 69, 70, 71, 72, 73, 74, 75, 76, 77, 78, 79, 80, 81, 82, 83] (by decide +kernel) (by decide +kernel)
set_option maxRecDepth 20000 in
theorem gX7_far_X7_noPlace : GoodIn wsX7_far (wsV RX7 288 RX7 yX7_noPlace wsX7_noPlace) := goodIn_app (goodIn_of _ (by decide +kernel)) ggX7_far_X7_noPlace
set_option maxRecDepth 20000 in
theorem ggX7_far_X7_lays : GoodIn wsX7_far wsX7_lays := goodIn_r _ [24, 25, 26, 27, 28, 2, 3, 29, 30, 31, 32, 33, 7, 34, 13, 35, 36, 37, 38, 39, 40, 41, 42, 43, 44, 45, 46, 47, 48, 49, 50, 51, 52, 53, 54, 55, 56, 57, 58, 59, 60, 61, 62, 63, 64, 65, 66, 67, 68, 69, 70, 71, 72, 73, 74, 75, 76, 77, 78, 79, 80, 81, 82, 83] (by decide +kernel) (by decide +kernel)
set_option maxRecDepth 20000 in
theorem gX7_far_X7_lays : GoodIn wsX7_far (wsV RX7 247 RX7 yX7_lays wsX7_lays) := goodIn_app (goodIn_of _ (by decide +kernel)) ggX7_far_X7_lays
theorem dX7_far_0 : decode cX7_far 0 = .ok (.aload_n 0, 1) := by decide +kernel
theorem dX7_far_1 : decode cX7_far 1 = .ok (.aload_n 0, 1) := by decide +kernel
theorem dX7_far_2 : decode cX7_far 2 = .ok (.iload_n 1, 1) := by decide +kernel
theorem dX7_far_3 : decode cX7_far 3 = .ok (.iload_n 2, 1) := by decide +kernel
theorem dX7_far_4 : decode cX7_far 4 = .ok (.invokevirtual 288, 3) := by decide +kernel
theorem dX7_far_7 : decode cX7_far 7 = .ok (.putfield 42, 3) := by decide +kernel
theorem dX7_far_10 : decode cX7_far 10 = .ok (.aload_n 0, 1) := by decide +kernel
theorem dX7_far_11 : decode cX7_far 11 = .ok (.getfield 42, 3) := by decide +kernel
theorem dX7_far_14 : decode cX7_far 14 = .ok (.ifCond .le 5, 3) := by decide +kernel
theorem dX7_far_17 : decode cX7_far 17 = .ok (.lconst 0, 1) := by decide +kernel
theorem dX7_far_18 : decode cX7_far 18 = .ok (.lreturn, 1) := by decide +kernel
theorem dX7_far_19 : decode cX7_far 19 = .ok (.aload_n 0, 1) := by decide +kernel
theorem dX7_far_20 : decode cX7_far 20 = .ok (.iload_n 1, 1) := by decide +kernel
theorem dX7_far_21 : decode cX7_far 21 = .ok (.iload_n 2, 1) := by decide +kernel
theorem dX7_far_22 : decode cX7_far 22 = .ok (.invokevirtual 247, 3) := by decide +kernel
theorem dX7_far_25 : decode cX7_far 25 = .ok (.aload_n 0, 1) := by decide +kernel
theorem dX7_far_26 : decode cX7_far 26 = .ok (.getfield 227, 3) := by decide +kernel
theorem dX7_far_29 : decode cX7_far 29 = .ok (.aload_n 0, 1) := by decide +kernel
theorem dX7_far_30 : decode cX7_far 30 = .ok (.getfield 227, 3) := by decide +kernel
theorem dX7_far_33 : decode cX7_far 33 = .ok (.lmul, 1) := by decide +kernel
theorem dX7_far_34 : decode cX7_far 34 = .ok (.aload_n 0, 1) := by decide +kernel
theorem dX7_far_35 : decode cX7_far 35 = .ok (.getfield 231, 3) := by decide +kernel
theorem dX7_far_38 : decode cX7_far 38 = .ok (.aload_n 0, 1) := by decide +kernel
theorem dX7_far_39 : decode cX7_far 39 = .ok (.getfield 231, 3) := by decide +kernel
theorem dX7_far_42 : decode cX7_far 42 = .ok (.lmul, 1) := by decide +kernel
theorem dX7_far_43 : decode cX7_far 43 = .ok (.ladd, 1) := by decide +kernel
theorem dX7_far_44 : decode cX7_far 44 = .ok (.lreturn, 1) := by decide +kernel
set_option maxRecDepth 20000 in
theorem ggX7_state_X7_noPlace : GoodIn wsX7_state wsX7_noPlace := goodIn_r _ [6, 7, 8, 9, 5, 10, 11, 12, 13, 14, 15, 16, 17, 18, 66, 67, 68, 69, 70, 71, 72, 73, 74, 75, 76, 77, 78, 79, 80, 81, 82, 83, 84, 85, 86, 87, 88, 89, 90, 91, 92, 93, 94] (by decide +kernel) (by decide +kernel)
set_option maxRecDepth 20000 in
theorem gX7_state_X7_noPlace : GoodIn wsX7_state (wsV RX7 288 RX7 yX7_noPlace wsX7_noPlace) := goodIn_app (goodIn_of _ (by decide +kernel)) ggX7_state_X7_noPlace
set_option maxRecDepth 20000 in
theorem ggX7_state_X7_stateAt : GoodIn wsX7_state wsX7_stateAt := goodIn_r _ [22, 23, 24, 25, 5, 26, 27, 28, 29, 30, 31, 32, 33, 34, 35, 36, 37, 38, 11, 39, 40, 41, 42, 43, 44, 45, 46, 47, 48, 49, 50, 51, 52, 53, 54, 55, 56, 57, 58, 59, 60, 61, 62, 63, 64, 65, 66, 67, 68, 69, 70, 71, 72, 73, 74, 75, 76, 77, 78, 79, 80, 81, 82, 83, 84, 85, 86, 87, 88, 89, 90, 91, 92, 93, 94] (by decide +kernel) (by decide +kernel)
set_option maxRecDepth 20000 in
theorem gX7_state_X7_stateAt : GoodIn wsX7_state (wsV RX7 291 RX7 yX7_stateAt wsX7_stateAt) := goodIn_app (goodIn_of _ (by decide +kernel)) ggX7_state_X7_stateAt
theorem dX7_state_0 : decode cX7_state 0 = .ok (.aload_n 0, 1) := by decide +kernel
theorem dX7_state_1 : decode cX7_state 1 = .ok (.aload_n 0, 1) := by decide +kernel
theorem dX7_state_2 : decode cX7_state 2 = .ok (.iload_n 1, 1) := by decide +kernel
theorem dX7_state_3 : decode cX7_state 3 = .ok (.iload_n 2, 1) := by decide +kernel
theorem dX7_state_4 : decode cX7_state 4 = .ok (.invokevirtual 288, 3) := by decide +kernel
theorem dX7_state_7 : decode cX7_state 7 = .ok (.putfield 42, 3) := by decide +kernel
theorem dX7_state_10 : decode cX7_state 10 = .ok (.aload_n 0, 1) := by decide +kernel
theorem dX7_state_11 : decode cX7_state 11 = .ok (.getfield 42, 3) := by decide +kernel
theorem dX7_state_14 : decode cX7_state 14 = .ok (.ifCond .le 7, 3) := by decide +kernel
theorem dX7_state_17 : decode cX7_state 17 = .ok (.iconst 0, 1) := by decide +kernel
theorem dX7_state_18 : decode cX7_state 18 = .ok (.goto 9, 3) := by decide +kernel
theorem dX7_state_21 : decode cX7_state 21 = .ok (.aload_n 0, 1) := by decide +kernel
theorem dX7_state_22 : decode cX7_state 22 = .ok (.iload_n 1, 1) := by decide +kernel
theorem dX7_state_23 : decode cX7_state 23 = .ok (.iload_n 2, 1) := by decide +kernel
theorem dX7_state_24 : decode cX7_state 24 = .ok (.invokevirtual 291, 3) := by decide +kernel
theorem dX7_state_27 : decode cX7_state 27 = .ok (.ireturn, 1) := by decide +kernel
set_option maxRecDepth 20000 in
theorem ggX7_casts_X7_noPlace : GoodIn wsX7_casts wsX7_noPlace := goodIn_r _ [6, 7, 8, 9, 5, 10, 11, 12, 13, 14, 15, 16, 17, 18, 62, 63, 64, 65, 66, 67, 68, 69, 70, 71, 72, 73, 74, 75, 76, 77, 78, 79, 80, 81, 82, 83, 84, 85, 86, 87, 88, 89, 90] (by decide +kernel) (by decide +kernel)
set_option maxRecDepth 20000 in
theorem gX7_casts_X7_noPlace : GoodIn wsX7_casts (wsV RX7 288 RX7 yX7_noPlace wsX7_noPlace) := goodIn_app (goodIn_of _ (by decide +kernel)) ggX7_casts_X7_noPlace
set_option maxRecDepth 20000 in
theorem ggX7_casts_X7_lays : GoodIn wsX7_casts wsX7_lays := goodIn_r _ [22, 23, 24, 25, 26, 27, 28, 29, 30, 31, 32, 33, 5, 34, 11, 35, 36, 37, 38, 39, 40, 41, 42, 43, 44, 45, 46, 47, 48, 49, 50, 51, 52, 53, 54, 62, 63, 64, 65, 66, 67, 68, 69, 70, 71, 72, 73, 74, 75, 76, 77, 78, 79, 80, 81, 82, 83, 84, 85, 86, 87, 88, 89, 90] (by decide +kernel) (by decide +kernel)
set_option maxRecDepth 20000 in
theorem gX7_casts_X7_lays : GoodIn wsX7_casts (wsV RX7 247 RX7 yX7_lays wsX7_lays) := goodIn_app (goodIn_of _ (by decide +kernel)) ggX7_casts_X7_lays
set_option maxRecDepth 20000 in
theorem ggX7_casts_X7_castsLaid : GoodIn wsX7_casts wsX7_castsLaid := goodIn_r _ [58, 29, 30, 23, 11, 59, 60, 5, 61, 31, 32, 33, 34, 62, 63, 64, 65, 66, 67, 68, 69, 70, 71, 72, 73, 74, 75, 76, 77, 78, 79, 80, 81, 82, 83, 84, 85, 86, 87, 88, 89, 90] (by decide +kernel) (by decide +kernel)
set_option maxRecDepth 20000 in
theorem gX7_casts_X7_castsLaid : GoodIn wsX7_casts (wsV RX7 254 RX7 yX7_castsLaid wsX7_castsLaid) := goodIn_app (goodIn_of _ (by decide +kernel)) ggX7_casts_X7_castsLaid
theorem dX7_casts_0 : decode cX7_casts 0 = .ok (.aload_n 0, 1) := by decide +kernel
theorem dX7_casts_1 : decode cX7_casts 1 = .ok (.aload_n 0, 1) := by decide +kernel
theorem dX7_casts_2 : decode cX7_casts 2 = .ok (.iload_n 1, 1) := by decide +kernel
theorem dX7_casts_3 : decode cX7_casts 3 = .ok (.iload_n 2, 1) := by decide +kernel
theorem dX7_casts_4 : decode cX7_casts 4 = .ok (.invokevirtual 288, 3) := by decide +kernel
theorem dX7_casts_7 : decode cX7_casts 7 = .ok (.putfield 42, 3) := by decide +kernel
theorem dX7_casts_10 : decode cX7_casts 10 = .ok (.aload_n 0, 1) := by decide +kernel
theorem dX7_casts_11 : decode cX7_casts 11 = .ok (.getfield 42, 3) := by decide +kernel
theorem dX7_casts_14 : decode cX7_casts 14 = .ok (.ifCond .le 5, 3) := by decide +kernel
theorem dX7_casts_17 : decode cX7_casts 17 = .ok (.iconst 0, 1) := by decide +kernel
theorem dX7_casts_18 : decode cX7_casts 18 = .ok (.ireturn, 1) := by decide +kernel
theorem dX7_casts_19 : decode cX7_casts 19 = .ok (.aload_n 0, 1) := by decide +kernel
theorem dX7_casts_20 : decode cX7_casts 20 = .ok (.iload_n 1, 1) := by decide +kernel
theorem dX7_casts_21 : decode cX7_casts 21 = .ok (.iload_n 2, 1) := by decide +kernel
theorem dX7_casts_22 : decode cX7_casts 22 = .ok (.invokevirtual 247, 3) := by decide +kernel
theorem dX7_casts_25 : decode cX7_casts 25 = .ok (.aload_n 0, 1) := by decide +kernel
theorem dX7_casts_26 : decode cX7_casts 26 = .ok (.iload_n 1, 1) := by decide +kernel
theorem dX7_casts_27 : decode cX7_casts 27 = .ok (.invokevirtual 254, 3) := by decide +kernel
theorem dX7_casts_30 : decode cX7_casts 30 = .ok (.ireturn, 1) := by decide +kernel
set_option maxRecDepth 20000 in
theorem ggX7_shadedBy_X7_noPlace : GoodIn wsX7_shadedBy wsX7_noPlace := goodIn_r _ [10, 11, 12, 13, 9, 14, 4, 15, 16, 17, 18, 19, 20, 21, 58, 59, 60, 61, 62, 63, 64, 65, 66, 67, 68, 69, 70, 71, 72, 73, 74, 75, 76, 77, 78, 79, 80, 81, 82, 83, 84, 85, 86] (by decide +kernel) (by decide +kernel)
set_option maxRecDepth 20000 in
theorem gX7_shadedBy_X7_noPlace : GoodIn wsX7_shadedBy (wsV RX7 288 RX7 yX7_noPlace wsX7_noPlace) := goodIn_app (goodIn_of _ (by decide +kernel)) ggX7_shadedBy_X7_noPlace
set_option maxRecDepth 20000 in
theorem ggX7_shadedBy_X7_lays : GoodIn wsX7_shadedBy wsX7_lays := goodIn_r _ [25, 5, 26, 27, 28, 29, 30, 2, 3, 31, 32, 33, 9, 34, 4, 35, 36, 37, 38, 39, 40, 41, 42, 43, 44, 45, 46, 47, 48, 49, 50, 51, 52, 53, 54, 58, 59, 60, 61, 62, 63, 64, 65, 66, 67, 68, 69, 70, 71, 72, 73, 74, 75, 76, 77, 78, 79, 80, 81, 82, 83, 84, 85, 86] (by decide +kernel) (by decide +kernel)
set_option maxRecDepth 20000 in
theorem gX7_shadedBy_X7_lays : GoodIn wsX7_shadedBy (wsV RX7 247 RX7 yX7_lays wsX7_lays) := goodIn_app (goodIn_of _ (by decide +kernel)) ggX7_shadedBy_X7_lays
set_option maxRecDepth 20000 in
theorem ggX7_shadedBy_X7_sizeOf : GoodIn wsX7_shadedBy wsX7_sizeOf := goodIn_r _ [57] (by decide +kernel) (by decide +kernel)
set_option maxRecDepth 20000 in
theorem gX7_shadedBy_X7_sizeOf : GoodIn wsX7_shadedBy (va_wsS RX7 243 yX7_sizeOf wsX7_sizeOf) := goodIn_app (goodIn_of _ (by decide +kernel)) ggX7_shadedBy_X7_sizeOf
set_option maxRecDepth 20000 in
theorem ggX7_shadedBy_X7_of : GoodIn wsX7_shadedBy wsX7_of := goodIn_r _ [34, 4, 58, 59, 60, 61, 62, 63, 64, 65, 66, 67, 68, 69, 70, 71, 72, 73, 74, 75, 76, 77, 78, 79, 80, 81, 82, 83, 84, 85, 86] (by decide +kernel) (by decide +kernel)
set_option maxRecDepth 20000 in
theorem gX7_shadedBy_X7_of : GoodIn wsX7_shadedBy (wsV RX7 128 RX7 yX7_of wsX7_of) := goodIn_app (goodIn_of _ (by decide +kernel)) ggX7_shadedBy_X7_of
theorem dX7_shadedBy_0 : decode cX7_shadedBy 0 = .ok (.aload_n 0, 1) := by decide +kernel
theorem dX7_shadedBy_1 : decode cX7_shadedBy 1 = .ok (.aload_n 0, 1) := by decide +kernel
theorem dX7_shadedBy_2 : decode cX7_shadedBy 2 = .ok (.iload_n 1, 1) := by decide +kernel
theorem dX7_shadedBy_3 : decode cX7_shadedBy 3 = .ok (.iload_n 2, 1) := by decide +kernel
theorem dX7_shadedBy_4 : decode cX7_shadedBy 4 = .ok (.invokevirtual 288, 3) := by decide +kernel
theorem dX7_shadedBy_7 : decode cX7_shadedBy 7 = .ok (.putfield 42, 3) := by decide +kernel
theorem dX7_shadedBy_10 : decode cX7_shadedBy 10 = .ok (.aload_n 0, 1) := by decide +kernel
theorem dX7_shadedBy_11 : decode cX7_shadedBy 11 = .ok (.getfield 42, 3) := by decide +kernel
theorem dX7_shadedBy_14 : decode cX7_shadedBy 14 = .ok (.ifCond .le 5, 3) := by decide +kernel
theorem dX7_shadedBy_17 : decode cX7_shadedBy 17 = .ok (.iconst 0, 1) := by decide +kernel
theorem dX7_shadedBy_18 : decode cX7_shadedBy 18 = .ok (.ireturn, 1) := by decide +kernel
theorem dX7_shadedBy_19 : decode cX7_shadedBy 19 = .ok (.aload_n 0, 1) := by decide +kernel
theorem dX7_shadedBy_20 : decode cX7_shadedBy 20 = .ok (.iload_n 1, 1) := by decide +kernel
theorem dX7_shadedBy_21 : decode cX7_shadedBy 21 = .ok (.iload_n 2, 1) := by decide +kernel
theorem dX7_shadedBy_22 : decode cX7_shadedBy 22 = .ok (.invokevirtual 247, 3) := by decide +kernel
theorem dX7_shadedBy_25 : decode cX7_shadedBy 25 = .ok (.aload_n 0, 1) := by decide +kernel
theorem dX7_shadedBy_26 : decode cX7_shadedBy 26 = .ok (.getfield 237, 3) := by decide +kernel
theorem dX7_shadedBy_29 : decode cX7_shadedBy 29 = .ok (.lstore_n 3, 1) := by decide +kernel
theorem dX7_shadedBy_30 : decode cX7_shadedBy 30 = .ok (.aload_n 0, 1) := by decide +kernel
theorem dX7_shadedBy_31 : decode cX7_shadedBy 31 = .ok (.getfield 240, 3) := by decide +kernel
theorem dX7_shadedBy_34 : decode cX7_shadedBy 34 = .ok (.lstore 5, 2) := by decide +kernel
theorem dX7_shadedBy_36 : decode cX7_shadedBy 36 = .ok (.iconst 0, 1) := by decide +kernel
theorem dX7_shadedBy_37 : decode cX7_shadedBy 37 = .ok (.istore 7, 2) := by decide +kernel
theorem dX7_shadedBy_39 : decode cX7_shadedBy 39 = .ok (.iconst 0, 1) := by decide +kernel
theorem dX7_shadedBy_40 : decode cX7_shadedBy 40 = .ok (.istore 8, 2) := by decide +kernel
theorem dX7_shadedBy_42 : decode cX7_shadedBy 42 = .ok (.iload 8, 2) := by decide +kernel
theorem dX7_shadedBy_44 : decode cX7_shadedBy 44 = .ok (.aload_n 0, 1) := by decide +kernel
theorem dX7_shadedBy_45 : decode cX7_shadedBy 45 = .ok (.getfield 7, 3) := by decide +kernel
theorem dX7_shadedBy_48 : decode cX7_shadedBy 48 = .ok (.iconst 3, 1) := by decide +kernel
theorem dX7_shadedBy_49 : decode cX7_shadedBy 49 = .ok (.iaload, 1) := by decide +kernel
theorem dX7_shadedBy_50 : decode cX7_shadedBy 50 = .ok (.if_icmp .ge 89, 3) := by decide +kernel
theorem dX7_shadedBy_53 : decode cX7_shadedBy 53 = .ok (.aload_n 0, 1) := by decide +kernel
theorem dX7_shadedBy_54 : decode cX7_shadedBy 54 = .ok (.iload 8, 2) := by decide +kernel
theorem dX7_shadedBy_56 : decode cX7_shadedBy 56 = .ok (.iload_n 2, 1) := by decide +kernel
theorem dX7_shadedBy_57 : decode cX7_shadedBy 57 = .ok (.invokevirtual 247, 3) := by decide +kernel
theorem dX7_shadedBy_60 : decode cX7_shadedBy 60 = .ok (.iload 8, 2) := by decide +kernel
theorem dX7_shadedBy_62 : decode cX7_shadedBy 62 = .ok (.iload_n 1, 1) := by decide +kernel
theorem dX7_shadedBy_63 : decode cX7_shadedBy 63 = .ok (.if_icmp .eq 49, 3) := by decide +kernel
theorem dX7_shadedBy_66 : decode cX7_shadedBy 66 = .ok (.aload_n 0, 1) := by decide +kernel
theorem dX7_shadedBy_67 : decode cX7_shadedBy 67 = .ok (.getfield 237, 3) := by decide +kernel
theorem dX7_shadedBy_70 : decode cX7_shadedBy 70 = .ok (.lload_n 3, 1) := by decide +kernel
theorem dX7_shadedBy_71 : decode cX7_shadedBy 71 = .ok (.lcmp, 1) := by decide +kernel
theorem dX7_shadedBy_72 : decode cX7_shadedBy 72 = .ok (.ifCond .le 40, 3) := by decide +kernel
theorem dX7_shadedBy_75 : decode cX7_shadedBy 75 = .ok (.aload_n 0, 1) := by decide +kernel
theorem dX7_shadedBy_76 : decode cX7_shadedBy 76 = .ok (.getfield 240, 3) := by decide +kernel
theorem dX7_shadedBy_79 : decode cX7_shadedBy 79 = .ok (.lload 5, 2) := by decide +kernel
theorem dX7_shadedBy_81 : decode cX7_shadedBy 81 = .ok (.lsub, 1) := by decide +kernel
theorem dX7_shadedBy_82 : decode cX7_shadedBy 82 = .ok (.invokestatic 243, 3) := by decide +kernel
theorem dX7_shadedBy_85 : decode cX7_shadedBy 85 = .ok (.ldc2_w 214, 3) := by decide +kernel
theorem dX7_shadedBy_88 : decode cX7_shadedBy 88 = .ok (.aload_n 0, 1) := by decide +kernel
theorem dX7_shadedBy_89 : decode cX7_shadedBy 89 = .ok (.iload 8, 2) := by decide +kernel
theorem dX7_shadedBy_91 : decode cX7_shadedBy 91 = .ok (.iconst 5, 1) := by decide +kernel
theorem dX7_shadedBy_92 : decode cX7_shadedBy 92 = .ok (.invokevirtual 128, 3) := by decide +kernel
theorem dX7_shadedBy_95 : decode cX7_shadedBy 95 = .ok (.aload_n 0, 1) := by decide +kernel
theorem dX7_shadedBy_96 : decode cX7_shadedBy 96 = .ok (.iload_n 1, 1) := by decide +kernel
theorem dX7_shadedBy_97 : decode cX7_shadedBy 97 = .ok (.iconst 5, 1) := by decide +kernel
theorem dX7_shadedBy_98 : decode cX7_shadedBy 98 = .ok (.invokevirtual 128, 3) := by decide +kernel
theorem dX7_shadedBy_101 : decode cX7_shadedBy 101 = .ok (.iadd, 1) := by decide +kernel
theorem dX7_shadedBy_102 : decode cX7_shadedBy 102 = .ok (.i2l, 1) := by decide +kernel
theorem dX7_shadedBy_103 : decode cX7_shadedBy 103 = .ok (.lmul, 1) := by decide +kernel
theorem dX7_shadedBy_104 : decode cX7_shadedBy 104 = .ok (.lcmp, 1) := by decide +kernel
theorem dX7_shadedBy_105 : decode cX7_shadedBy 105 = .ok (.ifCond .ge 7, 3) := by decide +kernel
theorem dX7_shadedBy_108 : decode cX7_shadedBy 108 = .ok (.iconst 1, 1) := by decide +kernel
theorem dX7_shadedBy_109 : decode cX7_shadedBy 109 = .ok (.goto 4, 3) := by decide +kernel
theorem dX7_shadedBy_112 : decode cX7_shadedBy 112 = .ok (.iconst 0, 1) := by decide +kernel
theorem dX7_shadedBy_113 : decode cX7_shadedBy 113 = .ok (.istore 9, 2) := by decide +kernel
theorem dX7_shadedBy_115 : decode cX7_shadedBy 115 = .ok (.iload 7, 2) := by decide +kernel
theorem dX7_shadedBy_117 : decode cX7_shadedBy 117 = .ok (.iload 9, 2) := by decide +kernel
theorem dX7_shadedBy_119 : decode cX7_shadedBy 119 = .ok (.ifCond .eq 10, 3) := by decide +kernel
theorem dX7_shadedBy_122 : decode cX7_shadedBy 122 = .ok (.iconst 1, 1) := by decide +kernel
theorem dX7_shadedBy_123 : decode cX7_shadedBy 123 = .ok (.iload 8, 2) := by decide +kernel
theorem dX7_shadedBy_125 : decode cX7_shadedBy 125 = .ok (.ishl, 1) := by decide +kernel
theorem dX7_shadedBy_126 : decode cX7_shadedBy 126 = .ok (.goto 4, 3) := by decide +kernel
theorem dX7_shadedBy_129 : decode cX7_shadedBy 129 = .ok (.iconst 0, 1) := by decide +kernel
theorem dX7_shadedBy_130 : decode cX7_shadedBy 130 = .ok (.ior, 1) := by decide +kernel
theorem dX7_shadedBy_131 : decode cX7_shadedBy 131 = .ok (.istore 7, 2) := by decide +kernel
theorem dX7_shadedBy_133 : decode cX7_shadedBy 133 = .ok (.iinc 8 1, 3) := by decide +kernel
theorem dX7_shadedBy_136 : decode cX7_shadedBy 136 = .ok (.goto (-94), 3) := by decide +kernel
theorem dX7_shadedBy_139 : decode cX7_shadedBy 139 = .ok (.iload 7, 2) := by decide +kernel
theorem dX7_shadedBy_141 : decode cX7_shadedBy 141 = .ok (.ireturn, 1) := by decide +kernel
set_option maxRecDepth 20000 in
theorem ggX7_whyLit_X7_noPlace : GoodIn wsX7_whyLit wsX7_noPlace := goodIn_r _ [7, 8, 9, 10, 6, 11, 12, 13, 14, 15, 16, 17, 18, 19, 66, 67, 68, 69, 70, 71, 72, 73, 74, 75, 76, 77, 78, 79, 80, 81, 82, 83, 84, 85, 86, 87, 88, 89, 90, 91, 92, 93, 94] (by decide +kernel) (by decide +kernel)
set_option maxRecDepth 20000 in
theorem gX7_whyLit_X7_noPlace : GoodIn wsX7_whyLit (wsV RX7 288 RX7 yX7_noPlace wsX7_noPlace) := goodIn_app (goodIn_of _ (by decide +kernel)) ggX7_whyLit_X7_noPlace
set_option maxRecDepth 20000 in
theorem ggX7_whyLit_X7_stateAt : GoodIn wsX7_whyLit wsX7_stateAt := goodIn_r _ [23, 24, 25, 26, 6, 27, 28, 29, 30, 31, 32, 33, 2, 34, 35, 36, 37, 38, 12, 39, 40, 41, 42, 43, 44, 45, 46, 47, 48, 49, 50, 51, 52, 53, 54, 55, 56, 57, 58, 59, 60, 61, 62, 63, 64, 65, 66, 67, 68, 69, 70, 71, 72, 73, 74, 75, 76, 77, 78, 79, 80, 81, 82, 83, 84, 85, 86, 87, 88, 89, 90, 91, 92, 93, 94] (by decide +kernel) (by decide +kernel)
set_option maxRecDepth 20000 in
theorem gX7_whyLit_X7_stateAt : GoodIn wsX7_whyLit (wsV RX7 291 RX7 yX7_stateAt wsX7_stateAt) := goodIn_app (goodIn_of _ (by decide +kernel)) ggX7_whyLit_X7_stateAt
theorem dX7_whyLit_0 : decode cX7_whyLit 0 = .ok (.aload_n 0, 1) := by decide +kernel
theorem dX7_whyLit_1 : decode cX7_whyLit 1 = .ok (.aload_n 0, 1) := by decide +kernel
theorem dX7_whyLit_2 : decode cX7_whyLit 2 = .ok (.iload_n 1, 1) := by decide +kernel
theorem dX7_whyLit_3 : decode cX7_whyLit 3 = .ok (.iload_n 2, 1) := by decide +kernel
theorem dX7_whyLit_4 : decode cX7_whyLit 4 = .ok (.invokevirtual 288, 3) := by decide +kernel
theorem dX7_whyLit_7 : decode cX7_whyLit 7 = .ok (.putfield 42, 3) := by decide +kernel
theorem dX7_whyLit_10 : decode cX7_whyLit 10 = .ok (.aload_n 0, 1) := by decide +kernel
theorem dX7_whyLit_11 : decode cX7_whyLit 11 = .ok (.getfield 42, 3) := by decide +kernel
theorem dX7_whyLit_14 : decode cX7_whyLit 14 = .ok (.ifCond .le 5, 3) := by decide +kernel
theorem dX7_whyLit_17 : decode cX7_whyLit 17 = .ok (.iconst 0, 1) := by decide +kernel
theorem dX7_whyLit_18 : decode cX7_whyLit 18 = .ok (.ireturn, 1) := by decide +kernel
theorem dX7_whyLit_19 : decode cX7_whyLit 19 = .ok (.aload_n 0, 1) := by decide +kernel
theorem dX7_whyLit_20 : decode cX7_whyLit 20 = .ok (.iload_n 1, 1) := by decide +kernel
theorem dX7_whyLit_21 : decode cX7_whyLit 21 = .ok (.iload_n 2, 1) := by decide +kernel
theorem dX7_whyLit_22 : decode cX7_whyLit 22 = .ok (.invokevirtual 291, 3) := by decide +kernel
theorem dX7_whyLit_25 : decode cX7_whyLit 25 = .ok (.istore_n 3, 1) := by decide +kernel
theorem dX7_whyLit_26 : decode cX7_whyLit 26 = .ok (.iload_n 3, 1) := by decide +kernel
theorem dX7_whyLit_27 : decode cX7_whyLit 27 = .ok (.ifCond .le 7, 3) := by decide +kernel
theorem dX7_whyLit_30 : decode cX7_whyLit 30 = .ok (.iconst 0, 1) := by decide +kernel
theorem dX7_whyLit_31 : decode cX7_whyLit 31 = .ok (.goto 17, 3) := by decide +kernel
theorem dX7_whyLit_34 : decode cX7_whyLit 34 = .ok (.aload_n 0, 1) := by decide +kernel
theorem dX7_whyLit_35 : decode cX7_whyLit 35 = .ok (.getfield 237, 3) := by decide +kernel
theorem dX7_whyLit_38 : decode cX7_whyLit 38 = .ok (.lconst 0, 1) := by decide +kernel
theorem dX7_whyLit_39 : decode cX7_whyLit 39 = .ok (.lcmp, 1) := by decide +kernel
theorem dX7_whyLit_40 : decode cX7_whyLit 40 = .ok (.ifCond .lt 7, 3) := by decide +kernel
theorem dX7_whyLit_43 : decode cX7_whyLit 43 = .ok (.iconst 1, 1) := by decide +kernel
theorem dX7_whyLit_44 : decode cX7_whyLit 44 = .ok (.goto 4, 3) := by decide +kernel
theorem dX7_whyLit_47 : decode cX7_whyLit 47 = .ok (.iconst 2, 1) := by decide +kernel
theorem dX7_whyLit_48 : decode cX7_whyLit 48 = .ok (.ireturn, 1) := by decide +kernel
set_option maxRecDepth 20000 in
theorem ggX7_doMeet_X7_lays : GoodIn wsX7_doMeet wsX7_lays := goodIn_r _ [8, 9, 10, 11, 12, 1, 2, 13, 14, 15, 16, 17, 7, 18, 19, 20, 21, 22, 23, 24, 25, 26, 27, 28, 29, 30, 31, 32, 33, 34, 35, 36, 37, 38, 39, 43, 44, 45, 46, 47, 48, 49, 50, 51, 52, 53, 54, 55, 56, 57, 58, 59, 60, 61, 62, 63, 64, 65, 66, 67, 68, 69, 70, 71] (by decide +kernel) (by decide +kernel)
set_option maxRecDepth 20000 in
theorem gX7_doMeet_X7_lays : GoodIn wsX7_doMeet (wsV RX7 247 RX7 yX7_lays wsX7_lays) := goodIn_app (goodIn_of _ (by decide +kernel)) ggX7_doMeet_X7_lays
set_option maxRecDepth 20000 in
theorem ggX7_doMeet_X7_sizeOf : GoodIn wsX7_doMeet wsX7_sizeOf := goodIn_r _ [42] (by decide +kernel) (by decide +kernel)
set_option maxRecDepth 20000 in
theorem gX7_doMeet_X7_sizeOf : GoodIn wsX7_doMeet (va_wsS RX7 243 yX7_sizeOf wsX7_sizeOf) := goodIn_app (goodIn_of _ (by decide +kernel)) ggX7_doMeet_X7_sizeOf
theorem dX7_doMeet_0 : decode cX7_doMeet 0 = .ok (.aload_n 0, 1) := by decide +kernel
theorem dX7_doMeet_1 : decode cX7_doMeet 1 = .ok (.iload_n 1, 1) := by decide +kernel
theorem dX7_doMeet_2 : decode cX7_doMeet 2 = .ok (.iload_n 3, 1) := by decide +kernel
theorem dX7_doMeet_3 : decode cX7_doMeet 3 = .ok (.invokevirtual 247, 3) := by decide +kernel
theorem dX7_doMeet_6 : decode cX7_doMeet 6 = .ok (.aload_n 0, 1) := by decide +kernel
theorem dX7_doMeet_7 : decode cX7_doMeet 7 = .ok (.getfield 227, 3) := by decide +kernel
theorem dX7_doMeet_10 : decode cX7_doMeet 10 = .ok (.lstore 4, 2) := by decide +kernel
theorem dX7_doMeet_12 : decode cX7_doMeet 12 = .ok (.aload_n 0, 1) := by decide +kernel
theorem dX7_doMeet_13 : decode cX7_doMeet 13 = .ok (.getfield 231, 3) := by decide +kernel
theorem dX7_doMeet_16 : decode cX7_doMeet 16 = .ok (.lstore 6, 2) := by decide +kernel
theorem dX7_doMeet_18 : decode cX7_doMeet 18 = .ok (.aload_n 0, 1) := by decide +kernel
theorem dX7_doMeet_19 : decode cX7_doMeet 19 = .ok (.iload_n 2, 1) := by decide +kernel
theorem dX7_doMeet_20 : decode cX7_doMeet 20 = .ok (.iload_n 3, 1) := by decide +kernel
theorem dX7_doMeet_21 : decode cX7_doMeet 21 = .ok (.invokevirtual 247, 3) := by decide +kernel
theorem dX7_doMeet_24 : decode cX7_doMeet 24 = .ok (.aload_n 0, 1) := by decide +kernel
theorem dX7_doMeet_25 : decode cX7_doMeet 25 = .ok (.getfield 227, 3) := by decide +kernel
theorem dX7_doMeet_28 : decode cX7_doMeet 28 = .ok (.lload 4, 2) := by decide +kernel
theorem dX7_doMeet_30 : decode cX7_doMeet 30 = .ok (.lmul, 1) := by decide +kernel
theorem dX7_doMeet_31 : decode cX7_doMeet 31 = .ok (.aload_n 0, 1) := by decide +kernel
theorem dX7_doMeet_32 : decode cX7_doMeet 32 = .ok (.getfield 231, 3) := by decide +kernel
theorem dX7_doMeet_35 : decode cX7_doMeet 35 = .ok (.lload 6, 2) := by decide +kernel
theorem dX7_doMeet_37 : decode cX7_doMeet 37 = .ok (.lmul, 1) := by decide +kernel
theorem dX7_doMeet_38 : decode cX7_doMeet 38 = .ok (.ladd, 1) := by decide +kernel
theorem dX7_doMeet_39 : decode cX7_doMeet 39 = .ok (.lstore 8, 2) := by decide +kernel
theorem dX7_doMeet_41 : decode cX7_doMeet 41 = .ok (.lload 8, 2) := by decide +kernel
theorem dX7_doMeet_43 : decode cX7_doMeet 43 = .ok (.lconst 0, 1) := by decide +kernel
theorem dX7_doMeet_44 : decode cX7_doMeet 44 = .ok (.lcmp, 1) := by decide +kernel
theorem dX7_doMeet_45 : decode cX7_doMeet 45 = .ok (.ifCond .le 35, 3) := by decide +kernel
theorem dX7_doMeet_48 : decode cX7_doMeet 48 = .ok (.lload 8, 2) := by decide +kernel
theorem dX7_doMeet_50 : decode cX7_doMeet 50 = .ok (.ldc2_w 294, 3) := by decide +kernel
theorem dX7_doMeet_53 : decode cX7_doMeet 53 = .ok (.lload 4, 2) := by decide +kernel
theorem dX7_doMeet_55 : decode cX7_doMeet 55 = .ok (.aload_n 0, 1) := by decide +kernel
theorem dX7_doMeet_56 : decode cX7_doMeet 56 = .ok (.getfield 231, 3) := by decide +kernel
theorem dX7_doMeet_59 : decode cX7_doMeet 59 = .ok (.lmul, 1) := by decide +kernel
theorem dX7_doMeet_60 : decode cX7_doMeet 60 = .ok (.lload 6, 2) := by decide +kernel
theorem dX7_doMeet_62 : decode cX7_doMeet 62 = .ok (.aload_n 0, 1) := by decide +kernel
theorem dX7_doMeet_63 : decode cX7_doMeet 63 = .ok (.getfield 227, 3) := by decide +kernel
theorem dX7_doMeet_66 : decode cX7_doMeet 66 = .ok (.lmul, 1) := by decide +kernel
theorem dX7_doMeet_67 : decode cX7_doMeet 67 = .ok (.lsub, 1) := by decide +kernel
theorem dX7_doMeet_68 : decode cX7_doMeet 68 = .ok (.invokestatic 243, 3) := by decide +kernel
theorem dX7_doMeet_71 : decode cX7_doMeet 71 = .ok (.lmul, 1) := by decide +kernel
theorem dX7_doMeet_72 : decode cX7_doMeet 72 = .ok (.lcmp, 1) := by decide +kernel
theorem dX7_doMeet_73 : decode cX7_doMeet 73 = .ok (.ifCond .lt 7, 3) := by decide +kernel
theorem dX7_doMeet_76 : decode cX7_doMeet 76 = .ok (.iconst 1, 1) := by decide +kernel
theorem dX7_doMeet_77 : decode cX7_doMeet 77 = .ok (.goto 4, 3) := by decide +kernel
theorem dX7_doMeet_80 : decode cX7_doMeet 80 = .ok (.iconst 0, 1) := by decide +kernel
theorem dX7_doMeet_81 : decode cX7_doMeet 81 = .ok (.ireturn, 1) := by decide +kernel
set_option maxRecDepth 20000 in
theorem ggX7_meeting_X7_isMoon : GoodIn wsX7_meeting wsX7_isMoon := goodIn_r _ [11, 12, 13, 14, 10, 15, 63, 64, 65, 66, 67, 68, 69, 70, 71, 72, 73, 74, 75, 76, 77, 78, 79, 80, 81, 82, 83, 84, 85, 86, 87, 88, 89, 90, 91] (by decide +kernel) (by decide +kernel)
set_option maxRecDepth 20000 in
theorem gX7_meeting_X7_isMoon : GoodIn wsX7_meeting (wsV RX7 273 RX7 yX7_isMoon wsX7_isMoon) := goodIn_app (goodIn_of _ (by decide +kernel)) ggX7_meeting_X7_isMoon
set_option maxRecDepth 20000 in
theorem ggX7_meeting_X7_isTime : GoodIn wsX7_meeting wsX7_isTime := goodIn_r _ [18, 2, 13, 14, 10, 15] (by decide +kernel) (by decide +kernel)
set_option maxRecDepth 20000 in
theorem gX7_meeting_X7_isTime : GoodIn wsX7_meeting (va_wsS RX7 285 yX7_isTime wsX7_isTime) := goodIn_app (goodIn_of _ (by decide +kernel)) ggX7_meeting_X7_isTime
set_option maxRecDepth 20000 in
theorem ggX7_meeting_X7_doMeet : GoodIn wsX7_meeting wsX7_doMeet := goodIn_r _ [22, 23, 24, 25, 26, 27, 28, 10, 29, 30, 31, 32, 33, 34, 35, 36, 37, 38, 39, 12, 40, 41, 42, 43, 44, 45, 46, 47, 48, 49, 50, 51, 52, 53, 54, 55, 56, 57, 58, 59, 60, 61, 62, 63, 64, 65, 66, 67, 68, 69, 70, 71, 72, 73, 74, 75, 76, 77, 78, 79, 80, 81, 82, 83, 84, 85, 86, 87, 88, 89, 90, 91] (by decide +kernel) (by decide +kernel)
set_option maxRecDepth 20000 in
theorem gX7_meeting_X7_doMeet : GoodIn wsX7_meeting (wsV RX7 296 RX7 yX7_doMeet wsX7_doMeet) := goodIn_app (goodIn_of _ (by decide +kernel)) ggX7_meeting_X7_doMeet
theorem dX7_meeting_0 : decode cX7_meeting 0 = .ok (.aload_n 0, 1) := by decide +kernel
theorem dX7_meeting_1 : decode cX7_meeting 1 = .ok (.aload_n 0, 1) := by decide +kernel
theorem dX7_meeting_2 : decode cX7_meeting 2 = .ok (.iload_n 1, 1) := by decide +kernel
theorem dX7_meeting_3 : decode cX7_meeting 3 = .ok (.invokevirtual 273, 3) := by decide +kernel
theorem dX7_meeting_6 : decode cX7_meeting 6 = .ok (.ifCond .eq 11, 3) := by decide +kernel
theorem dX7_meeting_9 : decode cX7_meeting 9 = .ok (.aload_n 0, 1) := by decide +kernel
theorem dX7_meeting_10 : decode cX7_meeting 10 = .ok (.iload_n 2, 1) := by decide +kernel
theorem dX7_meeting_11 : decode cX7_meeting 11 = .ok (.invokevirtual 273, 3) := by decide +kernel
theorem dX7_meeting_14 : decode cX7_meeting 14 = .ok (.ifCond .ne 7, 3) := by decide +kernel
theorem dX7_meeting_17 : decode cX7_meeting 17 = .ok (.iconst 1, 1) := by decide +kernel
theorem dX7_meeting_18 : decode cX7_meeting 18 = .ok (.goto 15, 3) := by decide +kernel
theorem dX7_meeting_21 : decode cX7_meeting 21 = .ok (.iload_n 3, 1) := by decide +kernel
theorem dX7_meeting_22 : decode cX7_meeting 22 = .ok (.invokestatic 285, 3) := by decide +kernel
theorem dX7_meeting_25 : decode cX7_meeting 25 = .ok (.ifCond .eq 7, 3) := by decide +kernel
theorem dX7_meeting_28 : decode cX7_meeting 28 = .ok (.iconst 0, 1) := by decide +kernel
theorem dX7_meeting_29 : decode cX7_meeting 29 = .ok (.goto 4, 3) := by decide +kernel
theorem dX7_meeting_32 : decode cX7_meeting 32 = .ok (.iconst 2, 1) := by decide +kernel
theorem dX7_meeting_33 : decode cX7_meeting 33 = .ok (.putfield 42, 3) := by decide +kernel
theorem dX7_meeting_36 : decode cX7_meeting 36 = .ok (.aload_n 0, 1) := by decide +kernel
theorem dX7_meeting_37 : decode cX7_meeting 37 = .ok (.getfield 42, 3) := by decide +kernel
theorem dX7_meeting_40 : decode cX7_meeting 40 = .ok (.ifCond .gt 8, 3) := by decide +kernel
theorem dX7_meeting_43 : decode cX7_meeting 43 = .ok (.iload_n 1, 1) := by decide +kernel
theorem dX7_meeting_44 : decode cX7_meeting 44 = .ok (.iload_n 2, 1) := by decide +kernel
theorem dX7_meeting_45 : decode cX7_meeting 45 = .ok (.if_icmp .ne 16, 3) := by decide +kernel
theorem dX7_meeting_48 : decode cX7_meeting 48 = .ok (.aload_n 0, 1) := by decide +kernel
theorem dX7_meeting_49 : decode cX7_meeting 49 = .ok (.getfield 42, 3) := by decide +kernel
theorem dX7_meeting_52 : decode cX7_meeting 52 = .ok (.ifCond .le 7, 3) := by decide +kernel
theorem dX7_meeting_55 : decode cX7_meeting 55 = .ok (.iconst 0, 1) := by decide +kernel
theorem dX7_meeting_56 : decode cX7_meeting 56 = .ok (.goto 4, 3) := by decide +kernel
theorem dX7_meeting_59 : decode cX7_meeting 59 = .ok (.iconst (-1), 1) := by decide +kernel
theorem dX7_meeting_60 : decode cX7_meeting 60 = .ok (.ireturn, 1) := by decide +kernel
theorem dX7_meeting_61 : decode cX7_meeting 61 = .ok (.iload_n 3, 1) := by decide +kernel
theorem dX7_meeting_62 : decode cX7_meeting 62 = .ok (.istore 4, 2) := by decide +kernel
theorem dX7_meeting_64 : decode cX7_meeting 64 = .ok (.iload 4, 2) := by decide +kernel
theorem dX7_meeting_66 : decode cX7_meeting 66 = .ok (.ldc 174, 2) := by decide +kernel
theorem dX7_meeting_68 : decode cX7_meeting 68 = .ok (.iload_n 3, 1) := by decide +kernel
theorem dX7_meeting_69 : decode cX7_meeting 69 = .ok (.sipush 5000, 3) := by decide +kernel
theorem dX7_meeting_72 : decode cX7_meeting 72 = .ok (.iadd, 1) := by decide +kernel
theorem dX7_meeting_73 : decode cX7_meeting 73 = .ok (.invokestatic 91, 3) := by decide +kernel
theorem dX7_meeting_76 : decode cX7_meeting 76 = .ok (.if_icmp .gt 23, 3) := by decide +kernel
theorem dX7_meeting_79 : decode cX7_meeting 79 = .ok (.aload_n 0, 1) := by decide +kernel
theorem dX7_meeting_80 : decode cX7_meeting 80 = .ok (.iload_n 1, 1) := by decide +kernel
theorem dX7_meeting_81 : decode cX7_meeting 81 = .ok (.iload_n 2, 1) := by decide +kernel
theorem dX7_meeting_82 : decode cX7_meeting 82 = .ok (.iload 4, 2) := by decide +kernel
theorem dX7_meeting_84 : decode cX7_meeting 84 = .ok (.invokevirtual 296, 3) := by decide +kernel
theorem dX7_meeting_87 : decode cX7_meeting 87 = .ok (.ifCond .eq 6, 3) := by decide +kernel
theorem dX7_meeting_90 : decode cX7_meeting 90 = .ok (.iload 4, 2) := by decide +kernel
theorem dX7_meeting_92 : decode cX7_meeting 92 = .ok (.ireturn, 1) := by decide +kernel
theorem dX7_meeting_93 : decode cX7_meeting 93 = .ok (.iinc 4 1, 3) := by decide +kernel
theorem dX7_meeting_96 : decode cX7_meeting 96 = .ok (.goto (-32), 3) := by decide +kernel
theorem dX7_meeting_99 : decode cX7_meeting 99 = .ok (.iconst (-1), 1) := by decide +kernel
theorem dX7_meeting_100 : decode cX7_meeting 100 = .ok (.ireturn, 1) := by decide +kernel
set_option maxRecDepth 20000 in
theorem ggX7_isSpan_X7_isIn : GoodIn wsX7_isSpan wsX7_isIn := goodIn_r _ [5] (by decide +kernel) (by decide +kernel)
set_option maxRecDepth 20000 in
theorem gX7_isSpan_X7_isIn : GoodIn wsX7_isSpan (va_wsS RX7 52 yX7_isIn wsX7_isIn) := goodIn_app (goodIn_of _ (by decide +kernel)) ggX7_isSpan_X7_isIn
theorem dX7_isSpan_0 : decode cX7_isSpan 0 = .ok (.iload_n 0, 1) := by decide +kernel
theorem dX7_isSpan_1 : decode cX7_isSpan 1 = .ok (.iload_n 2, 1) := by decide +kernel
theorem dX7_isSpan_2 : decode cX7_isSpan 2 = .ok (.ldc 174, 2) := by decide +kernel
theorem dX7_isSpan_4 : decode cX7_isSpan 4 = .ok (.invokestatic 52, 3) := by decide +kernel
theorem dX7_isSpan_7 : decode cX7_isSpan 7 = .ok (.ifCond .eq 24, 3) := by decide +kernel
theorem dX7_isSpan_10 : decode cX7_isSpan 10 = .ok (.iload_n 1, 1) := by decide +kernel
theorem dX7_isSpan_11 : decode cX7_isSpan 11 = .ok (.iload_n 0, 1) := by decide +kernel
theorem dX7_isSpan_12 : decode cX7_isSpan 12 = .ok (.ldc 174, 2) := by decide +kernel
theorem dX7_isSpan_14 : decode cX7_isSpan 14 = .ok (.invokestatic 52, 3) := by decide +kernel
theorem dX7_isSpan_17 : decode cX7_isSpan 17 = .ok (.ifCond .eq 14, 3) := by decide +kernel
theorem dX7_isSpan_20 : decode cX7_isSpan 20 = .ok (.iload_n 1, 1) := by decide +kernel
theorem dX7_isSpan_21 : decode cX7_isSpan 21 = .ok (.iload_n 0, 1) := by decide +kernel
theorem dX7_isSpan_22 : decode cX7_isSpan 22 = .ok (.isub, 1) := by decide +kernel
theorem dX7_isSpan_23 : decode cX7_isSpan 23 = .ok (.iload_n 3, 1) := by decide +kernel
theorem dX7_isSpan_24 : decode cX7_isSpan 24 = .ok (.if_icmp .gt 7, 3) := by decide +kernel
theorem dX7_isSpan_27 : decode cX7_isSpan 27 = .ok (.iconst 1, 1) := by decide +kernel
theorem dX7_isSpan_28 : decode cX7_isSpan 28 = .ok (.goto 4, 3) := by decide +kernel
theorem dX7_isSpan_31 : decode cX7_isSpan 31 = .ok (.iconst 0, 1) := by decide +kernel
theorem dX7_isSpan_32 : decode cX7_isSpan 32 = .ok (.ireturn, 1) := by decide +kernel
set_option maxRecDepth 20000 in
theorem ggX7_ticks_X7_isMoon : GoodIn wsX7_ticks wsX7_isMoon := goodIn_r _ [6, 7, 8, 9, 5, 10, 62, 63, 64, 65, 66, 67, 68, 69, 70, 71, 72, 73, 74, 75, 76, 77, 78, 79, 80, 81, 82, 83, 84, 85, 86, 87, 88, 89, 90] (by decide +kernel) (by decide +kernel)
set_option maxRecDepth 20000 in
theorem gX7_ticks_X7_isMoon : GoodIn wsX7_ticks (wsV RX7 273 RX7 yX7_isMoon wsX7_isMoon) := goodIn_app (goodIn_of _ (by decide +kernel)) ggX7_ticks_X7_isMoon
set_option maxRecDepth 20000 in
theorem ggX7_ticks_X7_isSpan : GoodIn wsX7_ticks wsX7_isSpan := goodIn_r _ [13, 14, 8, 9, 5, 10] (by decide +kernel) (by decide +kernel)
set_option maxRecDepth 20000 in
theorem gX7_ticks_X7_isSpan : GoodIn wsX7_ticks (va_wsS RX7 299 yX7_isSpan wsX7_isSpan) := goodIn_app (goodIn_of _ (by decide +kernel)) ggX7_ticks_X7_isSpan
set_option maxRecDepth 20000 in
theorem ggX7_ticks_X7_isIn : GoodIn wsX7_ticks wsX7_isIn := goodIn_r _ [10] (by decide +kernel) (by decide +kernel)
set_option maxRecDepth 20000 in
theorem gX7_ticks_X7_isIn : GoodIn wsX7_ticks (va_wsS RX7 52 yX7_isIn wsX7_isIn) := goodIn_app (goodIn_of _ (by decide +kernel)) ggX7_ticks_X7_isIn
set_option maxRecDepth 20000 in
theorem ggX7_ticks_X7_stateAt : GoodIn wsX7_ticks wsX7_stateAt := goodIn_r _ [18, 19, 20, 21, 5, 22, 23, 24, 25, 26, 27, 28, 29, 30, 31, 32, 33, 34, 7, 35, 36, 37, 38, 39, 40, 41, 42, 43, 44, 45, 46, 47, 48, 49, 50, 51, 52, 53, 54, 55, 56, 57, 58, 59, 60, 61, 62, 63, 64, 65, 66, 67, 68, 69, 70, 71, 72, 73, 74, 75, 76, 77, 78, 79, 80, 81, 82, 83, 84, 85, 86, 87, 88, 89, 90] (by decide +kernel) (by decide +kernel)
set_option maxRecDepth 20000 in
theorem gX7_ticks_X7_stateAt : GoodIn wsX7_ticks (wsV RX7 291 RX7 yX7_stateAt wsX7_stateAt) := goodIn_app (goodIn_of _ (by decide +kernel)) ggX7_ticks_X7_stateAt
theorem dX7_ticks_0 : decode cX7_ticks 0 = .ok (.aload_n 0, 1) := by decide +kernel
theorem dX7_ticks_1 : decode cX7_ticks 1 = .ok (.aload_n 0, 1) := by decide +kernel
theorem dX7_ticks_2 : decode cX7_ticks 2 = .ok (.iload_n 1, 1) := by decide +kernel
theorem dX7_ticks_3 : decode cX7_ticks 3 = .ok (.invokevirtual 273, 3) := by decide +kernel
theorem dX7_ticks_6 : decode cX7_ticks 6 = .ok (.ifCond .ne 7, 3) := by decide +kernel
theorem dX7_ticks_9 : decode cX7_ticks 9 = .ok (.iconst 1, 1) := by decide +kernel
theorem dX7_ticks_10 : decode cX7_ticks 10 = .ok (.goto 30, 3) := by decide +kernel
theorem dX7_ticks_13 : decode cX7_ticks 13 = .ok (.iload_n 2, 1) := by decide +kernel
theorem dX7_ticks_14 : decode cX7_ticks 14 = .ok (.iload_n 3, 1) := by decide +kernel
theorem dX7_ticks_15 : decode cX7_ticks 15 = .ok (.iconst 0, 1) := by decide +kernel
theorem dX7_ticks_16 : decode cX7_ticks 16 = .ok (.sipush 5000, 3) := by decide +kernel
theorem dX7_ticks_19 : decode cX7_ticks 19 = .ok (.invokestatic 299, 3) := by decide +kernel
theorem dX7_ticks_22 : decode cX7_ticks 22 = .ok (.ifCond .eq 17, 3) := by decide +kernel
theorem dX7_ticks_25 : decode cX7_ticks 25 = .ok (.iload 4, 2) := by decide +kernel
theorem dX7_ticks_27 : decode cX7_ticks 27 = .ok (.iconst 0, 1) := by decide +kernel
theorem dX7_ticks_28 : decode cX7_ticks 28 = .ok (.iconst 2, 1) := by decide +kernel
theorem dX7_ticks_29 : decode cX7_ticks 29 = .ok (.invokestatic 52, 3) := by decide +kernel
theorem dX7_ticks_32 : decode cX7_ticks 32 = .ok (.ifCond .eq 7, 3) := by decide +kernel
theorem dX7_ticks_35 : decode cX7_ticks 35 = .ok (.iconst 0, 1) := by decide +kernel
theorem dX7_ticks_36 : decode cX7_ticks 36 = .ok (.goto 4, 3) := by decide +kernel
theorem dX7_ticks_39 : decode cX7_ticks 39 = .ok (.iconst 2, 1) := by decide +kernel
theorem dX7_ticks_40 : decode cX7_ticks 40 = .ok (.putfield 42, 3) := by decide +kernel
theorem dX7_ticks_43 : decode cX7_ticks 43 = .ok (.aload_n 0, 1) := by decide +kernel
theorem dX7_ticks_44 : decode cX7_ticks 44 = .ok (.getfield 42, 3) := by decide +kernel
theorem dX7_ticks_47 : decode cX7_ticks 47 = .ok (.ifCond .le 5, 3) := by decide +kernel
theorem dX7_ticks_50 : decode cX7_ticks 50 = .ok (.iconst 0, 1) := by decide +kernel
theorem dX7_ticks_51 : decode cX7_ticks 51 = .ok (.ireturn, 1) := by decide +kernel
theorem dX7_ticks_52 : decode cX7_ticks 52 = .ok (.iconst 0, 1) := by decide +kernel
theorem dX7_ticks_53 : decode cX7_ticks 53 = .ok (.istore 5, 2) := by decide +kernel
theorem dX7_ticks_55 : decode cX7_ticks 55 = .ok (.iload_n 2, 1) := by decide +kernel
theorem dX7_ticks_56 : decode cX7_ticks 56 = .ok (.istore 6, 2) := by decide +kernel
theorem dX7_ticks_58 : decode cX7_ticks 58 = .ok (.iload 6, 2) := by decide +kernel
theorem dX7_ticks_60 : decode cX7_ticks 60 = .ok (.iload_n 3, 1) := by decide +kernel
theorem dX7_ticks_61 : decode cX7_ticks 61 = .ok (.if_icmp .gt 31, 3) := by decide +kernel
theorem dX7_ticks_64 : decode cX7_ticks 64 = .ok (.iload 5, 2) := by decide +kernel
theorem dX7_ticks_66 : decode cX7_ticks 66 = .ok (.aload_n 0, 1) := by decide +kernel
theorem dX7_ticks_67 : decode cX7_ticks 67 = .ok (.iload_n 1, 1) := by decide +kernel
theorem dX7_ticks_68 : decode cX7_ticks 68 = .ok (.iload 6, 2) := by decide +kernel
theorem dX7_ticks_70 : decode cX7_ticks 70 = .ok (.invokevirtual 291, 3) := by decide +kernel
theorem dX7_ticks_73 : decode cX7_ticks 73 = .ok (.iload 4, 2) := by decide +kernel
theorem dX7_ticks_75 : decode cX7_ticks 75 = .ok (.if_icmp .ne 7, 3) := by decide +kernel
theorem dX7_ticks_78 : decode cX7_ticks 78 = .ok (.iconst 1, 1) := by decide +kernel
theorem dX7_ticks_79 : decode cX7_ticks 79 = .ok (.goto 4, 3) := by decide +kernel
theorem dX7_ticks_82 : decode cX7_ticks 82 = .ok (.iconst 0, 1) := by decide +kernel
theorem dX7_ticks_83 : decode cX7_ticks 83 = .ok (.iadd, 1) := by decide +kernel
theorem dX7_ticks_84 : decode cX7_ticks 84 = .ok (.istore 5, 2) := by decide +kernel
theorem dX7_ticks_86 : decode cX7_ticks 86 = .ok (.iinc 6 1, 3) := by decide +kernel
theorem dX7_ticks_89 : decode cX7_ticks 89 = .ok (.goto (-31), 3) := by decide +kernel
theorem dX7_ticks_92 : decode cX7_ticks 92 = .ok (.iload 5, 2) := by decide +kernel
theorem dX7_ticks_94 : decode cX7_ticks 94 = .ok (.ireturn, 1) := by decide +kernel
set_option maxRecDepth 20000 in
theorem ggX7_darkest_X7_isSpan : GoodIn wsX7_darkest wsX7_isSpan := goodIn_r _ [6, 7, 8, 9, 5, 10] (by decide +kernel) (by decide +kernel)
set_option maxRecDepth 20000 in
theorem gX7_darkest_X7_isSpan : GoodIn wsX7_darkest (va_wsS RX7 299 yX7_isSpan wsX7_isSpan) := goodIn_app (goodIn_of _ (by decide +kernel)) ggX7_darkest_X7_isSpan
set_option maxRecDepth 20000 in
theorem ggX7_darkest_X7_stateAt : GoodIn wsX7_darkest wsX7_stateAt := goodIn_r _ [14, 15, 16, 17, 5, 18, 19, 20, 21, 22, 23, 24, 25, 26, 27, 28, 29, 30, 2, 31, 32, 33, 34, 35, 36, 37, 38, 39, 40, 41, 42, 43, 44, 45, 46, 47, 48, 49, 50, 51, 52, 53, 54, 55, 56, 57, 58, 59, 60, 61, 62, 63, 64, 65, 66, 67, 68, 69, 70, 71, 72, 73, 74, 75, 76, 77, 78, 79, 80, 81, 82, 83, 84, 85, 86] (by decide +kernel) (by decide +kernel)
set_option maxRecDepth 20000 in
theorem gX7_darkest_X7_stateAt : GoodIn wsX7_darkest (wsV RX7 291 RX7 yX7_stateAt wsX7_stateAt) := goodIn_app (goodIn_of _ (by decide +kernel)) ggX7_darkest_X7_stateAt
theorem dX7_darkest_0 : decode cX7_darkest 0 = .ok (.aload_n 0, 1) := by decide +kernel
theorem dX7_darkest_1 : decode cX7_darkest 1 = .ok (.iload_n 1, 1) := by decide +kernel
theorem dX7_darkest_2 : decode cX7_darkest 2 = .ok (.iload_n 2, 1) := by decide +kernel
theorem dX7_darkest_3 : decode cX7_darkest 3 = .ok (.iconst 0, 1) := by decide +kernel
theorem dX7_darkest_4 : decode cX7_darkest 4 = .ok (.sipush 2000, 3) := by decide +kernel
theorem dX7_darkest_7 : decode cX7_darkest 7 = .ok (.invokestatic 299, 3) := by decide +kernel
theorem dX7_darkest_10 : decode cX7_darkest 10 = .ok (.ifCond .eq 7, 3) := by decide +kernel
theorem dX7_darkest_13 : decode cX7_darkest 13 = .ok (.iconst 0, 1) := by decide +kernel
theorem dX7_darkest_14 : decode cX7_darkest 14 = .ok (.goto 4, 3) := by decide +kernel
theorem dX7_darkest_17 : decode cX7_darkest 17 = .ok (.iconst 1, 1) := by decide +kernel
theorem dX7_darkest_18 : decode cX7_darkest 18 = .ok (.putfield 42, 3) := by decide +kernel
theorem dX7_darkest_21 : decode cX7_darkest 21 = .ok (.aload_n 0, 1) := by decide +kernel
theorem dX7_darkest_22 : decode cX7_darkest 22 = .ok (.getfield 42, 3) := by decide +kernel
theorem dX7_darkest_25 : decode cX7_darkest 25 = .ok (.ifCond .le 5, 3) := by decide +kernel
theorem dX7_darkest_28 : decode cX7_darkest 28 = .ok (.iconst 0, 1) := by decide +kernel
theorem dX7_darkest_29 : decode cX7_darkest 29 = .ok (.ireturn, 1) := by decide +kernel
theorem dX7_darkest_30 : decode cX7_darkest 30 = .ok (.iconst 0, 1) := by decide +kernel
theorem dX7_darkest_31 : decode cX7_darkest 31 = .ok (.istore_n 3, 1) := by decide +kernel
theorem dX7_darkest_32 : decode cX7_darkest 32 = .ok (.iconst (-1), 1) := by decide +kernel
theorem dX7_darkest_33 : decode cX7_darkest 33 = .ok (.istore 4, 2) := by decide +kernel
theorem dX7_darkest_35 : decode cX7_darkest 35 = .ok (.iload_n 1, 1) := by decide +kernel
theorem dX7_darkest_36 : decode cX7_darkest 36 = .ok (.istore 5, 2) := by decide +kernel
theorem dX7_darkest_38 : decode cX7_darkest 38 = .ok (.iload 5, 2) := by decide +kernel
theorem dX7_darkest_40 : decode cX7_darkest 40 = .ok (.iload_n 2, 1) := by decide +kernel
theorem dX7_darkest_41 : decode cX7_darkest 41 = .ok (.if_icmp .gt 69, 3) := by decide +kernel
theorem dX7_darkest_44 : decode cX7_darkest 44 = .ok (.iconst 0, 1) := by decide +kernel
theorem dX7_darkest_45 : decode cX7_darkest 45 = .ok (.istore 6, 2) := by decide +kernel
theorem dX7_darkest_47 : decode cX7_darkest 47 = .ok (.iconst 0, 1) := by decide +kernel
theorem dX7_darkest_48 : decode cX7_darkest 48 = .ok (.istore 7, 2) := by decide +kernel
theorem dX7_darkest_50 : decode cX7_darkest 50 = .ok (.iload 7, 2) := by decide +kernel
theorem dX7_darkest_52 : decode cX7_darkest 52 = .ok (.aload_n 0, 1) := by decide +kernel
theorem dX7_darkest_53 : decode cX7_darkest 53 = .ok (.getfield 7, 3) := by decide +kernel
theorem dX7_darkest_56 : decode cX7_darkest 56 = .ok (.iconst 3, 1) := by decide +kernel
theorem dX7_darkest_57 : decode cX7_darkest 57 = .ok (.iaload, 1) := by decide +kernel
theorem dX7_darkest_58 : decode cX7_darkest 58 = .ok (.if_icmp .ge 30, 3) := by decide +kernel
theorem dX7_darkest_61 : decode cX7_darkest 61 = .ok (.iload 6, 2) := by decide +kernel
theorem dX7_darkest_63 : decode cX7_darkest 63 = .ok (.aload_n 0, 1) := by decide +kernel
theorem dX7_darkest_64 : decode cX7_darkest 64 = .ok (.iload 7, 2) := by decide +kernel
theorem dX7_darkest_66 : decode cX7_darkest 66 = .ok (.iload 5, 2) := by decide +kernel
theorem dX7_darkest_68 : decode cX7_darkest 68 = .ok (.invokevirtual 291, 3) := by decide +kernel
theorem dX7_darkest_71 : decode cX7_darkest 71 = .ok (.ifCond .le 7, 3) := by decide +kernel
theorem dX7_darkest_74 : decode cX7_darkest 74 = .ok (.iconst 1, 1) := by decide +kernel
theorem dX7_darkest_75 : decode cX7_darkest 75 = .ok (.goto 4, 3) := by decide +kernel
theorem dX7_darkest_78 : decode cX7_darkest 78 = .ok (.iconst 0, 1) := by decide +kernel
theorem dX7_darkest_79 : decode cX7_darkest 79 = .ok (.iadd, 1) := by decide +kernel
theorem dX7_darkest_80 : decode cX7_darkest 80 = .ok (.istore 6, 2) := by decide +kernel
theorem dX7_darkest_82 : decode cX7_darkest 82 = .ok (.iinc 7 1, 3) := by decide +kernel
theorem dX7_darkest_85 : decode cX7_darkest 85 = .ok (.goto (-35), 3) := by decide +kernel
theorem dX7_darkest_88 : decode cX7_darkest 88 = .ok (.iload 6, 2) := by decide +kernel
theorem dX7_darkest_90 : decode cX7_darkest 90 = .ok (.iload_n 3, 1) := by decide +kernel
theorem dX7_darkest_91 : decode cX7_darkest 91 = .ok (.if_icmp .gt 6, 3) := by decide +kernel
theorem dX7_darkest_94 : decode cX7_darkest 94 = .ok (.goto 10, 3) := by decide +kernel
theorem dX7_darkest_97 : decode cX7_darkest 97 = .ok (.iload 6, 2) := by decide +kernel
theorem dX7_darkest_99 : decode cX7_darkest 99 = .ok (.istore_n 3, 1) := by decide +kernel
theorem dX7_darkest_100 : decode cX7_darkest 100 = .ok (.iload 5, 2) := by decide +kernel
theorem dX7_darkest_102 : decode cX7_darkest 102 = .ok (.istore 4, 2) := by decide +kernel
theorem dX7_darkest_104 : decode cX7_darkest 104 = .ok (.iinc 5 1, 3) := by decide +kernel
theorem dX7_darkest_107 : decode cX7_darkest 107 = .ok (.goto (-69), 3) := by decide +kernel
theorem dX7_darkest_110 : decode cX7_darkest 110 = .ok (.iload 4, 2) := by decide +kernel
theorem dX7_darkest_112 : decode cX7_darkest 112 = .ok (.ireturn, 1) := by decide +kernel
set_option maxRecDepth 20000 in
theorem ggX7_next_X7_isMoon : GoodIn wsX7_next wsX7_isMoon := goodIn_r _ [11, 12, 13, 14, 10, 15, 70, 71, 72, 73, 74, 75, 76, 77, 78, 79, 80, 81, 82, 83, 84, 85, 86, 87, 88, 89, 90, 91, 92, 93, 94, 95, 96, 97, 98] (by decide +kernel) (by decide +kernel)
set_option maxRecDepth 20000 in
theorem gX7_next_X7_isMoon : GoodIn wsX7_next (wsV RX7 273 RX7 yX7_isMoon wsX7_isMoon) := goodIn_app (goodIn_of _ (by decide +kernel)) ggX7_next_X7_isMoon
set_option maxRecDepth 20000 in
theorem ggX7_next_X7_isIn : GoodIn wsX7_next wsX7_isIn := goodIn_r _ [15] (by decide +kernel) (by decide +kernel)
set_option maxRecDepth 20000 in
theorem gX7_next_X7_isIn : GoodIn wsX7_next (va_wsS RX7 52 yX7_isIn wsX7_isIn) := goodIn_app (goodIn_of _ (by decide +kernel)) ggX7_next_X7_isIn
set_option maxRecDepth 20000 in
theorem ggX7_next_X7_looksAt : GoodIn wsX7_next wsX7_looksAt := goodIn_r _ [19, 20, 21, 22, 10, 23, 24, 25, 26, 27, 28, 29, 30, 31, 32, 33, 34, 35, 12, 36, 37, 38, 39, 40, 41, 42, 43, 44, 45, 46, 47, 48, 49, 50, 51, 52, 53, 54, 55, 56, 57, 58, 59, 60, 61, 62, 63, 64, 65, 66, 70, 71, 72, 73, 74, 75, 76, 77, 78, 79, 80, 81, 82, 83, 84, 85, 86, 87, 88, 89, 90, 91, 92, 93, 94, 95, 96, 97, 98] (by decide +kernel) (by decide +kernel)
set_option maxRecDepth 20000 in
theorem gX7_next_X7_looksAt : GoodIn wsX7_next (wsV RX7 257 RX7 yX7_looksAt wsX7_looksAt) := goodIn_app (goodIn_of _ (by decide +kernel)) ggX7_next_X7_looksAt
set_option maxRecDepth 20000 in
theorem ggX7_next_X7_isEvent : GoodIn wsX7_next wsX7_isEvent := goodIn_r _ [69] (by decide +kernel) (by decide +kernel)
set_option maxRecDepth 20000 in
theorem gX7_next_X7_isEvent : GoodIn wsX7_next (va_wsS RX7 260 yX7_isEvent wsX7_isEvent) := goodIn_app (goodIn_of _ (by decide +kernel)) ggX7_next_X7_isEvent
theorem dX7_next_0 : decode cX7_next 0 = .ok (.aload_n 0, 1) := by decide +kernel
theorem dX7_next_1 : decode cX7_next 1 = .ok (.aload_n 0, 1) := by decide +kernel
theorem dX7_next_2 : decode cX7_next 2 = .ok (.iload_n 1, 1) := by decide +kernel
theorem dX7_next_3 : decode cX7_next 3 = .ok (.invokevirtual 273, 3) := by decide +kernel
theorem dX7_next_6 : decode cX7_next 6 = .ok (.ifCond .ne 7, 3) := by decide +kernel
theorem dX7_next_9 : decode cX7_next 9 = .ok (.iconst 1, 1) := by decide +kernel
theorem dX7_next_10 : decode cX7_next 10 = .ok (.goto 27, 3) := by decide +kernel
theorem dX7_next_13 : decode cX7_next 13 = .ok (.iload_n 2, 1) := by decide +kernel
theorem dX7_next_14 : decode cX7_next 14 = .ok (.iconst 0, 1) := by decide +kernel
theorem dX7_next_15 : decode cX7_next 15 = .ok (.iconst 3, 1) := by decide +kernel
theorem dX7_next_16 : decode cX7_next 16 = .ok (.invokestatic 52, 3) := by decide +kernel
theorem dX7_next_19 : decode cX7_next 19 = .ok (.ifCond .eq 17, 3) := by decide +kernel
theorem dX7_next_22 : decode cX7_next 22 = .ok (.iload_n 3, 1) := by decide +kernel
theorem dX7_next_23 : decode cX7_next 23 = .ok (.iconst 1, 1) := by decide +kernel
theorem dX7_next_24 : decode cX7_next 24 = .ok (.ldc 174, 2) := by decide +kernel
theorem dX7_next_26 : decode cX7_next 26 = .ok (.invokestatic 52, 3) := by decide +kernel
theorem dX7_next_29 : decode cX7_next 29 = .ok (.ifCond .eq 7, 3) := by decide +kernel
theorem dX7_next_32 : decode cX7_next 32 = .ok (.iconst 0, 1) := by decide +kernel
theorem dX7_next_33 : decode cX7_next 33 = .ok (.goto 4, 3) := by decide +kernel
theorem dX7_next_36 : decode cX7_next 36 = .ok (.iconst 2, 1) := by decide +kernel
theorem dX7_next_37 : decode cX7_next 37 = .ok (.putfield 42, 3) := by decide +kernel
theorem dX7_next_40 : decode cX7_next 40 = .ok (.aload_n 0, 1) := by decide +kernel
theorem dX7_next_41 : decode cX7_next 41 = .ok (.getfield 42, 3) := by decide +kernel
theorem dX7_next_44 : decode cX7_next 44 = .ok (.ifCond .le 5, 3) := by decide +kernel
theorem dX7_next_47 : decode cX7_next 47 = .ok (.iconst 0, 1) := by decide +kernel
theorem dX7_next_48 : decode cX7_next 48 = .ok (.ireturn, 1) := by decide +kernel
theorem dX7_next_49 : decode cX7_next 49 = .ok (.aload_n 0, 1) := by decide +kernel
theorem dX7_next_50 : decode cX7_next 50 = .ok (.iload_n 1, 1) := by decide +kernel
theorem dX7_next_51 : decode cX7_next 51 = .ok (.iload_n 3, 1) := by decide +kernel
theorem dX7_next_52 : decode cX7_next 52 = .ok (.iconst 1, 1) := by decide +kernel
theorem dX7_next_53 : decode cX7_next 53 = .ok (.isub, 1) := by decide +kernel
theorem dX7_next_54 : decode cX7_next 54 = .ok (.invokevirtual 257, 3) := by decide +kernel
theorem dX7_next_57 : decode cX7_next 57 = .ok (.istore 4, 2) := by decide +kernel
theorem dX7_next_59 : decode cX7_next 59 = .ok (.iload_n 3, 1) := by decide +kernel
theorem dX7_next_60 : decode cX7_next 60 = .ok (.istore 5, 2) := by decide +kernel
theorem dX7_next_62 : decode cX7_next 62 = .ok (.iload 5, 2) := by decide +kernel
theorem dX7_next_64 : decode cX7_next 64 = .ok (.ldc 174, 2) := by decide +kernel
theorem dX7_next_66 : decode cX7_next 66 = .ok (.iload_n 3, 1) := by decide +kernel
theorem dX7_next_67 : decode cX7_next 67 = .ok (.sipush 5000, 3) := by decide +kernel
theorem dX7_next_70 : decode cX7_next 70 = .ok (.iadd, 1) := by decide +kernel
theorem dX7_next_71 : decode cX7_next 71 = .ok (.invokestatic 91, 3) := by decide +kernel
theorem dX7_next_74 : decode cX7_next 74 = .ok (.if_icmp .gt 36, 3) := by decide +kernel
theorem dX7_next_77 : decode cX7_next 77 = .ok (.aload_n 0, 1) := by decide +kernel
theorem dX7_next_78 : decode cX7_next 78 = .ok (.iload_n 1, 1) := by decide +kernel
theorem dX7_next_79 : decode cX7_next 79 = .ok (.iload 5, 2) := by decide +kernel
theorem dX7_next_81 : decode cX7_next 81 = .ok (.invokevirtual 257, 3) := by decide +kernel
theorem dX7_next_84 : decode cX7_next 84 = .ok (.istore 6, 2) := by decide +kernel
theorem dX7_next_86 : decode cX7_next 86 = .ok (.iload_n 2, 1) := by decide +kernel
theorem dX7_next_87 : decode cX7_next 87 = .ok (.iload 4, 2) := by decide +kernel
theorem dX7_next_89 : decode cX7_next 89 = .ok (.iload 6, 2) := by decide +kernel
theorem dX7_next_91 : decode cX7_next 91 = .ok (.invokestatic 260, 3) := by decide +kernel
theorem dX7_next_94 : decode cX7_next 94 = .ok (.ifCond .eq 6, 3) := by decide +kernel
theorem dX7_next_97 : decode cX7_next 97 = .ok (.iload 5, 2) := by decide +kernel
theorem dX7_next_99 : decode cX7_next 99 = .ok (.ireturn, 1) := by decide +kernel
theorem dX7_next_100 : decode cX7_next 100 = .ok (.iload 6, 2) := by decide +kernel
theorem dX7_next_102 : decode cX7_next 102 = .ok (.istore 4, 2) := by decide +kernel
theorem dX7_next_104 : decode cX7_next 104 = .ok (.iinc 5 1, 3) := by decide +kernel
theorem dX7_next_107 : decode cX7_next 107 = .ok (.goto (-45), 3) := by decide +kernel
theorem dX7_next_110 : decode cX7_next 110 = .ok (.iconst (-1), 1) := by decide +kernel
theorem dX7_next_111 : decode cX7_next 111 = .ok (.ireturn, 1) := by decide +kernel
set_option maxRecDepth 20000 in
theorem ggX7_goesTo_X7_looksAt : GoodIn wsX7_goesTo wsX7_looksAt := goodIn_r _ [11, 12, 13, 14, 10, 15, 16, 17, 18, 19, 20, 21, 22, 23, 24, 25, 26, 27, 2, 28, 29, 30, 31, 32, 33, 34, 35, 36, 37, 38, 39, 40, 41, 42, 43, 44, 45, 46, 47, 48, 49, 50, 51, 52, 53, 54, 55, 56, 57, 58, 131, 132, 133, 134, 135, 136, 137, 138, 139, 140, 141, 142, 143, 144, 145, 146, 147, 148, 149, 150, 151, 152, 153, 154, 155, 156, 157, 158, 159] (by decide +kernel) (by decide +kernel)
set_option maxRecDepth 20000 in
theorem gX7_goesTo_X7_looksAt : GoodIn wsX7_goesTo (wsV RX7 257 RX7 yX7_looksAt wsX7_looksAt) := goodIn_app (goodIn_of _ (by decide +kernel)) ggX7_goesTo_X7_looksAt
set_option maxRecDepth 20000 in
theorem ggX7_goesTo_X7_isEvent : GoodIn wsX7_goesTo wsX7_isEvent := goodIn_r _ [61] (by decide +kernel) (by decide +kernel)
set_option maxRecDepth 20000 in
theorem gX7_goesTo_X7_isEvent : GoodIn wsX7_goesTo (va_wsS RX7 260 yX7_isEvent wsX7_isEvent) := goodIn_app (goodIn_of _ (by decide +kernel)) ggX7_goesTo_X7_isEvent
set_option maxRecDepth 20000 in
theorem ggX7_goesTo_X7_tells : GoodIn wsX7_goesTo wsX7_tells := goodIn_r _ [65, 66, 67, 68, 69, 70, 10, 71, 72, 73, 74, 75, 76, 77, 78, 79, 80, 81, 82, 83, 84, 85, 86, 87, 88, 89, 90, 91, 92, 93, 94, 95, 96, 97, 98, 99, 100, 101, 102, 103, 104, 105, 106, 107, 108, 109, 110, 111, 112, 113, 114, 115, 116, 117, 118, 119, 120, 121, 122, 123, 124, 125, 126, 127, 128, 129, 130, 24, 25, 26, 27, 2, 131, 132, 133, 134, 135, 136, 137, 138, 139, 140, 141, 142, 143, 144, 145, 146, 147, 148, 149, 150, 151, 152, 153, 154, 155, 156, 157, 158, 159] (by decide +kernel) (by decide +kernel)
set_option maxRecDepth 20000 in
theorem gX7_goesTo_X7_tells : GoodIn wsX7_goesTo (wsV RX7 306 RX7 yX7_tells wsX7_tells) := goodIn_app (goodIn_of _ (by decide +kernel)) ggX7_goesTo_X7_tells
theorem dX7_goesTo_0 : decode cX7_goesTo 0 = .ok (.aload_n 0, 1) := by decide +kernel
theorem dX7_goesTo_1 : decode cX7_goesTo 1 = .ok (.iconst 0, 1) := by decide +kernel
theorem dX7_goesTo_2 : decode cX7_goesTo 2 = .ok (.putfield 303, 3) := by decide +kernel
theorem dX7_goesTo_5 : decode cX7_goesTo 5 = .ok (.iconst 0, 1) := by decide +kernel
theorem dX7_goesTo_6 : decode cX7_goesTo 6 = .ok (.istore 4, 2) := by decide +kernel
theorem dX7_goesTo_8 : decode cX7_goesTo 8 = .ok (.iload 4, 2) := by decide +kernel
theorem dX7_goesTo_10 : decode cX7_goesTo 10 = .ok (.aload_n 0, 1) := by decide +kernel
theorem dX7_goesTo_11 : decode cX7_goesTo 11 = .ok (.getfield 7, 3) := by decide +kernel
theorem dX7_goesTo_14 : decode cX7_goesTo 14 = .ok (.iconst 3, 1) := by decide +kernel
theorem dX7_goesTo_15 : decode cX7_goesTo 15 = .ok (.iaload, 1) := by decide +kernel
theorem dX7_goesTo_16 : decode cX7_goesTo 16 = .ok (.if_icmp .ge 25, 3) := by decide +kernel
theorem dX7_goesTo_19 : decode cX7_goesTo 19 = .ok (.aload_n 0, 1) := by decide +kernel
theorem dX7_goesTo_20 : decode cX7_goesTo 20 = .ok (.getfield 33, 3) := by decide +kernel
theorem dX7_goesTo_23 : decode cX7_goesTo 23 = .ok (.iload 4, 2) := by decide +kernel
theorem dX7_goesTo_25 : decode cX7_goesTo 25 = .ok (.aload_n 0, 1) := by decide +kernel
theorem dX7_goesTo_26 : decode cX7_goesTo 26 = .ok (.iload 4, 2) := by decide +kernel
theorem dX7_goesTo_28 : decode cX7_goesTo 28 = .ok (.iload_n 1, 1) := by decide +kernel
theorem dX7_goesTo_29 : decode cX7_goesTo 29 = .ok (.iconst 1, 1) := by decide +kernel
theorem dX7_goesTo_30 : decode cX7_goesTo 30 = .ok (.isub, 1) := by decide +kernel
theorem dX7_goesTo_31 : decode cX7_goesTo 31 = .ok (.invokevirtual 257, 3) := by decide +kernel
theorem dX7_goesTo_34 : decode cX7_goesTo 34 = .ok (.iastore, 1) := by decide +kernel
theorem dX7_goesTo_35 : decode cX7_goesTo 35 = .ok (.iinc 4 1, 3) := by decide +kernel
theorem dX7_goesTo_38 : decode cX7_goesTo 38 = .ok (.goto (-30), 3) := by decide +kernel
theorem dX7_goesTo_41 : decode cX7_goesTo 41 = .ok (.iload_n 1, 1) := by decide +kernel
theorem dX7_goesTo_42 : decode cX7_goesTo 42 = .ok (.istore 4, 2) := by decide +kernel
theorem dX7_goesTo_44 : decode cX7_goesTo 44 = .ok (.iload 4, 2) := by decide +kernel
theorem dX7_goesTo_46 : decode cX7_goesTo 46 = .ok (.iload_n 2, 1) := by decide +kernel
theorem dX7_goesTo_47 : decode cX7_goesTo 47 = .ok (.if_icmp .gt 154, 3) := by decide +kernel
theorem dX7_goesTo_50 : decode cX7_goesTo 50 = .ok (.iconst 0, 1) := by decide +kernel
theorem dX7_goesTo_51 : decode cX7_goesTo 51 = .ok (.istore 5, 2) := by decide +kernel
theorem dX7_goesTo_53 : decode cX7_goesTo 53 = .ok (.iload 5, 2) := by decide +kernel
theorem dX7_goesTo_55 : decode cX7_goesTo 55 = .ok (.aload_n 0, 1) := by decide +kernel
theorem dX7_goesTo_56 : decode cX7_goesTo 56 = .ok (.getfield 7, 3) := by decide +kernel
theorem dX7_goesTo_59 : decode cX7_goesTo 59 = .ok (.iconst 3, 1) := by decide +kernel
theorem dX7_goesTo_60 : decode cX7_goesTo 60 = .ok (.iaload, 1) := by decide +kernel
theorem dX7_goesTo_61 : decode cX7_goesTo 61 = .ok (.if_icmp .ge 134, 3) := by decide +kernel
theorem dX7_goesTo_64 : decode cX7_goesTo 64 = .ok (.aload_n 0, 1) := by decide +kernel
theorem dX7_goesTo_65 : decode cX7_goesTo 65 = .ok (.getfield 33, 3) := by decide +kernel
theorem dX7_goesTo_68 : decode cX7_goesTo 68 = .ok (.iload 5, 2) := by decide +kernel
theorem dX7_goesTo_70 : decode cX7_goesTo 70 = .ok (.iaload, 1) := by decide +kernel
theorem dX7_goesTo_71 : decode cX7_goesTo 71 = .ok (.istore 6, 2) := by decide +kernel
theorem dX7_goesTo_73 : decode cX7_goesTo 73 = .ok (.aload_n 0, 1) := by decide +kernel
theorem dX7_goesTo_74 : decode cX7_goesTo 74 = .ok (.getfield 33, 3) := by decide +kernel
theorem dX7_goesTo_77 : decode cX7_goesTo 77 = .ok (.iload 5, 2) := by decide +kernel
theorem dX7_goesTo_79 : decode cX7_goesTo 79 = .ok (.aload_n 0, 1) := by decide +kernel
theorem dX7_goesTo_80 : decode cX7_goesTo 80 = .ok (.iload 5, 2) := by decide +kernel
theorem dX7_goesTo_82 : decode cX7_goesTo 82 = .ok (.iload 4, 2) := by decide +kernel
theorem dX7_goesTo_84 : decode cX7_goesTo 84 = .ok (.invokevirtual 257, 3) := by decide +kernel
theorem dX7_goesTo_87 : decode cX7_goesTo 87 = .ok (.iastore, 1) := by decide +kernel
theorem dX7_goesTo_88 : decode cX7_goesTo 88 = .ok (.iconst 0, 1) := by decide +kernel
theorem dX7_goesTo_89 : decode cX7_goesTo 89 = .ok (.istore 7, 2) := by decide +kernel
theorem dX7_goesTo_91 : decode cX7_goesTo 91 = .ok (.iload 7, 2) := by decide +kernel
theorem dX7_goesTo_93 : decode cX7_goesTo 93 = .ok (.iconst 3, 1) := by decide +kernel
theorem dX7_goesTo_94 : decode cX7_goesTo 94 = .ok (.if_icmp .gt 95, 3) := by decide +kernel
theorem dX7_goesTo_97 : decode cX7_goesTo 97 = .ok (.iload 6, 2) := by decide +kernel
theorem dX7_goesTo_99 : decode cX7_goesTo 99 = .ok (.aload_n 0, 1) := by decide +kernel
theorem dX7_goesTo_100 : decode cX7_goesTo 100 = .ok (.getfield 33, 3) := by decide +kernel
theorem dX7_goesTo_103 : decode cX7_goesTo 103 = .ok (.iload 5, 2) := by decide +kernel
theorem dX7_goesTo_105 : decode cX7_goesTo 105 = .ok (.iaload, 1) := by decide +kernel
theorem dX7_goesTo_106 : decode cX7_goesTo 106 = .ok (.if_icmp .eq 77, 3) := by decide +kernel
theorem dX7_goesTo_109 : decode cX7_goesTo 109 = .ok (.iload 7, 2) := by decide +kernel
theorem dX7_goesTo_111 : decode cX7_goesTo 111 = .ok (.iload 6, 2) := by decide +kernel
theorem dX7_goesTo_113 : decode cX7_goesTo 113 = .ok (.aload_n 0, 1) := by decide +kernel
theorem dX7_goesTo_114 : decode cX7_goesTo 114 = .ok (.getfield 33, 3) := by decide +kernel
theorem dX7_goesTo_117 : decode cX7_goesTo 117 = .ok (.iload 5, 2) := by decide +kernel
theorem dX7_goesTo_119 : decode cX7_goesTo 119 = .ok (.iaload, 1) := by decide +kernel
theorem dX7_goesTo_120 : decode cX7_goesTo 120 = .ok (.invokestatic 260, 3) := by decide +kernel
theorem dX7_goesTo_123 : decode cX7_goesTo 123 = .ok (.ifCond .ne 6, 3) := by decide +kernel
theorem dX7_goesTo_126 : decode cX7_goesTo 126 = .ok (.goto 57, 3) := by decide +kernel
theorem dX7_goesTo_129 : decode cX7_goesTo 129 = .ok (.iload_n 3, 1) := by decide +kernel
theorem dX7_goesTo_130 : decode cX7_goesTo 130 = .ok (.ifCond .ge 13, 3) := by decide +kernel
theorem dX7_goesTo_133 : decode cX7_goesTo 133 = .ok (.aload_n 0, 1) := by decide +kernel
theorem dX7_goesTo_134 : decode cX7_goesTo 134 = .ok (.iload 4, 2) := by decide +kernel
theorem dX7_goesTo_136 : decode cX7_goesTo 136 = .ok (.iload 5, 2) := by decide +kernel
theorem dX7_goesTo_138 : decode cX7_goesTo 138 = .ok (.iload 7, 2) := by decide +kernel
theorem dX7_goesTo_140 : decode cX7_goesTo 140 = .ok (.invokevirtual 306, 3) := by decide +kernel
theorem dX7_goesTo_143 : decode cX7_goesTo 143 = .ok (.aload_n 0, 1) := by decide +kernel
theorem dX7_goesTo_144 : decode cX7_goesTo 144 = .ok (.iload 4, 2) := by decide +kernel
theorem dX7_goesTo_146 : decode cX7_goesTo 146 = .ok (.putfield 309, 3) := by decide +kernel
theorem dX7_goesTo_149 : decode cX7_goesTo 149 = .ok (.aload_n 0, 1) := by decide +kernel
theorem dX7_goesTo_150 : decode cX7_goesTo 150 = .ok (.iload 5, 2) := by decide +kernel
theorem dX7_goesTo_152 : decode cX7_goesTo 152 = .ok (.putfield 312, 3) := by decide +kernel
theorem dX7_goesTo_155 : decode cX7_goesTo 155 = .ok (.aload_n 0, 1) := by decide +kernel
theorem dX7_goesTo_156 : decode cX7_goesTo 156 = .ok (.iload 7, 2) := by decide +kernel
theorem dX7_goesTo_158 : decode cX7_goesTo 158 = .ok (.putfield 315, 3) := by decide +kernel
theorem dX7_goesTo_161 : decode cX7_goesTo 161 = .ok (.aload_n 0, 1) := by decide +kernel
theorem dX7_goesTo_162 : decode cX7_goesTo 162 = .ok (.dup, 1) := by decide +kernel
theorem dX7_goesTo_163 : decode cX7_goesTo 163 = .ok (.getfield 303, 3) := by decide +kernel
theorem dX7_goesTo_166 : decode cX7_goesTo 166 = .ok (.iconst 1, 1) := by decide +kernel
theorem dX7_goesTo_167 : decode cX7_goesTo 167 = .ok (.iadd, 1) := by decide +kernel
theorem dX7_goesTo_168 : decode cX7_goesTo 168 = .ok (.putfield 303, 3) := by decide +kernel
theorem dX7_goesTo_171 : decode cX7_goesTo 171 = .ok (.aload_n 0, 1) := by decide +kernel
theorem dX7_goesTo_172 : decode cX7_goesTo 172 = .ok (.getfield 303, 3) := by decide +kernel
theorem dX7_goesTo_175 : decode cX7_goesTo 175 = .ok (.iload_n 3, 1) := by decide +kernel
theorem dX7_goesTo_176 : decode cX7_goesTo 176 = .ok (.iconst 1, 1) := by decide +kernel
theorem dX7_goesTo_177 : decode cX7_goesTo 177 = .ok (.iadd, 1) := by decide +kernel
theorem dX7_goesTo_178 : decode cX7_goesTo 178 = .ok (.if_icmp .ne 5, 3) := by decide +kernel
theorem dX7_goesTo_181 : decode cX7_goesTo 181 = .ok (.iconst 1, 1) := by decide +kernel
theorem dX7_goesTo_182 : decode cX7_goesTo 182 = .ok (.ireturn, 1) := by decide +kernel
theorem dX7_goesTo_183 : decode cX7_goesTo 183 = .ok (.iinc 7 1, 3) := by decide +kernel
theorem dX7_goesTo_186 : decode cX7_goesTo 186 = .ok (.goto (-95), 3) := by decide +kernel
theorem dX7_goesTo_189 : decode cX7_goesTo 189 = .ok (.iinc 5 1, 3) := by decide +kernel
theorem dX7_goesTo_192 : decode cX7_goesTo 192 = .ok (.goto (-139), 3) := by decide +kernel
theorem dX7_goesTo_195 : decode cX7_goesTo 195 = .ok (.iinc 4 1, 3) := by decide +kernel
theorem dX7_goesTo_198 : decode cX7_goesTo 198 = .ok (.goto (-154), 3) := by decide +kernel
theorem dX7_goesTo_201 : decode cX7_goesTo 201 = .ok (.iconst 0, 1) := by decide +kernel
theorem dX7_goesTo_202 : decode cX7_goesTo 202 = .ok (.ireturn, 1) := by decide +kernel
set_option maxRecDepth 20000 in
theorem ggX7_events_X7_isSpan : GoodIn wsX7_events wsX7_isSpan := goodIn_r _ [7, 8, 9, 10, 6, 11] (by decide +kernel) (by decide +kernel)
set_option maxRecDepth 20000 in
theorem gX7_events_X7_isSpan : GoodIn wsX7_events (va_wsS RX7 299 yX7_isSpan wsX7_isSpan) := goodIn_app (goodIn_of _ (by decide +kernel)) ggX7_events_X7_isSpan
set_option maxRecDepth 20000 in
theorem ggX7_events_X7_goesTo : GoodIn wsX7_events wsX7_goesTo := goodIn_r _ [15, 3, 16, 17, 18, 19, 20, 21, 22, 23, 6, 24, 25, 26, 27, 28, 29, 30, 31, 32, 33, 34, 35, 36, 37, 38, 39, 40, 41, 42, 43, 44, 45, 46, 47, 48, 49, 50, 51, 52, 53, 54, 55, 56, 57, 58, 59, 60, 61, 62, 63, 64, 65, 66, 67, 68, 69, 70, 71, 72, 73, 74, 75, 76, 77, 78, 2, 79, 80, 81, 82, 83, 84, 85, 86, 87, 88, 89, 90, 91, 92, 93, 94, 95, 96, 97, 98, 99, 100, 101, 102, 103, 104, 105, 106, 107, 108, 109, 110, 111, 112, 113, 114, 115, 116, 117, 118, 119, 120, 121, 122, 123, 124, 125, 126, 127, 128, 129, 130, 131, 132, 133, 134, 135, 136, 137, 138, 139, 140, 141, 142, 143, 144, 145, 146, 147, 148, 149, 150, 151, 152, 153, 154, 155, 156, 157, 158, 159, 160, 161, 162, 163, 164, 165, 166, 167, 168, 169, 170, 171] (by decide +kernel) (by decide +kernel)
set_option maxRecDepth 20000 in
theorem gX7_events_X7_goesTo : GoodIn wsX7_events (wsV RX7 322 RX7 yX7_goesTo wsX7_goesTo) := goodIn_app (goodIn_of _ (by decide +kernel)) ggX7_events_X7_goesTo
theorem dX7_events_0 : decode cX7_events 0 = .ok (.aload_n 0, 1) := by decide +kernel
theorem dX7_events_1 : decode cX7_events 1 = .ok (.iload_n 1, 1) := by decide +kernel
theorem dX7_events_2 : decode cX7_events 2 = .ok (.iload_n 2, 1) := by decide +kernel
theorem dX7_events_3 : decode cX7_events 3 = .ok (.iconst 1, 1) := by decide +kernel
theorem dX7_events_4 : decode cX7_events 4 = .ok (.sipush 2000, 3) := by decide +kernel
theorem dX7_events_7 : decode cX7_events 7 = .ok (.invokestatic 299, 3) := by decide +kernel
theorem dX7_events_10 : decode cX7_events 10 = .ok (.ifCond .eq 7, 3) := by decide +kernel
theorem dX7_events_13 : decode cX7_events 13 = .ok (.iconst 0, 1) := by decide +kernel
theorem dX7_events_14 : decode cX7_events 14 = .ok (.goto 4, 3) := by decide +kernel
theorem dX7_events_17 : decode cX7_events 17 = .ok (.iconst 1, 1) := by decide +kernel
theorem dX7_events_18 : decode cX7_events 18 = .ok (.putfield 42, 3) := by decide +kernel
theorem dX7_events_21 : decode cX7_events 21 = .ok (.aload_n 0, 1) := by decide +kernel
theorem dX7_events_22 : decode cX7_events 22 = .ok (.getfield 42, 3) := by decide +kernel
theorem dX7_events_25 : decode cX7_events 25 = .ok (.ifCond .le 5, 3) := by decide +kernel
theorem dX7_events_28 : decode cX7_events 28 = .ok (.iconst 0, 1) := by decide +kernel
theorem dX7_events_29 : decode cX7_events 29 = .ok (.ireturn, 1) := by decide +kernel
theorem dX7_events_30 : decode cX7_events 30 = .ok (.aload_n 0, 1) := by decide +kernel
theorem dX7_events_31 : decode cX7_events 31 = .ok (.iconst 0, 1) := by decide +kernel
theorem dX7_events_32 : decode cX7_events 32 = .ok (.putfield 318, 3) := by decide +kernel
theorem dX7_events_35 : decode cX7_events 35 = .ok (.aload_n 0, 1) := by decide +kernel
theorem dX7_events_36 : decode cX7_events 36 = .ok (.iload_n 1, 1) := by decide +kernel
theorem dX7_events_37 : decode cX7_events 37 = .ok (.iload_n 2, 1) := by decide +kernel
theorem dX7_events_38 : decode cX7_events 38 = .ok (.iconst (-1), 1) := by decide +kernel
theorem dX7_events_39 : decode cX7_events 39 = .ok (.invokevirtual 322, 3) := by decide +kernel
theorem dX7_events_42 : decode cX7_events 42 = .ok (.ifCond .eq 7, 3) := by decide +kernel
theorem dX7_events_45 : decode cX7_events 45 = .ok (.iconst 0, 1) := by decide +kernel
theorem dX7_events_46 : decode cX7_events 46 = .ok (.goto 7, 3) := by decide +kernel
theorem dX7_events_49 : decode cX7_events 49 = .ok (.aload_n 0, 1) := by decide +kernel
theorem dX7_events_50 : decode cX7_events 50 = .ok (.getfield 303, 3) := by decide +kernel
theorem dX7_events_53 : decode cX7_events 53 = .ok (.ireturn, 1) := by decide +kernel
set_option maxRecDepth 20000 in
theorem ggX7_event_X7_isSpan : GoodIn wsX7_event wsX7_isSpan := goodIn_r _ [8, 9, 10, 11, 7, 12] (by decide +kernel) (by decide +kernel)
set_option maxRecDepth 20000 in
theorem gX7_event_X7_isSpan : GoodIn wsX7_event (va_wsS RX7 299 yX7_isSpan wsX7_isSpan) := goodIn_app (goodIn_of _ (by decide +kernel)) ggX7_event_X7_isSpan
set_option maxRecDepth 20000 in
theorem ggX7_event_X7_isIn : GoodIn wsX7_event wsX7_isIn := goodIn_r _ [12] (by decide +kernel) (by decide +kernel)
set_option maxRecDepth 20000 in
theorem gX7_event_X7_isIn : GoodIn wsX7_event (va_wsS RX7 52 yX7_isIn wsX7_isIn) := goodIn_app (goodIn_of _ (by decide +kernel)) ggX7_event_X7_isIn
set_option maxRecDepth 20000 in
theorem ggX7_event_X7_goesTo : GoodIn wsX7_event wsX7_goesTo := goodIn_r _ [16, 17, 18, 19, 2, 3, 4, 20, 21, 22, 7, 23, 24, 25, 26, 27, 28, 29, 30, 31, 32, 33, 34, 35, 36, 37, 38, 39, 40, 41, 42, 43, 44, 45, 46, 47, 48, 49, 50, 51, 52, 53, 54, 55, 56, 57, 58, 59, 60, 61, 62, 63, 64, 65, 66, 67, 68, 69, 70, 71, 72, 73, 74, 75, 76, 77, 78, 79, 80, 81, 82, 83, 84, 85, 86, 87, 88, 89, 90, 91, 92, 93, 94, 95, 96, 97, 98, 99, 100, 101, 102, 103, 104, 105, 106, 107, 108, 109, 110, 111, 112, 113, 114, 115, 116, 117, 118, 119, 120, 121, 122, 123, 124, 125, 126, 127, 128, 129, 130, 131, 132, 133, 134, 135, 136, 137, 138, 139, 140, 141, 142, 143, 144, 145, 146, 147, 148, 149, 150, 151, 152, 153, 154, 155, 156, 157, 158, 159, 160, 161, 162, 163, 164, 165, 166, 167, 168, 169, 170, 171] (by decide +kernel) (by decide +kernel)
set_option maxRecDepth 20000 in
theorem gX7_event_X7_goesTo : GoodIn wsX7_event (wsV RX7 322 RX7 yX7_goesTo wsX7_goesTo) := goodIn_app (goodIn_of _ (by decide +kernel)) ggX7_event_X7_goesTo
theorem dX7_event_0 : decode cX7_event 0 = .ok (.iload_n 1, 1) := by decide +kernel
theorem dX7_event_1 : decode cX7_event 1 = .ok (.iload_n 2, 1) := by decide +kernel
theorem dX7_event_2 : decode cX7_event 2 = .ok (.iconst 1, 1) := by decide +kernel
theorem dX7_event_3 : decode cX7_event 3 = .ok (.sipush 2000, 3) := by decide +kernel
theorem dX7_event_6 : decode cX7_event 6 = .ok (.invokestatic 299, 3) := by decide +kernel
theorem dX7_event_9 : decode cX7_event 9 = .ok (.ifCond .eq 17, 3) := by decide +kernel
theorem dX7_event_12 : decode cX7_event 12 = .ok (.iload 4, 2) := by decide +kernel
theorem dX7_event_14 : decode cX7_event 14 = .ok (.iconst 0, 1) := by decide +kernel
theorem dX7_event_15 : decode cX7_event 15 = .ok (.iconst 2, 1) := by decide +kernel
theorem dX7_event_16 : decode cX7_event 16 = .ok (.invokestatic 52, 3) := by decide +kernel
theorem dX7_event_19 : decode cX7_event 19 = .ok (.ifCond .eq 7, 3) := by decide +kernel
theorem dX7_event_22 : decode cX7_event 22 = .ok (.iconst 1, 1) := by decide +kernel
theorem dX7_event_23 : decode cX7_event 23 = .ok (.goto 4, 3) := by decide +kernel
theorem dX7_event_26 : decode cX7_event 26 = .ok (.iconst 0, 1) := by decide +kernel
theorem dX7_event_27 : decode cX7_event 27 = .ok (.istore 5, 2) := by decide +kernel
theorem dX7_event_29 : decode cX7_event 29 = .ok (.aload_n 0, 1) := by decide +kernel
theorem dX7_event_30 : decode cX7_event 30 = .ok (.iload 5, 2) := by decide +kernel
theorem dX7_event_32 : decode cX7_event 32 = .ok (.ifCond .ne 7, 3) := by decide +kernel
theorem dX7_event_35 : decode cX7_event 35 = .ok (.iconst 1, 1) := by decide +kernel
theorem dX7_event_36 : decode cX7_event 36 = .ok (.goto 22, 3) := by decide +kernel
theorem dX7_event_39 : decode cX7_event 39 = .ok (.iload_n 3, 1) := by decide +kernel
theorem dX7_event_40 : decode cX7_event 40 = .ok (.ifCond .lt 17, 3) := by decide +kernel
theorem dX7_event_43 : decode cX7_event 43 = .ok (.aload_n 0, 1) := by decide +kernel
theorem dX7_event_44 : decode cX7_event 44 = .ok (.iload_n 1, 1) := by decide +kernel
theorem dX7_event_45 : decode cX7_event 45 = .ok (.iload_n 2, 1) := by decide +kernel
theorem dX7_event_46 : decode cX7_event 46 = .ok (.iload_n 3, 1) := by decide +kernel
theorem dX7_event_47 : decode cX7_event 47 = .ok (.invokevirtual 322, 3) := by decide +kernel
theorem dX7_event_50 : decode cX7_event 50 = .ok (.ifCond .eq 7, 3) := by decide +kernel
theorem dX7_event_53 : decode cX7_event 53 = .ok (.iconst 0, 1) := by decide +kernel
theorem dX7_event_54 : decode cX7_event 54 = .ok (.goto 4, 3) := by decide +kernel
theorem dX7_event_57 : decode cX7_event 57 = .ok (.iconst 2, 1) := by decide +kernel
theorem dX7_event_58 : decode cX7_event 58 = .ok (.putfield 42, 3) := by decide +kernel
theorem dX7_event_61 : decode cX7_event 61 = .ok (.aload_n 0, 1) := by decide +kernel
theorem dX7_event_62 : decode cX7_event 62 = .ok (.getfield 42, 3) := by decide +kernel
theorem dX7_event_65 : decode cX7_event 65 = .ok (.ifCond .le 5, 3) := by decide +kernel
theorem dX7_event_68 : decode cX7_event 68 = .ok (.iconst 0, 1) := by decide +kernel
theorem dX7_event_69 : decode cX7_event 69 = .ok (.ireturn, 1) := by decide +kernel
theorem dX7_event_70 : decode cX7_event 70 = .ok (.iload 4, 2) := by decide +kernel
theorem dX7_event_72 : decode cX7_event 72 = .ok (.ifCond .ne 10, 3) := by decide +kernel
theorem dX7_event_75 : decode cX7_event 75 = .ok (.aload_n 0, 1) := by decide +kernel
theorem dX7_event_76 : decode cX7_event 76 = .ok (.getfield 309, 3) := by decide +kernel
theorem dX7_event_79 : decode cX7_event 79 = .ok (.goto 20, 3) := by decide +kernel
theorem dX7_event_82 : decode cX7_event 82 = .ok (.iload 4, 2) := by decide +kernel
theorem dX7_event_84 : decode cX7_event 84 = .ok (.iconst 1, 1) := by decide +kernel
theorem dX7_event_85 : decode cX7_event 85 = .ok (.if_icmp .ne 10, 3) := by decide +kernel
theorem dX7_event_88 : decode cX7_event 88 = .ok (.aload_n 0, 1) := by decide +kernel
theorem dX7_event_89 : decode cX7_event 89 = .ok (.getfield 312, 3) := by decide +kernel
theorem dX7_event_92 : decode cX7_event 92 = .ok (.goto 7, 3) := by decide +kernel
theorem dX7_event_95 : decode cX7_event 95 = .ok (.aload_n 0, 1) := by decide +kernel
theorem dX7_event_96 : decode cX7_event 96 = .ok (.getfield 315, 3) := by decide +kernel
theorem dX7_event_99 : decode cX7_event 99 = .ok (.ireturn, 1) := by decide +kernel
set_option maxRecDepth 20000 in
theorem ggX7_meanDark_X7_isMoon : GoodIn wsX7_meanDark wsX7_isMoon := goodIn_r _ [6, 7, 8, 9, 5, 10, 69, 70, 71, 72, 73, 74, 75, 76, 77, 78, 79, 80, 81, 82, 83, 84, 85, 86, 87, 88, 89, 90, 91, 92, 93, 94, 95, 96, 97] (by decide +kernel) (by decide +kernel)
set_option maxRecDepth 20000 in
theorem gX7_meanDark_X7_isMoon : GoodIn wsX7_meanDark (wsV RX7 273 RX7 yX7_isMoon wsX7_isMoon) := goodIn_app (goodIn_of _ (by decide +kernel)) ggX7_meanDark_X7_isMoon
set_option maxRecDepth 20000 in
theorem ggX7_meanDark_X7_isSpan : GoodIn wsX7_meanDark wsX7_isSpan := goodIn_r _ [13, 14, 8, 9, 5, 10] (by decide +kernel) (by decide +kernel)
set_option maxRecDepth 20000 in
theorem gX7_meanDark_X7_isSpan : GoodIn wsX7_meanDark (va_wsS RX7 299 yX7_isSpan wsX7_isSpan) := goodIn_app (goodIn_of _ (by decide +kernel)) ggX7_meanDark_X7_isSpan
set_option maxRecDepth 20000 in
theorem ggX7_meanDark_X7_looksAt : GoodIn wsX7_meanDark wsX7_looksAt := goodIn_r _ [18, 19, 20, 21, 5, 22, 23, 24, 25, 26, 27, 28, 29, 30, 31, 32, 33, 34, 7, 35, 36, 37, 38, 39, 40, 41, 42, 43, 44, 45, 46, 47, 48, 49, 50, 51, 52, 53, 54, 55, 56, 57, 58, 59, 60, 61, 62, 63, 64, 65, 69, 70, 71, 72, 73, 74, 75, 76, 77, 78, 79, 80, 81, 82, 83, 84, 85, 86, 87, 88, 89, 90, 91, 92, 93, 94, 95, 96, 97] (by decide +kernel) (by decide +kernel)
set_option maxRecDepth 20000 in
theorem gX7_meanDark_X7_looksAt : GoodIn wsX7_meanDark (wsV RX7 257 RX7 yX7_looksAt wsX7_looksAt) := goodIn_app (goodIn_of _ (by decide +kernel)) ggX7_meanDark_X7_looksAt
set_option maxRecDepth 20000 in
theorem ggX7_meanDark_X7_isEvent : GoodIn wsX7_meanDark wsX7_isEvent := goodIn_r _ [68] (by decide +kernel) (by decide +kernel)
set_option maxRecDepth 20000 in
theorem gX7_meanDark_X7_isEvent : GoodIn wsX7_meanDark (va_wsS RX7 260 yX7_isEvent wsX7_isEvent) := goodIn_app (goodIn_of _ (by decide +kernel)) ggX7_meanDark_X7_isEvent
theorem dX7_meanDark_0 : decode cX7_meanDark 0 = .ok (.aload_n 0, 1) := by decide +kernel
theorem dX7_meanDark_1 : decode cX7_meanDark 1 = .ok (.aload_n 0, 1) := by decide +kernel
theorem dX7_meanDark_2 : decode cX7_meanDark 2 = .ok (.iload_n 1, 1) := by decide +kernel
theorem dX7_meanDark_3 : decode cX7_meanDark 3 = .ok (.invokevirtual 273, 3) := by decide +kernel
theorem dX7_meanDark_6 : decode cX7_meanDark 6 = .ok (.ifCond .ne 7, 3) := by decide +kernel
theorem dX7_meanDark_9 : decode cX7_meanDark 9 = .ok (.iconst 1, 1) := by decide +kernel
theorem dX7_meanDark_10 : decode cX7_meanDark 10 = .ok (.goto 20, 3) := by decide +kernel
theorem dX7_meanDark_13 : decode cX7_meanDark 13 = .ok (.iload_n 2, 1) := by decide +kernel
theorem dX7_meanDark_14 : decode cX7_meanDark 14 = .ok (.iload_n 3, 1) := by decide +kernel
theorem dX7_meanDark_15 : decode cX7_meanDark 15 = .ok (.iconst 1, 1) := by decide +kernel
theorem dX7_meanDark_16 : decode cX7_meanDark 16 = .ok (.sipush 2000, 3) := by decide +kernel
theorem dX7_meanDark_19 : decode cX7_meanDark 19 = .ok (.invokestatic 299, 3) := by decide +kernel
theorem dX7_meanDark_22 : decode cX7_meanDark 22 = .ok (.ifCond .eq 7, 3) := by decide +kernel
theorem dX7_meanDark_25 : decode cX7_meanDark 25 = .ok (.iconst 0, 1) := by decide +kernel
theorem dX7_meanDark_26 : decode cX7_meanDark 26 = .ok (.goto 4, 3) := by decide +kernel
theorem dX7_meanDark_29 : decode cX7_meanDark 29 = .ok (.iconst 2, 1) := by decide +kernel
theorem dX7_meanDark_30 : decode cX7_meanDark 30 = .ok (.putfield 42, 3) := by decide +kernel
theorem dX7_meanDark_33 : decode cX7_meanDark 33 = .ok (.aload_n 0, 1) := by decide +kernel
theorem dX7_meanDark_34 : decode cX7_meanDark 34 = .ok (.getfield 42, 3) := by decide +kernel
theorem dX7_meanDark_37 : decode cX7_meanDark 37 = .ok (.ifCond .le 5, 3) := by decide +kernel
theorem dX7_meanDark_40 : decode cX7_meanDark 40 = .ok (.dconst 0, 1) := by decide +kernel
theorem dX7_meanDark_41 : decode cX7_meanDark 41 = .ok (.dreturn, 1) := by decide +kernel
theorem dX7_meanDark_42 : decode cX7_meanDark 42 = .ok (.iconst 0, 1) := by decide +kernel
theorem dX7_meanDark_43 : decode cX7_meanDark 43 = .ok (.istore 4, 2) := by decide +kernel
theorem dX7_meanDark_45 : decode cX7_meanDark 45 = .ok (.iconst 0, 1) := by decide +kernel
theorem dX7_meanDark_46 : decode cX7_meanDark 46 = .ok (.istore 5, 2) := by decide +kernel
theorem dX7_meanDark_48 : decode cX7_meanDark 48 = .ok (.iconst (-1), 1) := by decide +kernel
theorem dX7_meanDark_49 : decode cX7_meanDark 49 = .ok (.istore 6, 2) := by decide +kernel
theorem dX7_meanDark_51 : decode cX7_meanDark 51 = .ok (.aload_n 0, 1) := by decide +kernel
theorem dX7_meanDark_52 : decode cX7_meanDark 52 = .ok (.iload_n 1, 1) := by decide +kernel
theorem dX7_meanDark_53 : decode cX7_meanDark 53 = .ok (.iload_n 2, 1) := by decide +kernel
theorem dX7_meanDark_54 : decode cX7_meanDark 54 = .ok (.iconst 1, 1) := by decide +kernel
theorem dX7_meanDark_55 : decode cX7_meanDark 55 = .ok (.isub, 1) := by decide +kernel
theorem dX7_meanDark_56 : decode cX7_meanDark 56 = .ok (.invokevirtual 257, 3) := by decide +kernel
theorem dX7_meanDark_59 : decode cX7_meanDark 59 = .ok (.istore 7, 2) := by decide +kernel
theorem dX7_meanDark_61 : decode cX7_meanDark 61 = .ok (.iload_n 2, 1) := by decide +kernel
theorem dX7_meanDark_62 : decode cX7_meanDark 62 = .ok (.istore 8, 2) := by decide +kernel
theorem dX7_meanDark_64 : decode cX7_meanDark 64 = .ok (.iload 8, 2) := by decide +kernel
theorem dX7_meanDark_66 : decode cX7_meanDark 66 = .ok (.iload_n 3, 1) := by decide +kernel
theorem dX7_meanDark_67 : decode cX7_meanDark 67 = .ok (.if_icmp .gt 67, 3) := by decide +kernel
theorem dX7_meanDark_70 : decode cX7_meanDark 70 = .ok (.aload_n 0, 1) := by decide +kernel
theorem dX7_meanDark_71 : decode cX7_meanDark 71 = .ok (.iload_n 1, 1) := by decide +kernel
theorem dX7_meanDark_72 : decode cX7_meanDark 72 = .ok (.iload 8, 2) := by decide +kernel
theorem dX7_meanDark_74 : decode cX7_meanDark 74 = .ok (.invokevirtual 257, 3) := by decide +kernel
theorem dX7_meanDark_77 : decode cX7_meanDark 77 = .ok (.istore 9, 2) := by decide +kernel
theorem dX7_meanDark_79 : decode cX7_meanDark 79 = .ok (.iconst 0, 1) := by decide +kernel
theorem dX7_meanDark_80 : decode cX7_meanDark 80 = .ok (.iload 7, 2) := by decide +kernel
theorem dX7_meanDark_82 : decode cX7_meanDark 82 = .ok (.iload 9, 2) := by decide +kernel
theorem dX7_meanDark_84 : decode cX7_meanDark 84 = .ok (.invokestatic 260, 3) := by decide +kernel
theorem dX7_meanDark_87 : decode cX7_meanDark 87 = .ok (.ifCond .eq 7, 3) := by decide +kernel
theorem dX7_meanDark_90 : decode cX7_meanDark 90 = .ok (.iload 8, 2) := by decide +kernel
theorem dX7_meanDark_92 : decode cX7_meanDark 92 = .ok (.istore 6, 2) := by decide +kernel
theorem dX7_meanDark_94 : decode cX7_meanDark 94 = .ok (.iconst 1, 1) := by decide +kernel
theorem dX7_meanDark_95 : decode cX7_meanDark 95 = .ok (.iload 7, 2) := by decide +kernel
theorem dX7_meanDark_97 : decode cX7_meanDark 97 = .ok (.iload 9, 2) := by decide +kernel
theorem dX7_meanDark_99 : decode cX7_meanDark 99 = .ok (.invokestatic 260, 3) := by decide +kernel
theorem dX7_meanDark_102 : decode cX7_meanDark 102 = .ok (.ifCond .eq 22, 3) := by decide +kernel
theorem dX7_meanDark_105 : decode cX7_meanDark 105 = .ok (.iload 6, 2) := by decide +kernel
theorem dX7_meanDark_107 : decode cX7_meanDark 107 = .ok (.iconst (-1), 1) := by decide +kernel
theorem dX7_meanDark_108 : decode cX7_meanDark 108 = .ok (.if_icmp .eq 16, 3) := by decide +kernel
theorem dX7_meanDark_111 : decode cX7_meanDark 111 = .ok (.iload 4, 2) := by decide +kernel
theorem dX7_meanDark_113 : decode cX7_meanDark 113 = .ok (.iload 8, 2) := by decide +kernel
theorem dX7_meanDark_115 : decode cX7_meanDark 115 = .ok (.iload 6, 2) := by decide +kernel
theorem dX7_meanDark_117 : decode cX7_meanDark 117 = .ok (.isub, 1) := by decide +kernel
theorem dX7_meanDark_118 : decode cX7_meanDark 118 = .ok (.iadd, 1) := by decide +kernel
theorem dX7_meanDark_119 : decode cX7_meanDark 119 = .ok (.istore 4, 2) := by decide +kernel
theorem dX7_meanDark_121 : decode cX7_meanDark 121 = .ok (.iinc 5 1, 3) := by decide +kernel
theorem dX7_meanDark_124 : decode cX7_meanDark 124 = .ok (.iload 9, 2) := by decide +kernel
theorem dX7_meanDark_126 : decode cX7_meanDark 126 = .ok (.istore 7, 2) := by decide +kernel
theorem dX7_meanDark_128 : decode cX7_meanDark 128 = .ok (.iinc 8 1, 3) := by decide +kernel
theorem dX7_meanDark_131 : decode cX7_meanDark 131 = .ok (.goto (-67), 3) := by decide +kernel
theorem dX7_meanDark_134 : decode cX7_meanDark 134 = .ok (.iload 5, 2) := by decide +kernel
theorem dX7_meanDark_136 : decode cX7_meanDark 136 = .ok (.ifCond .ne 7, 3) := by decide +kernel
theorem dX7_meanDark_139 : decode cX7_meanDark 139 = .ok (.dconst 0, 1) := by decide +kernel
theorem dX7_meanDark_140 : decode cX7_meanDark 140 = .ok (.goto 10, 3) := by decide +kernel
theorem dX7_meanDark_143 : decode cX7_meanDark 143 = .ok (.iload 4, 2) := by decide +kernel
theorem dX7_meanDark_145 : decode cX7_meanDark 145 = .ok (.i2d, 1) := by decide +kernel
theorem dX7_meanDark_146 : decode cX7_meanDark 146 = .ok (.iload 5, 2) := by decide +kernel
theorem dX7_meanDark_148 : decode cX7_meanDark 148 = .ok (.i2d, 1) := by decide +kernel
theorem dX7_meanDark_149 : decode cX7_meanDark 149 = .ok (.ddiv, 1) := by decide +kernel
theorem dX7_meanDark_150 : decode cX7_meanDark 150 = .ok (.dreturn, 1) := by decide +kernel
set_option maxRecDepth 20000 in
theorem ggX7_worst_X7_offOf : GoodIn wsX7_worst wsX7_offOf := goodIn_r _ [8, 3, 9, 10, 11, 7, 12, 2, 13, 14, 15, 16, 17, 18, 19, 20, 21, 22, 23, 24, 25, 26, 27, 28, 29, 30, 31, 32, 33, 34, 35, 36, 37, 38, 39, 40, 41, 42, 43, 44, 45, 46, 47, 48, 49, 50, 51, 52, 53, 54, 55, 56, 57, 58, 59, 60, 61, 62, 63, 64, 65, 66, 67, 68, 69, 70, 71, 72, 73, 74, 75, 76, 77, 78, 79, 80, 81, 82, 83, 84, 85, 86, 87, 88, 89, 90, 91, 92, 93, 94, 95, 96, 97, 98, 99, 100, 101, 102, 103] (by decide +kernel) (by decide +kernel)
set_option maxRecDepth 20000 in
theorem gX7_worst_X7_offOf : GoodIn wsX7_worst (wsV RX7 267 RX7 yX7_offOf wsX7_offOf) := goodIn_app (goodIn_of _ (by decide +kernel)) ggX7_worst_X7_offOf
theorem dX7_worst_0 : decode cX7_worst 0 = .ok (.aload_n 0, 1) := by decide +kernel
theorem dX7_worst_1 : decode cX7_worst 1 = .ok (.iconst 0, 1) := by decide +kernel
theorem dX7_worst_2 : decode cX7_worst 2 = .ok (.putfield 42, 3) := by decide +kernel
theorem dX7_worst_5 : decode cX7_worst 5 = .ok (.iconst (-1), 1) := by decide +kernel
theorem dX7_worst_6 : decode cX7_worst 6 = .ok (.istore_n 1, 1) := by decide +kernel
theorem dX7_worst_7 : decode cX7_worst 7 = .ok (.iconst 0, 1) := by decide +kernel
theorem dX7_worst_8 : decode cX7_worst 8 = .ok (.istore_n 2, 1) := by decide +kernel
theorem dX7_worst_9 : decode cX7_worst 9 = .ok (.iconst 0, 1) := by decide +kernel
theorem dX7_worst_10 : decode cX7_worst 10 = .ok (.istore_n 3, 1) := by decide +kernel
theorem dX7_worst_11 : decode cX7_worst 11 = .ok (.iload_n 3, 1) := by decide +kernel
theorem dX7_worst_12 : decode cX7_worst 12 = .ok (.aload_n 0, 1) := by decide +kernel
theorem dX7_worst_13 : decode cX7_worst 13 = .ok (.getfield 7, 3) := by decide +kernel
theorem dX7_worst_16 : decode cX7_worst 16 = .ok (.iconst 4, 1) := by decide +kernel
theorem dX7_worst_17 : decode cX7_worst 17 = .ok (.iaload, 1) := by decide +kernel
theorem dX7_worst_18 : decode cX7_worst 18 = .ok (.if_icmp .ge 58, 3) := by decide +kernel
theorem dX7_worst_21 : decode cX7_worst 21 = .ok (.aload_n 0, 1) := by decide +kernel
theorem dX7_worst_22 : decode cX7_worst 22 = .ok (.iload_n 3, 1) := by decide +kernel
theorem dX7_worst_23 : decode cX7_worst 23 = .ok (.invokevirtual 267, 3) := by decide +kernel
theorem dX7_worst_26 : decode cX7_worst 26 = .ok (.istore 4, 2) := by decide +kernel
theorem dX7_worst_28 : decode cX7_worst 28 = .ok (.iload 4, 2) := by decide +kernel
theorem dX7_worst_30 : decode cX7_worst 30 = .ok (.ifCond .ge 9, 3) := by decide +kernel
theorem dX7_worst_33 : decode cX7_worst 33 = .ok (.iload 4, 2) := by decide +kernel
theorem dX7_worst_35 : decode cX7_worst 35 = .ok (.ineg, 1) := by decide +kernel
theorem dX7_worst_36 : decode cX7_worst 36 = .ok (.goto 5, 3) := by decide +kernel
theorem dX7_worst_39 : decode cX7_worst 39 = .ok (.iload 4, 2) := by decide +kernel
theorem dX7_worst_41 : decode cX7_worst 41 = .ok (.istore 5, 2) := by decide +kernel
theorem dX7_worst_43 : decode cX7_worst 43 = .ok (.iload 4, 2) := by decide +kernel
theorem dX7_worst_45 : decode cX7_worst 45 = .ok (.ldc_w 266, 3) := by decide +kernel
theorem dX7_worst_48 : decode cX7_worst 48 = .ok (.if_icmp .eq 22, 3) := by decide +kernel
theorem dX7_worst_51 : decode cX7_worst 51 = .ok (.iload_n 1, 1) := by decide +kernel
theorem dX7_worst_52 : decode cX7_worst 52 = .ok (.iconst (-1), 1) := by decide +kernel
theorem dX7_worst_53 : decode cX7_worst 53 = .ok (.if_icmp .eq 12, 3) := by decide +kernel
theorem dX7_worst_56 : decode cX7_worst 56 = .ok (.iload 5, 2) := by decide +kernel
theorem dX7_worst_58 : decode cX7_worst 58 = .ok (.iload_n 2, 1) := by decide +kernel
theorem dX7_worst_59 : decode cX7_worst 59 = .ok (.if_icmp .gt 6, 3) := by decide +kernel
theorem dX7_worst_62 : decode cX7_worst 62 = .ok (.goto 8, 3) := by decide +kernel
theorem dX7_worst_65 : decode cX7_worst 65 = .ok (.iload_n 3, 1) := by decide +kernel
theorem dX7_worst_66 : decode cX7_worst 66 = .ok (.istore_n 1, 1) := by decide +kernel
theorem dX7_worst_67 : decode cX7_worst 67 = .ok (.iload 5, 2) := by decide +kernel
theorem dX7_worst_69 : decode cX7_worst 69 = .ok (.istore_n 2, 1) := by decide +kernel
theorem dX7_worst_70 : decode cX7_worst 70 = .ok (.iinc 3 1, 3) := by decide +kernel
theorem dX7_worst_73 : decode cX7_worst 73 = .ok (.goto (-62), 3) := by decide +kernel
theorem dX7_worst_76 : decode cX7_worst 76 = .ok (.iload_n 1, 1) := by decide +kernel
theorem dX7_worst_77 : decode cX7_worst 77 = .ok (.ireturn, 1) := by decide +kernel
set_option maxRecDepth 20000 in
theorem ggX7_burdenWith_X7_of : GoodIn wsX7_burdenWith wsX7_of := goodIn_r _ [5, 6, 82, 83, 84, 85, 86, 87, 88, 89, 90, 91, 92, 93, 94, 95, 96, 97, 98, 99, 100, 101, 102, 103, 104, 105, 106, 107, 108, 109, 110] (by decide +kernel) (by decide +kernel)
set_option maxRecDepth 20000 in
theorem gX7_burdenWith_X7_of : GoodIn wsX7_burdenWith (wsV RX7 128 RX7 yX7_of wsX7_of) := goodIn_app (goodIn_of _ (by decide +kernel)) ggX7_burdenWith_X7_of
set_option maxRecDepth 20000 in
theorem ggX7_burdenWith_J9_floorMod_7cf53 : GoodIn wsX7_burdenWith wsJ9_floorMod_7cf53 := goodIn_r _ [10] (by decide +kernel) (by decide +kernel)
set_option maxRecDepth 20000 in
theorem gX7_burdenWith_J9_floorMod_7cf53 : GoodIn wsX7_burdenWith (va_wsS RX7 201 yJ9_floorMod_7cf53 wsJ9_floorMod_7cf53) := goodIn_app (goodIn_of _ (by decide +kernel)) ggX7_burdenWith_J9_floorMod_7cf53
set_option maxRecDepth 20000 in
theorem ggX7_burdenWith_X7_puts : GoodIn wsX7_burdenWith wsX7_puts := goodIn_r _ [14, 6, 82, 83, 84, 85, 86, 87, 88, 89, 90, 91, 92, 93, 94, 95, 96, 97, 98, 99, 100, 101, 102, 103, 104, 105, 106, 107, 108, 109, 110] (by decide +kernel) (by decide +kernel)
set_option maxRecDepth 20000 in
theorem gX7_burdenWith_X7_puts : GoodIn wsX7_burdenWith (wsV RX7 137 RX7 yX7_puts wsX7_puts) := goodIn_app (goodIn_of _ (by decide +kernel)) ggX7_burdenWith_X7_puts
set_option maxRecDepth 20000 in
theorem ggX7_burdenWith_X7_burdenOf : GoodIn wsX7_burdenWith wsX7_burdenOf := goodIn_r _ [18, 6, 19, 20, 21, 22, 4, 23, 24, 25, 26, 27, 28, 29, 30, 31, 32, 33, 34, 35, 36, 37, 38, 39, 40, 41, 42, 43, 44, 45, 46, 47, 48, 49, 50, 51, 1, 2, 3, 5, 52, 53, 54, 55, 56, 57, 7, 8, 9, 10, 58, 59, 60, 61, 62, 63, 64, 65, 66, 67, 68, 69, 70, 71, 72, 73, 74, 75, 76, 77, 78, 79, 80, 81, 82, 83, 84, 85, 86, 87, 88, 89, 90, 91, 92, 93, 94, 95, 96, 97, 98, 99, 100, 101, 102, 103, 104, 105, 106, 107, 108, 109, 110] (by decide +kernel) (by decide +kernel)
set_option maxRecDepth 20000 in
theorem gX7_burdenWith_X7_burdenOf : GoodIn wsX7_burdenWith (wsV RX7 279 RX7 yX7_burdenOf wsX7_burdenOf) := goodIn_app (goodIn_of _ (by decide +kernel)) ggX7_burdenWith_X7_burdenOf
theorem dX7_burdenWith_0 : decode cX7_burdenWith 0 = .ok (.aload_n 0, 1) := by decide +kernel
theorem dX7_burdenWith_1 : decode cX7_burdenWith 1 = .ok (.iload_n 1, 1) := by decide +kernel
theorem dX7_burdenWith_2 : decode cX7_burdenWith 2 = .ok (.iconst 4, 1) := by decide +kernel
theorem dX7_burdenWith_3 : decode cX7_burdenWith 3 = .ok (.invokevirtual 128, 3) := by decide +kernel
theorem dX7_burdenWith_6 : decode cX7_burdenWith 6 = .ok (.istore_n 3, 1) := by decide +kernel
theorem dX7_burdenWith_7 : decode cX7_burdenWith 7 = .ok (.aload_n 0, 1) := by decide +kernel
theorem dX7_burdenWith_8 : decode cX7_burdenWith 8 = .ok (.iload_n 1, 1) := by decide +kernel
theorem dX7_burdenWith_9 : decode cX7_burdenWith 9 = .ok (.iconst 4, 1) := by decide +kernel
theorem dX7_burdenWith_10 : decode cX7_burdenWith 10 = .ok (.iload_n 3, 1) := by decide +kernel
theorem dX7_burdenWith_11 : decode cX7_burdenWith 11 = .ok (.iload_n 2, 1) := by decide +kernel
theorem dX7_burdenWith_12 : decode cX7_burdenWith 12 = .ok (.iadd, 1) := by decide +kernel
theorem dX7_burdenWith_13 : decode cX7_burdenWith 13 = .ok (.sipush 360, 3) := by decide +kernel
theorem dX7_burdenWith_16 : decode cX7_burdenWith 16 = .ok (.invokestatic 201, 3) := by decide +kernel
theorem dX7_burdenWith_19 : decode cX7_burdenWith 19 = .ok (.invokevirtual 137, 3) := by decide +kernel
theorem dX7_burdenWith_22 : decode cX7_burdenWith 22 = .ok (.aload_n 0, 1) := by decide +kernel
theorem dX7_burdenWith_23 : decode cX7_burdenWith 23 = .ok (.iload_n 1, 1) := by decide +kernel
theorem dX7_burdenWith_24 : decode cX7_burdenWith 24 = .ok (.invokevirtual 279, 3) := by decide +kernel
theorem dX7_burdenWith_27 : decode cX7_burdenWith 27 = .ok (.istore 4, 2) := by decide +kernel
theorem dX7_burdenWith_29 : decode cX7_burdenWith 29 = .ok (.aload_n 0, 1) := by decide +kernel
theorem dX7_burdenWith_30 : decode cX7_burdenWith 30 = .ok (.iload_n 1, 1) := by decide +kernel
theorem dX7_burdenWith_31 : decode cX7_burdenWith 31 = .ok (.iconst 4, 1) := by decide +kernel
theorem dX7_burdenWith_32 : decode cX7_burdenWith 32 = .ok (.iload_n 3, 1) := by decide +kernel
theorem dX7_burdenWith_33 : decode cX7_burdenWith 33 = .ok (.invokevirtual 137, 3) := by decide +kernel
theorem dX7_burdenWith_36 : decode cX7_burdenWith 36 = .ok (.iload 4, 2) := by decide +kernel
theorem dX7_burdenWith_38 : decode cX7_burdenWith 38 = .ok (.ireturn, 1) := by decide +kernel
set_option maxRecDepth 20000 in
theorem ggX7_burden_X7_isMoon : GoodIn wsX7_burden wsX7_isMoon := goodIn_r _ [6, 7, 8, 9, 5, 10, 91, 92, 93, 94, 95, 96, 97, 98, 99, 100, 101, 102, 103, 104, 105, 106, 107, 108, 109, 110, 111, 112, 113, 114, 115, 116, 117, 118, 119] (by decide +kernel) (by decide +kernel)
set_option maxRecDepth 20000 in
theorem gX7_burden_X7_isMoon : GoodIn wsX7_burden (wsV RX7 273 RX7 yX7_isMoon wsX7_isMoon) := goodIn_app (goodIn_of _ (by decide +kernel)) ggX7_burden_X7_isMoon
set_option maxRecDepth 20000 in
theorem ggX7_burden_X7_isIn : GoodIn wsX7_burden wsX7_isIn := goodIn_r _ [10] (by decide +kernel) (by decide +kernel)
set_option maxRecDepth 20000 in
theorem gX7_burden_X7_isIn : GoodIn wsX7_burden (va_wsS RX7 52 yX7_isIn wsX7_isIn) := goodIn_app (goodIn_of _ (by decide +kernel)) ggX7_burden_X7_isIn
set_option maxRecDepth 20000 in
theorem ggX7_burden_X7_burdenWith : GoodIn wsX7_burden wsX7_burdenWith := goodIn_r _ [14, 15, 16, 17, 5, 18, 7, 19, 20, 21, 22, 23, 24, 25, 26, 27, 28, 29, 30, 31, 32, 33, 34, 35, 36, 37, 38, 39, 40, 41, 42, 43, 44, 8, 9, 10, 45, 46, 47, 48, 49, 50, 51, 52, 53, 54, 55, 56, 57, 58, 59, 60, 61, 62, 63, 64, 65, 66, 67, 68, 69, 70, 71, 72, 73, 74, 75, 76, 77, 78, 79, 80, 81, 82, 83, 84, 85, 86, 87, 88, 89, 90, 91, 92, 93, 94, 95, 96, 97, 98, 99, 100, 101, 102, 103, 104, 105, 106, 107, 108, 109, 110, 111, 112, 113, 114, 115, 116, 117, 118, 119] (by decide +kernel) (by decide +kernel)
set_option maxRecDepth 20000 in
theorem gX7_burden_X7_burdenWith : GoodIn wsX7_burden (wsV RX7 325 RX7 yX7_burdenWith wsX7_burdenWith) := goodIn_app (goodIn_of _ (by decide +kernel)) ggX7_burden_X7_burdenWith
theorem dX7_burden_0 : decode cX7_burden 0 = .ok (.aload_n 0, 1) := by decide +kernel
theorem dX7_burden_1 : decode cX7_burden 1 = .ok (.aload_n 0, 1) := by decide +kernel
theorem dX7_burden_2 : decode cX7_burden 2 = .ok (.iload_n 1, 1) := by decide +kernel
theorem dX7_burden_3 : decode cX7_burden 3 = .ok (.invokevirtual 273, 3) := by decide +kernel
theorem dX7_burden_6 : decode cX7_burden 6 = .ok (.ifCond .ne 7, 3) := by decide +kernel
theorem dX7_burden_9 : decode cX7_burden 9 = .ok (.iconst 1, 1) := by decide +kernel
theorem dX7_burden_10 : decode cX7_burden 10 = .ok (.goto 19, 3) := by decide +kernel
theorem dX7_burden_13 : decode cX7_burden 13 = .ok (.iload_n 2, 1) := by decide +kernel
theorem dX7_burden_14 : decode cX7_burden 14 = .ok (.bipush (-10), 2) := by decide +kernel
theorem dX7_burden_16 : decode cX7_burden 16 = .ok (.bipush 10, 2) := by decide +kernel
theorem dX7_burden_18 : decode cX7_burden 18 = .ok (.invokestatic 52, 3) := by decide +kernel
theorem dX7_burden_21 : decode cX7_burden 21 = .ok (.ifCond .eq 7, 3) := by decide +kernel
theorem dX7_burden_24 : decode cX7_burden 24 = .ok (.iconst 0, 1) := by decide +kernel
theorem dX7_burden_25 : decode cX7_burden 25 = .ok (.goto 4, 3) := by decide +kernel
theorem dX7_burden_28 : decode cX7_burden 28 = .ok (.iconst 2, 1) := by decide +kernel
theorem dX7_burden_29 : decode cX7_burden 29 = .ok (.putfield 42, 3) := by decide +kernel
theorem dX7_burden_32 : decode cX7_burden 32 = .ok (.aload_n 0, 1) := by decide +kernel
theorem dX7_burden_33 : decode cX7_burden 33 = .ok (.getfield 42, 3) := by decide +kernel
theorem dX7_burden_36 : decode cX7_burden 36 = .ok (.ifCond .le 7, 3) := by decide +kernel
theorem dX7_burden_39 : decode cX7_burden 39 = .ok (.iconst 0, 1) := by decide +kernel
theorem dX7_burden_40 : decode cX7_burden 40 = .ok (.goto 9, 3) := by decide +kernel
theorem dX7_burden_43 : decode cX7_burden 43 = .ok (.aload_n 0, 1) := by decide +kernel
theorem dX7_burden_44 : decode cX7_burden 44 = .ok (.iload_n 1, 1) := by decide +kernel
theorem dX7_burden_45 : decode cX7_burden 45 = .ok (.iload_n 2, 1) := by decide +kernel
theorem dX7_burden_46 : decode cX7_burden 46 = .ok (.invokevirtual 325, 3) := by decide +kernel
theorem dX7_burden_49 : decode cX7_burden 49 = .ok (.ireturn, 1) := by decide +kernel
set_option maxRecDepth 20000 in
theorem ggX7_bestOf_X7_burdenOf : GoodIn wsX7_bestOf wsX7_burdenOf := goodIn_r _ [5, 6, 7, 8, 9, 10, 4, 11, 12, 13, 14, 15, 16, 17, 18, 19, 20, 21, 22, 23, 24, 25, 26, 27, 28, 29, 30, 31, 32, 33, 34, 35, 36, 37, 38, 39, 40, 41, 42, 43, 44, 45, 46, 47, 48, 49, 50, 51, 52, 53, 54, 55, 56, 57, 58, 59, 60, 61, 62, 63, 64, 65, 66, 67, 68, 69, 70, 71, 72, 73, 74, 75, 76, 77, 86, 87, 88, 89, 90, 91, 92, 93, 94, 95, 96, 97, 98, 99, 100, 101, 102, 103, 104, 105, 106, 107, 108, 109, 110, 111, 112, 113, 114] (by decide +kernel) (by decide +kernel)
set_option maxRecDepth 20000 in
theorem gX7_bestOf_X7_burdenOf : GoodIn wsX7_bestOf (wsV RX7 279 RX7 yX7_burdenOf wsX7_burdenOf) := goodIn_app (goodIn_of _ (by decide +kernel)) ggX7_bestOf_X7_burdenOf
set_option maxRecDepth 20000 in
theorem ggX7_bestOf_X7_burdenWith : GoodIn wsX7_bestOf wsX7_burdenWith := goodIn_r _ [81, 40, 41, 42, 4, 43, 6, 50, 51, 52, 53, 82, 83, 84, 85, 1, 2, 3, 5, 7, 8, 9, 10, 11, 12, 13, 14, 15, 16, 17, 18, 19, 20, 21, 22, 23, 24, 25, 26, 27, 28, 29, 30, 31, 32, 33, 34, 35, 36, 37, 38, 39, 44, 45, 46, 47, 48, 49, 54, 55, 56, 57, 58, 59, 60, 61, 62, 63, 64, 65, 66, 67, 68, 69, 70, 71, 72, 73, 74, 75, 76, 77, 86, 87, 88, 89, 90, 91, 92, 93, 94, 95, 96, 97, 98, 99, 100, 101, 102, 103, 104, 105, 106, 107, 108, 109, 110, 111, 112, 113, 114] (by decide +kernel) (by decide +kernel)
set_option maxRecDepth 20000 in
theorem gX7_bestOf_X7_burdenWith : GoodIn wsX7_bestOf (wsV RX7 325 RX7 yX7_burdenWith wsX7_burdenWith) := goodIn_app (goodIn_of _ (by decide +kernel)) ggX7_bestOf_X7_burdenWith
theorem dX7_bestOf_0 : decode cX7_bestOf 0 = .ok (.iconst 0, 1) := by decide +kernel
theorem dX7_bestOf_1 : decode cX7_bestOf 1 = .ok (.istore_n 2, 1) := by decide +kernel
theorem dX7_bestOf_2 : decode cX7_bestOf 2 = .ok (.aload_n 0, 1) := by decide +kernel
theorem dX7_bestOf_3 : decode cX7_bestOf 3 = .ok (.iload_n 1, 1) := by decide +kernel
theorem dX7_bestOf_4 : decode cX7_bestOf 4 = .ok (.invokevirtual 279, 3) := by decide +kernel
theorem dX7_bestOf_7 : decode cX7_bestOf 7 = .ok (.istore_n 3, 1) := by decide +kernel
theorem dX7_bestOf_8 : decode cX7_bestOf 8 = .ok (.iconst 1, 1) := by decide +kernel
theorem dX7_bestOf_9 : decode cX7_bestOf 9 = .ok (.istore 4, 2) := by decide +kernel
theorem dX7_bestOf_11 : decode cX7_bestOf 11 = .ok (.iload 4, 2) := by decide +kernel
theorem dX7_bestOf_13 : decode cX7_bestOf 13 = .ok (.bipush 7, 2) := by decide +kernel
theorem dX7_bestOf_15 : decode cX7_bestOf 15 = .ok (.if_icmp .ge 57, 3) := by decide +kernel
theorem dX7_bestOf_18 : decode cX7_bestOf 18 = .ok (.iload 4, 2) := by decide +kernel
theorem dX7_bestOf_20 : decode cX7_bestOf 20 = .ok (.iconst 2, 1) := by decide +kernel
theorem dX7_bestOf_21 : decode cX7_bestOf 21 = .ok (.irem, 1) := by decide +kernel
theorem dX7_bestOf_22 : decode cX7_bestOf 22 = .ok (.iconst 1, 1) := by decide +kernel
theorem dX7_bestOf_23 : decode cX7_bestOf 23 = .ok (.if_icmp .ne 13, 3) := by decide +kernel
theorem dX7_bestOf_26 : decode cX7_bestOf 26 = .ok (.iload 4, 2) := by decide +kernel
theorem dX7_bestOf_28 : decode cX7_bestOf 28 = .ok (.iconst 1, 1) := by decide +kernel
theorem dX7_bestOf_29 : decode cX7_bestOf 29 = .ok (.iadd, 1) := by decide +kernel
theorem dX7_bestOf_30 : decode cX7_bestOf 30 = .ok (.ineg, 1) := by decide +kernel
theorem dX7_bestOf_31 : decode cX7_bestOf 31 = .ok (.iconst 2, 1) := by decide +kernel
theorem dX7_bestOf_32 : decode cX7_bestOf 32 = .ok (.idiv, 1) := by decide +kernel
theorem dX7_bestOf_33 : decode cX7_bestOf 33 = .ok (.goto 7, 3) := by decide +kernel
theorem dX7_bestOf_36 : decode cX7_bestOf 36 = .ok (.iload 4, 2) := by decide +kernel
theorem dX7_bestOf_38 : decode cX7_bestOf 38 = .ok (.iconst 2, 1) := by decide +kernel
theorem dX7_bestOf_39 : decode cX7_bestOf 39 = .ok (.idiv, 1) := by decide +kernel
theorem dX7_bestOf_40 : decode cX7_bestOf 40 = .ok (.istore 5, 2) := by decide +kernel
theorem dX7_bestOf_42 : decode cX7_bestOf 42 = .ok (.aload_n 0, 1) := by decide +kernel
theorem dX7_bestOf_43 : decode cX7_bestOf 43 = .ok (.iload_n 1, 1) := by decide +kernel
theorem dX7_bestOf_44 : decode cX7_bestOf 44 = .ok (.iload 5, 2) := by decide +kernel
theorem dX7_bestOf_46 : decode cX7_bestOf 46 = .ok (.invokevirtual 325, 3) := by decide +kernel
theorem dX7_bestOf_49 : decode cX7_bestOf 49 = .ok (.istore 6, 2) := by decide +kernel
theorem dX7_bestOf_51 : decode cX7_bestOf 51 = .ok (.iload 6, 2) := by decide +kernel
theorem dX7_bestOf_53 : decode cX7_bestOf 53 = .ok (.iload_n 3, 1) := by decide +kernel
theorem dX7_bestOf_54 : decode cX7_bestOf 54 = .ok (.if_icmp .lt 6, 3) := by decide +kernel
theorem dX7_bestOf_57 : decode cX7_bestOf 57 = .ok (.goto 9, 3) := by decide +kernel
theorem dX7_bestOf_60 : decode cX7_bestOf 60 = .ok (.iload 6, 2) := by decide +kernel
theorem dX7_bestOf_62 : decode cX7_bestOf 62 = .ok (.istore_n 3, 1) := by decide +kernel
theorem dX7_bestOf_63 : decode cX7_bestOf 63 = .ok (.iload 5, 2) := by decide +kernel
theorem dX7_bestOf_65 : decode cX7_bestOf 65 = .ok (.istore_n 2, 1) := by decide +kernel
theorem dX7_bestOf_66 : decode cX7_bestOf 66 = .ok (.iinc 4 1, 3) := by decide +kernel
theorem dX7_bestOf_69 : decode cX7_bestOf 69 = .ok (.goto (-58), 3) := by decide +kernel
theorem dX7_bestOf_72 : decode cX7_bestOf 72 = .ok (.iload_n 2, 1) := by decide +kernel
theorem dX7_bestOf_73 : decode cX7_bestOf 73 = .ok (.ireturn, 1) := by decide +kernel
set_option maxRecDepth 20000 in
theorem ggX7_bestShift_X7_isMoon : GoodIn wsX7_bestShift wsX7_isMoon := goodIn_r _ [6, 7, 8, 9, 5, 10, 95, 96, 97, 98, 99, 100, 101, 102, 103, 104, 105, 106, 107, 108, 109, 110, 111, 112, 113, 114, 115, 116, 117, 118, 119, 120, 121, 122, 123] (by decide +kernel) (by decide +kernel)
set_option maxRecDepth 20000 in
theorem gX7_bestShift_X7_isMoon : GoodIn wsX7_bestShift (wsV RX7 273 RX7 yX7_isMoon wsX7_isMoon) := goodIn_app (goodIn_of _ (by decide +kernel)) ggX7_bestShift_X7_isMoon
set_option maxRecDepth 20000 in
theorem ggX7_bestShift_X7_bestOf : GoodIn wsX7_bestShift wsX7_bestOf := goodIn_r _ [14, 15, 16, 17, 5, 18, 7, 19, 20, 21, 22, 23, 24, 25, 26, 27, 28, 29, 30, 31, 32, 8, 9, 10, 33, 34, 35, 36, 37, 38, 39, 40, 41, 42, 43, 44, 45, 46, 47, 48, 49, 50, 51, 52, 53, 54, 55, 56, 57, 58, 59, 60, 61, 62, 63, 64, 65, 66, 67, 68, 69, 70, 71, 72, 73, 74, 75, 76, 77, 78, 79, 80, 81, 82, 83, 84, 85, 86, 87, 88, 89, 90, 91, 92, 93, 94, 95, 96, 97, 98, 99, 100, 101, 102, 103, 104, 105, 106, 107, 108, 109, 110, 111, 112, 113, 114, 115, 116, 117, 118, 119, 120, 121, 122, 123] (by decide +kernel) (by decide +kernel)
set_option maxRecDepth 20000 in
theorem gX7_bestShift_X7_bestOf : GoodIn wsX7_bestShift (wsV RX7 328 RX7 yX7_bestOf wsX7_bestOf) := goodIn_app (goodIn_of _ (by decide +kernel)) ggX7_bestShift_X7_bestOf
theorem dX7_bestShift_0 : decode cX7_bestShift 0 = .ok (.aload_n 0, 1) := by decide +kernel
theorem dX7_bestShift_1 : decode cX7_bestShift 1 = .ok (.aload_n 0, 1) := by decide +kernel
theorem dX7_bestShift_2 : decode cX7_bestShift 2 = .ok (.iload_n 1, 1) := by decide +kernel
theorem dX7_bestShift_3 : decode cX7_bestShift 3 = .ok (.invokevirtual 273, 3) := by decide +kernel
theorem dX7_bestShift_6 : decode cX7_bestShift 6 = .ok (.ifCond .eq 7, 3) := by decide +kernel
theorem dX7_bestShift_9 : decode cX7_bestShift 9 = .ok (.iconst 0, 1) := by decide +kernel
theorem dX7_bestShift_10 : decode cX7_bestShift 10 = .ok (.goto 4, 3) := by decide +kernel
theorem dX7_bestShift_13 : decode cX7_bestShift 13 = .ok (.iconst 1, 1) := by decide +kernel
theorem dX7_bestShift_14 : decode cX7_bestShift 14 = .ok (.putfield 42, 3) := by decide +kernel
theorem dX7_bestShift_17 : decode cX7_bestShift 17 = .ok (.aload_n 0, 1) := by decide +kernel
theorem dX7_bestShift_18 : decode cX7_bestShift 18 = .ok (.getfield 42, 3) := by decide +kernel
theorem dX7_bestShift_21 : decode cX7_bestShift 21 = .ok (.ifCond .le 7, 3) := by decide +kernel
theorem dX7_bestShift_24 : decode cX7_bestShift 24 = .ok (.iconst 0, 1) := by decide +kernel
theorem dX7_bestShift_25 : decode cX7_bestShift 25 = .ok (.goto 8, 3) := by decide +kernel
theorem dX7_bestShift_28 : decode cX7_bestShift 28 = .ok (.aload_n 0, 1) := by decide +kernel
theorem dX7_bestShift_29 : decode cX7_bestShift 29 = .ok (.iload_n 1, 1) := by decide +kernel
theorem dX7_bestShift_30 : decode cX7_bestShift 30 = .ok (.invokevirtual 328, 3) := by decide +kernel
theorem dX7_bestShift_33 : decode cX7_bestShift 33 = .ok (.ireturn, 1) := by decide +kernel
set_option maxRecDepth 20000 in
theorem ggX7_see_X7_isMoon : GoodIn wsX7_see wsX7_isMoon := goodIn_r _ [8, 3, 9, 10, 7, 11, 29, 30, 31, 32, 33, 34, 35, 36, 37, 38, 39, 40, 41, 42, 43, 44, 45, 46, 47, 48, 49, 50, 51, 52, 53, 54, 55, 56, 57] (by decide +kernel) (by decide +kernel)
set_option maxRecDepth 20000 in
theorem gX7_see_X7_isMoon : GoodIn wsX7_see (wsV RX7 273 RX7 yX7_isMoon wsX7_isMoon) := goodIn_app (goodIn_of _ (by decide +kernel)) ggX7_see_X7_isMoon
set_option maxRecDepth 20000 in
theorem ggX7_see_X7_isIn : GoodIn wsX7_see wsX7_isIn := goodIn_r _ [11] (by decide +kernel) (by decide +kernel)
set_option maxRecDepth 20000 in
theorem gX7_see_X7_isIn : GoodIn wsX7_see (va_wsS RX7 52 yX7_isIn wsX7_isIn) := goodIn_app (goodIn_of _ (by decide +kernel)) ggX7_see_X7_isIn
set_option maxRecDepth 20000 in
theorem ggX7_see_X7_sightOf : GoodIn wsX7_see wsX7_sightOf := goodIn_r _ [15, 3, 16, 17, 18, 7, 19, 29, 30, 31, 32, 33, 34, 35, 36, 37, 38, 39, 40, 41, 42, 43, 44, 45, 46, 47, 48, 49, 50, 51, 52, 53, 54, 55, 56, 57] (by decide +kernel) (by decide +kernel)
set_option maxRecDepth 20000 in
theorem gX7_see_X7_sightOf : GoodIn wsX7_see (wsV RX7 175 RX7 yX7_sightOf wsX7_sightOf) := goodIn_app (goodIn_of _ (by decide +kernel)) ggX7_see_X7_sightOf
set_option maxRecDepth 20000 in
theorem ggX7_see_X7_keeps : GoodIn wsX7_see wsX7_keeps := goodIn_r _ [23, 24, 25, 26, 27, 7, 28, 29, 30, 31, 32, 33, 34, 35, 36, 37, 38, 39, 40, 41, 42, 43, 44, 45, 46, 47, 48, 49, 50, 51, 52, 53, 54, 55, 56, 57] (by decide +kernel) (by decide +kernel)
set_option maxRecDepth 20000 in
theorem gX7_see_X7_keeps : GoodIn wsX7_see (wsV RX7 56 RX7 yX7_keeps wsX7_keeps) := goodIn_app (goodIn_of _ (by decide +kernel)) ggX7_see_X7_keeps
theorem dX7_see_0 : decode cX7_see 0 = .ok (.aload_n 0, 1) := by decide +kernel
theorem dX7_see_1 : decode cX7_see 1 = .ok (.aload_n 0, 1) := by decide +kernel
theorem dX7_see_2 : decode cX7_see 2 = .ok (.iload_n 1, 1) := by decide +kernel
theorem dX7_see_3 : decode cX7_see 3 = .ok (.invokevirtual 273, 3) := by decide +kernel
theorem dX7_see_6 : decode cX7_see 6 = .ok (.ifCond .ne 7, 3) := by decide +kernel
theorem dX7_see_9 : decode cX7_see 9 = .ok (.iconst 1, 1) := by decide +kernel
theorem dX7_see_10 : decode cX7_see 10 = .ok (.goto 27, 3) := by decide +kernel
theorem dX7_see_13 : decode cX7_see 13 = .ok (.iload_n 2, 1) := by decide +kernel
theorem dX7_see_14 : decode cX7_see 14 = .ok (.iconst 0, 1) := by decide +kernel
theorem dX7_see_15 : decode cX7_see 15 = .ok (.iconst 3, 1) := by decide +kernel
theorem dX7_see_16 : decode cX7_see 16 = .ok (.invokestatic 52, 3) := by decide +kernel
theorem dX7_see_19 : decode cX7_see 19 = .ok (.ifCond .eq 17, 3) := by decide +kernel
theorem dX7_see_22 : decode cX7_see 22 = .ok (.iload_n 3, 1) := by decide +kernel
theorem dX7_see_23 : decode cX7_see 23 = .ok (.iconst 1, 1) := by decide +kernel
theorem dX7_see_24 : decode cX7_see 24 = .ok (.ldc 174, 2) := by decide +kernel
theorem dX7_see_26 : decode cX7_see 26 = .ok (.invokestatic 52, 3) := by decide +kernel
theorem dX7_see_29 : decode cX7_see 29 = .ok (.ifCond .eq 7, 3) := by decide +kernel
theorem dX7_see_32 : decode cX7_see 32 = .ok (.iconst 0, 1) := by decide +kernel
theorem dX7_see_33 : decode cX7_see 33 = .ok (.goto 4, 3) := by decide +kernel
theorem dX7_see_36 : decode cX7_see 36 = .ok (.iconst 2, 1) := by decide +kernel
theorem dX7_see_37 : decode cX7_see 37 = .ok (.putfield 42, 3) := by decide +kernel
theorem dX7_see_40 : decode cX7_see 40 = .ok (.aload_n 0, 1) := by decide +kernel
theorem dX7_see_41 : decode cX7_see 41 = .ok (.getfield 42, 3) := by decide +kernel
theorem dX7_see_44 : decode cX7_see 44 = .ok (.ifCond .le 5, 3) := by decide +kernel
theorem dX7_see_47 : decode cX7_see 47 = .ok (.iconst 0, 1) := by decide +kernel
theorem dX7_see_48 : decode cX7_see 48 = .ok (.ireturn, 1) := by decide +kernel
theorem dX7_see_49 : decode cX7_see 49 = .ok (.aload_n 0, 1) := by decide +kernel
theorem dX7_see_50 : decode cX7_see 50 = .ok (.getfield 7, 3) := by decide +kernel
theorem dX7_see_53 : decode cX7_see 53 = .ok (.iconst 4, 1) := by decide +kernel
theorem dX7_see_54 : decode cX7_see 54 = .ok (.iaload, 1) := by decide +kernel
theorem dX7_see_55 : decode cX7_see 55 = .ok (.bipush 30, 2) := by decide +kernel
theorem dX7_see_57 : decode cX7_see 57 = .ok (.if_icmp .ne 6, 3) := by decide +kernel
theorem dX7_see_60 : decode cX7_see 60 = .ok (.bipush (-11), 2) := by decide +kernel
theorem dX7_see_62 : decode cX7_see 62 = .ok (.ireturn, 1) := by decide +kernel
theorem dX7_see_63 : decode cX7_see 63 = .ok (.aload_n 0, 1) := by decide +kernel
theorem dX7_see_64 : decode cX7_see 64 = .ok (.iload_n 1, 1) := by decide +kernel
theorem dX7_see_65 : decode cX7_see 65 = .ok (.iload_n 2, 1) := by decide +kernel
theorem dX7_see_66 : decode cX7_see 66 = .ok (.iload_n 3, 1) := by decide +kernel
theorem dX7_see_67 : decode cX7_see 67 = .ok (.invokevirtual 175, 3) := by decide +kernel
theorem dX7_see_70 : decode cX7_see 70 = .ok (.iconst (-1), 1) := by decide +kernel
theorem dX7_see_71 : decode cX7_see 71 = .ok (.if_icmp .eq 6, 3) := by decide +kernel
theorem dX7_see_74 : decode cX7_see 74 = .ok (.bipush (-12), 2) := by decide +kernel
theorem dX7_see_76 : decode cX7_see 76 = .ok (.ireturn, 1) := by decide +kernel
theorem dX7_see_77 : decode cX7_see 77 = .ok (.aload_n 0, 1) := by decide +kernel
theorem dX7_see_78 : decode cX7_see 78 = .ok (.aload_n 0, 1) := by decide +kernel
theorem dX7_see_79 : decode cX7_see 79 = .ok (.getfield 7, 3) := by decide +kernel
theorem dX7_see_82 : decode cX7_see 82 = .ok (.invokevirtual 56, 3) := by decide +kernel
theorem dX7_see_85 : decode cX7_see 85 = .ok (.bipush 89, 2) := by decide +kernel
theorem dX7_see_87 : decode cX7_see 87 = .ok (.iconst 3, 1) := by decide +kernel
theorem dX7_see_88 : decode cX7_see 88 = .ok (.aload_n 0, 1) := by decide +kernel
theorem dX7_see_89 : decode cX7_see 89 = .ok (.getfield 7, 3) := by decide +kernel
theorem dX7_see_92 : decode cX7_see 92 = .ok (.iconst 4, 1) := by decide +kernel
theorem dX7_see_93 : decode cX7_see 93 = .ok (.iaload, 1) := by decide +kernel
theorem dX7_see_94 : decode cX7_see 94 = .ok (.imul, 1) := by decide +kernel
theorem dX7_see_95 : decode cX7_see 95 = .ok (.iadd, 1) := by decide +kernel
theorem dX7_see_96 : decode cX7_see 96 = .ok (.istore 4, 2) := by decide +kernel
theorem dX7_see_98 : decode cX7_see 98 = .ok (.aload_n 0, 1) := by decide +kernel
theorem dX7_see_99 : decode cX7_see 99 = .ok (.getfield 7, 3) := by decide +kernel
theorem dX7_see_102 : decode cX7_see 102 = .ok (.iload 4, 2) := by decide +kernel
theorem dX7_see_104 : decode cX7_see 104 = .ok (.iload_n 1, 1) := by decide +kernel
theorem dX7_see_105 : decode cX7_see 105 = .ok (.iastore, 1) := by decide +kernel
theorem dX7_see_106 : decode cX7_see 106 = .ok (.aload_n 0, 1) := by decide +kernel
theorem dX7_see_107 : decode cX7_see 107 = .ok (.getfield 7, 3) := by decide +kernel
theorem dX7_see_110 : decode cX7_see 110 = .ok (.iload 4, 2) := by decide +kernel
theorem dX7_see_112 : decode cX7_see 112 = .ok (.iconst 1, 1) := by decide +kernel
theorem dX7_see_113 : decode cX7_see 113 = .ok (.iadd, 1) := by decide +kernel
theorem dX7_see_114 : decode cX7_see 114 = .ok (.iload_n 2, 1) := by decide +kernel
theorem dX7_see_115 : decode cX7_see 115 = .ok (.iastore, 1) := by decide +kernel
theorem dX7_see_116 : decode cX7_see 116 = .ok (.aload_n 0, 1) := by decide +kernel
theorem dX7_see_117 : decode cX7_see 117 = .ok (.getfield 7, 3) := by decide +kernel
theorem dX7_see_120 : decode cX7_see 120 = .ok (.iload 4, 2) := by decide +kernel
theorem dX7_see_122 : decode cX7_see 122 = .ok (.iconst 2, 1) := by decide +kernel
theorem dX7_see_123 : decode cX7_see 123 = .ok (.iadd, 1) := by decide +kernel
theorem dX7_see_124 : decode cX7_see 124 = .ok (.iload_n 3, 1) := by decide +kernel
theorem dX7_see_125 : decode cX7_see 125 = .ok (.iastore, 1) := by decide +kernel
theorem dX7_see_126 : decode cX7_see 126 = .ok (.aload_n 0, 1) := by decide +kernel
theorem dX7_see_127 : decode cX7_see 127 = .ok (.getfield 7, 3) := by decide +kernel
theorem dX7_see_130 : decode cX7_see 130 = .ok (.iconst 4, 1) := by decide +kernel
theorem dX7_see_131 : decode cX7_see 131 = .ok (.dup2, 1) := by decide +kernel
theorem dX7_see_132 : decode cX7_see 132 = .ok (.iaload, 1) := by decide +kernel
theorem dX7_see_133 : decode cX7_see 133 = .ok (.iconst 1, 1) := by decide +kernel
theorem dX7_see_134 : decode cX7_see 134 = .ok (.iadd, 1) := by decide +kernel
theorem dX7_see_135 : decode cX7_see 135 = .ok (.iastore, 1) := by decide +kernel
theorem dX7_see_136 : decode cX7_see 136 = .ok (.aload_n 0, 1) := by decide +kernel
theorem dX7_see_137 : decode cX7_see 137 = .ok (.getfield 7, 3) := by decide +kernel
theorem dX7_see_140 : decode cX7_see 140 = .ok (.iconst 4, 1) := by decide +kernel
theorem dX7_see_141 : decode cX7_see 141 = .ok (.iaload, 1) := by decide +kernel
theorem dX7_see_142 : decode cX7_see 142 = .ok (.iconst 1, 1) := by decide +kernel
theorem dX7_see_143 : decode cX7_see 143 = .ok (.isub, 1) := by decide +kernel
theorem dX7_see_144 : decode cX7_see 144 = .ok (.ireturn, 1) := by decide +kernel
set_option maxRecDepth 20000 in
theorem ggX7_forget_X7_isSight : GoodIn wsX7_forget wsX7_isSight := goodIn_r _ [7, 2, 8, 9, 6, 10, 20, 21, 22, 23, 24, 25, 26, 27, 28, 29, 30, 31, 32, 33, 34, 35, 36, 37, 38, 39, 40, 41, 42, 43, 44, 45, 46, 47, 48] (by decide +kernel) (by decide +kernel)
