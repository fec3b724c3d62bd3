theorem dX2_comesWord_4 : decode cX2_comesWord 4 = .ok (.aload_n 0, 1) := by decide +kernel
theorem dX2_comesWord_5 : decode cX2_comesWord 5 = .ok (.invokevirtual 166, 3) := by decide +kernel
theorem dX2_comesWord_8 : decode cX2_comesWord 8 = .ok (.aload_n 0, 1) := by decide +kernel
theorem dX2_comesWord_9 : decode cX2_comesWord 9 = .ok (.getfield 47, 3) := by decide +kernel
theorem dX2_comesWord_12 : decode cX2_comesWord 12 = .ok (.isub, 1) := by decide +kernel
theorem dX2_comesWord_13 : decode cX2_comesWord 13 = .ok (.aload_n 1, 1) := by decide +kernel
theorem dX2_comesWord_14 : decode cX2_comesWord 14 = .ok (.invokevirtual 183, 3) := by decide +kernel
theorem dX2_comesWord_17 : decode cX2_comesWord 17 = .ok (.if_icmp .eq 5, 3) := by decide +kernel
theorem dX2_comesWord_20 : decode cX2_comesWord 20 = .ok (.iconst 0, 1) := by decide +kernel
theorem dX2_comesWord_21 : decode cX2_comesWord 21 = .ok (.ireturn, 1) := by decide +kernel
theorem dX2_comesWord_22 : decode cX2_comesWord 22 = .ok (.iconst 0, 1) := by decide +kernel
theorem dX2_comesWord_23 : decode cX2_comesWord 23 = .ok (.istore_n 2, 1) := by decide +kernel
theorem dX2_comesWord_24 : decode cX2_comesWord 24 = .ok (.iload_n 2, 1) := by decide +kernel
theorem dX2_comesWord_25 : decode cX2_comesWord 25 = .ok (.aload_n 1, 1) := by decide +kernel
theorem dX2_comesWord_26 : decode cX2_comesWord 26 = .ok (.invokevirtual 183, 3) := by decide +kernel
theorem dX2_comesWord_29 : decode cX2_comesWord 29 = .ok (.if_icmp .ge 29, 3) := by decide +kernel
theorem dX2_comesWord_32 : decode cX2_comesWord 32 = .ok (.aload_n 0, 1) := by decide +kernel
theorem dX2_comesWord_33 : decode cX2_comesWord 33 = .ok (.aload_n 0, 1) := by decide +kernel
theorem dX2_comesWord_34 : decode cX2_comesWord 34 = .ok (.getfield 47, 3) := by decide +kernel
theorem dX2_comesWord_37 : decode cX2_comesWord 37 = .ok (.iload_n 2, 1) := by decide +kernel
theorem dX2_comesWord_38 : decode cX2_comesWord 38 = .ok (.iadd, 1) := by decide +kernel
theorem dX2_comesWord_39 : decode cX2_comesWord 39 = .ok (.invokevirtual 170, 3) := by decide +kernel
theorem dX2_comesWord_42 : decode cX2_comesWord 42 = .ok (.aload_n 1, 1) := by decide +kernel
theorem dX2_comesWord_43 : decode cX2_comesWord 43 = .ok (.iload_n 2, 1) := by decide +kernel
theorem dX2_comesWord_44 : decode cX2_comesWord 44 = .ok (.invokevirtual 187, 3) := by decide +kernel
theorem dX2_comesWord_47 : decode cX2_comesWord 47 = .ok (.if_icmp .eq 5, 3) := by decide +kernel
theorem dX2_comesWord_50 : decode cX2_comesWord 50 = .ok (.iconst 0, 1) := by decide +kernel
theorem dX2_comesWord_51 : decode cX2_comesWord 51 = .ok (.ireturn, 1) := by decide +kernel
theorem dX2_comesWord_52 : decode cX2_comesWord 52 = .ok (.iinc 2 1, 3) := by decide +kernel
theorem dX2_comesWord_55 : decode cX2_comesWord 55 = .ok (.goto (-31), 3) := by decide +kernel
theorem dX2_comesWord_58 : decode cX2_comesWord 58 = .ok (.iconst 1, 1) := by decide +kernel
theorem dX2_comesWord_59 : decode cX2_comesWord 59 = .ok (.ireturn, 1) := by decide +kernel
set_option maxRecDepth 20000 in
theorem ggX2_textEnds_X2_skipSpaces : GoodIn wsX2_textEnds wsX2_skipSpaces := goodIn_r _ [7, 1, 2, 8, 9, 10, 11, 12, 13, 14, 15, 16, 17] (by decide +kernel) (by decide +kernel)
set_option maxRecDepth 20000 in
theorem gX2_textEnds_X2_skipSpaces : GoodIn wsX2_textEnds (wsV RX2 163 RX2 yX2_skipSpaces wsX2_skipSpaces) := goodIn_app (goodIn_of _ (by decide +kernel)) ggX2_textEnds_X2_skipSpaces
theorem dX2_textEnds_0 : decode cX2_textEnds 0 = .ok (.aload_n 0, 1) := by decide +kernel
theorem dX2_textEnds_1 : decode cX2_textEnds 1 = .ok (.invokevirtual 163, 3) := by decide +kernel
theorem dX2_textEnds_4 : decode cX2_textEnds 4 = .ok (.aload_n 0, 1) := by decide +kernel
theorem dX2_textEnds_5 : decode cX2_textEnds 5 = .ok (.getfield 47, 3) := by decide +kernel
theorem dX2_textEnds_8 : decode cX2_textEnds 8 = .ok (.aload_n 0, 1) := by decide +kernel
theorem dX2_textEnds_9 : decode cX2_textEnds 9 = .ok (.getfield 19, 3) := by decide +kernel
theorem dX2_textEnds_12 : decode cX2_textEnds 12 = .ok (.if_icmp .lt 7, 3) := by decide +kernel
theorem dX2_textEnds_15 : decode cX2_textEnds 15 = .ok (.iconst 1, 1) := by decide +kernel
theorem dX2_textEnds_16 : decode cX2_textEnds 16 = .ok (.goto 4, 3) := by decide +kernel
theorem dX2_textEnds_19 : decode cX2_textEnds 19 = .ok (.iconst 0, 1) := by decide +kernel
theorem dX2_textEnds_20 : decode cX2_textEnds 20 = .ok (.ireturn, 1) := by decide +kernel
theorem dX2_skipSpaces_0 : decode cX2_skipSpaces 0 = .ok (.aload_n 0, 1) := by decide +kernel
theorem dX2_skipSpaces_1 : decode cX2_skipSpaces 1 = .ok (.getfield 47, 3) := by decide +kernel
theorem dX2_skipSpaces_4 : decode cX2_skipSpaces 4 = .ok (.ifCond .lt 53, 3) := by decide +kernel
theorem dX2_skipSpaces_7 : decode cX2_skipSpaces 7 = .ok (.aload_n 0, 1) := by decide +kernel
theorem dX2_skipSpaces_8 : decode cX2_skipSpaces 8 = .ok (.getfield 47, 3) := by decide +kernel
theorem dX2_skipSpaces_11 : decode cX2_skipSpaces 11 = .ok (.aload_n 0, 1) := by decide +kernel
theorem dX2_skipSpaces_12 : decode cX2_skipSpaces 12 = .ok (.getfield 19, 3) := by decide +kernel
theorem dX2_skipSpaces_15 : decode cX2_skipSpaces 15 = .ok (.if_icmp .ge 42, 3) := by decide +kernel
theorem dX2_skipSpaces_18 : decode cX2_skipSpaces 18 = .ok (.aload_n 0, 1) := by decide +kernel
theorem dX2_skipSpaces_19 : decode cX2_skipSpaces 19 = .ok (.getfield 47, 3) := by decide +kernel
theorem dX2_skipSpaces_22 : decode cX2_skipSpaces 22 = .ok (.aload_n 0, 1) := by decide +kernel
theorem dX2_skipSpaces_23 : decode cX2_skipSpaces 23 = .ok (.getfield 15, 3) := by decide +kernel
theorem dX2_skipSpaces_26 : decode cX2_skipSpaces 26 = .ok (.arraylength, 1) := by decide +kernel
theorem dX2_skipSpaces_27 : decode cX2_skipSpaces 27 = .ok (.if_icmp .ge 30, 3) := by decide +kernel
theorem dX2_skipSpaces_30 : decode cX2_skipSpaces 30 = .ok (.aload_n 0, 1) := by decide +kernel
theorem dX2_skipSpaces_31 : decode cX2_skipSpaces 31 = .ok (.getfield 15, 3) := by decide +kernel
theorem dX2_skipSpaces_34 : decode cX2_skipSpaces 34 = .ok (.aload_n 0, 1) := by decide +kernel
theorem dX2_skipSpaces_35 : decode cX2_skipSpaces 35 = .ok (.getfield 47, 3) := by decide +kernel
theorem dX2_skipSpaces_38 : decode cX2_skipSpaces 38 = .ok (.caload, 1) := by decide +kernel
theorem dX2_skipSpaces_39 : decode cX2_skipSpaces 39 = .ok (.bipush 32, 2) := by decide +kernel
theorem dX2_skipSpaces_41 : decode cX2_skipSpaces 41 = .ok (.if_icmp .ne 16, 3) := by decide +kernel
theorem dX2_skipSpaces_44 : decode cX2_skipSpaces 44 = .ok (.aload_n 0, 1) := by decide +kernel
theorem dX2_skipSpaces_45 : decode cX2_skipSpaces 45 = .ok (.dup, 1) := by decide +kernel
theorem dX2_skipSpaces_46 : decode cX2_skipSpaces 46 = .ok (.getfield 47, 3) := by decide +kernel
theorem dX2_skipSpaces_49 : decode cX2_skipSpaces 49 = .ok (.iconst 1, 1) := by decide +kernel
theorem dX2_skipSpaces_50 : decode cX2_skipSpaces 50 = .ok (.iadd, 1) := by decide +kernel
theorem dX2_skipSpaces_51 : decode cX2_skipSpaces 51 = .ok (.putfield 47, 3) := by decide +kernel
theorem dX2_skipSpaces_54 : decode cX2_skipSpaces 54 = .ok (.goto (-54), 3) := by decide +kernel
theorem dX2_skipSpaces_57 : decode cX2_skipSpaces 57 = .ok (.aload_n 0, 1) := by decide +kernel
theorem dX2_skipSpaces_58 : decode cX2_skipSpaces 58 = .ok (.aload_n 0, 1) := by decide +kernel
theorem dX2_skipSpaces_59 : decode cX2_skipSpaces 59 = .ok (.getfield 47, 3) := by decide +kernel
theorem dX2_skipSpaces_62 : decode cX2_skipSpaces 62 = .ok (.putfield 50, 3) := by decide +kernel
theorem dX2_skipSpaces_65 : decode cX2_skipSpaces 65 = .ok (.return_, 1) := by decide +kernel
theorem dX2_wordEnd_0 : decode cX2_wordEnd 0 = .ok (.aload_n 0, 1) := by decide +kernel
theorem dX2_wordEnd_1 : decode cX2_wordEnd 1 = .ok (.getfield 47, 3) := by decide +kernel
theorem dX2_wordEnd_4 : decode cX2_wordEnd 4 = .ok (.istore_n 1, 1) := by decide +kernel
theorem dX2_wordEnd_5 : decode cX2_wordEnd 5 = .ok (.iload_n 1, 1) := by decide +kernel
theorem dX2_wordEnd_6 : decode cX2_wordEnd 6 = .ok (.ifCond .lt 48, 3) := by decide +kernel
theorem dX2_wordEnd_9 : decode cX2_wordEnd 9 = .ok (.iload_n 1, 1) := by decide +kernel
theorem dX2_wordEnd_10 : decode cX2_wordEnd 10 = .ok (.aload_n 0, 1) := by decide +kernel
theorem dX2_wordEnd_11 : decode cX2_wordEnd 11 = .ok (.getfield 19, 3) := by decide +kernel
theorem dX2_wordEnd_14 : decode cX2_wordEnd 14 = .ok (.if_icmp .ge 40, 3) := by decide +kernel
theorem dX2_wordEnd_17 : decode cX2_wordEnd 17 = .ok (.iload_n 1, 1) := by decide +kernel
theorem dX2_wordEnd_18 : decode cX2_wordEnd 18 = .ok (.aload_n 0, 1) := by decide +kernel
theorem dX2_wordEnd_19 : decode cX2_wordEnd 19 = .ok (.getfield 15, 3) := by decide +kernel
theorem dX2_wordEnd_22 : decode cX2_wordEnd 22 = .ok (.arraylength, 1) := by decide +kernel
theorem dX2_wordEnd_23 : decode cX2_wordEnd 23 = .ok (.if_icmp .ge 31, 3) := by decide +kernel
theorem dX2_wordEnd_26 : decode cX2_wordEnd 26 = .ok (.aload_n 0, 1) := by decide +kernel
theorem dX2_wordEnd_27 : decode cX2_wordEnd 27 = .ok (.getfield 15, 3) := by decide +kernel
theorem dX2_wordEnd_30 : decode cX2_wordEnd 30 = .ok (.iload_n 1, 1) := by decide +kernel
theorem dX2_wordEnd_31 : decode cX2_wordEnd 31 = .ok (.caload, 1) := by decide +kernel
theorem dX2_wordEnd_32 : decode cX2_wordEnd 32 = .ok (.bipush 97, 2) := by decide +kernel
theorem dX2_wordEnd_34 : decode cX2_wordEnd 34 = .ok (.if_icmp .lt 20, 3) := by decide +kernel
theorem dX2_wordEnd_37 : decode cX2_wordEnd 37 = .ok (.aload_n 0, 1) := by decide +kernel
theorem dX2_wordEnd_38 : decode cX2_wordEnd 38 = .ok (.getfield 15, 3) := by decide +kernel
theorem dX2_wordEnd_41 : decode cX2_wordEnd 41 = .ok (.iload_n 1, 1) := by decide +kernel
theorem dX2_wordEnd_42 : decode cX2_wordEnd 42 = .ok (.caload, 1) := by decide +kernel
theorem dX2_wordEnd_43 : decode cX2_wordEnd 43 = .ok (.bipush 122, 2) := by decide +kernel
theorem dX2_wordEnd_45 : decode cX2_wordEnd 45 = .ok (.if_icmp .gt 9, 3) := by decide +kernel
theorem dX2_wordEnd_48 : decode cX2_wordEnd 48 = .ok (.iinc 1 1, 3) := by decide +kernel
theorem dX2_wordEnd_51 : decode cX2_wordEnd 51 = .ok (.goto (-46), 3) := by decide +kernel
theorem dX2_wordEnd_54 : decode cX2_wordEnd 54 = .ok (.iload_n 1, 1) := by decide +kernel
theorem dX2_wordEnd_55 : decode cX2_wordEnd 55 = .ok (.ireturn, 1) := by decide +kernel
theorem dX2_byteAt_0 : decode cX2_byteAt 0 = .ok (.iload_n 1, 1) := by decide +kernel
theorem dX2_byteAt_1 : decode cX2_byteAt 1 = .ok (.ifCond .lt 29, 3) := by decide +kernel
theorem dX2_byteAt_4 : decode cX2_byteAt 4 = .ok (.iload_n 1, 1) := by decide +kernel
theorem dX2_byteAt_5 : decode cX2_byteAt 5 = .ok (.aload_n 0, 1) := by decide +kernel
theorem dX2_byteAt_6 : decode cX2_byteAt 6 = .ok (.getfield 19, 3) := by decide +kernel
theorem dX2_byteAt_9 : decode cX2_byteAt 9 = .ok (.if_icmp .ge 21, 3) := by decide +kernel
theorem dX2_byteAt_12 : decode cX2_byteAt 12 = .ok (.iload_n 1, 1) := by decide +kernel
theorem dX2_byteAt_13 : decode cX2_byteAt 13 = .ok (.aload_n 0, 1) := by decide +kernel
theorem dX2_byteAt_14 : decode cX2_byteAt 14 = .ok (.getfield 15, 3) := by decide +kernel
theorem dX2_byteAt_17 : decode cX2_byteAt 17 = .ok (.arraylength, 1) := by decide +kernel
theorem dX2_byteAt_18 : decode cX2_byteAt 18 = .ok (.if_icmp .ge 12, 3) := by decide +kernel
theorem dX2_byteAt_21 : decode cX2_byteAt 21 = .ok (.aload_n 0, 1) := by decide +kernel
theorem dX2_byteAt_22 : decode cX2_byteAt 22 = .ok (.getfield 15, 3) := by decide +kernel
theorem dX2_byteAt_25 : decode cX2_byteAt 25 = .ok (.iload_n 1, 1) := by decide +kernel
theorem dX2_byteAt_26 : decode cX2_byteAt 26 = .ok (.caload, 1) := by decide +kernel
theorem dX2_byteAt_27 : decode cX2_byteAt 27 = .ok (.goto 4, 3) := by decide +kernel
theorem dX2_byteAt_30 : decode cX2_byteAt 30 = .ok (.iconst 0, 1) := by decide +kernel
theorem dX2_byteAt_31 : decode cX2_byteAt 31 = .ok (.ireturn, 1) := by decide +kernel
theorem dX2_isDigit_0 : decode cX2_isDigit 0 = .ok (.iload_n 0, 1) := by decide +kernel
theorem dX2_isDigit_1 : decode cX2_isDigit 1 = .ok (.bipush 48, 2) := by decide +kernel
theorem dX2_isDigit_3 : decode cX2_isDigit 3 = .ok (.if_icmp .lt 13, 3) := by decide +kernel
theorem dX2_isDigit_6 : decode cX2_isDigit 6 = .ok (.iload_n 0, 1) := by decide +kernel
theorem dX2_isDigit_7 : decode cX2_isDigit 7 = .ok (.bipush 57, 2) := by decide +kernel
theorem dX2_isDigit_9 : decode cX2_isDigit 9 = .ok (.if_icmp .gt 7, 3) := by decide +kernel
theorem dX2_isDigit_12 : decode cX2_isDigit 12 = .ok (.iconst 1, 1) := by decide +kernel
theorem dX2_isDigit_13 : decode cX2_isDigit 13 = .ok (.goto 4, 3) := by decide +kernel
theorem dX2_isDigit_16 : decode cX2_isDigit 16 = .ok (.iconst 0, 1) := by decide +kernel
theorem dX2_isDigit_17 : decode cX2_isDigit 17 = .ok (.ireturn, 1) := by decide +kernel
theorem dX3_init_0 : decode cX3_init 0 = .ok (.aload_n 0, 1) := by decide +kernel
theorem dX3_init_1 : decode cX3_init 1 = .ok (.invokespecial 3, 3) := by decide +kernel
theorem dX3_init_4 : decode cX3_init 4 = .ok (.return_, 1) := by decide +kernel
set_option maxRecDepth 20000 in
theorem ggX3_aim_X1_moonNumber : GoodIn wsX3_aim wsX1_moonNumber := goodIn_r _ [19, 20, 32, 33, 34, 35, 36, 37, 38, 39] (by decide +kernel) (by decide +kernel)
set_option maxRecDepth 20000 in
theorem gX3_aim_X1_moonNumber : GoodIn wsX3_aim (wsV RX3 20 RX1 yX1_moonNumber wsX1_moonNumber) := goodIn_app (goodIn_of _ (by decide +kernel)) ggX3_aim_X1_moonNumber
set_option maxRecDepth 20000 in
theorem ggX3_aim_X3_widthOf : GoodIn wsX3_aim wsX3_widthOf := goodIn_r _ [24] (by decide +kernel) (by decide +kernel)
set_option maxRecDepth 20000 in
theorem gX3_aim_X3_widthOf : GoodIn wsX3_aim (va_wsS RX3 42 yX3_widthOf wsX3_widthOf) := goodIn_app (goodIn_of _ (by decide +kernel)) ggX3_aim_X3_widthOf
set_option maxRecDepth 20000 in
theorem ggX3_aim_X6_sineOf : GoodIn wsX3_aim wsX6_sineOf := goodIn_r _ [27, 28, 29, 30, 31] (by decide +kernel) (by decide +kernel)
set_option maxRecDepth 20000 in
theorem gX3_aim_X6_sineOf_n49 : GoodIn wsX3_aim (wsX6_sineOf) := ggX3_aim_X6_sineOf
theorem dX3_aim_0 : decode cX3_aim 0 = .ok (.aload_n 0, 1) := by decide +kernel
theorem dX3_aim_1 : decode cX3_aim 1 = .ok (.bipush 100, 2) := by decide +kernel
theorem dX3_aim_3 : decode cX3_aim 3 = .ok (.aload_n 1, 1) := by decide +kernel
theorem dX3_aim_4 : decode cX3_aim 4 = .ok (.getfield 9, 3) := by decide +kernel
theorem dX3_aim_7 : decode cX3_aim 7 = .ok (.imul, 1) := by decide +kernel
theorem dX3_aim_8 : decode cX3_aim 8 = .ok (.putfield 15, 3) := by decide +kernel
theorem dX3_aim_11 : decode cX3_aim 11 = .ok (.aload_n 0, 1) := by decide +kernel
theorem dX3_aim_12 : decode cX3_aim 12 = .ok (.bipush 100, 2) := by decide +kernel
theorem dX3_aim_14 : decode cX3_aim 14 = .ok (.aload_n 1, 1) := by decide +kernel
theorem dX3_aim_15 : decode cX3_aim 15 = .ok (.iload_n 2, 1) := by decide +kernel
theorem dX3_aim_16 : decode cX3_aim 16 = .ok (.iconst 5, 1) := by decide +kernel
theorem dX3_aim_17 : decode cX3_aim 17 = .ok (.invokevirtual 20, 3) := by decide +kernel
theorem dX3_aim_20 : decode cX3_aim 20 = .ok (.imul, 1) := by decide +kernel
theorem dX3_aim_21 : decode cX3_aim 21 = .ok (.putfield 24, 3) := by decide +kernel
theorem dX3_aim_24 : decode cX3_aim 24 = .ok (.aload_n 0, 1) := by decide +kernel
theorem dX3_aim_25 : decode cX3_aim 25 = .ok (.aload_n 1, 1) := by decide +kernel
theorem dX3_aim_26 : decode cX3_aim 26 = .ok (.getfield 27, 3) := by decide +kernel
theorem dX3_aim_29 : decode cX3_aim 29 = .ok (.putfield 30, 3) := by decide +kernel
theorem dX3_aim_32 : decode cX3_aim 32 = .ok (.aload_n 0, 1) := by decide +kernel
theorem dX3_aim_33 : decode cX3_aim 33 = .ok (.aload_n 1, 1) := by decide +kernel
theorem dX3_aim_34 : decode cX3_aim 34 = .ok (.getfield 31, 3) := by decide +kernel
theorem dX3_aim_37 : decode cX3_aim 37 = .ok (.putfield 34, 3) := by decide +kernel
theorem dX3_aim_40 : decode cX3_aim 40 = .ok (.aload_n 0, 1) := by decide +kernel
theorem dX3_aim_41 : decode cX3_aim 41 = .ok (.aload_n 1, 1) := by decide +kernel
theorem dX3_aim_42 : decode cX3_aim 42 = .ok (.iload_n 2, 1) := by decide +kernel
theorem dX3_aim_43 : decode cX3_aim 43 = .ok (.iconst 0, 1) := by decide +kernel
theorem dX3_aim_44 : decode cX3_aim 44 = .ok (.invokevirtual 20, 3) := by decide +kernel
theorem dX3_aim_47 : decode cX3_aim 47 = .ok (.i2l, 1) := by decide +kernel
theorem dX3_aim_48 : decode cX3_aim 48 = .ok (.putfield 35, 3) := by decide +kernel
theorem dX3_aim_51 : decode cX3_aim 51 = .ok (.aload_n 0, 1) := by decide +kernel
theorem dX3_aim_52 : decode cX3_aim 52 = .ok (.aload_n 1, 1) := by decide +kernel
theorem dX3_aim_53 : decode cX3_aim 53 = .ok (.iload_n 2, 1) := by decide +kernel
theorem dX3_aim_54 : decode cX3_aim 54 = .ok (.iconst 1, 1) := by decide +kernel
theorem dX3_aim_55 : decode cX3_aim 55 = .ok (.invokevirtual 20, 3) := by decide +kernel
theorem dX3_aim_58 : decode cX3_aim 58 = .ok (.putfield 39, 3) := by decide +kernel
theorem dX3_aim_61 : decode cX3_aim 61 = .ok (.aload_n 0, 1) := by decide +kernel
theorem dX3_aim_62 : decode cX3_aim 62 = .ok (.aload_n 0, 1) := by decide +kernel
theorem dX3_aim_63 : decode cX3_aim 63 = .ok (.getfield 39, 3) := by decide +kernel
theorem dX3_aim_66 : decode cX3_aim 66 = .ok (.invokestatic 42, 3) := by decide +kernel
theorem dX3_aim_69 : decode cX3_aim 69 = .ok (.putfield 46, 3) := by decide +kernel
theorem dX3_aim_72 : decode cX3_aim 72 = .ok (.bipush 100, 2) := by decide +kernel
theorem dX3_aim_74 : decode cX3_aim 74 = .ok (.aload_n 1, 1) := by decide +kernel
theorem dX3_aim_75 : decode cX3_aim 75 = .ok (.iload_n 2, 1) := by decide +kernel
theorem dX3_aim_76 : decode cX3_aim 76 = .ok (.iconst 2, 1) := by decide +kernel
theorem dX3_aim_77 : decode cX3_aim 77 = .ok (.invokevirtual 20, 3) := by decide +kernel
theorem dX3_aim_80 : decode cX3_aim 80 = .ok (.imul, 1) := by decide +kernel
theorem dX3_aim_81 : decode cX3_aim 81 = .ok (.istore_n 3, 1) := by decide +kernel
theorem dX3_aim_82 : decode cX3_aim 82 = .ok (.aload_n 0, 1) := by decide +kernel
theorem dX3_aim_83 : decode cX3_aim 83 = .ok (.iload_n 3, 1) := by decide +kernel
theorem dX3_aim_84 : decode cX3_aim 84 = .ok (.invokestatic 49, 3) := by decide +kernel
theorem dX3_aim_87 : decode cX3_aim 87 = .ok (.i2l, 1) := by decide +kernel
theorem dX3_aim_88 : decode cX3_aim 88 = .ok (.putfield 52, 3) := by decide +kernel
theorem dX3_aim_91 : decode cX3_aim 91 = .ok (.aload_n 0, 1) := by decide +kernel
theorem dX3_aim_92 : decode cX3_aim 92 = .ok (.iload_n 3, 1) := by decide +kernel
theorem dX3_aim_93 : decode cX3_aim 93 = .ok (.sipush 9000, 3) := by decide +kernel
theorem dX3_aim_96 : decode cX3_aim 96 = .ok (.iadd, 1) := by decide +kernel
theorem dX3_aim_97 : decode cX3_aim 97 = .ok (.invokestatic 49, 3) := by decide +kernel
theorem dX3_aim_100 : decode cX3_aim 100 = .ok (.i2l, 1) := by decide +kernel
theorem dX3_aim_101 : decode cX3_aim 101 = .ok (.putfield 55, 3) := by decide +kernel
theorem dX3_aim_104 : decode cX3_aim 104 = .ok (.aload_n 0, 1) := by decide +kernel
theorem dX3_aim_105 : decode cX3_aim 105 = .ok (.aload_n 1, 1) := by decide +kernel
theorem dX3_aim_106 : decode cX3_aim 106 = .ok (.iload_n 2, 1) := by decide +kernel
theorem dX3_aim_107 : decode cX3_aim 107 = .ok (.iconst 3, 1) := by decide +kernel
theorem dX3_aim_108 : decode cX3_aim 108 = .ok (.invokevirtual 20, 3) := by decide +kernel
theorem dX3_aim_111 : decode cX3_aim 111 = .ok (.putfield 58, 3) := by decide +kernel
theorem dX3_aim_114 : decode cX3_aim 114 = .ok (.aload_n 0, 1) := by decide +kernel
theorem dX3_aim_115 : decode cX3_aim 115 = .ok (.bipush 100, 2) := by decide +kernel
theorem dX3_aim_117 : decode cX3_aim 117 = .ok (.aload_n 1, 1) := by decide +kernel
theorem dX3_aim_118 : decode cX3_aim 118 = .ok (.iload_n 2, 1) := by decide +kernel
theorem dX3_aim_119 : decode cX3_aim 119 = .ok (.iconst 4, 1) := by decide +kernel
theorem dX3_aim_120 : decode cX3_aim 120 = .ok (.invokevirtual 20, 3) := by decide +kernel
theorem dX3_aim_123 : decode cX3_aim 123 = .ok (.imul, 1) := by decide +kernel
theorem dX3_aim_124 : decode cX3_aim 124 = .ok (.putfield 61, 3) := by decide +kernel
theorem dX3_aim_127 : decode cX3_aim 127 = .ok (.return_, 1) := by decide +kernel
theorem dX3_widthOf_0 : decode cX3_widthOf 0 = .ok (.sipush 10000, 3) := by decide +kernel
theorem dX3_widthOf_3 : decode cX3_widthOf 3 = .ok (.iload_n 0, 1) := by decide +kernel
theorem dX3_widthOf_4 : decode cX3_widthOf 4 = .ok (.iload_n 0, 1) := by decide +kernel
theorem dX3_widthOf_5 : decode cX3_widthOf 5 = .ok (.imul, 1) := by decide +kernel
theorem dX3_widthOf_6 : decode cX3_widthOf 6 = .ok (.isub, 1) := by decide +kernel
theorem dX3_widthOf_7 : decode cX3_widthOf 7 = .ok (.istore_n 1, 1) := by decide +kernel
theorem dX3_widthOf_8 : decode cX3_widthOf 8 = .ok (.bipush 100, 2) := by decide +kernel
theorem dX3_widthOf_10 : decode cX3_widthOf 10 = .ok (.istore_n 2, 1) := by decide +kernel
theorem dX3_widthOf_11 : decode cX3_widthOf 11 = .ok (.iload_n 2, 1) := by decide +kernel
theorem dX3_widthOf_12 : decode cX3_widthOf 12 = .ok (.ifCond .le 16, 3) := by decide +kernel
theorem dX3_widthOf_15 : decode cX3_widthOf 15 = .ok (.iload_n 2, 1) := by decide +kernel
theorem dX3_widthOf_16 : decode cX3_widthOf 16 = .ok (.iload_n 2, 1) := by decide +kernel
theorem dX3_widthOf_17 : decode cX3_widthOf 17 = .ok (.imul, 1) := by decide +kernel
theorem dX3_widthOf_18 : decode cX3_widthOf 18 = .ok (.iload_n 1, 1) := by decide +kernel
theorem dX3_widthOf_19 : decode cX3_widthOf 19 = .ok (.if_icmp .le 9, 3) := by decide +kernel
theorem dX3_widthOf_22 : decode cX3_widthOf 22 = .ok (.iinc 2 (-1), 3) := by decide +kernel
theorem dX3_widthOf_25 : decode cX3_widthOf 25 = .ok (.goto (-14), 3) := by decide +kernel
theorem dX3_widthOf_28 : decode cX3_widthOf 28 = .ok (.iload_n 2, 1) := by decide +kernel
theorem dX3_widthOf_29 : decode cX3_widthOf 29 = .ok (.ireturn, 1) := by decide +kernel
set_option maxRecDepth 20000 in
theorem ggX3_look_X3_angleAt : GoodIn wsX3_look wsX3_angleAt := goodIn_r _ [18, 19, 20, 21, 2, 22, 23, 24, 25, 26, 27, 28, 29, 32, 33, 34, 35, 36, 37, 38, 39, 40, 41, 42, 43, 44, 45, 46] (by decide +kernel) (by decide +kernel)
set_option maxRecDepth 20000 in
theorem gX3_look_X3_angleAt : GoodIn wsX3_look (wsV RX3 64 RX3 yX3_angleAt wsX3_angleAt) := goodIn_app (goodIn_of _ (by decide +kernel)) ggX3_look_X3_angleAt
set_option maxRecDepth 20000 in
theorem ggX3_look_X6_sineOf : GoodIn wsX3_look wsX6_sineOf := goodIn_r _ [25, 26, 27, 28, 29] (by decide +kernel) (by decide +kernel)
set_option maxRecDepth 20000 in
theorem gX3_look_X6_sineOf_n49 : GoodIn wsX3_look (wsX6_sineOf) := ggX3_look_X6_sineOf
set_option maxRecDepth 20000 in
theorem ggX3_look_X6_lightAngle : GoodIn wsX3_look wsX6_lightAngle := goodIn_r _ [31] (by decide +kernel) (by decide +kernel)
set_option maxRecDepth 20000 in
theorem gX3_look_X6_lightAngle_n77 : GoodIn wsX3_look (wsX6_lightAngle) := ggX3_look_X6_lightAngle
theorem dX3_look_0 : decode cX3_look 0 = .ok (.aload_n 0, 1) := by decide +kernel
theorem dX3_look_1 : decode cX3_look 1 = .ok (.iload_n 1, 1) := by decide +kernel
theorem dX3_look_2 : decode cX3_look 2 = .ok (.invokevirtual 64, 3) := by decide +kernel
theorem dX3_look_5 : decode cX3_look 5 = .ok (.istore_n 2, 1) := by decide +kernel
theorem dX3_look_6 : decode cX3_look 6 = .ok (.aload_n 0, 1) := by decide +kernel
theorem dX3_look_7 : decode cX3_look 7 = .ok (.getfield 35, 3) := by decide +kernel
theorem dX3_look_10 : decode cX3_look 10 = .ok (.iload_n 2, 1) := by decide +kernel
theorem dX3_look_11 : decode cX3_look 11 = .ok (.sipush 9000, 3) := by decide +kernel
theorem dX3_look_14 : decode cX3_look 14 = .ok (.iadd, 1) := by decide +kernel
theorem dX3_look_15 : decode cX3_look 15 = .ok (.invokestatic 49, 3) := by decide +kernel
theorem dX3_look_18 : decode cX3_look 18 = .ok (.bipush 100, 2) := by decide +kernel
theorem dX3_look_20 : decode cX3_look 20 = .ok (.aload_n 0, 1) := by decide +kernel
theorem dX3_look_21 : decode cX3_look 21 = .ok (.getfield 39, 3) := by decide +kernel
theorem dX3_look_24 : decode cX3_look 24 = .ok (.imul, 1) := by decide +kernel
theorem dX3_look_25 : decode cX3_look 25 = .ok (.isub, 1) := by decide +kernel
theorem dX3_look_26 : decode cX3_look 26 = .ok (.i2l, 1) := by decide +kernel
theorem dX3_look_27 : decode cX3_look 27 = .ok (.lmul, 1) := by decide +kernel
theorem dX3_look_28 : decode cX3_look 28 = .ok (.ldc2_w 67, 3) := by decide +kernel
theorem dX3_look_31 : decode cX3_look 31 = .ok (.ldiv, 1) := by decide +kernel
theorem dX3_look_32 : decode cX3_look 32 = .ok (.lstore_n 3, 1) := by decide +kernel
theorem dX3_look_33 : decode cX3_look 33 = .ok (.aload_n 0, 1) := by decide +kernel
theorem dX3_look_34 : decode cX3_look 34 = .ok (.getfield 35, 3) := by decide +kernel
theorem dX3_look_37 : decode cX3_look 37 = .ok (.aload_n 0, 1) := by decide +kernel
theorem dX3_look_38 : decode cX3_look 38 = .ok (.getfield 46, 3) := by decide +kernel
theorem dX3_look_41 : decode cX3_look 41 = .ok (.i2l, 1) := by decide +kernel
theorem dX3_look_42 : decode cX3_look 42 = .ok (.lmul, 1) := by decide +kernel
theorem dX3_look_43 : decode cX3_look 43 = .ok (.iload_n 2, 1) := by decide +kernel
theorem dX3_look_44 : decode cX3_look 44 = .ok (.invokestatic 49, 3) := by decide +kernel
theorem dX3_look_47 : decode cX3_look 47 = .ok (.i2l, 1) := by decide +kernel
theorem dX3_look_48 : decode cX3_look 48 = .ok (.lmul, 1) := by decide +kernel
theorem dX3_look_49 : decode cX3_look 49 = .ok (.ldc2_w 69, 3) := by decide +kernel
theorem dX3_look_52 : decode cX3_look 52 = .ok (.ldiv, 1) := by decide +kernel
theorem dX3_look_53 : decode cX3_look 53 = .ok (.lstore 5, 2) := by decide +kernel
theorem dX3_look_55 : decode cX3_look 55 = .ok (.aload_n 0, 1) := by decide +kernel
theorem dX3_look_56 : decode cX3_look 56 = .ok (.lload_n 3, 1) := by decide +kernel
theorem dX3_look_57 : decode cX3_look 57 = .ok (.aload_n 0, 1) := by decide +kernel
theorem dX3_look_58 : decode cX3_look 58 = .ok (.getfield 55, 3) := by decide +kernel
theorem dX3_look_61 : decode cX3_look 61 = .ok (.lmul, 1) := by decide +kernel
theorem dX3_look_62 : decode cX3_look 62 = .ok (.lload 5, 2) := by decide +kernel
theorem dX3_look_64 : decode cX3_look 64 = .ok (.aload_n 0, 1) := by decide +kernel
theorem dX3_look_65 : decode cX3_look 65 = .ok (.getfield 52, 3) := by decide +kernel
theorem dX3_look_68 : decode cX3_look 68 = .ok (.lmul, 1) := by decide +kernel
theorem dX3_look_69 : decode cX3_look 69 = .ok (.lsub, 1) := by decide +kernel
theorem dX3_look_70 : decode cX3_look 70 = .ok (.ldc2_w 69, 3) := by decide +kernel
theorem dX3_look_73 : decode cX3_look 73 = .ok (.ldiv, 1) := by decide +kernel
theorem dX3_look_74 : decode cX3_look 74 = .ok (.l2i, 1) := by decide +kernel
theorem dX3_look_75 : decode cX3_look 75 = .ok (.putfield 71, 3) := by decide +kernel
theorem dX3_look_78 : decode cX3_look 78 = .ok (.aload_n 0, 1) := by decide +kernel
theorem dX3_look_79 : decode cX3_look 79 = .ok (.lload_n 3, 1) := by decide +kernel
theorem dX3_look_80 : decode cX3_look 80 = .ok (.aload_n 0, 1) := by decide +kernel
theorem dX3_look_81 : decode cX3_look 81 = .ok (.getfield 52, 3) := by decide +kernel
theorem dX3_look_84 : decode cX3_look 84 = .ok (.lmul, 1) := by decide +kernel
theorem dX3_look_85 : decode cX3_look 85 = .ok (.lload 5, 2) := by decide +kernel
theorem dX3_look_87 : decode cX3_look 87 = .ok (.aload_n 0, 1) := by decide +kernel
theorem dX3_look_88 : decode cX3_look 88 = .ok (.getfield 55, 3) := by decide +kernel
theorem dX3_look_91 : decode cX3_look 91 = .ok (.lmul, 1) := by decide +kernel
theorem dX3_look_92 : decode cX3_look 92 = .ok (.ladd, 1) := by decide +kernel
theorem dX3_look_93 : decode cX3_look 93 = .ok (.ldc2_w 69, 3) := by decide +kernel
theorem dX3_look_96 : decode cX3_look 96 = .ok (.ldiv, 1) := by decide +kernel
theorem dX3_look_97 : decode cX3_look 97 = .ok (.l2i, 1) := by decide +kernel
theorem dX3_look_98 : decode cX3_look 98 = .ok (.putfield 74, 3) := by decide +kernel
theorem dX3_look_101 : decode cX3_look 101 = .ok (.aload_n 0, 1) := by decide +kernel
theorem dX3_look_102 : decode cX3_look 102 = .ok (.getfield 30, 3) := by decide +kernel
theorem dX3_look_105 : decode cX3_look 105 = .ok (.aload_n 0, 1) := by decide +kernel
theorem dX3_look_106 : decode cX3_look 106 = .ok (.getfield 34, 3) := by decide +kernel
theorem dX3_look_109 : decode cX3_look 109 = .ok (.iload_n 1, 1) := by decide +kernel
theorem dX3_look_110 : decode cX3_look 110 = .ok (.invokestatic 77, 3) := by decide +kernel
theorem dX3_look_113 : decode cX3_look 113 = .ok (.istore 7, 2) := by decide +kernel
theorem dX3_look_115 : decode cX3_look 115 = .ok (.iload 7, 2) := by decide +kernel
theorem dX3_look_117 : decode cX3_look 117 = .ok (.invokestatic 49, 3) := by decide +kernel
theorem dX3_look_120 : decode cX3_look 120 = .ok (.i2l, 1) := by decide +kernel
theorem dX3_look_121 : decode cX3_look 121 = .ok (.lstore 8, 2) := by decide +kernel
theorem dX3_look_123 : decode cX3_look 123 = .ok (.iload 7, 2) := by decide +kernel
theorem dX3_look_125 : decode cX3_look 125 = .ok (.sipush 9000, 3) := by decide +kernel
theorem dX3_look_128 : decode cX3_look 128 = .ok (.iadd, 1) := by decide +kernel
theorem dX3_look_129 : decode cX3_look 129 = .ok (.invokestatic 49, 3) := by decide +kernel
theorem dX3_look_132 : decode cX3_look 132 = .ok (.i2l, 1) := by decide +kernel
theorem dX3_look_133 : decode cX3_look 133 = .ok (.lstore 10, 2) := by decide +kernel
theorem dX3_look_135 : decode cX3_look 135 = .ok (.aload_n 0, 1) := by decide +kernel
theorem dX3_look_136 : decode cX3_look 136 = .ok (.aload_n 0, 1) := by decide +kernel
theorem dX3_look_137 : decode cX3_look 137 = .ok (.getfield 71, 3) := by decide +kernel
theorem dX3_look_140 : decode cX3_look 140 = .ok (.i2l, 1) := by decide +kernel
theorem dX3_look_141 : decode cX3_look 141 = .ok (.lload 10, 2) := by decide +kernel
theorem dX3_look_143 : decode cX3_look 143 = .ok (.lmul, 1) := by decide +kernel
theorem dX3_look_144 : decode cX3_look 144 = .ok (.aload_n 0, 1) := by decide +kernel
theorem dX3_look_145 : decode cX3_look 145 = .ok (.getfield 74, 3) := by decide +kernel
theorem dX3_look_148 : decode cX3_look 148 = .ok (.i2l, 1) := by decide +kernel
theorem dX3_look_149 : decode cX3_look 149 = .ok (.lload 8, 2) := by decide +kernel
theorem dX3_look_151 : decode cX3_look 151 = .ok (.lmul, 1) := by decide +kernel
theorem dX3_look_152 : decode cX3_look 152 = .ok (.ladd, 1) := by decide +kernel
theorem dX3_look_153 : decode cX3_look 153 = .ok (.ldc2_w 69, 3) := by decide +kernel
theorem dX3_look_156 : decode cX3_look 156 = .ok (.ldiv, 1) := by decide +kernel
theorem dX3_look_157 : decode cX3_look 157 = .ok (.l2i, 1) := by decide +kernel
theorem dX3_look_158 : decode cX3_look 158 = .ok (.putfield 81, 3) := by decide +kernel
theorem dX3_look_161 : decode cX3_look 161 = .ok (.aload_n 0, 1) := by decide +kernel
theorem dX3_look_162 : decode cX3_look 162 = .ok (.aload_n 0, 1) := by decide +kernel
theorem dX3_look_163 : decode cX3_look 163 = .ok (.getfield 74, 3) := by decide +kernel
theorem dX3_look_166 : decode cX3_look 166 = .ok (.i2l, 1) := by decide +kernel
theorem dX3_look_167 : decode cX3_look 167 = .ok (.lload 10, 2) := by decide +kernel
theorem dX3_look_169 : decode cX3_look 169 = .ok (.lmul, 1) := by decide +kernel
theorem dX3_look_170 : decode cX3_look 170 = .ok (.aload_n 0, 1) := by decide +kernel
theorem dX3_look_171 : decode cX3_look 171 = .ok (.getfield 71, 3) := by decide +kernel
theorem dX3_look_174 : decode cX3_look 174 = .ok (.i2l, 1) := by decide +kernel
theorem dX3_look_175 : decode cX3_look 175 = .ok (.lload 8, 2) := by decide +kernel
theorem dX3_look_177 : decode cX3_look 177 = .ok (.lmul, 1) := by decide +kernel
theorem dX3_look_178 : decode cX3_look 178 = .ok (.lsub, 1) := by decide +kernel
theorem dX3_look_179 : decode cX3_look 179 = .ok (.ldc2_w 69, 3) := by decide +kernel
theorem dX3_look_182 : decode cX3_look 182 = .ok (.ldiv, 1) := by decide +kernel
theorem dX3_look_183 : decode cX3_look 183 = .ok (.l2i, 1) := by decide +kernel
theorem dX3_look_184 : decode cX3_look 184 = .ok (.putfield 84, 3) := by decide +kernel
theorem dX3_look_187 : decode cX3_look 187 = .ok (.return_, 1) := by decide +kernel
set_option maxRecDepth 20000 in
theorem ggX3_angleAt_X6_sineOf : GoodIn wsX3_angleAt wsX6_sineOf := goodIn_r _ [8, 9, 10, 11, 12] (by decide +kernel) (by decide +kernel)
set_option maxRecDepth 20000 in
theorem gX3_angleAt_X6_sineOf_n49 : GoodIn wsX3_angleAt (wsX6_sineOf) := ggX3_angleAt_X6_sineOf
theorem dX3_angleAt_0 : decode cX3_angleAt 0 = .ok (.aload_n 0, 1) := by decide +kernel
theorem dX3_angleAt_1 : decode cX3_angleAt 1 = .ok (.getfield 58, 3) := by decide +kernel
theorem dX3_angleAt_4 : decode cX3_angleAt 4 = .ok (.ifCond .le 18, 3) := by decide +kernel
theorem dX3_angleAt_7 : decode cX3_angleAt 7 = .ok (.ldc2_w 87, 3) := by decide +kernel
theorem dX3_angleAt_10 : decode cX3_angleAt 10 = .ok (.iload_n 1, 1) := by decide +kernel
theorem dX3_angleAt_11 : decode cX3_angleAt 11 = .ok (.i2l, 1) := by decide +kernel
theorem dX3_angleAt_12 : decode cX3_angleAt 12 = .ok (.lmul, 1) := by decide +kernel
theorem dX3_angleAt_13 : decode cX3_angleAt 13 = .ok (.aload_n 0, 1) := by decide +kernel
theorem dX3_angleAt_14 : decode cX3_angleAt 14 = .ok (.getfield 58, 3) := by decide +kernel
theorem dX3_angleAt_17 : decode cX3_angleAt 17 = .ok (.i2l, 1) := by decide +kernel
theorem dX3_angleAt_18 : decode cX3_angleAt 18 = .ok (.ldiv, 1) := by decide +kernel
theorem dX3_angleAt_19 : decode cX3_angleAt 19 = .ok (.goto 4, 3) := by decide +kernel
theorem dX3_angleAt_22 : decode cX3_angleAt 22 = .ok (.lconst 0, 1) := by decide +kernel
theorem dX3_angleAt_23 : decode cX3_angleAt 23 = .ok (.lstore_n 2, 1) := by decide +kernel
theorem dX3_angleAt_24 : decode cX3_angleAt 24 = .ok (.aload_n 0, 1) := by decide +kernel
theorem dX3_angleAt_25 : decode cX3_angleAt 25 = .ok (.getfield 61, 3) := by decide +kernel
theorem dX3_angleAt_28 : decode cX3_angleAt 28 = .ok (.i2l, 1) := by decide +kernel
theorem dX3_angleAt_29 : decode cX3_angleAt 29 = .ok (.lload_n 2, 1) := by decide +kernel
theorem dX3_angleAt_30 : decode cX3_angleAt 30 = .ok (.ladd, 1) := by decide +kernel
theorem dX3_angleAt_31 : decode cX3_angleAt 31 = .ok (.ldc2_w 87, 3) := by decide +kernel
theorem dX3_angleAt_34 : decode cX3_angleAt 34 = .ok (.lrem, 1) := by decide +kernel
theorem dX3_angleAt_35 : decode cX3_angleAt 35 = .ok (.l2i, 1) := by decide +kernel
theorem dX3_angleAt_36 : decode cX3_angleAt 36 = .ok (.istore 4, 2) := by decide +kernel
theorem dX3_angleAt_38 : decode cX3_angleAt 38 = .ok (.iload 4, 2) := by decide +kernel
theorem dX3_angleAt_40 : decode cX3_angleAt 40 = .ok (.istore 5, 2) := by decide +kernel
theorem dX3_angleAt_42 : decode cX3_angleAt 42 = .ok (.iconst 0, 1) := by decide +kernel
theorem dX3_angleAt_43 : decode cX3_angleAt 43 = .ok (.istore 6, 2) := by decide +kernel
theorem dX3_angleAt_45 : decode cX3_angleAt 45 = .ok (.iload 6, 2) := by decide +kernel
theorem dX3_angleAt_47 : decode cX3_angleAt 47 = .ok (.bipush 6, 2) := by decide +kernel
theorem dX3_angleAt_49 : decode cX3_angleAt 49 = .ok (.if_icmp .ge 45, 3) := by decide +kernel
theorem dX3_angleAt_52 : decode cX3_angleAt 52 = .ok (.iload 4, 2) := by decide +kernel
theorem dX3_angleAt_54 : decode cX3_angleAt 54 = .ok (.aload_n 0, 1) := by decide +kernel
theorem dX3_angleAt_55 : decode cX3_angleAt 55 = .ok (.getfield 39, 3) := by decide +kernel
theorem dX3_angleAt_58 : decode cX3_angleAt 58 = .ok (.iload 5, 2) := by decide +kernel
theorem dX3_angleAt_60 : decode cX3_angleAt 60 = .ok (.invokestatic 49, 3) := by decide +kernel
theorem dX3_angleAt_63 : decode cX3_angleAt 63 = .ok (.imul, 1) := by decide +kernel
theorem dX3_angleAt_64 : decode cX3_angleAt 64 = .ok (.sipush 573, 3) := by decide +kernel
theorem dX3_angleAt_67 : decode cX3_angleAt 67 = .ok (.imul, 1) := by decide +kernel
theorem dX3_angleAt_68 : decode cX3_angleAt 68 = .ok (.ldc 89, 2) := by decide +kernel
theorem dX3_angleAt_70 : decode cX3_angleAt 70 = .ok (.idiv, 1) := by decide +kernel
theorem dX3_angleAt_71 : decode cX3_angleAt 71 = .ok (.iadd, 1) := by decide +kernel
theorem dX3_angleAt_72 : decode cX3_angleAt 72 = .ok (.istore 7, 2) := by decide +kernel
theorem dX3_angleAt_74 : decode cX3_angleAt 74 = .ok (.iload 7, 2) := by decide +kernel
theorem dX3_angleAt_76 : decode cX3_angleAt 76 = .ok (.iload 5, 2) := by decide +kernel
theorem dX3_angleAt_78 : decode cX3_angleAt 78 = .ok (.if_icmp .ne 6, 3) := by decide +kernel
theorem dX3_angleAt_81 : decode cX3_angleAt 81 = .ok (.iload 5, 2) := by decide +kernel
theorem dX3_angleAt_83 : decode cX3_angleAt 83 = .ok (.ireturn, 1) := by decide +kernel
theorem dX3_angleAt_84 : decode cX3_angleAt 84 = .ok (.iload 7, 2) := by decide +kernel
theorem dX3_angleAt_86 : decode cX3_angleAt 86 = .ok (.istore 5, 2) := by decide +kernel
theorem dX3_angleAt_88 : decode cX3_angleAt 88 = .ok (.iinc 6 1, 3) := by decide +kernel
theorem dX3_angleAt_91 : decode cX3_angleAt 91 = .ok (.goto (-46), 3) := by decide +kernel
theorem dX3_angleAt_94 : decode cX3_angleAt 94 = .ok (.iload 5, 2) := by decide +kernel
theorem dX3_angleAt_96 : decode cX3_angleAt 96 = .ok (.ireturn, 1) := by decide +kernel
theorem dX3_shadowState_0 : decode cX3_shadowState 0 = .ok (.aload_n 0, 1) := by decide +kernel
theorem dX3_shadowState_1 : decode cX3_shadowState 1 = .ok (.getfield 81, 3) := by decide +kernel
theorem dX3_shadowState_4 : decode cX3_shadowState 4 = .ok (.ifCond .lt 5, 3) := by decide +kernel
theorem dX3_shadowState_7 : decode cX3_shadowState 7 = .ok (.iconst 0, 1) := by decide +kernel
theorem dX3_shadowState_8 : decode cX3_shadowState 8 = .ok (.ireturn, 1) := by decide +kernel
theorem dX3_shadowState_9 : decode cX3_shadowState 9 = .ok (.aload_n 0, 1) := by decide +kernel
theorem dX3_shadowState_10 : decode cX3_shadowState 10 = .ok (.getfield 84, 3) := by decide +kernel
theorem dX3_shadowState_13 : decode cX3_shadowState 13 = .ok (.invokestatic 90, 3) := by decide +kernel
theorem dX3_shadowState_16 : decode cX3_shadowState 16 = .ok (.istore_n 1, 1) := by decide +kernel
theorem dX3_shadowState_17 : decode cX3_shadowState 17 = .ok (.iload_n 1, 1) := by decide +kernel
theorem dX3_shadowState_18 : decode cX3_shadowState 18 = .ok (.aload_n 0, 1) := by decide +kernel
theorem dX3_shadowState_19 : decode cX3_shadowState 19 = .ok (.getfield 24, 3) := by decide +kernel
theorem dX3_shadowState_22 : decode cX3_shadowState 22 = .ok (.iadd, 1) := by decide +kernel
theorem dX3_shadowState_23 : decode cX3_shadowState 23 = .ok (.aload_n 0, 1) := by decide +kernel
theorem dX3_shadowState_24 : decode cX3_shadowState 24 = .ok (.getfield 15, 3) := by decide +kernel
theorem dX3_shadowState_27 : decode cX3_shadowState 27 = .ok (.if_icmp .gt 5, 3) := by decide +kernel
theorem dX3_shadowState_30 : decode cX3_shadowState 30 = .ok (.iconst 2, 1) := by decide +kernel
theorem dX3_shadowState_31 : decode cX3_shadowState 31 = .ok (.ireturn, 1) := by decide +kernel
theorem dX3_shadowState_32 : decode cX3_shadowState 32 = .ok (.iload_n 1, 1) := by decide +kernel
theorem dX3_shadowState_33 : decode cX3_shadowState 33 = .ok (.aload_n 0, 1) := by decide +kernel
theorem dX3_shadowState_34 : decode cX3_shadowState 34 = .ok (.getfield 15, 3) := by decide +kernel
theorem dX3_shadowState_37 : decode cX3_shadowState 37 = .ok (.aload_n 0, 1) := by decide +kernel
theorem dX3_shadowState_38 : decode cX3_shadowState 38 = .ok (.getfield 24, 3) := by decide +kernel
theorem dX3_shadowState_41 : decode cX3_shadowState 41 = .ok (.iadd, 1) := by decide +kernel
theorem dX3_shadowState_42 : decode cX3_shadowState 42 = .ok (.if_icmp .ge 7, 3) := by decide +kernel
theorem dX3_shadowState_45 : decode cX3_shadowState 45 = .ok (.iconst 1, 1) := by decide +kernel
theorem dX3_shadowState_46 : decode cX3_shadowState 46 = .ok (.goto 4, 3) := by decide +kernel
theorem dX3_shadowState_49 : decode cX3_shadowState 49 = .ok (.iconst 0, 1) := by decide +kernel
theorem dX3_shadowState_50 : decode cX3_shadowState 50 = .ok (.ireturn, 1) := by decide +kernel
theorem dX3_castsShadow_0 : decode cX3_castsShadow 0 = .ok (.aload_n 0, 1) := by decide +kernel
theorem dX3_castsShadow_1 : decode cX3_castsShadow 1 = .ok (.getfield 81, 3) := by decide +kernel
theorem dX3_castsShadow_4 : decode cX3_castsShadow 4 = .ok (.ifCond .le 26, 3) := by decide +kernel
theorem dX3_castsShadow_7 : decode cX3_castsShadow 7 = .ok (.aload_n 0, 1) := by decide +kernel
theorem dX3_castsShadow_8 : decode cX3_castsShadow 8 = .ok (.getfield 84, 3) := by decide +kernel
theorem dX3_castsShadow_11 : decode cX3_castsShadow 11 = .ok (.invokestatic 90, 3) := by decide +kernel
theorem dX3_castsShadow_14 : decode cX3_castsShadow 14 = .ok (.aload_n 0, 1) := by decide +kernel
theorem dX3_castsShadow_15 : decode cX3_castsShadow 15 = .ok (.getfield 15, 3) := by decide +kernel
theorem dX3_castsShadow_18 : decode cX3_castsShadow 18 = .ok (.aload_n 0, 1) := by decide +kernel
theorem dX3_castsShadow_19 : decode cX3_castsShadow 19 = .ok (.getfield 24, 3) := by decide +kernel
theorem dX3_castsShadow_22 : decode cX3_castsShadow 22 = .ok (.iadd, 1) := by decide +kernel
theorem dX3_castsShadow_23 : decode cX3_castsShadow 23 = .ok (.if_icmp .ge 7, 3) := by decide +kernel
theorem dX3_castsShadow_26 : decode cX3_castsShadow 26 = .ok (.iconst 1, 1) := by decide +kernel
theorem dX3_castsShadow_27 : decode cX3_castsShadow 27 = .ok (.goto 4, 3) := by decide +kernel
theorem dX3_castsShadow_30 : decode cX3_castsShadow 30 = .ok (.iconst 0, 1) := by decide +kernel
theorem dX3_castsShadow_31 : decode cX3_castsShadow 31 = .ok (.ireturn, 1) := by decide +kernel
theorem dX3_isShadedBy_0 : decode cX3_isShadedBy 0 = .ok (.aload_n 1, 1) := by decide +kernel
theorem dX3_isShadedBy_1 : decode cX3_isShadedBy 1 = .ok (.getfield 81, 3) := by decide +kernel
theorem dX3_isShadedBy_4 : decode cX3_isShadedBy 4 = .ok (.aload_n 0, 1) := by decide +kernel
theorem dX3_isShadedBy_5 : decode cX3_isShadedBy 5 = .ok (.getfield 81, 3) := by decide +kernel
theorem dX3_isShadedBy_8 : decode cX3_isShadedBy 8 = .ok (.if_icmp .le 31, 3) := by decide +kernel
theorem dX3_isShadedBy_11 : decode cX3_isShadedBy 11 = .ok (.aload_n 0, 1) := by decide +kernel
theorem dX3_isShadedBy_12 : decode cX3_isShadedBy 12 = .ok (.getfield 84, 3) := by decide +kernel
theorem dX3_isShadedBy_15 : decode cX3_isShadedBy 15 = .ok (.aload_n 1, 1) := by decide +kernel
theorem dX3_isShadedBy_16 : decode cX3_isShadedBy 16 = .ok (.getfield 84, 3) := by decide +kernel
theorem dX3_isShadedBy_19 : decode cX3_isShadedBy 19 = .ok (.isub, 1) := by decide +kernel
theorem dX3_isShadedBy_20 : decode cX3_isShadedBy 20 = .ok (.invokestatic 90, 3) := by decide +kernel
theorem dX3_isShadedBy_23 : decode cX3_isShadedBy 23 = .ok (.aload_n 0, 1) := by decide +kernel
theorem dX3_isShadedBy_24 : decode cX3_isShadedBy 24 = .ok (.getfield 24, 3) := by decide +kernel
theorem dX3_isShadedBy_27 : decode cX3_isShadedBy 27 = .ok (.aload_n 1, 1) := by decide +kernel
theorem dX3_isShadedBy_28 : decode cX3_isShadedBy 28 = .ok (.getfield 24, 3) := by decide +kernel
theorem dX3_isShadedBy_31 : decode cX3_isShadedBy 31 = .ok (.iadd, 1) := by decide +kernel
theorem dX3_isShadedBy_32 : decode cX3_isShadedBy 32 = .ok (.if_icmp .ge 7, 3) := by decide +kernel
theorem dX3_isShadedBy_35 : decode cX3_isShadedBy 35 = .ok (.iconst 1, 1) := by decide +kernel
theorem dX3_isShadedBy_36 : decode cX3_isShadedBy 36 = .ok (.goto 4, 3) := by decide +kernel
theorem dX3_isShadedBy_39 : decode cX3_isShadedBy 39 = .ok (.iconst 0, 1) := by decide +kernel
theorem dX3_isShadedBy_40 : decode cX3_isShadedBy 40 = .ok (.ireturn, 1) := by decide +kernel
theorem dX3_meets_0 : decode cX3_meets 0 = .ok (.aload_n 0, 1) := by decide +kernel
theorem dX3_meets_1 : decode cX3_meets 1 = .ok (.getfield 71, 3) := by decide +kernel
theorem dX3_meets_4 : decode cX3_meets 4 = .ok (.i2l, 1) := by decide +kernel
theorem dX3_meets_5 : decode cX3_meets 5 = .ok (.aload_n 1, 1) := by decide +kernel
theorem dX3_meets_6 : decode cX3_meets 6 = .ok (.getfield 71, 3) := by decide +kernel
theorem dX3_meets_9 : decode cX3_meets 9 = .ok (.i2l, 1) := by decide +kernel
theorem dX3_meets_10 : decode cX3_meets 10 = .ok (.lmul, 1) := by decide +kernel
theorem dX3_meets_11 : decode cX3_meets 11 = .ok (.aload_n 0, 1) := by decide +kernel
theorem dX3_meets_12 : decode cX3_meets 12 = .ok (.getfield 74, 3) := by decide +kernel
theorem dX3_meets_15 : decode cX3_meets 15 = .ok (.i2l, 1) := by decide +kernel
theorem dX3_meets_16 : decode cX3_meets 16 = .ok (.aload_n 1, 1) := by decide +kernel
theorem dX3_meets_17 : decode cX3_meets 17 = .ok (.getfield 74, 3) := by decide +kernel
theorem dX3_meets_20 : decode cX3_meets 20 = .ok (.i2l, 1) := by decide +kernel
theorem dX3_meets_21 : decode cX3_meets 21 = .ok (.lmul, 1) := by decide +kernel
theorem dX3_meets_22 : decode cX3_meets 22 = .ok (.ladd, 1) := by decide +kernel
theorem dX3_meets_23 : decode cX3_meets 23 = .ok (.lstore_n 2, 1) := by decide +kernel
theorem dX3_meets_24 : decode cX3_meets 24 = .ok (.aload_n 0, 1) := by decide +kernel
theorem dX3_meets_25 : decode cX3_meets 25 = .ok (.getfield 71, 3) := by decide +kernel
theorem dX3_meets_28 : decode cX3_meets 28 = .ok (.i2l, 1) := by decide +kernel
theorem dX3_meets_29 : decode cX3_meets 29 = .ok (.aload_n 1, 1) := by decide +kernel
theorem dX3_meets_30 : decode cX3_meets 30 = .ok (.getfield 74, 3) := by decide +kernel
theorem dX3_meets_33 : decode cX3_meets 33 = .ok (.i2l, 1) := by decide +kernel
theorem dX3_meets_34 : decode cX3_meets 34 = .ok (.lmul, 1) := by decide +kernel
theorem dX3_meets_35 : decode cX3_meets 35 = .ok (.aload_n 0, 1) := by decide +kernel
theorem dX3_meets_36 : decode cX3_meets 36 = .ok (.getfield 74, 3) := by decide +kernel
theorem dX3_meets_39 : decode cX3_meets 39 = .ok (.i2l, 1) := by decide +kernel
theorem dX3_meets_40 : decode cX3_meets 40 = .ok (.aload_n 1, 1) := by decide +kernel
theorem dX3_meets_41 : decode cX3_meets 41 = .ok (.getfield 71, 3) := by decide +kernel
theorem dX3_meets_44 : decode cX3_meets 44 = .ok (.i2l, 1) := by decide +kernel
theorem dX3_meets_45 : decode cX3_meets 45 = .ok (.lmul, 1) := by decide +kernel
theorem dX3_meets_46 : decode cX3_meets 46 = .ok (.lsub, 1) := by decide +kernel
theorem dX3_meets_47 : decode cX3_meets 47 = .ok (.invokestatic 95, 3) := by decide +kernel
theorem dX3_meets_50 : decode cX3_meets 50 = .ok (.lstore 4, 2) := by decide +kernel
theorem dX3_meets_52 : decode cX3_meets 52 = .ok (.lload_n 2, 1) := by decide +kernel
theorem dX3_meets_53 : decode cX3_meets 53 = .ok (.lconst 0, 1) := by decide +kernel
theorem dX3_meets_54 : decode cX3_meets 54 = .ok (.lcmp, 1) := by decide +kernel
theorem dX3_meets_55 : decode cX3_meets 55 = .ok (.ifCond .le 18, 3) := by decide +kernel
theorem dX3_meets_58 : decode cX3_meets 58 = .ok (.lload_n 2, 1) := by decide +kernel
theorem dX3_meets_59 : decode cX3_meets 59 = .ok (.ldc2_w 98, 3) := by decide +kernel
theorem dX3_meets_62 : decode cX3_meets 62 = .ok (.lload 4, 2) := by decide +kernel
theorem dX3_meets_64 : decode cX3_meets 64 = .ok (.lmul, 1) := by decide +kernel
theorem dX3_meets_65 : decode cX3_meets 65 = .ok (.lcmp, 1) := by decide +kernel
theorem dX3_meets_66 : decode cX3_meets 66 = .ok (.ifCond .lt 7, 3) := by decide +kernel
theorem dX3_meets_69 : decode cX3_meets 69 = .ok (.iconst 1, 1) := by decide +kernel
theorem dX3_meets_70 : decode cX3_meets 70 = .ok (.goto 4, 3) := by decide +kernel
theorem dX3_meets_73 : decode cX3_meets 73 = .ok (.iconst 0, 1) := by decide +kernel
theorem dX3_meets_74 : decode cX3_meets 74 = .ok (.ireturn, 1) := by decide +kernel
set_option maxRecDepth 20000 in
theorem ggX3_conditionsAt_X3_look : GoodIn wsX3_conditionsAt wsX3_look := goodIn_r _ [5, 6, 7, 8, 9, 10, 11, 12, 13, 14, 15, 16, 17, 18, 19, 20, 21, 4, 22, 23, 24, 25, 26, 27, 28, 29, 30, 31, 32, 33, 34, 35, 50, 51, 52, 53, 54, 55, 56, 57, 58, 59, 60, 61, 62, 63, 64] (by decide +kernel) (by decide +kernel)
set_option maxRecDepth 20000 in
theorem gX3_conditionsAt_X3_look : GoodIn wsX3_conditionsAt (wsV RX3 100 RX3 yX3_look wsX3_look) := goodIn_app (goodIn_of _ (by decide +kernel)) ggX3_conditionsAt_X3_look
set_option maxRecDepth 20000 in
theorem ggX3_conditionsAt_X3_shadowState : GoodIn wsX3_conditionsAt wsX3_shadowState := goodIn_r _ [39, 17, 18, 40, 41, 42, 43, 44, 45, 50, 51, 52, 53, 54, 55, 56, 57, 58, 59, 60, 61, 62, 63, 64] (by decide +kernel) (by decide +kernel)
set_option maxRecDepth 20000 in
theorem gX3_conditionsAt_X3_shadowState : GoodIn wsX3_conditionsAt (wsV RX3 104 RX3 yX3_shadowState wsX3_shadowState) := goodIn_app (goodIn_of _ (by decide +kernel)) ggX3_conditionsAt_X3_shadowState
set_option maxRecDepth 20000 in
theorem ggX3_conditionsAt_X3_castsShadow : GoodIn wsX3_conditionsAt wsX3_castsShadow := goodIn_r _ [49, 17, 18, 40, 41, 42, 43, 45, 44, 50, 51, 52, 53, 54, 55, 56, 57, 58, 59, 60, 61, 62, 63, 64] (by decide +kernel) (by decide +kernel)
set_option maxRecDepth 20000 in
theorem gX3_conditionsAt_X3_castsShadow : GoodIn wsX3_conditionsAt (wsV RX3 108 RX3 yX3_castsShadow wsX3_castsShadow) := goodIn_app (goodIn_of _ (by decide +kernel)) ggX3_conditionsAt_X3_castsShadow
theorem dX3_conditionsAt_0 : decode cX3_conditionsAt 0 = .ok (.aload_n 0, 1) := by decide +kernel
theorem dX3_conditionsAt_1 : decode cX3_conditionsAt 1 = .ok (.iload_n 1, 1) := by decide +kernel
theorem dX3_conditionsAt_2 : decode cX3_conditionsAt 2 = .ok (.invokevirtual 100, 3) := by decide +kernel
theorem dX3_conditionsAt_5 : decode cX3_conditionsAt 5 = .ok (.aload_n 0, 1) := by decide +kernel
theorem dX3_conditionsAt_6 : decode cX3_conditionsAt 6 = .ok (.invokevirtual 104, 3) := by decide +kernel
theorem dX3_conditionsAt_9 : decode cX3_conditionsAt 9 = .ok (.ifCond .eq 7, 3) := by decide +kernel
theorem dX3_conditionsAt_12 : decode cX3_conditionsAt 12 = .ok (.iconst 1, 1) := by decide +kernel
theorem dX3_conditionsAt_13 : decode cX3_conditionsAt 13 = .ok (.goto 4, 3) := by decide +kernel
theorem dX3_conditionsAt_16 : decode cX3_conditionsAt 16 = .ok (.iconst 2, 1) := by decide +kernel
theorem dX3_conditionsAt_17 : decode cX3_conditionsAt 17 = .ok (.istore_n 2, 1) := by decide +kernel
theorem dX3_conditionsAt_18 : decode cX3_conditionsAt 18 = .ok (.aload_n 0, 1) := by decide +kernel
theorem dX3_conditionsAt_19 : decode cX3_conditionsAt 19 = .ok (.invokevirtual 108, 3) := by decide +kernel
theorem dX3_conditionsAt_22 : decode cX3_conditionsAt 22 = .ok (.ifCond .eq 7, 3) := by decide +kernel
theorem dX3_conditionsAt_25 : decode cX3_conditionsAt 25 = .ok (.iconst 4, 1) := by decide +kernel
theorem dX3_conditionsAt_26 : decode cX3_conditionsAt 26 = .ok (.goto 5, 3) := by decide +kernel
theorem dX3_conditionsAt_29 : decode cX3_conditionsAt 29 = .ok (.bipush 8, 2) := by decide +kernel
theorem dX3_conditionsAt_31 : decode cX3_conditionsAt 31 = .ok (.istore_n 3, 1) := by decide +kernel
theorem dX3_conditionsAt_32 : decode cX3_conditionsAt 32 = .ok (.iload_n 2, 1) := by decide +kernel
theorem dX3_conditionsAt_33 : decode cX3_conditionsAt 33 = .ok (.iload_n 3, 1) := by decide +kernel
theorem dX3_conditionsAt_34 : decode cX3_conditionsAt 34 = .ok (.ior, 1) := by decide +kernel
theorem dX3_conditionsAt_35 : decode cX3_conditionsAt 35 = .ok (.ireturn, 1) := by decide +kernel
set_option maxRecDepth 20000 in
theorem ggX4_init_X3_init : GoodIn wsX4_init wsX3_init := goodIn_r _ [9, 10, 2, 3] (by decide +kernel) (by decide +kernel)
set_option maxRecDepth 20000 in
theorem gX4_init_X3_init_n11 : GoodIn wsX4_init (wsX3_init) := ggX4_init_X3_init
theorem dX4_init_0 : decode cX4_init 0 = .ok (.aload_n 0, 1) := by decide +kernel
theorem dX4_init_1 : decode cX4_init 1 = .ok (.invokespecial 3, 3) := by decide +kernel
theorem dX4_init_4 : decode cX4_init 4 = .ok (.aload_n 0, 1) := by decide +kernel
theorem dX4_init_5 : decode cX4_init 5 = .ok (.new 9, 3) := by decide +kernel
theorem dX4_init_8 : decode cX4_init 8 = .ok (.dup, 1) := by decide +kernel
theorem dX4_init_9 : decode cX4_init 9 = .ok (.invokespecial 11, 3) := by decide +kernel
theorem dX4_init_12 : decode cX4_init 12 = .ok (.putfield 12, 3) := by decide +kernel
theorem dX4_init_15 : decode cX4_init 15 = .ok (.return_, 1) := by decide +kernel
set_option maxRecDepth 20000 in
theorem ggX4_begin_X3_aim : GoodIn wsX4_begin wsX3_aim := goodIn_r _ [13, 14, 15, 16, 17, 18, 19, 20, 21, 22, 23, 24, 25, 26, 27, 28, 29, 30, 31, 32, 33, 34, 35, 12, 36, 37, 38, 39, 40, 41, 42, 43, 88, 89, 90, 91, 92, 93, 94, 95, 96, 97, 98, 99, 100, 101, 102, 103, 104, 105, 106, 107, 108, 109, 110] (by decide +kernel) (by decide +kernel)
set_option maxRecDepth 20000 in
theorem gX4_begin_X3_aim : GoodIn wsX4_begin (wsV RX4 42 RX3 yX3_aim wsX3_aim) := goodIn_app (goodIn_of _ (by decide +kernel)) ggX4_begin_X3_aim
set_option maxRecDepth 20000 in
theorem ggX4_begin_X3_conditionsAt : GoodIn wsX4_begin wsX3_conditionsAt := goodIn_r _ [47, 48, 49, 50, 12, 51, 21, 22, 52, 23, 53, 25, 24, 54, 55, 18, 20, 56, 57, 58, 59, 60, 61, 26, 62, 27, 63, 37, 38, 39, 40, 41, 42, 43, 64, 65, 66, 67, 68, 69, 70, 71, 72, 73, 16, 15, 74, 75, 76, 77, 96, 97, 98, 99, 100, 101, 102, 103, 104, 105, 106, 107, 108, 109, 110] (by decide +kernel) (by decide +kernel)
set_option maxRecDepth 20000 in
theorem gX4_begin_X3_conditionsAt : GoodIn wsX4_begin (wsV RX4 46 RX3 yX3_conditionsAt wsX3_conditionsAt) := goodIn_app (goodIn_of _ (by decide +kernel)) ggX4_begin_X3_conditionsAt
theorem dX4_begin_0 : decode cX4_begin 0 = .ok (.aload_n 0, 1) := by decide +kernel
theorem dX4_begin_1 : decode cX4_begin 1 = .ok (.iload_n 2, 1) := by decide +kernel
theorem dX4_begin_2 : decode cX4_begin 2 = .ok (.putfield 18, 3) := by decide +kernel
theorem dX4_begin_5 : decode cX4_begin 5 = .ok (.aload_n 0, 1) := by decide +kernel
theorem dX4_begin_6 : decode cX4_begin 6 = .ok (.aload_n 1, 1) := by decide +kernel
theorem dX4_begin_7 : decode cX4_begin 7 = .ok (.getfield 22, 3) := by decide +kernel
theorem dX4_begin_10 : decode cX4_begin 10 = .ok (.putfield 27, 3) := by decide +kernel
theorem dX4_begin_13 : decode cX4_begin 13 = .ok (.aload_n 0, 1) := by decide +kernel
theorem dX4_begin_14 : decode cX4_begin 14 = .ok (.iconst 0, 1) := by decide +kernel
theorem dX4_begin_15 : decode cX4_begin 15 = .ok (.putfield 30, 3) := by decide +kernel
theorem dX4_begin_18 : decode cX4_begin 18 = .ok (.aload_n 0, 1) := by decide +kernel
theorem dX4_begin_19 : decode cX4_begin 19 = .ok (.iload_n 3, 1) := by decide +kernel
theorem dX4_begin_20 : decode cX4_begin 20 = .ok (.iload_n 2, 1) := by decide +kernel
theorem dX4_begin_21 : decode cX4_begin 21 = .ok (.isub, 1) := by decide +kernel
theorem dX4_begin_22 : decode cX4_begin 22 = .ok (.iconst 1, 1) := by decide +kernel
theorem dX4_begin_23 : decode cX4_begin 23 = .ok (.iadd, 1) := by decide +kernel
theorem dX4_begin_24 : decode cX4_begin 24 = .ok (.aload_n 0, 1) := by decide +kernel
theorem dX4_begin_25 : decode cX4_begin 25 = .ok (.getfield 27, 3) := by decide +kernel
theorem dX4_begin_28 : decode cX4_begin 28 = .ok (.imul, 1) := by decide +kernel
theorem dX4_begin_29 : decode cX4_begin 29 = .ok (.putfield 33, 3) := by decide +kernel
theorem dX4_begin_32 : decode cX4_begin 32 = .ok (.aload_n 0, 1) := by decide +kernel
theorem dX4_begin_33 : decode cX4_begin 33 = .ok (.iconst 0, 1) := by decide +kernel
theorem dX4_begin_34 : decode cX4_begin 34 = .ok (.putfield 36, 3) := by decide +kernel
theorem dX4_begin_37 : decode cX4_begin 37 = .ok (.aload_n 0, 1) := by decide +kernel
theorem dX4_begin_38 : decode cX4_begin 38 = .ok (.iconst 0, 1) := by decide +kernel
theorem dX4_begin_39 : decode cX4_begin 39 = .ok (.putfield 39, 3) := by decide +kernel
theorem dX4_begin_42 : decode cX4_begin 42 = .ok (.iconst 0, 1) := by decide +kernel
theorem dX4_begin_43 : decode cX4_begin 43 = .ok (.istore 4, 2) := by decide +kernel
theorem dX4_begin_45 : decode cX4_begin 45 = .ok (.iload 4, 2) := by decide +kernel
theorem dX4_begin_47 : decode cX4_begin 47 = .ok (.aload_n 0, 1) := by decide +kernel
theorem dX4_begin_48 : decode cX4_begin 48 = .ok (.getfield 27, 3) := by decide +kernel
theorem dX4_begin_51 : decode cX4_begin 51 = .ok (.if_icmp .ge 43, 3) := by decide +kernel
theorem dX4_begin_54 : decode cX4_begin 54 = .ok (.aload_n 0, 1) := by decide +kernel
theorem dX4_begin_55 : decode cX4_begin 55 = .ok (.getfield 12, 3) := by decide +kernel
theorem dX4_begin_58 : decode cX4_begin 58 = .ok (.aload_n 1, 1) := by decide +kernel
theorem dX4_begin_59 : decode cX4_begin 59 = .ok (.iload 4, 2) := by decide +kernel
theorem dX4_begin_61 : decode cX4_begin 61 = .ok (.invokevirtual 42, 3) := by decide +kernel
theorem dX4_begin_64 : decode cX4_begin 64 = .ok (.aload_n 0, 1) := by decide +kernel
theorem dX4_begin_65 : decode cX4_begin 65 = .ok (.dup, 1) := by decide +kernel
theorem dX4_begin_66 : decode cX4_begin 66 = .ok (.getfield 39, 3) := by decide +kernel
theorem dX4_begin_69 : decode cX4_begin 69 = .ok (.aload_n 0, 1) := by decide +kernel
theorem dX4_begin_70 : decode cX4_begin 70 = .ok (.getfield 12, 3) := by decide +kernel
theorem dX4_begin_73 : decode cX4_begin 73 = .ok (.iload_n 2, 1) := by decide +kernel
theorem dX4_begin_74 : decode cX4_begin 74 = .ok (.iconst 1, 1) := by decide +kernel
theorem dX4_begin_75 : decode cX4_begin 75 = .ok (.isub, 1) := by decide +kernel
theorem dX4_begin_76 : decode cX4_begin 76 = .ok (.invokevirtual 46, 3) := by decide +kernel
theorem dX4_begin_79 : decode cX4_begin 79 = .ok (.iconst 4, 1) := by decide +kernel
theorem dX4_begin_80 : decode cX4_begin 80 = .ok (.iload 4, 2) := by decide +kernel
theorem dX4_begin_82 : decode cX4_begin 82 = .ok (.imul, 1) := by decide +kernel
theorem dX4_begin_83 : decode cX4_begin 83 = .ok (.ishl, 1) := by decide +kernel
theorem dX4_begin_84 : decode cX4_begin 84 = .ok (.ior, 1) := by decide +kernel
theorem dX4_begin_85 : decode cX4_begin 85 = .ok (.putfield 39, 3) := by decide +kernel
theorem dX4_begin_88 : decode cX4_begin 88 = .ok (.iinc 4 1, 3) := by decide +kernel
theorem dX4_begin_91 : decode cX4_begin 91 = .ok (.goto (-46), 3) := by decide +kernel
theorem dX4_begin_94 : decode cX4_begin 94 = .ok (.return_, 1) := by decide +kernel
set_option maxRecDepth 20000 in
theorem ggX4_advance_X4_kindsBeginning : GoodIn wsX4_advance wsX4_kindsBeginning := goodIn_r _ [13, 5, 14, 15, 7, 16, 17, 18, 19, 20, 21, 22, 23, 24, 25, 26, 27, 28, 29, 30, 31, 32, 33, 34, 35, 36, 37, 38, 39, 40, 41, 42, 43, 44, 45, 46, 47, 48, 49, 50, 51, 52, 53, 54, 55, 56, 57, 58, 59, 60, 61, 62, 63, 64, 65, 66, 67, 68, 69, 70, 71, 72, 73, 74, 75, 76, 77, 78, 79, 80, 81, 82, 83, 84, 91, 92, 93, 94, 95, 96, 97, 98, 99, 100, 101, 102, 103, 104, 105, 106, 107, 108, 109, 110, 111, 112, 113, 114, 115, 116, 117, 118, 119, 120, 121, 122, 123] (by decide +kernel) (by decide +kernel)
set_option maxRecDepth 20000 in
theorem gX4_advance_X4_kindsBeginning : GoodIn wsX4_advance (wsV RX4 56 RX4 yX4_kindsBeginning wsX4_kindsBeginning) := goodIn_app (goodIn_of _ (by decide +kernel)) ggX4_advance_X4_kindsBeginning
set_option maxRecDepth 20000 in
theorem ggX4_advance_X4_firstWaiting : GoodIn wsX4_advance wsX4_firstWaiting := goodIn_r _ [88, 1, 89, 45, 90, 91, 92, 93, 94, 95, 96, 97, 98, 99, 100] (by decide +kernel) (by decide +kernel)
set_option maxRecDepth 20000 in
theorem gX4_advance_X4_firstWaiting : GoodIn wsX4_advance (wsV RX4 60 RX4 yX4_firstWaiting wsX4_firstWaiting) := goodIn_app (goodIn_of _ (by decide +kernel)) ggX4_advance_X4_firstWaiting
theorem dX4_advance_0 : decode cX4_advance 0 = .ok (.aload_n 0, 1) := by decide +kernel
theorem dX4_advance_1 : decode cX4_advance 1 = .ok (.getfield 36, 3) := by decide +kernel
theorem dX4_advance_4 : decode cX4_advance 4 = .ok (.ifCond .ne 74, 3) := by decide +kernel
theorem dX4_advance_7 : decode cX4_advance 7 = .ok (.aload_n 0, 1) := by decide +kernel
theorem dX4_advance_8 : decode cX4_advance 8 = .ok (.getfield 30, 3) := by decide +kernel
theorem dX4_advance_11 : decode cX4_advance 11 = .ok (.aload_n 0, 1) := by decide +kernel
theorem dX4_advance_12 : decode cX4_advance 12 = .ok (.getfield 33, 3) := by decide +kernel
theorem dX4_advance_15 : decode cX4_advance 15 = .ok (.if_icmp .ge 63, 3) := by decide +kernel
theorem dX4_advance_18 : decode cX4_advance 18 = .ok (.aload_n 0, 1) := by decide +kernel
theorem dX4_advance_19 : decode cX4_advance 19 = .ok (.getfield 27, 3) := by decide +kernel
theorem dX4_advance_22 : decode cX4_advance 22 = .ok (.ifCond .le 56, 3) := by decide +kernel
theorem dX4_advance_25 : decode cX4_advance 25 = .ok (.aload_n 0, 1) := by decide +kernel
theorem dX4_advance_26 : decode cX4_advance 26 = .ok (.aload_n 0, 1) := by decide +kernel
theorem dX4_advance_27 : decode cX4_advance 27 = .ok (.getfield 30, 3) := by decide +kernel
theorem dX4_advance_30 : decode cX4_advance 30 = .ok (.aload_n 0, 1) := by decide +kernel
theorem dX4_advance_31 : decode cX4_advance 31 = .ok (.getfield 27, 3) := by decide +kernel
theorem dX4_advance_34 : decode cX4_advance 34 = .ok (.irem, 1) := by decide +kernel
theorem dX4_advance_35 : decode cX4_advance 35 = .ok (.putfield 50, 3) := by decide +kernel
theorem dX4_advance_38 : decode cX4_advance 38 = .ok (.aload_n 0, 1) := by decide +kernel
theorem dX4_advance_39 : decode cX4_advance 39 = .ok (.aload_n 0, 1) := by decide +kernel
theorem dX4_advance_40 : decode cX4_advance 40 = .ok (.getfield 18, 3) := by decide +kernel
theorem dX4_advance_43 : decode cX4_advance 43 = .ok (.aload_n 0, 1) := by decide +kernel
theorem dX4_advance_44 : decode cX4_advance 44 = .ok (.getfield 30, 3) := by decide +kernel
theorem dX4_advance_47 : decode cX4_advance 47 = .ok (.aload_n 0, 1) := by decide +kernel
theorem dX4_advance_48 : decode cX4_advance 48 = .ok (.getfield 27, 3) := by decide +kernel
theorem dX4_advance_51 : decode cX4_advance 51 = .ok (.idiv, 1) := by decide +kernel
theorem dX4_advance_52 : decode cX4_advance 52 = .ok (.iadd, 1) := by decide +kernel
theorem dX4_advance_53 : decode cX4_advance 53 = .ok (.putfield 53, 3) := by decide +kernel
theorem dX4_advance_56 : decode cX4_advance 56 = .ok (.aload_n 0, 1) := by decide +kernel
theorem dX4_advance_57 : decode cX4_advance 57 = .ok (.aload_n 0, 1) := by decide +kernel
theorem dX4_advance_58 : decode cX4_advance 58 = .ok (.aload_n 1, 1) := by decide +kernel
theorem dX4_advance_59 : decode cX4_advance 59 = .ok (.invokevirtual 56, 3) := by decide +kernel
theorem dX4_advance_62 : decode cX4_advance 62 = .ok (.putfield 36, 3) := by decide +kernel
theorem dX4_advance_65 : decode cX4_advance 65 = .ok (.aload_n 0, 1) := by decide +kernel
theorem dX4_advance_66 : decode cX4_advance 66 = .ok (.dup, 1) := by decide +kernel
theorem dX4_advance_67 : decode cX4_advance 67 = .ok (.getfield 30, 3) := by decide +kernel
theorem dX4_advance_70 : decode cX4_advance 70 = .ok (.iconst 1, 1) := by decide +kernel
theorem dX4_advance_71 : decode cX4_advance 71 = .ok (.iadd, 1) := by decide +kernel
theorem dX4_advance_72 : decode cX4_advance 72 = .ok (.putfield 30, 3) := by decide +kernel
theorem dX4_advance_75 : decode cX4_advance 75 = .ok (.goto (-75), 3) := by decide +kernel
theorem dX4_advance_78 : decode cX4_advance 78 = .ok (.aload_n 0, 1) := by decide +kernel
theorem dX4_advance_79 : decode cX4_advance 79 = .ok (.getfield 36, 3) := by decide +kernel
theorem dX4_advance_82 : decode cX4_advance 82 = .ok (.ifCond .ne 5, 3) := by decide +kernel
theorem dX4_advance_85 : decode cX4_advance 85 = .ok (.iconst 0, 1) := by decide +kernel
theorem dX4_advance_86 : decode cX4_advance 86 = .ok (.ireturn, 1) := by decide +kernel
theorem dX4_advance_87 : decode cX4_advance 87 = .ok (.aload_n 0, 1) := by decide +kernel
theorem dX4_advance_88 : decode cX4_advance 88 = .ok (.aload_n 0, 1) := by decide +kernel
theorem dX4_advance_89 : decode cX4_advance 89 = .ok (.invokevirtual 60, 3) := by decide +kernel
theorem dX4_advance_92 : decode cX4_advance 92 = .ok (.putfield 64, 3) := by decide +kernel
theorem dX4_advance_95 : decode cX4_advance 95 = .ok (.aload_n 0, 1) := by decide +kernel
theorem dX4_advance_96 : decode cX4_advance 96 = .ok (.dup, 1) := by decide +kernel
theorem dX4_advance_97 : decode cX4_advance 97 = .ok (.getfield 36, 3) := by decide +kernel
theorem dX4_advance_100 : decode cX4_advance 100 = .ok (.iconst 1, 1) := by decide +kernel
theorem dX4_advance_101 : decode cX4_advance 101 = .ok (.aload_n 0, 1) := by decide +kernel
theorem dX4_advance_102 : decode cX4_advance 102 = .ok (.getfield 64, 3) := by decide +kernel
theorem dX4_advance_105 : decode cX4_advance 105 = .ok (.ishl, 1) := by decide +kernel
theorem dX4_advance_106 : decode cX4_advance 106 = .ok (.iconst (-1), 1) := by decide +kernel
theorem dX4_advance_107 : decode cX4_advance 107 = .ok (.ixor, 1) := by decide +kernel
theorem dX4_advance_108 : decode cX4_advance 108 = .ok (.iand, 1) := by decide +kernel
theorem dX4_advance_109 : decode cX4_advance 109 = .ok (.putfield 36, 3) := by decide +kernel
theorem dX4_advance_112 : decode cX4_advance 112 = .ok (.iconst 1, 1) := by decide +kernel
theorem dX4_advance_113 : decode cX4_advance 113 = .ok (.ireturn, 1) := by decide +kernel
set_option maxRecDepth 20000 in
theorem ggX4_firstWaiting_X6_hasKind : GoodIn wsX4_firstWaiting wsX6_hasKind := goodIn_r _ [4] (by decide +kernel) (by decide +kernel)
set_option maxRecDepth 20000 in
theorem gX4_firstWaiting_X6_hasKind_n67 : GoodIn wsX4_firstWaiting (wsX6_hasKind) := ggX4_firstWaiting_X6_hasKind
theorem dX4_firstWaiting_0 : decode cX4_firstWaiting 0 = .ok (.iconst 0, 1) := by decide +kernel
theorem dX4_firstWaiting_1 : decode cX4_firstWaiting 1 = .ok (.istore_n 1, 1) := by decide +kernel
theorem dX4_firstWaiting_2 : decode cX4_firstWaiting 2 = .ok (.iload_n 1, 1) := by decide +kernel
theorem dX4_firstWaiting_3 : decode cX4_firstWaiting 3 = .ok (.iconst 4, 1) := by decide +kernel
theorem dX4_firstWaiting_4 : decode cX4_firstWaiting 4 = .ok (.if_icmp .ge 22, 3) := by decide +kernel
theorem dX4_firstWaiting_7 : decode cX4_firstWaiting 7 = .ok (.aload_n 0, 1) := by decide +kernel
theorem dX4_firstWaiting_8 : decode cX4_firstWaiting 8 = .ok (.getfield 36, 3) := by decide +kernel
theorem dX4_firstWaiting_11 : decode cX4_firstWaiting 11 = .ok (.iload_n 1, 1) := by decide +kernel
theorem dX4_firstWaiting_12 : decode cX4_firstWaiting 12 = .ok (.invokestatic 67, 3) := by decide +kernel
theorem dX4_firstWaiting_15 : decode cX4_firstWaiting 15 = .ok (.ifCond .eq 5, 3) := by decide +kernel
theorem dX4_firstWaiting_18 : decode cX4_firstWaiting 18 = .ok (.iload_n 1, 1) := by decide +kernel
theorem dX4_firstWaiting_19 : decode cX4_firstWaiting 19 = .ok (.ireturn, 1) := by decide +kernel
theorem dX4_firstWaiting_20 : decode cX4_firstWaiting 20 = .ok (.iinc 1 1, 3) := by decide +kernel
theorem dX4_firstWaiting_23 : decode cX4_firstWaiting 23 = .ok (.goto (-21), 3) := by decide +kernel
theorem dX4_firstWaiting_26 : decode cX4_firstWaiting 26 = .ok (.iconst 0, 1) := by decide +kernel
theorem dX4_firstWaiting_27 : decode cX4_firstWaiting 27 = .ok (.ireturn, 1) := by decide +kernel
set_option maxRecDepth 20000 in
theorem ggX4_kindsBeginning_X3_aim : GoodIn wsX4_kindsBeginning wsX3_aim := goodIn_r _ [9, 10, 11, 12, 13, 14, 15, 16, 17, 18, 19, 20, 21, 22, 23, 24, 25, 26, 27, 28, 29, 30, 31, 8, 32, 33, 34, 35, 36, 37, 38, 39, 84, 85, 86, 87, 88, 89, 90, 91, 92, 93, 94, 95, 96, 97, 98, 99, 100, 101, 102, 103, 104, 105, 106] (by decide +kernel) (by decide +kernel)
set_option maxRecDepth 20000 in
theorem gX4_kindsBeginning_X3_aim : GoodIn wsX4_kindsBeginning (wsV RX4 42 RX3 yX3_aim wsX3_aim) := goodIn_app (goodIn_of _ (by decide +kernel)) ggX4_kindsBeginning_X3_aim
set_option maxRecDepth 20000 in
theorem ggX4_kindsBeginning_X3_conditionsAt : GoodIn wsX4_kindsBeginning wsX3_conditionsAt := goodIn_r _ [43, 44, 45, 46, 8, 47, 17, 18, 48, 19, 49, 21, 20, 50, 51, 14, 16, 52, 53, 54, 55, 56, 57, 22, 58, 23, 59, 33, 34, 35, 36, 37, 38, 39, 60, 61, 62, 63, 64, 65, 66, 67, 68, 69, 12, 11, 70, 71, 72, 73, 92, 93, 94, 95, 96, 97, 98, 99, 100, 101, 102, 103, 104, 105, 106] (by decide +kernel) (by decide +kernel)
set_option maxRecDepth 20000 in
theorem gX4_kindsBeginning_X3_conditionsAt : GoodIn wsX4_kindsBeginning (wsV RX4 46 RX3 yX3_conditionsAt wsX3_conditionsAt) := goodIn_app (goodIn_of _ (by decide +kernel)) ggX4_kindsBeginning_X3_conditionsAt
theorem dX4_kindsBeginning_0 : decode cX4_kindsBeginning 0 = .ok (.iconst 4, 1) := by decide +kernel
theorem dX4_kindsBeginning_1 : decode cX4_kindsBeginning 1 = .ok (.aload_n 0, 1) := by decide +kernel
theorem dX4_kindsBeginning_2 : decode cX4_kindsBeginning 2 = .ok (.getfield 50, 3) := by decide +kernel
theorem dX4_kindsBeginning_5 : decode cX4_kindsBeginning 5 = .ok (.imul, 1) := by decide +kernel
theorem dX4_kindsBeginning_6 : decode cX4_kindsBeginning 6 = .ok (.istore_n 2, 1) := by decide +kernel
theorem dX4_kindsBeginning_7 : decode cX4_kindsBeginning 7 = .ok (.aload_n 0, 1) := by decide +kernel
theorem dX4_kindsBeginning_8 : decode cX4_kindsBeginning 8 = .ok (.getfield 39, 3) := by decide +kernel
theorem dX4_kindsBeginning_11 : decode cX4_kindsBeginning 11 = .ok (.iload_n 2, 1) := by decide +kernel
theorem dX4_kindsBeginning_12 : decode cX4_kindsBeginning 12 = .ok (.ishr, 1) := by decide +kernel
theorem dX4_kindsBeginning_13 : decode cX4_kindsBeginning 13 = .ok (.bipush 15, 2) := by decide +kernel
theorem dX4_kindsBeginning_15 : decode cX4_kindsBeginning 15 = .ok (.iand, 1) := by decide +kernel
theorem dX4_kindsBeginning_16 : decode cX4_kindsBeginning 16 = .ok (.istore_n 3, 1) := by decide +kernel
theorem dX4_kindsBeginning_17 : decode cX4_kindsBeginning 17 = .ok (.aload_n 0, 1) := by decide +kernel
theorem dX4_kindsBeginning_18 : decode cX4_kindsBeginning 18 = .ok (.getfield 12, 3) := by decide +kernel
theorem dX4_kindsBeginning_21 : decode cX4_kindsBeginning 21 = .ok (.aload_n 1, 1) := by decide +kernel
theorem dX4_kindsBeginning_22 : decode cX4_kindsBeginning 22 = .ok (.aload_n 0, 1) := by decide +kernel
theorem dX4_kindsBeginning_23 : decode cX4_kindsBeginning 23 = .ok (.getfield 50, 3) := by decide +kernel
theorem dX4_kindsBeginning_26 : decode cX4_kindsBeginning 26 = .ok (.invokevirtual 42, 3) := by decide +kernel
theorem dX4_kindsBeginning_29 : decode cX4_kindsBeginning 29 = .ok (.aload_n 0, 1) := by decide +kernel
theorem dX4_kindsBeginning_30 : decode cX4_kindsBeginning 30 = .ok (.getfield 12, 3) := by decide +kernel
theorem dX4_kindsBeginning_33 : decode cX4_kindsBeginning 33 = .ok (.aload_n 0, 1) := by decide +kernel
theorem dX4_kindsBeginning_34 : decode cX4_kindsBeginning 34 = .ok (.getfield 53, 3) := by decide +kernel
theorem dX4_kindsBeginning_37 : decode cX4_kindsBeginning 37 = .ok (.invokevirtual 46, 3) := by decide +kernel
theorem dX4_kindsBeginning_40 : decode cX4_kindsBeginning 40 = .ok (.istore 4, 2) := by decide +kernel
theorem dX4_kindsBeginning_42 : decode cX4_kindsBeginning 42 = .ok (.aload_n 0, 1) := by decide +kernel
theorem dX4_kindsBeginning_43 : decode cX4_kindsBeginning 43 = .ok (.dup, 1) := by decide +kernel
theorem dX4_kindsBeginning_44 : decode cX4_kindsBeginning 44 = .ok (.getfield 39, 3) := by decide +kernel
theorem dX4_kindsBeginning_47 : decode cX4_kindsBeginning 47 = .ok (.iload_n 3, 1) := by decide +kernel
theorem dX4_kindsBeginning_48 : decode cX4_kindsBeginning 48 = .ok (.iload 4, 2) := by decide +kernel
theorem dX4_kindsBeginning_50 : decode cX4_kindsBeginning 50 = .ok (.ixor, 1) := by decide +kernel
theorem dX4_kindsBeginning_51 : decode cX4_kindsBeginning 51 = .ok (.iload_n 2, 1) := by decide +kernel
theorem dX4_kindsBeginning_52 : decode cX4_kindsBeginning 52 = .ok (.ishl, 1) := by decide +kernel
theorem dX4_kindsBeginning_53 : decode cX4_kindsBeginning 53 = .ok (.ixor, 1) := by decide +kernel
theorem dX4_kindsBeginning_54 : decode cX4_kindsBeginning 54 = .ok (.putfield 39, 3) := by decide +kernel
theorem dX4_kindsBeginning_57 : decode cX4_kindsBeginning 57 = .ok (.iload 4, 2) := by decide +kernel
theorem dX4_kindsBeginning_59 : decode cX4_kindsBeginning 59 = .ok (.iload_n 3, 1) := by decide +kernel
theorem dX4_kindsBeginning_60 : decode cX4_kindsBeginning 60 = .ok (.iconst (-1), 1) := by decide +kernel
theorem dX4_kindsBeginning_61 : decode cX4_kindsBeginning 61 = .ok (.ixor, 1) := by decide +kernel
theorem dX4_kindsBeginning_62 : decode cX4_kindsBeginning 62 = .ok (.iand, 1) := by decide +kernel
theorem dX4_kindsBeginning_63 : decode cX4_kindsBeginning 63 = .ok (.ireturn, 1) := by decide +kernel
theorem dX5_init_0 : decode cX5_init 0 = .ok (.aload_n 0, 1) := by decide +kernel
theorem dX5_init_1 : decode cX5_init 1 = .ok (.invokespecial 3, 3) := by decide +kernel
theorem dX5_init_4 : decode cX5_init 4 = .ok (.aload_n 0, 1) := by decide +kernel
theorem dX5_init_5 : decode cX5_init 5 = .ok (.sipush 440, 3) := by decide +kernel
theorem dX5_init_8 : decode cX5_init 8 = .ok (.newarray .char, 2) := by decide +kernel
theorem dX5_init_10 : decode cX5_init 10 = .ok (.putfield 9, 3) := by decide +kernel
theorem dX5_init_13 : decode cX5_init 13 = .ok (.return_, 1) := by decide +kernel
theorem dX5_addByte_0 : decode cX5_addByte 0 = .ok (.aload_n 0, 1) := by decide +kernel
theorem dX5_addByte_1 : decode cX5_addByte 1 = .ok (.getfield 15, 3) := by decide +kernel
theorem dX5_addByte_4 : decode cX5_addByte 4 = .ok (.ifCond .lt 35, 3) := by decide +kernel
theorem dX5_addByte_7 : decode cX5_addByte 7 = .ok (.aload_n 0, 1) := by decide +kernel
theorem dX5_addByte_8 : decode cX5_addByte 8 = .ok (.getfield 15, 3) := by decide +kernel
theorem dX5_addByte_11 : decode cX5_addByte 11 = .ok (.aload_n 0, 1) := by decide +kernel
theorem dX5_addByte_12 : decode cX5_addByte 12 = .ok (.getfield 9, 3) := by decide +kernel
theorem dX5_addByte_15 : decode cX5_addByte 15 = .ok (.arraylength, 1) := by decide +kernel
theorem dX5_addByte_16 : decode cX5_addByte 16 = .ok (.if_icmp .ge 23, 3) := by decide +kernel
theorem dX5_addByte_19 : decode cX5_addByte 19 = .ok (.aload_n 0, 1) := by decide +kernel
theorem dX5_addByte_20 : decode cX5_addByte 20 = .ok (.getfield 9, 3) := by decide +kernel
theorem dX5_addByte_23 : decode cX5_addByte 23 = .ok (.aload_n 0, 1) := by decide +kernel
theorem dX5_addByte_24 : decode cX5_addByte 24 = .ok (.getfield 15, 3) := by decide +kernel
theorem dX5_addByte_27 : decode cX5_addByte 27 = .ok (.iload_n 1, 1) := by decide +kernel
theorem dX5_addByte_28 : decode cX5_addByte 28 = .ok (.castore, 1) := by decide +kernel
theorem dX5_addByte_29 : decode cX5_addByte 29 = .ok (.aload_n 0, 1) := by decide +kernel
theorem dX5_addByte_30 : decode cX5_addByte 30 = .ok (.dup, 1) := by decide +kernel
theorem dX5_addByte_31 : decode cX5_addByte 31 = .ok (.getfield 15, 3) := by decide +kernel
theorem dX5_addByte_34 : decode cX5_addByte 34 = .ok (.iconst 1, 1) := by decide +kernel
theorem dX5_addByte_35 : decode cX5_addByte 35 = .ok (.iadd, 1) := by decide +kernel
theorem dX5_addByte_36 : decode cX5_addByte 36 = .ok (.putfield 15, 3) := by decide +kernel
theorem dX5_addByte_39 : decode cX5_addByte 39 = .ok (.return_, 1) := by decide +kernel
set_option maxRecDepth 20000 in
theorem ggX5_addWord_J0_length_8abf5 : GoodIn wsX5_addWord wsJ0_length_8abf5 := goodIn_r _ [5, 6, 7, 8, 9, 4, 10, 11, 12] (by decide +kernel) (by decide +kernel)
set_option maxRecDepth 20000 in
theorem gX5_addWord_J0_length_8abf5 : GoodIn wsX5_addWord (wsV RX5 19 RJ0 yJ0_length_8abf5 wsJ0_length_8abf5) := goodIn_app (goodIn_of _ (by decide +kernel)) ggX5_addWord_J0_length_8abf5
set_option maxRecDepth 20000 in
theorem ggX5_addWord_J0_charAt_5068e : GoodIn wsX5_addWord wsJ0_charAt_5068e := goodIn_r _ [16, 6, 17, 18, 19, 4, 20, 11, 12, 21, 22, 23, 24, 25, 26, 27, 28, 29, 30, 31, 32, 33, 34, 35, 36, 37, 38, 39, 40, 41, 42, 43, 44, 45, 46, 47, 48, 49] (by decide +kernel) (by decide +kernel)
set_option maxRecDepth 20000 in
theorem gX5_addWord_J0_charAt_5068e : GoodIn wsX5_addWord (wsV RX5 24 RJ0 yJ0_charAt_5068e wsJ0_charAt_5068e) := goodIn_app (goodIn_of _ (by decide +kernel)) ggX5_addWord_J0_charAt_5068e
set_option maxRecDepth 20000 in
theorem ggX5_addWord_X5_addByte : GoodIn wsX5_addWord wsX5_addByte := goodIn_r _ [54, 55, 56, 57, 58] (by decide +kernel) (by decide +kernel)
set_option maxRecDepth 20000 in
theorem gX5_addWord_X5_addByte : GoodIn wsX5_addWord (wsV RX5 28 RX5 yX5_addByte wsX5_addByte) := goodIn_app (goodIn_of _ (by decide +kernel)) ggX5_addWord_X5_addByte
theorem dX5_addWord_0 : decode cX5_addWord 0 = .ok (.iconst 0, 1) := by decide +kernel
theorem dX5_addWord_1 : decode cX5_addWord 1 = .ok (.istore_n 2, 1) := by decide +kernel
theorem dX5_addWord_2 : decode cX5_addWord 2 = .ok (.iload_n 2, 1) := by decide +kernel
theorem dX5_addWord_3 : decode cX5_addWord 3 = .ok (.aload_n 1, 1) := by decide +kernel
theorem dX5_addWord_4 : decode cX5_addWord 4 = .ok (.invokevirtual 19, 3) := by decide +kernel
theorem dX5_addWord_7 : decode cX5_addWord 7 = .ok (.if_icmp .ge 18, 3) := by decide +kernel
theorem dX5_addWord_10 : decode cX5_addWord 10 = .ok (.aload_n 0, 1) := by decide +kernel
theorem dX5_addWord_11 : decode cX5_addWord 11 = .ok (.aload_n 1, 1) := by decide +kernel
theorem dX5_addWord_12 : decode cX5_addWord 12 = .ok (.iload_n 2, 1) := by decide +kernel
theorem dX5_addWord_13 : decode cX5_addWord 13 = .ok (.invokevirtual 24, 3) := by decide +kernel
theorem dX5_addWord_16 : decode cX5_addWord 16 = .ok (.invokevirtual 28, 3) := by decide +kernel
theorem dX5_addWord_19 : decode cX5_addWord 19 = .ok (.iinc 2 1, 3) := by decide +kernel
theorem dX5_addWord_22 : decode cX5_addWord 22 = .ok (.goto (-20), 3) := by decide +kernel
theorem dX5_addWord_25 : decode cX5_addWord 25 = .ok (.return_, 1) := by decide +kernel
set_option maxRecDepth 20000 in
theorem ggX5_addNumber_X5_addByte : GoodIn wsX5_addNumber wsX5_addByte := goodIn_r _ [6, 7, 8, 9, 10] (by decide +kernel) (by decide +kernel)
set_option maxRecDepth 20000 in
theorem gX5_addNumber_X5_addByte : GoodIn wsX5_addNumber (wsV RX5 28 RX5 yX5_addByte wsX5_addByte) := goodIn_app (goodIn_of _ (by decide +kernel)) ggX5_addNumber_X5_addByte
theorem dX5_addNumber_0 : decode cX5_addNumber 0 = .ok (.ldc 32, 2) := by decide +kernel
theorem dX5_addNumber_2 : decode cX5_addNumber 2 = .ok (.istore_n 2, 1) := by decide +kernel
theorem dX5_addNumber_3 : decode cX5_addNumber 3 = .ok (.iload_n 2, 1) := by decide +kernel
theorem dX5_addNumber_4 : decode cX5_addNumber 4 = .ok (.ifCond .le 30, 3) := by decide +kernel
theorem dX5_addNumber_7 : decode cX5_addNumber 7 = .ok (.iload_n 1, 1) := by decide +kernel
theorem dX5_addNumber_8 : decode cX5_addNumber 8 = .ok (.iload_n 2, 1) := by decide +kernel
theorem dX5_addNumber_9 : decode cX5_addNumber 9 = .ok (.if_icmp .lt 17, 3) := by decide +kernel
theorem dX5_addNumber_12 : decode cX5_addNumber 12 = .ok (.aload_n 0, 1) := by decide +kernel
theorem dX5_addNumber_13 : decode cX5_addNumber 13 = .ok (.bipush 48, 2) := by decide +kernel
theorem dX5_addNumber_15 : decode cX5_addNumber 15 = .ok (.iload_n 1, 1) := by decide +kernel
theorem dX5_addNumber_16 : decode cX5_addNumber 16 = .ok (.iload_n 2, 1) := by decide +kernel
theorem dX5_addNumber_17 : decode cX5_addNumber 17 = .ok (.idiv, 1) := by decide +kernel
theorem dX5_addNumber_18 : decode cX5_addNumber 18 = .ok (.bipush 10, 2) := by decide +kernel
theorem dX5_addNumber_20 : decode cX5_addNumber 20 = .ok (.irem, 1) := by decide +kernel
theorem dX5_addNumber_21 : decode cX5_addNumber 21 = .ok (.iadd, 1) := by decide +kernel
theorem dX5_addNumber_22 : decode cX5_addNumber 22 = .ok (.i2c, 1) := by decide +kernel
theorem dX5_addNumber_23 : decode cX5_addNumber 23 = .ok (.invokevirtual 28, 3) := by decide +kernel
theorem dX5_addNumber_26 : decode cX5_addNumber 26 = .ok (.iload_n 2, 1) := by decide +kernel
theorem dX5_addNumber_27 : decode cX5_addNumber 27 = .ok (.bipush 10, 2) := by decide +kernel
theorem dX5_addNumber_29 : decode cX5_addNumber 29 = .ok (.idiv, 1) := by decide +kernel
theorem dX5_addNumber_30 : decode cX5_addNumber 30 = .ok (.istore_n 2, 1) := by decide +kernel
theorem dX5_addNumber_31 : decode cX5_addNumber 31 = .ok (.goto (-28), 3) := by decide +kernel
theorem dX5_addNumber_34 : decode cX5_addNumber 34 = .ok (.return_, 1) := by decide +kernel
set_option maxRecDepth 20000 in
theorem ggX5_addName_X5_addByte : GoodIn wsX5_addName wsX5_addByte := goodIn_r _ [5, 6, 7, 8, 9] (by decide +kernel) (by decide +kernel)
set_option maxRecDepth 20000 in
theorem gX5_addName_X5_addByte : GoodIn wsX5_addName (wsV RX5 28 RX5 yX5_addByte wsX5_addByte) := goodIn_app (goodIn_of _ (by decide +kernel)) ggX5_addName_X5_addByte
theorem dX5_addName_0 : decode cX5_addName 0 = .ok (.bipush 56, 2) := by decide +kernel
theorem dX5_addName_2 : decode cX5_addName 2 = .ok (.istore_n 3, 1) := by decide +kernel
theorem dX5_addName_3 : decode cX5_addName 3 = .ok (.iload_n 3, 1) := by decide +kernel
theorem dX5_addName_4 : decode cX5_addName 4 = .ok (.ifCond .lt 31, 3) := by decide +kernel
theorem dX5_addName_7 : decode cX5_addName 7 = .ok (.lload_n 1, 1) := by decide +kernel
theorem dX5_addName_8 : decode cX5_addName 8 = .ok (.iload_n 3, 1) := by decide +kernel
theorem dX5_addName_9 : decode cX5_addName 9 = .ok (.lshr, 1) := by decide +kernel
theorem dX5_addName_10 : decode cX5_addName 10 = .ok (.l2i, 1) := by decide +kernel
theorem dX5_addName_11 : decode cX5_addName 11 = .ok (.sipush 255, 3) := by decide +kernel
theorem dX5_addName_14 : decode cX5_addName 14 = .ok (.iand, 1) := by decide +kernel
theorem dX5_addName_15 : decode cX5_addName 15 = .ok (.istore 4, 2) := by decide +kernel
theorem dX5_addName_17 : decode cX5_addName 17 = .ok (.iload 4, 2) := by decide +kernel
theorem dX5_addName_19 : decode cX5_addName 19 = .ok (.ifCond .eq 10, 3) := by decide +kernel
theorem dX5_addName_22 : decode cX5_addName 22 = .ok (.aload_n 0, 1) := by decide +kernel
theorem dX5_addName_23 : decode cX5_addName 23 = .ok (.iload 4, 2) := by decide +kernel
theorem dX5_addName_25 : decode cX5_addName 25 = .ok (.i2c, 1) := by decide +kernel
theorem dX5_addName_26 : decode cX5_addName 26 = .ok (.invokevirtual 28, 3) := by decide +kernel
theorem dX5_addName_29 : decode cX5_addName 29 = .ok (.iinc 3 (-8), 3) := by decide +kernel
theorem dX5_addName_32 : decode cX5_addName 32 = .ok (.goto (-29), 3) := by decide +kernel
theorem dX5_addName_35 : decode cX5_addName 35 = .ok (.return_, 1) := by decide +kernel
theorem dX5_byteAt_0 : decode cX5_byteAt 0 = .ok (.iload_n 1, 1) := by decide +kernel
theorem dX5_byteAt_1 : decode cX5_byteAt 1 = .ok (.ifCond .lt 29, 3) := by decide +kernel
theorem dX5_byteAt_4 : decode cX5_byteAt 4 = .ok (.iload_n 1, 1) := by decide +kernel
theorem dX5_byteAt_5 : decode cX5_byteAt 5 = .ok (.aload_n 0, 1) := by decide +kernel
theorem dX5_byteAt_6 : decode cX5_byteAt 6 = .ok (.getfield 15, 3) := by decide +kernel
theorem dX5_byteAt_9 : decode cX5_byteAt 9 = .ok (.if_icmp .ge 21, 3) := by decide +kernel
theorem dX5_byteAt_12 : decode cX5_byteAt 12 = .ok (.iload_n 1, 1) := by decide +kernel
theorem dX5_byteAt_13 : decode cX5_byteAt 13 = .ok (.aload_n 0, 1) := by decide +kernel
theorem dX5_byteAt_14 : decode cX5_byteAt 14 = .ok (.getfield 9, 3) := by decide +kernel
theorem dX5_byteAt_17 : decode cX5_byteAt 17 = .ok (.arraylength, 1) := by decide +kernel
theorem dX5_byteAt_18 : decode cX5_byteAt 18 = .ok (.if_icmp .ge 12, 3) := by decide +kernel
theorem dX5_byteAt_21 : decode cX5_byteAt 21 = .ok (.aload_n 0, 1) := by decide +kernel
theorem dX5_byteAt_22 : decode cX5_byteAt 22 = .ok (.getfield 9, 3) := by decide +kernel
theorem dX5_byteAt_25 : decode cX5_byteAt 25 = .ok (.iload_n 1, 1) := by decide +kernel
theorem dX5_byteAt_26 : decode cX5_byteAt 26 = .ok (.caload, 1) := by decide +kernel
theorem dX5_byteAt_27 : decode cX5_byteAt 27 = .ok (.goto 4, 3) := by decide +kernel
theorem dX5_byteAt_30 : decode cX5_byteAt 30 = .ok (.iconst 0, 1) := by decide +kernel
theorem dX5_byteAt_31 : decode cX5_byteAt 31 = .ok (.ireturn, 1) := by decide +kernel
set_option maxRecDepth 20000 in
theorem ggX6_init_X1_init : GoodIn wsX6_init wsX1_init := goodIn_r _ [32, 33, 2, 3, 34, 35, 36, 37, 38, 39, 63, 64, 65, 66, 67, 68, 69, 70] (by decide +kernel) (by decide +kernel)
set_option maxRecDepth 20000 in
theorem gX6_init_X1_init_n9 : GoodIn wsX6_init (wsX1_init) := ggX6_init_X1_init
set_option maxRecDepth 20000 in
theorem ggX6_init_X0_init : GoodIn wsX6_init wsX0_init := goodIn_r _ [41, 42, 2, 3, 43, 44, 80, 81, 82] (by decide +kernel) (by decide +kernel)
set_option maxRecDepth 20000 in
theorem gX6_init_X0_init_n21 : GoodIn wsX6_init (wsX0_init) := ggX6_init_X0_init
set_option maxRecDepth 20000 in
theorem ggX6_init_X2_init : GoodIn wsX6_init wsX2_init := goodIn_r _ [46, 47, 2, 3, 48, 49, 50, 83, 84, 85, 86, 87, 88, 89, 90] (by decide +kernel) (by decide +kernel)
set_option maxRecDepth 20000 in
theorem gX6_init_X2_init_n32 : GoodIn wsX6_init (wsX2_init) := ggX6_init_X2_init
set_option maxRecDepth 20000 in
theorem ggX6_init_X5_init : GoodIn wsX6_init wsX5_init := goodIn_r _ [52, 53, 2, 3, 49, 54, 91, 92] (by decide +kernel) (by decide +kernel)
set_option maxRecDepth 20000 in
theorem gX6_init_X5_init_n39 : GoodIn wsX6_init (wsX5_init) := ggX6_init_X5_init
set_option maxRecDepth 20000 in
theorem ggX6_init_X4_init : GoodIn wsX6_init wsX4_init := goodIn_r _ [56, 57, 2, 3, 58, 27, 28, 59, 60, 61, 62, 103, 104, 105, 106, 107, 108, 109, 110, 111, 112, 113, 114, 115, 116, 117, 93, 94, 95, 96, 97, 98, 99, 100, 101, 102] (by decide +kernel) (by decide +kernel)
set_option maxRecDepth 20000 in
theorem gX6_init_X4_init_n46 : GoodIn wsX6_init (wsX4_init) := ggX6_init_X4_init
set_option maxRecDepth 20000 in
theorem ggX6_init_X3_init : GoodIn wsX6_init wsX3_init := goodIn_r _ [61, 62, 2, 3] (by decide +kernel) (by decide +kernel)
set_option maxRecDepth 20000 in
theorem gX6_init_X3_init_n53 : GoodIn wsX6_init (wsX3_init) := ggX6_init_X3_init
theorem dX6_init_0 : decode cX6_init 0 = .ok (.aload_n 0, 1) := by decide +kernel
theorem dX6_init_1 : decode cX6_init 1 = .ok (.invokespecial 1, 3) := by decide +kernel
theorem dX6_init_4 : decode cX6_init 4 = .ok (.aload_n 0, 1) := by decide +kernel
theorem dX6_init_5 : decode cX6_init 5 = .ok (.new 7, 3) := by decide +kernel
theorem dX6_init_8 : decode cX6_init 8 = .ok (.dup, 1) := by decide +kernel
theorem dX6_init_9 : decode cX6_init 9 = .ok (.invokespecial 9, 3) := by decide +kernel
theorem dX6_init_12 : decode cX6_init 12 = .ok (.putfield 10, 3) := by decide +kernel
theorem dX6_init_15 : decode cX6_init 15 = .ok (.aload_n 0, 1) := by decide +kernel
theorem dX6_init_16 : decode cX6_init 16 = .ok (.new 7, 3) := by decide +kernel
theorem dX6_init_19 : decode cX6_init 19 = .ok (.dup, 1) := by decide +kernel
theorem dX6_init_20 : decode cX6_init 20 = .ok (.invokespecial 9, 3) := by decide +kernel
theorem dX6_init_23 : decode cX6_init 23 = .ok (.putfield 16, 3) := by decide +kernel
theorem dX6_init_26 : decode cX6_init 26 = .ok (.aload_n 0, 1) := by decide +kernel
theorem dX6_init_27 : decode cX6_init 27 = .ok (.new 19, 3) := by decide +kernel
theorem dX6_init_30 : decode cX6_init 30 = .ok (.dup, 1) := by decide +kernel
theorem dX6_init_31 : decode cX6_init 31 = .ok (.invokespecial 21, 3) := by decide +kernel
theorem dX6_init_34 : decode cX6_init 34 = .ok (.putfield 22, 3) := by decide +kernel
theorem dX6_init_37 : decode cX6_init 37 = .ok (.aload_n 0, 1) := by decide +kernel
theorem dX6_init_38 : decode cX6_init 38 = .ok (.iconst 2, 1) := by decide +kernel
theorem dX6_init_39 : decode cX6_init 39 = .ok (.anewarray 7, 3) := by decide +kernel
theorem dX6_init_42 : decode cX6_init 42 = .ok (.putfield 26, 3) := by decide +kernel
theorem dX6_init_45 : decode cX6_init 45 = .ok (.aload_n 0, 1) := by decide +kernel
theorem dX6_init_46 : decode cX6_init 46 = .ok (.new 30, 3) := by decide +kernel
theorem dX6_init_49 : decode cX6_init 49 = .ok (.dup, 1) := by decide +kernel
theorem dX6_init_50 : decode cX6_init 50 = .ok (.invokespecial 32, 3) := by decide +kernel
theorem dX6_init_53 : decode cX6_init 53 = .ok (.putfield 33, 3) := by decide +kernel
theorem dX6_init_56 : decode cX6_init 56 = .ok (.aload_n 0, 1) := by decide +kernel
theorem dX6_init_57 : decode cX6_init 57 = .ok (.new 37, 3) := by decide +kernel
theorem dX6_init_60 : decode cX6_init 60 = .ok (.dup, 1) := by decide +kernel
theorem dX6_init_61 : decode cX6_init 61 = .ok (.invokespecial 39, 3) := by decide +kernel
theorem dX6_init_64 : decode cX6_init 64 = .ok (.putfield 40, 3) := by decide +kernel
theorem dX6_init_67 : decode cX6_init 67 = .ok (.aload_n 0, 1) := by decide +kernel
theorem dX6_init_68 : decode cX6_init 68 = .ok (.new 44, 3) := by decide +kernel
theorem dX6_init_71 : decode cX6_init 71 = .ok (.dup, 1) := by decide +kernel
theorem dX6_init_72 : decode cX6_init 72 = .ok (.invokespecial 46, 3) := by decide +kernel
theorem dX6_init_75 : decode cX6_init 75 = .ok (.putfield 47, 3) := by decide +kernel
theorem dX6_init_78 : decode cX6_init 78 = .ok (.aload_n 0, 1) := by decide +kernel
theorem dX6_init_79 : decode cX6_init 79 = .ok (.new 51, 3) := by decide +kernel
theorem dX6_init_82 : decode cX6_init 82 = .ok (.dup, 1) := by decide +kernel
theorem dX6_init_83 : decode cX6_init 83 = .ok (.invokespecial 53, 3) := by decide +kernel
theorem dX6_init_86 : decode cX6_init 86 = .ok (.putfield 54, 3) := by decide +kernel
theorem dX6_init_89 : decode cX6_init 89 = .ok (.aload_n 0, 1) := by decide +kernel
theorem dX6_init_90 : decode cX6_init 90 = .ok (.new 51, 3) := by decide +kernel
theorem dX6_init_93 : decode cX6_init 93 = .ok (.dup, 1) := by decide +kernel
theorem dX6_init_94 : decode cX6_init 94 = .ok (.invokespecial 53, 3) := by decide +kernel
theorem dX6_init_97 : decode cX6_init 97 = .ok (.putfield 58, 3) := by decide +kernel
theorem dX6_init_100 : decode cX6_init 100 = .ok (.return_, 1) := by decide +kernel
set_option maxRecDepth 20000 in
theorem ggX6_append_X6_bytesIn : GoodIn wsX6_append wsX6_bytesIn := goodIn_r _ [8] (by decide +kernel) (by decide +kernel)
set_option maxRecDepth 20000 in
theorem gX6_append_X6_bytesIn : GoodIn wsX6_append (va_wsS RX6 61 yX6_bytesIn wsX6_bytesIn) := goodIn_app (goodIn_of _ (by decide +kernel)) ggX6_append_X6_bytesIn
set_option maxRecDepth 20000 in
theorem ggX6_append_X2_addBytes : GoodIn wsX6_append wsX2_addBytes := goodIn_r _ [13, 14, 15, 25, 26, 27, 28, 29, 30, 31, 32] (by decide +kernel) (by decide +kernel)
set_option maxRecDepth 20000 in
theorem gX6_append_X2_addBytes : GoodIn wsX6_append (wsV RX6 72 RX2 yX2_addBytes wsX2_addBytes) := goodIn_app (goodIn_of _ (by decide +kernel)) ggX6_append_X2_addBytes
theorem dX6_append_0 : decode cX6_append 0 = .ok (.iload_n 1, 1) := by decide +kernel
theorem dX6_append_1 : decode cX6_append 1 = .ok (.invokestatic 61, 3) := by decide +kernel
theorem dX6_append_4 : decode cX6_append 4 = .ok (.iload_n 2, 1) := by decide +kernel
theorem dX6_append_5 : decode cX6_append 5 = .ok (.invokestatic 61, 3) := by decide +kernel
theorem dX6_append_8 : decode cX6_append 8 = .ok (.iadd, 1) := by decide +kernel
theorem dX6_append_9 : decode cX6_append 9 = .ok (.iload_n 3, 1) := by decide +kernel
theorem dX6_append_10 : decode cX6_append 10 = .ok (.invokestatic 61, 3) := by decide +kernel
theorem dX6_append_13 : decode cX6_append 13 = .ok (.iadd, 1) := by decide +kernel
theorem dX6_append_14 : decode cX6_append 14 = .ok (.iload 4, 2) := by decide +kernel
theorem dX6_append_16 : decode cX6_append 16 = .ok (.invokestatic 61, 3) := by decide +kernel
theorem dX6_append_19 : decode cX6_append 19 = .ok (.iadd, 1) := by decide +kernel
theorem dX6_append_20 : decode cX6_append 20 = .ok (.iload 5, 2) := by decide +kernel
theorem dX6_append_22 : decode cX6_append 22 = .ok (.invokestatic 61, 3) := by decide +kernel
theorem dX6_append_25 : decode cX6_append 25 = .ok (.iadd, 1) := by decide +kernel
theorem dX6_append_26 : decode cX6_append 26 = .ok (.istore 6, 2) := by decide +kernel
theorem dX6_append_28 : decode cX6_append 28 = .ok (.aload_n 0, 1) := by decide +kernel
theorem dX6_append_29 : decode cX6_append 29 = .ok (.getfield 33, 3) := by decide +kernel
theorem dX6_append_32 : decode cX6_append 32 = .ok (.getfield 65, 3) := by decide +kernel
theorem dX6_append_35 : decode cX6_append 35 = .ok (.iload 6, 2) := by decide +kernel
theorem dX6_append_37 : decode cX6_append 37 = .ok (.iadd, 1) := by decide +kernel
theorem dX6_append_38 : decode cX6_append 38 = .ok (.sipush 600, 3) := by decide +kernel
theorem dX6_append_41 : decode cX6_append 41 = .ok (.if_icmp .le 11, 3) := by decide +kernel
theorem dX6_append_44 : decode cX6_append 44 = .ok (.new 69, 3) := by decide +kernel
theorem dX6_append_47 : decode cX6_append 47 = .ok (.dup, 1) := by decide +kernel
theorem dX6_append_48 : decode cX6_append 48 = .ok (.invokespecial 71, 3) := by decide +kernel
theorem dX6_append_51 : decode cX6_append 51 = .ok (.athrow, 1) := by decide +kernel
theorem dX6_append_52 : decode cX6_append 52 = .ok (.aload_n 0, 1) := by decide +kernel
theorem dX6_append_53 : decode cX6_append 53 = .ok (.getfield 33, 3) := by decide +kernel
theorem dX6_append_56 : decode cX6_append 56 = .ok (.iload_n 1, 1) := by decide +kernel
theorem dX6_append_57 : decode cX6_append 57 = .ok (.invokevirtual 72, 3) := by decide +kernel
theorem dX6_append_60 : decode cX6_append 60 = .ok (.aload_n 0, 1) := by decide +kernel
theorem dX6_append_61 : decode cX6_append 61 = .ok (.getfield 33, 3) := by decide +kernel
theorem dX6_append_64 : decode cX6_append 64 = .ok (.iload_n 2, 1) := by decide +kernel
theorem dX6_append_65 : decode cX6_append 65 = .ok (.invokevirtual 72, 3) := by decide +kernel
theorem dX6_append_68 : decode cX6_append 68 = .ok (.aload_n 0, 1) := by decide +kernel
theorem dX6_append_69 : decode cX6_append 69 = .ok (.getfield 33, 3) := by decide +kernel
theorem dX6_append_72 : decode cX6_append 72 = .ok (.iload_n 3, 1) := by decide +kernel
theorem dX6_append_73 : decode cX6_append 73 = .ok (.invokevirtual 72, 3) := by decide +kernel
theorem dX6_append_76 : decode cX6_append 76 = .ok (.aload_n 0, 1) := by decide +kernel
theorem dX6_append_77 : decode cX6_append 77 = .ok (.getfield 33, 3) := by decide +kernel
theorem dX6_append_80 : decode cX6_append 80 = .ok (.iload 4, 2) := by decide +kernel
theorem dX6_append_82 : decode cX6_append 82 = .ok (.invokevirtual 72, 3) := by decide +kernel
theorem dX6_append_85 : decode cX6_append 85 = .ok (.aload_n 0, 1) := by decide +kernel
theorem dX6_append_86 : decode cX6_append 86 = .ok (.getfield 33, 3) := by decide +kernel
theorem dX6_append_89 : decode cX6_append 89 = .ok (.iload 5, 2) := by decide +kernel
theorem dX6_append_91 : decode cX6_append 91 = .ok (.invokevirtual 72, 3) := by decide +kernel
theorem dX6_append_94 : decode cX6_append 94 = .ok (.aload_n 0, 1) := by decide +kernel
theorem dX6_append_95 : decode cX6_append 95 = .ok (.getfield 33, 3) := by decide +kernel
theorem dX6_append_98 : decode cX6_append 98 = .ok (.getfield 65, 3) := by decide +kernel
theorem dX6_append_101 : decode cX6_append 101 = .ok (.ireturn, 1) := by decide +kernel
set_option maxRecDepth 20000 in
theorem ggX6_load_X2_readSky : GoodIn wsX6_load wsX2_readSky := goodIn_r _ [9, 10, 11, 12, 13, 14, 8, 15, 16, 17, 18, 19, 20, 21, 22, 23, 24, 25, 26, 27, 28, 29, 30, 31, 32, 33, 34, 35, 36, 37, 38, 39, 40, 41, 42, 43, 44, 45, 46, 47, 48, 49, 50, 51, 52, 53, 54, 55, 56, 57, 58, 59, 60, 61, 62, 63, 64, 65, 66, 67, 68, 69, 70, 71, 72, 73, 74, 75, 76, 77, 78, 79, 80, 81, 82, 83, 84, 85, 86, 87, 88, 89, 90, 91, 92, 93, 94, 95, 96, 97, 98, 99, 100, 101, 102, 103, 104, 105, 106, 107, 108, 109, 110, 111, 112, 113, 114, 115, 116, 117, 118, 119, 120, 121, 122, 123, 124, 125, 126, 127, 128, 129, 130, 131, 132, 133, 134, 135, 136, 137, 138, 139, 140, 141, 142, 143, 144, 145, 146, 147, 148, 149, 150, 151, 152, 153, 154, 155, 156, 157, 158, 159, 160, 161, 162, 163, 164, 165, 166, 167, 168, 169, 170, 171, 172, 173, 174, 175, 176, 177, 178, 179, 180, 181, 182, 183, 184, 185, 186, 187, 188, 189, 190, 191, 192, 193, 194, 195, 196, 197, 198, 199, 200, 201, 202, 203, 204, 205, 206, 207, 208, 209, 210, 211, 212, 213, 214, 215, 216, 217, 218, 219, 220, 221, 222, 223, 224, 225, 226, 276, 277, 278, 279, 280, 281, 282, 283, 268, 269, 270, 271, 272, 273, 274, 275] (by decide +kernel) (by decide +kernel)
set_option maxRecDepth 20000 in
theorem gX6_load_X2_readSky : GoodIn wsX6_load (wsV RX6 76 RX2 yX2_readSky wsX2_readSky) := goodIn_app (goodIn_of _ (by decide +kernel)) ggX6_load_X2_readSky
set_option maxRecDepth 20000 in
theorem ggX6_load_X6_acceptDraft : GoodIn wsX6_load wsX6_acceptDraft := goodIn_r _ [230, 231, 3, 2, 232, 233, 234, 235, 236, 237, 238, 239, 240, 118, 119, 120, 241, 170, 242, 243, 244, 21, 245, 246, 247, 248, 249, 185, 250, 160, 251, 180, 218, 252, 253, 254, 255, 23, 24, 25, 26, 256, 257, 258, 259, 260, 261, 262, 263, 264, 265, 266, 267, 284, 285, 286, 268, 269, 270, 271, 272, 273, 274, 275] (by decide +kernel) (by decide +kernel)
set_option maxRecDepth 20000 in
theorem gX6_load_X6_acceptDraft : GoodIn wsX6_load (wsV RX6 80 RX6 yX6_acceptDraft wsX6_acceptDraft) := goodIn_app (goodIn_of _ (by decide +kernel)) ggX6_load_X6_acceptDraft
theorem dX6_load_0 : decode cX6_load 0 = .ok (.aload_n 0, 1) := by decide +kernel
theorem dX6_load_1 : decode cX6_load 1 = .ok (.getfield 33, 3) := by decide +kernel
theorem dX6_load_4 : decode cX6_load 4 = .ok (.aload_n 0, 1) := by decide +kernel
theorem dX6_load_5 : decode cX6_load 5 = .ok (.getfield 16, 3) := by decide +kernel
theorem dX6_load_8 : decode cX6_load 8 = .ok (.invokevirtual 76, 3) := by decide +kernel
theorem dX6_load_11 : decode cX6_load 11 = .ok (.istore_n 1, 1) := by decide +kernel
theorem dX6_load_12 : decode cX6_load 12 = .ok (.iload_n 1, 1) := by decide +kernel
theorem dX6_load_13 : decode cX6_load 13 = .ok (.ifCond .eq 5, 3) := by decide +kernel
theorem dX6_load_16 : decode cX6_load 16 = .ok (.iload_n 1, 1) := by decide +kernel
theorem dX6_load_17 : decode cX6_load 17 = .ok (.ireturn, 1) := by decide +kernel
theorem dX6_load_18 : decode cX6_load 18 = .ok (.aload_n 0, 1) := by decide +kernel
theorem dX6_load_19 : decode cX6_load 19 = .ok (.invokevirtual 80, 3) := by decide +kernel
theorem dX6_load_22 : decode cX6_load 22 = .ok (.aload_n 0, 1) := by decide +kernel
theorem dX6_load_23 : decode cX6_load 23 = .ok (.getfield 10, 3) := by decide +kernel
theorem dX6_load_26 : decode cX6_load 26 = .ok (.getfield 83, 3) := by decide +kernel
theorem dX6_load_29 : decode cX6_load 29 = .ok (.ireturn, 1) := by decide +kernel
set_option maxRecDepth 20000 in
theorem ggX6_read_X1_copyFrom : GoodIn wsX6_read wsX1_copyFrom := goodIn_r _ [9, 10, 11, 12, 13, 14, 15, 16, 17, 18, 19, 8, 20, 218, 219, 220, 221, 222, 223, 224, 225] (by decide +kernel) (by decide +kernel)
set_option maxRecDepth 20000 in
theorem gX6_read_X1_copyFrom : GoodIn wsX6_read (wsV RX6 86 RX1 yX1_copyFrom wsX1_copyFrom) := goodIn_app (goodIn_of _ (by decide +kernel)) ggX6_read_X1_copyFrom
set_option maxRecDepth 20000 in
theorem ggX6_read_X2_readSights : GoodIn wsX6_read wsX2_readSights := goodIn_r _ [25, 26, 27, 28, 29, 30, 24, 31, 32, 33, 34, 35, 36, 37, 38, 39, 40, 41, 42, 43, 44, 45, 46, 47, 48, 49, 50, 51, 52, 53, 54, 55, 56, 57, 58, 59, 60, 61, 62, 63, 64, 65, 66, 67, 68, 69, 70, 71, 72, 73, 74, 75, 76, 77, 78, 79, 80, 81, 82, 83, 84, 85, 86, 87, 88, 89, 90, 91, 92, 93, 94, 95, 96, 97, 98, 99, 100, 101, 102, 103, 104, 105, 106, 107, 108, 109, 110, 111, 112, 113, 114, 115, 116, 117, 118, 119, 120, 121, 122, 123, 124, 125, 126, 127, 128, 129, 130, 131, 132, 133, 134, 135, 8, 136, 13, 137, 138, 139, 140, 15, 141, 142, 143, 144, 145, 146, 147, 148, 149, 150, 151, 152, 153, 154, 155, 156, 157, 158, 159, 160, 161, 162, 163, 14, 164, 165, 166, 167, 17, 168, 169, 170, 171, 172, 173, 174, 175, 176, 177, 178, 179, 180, 181, 182, 183, 226, 227, 228, 229, 230, 231, 232, 233, 218, 219, 220, 221, 222, 223, 224, 225] (by decide +kernel) (by decide +kernel)
set_option maxRecDepth 20000 in
theorem gX6_read_X2_readSights : GoodIn wsX6_read (wsV RX6 90 RX2 yX2_readSights wsX2_readSights) := goodIn_app (goodIn_of _ (by decide +kernel)) ggX6_read_X2_readSights
set_option maxRecDepth 20000 in
theorem ggX6_read_X6_acceptDraft : GoodIn wsX6_read wsX6_acceptDraft := goodIn_r _ [187, 188, 2, 1, 189, 190, 191, 192, 193, 194, 195, 196, 197, 154, 155, 156, 198, 146, 199, 200, 201, 8, 202, 203, 204, 205, 206, 10, 207, 15, 208, 16, 17, 5, 6, 7, 9, 11, 12, 13, 14, 18, 19, 20, 209, 210, 211, 212, 213, 214, 215, 216, 217, 234, 235, 236, 218, 219, 220, 221, 222, 223, 224, 225] (by decide +kernel) (by decide +kernel)
set_option maxRecDepth 20000 in
theorem gX6_read_X6_acceptDraft : GoodIn wsX6_read (wsV RX6 80 RX6 yX6_acceptDraft wsX6_acceptDraft) := goodIn_app (goodIn_of _ (by decide +kernel)) ggX6_read_X6_acceptDraft
theorem dX6_read_0 : decode cX6_read 0 = .ok (.aload_n 0, 1) := by decide +kernel
theorem dX6_read_1 : decode cX6_read 1 = .ok (.getfield 16, 3) := by decide +kernel
theorem dX6_read_4 : decode cX6_read 4 = .ok (.aload_n 0, 1) := by decide +kernel
theorem dX6_read_5 : decode cX6_read 5 = .ok (.getfield 10, 3) := by decide +kernel
theorem dX6_read_8 : decode cX6_read 8 = .ok (.invokevirtual 86, 3) := by decide +kernel
theorem dX6_read_11 : decode cX6_read 11 = .ok (.aload_n 0, 1) := by decide +kernel
theorem dX6_read_12 : decode cX6_read 12 = .ok (.getfield 33, 3) := by decide +kernel
theorem dX6_read_15 : decode cX6_read 15 = .ok (.aload_n 0, 1) := by decide +kernel
theorem dX6_read_16 : decode cX6_read 16 = .ok (.getfield 16, 3) := by decide +kernel
theorem dX6_read_19 : decode cX6_read 19 = .ok (.invokevirtual 90, 3) := by decide +kernel
theorem dX6_read_22 : decode cX6_read 22 = .ok (.istore_n 1, 1) := by decide +kernel
theorem dX6_read_23 : decode cX6_read 23 = .ok (.iload_n 1, 1) := by decide +kernel
theorem dX6_read_24 : decode cX6_read 24 = .ok (.ifCond .eq 5, 3) := by decide +kernel
theorem dX6_read_27 : decode cX6_read 27 = .ok (.iload_n 1, 1) := by decide +kernel
theorem dX6_read_28 : decode cX6_read 28 = .ok (.ireturn, 1) := by decide +kernel
theorem dX6_read_29 : decode cX6_read 29 = .ok (.aload_n 0, 1) := by decide +kernel
theorem dX6_read_30 : decode cX6_read 30 = .ok (.invokevirtual 80, 3) := by decide +kernel
theorem dX6_read_33 : decode cX6_read 33 = .ok (.aload_n 0, 1) := by decide +kernel
theorem dX6_read_34 : decode cX6_read 34 = .ok (.getfield 10, 3) := by decide +kernel
theorem dX6_read_37 : decode cX6_read 37 = .ok (.getfield 93, 3) := by decide +kernel
theorem dX6_read_40 : decode cX6_read 40 = .ok (.ireturn, 1) := by decide +kernel
theorem dX6_errorPosition_0 : decode cX6_errorPosition 0 = .ok (.aload_n 0, 1) := by decide +kernel
theorem dX6_errorPosition_1 : decode cX6_errorPosition 1 = .ok (.getfield 33, 3) := by decide +kernel
theorem dX6_errorPosition_4 : decode cX6_errorPosition 4 = .ok (.getfield 96, 3) := by decide +kernel
theorem dX6_errorPosition_7 : decode cX6_errorPosition 7 = .ok (.ireturn, 1) := by decide +kernel
set_option maxRecDepth 20000 in
theorem ggX6_count_X6_lostSights : GoodIn wsX6_count wsX6_lostSights := goodIn_r _ [13, 3, 8, 14, 15, 16, 17, 12, 18, 19, 20, 21, 22, 23, 24, 25, 26, 27, 28, 29, 30, 31, 32, 33, 34, 35, 36, 37, 38, 39, 40, 41, 42, 43, 44, 45, 46, 47, 48, 49, 50, 51, 52, 53, 54, 55, 56, 57, 58, 59, 60, 61, 62, 63, 64, 65, 66, 67, 68, 69, 70, 71, 72, 73, 74, 75, 76, 77, 78, 79, 80, 81, 82, 83, 84, 85, 86, 87, 88, 89, 90, 91, 92, 93, 94, 95, 96, 97, 98, 99, 100, 101, 102, 103, 104, 105, 106, 107, 108, 109, 110, 111, 112, 113, 114, 115, 116, 117, 118, 119, 120, 121, 122, 123, 124, 125, 126, 127, 128] (by decide +kernel) (by decide +kernel)
set_option maxRecDepth 20000 in
theorem gX6_count_X6_lostSights : GoodIn wsX6_count (wsV RX6 108 RX6 yX6_lostSights wsX6_lostSights) := goodIn_app (goodIn_of _ (by decide +kernel)) ggX6_count_X6_lostSights
theorem dX6_count_0 : decode cX6_count 0 = .ok (.iload_n 1, 1) := by decide +kernel
theorem dX6_count_1 : decode cX6_count 1 = .ok (.tableswitch 84 0 5 #[39, 47, 55, 63, 71, 79], 39) := by decide +kernel
theorem dX6_count_40 : decode cX6_count 40 = .ok (.aload_n 0, 1) := by decide +kernel
theorem dX6_count_41 : decode cX6_count 41 = .ok (.getfield 10, 3) := by decide +kernel
theorem dX6_count_44 : decode cX6_count 44 = .ok (.getfield 99, 3) := by decide +kernel
theorem dX6_count_47 : decode cX6_count 47 = .ok (.ireturn, 1) := by decide +kernel
theorem dX6_count_48 : decode cX6_count 48 = .ok (.aload_n 0, 1) := by decide +kernel
theorem dX6_count_49 : decode cX6_count 49 = .ok (.getfield 10, 3) := by decide +kernel
theorem dX6_count_52 : decode cX6_count 52 = .ok (.getfield 102, 3) := by decide +kernel
theorem dX6_count_55 : decode cX6_count 55 = .ok (.ireturn, 1) := by decide +kernel
theorem dX6_count_56 : decode cX6_count 56 = .ok (.aload_n 0, 1) := by decide +kernel
theorem dX6_count_57 : decode cX6_count 57 = .ok (.getfield 10, 3) := by decide +kernel
theorem dX6_count_60 : decode cX6_count 60 = .ok (.getfield 105, 3) := by decide +kernel
theorem dX6_count_63 : decode cX6_count 63 = .ok (.ireturn, 1) := by decide +kernel
theorem dX6_count_64 : decode cX6_count 64 = .ok (.aload_n 0, 1) := by decide +kernel
theorem dX6_count_65 : decode cX6_count 65 = .ok (.getfield 10, 3) := by decide +kernel
theorem dX6_count_68 : decode cX6_count 68 = .ok (.getfield 83, 3) := by decide +kernel
theorem dX6_count_71 : decode cX6_count 71 = .ok (.ireturn, 1) := by decide +kernel
theorem dX6_count_72 : decode cX6_count 72 = .ok (.aload_n 0, 1) := by decide +kernel
theorem dX6_count_73 : decode cX6_count 73 = .ok (.getfield 10, 3) := by decide +kernel
theorem dX6_count_76 : decode cX6_count 76 = .ok (.getfield 93, 3) := by decide +kernel
theorem dX6_count_79 : decode cX6_count 79 = .ok (.ireturn, 1) := by decide +kernel
theorem dX6_count_80 : decode cX6_count 80 = .ok (.aload_n 0, 1) := by decide +kernel
theorem dX6_count_81 : decode cX6_count 81 = .ok (.invokevirtual 108, 3) := by decide +kernel
theorem dX6_count_84 : decode cX6_count 84 = .ok (.ireturn, 1) := by decide +kernel
theorem dX6_count_85 : decode cX6_count 85 = .ok (.new 112, 3) := by decide +kernel
theorem dX6_count_88 : decode cX6_count 88 = .ok (.dup, 1) := by decide +kernel
theorem dX6_count_89 : decode cX6_count 89 = .ok (.invokespecial 114, 3) := by decide +kernel
theorem dX6_count_92 : decode cX6_count 92 = .ok (.athrow, 1) := by decide +kernel
set_option maxRecDepth 20000 in
theorem ggX6_moon_X6_requireMoon : GoodIn wsX6_moon wsX6_requireMoon := goodIn_ca (goodIn_r _ [6, 7, 8, 1, 9, 111, 112, 113, 114, 115, 116, 117, 118, 119, 120, 121, 122, 123, 124, 125, 126, 127] (by decide +kernel) (by decide +kernel)) (goodIn_sub (fun _ h => List.mem_cons_of_mem _ (List.mem_append_left _ (List.mem_append_right _ h))) (by decide +kernel))
set_option maxRecDepth 20000 in
theorem gX6_moon_X6_requireMoon : GoodIn wsX6_moon (wsV RX6 115 RX6 yX6_requireMoon wsX6_requireMoon) := goodIn_app (goodIn_of _ (by decide +kernel)) ggX6_moon_X6_requireMoon
set_option maxRecDepth 20000 in
theorem ggX6_moon_X6_requireBetween : GoodIn wsX6_moon wsX6_requireBetween := goodIn_ca (goodIn_r _ [12, 13, 14] (by decide +kernel) (by decide +kernel)) (goodIn_sub (fun _ h => List.mem_cons_of_mem _ (List.mem_append_right _ h)) (by decide +kernel))
set_option maxRecDepth 20000 in
theorem gX6_moon_X6_requireBetween : GoodIn wsX6_moon (va_wsS RX6 118 yX6_requireBetween wsX6_requireBetween) := goodIn_app (goodIn_of _ (by decide +kernel)) ggX6_moon_X6_requireBetween
set_option maxRecDepth 20000 in
theorem ggX6_moon_X1_sightsOf : GoodIn wsX6_moon wsX1_sightsOf := goodIn_r _ [19, 20, 21, 22, 23, 18, 24, 25, 120, 121, 122, 123, 124, 125, 126, 127] (by decide +kernel) (by decide +kernel)
set_option maxRecDepth 20000 in
theorem gX6_moon_X1_sightsOf : GoodIn wsX6_moon (wsV RX6 122 RX1 yX1_sightsOf wsX1_sightsOf) := goodIn_app (goodIn_of _ (by decide +kernel)) ggX6_moon_X1_sightsOf
set_option maxRecDepth 20000 in
theorem ggX6_moon_X1_moonNumber : GoodIn wsX6_moon wsX1_moonNumber := goodIn_r _ [29, 30, 120, 121, 122, 123, 124, 125, 126, 127] (by decide +kernel) (by decide +kernel)
set_option maxRecDepth 20000 in
theorem gX6_moon_X1_moonNumber : GoodIn wsX6_moon (wsV RX6 125 RX1 yX1_moonNumber wsX1_moonNumber) := goodIn_app (goodIn_of _ (by decide +kernel)) ggX6_moon_X1_moonNumber
set_option maxRecDepth 20000 in
theorem ggX6_moon_X6_burdenOf : GoodIn wsX6_moon wsX6_burdenOf := goodIn_r _ [34, 35, 36, 37, 38, 39, 40, 41, 22, 23, 18, 24, 25, 42, 43, 44, 5, 45, 46, 47, 48, 49, 50, 51, 52, 53, 54, 55, 56, 57, 58, 59, 60, 61, 62, 63, 64, 65, 66, 67, 27, 28, 29, 30, 68, 69, 70, 71, 72, 73, 74, 75, 76, 77, 78, 79, 80, 81, 82, 83, 84, 85, 86, 87, 88, 89, 90, 91, 92, 93, 94, 95, 96, 97, 98, 99, 100, 101, 102, 103, 104, 105, 106, 107, 108, 109, 110, 120, 121, 122, 123, 124, 125, 126, 127, 111, 112, 113, 114, 115, 116, 117, 118, 119, 128, 129, 130, 131, 132, 133, 134, 135, 136, 137, 138, 139, 140, 141, 142] (by decide +kernel) (by decide +kernel)
set_option maxRecDepth 20000 in
theorem gX6_moon_X6_burdenOf : GoodIn wsX6_moon (wsV RX6 129 RX6 yX6_burdenOf wsX6_burdenOf) := goodIn_app (goodIn_of _ (by decide +kernel)) ggX6_moon_X6_burdenOf
theorem dX6_moon_0 : decode cX6_moon 0 = .ok (.aload_n 0, 1) := by decide +kernel
theorem dX6_moon_1 : decode cX6_moon 1 = .ok (.iload_n 1, 1) := by decide +kernel
theorem dX6_moon_2 : decode cX6_moon 2 = .ok (.invokevirtual 115, 3) := by decide +kernel
theorem dX6_moon_5 : decode cX6_moon 5 = .ok (.iload_n 2, 1) := by decide +kernel
theorem dX6_moon_6 : decode cX6_moon 6 = .ok (.iconst 0, 1) := by decide +kernel
theorem dX6_moon_7 : decode cX6_moon 7 = .ok (.bipush 7, 2) := by decide +kernel
theorem dX6_moon_9 : decode cX6_moon 9 = .ok (.invokestatic 118, 3) := by decide +kernel
theorem dX6_moon_12 : decode cX6_moon 12 = .ok (.iload_n 2, 1) := by decide +kernel
theorem dX6_moon_13 : decode cX6_moon 13 = .ok (.bipush 6, 2) := by decide +kernel
theorem dX6_moon_15 : decode cX6_moon 15 = .ok (.if_icmp .ne 12, 3) := by decide +kernel
theorem dX6_moon_18 : decode cX6_moon 18 = .ok (.aload_n 0, 1) := by decide +kernel
theorem dX6_moon_19 : decode cX6_moon 19 = .ok (.getfield 10, 3) := by decide +kernel
theorem dX6_moon_22 : decode cX6_moon 22 = .ok (.iload_n 1, 1) := by decide +kernel
theorem dX6_moon_23 : decode cX6_moon 23 = .ok (.invokevirtual 122, 3) := by decide +kernel
theorem dX6_moon_26 : decode cX6_moon 26 = .ok (.ireturn, 1) := by decide +kernel
theorem dX6_moon_27 : decode cX6_moon 27 = .ok (.iload_n 2, 1) := by decide +kernel
theorem dX6_moon_28 : decode cX6_moon 28 = .ok (.bipush 6, 2) := by decide +kernel
theorem dX6_moon_30 : decode cX6_moon 30 = .ok (.if_icmp .ge 15, 3) := by decide +kernel
theorem dX6_moon_33 : decode cX6_moon 33 = .ok (.aload_n 0, 1) := by decide +kernel
theorem dX6_moon_34 : decode cX6_moon 34 = .ok (.getfield 10, 3) := by decide +kernel
theorem dX6_moon_37 : decode cX6_moon 37 = .ok (.iload_n 1, 1) := by decide +kernel
theorem dX6_moon_38 : decode cX6_moon 38 = .ok (.iload_n 2, 1) := by decide +kernel
theorem dX6_moon_39 : decode cX6_moon 39 = .ok (.invokevirtual 125, 3) := by decide +kernel
theorem dX6_moon_42 : decode cX6_moon 42 = .ok (.goto 12, 3) := by decide +kernel
theorem dX6_moon_45 : decode cX6_moon 45 = .ok (.aload_n 0, 1) := by decide +kernel
theorem dX6_moon_46 : decode cX6_moon 46 = .ok (.aload_n 0, 1) := by decide +kernel
theorem dX6_moon_47 : decode cX6_moon 47 = .ok (.getfield 10, 3) := by decide +kernel
theorem dX6_moon_50 : decode cX6_moon 50 = .ok (.iload_n 1, 1) := by decide +kernel
theorem dX6_moon_51 : decode cX6_moon 51 = .ok (.invokevirtual 129, 3) := by decide +kernel
theorem dX6_moon_54 : decode cX6_moon 54 = .ok (.ireturn, 1) := by decide +kernel
set_option maxRecDepth 20000 in
theorem ggX6_sight_X6_requireSight : GoodIn wsX6_sight wsX6_requireSight := goodIn_ca (goodIn_r _ [6, 7, 8, 1, 9, 98, 99, 100, 101, 102, 103, 104, 105, 106, 107, 108, 109, 110, 111, 112, 113, 114] (by decide +kernel) (by decide +kernel)) (goodIn_sub (fun _ h => List.mem_cons_of_mem _ (List.mem_append_left _ (List.mem_append_right _ h))) (by decide +kernel))
set_option maxRecDepth 20000 in
theorem gX6_sight_X6_requireSight : GoodIn wsX6_sight (wsV RX6 133 RX6 yX6_requireSight wsX6_requireSight) := goodIn_app (goodIn_of _ (by decide +kernel)) ggX6_sight_X6_requireSight
set_option maxRecDepth 20000 in
theorem ggX6_sight_X6_requireBetween : GoodIn wsX6_sight wsX6_requireBetween := goodIn_ca (goodIn_r _ [12, 13, 14] (by decide +kernel) (by decide +kernel)) (goodIn_sub (fun _ h => List.mem_cons_of_mem _ (List.mem_append_right _ h)) (by decide +kernel))
set_option maxRecDepth 20000 in
theorem gX6_sight_X6_requireBetween : GoodIn wsX6_sight (va_wsS RX6 118 yX6_requireBetween wsX6_requireBetween) := goodIn_app (goodIn_of _ (by decide +kernel)) ggX6_sight_X6_requireBetween
set_option maxRecDepth 20000 in
theorem ggX6_sight_X1_sightNumber : GoodIn wsX6_sight wsX1_sightNumber := goodIn_r _ [19, 20, 107, 108, 109, 110, 111, 112, 113, 114] (by decide +kernel) (by decide +kernel)
set_option maxRecDepth 20000 in
theorem gX6_sight_X1_sightNumber : GoodIn wsX6_sight (wsV RX6 136 RX1 yX1_sightNumber wsX1_sightNumber) := goodIn_app (goodIn_of _ (by decide +kernel)) ggX6_sight_X1_sightNumber
set_option maxRecDepth 20000 in
theorem ggX6_sight_X6_offOf : GoodIn wsX6_sight wsX6_offOf := goodIn_r _ [24, 25, 26, 27, 15, 16, 17, 18, 19, 20, 28, 29, 30, 31, 32, 33, 34, 35, 36, 37, 38, 39, 40, 41, 42, 43, 44, 45, 46, 47, 48, 49, 50, 51, 52, 53, 54, 55, 5, 56, 57, 58, 59, 60, 61, 62, 63, 64, 65, 66, 67, 68, 69, 70, 71, 72, 73, 74, 75, 76, 77, 78, 79, 80, 81, 82, 83, 84, 85, 86, 87, 88, 89, 90, 91, 92, 93, 94, 95, 96, 97, 98, 99, 100, 101, 102, 103, 104, 105, 106, 107, 108, 109, 110, 111, 112, 113, 114, 115, 116, 117, 118, 119, 120, 121, 122, 123, 124, 125, 126, 127, 128, 129] (by decide +kernel) (by decide +kernel)
set_option maxRecDepth 20000 in
theorem gX6_sight_X6_offOf : GoodIn wsX6_sight (wsV RX6 139 RX6 yX6_offOf wsX6_offOf) := goodIn_app (goodIn_of _ (by decide +kernel)) ggX6_sight_X6_offOf
theorem dX6_sight_0 : decode cX6_sight 0 = .ok (.aload_n 0, 1) := by decide +kernel
theorem dX6_sight_1 : decode cX6_sight 1 = .ok (.iload_n 1, 1) := by decide +kernel
theorem dX6_sight_2 : decode cX6_sight 2 = .ok (.invokevirtual 133, 3) := by decide +kernel
theorem dX6_sight_5 : decode cX6_sight 5 = .ok (.iload_n 2, 1) := by decide +kernel
theorem dX6_sight_6 : decode cX6_sight 6 = .ok (.iconst 0, 1) := by decide +kernel
theorem dX6_sight_7 : decode cX6_sight 7 = .ok (.iconst 3, 1) := by decide +kernel
theorem dX6_sight_8 : decode cX6_sight 8 = .ok (.invokestatic 118, 3) := by decide +kernel
theorem dX6_sight_11 : decode cX6_sight 11 = .ok (.iload_n 2, 1) := by decide +kernel
theorem dX6_sight_12 : decode cX6_sight 12 = .ok (.iconst 3, 1) := by decide +kernel
theorem dX6_sight_13 : decode cX6_sight 13 = .ok (.if_icmp .ge 15, 3) := by decide +kernel
theorem dX6_sight_16 : decode cX6_sight 16 = .ok (.aload_n 0, 1) := by decide +kernel
theorem dX6_sight_17 : decode cX6_sight 17 = .ok (.getfield 10, 3) := by decide +kernel
theorem dX6_sight_20 : decode cX6_sight 20 = .ok (.iload_n 1, 1) := by decide +kernel
theorem dX6_sight_21 : decode cX6_sight 21 = .ok (.iload_n 2, 1) := by decide +kernel
theorem dX6_sight_22 : decode cX6_sight 22 = .ok (.invokevirtual 136, 3) := by decide +kernel
theorem dX6_sight_25 : decode cX6_sight 25 = .ok (.goto 12, 3) := by decide +kernel
theorem dX6_sight_28 : decode cX6_sight 28 = .ok (.aload_n 0, 1) := by decide +kernel
theorem dX6_sight_29 : decode cX6_sight 29 = .ok (.aload_n 0, 1) := by decide +kernel
theorem dX6_sight_30 : decode cX6_sight 30 = .ok (.getfield 10, 3) := by decide +kernel
theorem dX6_sight_33 : decode cX6_sight 33 = .ok (.iload_n 1, 1) := by decide +kernel
theorem dX6_sight_34 : decode cX6_sight 34 = .ok (.invokevirtual 139, 3) := by decide +kernel
theorem dX6_sight_37 : decode cX6_sight 37 = .ok (.ireturn, 1) := by decide +kernel
set_option maxRecDepth 20000 in
theorem ggX6_sine_X6_sineOf : GoodIn wsX6_sine wsX6_sineOf := goodIn_r _ [4, 5, 6, 7, 8] (by decide +kernel) (by decide +kernel)
set_option maxRecDepth 20000 in
theorem gX6_sine_X6_sineOf : GoodIn wsX6_sine (va_wsS RX6 142 yX6_sineOf wsX6_sineOf) := goodIn_app (goodIn_of _ (by decide +kernel)) ggX6_sine_X6_sineOf
theorem dX6_sine_0 : decode cX6_sine 0 = .ok (.iload_n 1, 1) := by decide +kernel
theorem dX6_sine_1 : decode cX6_sine 1 = .ok (.invokestatic 142, 3) := by decide +kernel
theorem dX6_sine_4 : decode cX6_sine 4 = .ok (.ireturn, 1) := by decide +kernel
set_option maxRecDepth 20000 in
theorem ggX6_light_X6_requireTime : GoodIn wsX6_light wsX6_requireTime := goodIn_ca (goodIn_r _ [8, 9, 10, 11, 7, 12, 13, 14] (by decide +kernel) (by decide +kernel)) (goodIn_sub (fun _ h => List.mem_cons_of_mem _ (List.mem_append_right _ h)) (by decide +kernel))
set_option maxRecDepth 20000 in
theorem gX6_light_X6_requireTime : GoodIn wsX6_light (va_wsS RX6 145 yX6_requireTime wsX6_requireTime) := goodIn_app (goodIn_of _ (by decide +kernel)) ggX6_light_X6_requireTime
set_option maxRecDepth 20000 in
theorem ggX6_light_X6_lightAngle : GoodIn wsX6_light wsX6_lightAngle := goodIn_r _ [17] (by decide +kernel) (by decide +kernel)
set_option maxRecDepth 20000 in
theorem gX6_light_X6_lightAngle : GoodIn wsX6_light (va_wsS RX6 149 yX6_lightAngle wsX6_lightAngle) := goodIn_app (goodIn_of _ (by decide +kernel)) ggX6_light_X6_lightAngle
set_option maxRecDepth 20000 in
theorem ggX6_light_J9_floorMod_7cf53 : GoodIn wsX6_light wsJ9_floorMod_7cf53 := goodIn_r _ [21] (by decide +kernel) (by decide +kernel)
set_option maxRecDepth 20000 in
theorem gX6_light_J9_floorMod_7cf53 : GoodIn wsX6_light (va_wsS RX6 154 yJ9_floorMod_7cf53 wsJ9_floorMod_7cf53) := goodIn_app (goodIn_of _ (by decide +kernel)) ggX6_light_J9_floorMod_7cf53
theorem dX6_light_0 : decode cX6_light 0 = .ok (.iload_n 1, 1) := by decide +kernel
theorem dX6_light_1 : decode cX6_light 1 = .ok (.iconst 0, 1) := by decide +kernel
theorem dX6_light_2 : decode cX6_light 2 = .ok (.invokestatic 145, 3) := by decide +kernel
theorem dX6_light_5 : decode cX6_light 5 = .ok (.aload_n 0, 1) := by decide +kernel
theorem dX6_light_6 : decode cX6_light 6 = .ok (.getfield 10, 3) := by decide +kernel
theorem dX6_light_9 : decode cX6_light 9 = .ok (.getfield 102, 3) := by decide +kernel
theorem dX6_light_12 : decode cX6_light 12 = .ok (.aload_n 0, 1) := by decide +kernel
theorem dX6_light_13 : decode cX6_light 13 = .ok (.getfield 10, 3) := by decide +kernel
theorem dX6_light_16 : decode cX6_light 16 = .ok (.getfield 105, 3) := by decide +kernel
theorem dX6_light_19 : decode cX6_light 19 = .ok (.iload_n 1, 1) := by decide +kernel
theorem dX6_light_20 : decode cX6_light 20 = .ok (.invokestatic 149, 3) := by decide +kernel
theorem dX6_light_23 : decode cX6_light 23 = .ok (.ldc 153, 2) := by decide +kernel
theorem dX6_light_25 : decode cX6_light 25 = .ok (.invokestatic 154, 3) := by decide +kernel
theorem dX6_light_28 : decode cX6_light 28 = .ok (.ireturn, 1) := by decide +kernel
set_option maxRecDepth 20000 in
theorem ggX6_place_X6_lookAt : GoodIn wsX6_place wsX6_lookAt := goodIn_ca (goodIn_ca (goodIn_r _ [10, 1, 11, 12, 13, 14, 9, 15, 16, 17, 18, 19, 20, 21, 22, 23, 24, 25, 26, 27, 28, 29, 30, 31, 32, 33, 34, 35, 36, 37, 38, 39, 40, 41, 42, 43, 44, 45, 46, 47, 48, 49, 50, 51, 52, 53, 54, 55, 56, 57, 58, 59, 60, 61, 62, 63, 64, 65, 66, 67, 68, 69, 70, 71, 72, 73, 74, 75, 76, 77, 78, 79, 80, 81, 82, 83, 84, 85, 86, 87, 88, 104, 105, 106, 107, 108, 109, 110, 111, 89, 90, 91, 92, 93, 94, 95, 96, 97, 98, 99, 100, 101, 102, 103] (by decide +kernel) (by decide +kernel)) (goodIn_sub (fun _ h => List.mem_cons_of_mem _ (List.mem_append_left _ (List.mem_append_right _ h))) (by decide +kernel))) (goodIn_sub (fun _ h => List.mem_cons_of_mem _ (List.mem_append_right _ h)) (by decide +kernel))
set_option maxRecDepth 20000 in
theorem gX6_place_X6_lookAt : GoodIn wsX6_place (wsV RX6 159 RX6 yX6_lookAt wsX6_lookAt) := goodIn_app (goodIn_of _ (by decide +kernel)) ggX6_place_X6_lookAt
set_option maxRecDepth 20000 in
theorem ggX6_place_X6_requireBetween : GoodIn wsX6_place wsX6_requireBetween := goodIn_ca (goodIn_r _ [25, 26, 27] (by decide +kernel) (by decide +kernel)) (goodIn_sub (fun _ h => List.mem_cons_of_mem _ (List.mem_append_right _ h)) (by decide +kernel))
set_option maxRecDepth 20000 in
theorem gX6_place_X6_requireBetween : GoodIn wsX6_place (va_wsS RX6 118 yX6_requireBetween wsX6_requireBetween) := goodIn_app (goodIn_of _ (by decide +kernel)) ggX6_place_X6_requireBetween
theorem dX6_place_0 : decode cX6_place 0 = .ok (.aload_n 0, 1) := by decide +kernel
theorem dX6_place_1 : decode cX6_place 1 = .ok (.iload_n 1, 1) := by decide +kernel
theorem dX6_place_2 : decode cX6_place 2 = .ok (.iload_n 2, 1) := by decide +kernel
theorem dX6_place_3 : decode cX6_place 3 = .ok (.invokevirtual 159, 3) := by decide +kernel
theorem dX6_place_6 : decode cX6_place 6 = .ok (.iload_n 3, 1) := by decide +kernel
theorem dX6_place_7 : decode cX6_place 7 = .ok (.iconst 0, 1) := by decide +kernel
theorem dX6_place_8 : decode cX6_place 8 = .ok (.iconst 3, 1) := by decide +kernel
theorem dX6_place_9 : decode cX6_place 9 = .ok (.invokestatic 118, 3) := by decide +kernel
theorem dX6_place_12 : decode cX6_place 12 = .ok (.iload_n 3, 1) := by decide +kernel
theorem dX6_place_13 : decode cX6_place 13 = .ok (.iconst 2, 1) := by decide +kernel
theorem dX6_place_14 : decode cX6_place 14 = .ok (.if_icmp .ge 25, 3) := by decide +kernel
theorem dX6_place_17 : decode cX6_place 17 = .ok (.iload_n 3, 1) := by decide +kernel
theorem dX6_place_18 : decode cX6_place 18 = .ok (.ifCond .ne 13, 3) := by decide +kernel
theorem dX6_place_21 : decode cX6_place 21 = .ok (.aload_n 0, 1) := by decide +kernel
theorem dX6_place_22 : decode cX6_place 22 = .ok (.getfield 54, 3) := by decide +kernel
theorem dX6_place_25 : decode cX6_place 25 = .ok (.getfield 162, 3) := by decide +kernel
theorem dX6_place_28 : decode cX6_place 28 = .ok (.goto 10, 3) := by decide +kernel
theorem dX6_place_31 : decode cX6_place 31 = .ok (.aload_n 0, 1) := by decide +kernel
theorem dX6_place_32 : decode cX6_place 32 = .ok (.getfield 54, 3) := by decide +kernel
theorem dX6_place_35 : decode cX6_place 35 = .ok (.getfield 165, 3) := by decide +kernel
theorem dX6_place_38 : decode cX6_place 38 = .ok (.ireturn, 1) := by decide +kernel
theorem dX6_place_39 : decode cX6_place 39 = .ok (.iload_n 3, 1) := by decide +kernel
theorem dX6_place_40 : decode cX6_place 40 = .ok (.iconst 2, 1) := by decide +kernel
theorem dX6_place_41 : decode cX6_place 41 = .ok (.if_icmp .ne 13, 3) := by decide +kernel
theorem dX6_place_44 : decode cX6_place 44 = .ok (.aload_n 0, 1) := by decide +kernel
theorem dX6_place_45 : decode cX6_place 45 = .ok (.getfield 54, 3) := by decide +kernel
theorem dX6_place_48 : decode cX6_place 48 = .ok (.getfield 168, 3) := by decide +kernel
theorem dX6_place_51 : decode cX6_place 51 = .ok (.goto 10, 3) := by decide +kernel
theorem dX6_place_54 : decode cX6_place 54 = .ok (.aload_n 0, 1) := by decide +kernel
theorem dX6_place_55 : decode cX6_place 55 = .ok (.getfield 54, 3) := by decide +kernel
theorem dX6_place_58 : decode cX6_place 58 = .ok (.getfield 171, 3) := by decide +kernel
theorem dX6_place_61 : decode cX6_place 61 = .ok (.ireturn, 1) := by decide +kernel
set_option maxRecDepth 20000 in
theorem ggX6_far_X6_lookAt : GoodIn wsX6_far wsX6_lookAt := goodIn_ca (goodIn_ca (goodIn_r _ [8, 1, 9, 10, 11, 12, 7, 13, 14, 15, 16, 17, 18, 19, 20, 21, 22, 23, 24, 25, 26, 27, 28, 29, 30, 31, 32, 33, 34, 35, 36, 37, 38, 39, 40, 41, 42, 43, 44, 45, 46, 47, 48, 49, 50, 51, 52, 53, 54, 55, 56, 57, 58, 59, 60, 61, 62, 63, 64, 65, 66, 67, 68, 69, 70, 71, 72, 73, 74, 75, 76, 77, 78, 79, 80, 81, 82, 83, 84, 85, 86, 102, 103, 104, 105, 106, 107, 108, 109, 87, 88, 89, 90, 91, 92, 93, 94, 95, 96, 97, 98, 99, 100, 101] (by decide +kernel) (by decide +kernel)) (goodIn_sub (fun _ h => List.mem_cons_of_mem _ (List.mem_append_left _ (List.mem_append_right _ h))) (by decide +kernel))) (goodIn_sub (fun _ h => List.mem_cons_of_mem _ (List.mem_append_right _ h)) (by decide +kernel))
set_option maxRecDepth 20000 in
theorem gX6_far_X6_lookAt : GoodIn wsX6_far (wsV RX6 159 RX6 yX6_lookAt wsX6_lookAt) := goodIn_app (goodIn_of _ (by decide +kernel)) ggX6_far_X6_lookAt
theorem dX6_far_0 : decode cX6_far 0 = .ok (.aload_n 0, 1) := by decide +kernel
theorem dX6_far_1 : decode cX6_far 1 = .ok (.iload_n 1, 1) := by decide +kernel
theorem dX6_far_2 : decode cX6_far 2 = .ok (.iload_n 2, 1) := by decide +kernel
theorem dX6_far_3 : decode cX6_far 3 = .ok (.invokevirtual 159, 3) := by decide +kernel
theorem dX6_far_6 : decode cX6_far 6 = .ok (.aload_n 0, 1) := by decide +kernel
theorem dX6_far_7 : decode cX6_far 7 = .ok (.getfield 54, 3) := by decide +kernel
theorem dX6_far_10 : decode cX6_far 10 = .ok (.getfield 162, 3) := by decide +kernel
theorem dX6_far_13 : decode cX6_far 13 = .ok (.i2l, 1) := by decide +kernel
theorem dX6_far_14 : decode cX6_far 14 = .ok (.aload_n 0, 1) := by decide +kernel
theorem dX6_far_15 : decode cX6_far 15 = .ok (.getfield 54, 3) := by decide +kernel
theorem dX6_far_18 : decode cX6_far 18 = .ok (.getfield 162, 3) := by decide +kernel
theorem dX6_far_21 : decode cX6_far 21 = .ok (.i2l, 1) := by decide +kernel
theorem dX6_far_22 : decode cX6_far 22 = .ok (.lmul, 1) := by decide +kernel
theorem dX6_far_23 : decode cX6_far 23 = .ok (.aload_n 0, 1) := by decide +kernel
theorem dX6_far_24 : decode cX6_far 24 = .ok (.getfield 54, 3) := by decide +kernel
theorem dX6_far_27 : decode cX6_far 27 = .ok (.getfield 165, 3) := by decide +kernel
theorem dX6_far_30 : decode cX6_far 30 = .ok (.i2l, 1) := by decide +kernel
theorem dX6_far_31 : decode cX6_far 31 = .ok (.aload_n 0, 1) := by decide +kernel
theorem dX6_far_32 : decode cX6_far 32 = .ok (.getfield 54, 3) := by decide +kernel
theorem dX6_far_35 : decode cX6_far 35 = .ok (.getfield 165, 3) := by decide +kernel
theorem dX6_far_38 : decode cX6_far 38 = .ok (.i2l, 1) := by decide +kernel
theorem dX6_far_39 : decode cX6_far 39 = .ok (.lmul, 1) := by decide +kernel
theorem dX6_far_40 : decode cX6_far 40 = .ok (.ladd, 1) := by decide +kernel
theorem dX6_far_41 : decode cX6_far 41 = .ok (.lreturn, 1) := by decide +kernel
set_option maxRecDepth 20000 in
theorem ggX6_state_X6_lookAt : GoodIn wsX6_state wsX6_lookAt := goodIn_ca (goodIn_ca (goodIn_r _ [6, 1, 7, 8, 9, 10, 5, 11, 12, 13, 14, 15, 16, 17, 18, 19, 20, 21, 22, 23, 24, 25, 26, 27, 28, 29, 30, 31, 32, 33, 34, 35, 36, 37, 38, 39, 40, 41, 42, 43, 44, 45, 46, 47, 48, 49, 50, 51, 52, 53, 54, 55, 56, 57, 58, 59, 60, 61, 62, 63, 64, 65, 66, 67, 68, 69, 70, 71, 72, 73, 74, 75, 84, 85, 86, 87, 88, 89, 90, 91, 92, 93, 94, 95, 96, 97, 98, 99, 100, 101, 102, 103, 104, 105, 106, 107, 108, 109, 110, 111, 112, 113, 114, 115] (by decide +kernel) (by decide +kernel)) (goodIn_sub (fun _ h => List.mem_cons_of_mem _ (List.mem_append_left _ (List.mem_append_right _ h))) (by decide +kernel))) (goodIn_sub (fun _ h => List.mem_cons_of_mem _ (List.mem_append_right _ h)) (by decide +kernel))
set_option maxRecDepth 20000 in
theorem gX6_state_X6_lookAt : GoodIn wsX6_state (wsV RX6 159 RX6 yX6_lookAt wsX6_lookAt) := goodIn_app (goodIn_of _ (by decide +kernel)) ggX6_state_X6_lookAt
set_option maxRecDepth 20000 in
theorem ggX6_state_X3_shadowState : GoodIn wsX6_state wsX3_shadowState := goodIn_r _ [79, 66, 67, 80, 81, 82, 83, 31, 30, 101, 102, 103, 104, 105, 106, 107, 108, 109, 110, 111, 112, 113, 114, 115] (by decide +kernel) (by decide +kernel)
set_option maxRecDepth 20000 in
theorem gX6_state_X3_shadowState : GoodIn wsX6_state (wsV RX6 174 RX3 yX3_shadowState wsX3_shadowState) := goodIn_app (goodIn_of _ (by decide +kernel)) ggX6_state_X3_shadowState
theorem dX6_state_0 : decode cX6_state 0 = .ok (.aload_n 0, 1) := by decide +kernel
theorem dX6_state_1 : decode cX6_state 1 = .ok (.iload_n 1, 1) := by decide +kernel
theorem dX6_state_2 : decode cX6_state 2 = .ok (.iload_n 2, 1) := by decide +kernel
theorem dX6_state_3 : decode cX6_state 3 = .ok (.invokevirtual 159, 3) := by decide +kernel
theorem dX6_state_6 : decode cX6_state 6 = .ok (.aload_n 0, 1) := by decide +kernel
theorem dX6_state_7 : decode cX6_state 7 = .ok (.getfield 54, 3) := by decide +kernel
theorem dX6_state_10 : decode cX6_state 10 = .ok (.invokevirtual 174, 3) := by decide +kernel
theorem dX6_state_13 : decode cX6_state 13 = .ok (.ireturn, 1) := by decide +kernel
set_option maxRecDepth 20000 in
theorem ggX6_casts_X6_lookAt : GoodIn wsX6_casts wsX6_lookAt := goodIn_ca (goodIn_ca (goodIn_r _ [6, 1, 7, 8, 9, 10, 5, 11, 12, 13, 14, 15, 16, 17, 18, 19, 20, 21, 22, 23, 24, 25, 26, 27, 28, 29, 30, 31, 32, 33, 34, 35, 36, 37, 38, 39, 40, 41, 42, 43, 44, 45, 46, 47, 48, 49, 50, 51, 52, 53, 54, 55, 56, 57, 58, 59, 60, 61, 62, 63, 64, 65, 66, 67, 68, 69, 70, 71, 72, 73, 74, 75, 84, 85, 86, 87, 88, 89, 90, 91, 92, 93, 94, 95, 96, 97, 98, 99, 100, 101, 102, 103, 104, 105, 106, 107, 108, 109, 110, 111, 112, 113, 114, 115] (by decide +kernel) (by decide +kernel)) (goodIn_sub (fun _ h => List.mem_cons_of_mem _ (List.mem_append_left _ (List.mem_append_right _ h))) (by decide +kernel))) (goodIn_sub (fun _ h => List.mem_cons_of_mem _ (List.mem_append_right _ h)) (by decide +kernel))
set_option maxRecDepth 20000 in
theorem gX6_casts_X6_lookAt : GoodIn wsX6_casts (wsV RX6 159 RX6 yX6_lookAt wsX6_lookAt) := goodIn_app (goodIn_of _ (by decide +kernel)) ggX6_casts_X6_lookAt
set_option maxRecDepth 20000 in
theorem ggX6_casts_X3_castsShadow : GoodIn wsX6_casts wsX3_castsShadow := goodIn_r _ [79, 66, 67, 80, 81, 82, 83, 30, 31, 101, 102, 103, 104, 105, 106, 107, 108, 109, 110, 111, 112, 113, 114, 115] (by decide +kernel) (by decide +kernel)
set_option maxRecDepth 20000 in
theorem gX6_casts_X3_castsShadow : GoodIn wsX6_casts (wsV RX6 177 RX3 yX3_castsShadow wsX3_castsShadow) := goodIn_app (goodIn_of _ (by decide +kernel)) ggX6_casts_X3_castsShadow
theorem dX6_casts_0 : decode cX6_casts 0 = .ok (.aload_n 0, 1) := by decide +kernel
theorem dX6_casts_1 : decode cX6_casts 1 = .ok (.iload_n 1, 1) := by decide +kernel
theorem dX6_casts_2 : decode cX6_casts 2 = .ok (.iload_n 2, 1) := by decide +kernel
theorem dX6_casts_3 : decode cX6_casts 3 = .ok (.invokevirtual 159, 3) := by decide +kernel
theorem dX6_casts_6 : decode cX6_casts 6 = .ok (.aload_n 0, 1) := by decide +kernel
theorem dX6_casts_7 : decode cX6_casts 7 = .ok (.getfield 54, 3) := by decide +kernel
theorem dX6_casts_10 : decode cX6_casts 10 = .ok (.invokevirtual 177, 3) := by decide +kernel
theorem dX6_casts_13 : decode cX6_casts 13 = .ok (.ireturn, 1) := by decide +kernel
set_option maxRecDepth 20000 in
theorem ggX6_shadedBy_X6_lookAt : GoodIn wsX6_shadedBy wsX6_lookAt := goodIn_ca (goodIn_ca (goodIn_r _ [9, 4, 1, 10, 11, 12, 8, 13, 14, 15, 2, 16, 17, 18, 19, 20, 21, 22, 23, 24, 25, 26, 27, 28, 29, 30, 31, 32, 33, 34, 35, 36, 37, 38, 39, 40, 41, 42, 43, 44, 45, 46, 47, 48, 49, 50, 51, 52, 53, 54, 55, 56, 57, 58, 59, 60, 61, 62, 63, 64, 65, 66, 67, 68, 69, 70, 71, 72, 73, 74, 75, 76, 85, 86, 87, 88, 89, 90, 91, 92, 93, 94, 95, 96, 97, 98, 99, 100, 101, 102, 103, 104, 105, 106, 107, 108, 109, 110, 111, 112, 113, 114, 115, 116] (by decide +kernel) (by decide +kernel)) (goodIn_sub (fun _ h => List.mem_cons_of_mem _ (List.mem_append_left _ (List.mem_append_right _ h))) (by decide +kernel))) (goodIn_sub (fun _ h => List.mem_cons_of_mem _ (List.mem_append_right _ h)) (by decide +kernel))
set_option maxRecDepth 20000 in
theorem gX6_shadedBy_X6_lookAt : GoodIn wsX6_shadedBy (wsV RX6 159 RX6 yX6_lookAt wsX6_lookAt) := goodIn_app (goodIn_of _ (by decide +kernel)) ggX6_shadedBy_X6_lookAt
set_option maxRecDepth 20000 in
theorem ggX6_shadedBy_X3_aim : GoodIn wsX6_shadedBy wsX3_aim := goodIn_r _ [29, 30, 31, 32, 33, 34, 35, 36, 37, 38, 39, 40, 41, 42, 43, 44, 45, 46, 47, 48, 49, 50, 51, 28, 52, 53, 8, 54, 55, 56, 57, 58, 94, 95, 96, 97, 98, 99, 100, 101, 102, 103, 104, 105, 106, 107, 108, 109, 110, 111, 112, 113, 114, 115, 116] (by decide +kernel) (by decide +kernel)
set_option maxRecDepth 20000 in
theorem gX6_shadedBy_X3_aim : GoodIn wsX6_shadedBy (wsV RX6 181 RX3 yX3_aim wsX3_aim) := goodIn_app (goodIn_of _ (by decide +kernel)) ggX6_shadedBy_X3_aim
set_option maxRecDepth 20000 in
theorem ggX6_shadedBy_X3_look : GoodIn wsX6_shadedBy wsX3_look := goodIn_r _ [62, 37, 38, 63, 39, 64, 41, 40, 65, 66, 34, 36, 67, 68, 69, 70, 71, 28, 72, 42, 73, 43, 74, 53, 8, 54, 55, 56, 57, 58, 75, 76, 102, 103, 104, 105, 106, 107, 108, 109, 110, 111, 112, 113, 114, 115, 116] (by decide +kernel) (by decide +kernel)
set_option maxRecDepth 20000 in
theorem gX6_shadedBy_X3_look : GoodIn wsX6_shadedBy (wsV RX6 185 RX3 yX3_look wsX3_look) := goodIn_app (goodIn_of _ (by decide +kernel)) ggX6_shadedBy_X3_look
set_option maxRecDepth 20000 in
theorem ggX6_shadedBy_X3_isShadedBy : GoodIn wsX6_shadedBy wsX3_isShadedBy := goodIn_r _ [80, 67, 68, 81, 82, 83, 84, 32, 102, 103, 104, 105, 106, 107, 108, 109, 110, 111, 112, 113, 114, 115, 116] (by decide +kernel) (by decide +kernel)
set_option maxRecDepth 20000 in
theorem gX6_shadedBy_X3_isShadedBy : GoodIn wsX6_shadedBy (wsV RX6 188 RX3 yX3_isShadedBy wsX3_isShadedBy) := goodIn_app (goodIn_of _ (by decide +kernel)) ggX6_shadedBy_X3_isShadedBy
theorem dX6_shadedBy_0 : decode cX6_shadedBy 0 = .ok (.aload_n 0, 1) := by decide +kernel
theorem dX6_shadedBy_1 : decode cX6_shadedBy 1 = .ok (.iload_n 1, 1) := by decide +kernel
theorem dX6_shadedBy_2 : decode cX6_shadedBy 2 = .ok (.iload_n 2, 1) := by decide +kernel
theorem dX6_shadedBy_3 : decode cX6_shadedBy 3 = .ok (.invokevirtual 159, 3) := by decide +kernel
theorem dX6_shadedBy_6 : decode cX6_shadedBy 6 = .ok (.iconst 0, 1) := by decide +kernel
theorem dX6_shadedBy_7 : decode cX6_shadedBy 7 = .ok (.istore_n 3, 1) := by decide +kernel
theorem dX6_shadedBy_8 : decode cX6_shadedBy 8 = .ok (.iconst 0, 1) := by decide +kernel
theorem dX6_shadedBy_9 : decode cX6_shadedBy 9 = .ok (.istore 4, 2) := by decide +kernel
theorem dX6_shadedBy_11 : decode cX6_shadedBy 11 = .ok (.iload 4, 2) := by decide +kernel
theorem dX6_shadedBy_13 : decode cX6_shadedBy 13 = .ok (.aload_n 0, 1) := by decide +kernel
theorem dX6_shadedBy_14 : decode cX6_shadedBy 14 = .ok (.getfield 10, 3) := by decide +kernel
theorem dX6_shadedBy_17 : decode cX6_shadedBy 17 = .ok (.getfield 83, 3) := by decide +kernel
theorem dX6_shadedBy_20 : decode cX6_shadedBy 20 = .ok (.if_icmp .ge 51, 3) := by decide +kernel
theorem dX6_shadedBy_23 : decode cX6_shadedBy 23 = .ok (.aload_n 0, 1) := by decide +kernel
theorem dX6_shadedBy_24 : decode cX6_shadedBy 24 = .ok (.getfield 58, 3) := by decide +kernel
theorem dX6_shadedBy_27 : decode cX6_shadedBy 27 = .ok (.aload_n 0, 1) := by decide +kernel
theorem dX6_shadedBy_28 : decode cX6_shadedBy 28 = .ok (.getfield 10, 3) := by decide +kernel
theorem dX6_shadedBy_31 : decode cX6_shadedBy 31 = .ok (.iload 4, 2) := by decide +kernel
theorem dX6_shadedBy_33 : decode cX6_shadedBy 33 = .ok (.invokevirtual 181, 3) := by decide +kernel
theorem dX6_shadedBy_36 : decode cX6_shadedBy 36 = .ok (.aload_n 0, 1) := by decide +kernel
theorem dX6_shadedBy_37 : decode cX6_shadedBy 37 = .ok (.getfield 58, 3) := by decide +kernel
theorem dX6_shadedBy_40 : decode cX6_shadedBy 40 = .ok (.iload_n 2, 1) := by decide +kernel
theorem dX6_shadedBy_41 : decode cX6_shadedBy 41 = .ok (.invokevirtual 185, 3) := by decide +kernel
theorem dX6_shadedBy_44 : decode cX6_shadedBy 44 = .ok (.aload_n 0, 1) := by decide +kernel
theorem dX6_shadedBy_45 : decode cX6_shadedBy 45 = .ok (.getfield 54, 3) := by decide +kernel
theorem dX6_shadedBy_48 : decode cX6_shadedBy 48 = .ok (.aload_n 0, 1) := by decide +kernel
theorem dX6_shadedBy_49 : decode cX6_shadedBy 49 = .ok (.getfield 58, 3) := by decide +kernel
theorem dX6_shadedBy_52 : decode cX6_shadedBy 52 = .ok (.invokevirtual 188, 3) := by decide +kernel
theorem dX6_shadedBy_55 : decode cX6_shadedBy 55 = .ok (.ifCond .eq 10, 3) := by decide +kernel
theorem dX6_shadedBy_58 : decode cX6_shadedBy 58 = .ok (.iload_n 3, 1) := by decide +kernel
theorem dX6_shadedBy_59 : decode cX6_shadedBy 59 = .ok (.iconst 1, 1) := by decide +kernel
theorem dX6_shadedBy_60 : decode cX6_shadedBy 60 = .ok (.iload 4, 2) := by decide +kernel
theorem dX6_shadedBy_62 : decode cX6_shadedBy 62 = .ok (.ishl, 1) := by decide +kernel
theorem dX6_shadedBy_63 : decode cX6_shadedBy 63 = .ok (.ior, 1) := by decide +kernel
theorem dX6_shadedBy_64 : decode cX6_shadedBy 64 = .ok (.istore_n 3, 1) := by decide +kernel
theorem dX6_shadedBy_65 : decode cX6_shadedBy 65 = .ok (.iinc 4 1, 3) := by decide +kernel
theorem dX6_shadedBy_68 : decode cX6_shadedBy 68 = .ok (.goto (-57), 3) := by decide +kernel
theorem dX6_shadedBy_71 : decode cX6_shadedBy 71 = .ok (.iload_n 3, 1) := by decide +kernel
theorem dX6_shadedBy_72 : decode cX6_shadedBy 72 = .ok (.ireturn, 1) := by decide +kernel
set_option maxRecDepth 20000 in
theorem ggX6_whyLit_X6_lookAt : GoodIn wsX6_whyLit wsX6_lookAt := goodIn_ca (goodIn_ca (goodIn_r _ [7, 1, 8, 9, 10, 11, 6, 12, 13, 14, 15, 16, 17, 18, 19, 20, 21, 22, 23, 24, 25, 26, 27, 28, 29, 30, 31, 32, 33, 34, 35, 36, 37, 38, 39, 40, 41, 42, 43, 44, 45, 46, 47, 48, 49, 50, 51, 52, 53, 54, 55, 56, 57, 58, 59, 60, 61, 62, 63, 64, 65, 66, 67, 68, 69, 70, 71, 72, 73, 74, 75, 76, 85, 86, 87, 88, 89, 90, 91, 92, 93, 109, 110, 111, 112, 113, 114, 115, 116, 94, 95, 96, 97, 98, 99, 100, 101, 102, 103, 104, 105, 106, 107, 108] (by decide +kernel) (by decide +kernel)) (goodIn_sub (fun _ h => List.mem_cons_of_mem _ (List.mem_append_left _ (List.mem_append_right _ h))) (by decide +kernel))) (goodIn_sub (fun _ h => List.mem_cons_of_mem _ (List.mem_append_right _ h)) (by decide +kernel))
set_option maxRecDepth 20000 in
theorem gX6_whyLit_X6_lookAt : GoodIn wsX6_whyLit (wsV RX6 159 RX6 yX6_lookAt wsX6_lookAt) := goodIn_app (goodIn_of _ (by decide +kernel)) ggX6_whyLit_X6_lookAt
set_option maxRecDepth 20000 in
theorem ggX6_whyLit_X3_shadowState : GoodIn wsX6_whyLit wsX3_shadowState := goodIn_r _ [80, 67, 68, 81, 82, 83, 84, 32, 31, 94, 95, 96, 97, 98, 99, 100, 101, 102, 103, 104, 105, 106, 107, 108] (by decide +kernel) (by decide +kernel)
set_option maxRecDepth 20000 in
theorem gX6_whyLit_X3_shadowState : GoodIn wsX6_whyLit (wsV RX6 174 RX3 yX3_shadowState wsX3_shadowState) := goodIn_app (goodIn_of _ (by decide +kernel)) ggX6_whyLit_X3_shadowState
theorem dX6_whyLit_0 : decode cX6_whyLit 0 = .ok (.aload_n 0, 1) := by decide +kernel
theorem dX6_whyLit_1 : decode cX6_whyLit 1 = .ok (.iload_n 1, 1) := by decide +kernel
theorem dX6_whyLit_2 : decode cX6_whyLit 2 = .ok (.iload_n 2, 1) := by decide +kernel
theorem dX6_whyLit_3 : decode cX6_whyLit 3 = .ok (.invokevirtual 159, 3) := by decide +kernel
theorem dX6_whyLit_6 : decode cX6_whyLit 6 = .ok (.aload_n 0, 1) := by decide +kernel
theorem dX6_whyLit_7 : decode cX6_whyLit 7 = .ok (.getfield 54, 3) := by decide +kernel
theorem dX6_whyLit_10 : decode cX6_whyLit 10 = .ok (.invokevirtual 174, 3) := by decide +kernel
theorem dX6_whyLit_13 : decode cX6_whyLit 13 = .ok (.ifCond .eq 5, 3) := by decide +kernel
theorem dX6_whyLit_16 : decode cX6_whyLit 16 = .ok (.iconst 0, 1) := by decide +kernel
theorem dX6_whyLit_17 : decode cX6_whyLit 17 = .ok (.ireturn, 1) := by decide +kernel
theorem dX6_whyLit_18 : decode cX6_whyLit 18 = .ok (.aload_n 0, 1) := by decide +kernel
theorem dX6_whyLit_19 : decode cX6_whyLit 19 = .ok (.getfield 54, 3) := by decide +kernel
theorem dX6_whyLit_22 : decode cX6_whyLit 22 = .ok (.getfield 168, 3) := by decide +kernel
theorem dX6_whyLit_25 : decode cX6_whyLit 25 = .ok (.ifCond .ge 7, 3) := by decide +kernel
theorem dX6_whyLit_28 : decode cX6_whyLit 28 = .ok (.iconst 2, 1) := by decide +kernel
theorem dX6_whyLit_29 : decode cX6_whyLit 29 = .ok (.goto 4, 3) := by decide +kernel
theorem dX6_whyLit_32 : decode cX6_whyLit 32 = .ok (.iconst 1, 1) := by decide +kernel
theorem dX6_whyLit_33 : decode cX6_whyLit 33 = .ok (.ireturn, 1) := by decide +kernel
set_option maxRecDepth 20000 in
theorem ggX6_meeting_X6_requireMoon : GoodIn wsX6_meeting wsX6_requireMoon := goodIn_ca (goodIn_r _ [8, 9, 10, 2, 11, 88, 89, 90, 91, 92, 93, 94, 95, 96, 97, 98, 99, 100, 101, 102, 103, 104] (by decide +kernel) (by decide +kernel)) (goodIn_sub (fun _ h => List.mem_cons_of_mem _ (List.mem_append_left _ (List.mem_append_right _ h))) (by decide +kernel))
set_option maxRecDepth 20000 in
theorem gX6_meeting_X6_requireMoon : GoodIn wsX6_meeting (wsV RX6 115 RX6 yX6_requireMoon wsX6_requireMoon) := goodIn_app (goodIn_of _ (by decide +kernel)) ggX6_meeting_X6_requireMoon
set_option maxRecDepth 20000 in
theorem ggX6_meeting_X6_requireTime : GoodIn wsX6_meeting wsX6_requireTime := goodIn_ca (goodIn_r _ [14, 15, 16, 17, 7, 18, 19, 20] (by decide +kernel) (by decide +kernel)) (goodIn_sub (fun _ h => List.mem_cons_of_mem _ (List.mem_append_right _ h)) (by decide +kernel))
set_option maxRecDepth 20000 in
theorem gX6_meeting_X6_requireTime : GoodIn wsX6_meeting (va_wsS RX6 145 yX6_requireTime wsX6_requireTime) := goodIn_app (goodIn_of _ (by decide +kernel)) ggX6_meeting_X6_requireTime
set_option maxRecDepth 20000 in
theorem ggX6_meeting_X3_aim : GoodIn wsX6_meeting wsX3_aim := goodIn_r _ [25, 26, 27, 28, 29, 30, 31, 32, 33, 34, 35, 36, 37, 38, 39, 40, 41, 42, 43, 44, 45, 46, 47, 24, 48, 49, 7, 50, 51, 52, 53, 54, 97, 98, 99, 100, 101, 102, 103, 104, 105, 106, 107, 108, 109, 110, 111, 112, 113, 114, 115, 116, 117, 118, 119] (by decide +kernel) (by decide +kernel)
set_option maxRecDepth 20000 in
theorem gX6_meeting_X3_aim : GoodIn wsX6_meeting (wsV RX6 181 RX3 yX3_aim wsX3_aim) := goodIn_app (goodIn_of _ (by decide +kernel)) ggX6_meeting_X3_aim
set_option maxRecDepth 20000 in
theorem ggX6_meeting_X6_searchEnd : GoodIn wsX6_meeting wsX6_searchEnd := goodIn_r _ [57, 15, 58, 59, 60, 61] (by decide +kernel) (by decide +kernel)
set_option maxRecDepth 20000 in
theorem gX6_meeting_X6_searchEnd : GoodIn wsX6_meeting (va_wsS RX6 192 yX6_searchEnd wsX6_searchEnd) := goodIn_app (goodIn_of _ (by decide +kernel)) ggX6_meeting_X6_searchEnd
set_option maxRecDepth 20000 in
theorem ggX6_meeting_X3_look : GoodIn wsX6_meeting wsX3_look := goodIn_r _ [65, 33, 34, 66, 35, 67, 37, 36, 68, 69, 30, 32, 70, 71, 72, 73, 74, 24, 75, 38, 76, 39, 77, 49, 7, 50, 51, 52, 53, 54, 78, 79, 105, 106, 107, 108, 109, 110, 111, 112, 113, 114, 115, 116, 117, 118, 119] (by decide +kernel) (by decide +kernel)
set_option maxRecDepth 20000 in
theorem gX6_meeting_X3_look : GoodIn wsX6_meeting (wsV RX6 185 RX3 yX3_look wsX3_look) := goodIn_app (goodIn_of _ (by decide +kernel)) ggX6_meeting_X3_look
set_option maxRecDepth 20000 in
theorem ggX6_meeting_X3_meets : GoodIn wsX6_meeting wsX3_meets := goodIn_r _ [83, 68, 69, 84, 85, 60, 86, 87, 105, 106, 107, 108, 109, 110, 111, 112, 113, 114, 115, 116, 117, 118, 119] (by decide +kernel) (by decide +kernel)
set_option maxRecDepth 20000 in
theorem gX6_meeting_X3_meets : GoodIn wsX6_meeting (wsV RX6 195 RX3 yX3_meets wsX3_meets) := goodIn_app (goodIn_of _ (by decide +kernel)) ggX6_meeting_X3_meets
theorem dX6_meeting_0 : decode cX6_meeting 0 = .ok (.aload_n 0, 1) := by decide +kernel
theorem dX6_meeting_1 : decode cX6_meeting 1 = .ok (.iload_n 1, 1) := by decide +kernel
theorem dX6_meeting_2 : decode cX6_meeting 2 = .ok (.invokevirtual 115, 3) := by decide +kernel
theorem dX6_meeting_5 : decode cX6_meeting 5 = .ok (.aload_n 0, 1) := by decide +kernel
theorem dX6_meeting_6 : decode cX6_meeting 6 = .ok (.iload_n 2, 1) := by decide +kernel
theorem dX6_meeting_7 : decode cX6_meeting 7 = .ok (.invokevirtual 115, 3) := by decide +kernel
theorem dX6_meeting_10 : decode cX6_meeting 10 = .ok (.iload_n 3, 1) := by decide +kernel
theorem dX6_meeting_11 : decode cX6_meeting 11 = .ok (.iconst 0, 1) := by decide +kernel
theorem dX6_meeting_12 : decode cX6_meeting 12 = .ok (.invokestatic 145, 3) := by decide +kernel
theorem dX6_meeting_15 : decode cX6_meeting 15 = .ok (.iload_n 1, 1) := by decide +kernel
theorem dX6_meeting_16 : decode cX6_meeting 16 = .ok (.iload_n 2, 1) := by decide +kernel
theorem dX6_meeting_17 : decode cX6_meeting 17 = .ok (.if_icmp .ne 5, 3) := by decide +kernel
theorem dX6_meeting_20 : decode cX6_meeting 20 = .ok (.iconst (-1), 1) := by decide +kernel
theorem dX6_meeting_21 : decode cX6_meeting 21 = .ok (.ireturn, 1) := by decide +kernel
theorem dX6_meeting_22 : decode cX6_meeting 22 = .ok (.aload_n 0, 1) := by decide +kernel
theorem dX6_meeting_23 : decode cX6_meeting 23 = .ok (.getfield 54, 3) := by decide +kernel
theorem dX6_meeting_26 : decode cX6_meeting 26 = .ok (.aload_n 0, 1) := by decide +kernel
theorem dX6_meeting_27 : decode cX6_meeting 27 = .ok (.getfield 10, 3) := by decide +kernel
theorem dX6_meeting_30 : decode cX6_meeting 30 = .ok (.iload_n 1, 1) := by decide +kernel
theorem dX6_meeting_31 : decode cX6_meeting 31 = .ok (.invokevirtual 181, 3) := by decide +kernel
theorem dX6_meeting_34 : decode cX6_meeting 34 = .ok (.aload_n 0, 1) := by decide +kernel
theorem dX6_meeting_35 : decode cX6_meeting 35 = .ok (.getfield 58, 3) := by decide +kernel
theorem dX6_meeting_38 : decode cX6_meeting 38 = .ok (.aload_n 0, 1) := by decide +kernel
theorem dX6_meeting_39 : decode cX6_meeting 39 = .ok (.getfield 10, 3) := by decide +kernel
theorem dX6_meeting_42 : decode cX6_meeting 42 = .ok (.iload_n 2, 1) := by decide +kernel
theorem dX6_meeting_43 : decode cX6_meeting 43 = .ok (.invokevirtual 181, 3) := by decide +kernel
theorem dX6_meeting_46 : decode cX6_meeting 46 = .ok (.iload_n 3, 1) := by decide +kernel
theorem dX6_meeting_47 : decode cX6_meeting 47 = .ok (.invokestatic 192, 3) := by decide +kernel
theorem dX6_meeting_50 : decode cX6_meeting 50 = .ok (.istore 4, 2) := by decide +kernel
theorem dX6_meeting_52 : decode cX6_meeting 52 = .ok (.iload_n 3, 1) := by decide +kernel
theorem dX6_meeting_53 : decode cX6_meeting 53 = .ok (.istore 5, 2) := by decide +kernel
theorem dX6_meeting_55 : decode cX6_meeting 55 = .ok (.iload 5, 2) := by decide +kernel
theorem dX6_meeting_57 : decode cX6_meeting 57 = .ok (.iload 4, 2) := by decide +kernel
theorem dX6_meeting_59 : decode cX6_meeting 59 = .ok (.if_icmp .gt 44, 3) := by decide +kernel
theorem dX6_meeting_62 : decode cX6_meeting 62 = .ok (.aload_n 0, 1) := by decide +kernel
theorem dX6_meeting_63 : decode cX6_meeting 63 = .ok (.getfield 54, 3) := by decide +kernel
theorem dX6_meeting_66 : decode cX6_meeting 66 = .ok (.iload 5, 2) := by decide +kernel
theorem dX6_meeting_68 : decode cX6_meeting 68 = .ok (.invokevirtual 185, 3) := by decide +kernel
theorem dX6_meeting_71 : decode cX6_meeting 71 = .ok (.aload_n 0, 1) := by decide +kernel
theorem dX6_meeting_72 : decode cX6_meeting 72 = .ok (.getfield 58, 3) := by decide +kernel
theorem dX6_meeting_75 : decode cX6_meeting 75 = .ok (.iload 5, 2) := by decide +kernel
theorem dX6_meeting_77 : decode cX6_meeting 77 = .ok (.invokevirtual 185, 3) := by decide +kernel
theorem dX6_meeting_80 : decode cX6_meeting 80 = .ok (.aload_n 0, 1) := by decide +kernel
theorem dX6_meeting_81 : decode cX6_meeting 81 = .ok (.getfield 54, 3) := by decide +kernel
theorem dX6_meeting_84 : decode cX6_meeting 84 = .ok (.aload_n 0, 1) := by decide +kernel
theorem dX6_meeting_85 : decode cX6_meeting 85 = .ok (.getfield 58, 3) := by decide +kernel
theorem dX6_meeting_88 : decode cX6_meeting 88 = .ok (.invokevirtual 195, 3) := by decide +kernel
theorem dX6_meeting_91 : decode cX6_meeting 91 = .ok (.ifCond .eq 6, 3) := by decide +kernel
theorem dX6_meeting_94 : decode cX6_meeting 94 = .ok (.iload 5, 2) := by decide +kernel
theorem dX6_meeting_96 : decode cX6_meeting 96 = .ok (.ireturn, 1) := by decide +kernel
theorem dX6_meeting_97 : decode cX6_meeting 97 = .ok (.iinc 5 1, 3) := by decide +kernel
theorem dX6_meeting_100 : decode cX6_meeting 100 = .ok (.goto (-45), 3) := by decide +kernel
theorem dX6_meeting_103 : decode cX6_meeting 103 = .ok (.iconst (-1), 1) := by decide +kernel
theorem dX6_meeting_104 : decode cX6_meeting 104 = .ok (.ireturn, 1) := by decide +kernel
set_option maxRecDepth 20000 in
theorem ggX6_ticks_X6_requireMoon : GoodIn wsX6_ticks wsX6_requireMoon := goodIn_ca (goodIn_r _ [7, 8, 9, 2, 10, 86, 87, 88, 89, 90, 91, 92, 93, 94, 95, 96, 97, 98, 99, 100, 101, 102] (by decide +kernel) (by decide +kernel)) (goodIn_sub (fun _ h => List.mem_cons_of_mem _ (List.mem_append_left _ (List.mem_append_right _ h))) (by decide +kernel))
set_option maxRecDepth 20000 in
theorem gX6_ticks_X6_requireMoon : GoodIn wsX6_ticks (wsV RX6 115 RX6 yX6_requireMoon wsX6_requireMoon) := goodIn_app (goodIn_of _ (by decide +kernel)) ggX6_ticks_X6_requireMoon
set_option maxRecDepth 20000 in
theorem ggX6_ticks_X6_requireTime : GoodIn wsX6_ticks wsX6_requireTime := goodIn_ca (goodIn_r _ [13, 14, 15, 16, 6, 17, 18, 19] (by decide +kernel) (by decide +kernel)) (goodIn_sub (fun _ h => List.mem_cons_of_mem _ (List.mem_append_right _ h)) (by decide +kernel))
set_option maxRecDepth 20000 in
theorem gX6_ticks_X6_requireTime : GoodIn wsX6_ticks (va_wsS RX6 145 yX6_requireTime wsX6_requireTime) := goodIn_app (goodIn_of _ (by decide +kernel)) ggX6_ticks_X6_requireTime
set_option maxRecDepth 20000 in
theorem ggX6_ticks_X6_searchEnd : GoodIn wsX6_ticks wsX6_searchEnd := goodIn_r _ [22, 14, 23, 24, 25, 26] (by decide +kernel) (by decide +kernel)
set_option maxRecDepth 20000 in
theorem gX6_ticks_X6_searchEnd : GoodIn wsX6_ticks (va_wsS RX6 192 yX6_searchEnd wsX6_searchEnd) := goodIn_app (goodIn_of _ (by decide +kernel)) ggX6_ticks_X6_searchEnd
set_option maxRecDepth 20000 in
theorem ggX6_ticks_X6_requireBetween : GoodIn wsX6_ticks wsX6_requireBetween := goodIn_ca (goodIn_r _ [17, 18, 19] (by decide +kernel) (by decide +kernel)) (goodIn_sub (fun _ h => List.mem_cons_of_mem _ (List.mem_append_right _ h)) (by decide +kernel))
set_option maxRecDepth 20000 in
theorem gX6_ticks_X6_requireBetween : GoodIn wsX6_ticks (va_wsS RX6 118 yX6_requireBetween wsX6_requireBetween) := goodIn_app (goodIn_of _ (by decide +kernel)) ggX6_ticks_X6_requireBetween
set_option maxRecDepth 20000 in
theorem ggX6_ticks_X3_aim : GoodIn wsX6_ticks wsX3_aim := goodIn_r _ [31, 32, 33, 34, 35, 36, 37, 38, 39, 40, 41, 42, 43, 44, 45, 46, 47, 48, 49, 50, 51, 52, 53, 30, 54, 55, 6, 56, 57, 58, 59, 60, 95, 96, 97, 98, 99, 100, 101, 102, 103, 104, 105, 106, 107, 108, 109, 110, 111, 112, 113, 114, 115, 116, 117] (by decide +kernel) (by decide +kernel)
set_option maxRecDepth 20000 in
theorem gX6_ticks_X3_aim : GoodIn wsX6_ticks (wsV RX6 181 RX3 yX3_aim wsX3_aim) := goodIn_app (goodIn_of _ (by decide +kernel)) ggX6_ticks_X3_aim
set_option maxRecDepth 20000 in
theorem ggX6_ticks_X3_look : GoodIn wsX6_ticks wsX3_look := goodIn_r _ [64, 39, 40, 65, 41, 66, 43, 42, 67, 68, 36, 38, 69, 70, 71, 72, 73, 30, 74, 44, 75, 45, 76, 55, 6, 56, 57, 58, 59, 60, 77, 78, 103, 104, 105, 106, 107, 108, 109, 110, 111, 112, 113, 114, 115, 116, 117] (by decide +kernel) (by decide +kernel)
set_option maxRecDepth 20000 in
theorem gX6_ticks_X3_look : GoodIn wsX6_ticks (wsV RX6 185 RX3 yX3_look wsX3_look) := goodIn_app (goodIn_of _ (by decide +kernel)) ggX6_ticks_X3_look
set_option maxRecDepth 20000 in
theorem ggX6_ticks_X3_shadowState : GoodIn wsX6_ticks wsX3_shadowState := goodIn_r _ [82, 69, 70, 83, 84, 25, 85, 34, 33, 103, 104, 105, 106, 107, 108, 109, 110, 111, 112, 113, 114, 115, 116, 117] (by decide +kernel) (by decide +kernel)
set_option maxRecDepth 20000 in
theorem gX6_ticks_X3_shadowState : GoodIn wsX6_ticks (wsV RX6 174 RX3 yX3_shadowState wsX3_shadowState) := goodIn_app (goodIn_of _ (by decide +kernel)) ggX6_ticks_X3_shadowState
theorem dX6_ticks_0 : decode cX6_ticks 0 = .ok (.aload_n 0, 1) := by decide +kernel
theorem dX6_ticks_1 : decode cX6_ticks 1 = .ok (.iload_n 1, 1) := by decide +kernel
theorem dX6_ticks_2 : decode cX6_ticks 2 = .ok (.invokevirtual 115, 3) := by decide +kernel
theorem dX6_ticks_5 : decode cX6_ticks 5 = .ok (.iload_n 2, 1) := by decide +kernel
theorem dX6_ticks_6 : decode cX6_ticks 6 = .ok (.iconst 0, 1) := by decide +kernel
theorem dX6_ticks_7 : decode cX6_ticks 7 = .ok (.invokestatic 145, 3) := by decide +kernel
theorem dX6_ticks_10 : decode cX6_ticks 10 = .ok (.iload_n 3, 1) := by decide +kernel
theorem dX6_ticks_11 : decode cX6_ticks 11 = .ok (.iload_n 2, 1) := by decide +kernel
theorem dX6_ticks_12 : decode cX6_ticks 12 = .ok (.iload_n 2, 1) := by decide +kernel
theorem dX6_ticks_13 : decode cX6_ticks 13 = .ok (.invokestatic 192, 3) := by decide +kernel
theorem dX6_ticks_16 : decode cX6_ticks 16 = .ok (.invokestatic 118, 3) := by decide +kernel
theorem dX6_ticks_19 : decode cX6_ticks 19 = .ok (.iload 4, 2) := by decide +kernel
theorem dX6_ticks_21 : decode cX6_ticks 21 = .ok (.iconst 0, 1) := by decide +kernel
theorem dX6_ticks_22 : decode cX6_ticks 22 = .ok (.iconst 2, 1) := by decide +kernel
theorem dX6_ticks_23 : decode cX6_ticks 23 = .ok (.invokestatic 118, 3) := by decide +kernel
theorem dX6_ticks_26 : decode cX6_ticks 26 = .ok (.aload_n 0, 1) := by decide +kernel
theorem dX6_ticks_27 : decode cX6_ticks 27 = .ok (.getfield 54, 3) := by decide +kernel
theorem dX6_ticks_30 : decode cX6_ticks 30 = .ok (.aload_n 0, 1) := by decide +kernel
theorem dX6_ticks_31 : decode cX6_ticks 31 = .ok (.getfield 10, 3) := by decide +kernel
theorem dX6_ticks_34 : decode cX6_ticks 34 = .ok (.iload_n 1, 1) := by decide +kernel
theorem dX6_ticks_35 : decode cX6_ticks 35 = .ok (.invokevirtual 181, 3) := by decide +kernel
theorem dX6_ticks_38 : decode cX6_ticks 38 = .ok (.iconst 0, 1) := by decide +kernel
theorem dX6_ticks_39 : decode cX6_ticks 39 = .ok (.istore 5, 2) := by decide +kernel
theorem dX6_ticks_41 : decode cX6_ticks 41 = .ok (.iload_n 2, 1) := by decide +kernel
theorem dX6_ticks_42 : decode cX6_ticks 42 = .ok (.istore 6, 2) := by decide +kernel
theorem dX6_ticks_44 : decode cX6_ticks 44 = .ok (.iload 6, 2) := by decide +kernel
theorem dX6_ticks_46 : decode cX6_ticks 46 = .ok (.iload_n 3, 1) := by decide +kernel
theorem dX6_ticks_47 : decode cX6_ticks 47 = .ok (.if_icmp .gt 33, 3) := by decide +kernel
theorem dX6_ticks_50 : decode cX6_ticks 50 = .ok (.aload_n 0, 1) := by decide +kernel
theorem dX6_ticks_51 : decode cX6_ticks 51 = .ok (.getfield 54, 3) := by decide +kernel
theorem dX6_ticks_54 : decode cX6_ticks 54 = .ok (.iload 6, 2) := by decide +kernel
theorem dX6_ticks_56 : decode cX6_ticks 56 = .ok (.invokevirtual 185, 3) := by decide +kernel
theorem dX6_ticks_59 : decode cX6_ticks 59 = .ok (.aload_n 0, 1) := by decide +kernel
theorem dX6_ticks_60 : decode cX6_ticks 60 = .ok (.getfield 54, 3) := by decide +kernel
theorem dX6_ticks_63 : decode cX6_ticks 63 = .ok (.invokevirtual 174, 3) := by decide +kernel
theorem dX6_ticks_66 : decode cX6_ticks 66 = .ok (.iload 4, 2) := by decide +kernel
theorem dX6_ticks_68 : decode cX6_ticks 68 = .ok (.if_icmp .ne 6, 3) := by decide +kernel
theorem dX6_ticks_71 : decode cX6_ticks 71 = .ok (.iinc 5 1, 3) := by decide +kernel
theorem dX6_ticks_74 : decode cX6_ticks 74 = .ok (.iinc 6 1, 3) := by decide +kernel
theorem dX6_ticks_77 : decode cX6_ticks 77 = .ok (.goto (-33), 3) := by decide +kernel
theorem dX6_ticks_80 : decode cX6_ticks 80 = .ok (.iload 5, 2) := by decide +kernel
theorem dX6_ticks_82 : decode cX6_ticks 82 = .ok (.ireturn, 1) := by decide +kernel
set_option maxRecDepth 20000 in
theorem ggX6_darkest_X6_requireTable : GoodIn wsX6_darkest wsX6_requireTable := goodIn_ca (goodIn_r _ [4, 5, 6, 7, 8, 9, 10, 11, 3, 12, 13, 14, 15, 16, 17] (by decide +kernel) (by decide +kernel)) (goodIn_sub (fun _ h => List.mem_cons_of_mem _ (List.mem_append_right _ h)) (by decide +kernel))
set_option maxRecDepth 20000 in
theorem gX6_darkest_X6_requireTable : GoodIn wsX6_darkest (va_wsS RX6 198 yX6_requireTable wsX6_requireTable) := goodIn_app (goodIn_of _ (by decide +kernel)) ggX6_darkest_X6_requireTable
set_option maxRecDepth 20000 in
theorem ggX6_darkest_X6_darkMoons : GoodIn wsX6_darkest wsX6_darkMoons := goodIn_r _ [21, 22, 23, 24, 25, 26, 27, 28, 29, 30, 31, 32, 33, 34, 35, 36, 37, 38, 39, 40, 41, 42, 43, 44, 45, 46, 47, 48, 49, 50, 51, 52, 53, 3, 54, 55, 56, 57, 58, 59, 60, 61, 62, 63, 64, 65, 66, 67, 68, 69, 70, 71, 72, 73, 74, 75, 76, 77, 78, 79, 80, 81, 82, 8, 83, 84, 85, 86, 87, 88, 89, 90, 91, 92, 93, 94, 95, 96, 97, 98, 99, 100, 101, 102, 103, 104, 105, 106, 107, 108, 109, 110, 111, 112, 113, 114, 115] (by decide +kernel) (by decide +kernel)
set_option maxRecDepth 20000 in
theorem gX6_darkest_X6_darkMoons : GoodIn wsX6_darkest (wsV RX6 201 RX6 yX6_darkMoons wsX6_darkMoons) := goodIn_app (goodIn_of _ (by decide +kernel)) ggX6_darkest_X6_darkMoons
theorem dX6_darkest_0 : decode cX6_darkest 0 = .ok (.iload_n 1, 1) := by decide +kernel
theorem dX6_darkest_1 : decode cX6_darkest 1 = .ok (.iload_n 2, 1) := by decide +kernel
theorem dX6_darkest_2 : decode cX6_darkest 2 = .ok (.iconst 0, 1) := by decide +kernel
theorem dX6_darkest_3 : decode cX6_darkest 3 = .ok (.invokestatic 198, 3) := by decide +kernel
theorem dX6_darkest_6 : decode cX6_darkest 6 = .ok (.iconst (-1), 1) := by decide +kernel
theorem dX6_darkest_7 : decode cX6_darkest 7 = .ok (.istore_n 3, 1) := by decide +kernel
theorem dX6_darkest_8 : decode cX6_darkest 8 = .ok (.iconst 0, 1) := by decide +kernel
theorem dX6_darkest_9 : decode cX6_darkest 9 = .ok (.istore 4, 2) := by decide +kernel
theorem dX6_darkest_11 : decode cX6_darkest 11 = .ok (.iload_n 1, 1) := by decide +kernel
theorem dX6_darkest_12 : decode cX6_darkest 12 = .ok (.istore 5, 2) := by decide +kernel
theorem dX6_darkest_14 : decode cX6_darkest 14 = .ok (.iload 5, 2) := by decide +kernel
theorem dX6_darkest_16 : decode cX6_darkest 16 = .ok (.iload_n 2, 1) := by decide +kernel
theorem dX6_darkest_17 : decode cX6_darkest 17 = .ok (.if_icmp .gt 31, 3) := by decide +kernel
theorem dX6_darkest_20 : decode cX6_darkest 20 = .ok (.aload_n 0, 1) := by decide +kernel
theorem dX6_darkest_21 : decode cX6_darkest 21 = .ok (.iload 5, 2) := by decide +kernel
theorem dX6_darkest_23 : decode cX6_darkest 23 = .ok (.invokevirtual 201, 3) := by decide +kernel
theorem dX6_darkest_26 : decode cX6_darkest 26 = .ok (.istore 6, 2) := by decide +kernel
theorem dX6_darkest_28 : decode cX6_darkest 28 = .ok (.iload 6, 2) := by decide +kernel
theorem dX6_darkest_30 : decode cX6_darkest 30 = .ok (.iload 4, 2) := by decide +kernel
theorem dX6_darkest_32 : decode cX6_darkest 32 = .ok (.if_icmp .le 10, 3) := by decide +kernel
theorem dX6_darkest_35 : decode cX6_darkest 35 = .ok (.iload 6, 2) := by decide +kernel
theorem dX6_darkest_37 : decode cX6_darkest 37 = .ok (.istore 4, 2) := by decide +kernel
theorem dX6_darkest_39 : decode cX6_darkest 39 = .ok (.iload 5, 2) := by decide +kernel
theorem dX6_darkest_41 : decode cX6_darkest 41 = .ok (.istore_n 3, 1) := by decide +kernel
theorem dX6_darkest_42 : decode cX6_darkest 42 = .ok (.iinc 5 1, 3) := by decide +kernel
theorem dX6_darkest_45 : decode cX6_darkest 45 = .ok (.goto (-31), 3) := by decide +kernel
theorem dX6_darkest_48 : decode cX6_darkest 48 = .ok (.iload_n 3, 1) := by decide +kernel
theorem dX6_darkest_49 : decode cX6_darkest 49 = .ok (.ireturn, 1) := by decide +kernel
set_option maxRecDepth 20000 in
theorem ggX6_next_X6_requireMoon : GoodIn wsX6_next wsX6_requireMoon := goodIn_ca (goodIn_r _ [7, 8, 9, 2, 10, 97, 98, 99, 100, 101, 102, 103, 104, 105, 106, 107, 108, 109, 110, 111, 112, 113] (by decide +kernel) (by decide +kernel)) (goodIn_sub (fun _ h => List.mem_cons_of_mem _ (List.mem_append_left _ (List.mem_append_right _ h))) (by decide +kernel))
set_option maxRecDepth 20000 in
theorem gX6_next_X6_requireMoon : GoodIn wsX6_next (wsV RX6 115 RX6 yX6_requireMoon wsX6_requireMoon) := goodIn_app (goodIn_of _ (by decide +kernel)) ggX6_next_X6_requireMoon
set_option maxRecDepth 20000 in
theorem ggX6_next_X6_requireBetween : GoodIn wsX6_next wsX6_requireBetween := goodIn_ca (goodIn_r _ [13, 14, 15] (by decide +kernel) (by decide +kernel)) (goodIn_sub (fun _ h => List.mem_cons_of_mem _ (List.mem_append_right _ h)) (by decide +kernel))
set_option maxRecDepth 20000 in
theorem gX6_next_X6_requireBetween : GoodIn wsX6_next (va_wsS RX6 118 yX6_requireBetween wsX6_requireBetween) := goodIn_app (goodIn_of _ (by decide +kernel)) ggX6_next_X6_requireBetween
set_option maxRecDepth 20000 in
theorem ggX6_next_X6_requireTime : GoodIn wsX6_next wsX6_requireTime := goodIn_ca (goodIn_r _ [18, 19, 11, 12, 6, 13, 14, 15] (by decide +kernel) (by decide +kernel)) (goodIn_sub (fun _ h => List.mem_cons_of_mem _ (List.mem_append_right _ h)) (by decide +kernel))
set_option maxRecDepth 20000 in
theorem gX6_next_X6_requireTime : GoodIn wsX6_next (va_wsS RX6 145 yX6_requireTime wsX6_requireTime) := goodIn_app (goodIn_of _ (by decide +kernel)) ggX6_next_X6_requireTime
set_option maxRecDepth 20000 in
theorem ggX6_next_X3_aim : GoodIn wsX6_next wsX3_aim := goodIn_r _ [24, 25, 26, 27, 28, 29, 30, 31, 32, 33, 34, 35, 36, 37, 38, 39, 40, 41, 42, 43, 44, 45, 46, 23, 47, 48, 6, 49, 50, 51, 52, 53, 106, 107, 108, 109, 110, 111, 112, 113, 114, 115, 116, 117, 118, 119, 120, 121, 122, 123, 124, 125, 126, 127, 128] (by decide +kernel) (by decide +kernel)
set_option maxRecDepth 20000 in
theorem gX6_next_X3_aim : GoodIn wsX6_next (wsV RX6 181 RX3 yX3_aim wsX3_aim) := goodIn_app (goodIn_of _ (by decide +kernel)) ggX6_next_X3_aim
set_option maxRecDepth 20000 in
theorem ggX6_next_X6_searchEnd : GoodIn wsX6_next wsX6_searchEnd := goodIn_r _ [56, 19, 57, 58, 59, 60] (by decide +kernel) (by decide +kernel)
set_option maxRecDepth 20000 in
theorem gX6_next_X6_searchEnd : GoodIn wsX6_next (va_wsS RX6 192 yX6_searchEnd wsX6_searchEnd) := goodIn_app (goodIn_of _ (by decide +kernel)) ggX6_next_X6_searchEnd
set_option maxRecDepth 20000 in
theorem ggX6_next_X3_conditionsAt : GoodIn wsX6_next wsX3_conditionsAt := goodIn_r _ [64, 65, 66, 67, 23, 68, 32, 33, 69, 34, 70, 36, 35, 71, 72, 29, 31, 73, 74, 75, 76, 77, 78, 37, 79, 38, 80, 48, 6, 49, 50, 51, 52, 53, 81, 82, 83, 84, 85, 86, 87, 88, 59, 89, 27, 26, 90, 91, 92, 93, 114, 115, 116, 117, 118, 119, 120, 121, 122, 123, 124, 125, 126, 127, 128] (by decide +kernel) (by decide +kernel)
set_option maxRecDepth 20000 in
theorem gX6_next_X3_conditionsAt : GoodIn wsX6_next (wsV RX6 204 RX3 yX3_conditionsAt wsX3_conditionsAt) := goodIn_app (goodIn_of _ (by decide +kernel)) ggX6_next_X3_conditionsAt
set_option maxRecDepth 20000 in
theorem ggX6_next_X6_hasKind : GoodIn wsX6_next wsX6_hasKind := goodIn_r _ [96] (by decide +kernel) (by decide +kernel)
set_option maxRecDepth 20000 in
theorem gX6_next_X6_hasKind : GoodIn wsX6_next (va_wsS RX6 207 yX6_hasKind wsX6_hasKind) := goodIn_app (goodIn_of _ (by decide +kernel)) ggX6_next_X6_hasKind
theorem dX6_next_0 : decode cX6_next 0 = .ok (.aload_n 0, 1) := by decide +kernel
theorem dX6_next_1 : decode cX6_next 1 = .ok (.iload_n 1, 1) := by decide +kernel
theorem dX6_next_2 : decode cX6_next 2 = .ok (.invokevirtual 115, 3) := by decide +kernel
theorem dX6_next_5 : decode cX6_next 5 = .ok (.iload_n 2, 1) := by decide +kernel
theorem dX6_next_6 : decode cX6_next 6 = .ok (.iconst 0, 1) := by decide +kernel
theorem dX6_next_7 : decode cX6_next 7 = .ok (.iconst 3, 1) := by decide +kernel
theorem dX6_next_8 : decode cX6_next 8 = .ok (.invokestatic 118, 3) := by decide +kernel
theorem dX6_next_11 : decode cX6_next 11 = .ok (.iload_n 3, 1) := by decide +kernel
theorem dX6_next_12 : decode cX6_next 12 = .ok (.iconst 1, 1) := by decide +kernel
theorem dX6_next_13 : decode cX6_next 13 = .ok (.invokestatic 145, 3) := by decide +kernel
theorem dX6_next_16 : decode cX6_next 16 = .ok (.aload_n 0, 1) := by decide +kernel
theorem dX6_next_17 : decode cX6_next 17 = .ok (.getfield 54, 3) := by decide +kernel
theorem dX6_next_20 : decode cX6_next 20 = .ok (.aload_n 0, 1) := by decide +kernel
theorem dX6_next_21 : decode cX6_next 21 = .ok (.getfield 10, 3) := by decide +kernel
theorem dX6_next_24 : decode cX6_next 24 = .ok (.iload_n 1, 1) := by decide +kernel
theorem dX6_next_25 : decode cX6_next 25 = .ok (.invokevirtual 181, 3) := by decide +kernel
theorem dX6_next_28 : decode cX6_next 28 = .ok (.iload_n 3, 1) := by decide +kernel
theorem dX6_next_29 : decode cX6_next 29 = .ok (.invokestatic 192, 3) := by decide +kernel
theorem dX6_next_32 : decode cX6_next 32 = .ok (.istore 4, 2) := by decide +kernel
theorem dX6_next_34 : decode cX6_next 34 = .ok (.aload_n 0, 1) := by decide +kernel
theorem dX6_next_35 : decode cX6_next 35 = .ok (.getfield 54, 3) := by decide +kernel
theorem dX6_next_38 : decode cX6_next 38 = .ok (.iload_n 3, 1) := by decide +kernel
theorem dX6_next_39 : decode cX6_next 39 = .ok (.iconst 1, 1) := by decide +kernel
theorem dX6_next_40 : decode cX6_next 40 = .ok (.isub, 1) := by decide +kernel
theorem dX6_next_41 : decode cX6_next 41 = .ok (.invokevirtual 204, 3) := by decide +kernel
theorem dX6_next_44 : decode cX6_next 44 = .ok (.istore 5, 2) := by decide +kernel
theorem dX6_next_46 : decode cX6_next 46 = .ok (.iload_n 3, 1) := by decide +kernel
theorem dX6_next_47 : decode cX6_next 47 = .ok (.istore 6, 2) := by decide +kernel
theorem dX6_next_49 : decode cX6_next 49 = .ok (.iload 6, 2) := by decide +kernel
theorem dX6_next_51 : decode cX6_next 51 = .ok (.iload 4, 2) := by decide +kernel
theorem dX6_next_53 : decode cX6_next 53 = .ok (.if_icmp .gt 41, 3) := by decide +kernel
theorem dX6_next_56 : decode cX6_next 56 = .ok (.aload_n 0, 1) := by decide +kernel
theorem dX6_next_57 : decode cX6_next 57 = .ok (.getfield 54, 3) := by decide +kernel
theorem dX6_next_60 : decode cX6_next 60 = .ok (.iload 6, 2) := by decide +kernel
theorem dX6_next_62 : decode cX6_next 62 = .ok (.invokevirtual 204, 3) := by decide +kernel
theorem dX6_next_65 : decode cX6_next 65 = .ok (.istore 7, 2) := by decide +kernel
theorem dX6_next_67 : decode cX6_next 67 = .ok (.iload 7, 2) := by decide +kernel
theorem dX6_next_69 : decode cX6_next 69 = .ok (.iload 5, 2) := by decide +kernel
theorem dX6_next_71 : decode cX6_next 71 = .ok (.iconst (-1), 1) := by decide +kernel
theorem dX6_next_72 : decode cX6_next 72 = .ok (.ixor, 1) := by decide +kernel
theorem dX6_next_73 : decode cX6_next 73 = .ok (.iand, 1) := by decide +kernel
theorem dX6_next_74 : decode cX6_next 74 = .ok (.iload_n 2, 1) := by decide +kernel
theorem dX6_next_75 : decode cX6_next 75 = .ok (.invokestatic 207, 3) := by decide +kernel
theorem dX6_next_78 : decode cX6_next 78 = .ok (.ifCond .eq 6, 3) := by decide +kernel
theorem dX6_next_81 : decode cX6_next 81 = .ok (.iload 6, 2) := by decide +kernel
theorem dX6_next_83 : decode cX6_next 83 = .ok (.ireturn, 1) := by decide +kernel
theorem dX6_next_84 : decode cX6_next 84 = .ok (.iload 7, 2) := by decide +kernel
theorem dX6_next_86 : decode cX6_next 86 = .ok (.istore 5, 2) := by decide +kernel
theorem dX6_next_88 : decode cX6_next 88 = .ok (.iinc 6 1, 3) := by decide +kernel
theorem dX6_next_91 : decode cX6_next 91 = .ok (.goto (-42), 3) := by decide +kernel
theorem dX6_next_94 : decode cX6_next 94 = .ok (.iconst (-1), 1) := by decide +kernel
theorem dX6_next_95 : decode cX6_next 95 = .ok (.ireturn, 1) := by decide +kernel
set_option maxRecDepth 20000 in
theorem ggX6_events_X6_requireTable : GoodIn wsX6_events wsX6_requireTable := goodIn_ca (goodIn_r _ [7, 3, 8, 9, 10, 11, 12, 13, 6, 14, 15, 16, 17, 18, 19] (by decide +kernel) (by decide +kernel)) (goodIn_sub (fun _ h => List.mem_cons_of_mem _ (List.mem_append_right _ h)) (by decide +kernel))
set_option maxRecDepth 20000 in
theorem gX6_events_X6_requireTable : GoodIn wsX6_events (va_wsS RX6 198 yX6_requireTable wsX6_requireTable) := goodIn_app (goodIn_of _ (by decide +kernel)) ggX6_events_X6_requireTable
set_option maxRecDepth 20000 in
theorem ggX6_events_X4_begin : GoodIn wsX6_events wsX4_begin := goodIn_r _ [24, 25, 26, 27, 28, 29, 30, 31, 32, 33, 34, 35, 36, 37, 38, 39, 40, 41, 42, 43, 44, 45, 46, 47, 48, 49, 50, 51, 52, 53, 54, 55, 56, 57, 58, 59, 60, 61, 6, 62, 63, 64, 65, 66, 67, 68, 69, 70, 71, 72, 73, 74, 75, 76, 77, 78, 79, 80, 81, 82, 83, 84, 85, 86, 87, 88, 89, 90, 91, 92, 93, 94, 10, 95, 96, 97, 98, 99, 126, 127, 128, 129, 130, 131, 132, 133, 134, 135, 136, 137, 138, 139, 140, 141, 142, 143, 144, 145, 146, 147, 148, 149, 150, 151, 152, 153, 154, 155, 156, 157, 158] (by decide +kernel) (by decide +kernel)
set_option maxRecDepth 20000 in
theorem gX6_events_X4_begin : GoodIn wsX6_events (wsV RX6 211 RX4 yX4_begin wsX4_begin) := goodIn_app (goodIn_of _ (by decide +kernel)) ggX6_events_X4_begin
set_option maxRecDepth 20000 in
theorem ggX6_events_X4_advance : GoodIn wsX6_events wsX4_advance := goodIn_r _ [103, 30, 28, 29, 27, 104, 25, 105, 106, 107, 108, 109, 23, 110, 31, 32, 33, 34, 35, 36, 37, 38, 39, 40, 41, 42, 43, 44, 45, 46, 47, 48, 49, 50, 51, 52, 53, 54, 55, 56, 57, 58, 59, 60, 61, 6, 62, 63, 64, 65, 66, 67, 68, 69, 70, 71, 72, 73, 74, 75, 76, 77, 78, 79, 80, 81, 82, 83, 84, 85, 86, 87, 88, 89, 90, 91, 92, 93, 94, 10, 95, 96, 97, 98, 99, 111, 112, 113, 114, 115, 116, 126, 127, 128, 129, 130, 131, 132, 133, 134, 135, 136, 137, 138, 139, 140, 141, 142, 143, 144, 145, 146, 147, 148, 149, 150, 151, 152, 153, 154, 155, 156, 157, 158] (by decide +kernel) (by decide +kernel)
set_option maxRecDepth 20000 in
theorem gX6_events_X4_advance : GoodIn wsX6_events (wsV RX6 216 RX4 yX4_advance wsX4_advance) := goodIn_app (goodIn_of _ (by decide +kernel)) ggX6_events_X4_advance
theorem dX6_events_0 : decode cX6_events 0 = .ok (.iload_n 1, 1) := by decide +kernel
theorem dX6_events_1 : decode cX6_events 1 = .ok (.iload_n 2, 1) := by decide +kernel
theorem dX6_events_2 : decode cX6_events 2 = .ok (.iconst 1, 1) := by decide +kernel
theorem dX6_events_3 : decode cX6_events 3 = .ok (.invokestatic 198, 3) := by decide +kernel
theorem dX6_events_6 : decode cX6_events 6 = .ok (.aload_n 0, 1) := by decide +kernel
theorem dX6_events_7 : decode cX6_events 7 = .ok (.getfield 47, 3) := by decide +kernel
theorem dX6_events_10 : decode cX6_events 10 = .ok (.aload_n 0, 1) := by decide +kernel
theorem dX6_events_11 : decode cX6_events 11 = .ok (.getfield 10, 3) := by decide +kernel
theorem dX6_events_14 : decode cX6_events 14 = .ok (.iload_n 1, 1) := by decide +kernel
theorem dX6_events_15 : decode cX6_events 15 = .ok (.iload_n 2, 1) := by decide +kernel
theorem dX6_events_16 : decode cX6_events 16 = .ok (.invokevirtual 211, 3) := by decide +kernel
theorem dX6_events_19 : decode cX6_events 19 = .ok (.iconst 0, 1) := by decide +kernel
theorem dX6_events_20 : decode cX6_events 20 = .ok (.istore_n 3, 1) := by decide +kernel
theorem dX6_events_21 : decode cX6_events 21 = .ok (.iload_n 3, 1) := by decide +kernel
theorem dX6_events_22 : decode cX6_events 22 = .ok (.ldc 215, 2) := by decide +kernel
theorem dX6_events_24 : decode cX6_events 24 = .ok (.if_icmp .ge 23, 3) := by decide +kernel
theorem dX6_events_27 : decode cX6_events 27 = .ok (.aload_n 0, 1) := by decide +kernel
theorem dX6_events_28 : decode cX6_events 28 = .ok (.getfield 47, 3) := by decide +kernel
theorem dX6_events_31 : decode cX6_events 31 = .ok (.aload_n 0, 1) := by decide +kernel
theorem dX6_events_32 : decode cX6_events 32 = .ok (.getfield 10, 3) := by decide +kernel
theorem dX6_events_35 : decode cX6_events 35 = .ok (.invokevirtual 216, 3) := by decide +kernel
theorem dX6_events_38 : decode cX6_events 38 = .ok (.ifCond .eq 9, 3) := by decide +kernel
theorem dX6_events_41 : decode cX6_events 41 = .ok (.iinc 3 1, 3) := by decide +kernel
theorem dX6_events_44 : decode cX6_events 44 = .ok (.goto (-23), 3) := by decide +kernel
theorem dX6_events_47 : decode cX6_events 47 = .ok (.iload_n 3, 1) := by decide +kernel
theorem dX6_events_48 : decode cX6_events 48 = .ok (.ireturn, 1) := by decide +kernel
set_option maxRecDepth 20000 in
theorem ggX6_event_X6_requireTable : GoodIn wsX6_event wsX6_requireTable := goodIn_ca (goodIn_r _ [10, 11, 12, 13, 14, 15, 16, 17, 9, 18, 19, 20, 21, 22, 23] (by decide +kernel) (by decide +kernel)) (goodIn_sub (fun _ h => List.mem_cons_of_mem _ (List.mem_append_right _ h)) (by decide +kernel))
set_option maxRecDepth 20000 in
theorem gX6_event_X6_requireTable : GoodIn wsX6_event (va_wsS RX6 198 yX6_requireTable wsX6_requireTable) := goodIn_app (goodIn_of _ (by decide +kernel)) ggX6_event_X6_requireTable
set_option maxRecDepth 20000 in
theorem ggX6_event_X6_requireBetween : GoodIn wsX6_event wsX6_requireBetween := goodIn_ca (goodIn_r _ [21, 22, 23] (by decide +kernel) (by decide +kernel)) (goodIn_sub (fun _ h => List.mem_cons_of_mem _ (List.mem_append_right _ h)) (by decide +kernel))
set_option maxRecDepth 20000 in
theorem gX6_event_X6_requireBetween : GoodIn wsX6_event (va_wsS RX6 118 yX6_requireBetween wsX6_requireBetween) := goodIn_app (goodIn_of _ (by decide +kernel)) ggX6_event_X6_requireBetween
set_option maxRecDepth 20000 in
theorem ggX6_event_X6_findEvent : GoodIn wsX6_event wsX6_findEvent := goodIn_r _ [27, 3, 28, 29, 30, 31, 32, 33, 34, 35, 36, 37, 38, 39, 40, 41, 42, 43, 44, 45, 46, 47, 48, 49, 50, 51, 52, 53, 54, 55, 56, 57, 58, 59, 60, 61, 62, 63, 64, 65, 66, 67, 68, 69, 70, 9, 71, 72, 73, 74, 75, 76, 77, 78, 79, 80, 81, 82, 83, 84, 85, 86, 87, 88, 89, 90, 91, 92, 93, 94, 95, 96, 97, 98, 99, 100, 101, 102, 103, 14, 104, 105, 106, 107, 108, 109, 110, 111, 112, 113, 114, 115, 116, 117, 118, 119, 120, 121, 122, 123, 124, 125, 126, 127, 128, 129, 130, 131, 132, 133, 134, 135, 136, 137, 138, 139, 140, 141, 142, 143, 144, 145, 146, 147, 148, 149, 150, 151, 152, 153, 154, 155, 156, 157, 158, 159, 160, 161, 162, 163, 164, 165, 166, 167] (by decide +kernel) (by decide +kernel)
set_option maxRecDepth 20000 in
theorem gX6_event_X6_findEvent : GoodIn wsX6_event (wsV RX6 220 RX6 yX6_findEvent wsX6_findEvent) := goodIn_app (goodIn_of _ (by decide +kernel)) ggX6_event_X6_findEvent
theorem dX6_event_0 : decode cX6_event 0 = .ok (.iload_n 1, 1) := by decide +kernel
theorem dX6_event_1 : decode cX6_event 1 = .ok (.iload_n 2, 1) := by decide +kernel
theorem dX6_event_2 : decode cX6_event 2 = .ok (.iconst 1, 1) := by decide +kernel
theorem dX6_event_3 : decode cX6_event 3 = .ok (.invokestatic 198, 3) := by decide +kernel
theorem dX6_event_6 : decode cX6_event 6 = .ok (.iload 4, 2) := by decide +kernel
theorem dX6_event_8 : decode cX6_event 8 = .ok (.iconst 0, 1) := by decide +kernel
theorem dX6_event_9 : decode cX6_event 9 = .ok (.iconst 2, 1) := by decide +kernel
theorem dX6_event_10 : decode cX6_event 10 = .ok (.invokestatic 118, 3) := by decide +kernel
theorem dX6_event_13 : decode cX6_event 13 = .ok (.aload_n 0, 1) := by decide +kernel
theorem dX6_event_14 : decode cX6_event 14 = .ok (.iload_n 1, 1) := by decide +kernel
theorem dX6_event_15 : decode cX6_event 15 = .ok (.iload_n 2, 1) := by decide +kernel
theorem dX6_event_16 : decode cX6_event 16 = .ok (.iload_n 3, 1) := by decide +kernel
theorem dX6_event_17 : decode cX6_event 17 = .ok (.invokevirtual 220, 3) := by decide +kernel
theorem dX6_event_20 : decode cX6_event 20 = .ok (.ifCond .ne 11, 3) := by decide +kernel
theorem dX6_event_23 : decode cX6_event 23 = .ok (.new 224, 3) := by decide +kernel
theorem dX6_event_26 : decode cX6_event 26 = .ok (.dup, 1) := by decide +kernel
theorem dX6_event_27 : decode cX6_event 27 = .ok (.invokespecial 226, 3) := by decide +kernel
theorem dX6_event_30 : decode cX6_event 30 = .ok (.athrow, 1) := by decide +kernel
theorem dX6_event_31 : decode cX6_event 31 = .ok (.iload 4, 2) := by decide +kernel
theorem dX6_event_33 : decode cX6_event 33 = .ok (.ifCond .ne 11, 3) := by decide +kernel
theorem dX6_event_36 : decode cX6_event 36 = .ok (.aload_n 0, 1) := by decide +kernel
theorem dX6_event_37 : decode cX6_event 37 = .ok (.getfield 47, 3) := by decide +kernel
theorem dX6_event_40 : decode cX6_event 40 = .ok (.getfield 227, 3) := by decide +kernel
theorem dX6_event_43 : decode cX6_event 43 = .ok (.ireturn, 1) := by decide +kernel
theorem dX6_event_44 : decode cX6_event 44 = .ok (.iload 4, 2) := by decide +kernel
theorem dX6_event_46 : decode cX6_event 46 = .ok (.iconst 1, 1) := by decide +kernel
theorem dX6_event_47 : decode cX6_event 47 = .ok (.if_icmp .ne 13, 3) := by decide +kernel
theorem dX6_event_50 : decode cX6_event 50 = .ok (.aload_n 0, 1) := by decide +kernel
theorem dX6_event_51 : decode cX6_event 51 = .ok (.getfield 47, 3) := by decide +kernel
theorem dX6_event_54 : decode cX6_event 54 = .ok (.getfield 230, 3) := by decide +kernel
theorem dX6_event_57 : decode cX6_event 57 = .ok (.goto 10, 3) := by decide +kernel
theorem dX6_event_60 : decode cX6_event 60 = .ok (.aload_n 0, 1) := by decide +kernel
theorem dX6_event_61 : decode cX6_event 61 = .ok (.getfield 47, 3) := by decide +kernel
theorem dX6_event_64 : decode cX6_event 64 = .ok (.getfield 233, 3) := by decide +kernel
theorem dX6_event_67 : decode cX6_event 67 = .ok (.ireturn, 1) := by decide +kernel
set_option maxRecDepth 20000 in
theorem ggX6_meanDark_X6_requireMoon : GoodIn wsX6_meanDark wsX6_requireMoon := goodIn_ca (goodIn_r _ [7, 8, 9, 2, 10, 97, 98, 99, 100, 101, 102, 103, 104, 105, 106, 107, 108, 109, 110, 111, 112, 113] (by decide +kernel) (by decide +kernel)) (goodIn_sub (fun _ h => List.mem_cons_of_mem _ (List.mem_append_left _ (List.mem_append_right _ h))) (by decide +kernel))
set_option maxRecDepth 20000 in
theorem gX6_meanDark_X6_requireMoon : GoodIn wsX6_meanDark (wsV RX6 115 RX6 yX6_requireMoon wsX6_requireMoon) := goodIn_app (goodIn_of _ (by decide +kernel)) ggX6_meanDark_X6_requireMoon
set_option maxRecDepth 20000 in
theorem ggX6_meanDark_X6_requireTable : GoodIn wsX6_meanDark wsX6_requireTable := goodIn_ca (goodIn_r _ [13, 14, 15, 16, 17, 18, 19, 20, 6, 21, 22, 23, 24, 25, 26] (by decide +kernel) (by decide +kernel)) (goodIn_sub (fun _ h => List.mem_cons_of_mem _ (List.mem_append_right _ h)) (by decide +kernel))
set_option maxRecDepth 20000 in
theorem gX6_meanDark_X6_requireTable : GoodIn wsX6_meanDark (va_wsS RX6 198 yX6_requireTable wsX6_requireTable) := goodIn_app (goodIn_of _ (by decide +kernel)) ggX6_meanDark_X6_requireTable
set_option maxRecDepth 20000 in
theorem ggX6_meanDark_X3_aim : GoodIn wsX6_meanDark wsX3_aim := goodIn_r _ [31, 32, 33, 34, 35, 36, 37, 38, 39, 40, 41, 42, 43, 44, 45, 46, 47, 48, 49, 50, 51, 52, 53, 30, 54, 55, 6, 56, 57, 58, 59, 60, 106, 107, 108, 109, 110, 111, 112, 113, 114, 115, 116, 117, 118, 119, 120, 121, 122, 123, 124, 125, 126, 127, 128] (by decide +kernel) (by decide +kernel)
set_option maxRecDepth 20000 in
theorem gX6_meanDark_X3_aim : GoodIn wsX6_meanDark (wsV RX6 181 RX3 yX3_aim wsX3_aim) := goodIn_app (goodIn_of _ (by decide +kernel)) ggX6_meanDark_X3_aim
set_option maxRecDepth 20000 in
theorem ggX6_meanDark_X3_conditionsAt : GoodIn wsX6_meanDark wsX3_conditionsAt := goodIn_r _ [64, 65, 66, 67, 30, 68, 39, 40, 69, 41, 70, 43, 42, 71, 72, 36, 38, 73, 74, 75, 76, 77, 78, 44, 79, 45, 80, 55, 6, 56, 57, 58, 59, 60, 81, 82, 83, 84, 85, 86, 87, 88, 17, 89, 34, 33, 90, 91, 92, 93, 114, 115, 116, 117, 118, 119, 120, 121, 122, 123, 124, 125, 126, 127, 128] (by decide +kernel) (by decide +kernel)
set_option maxRecDepth 20000 in
theorem gX6_meanDark_X3_conditionsAt : GoodIn wsX6_meanDark (wsV RX6 204 RX3 yX3_conditionsAt wsX3_conditionsAt) := goodIn_app (goodIn_of _ (by decide +kernel)) ggX6_meanDark_X3_conditionsAt
set_option maxRecDepth 20000 in
theorem ggX6_meanDark_X6_hasKind : GoodIn wsX6_meanDark wsX6_hasKind := goodIn_r _ [96] (by decide +kernel) (by decide +kernel)
set_option maxRecDepth 20000 in
theorem gX6_meanDark_X6_hasKind : GoodIn wsX6_meanDark (va_wsS RX6 207 yX6_hasKind wsX6_hasKind) := goodIn_app (goodIn_of _ (by decide +kernel)) ggX6_meanDark_X6_hasKind
theorem dX6_meanDark_0 : decode cX6_meanDark 0 = .ok (.aload_n 0, 1) := by decide +kernel
theorem dX6_meanDark_1 : decode cX6_meanDark 1 = .ok (.iload_n 1, 1) := by decide +kernel
theorem dX6_meanDark_2 : decode cX6_meanDark 2 = .ok (.invokevirtual 115, 3) := by decide +kernel
theorem dX6_meanDark_5 : decode cX6_meanDark 5 = .ok (.iload_n 2, 1) := by decide +kernel
theorem dX6_meanDark_6 : decode cX6_meanDark 6 = .ok (.iload_n 3, 1) := by decide +kernel
theorem dX6_meanDark_7 : decode cX6_meanDark 7 = .ok (.iconst 1, 1) := by decide +kernel
theorem dX6_meanDark_8 : decode cX6_meanDark 8 = .ok (.invokestatic 198, 3) := by decide +kernel
theorem dX6_meanDark_11 : decode cX6_meanDark 11 = .ok (.aload_n 0, 1) := by decide +kernel
theorem dX6_meanDark_12 : decode cX6_meanDark 12 = .ok (.getfield 54, 3) := by decide +kernel
theorem dX6_meanDark_15 : decode cX6_meanDark 15 = .ok (.aload_n 0, 1) := by decide +kernel
theorem dX6_meanDark_16 : decode cX6_meanDark 16 = .ok (.getfield 10, 3) := by decide +kernel
theorem dX6_meanDark_19 : decode cX6_meanDark 19 = .ok (.iload_n 1, 1) := by decide +kernel
theorem dX6_meanDark_20 : decode cX6_meanDark 20 = .ok (.invokevirtual 181, 3) := by decide +kernel
theorem dX6_meanDark_23 : decode cX6_meanDark 23 = .ok (.iconst 0, 1) := by decide +kernel
theorem dX6_meanDark_24 : decode cX6_meanDark 24 = .ok (.istore 4, 2) := by decide +kernel
theorem dX6_meanDark_26 : decode cX6_meanDark 26 = .ok (.iconst 0, 1) := by decide +kernel
theorem dX6_meanDark_27 : decode cX6_meanDark 27 = .ok (.istore 5, 2) := by decide +kernel
theorem dX6_meanDark_29 : decode cX6_meanDark 29 = .ok (.iconst (-1), 1) := by decide +kernel
theorem dX6_meanDark_30 : decode cX6_meanDark 30 = .ok (.istore 6, 2) := by decide +kernel
theorem dX6_meanDark_32 : decode cX6_meanDark 32 = .ok (.aload_n 0, 1) := by decide +kernel
theorem dX6_meanDark_33 : decode cX6_meanDark 33 = .ok (.getfield 54, 3) := by decide +kernel
theorem dX6_meanDark_36 : decode cX6_meanDark 36 = .ok (.iload_n 2, 1) := by decide +kernel
theorem dX6_meanDark_37 : decode cX6_meanDark 37 = .ok (.iconst 1, 1) := by decide +kernel
theorem dX6_meanDark_38 : decode cX6_meanDark 38 = .ok (.isub, 1) := by decide +kernel
theorem dX6_meanDark_39 : decode cX6_meanDark 39 = .ok (.invokevirtual 204, 3) := by decide +kernel
theorem dX6_meanDark_42 : decode cX6_meanDark 42 = .ok (.istore 7, 2) := by decide +kernel
theorem dX6_meanDark_44 : decode cX6_meanDark 44 = .ok (.iload_n 2, 1) := by decide +kernel
theorem dX6_meanDark_45 : decode cX6_meanDark 45 = .ok (.istore 8, 2) := by decide +kernel
theorem dX6_meanDark_47 : decode cX6_meanDark 47 = .ok (.iload 8, 2) := by decide +kernel
theorem dX6_meanDark_49 : decode cX6_meanDark 49 = .ok (.iload_n 3, 1) := by decide +kernel
theorem dX6_meanDark_50 : decode cX6_meanDark 50 = .ok (.if_icmp .gt 74, 3) := by decide +kernel
theorem dX6_meanDark_53 : decode cX6_meanDark 53 = .ok (.aload_n 0, 1) := by decide +kernel
theorem dX6_meanDark_54 : decode cX6_meanDark 54 = .ok (.getfield 54, 3) := by decide +kernel
theorem dX6_meanDark_57 : decode cX6_meanDark 57 = .ok (.iload 8, 2) := by decide +kernel
theorem dX6_meanDark_59 : decode cX6_meanDark 59 = .ok (.invokevirtual 204, 3) := by decide +kernel
theorem dX6_meanDark_62 : decode cX6_meanDark 62 = .ok (.istore 9, 2) := by decide +kernel
theorem dX6_meanDark_64 : decode cX6_meanDark 64 = .ok (.iload 9, 2) := by decide +kernel
theorem dX6_meanDark_66 : decode cX6_meanDark 66 = .ok (.iload 7, 2) := by decide +kernel
theorem dX6_meanDark_68 : decode cX6_meanDark 68 = .ok (.iconst (-1), 1) := by decide +kernel
theorem dX6_meanDark_69 : decode cX6_meanDark 69 = .ok (.ixor, 1) := by decide +kernel
theorem dX6_meanDark_70 : decode cX6_meanDark 70 = .ok (.iand, 1) := by decide +kernel
theorem dX6_meanDark_71 : decode cX6_meanDark 71 = .ok (.istore 10, 2) := by decide +kernel
theorem dX6_meanDark_73 : decode cX6_meanDark 73 = .ok (.iload 10, 2) := by decide +kernel
theorem dX6_meanDark_75 : decode cX6_meanDark 75 = .ok (.iconst 0, 1) := by decide +kernel
theorem dX6_meanDark_76 : decode cX6_meanDark 76 = .ok (.invokestatic 207, 3) := by decide +kernel
theorem dX6_meanDark_79 : decode cX6_meanDark 79 = .ok (.ifCond .eq 7, 3) := by decide +kernel
theorem dX6_meanDark_82 : decode cX6_meanDark 82 = .ok (.iload 8, 2) := by decide +kernel
theorem dX6_meanDark_84 : decode cX6_meanDark 84 = .ok (.istore 6, 2) := by decide +kernel
theorem dX6_meanDark_86 : decode cX6_meanDark 86 = .ok (.iload 10, 2) := by decide +kernel
theorem dX6_meanDark_88 : decode cX6_meanDark 88 = .ok (.iconst 1, 1) := by decide +kernel
theorem dX6_meanDark_89 : decode cX6_meanDark 89 = .ok (.invokestatic 207, 3) := by decide +kernel
theorem dX6_meanDark_92 : decode cX6_meanDark 92 = .ok (.ifCond .eq 22, 3) := by decide +kernel
theorem dX6_meanDark_95 : decode cX6_meanDark 95 = .ok (.iload 6, 2) := by decide +kernel
theorem dX6_meanDark_97 : decode cX6_meanDark 97 = .ok (.iconst (-1), 1) := by decide +kernel
theorem dX6_meanDark_98 : decode cX6_meanDark 98 = .ok (.if_icmp .eq 16, 3) := by decide +kernel
theorem dX6_meanDark_101 : decode cX6_meanDark 101 = .ok (.iload 4, 2) := by decide +kernel
theorem dX6_meanDark_103 : decode cX6_meanDark 103 = .ok (.iload 8, 2) := by decide +kernel
theorem dX6_meanDark_105 : decode cX6_meanDark 105 = .ok (.iload 6, 2) := by decide +kernel
theorem dX6_meanDark_107 : decode cX6_meanDark 107 = .ok (.isub, 1) := by decide +kernel
theorem dX6_meanDark_108 : decode cX6_meanDark 108 = .ok (.iadd, 1) := by decide +kernel
theorem dX6_meanDark_109 : decode cX6_meanDark 109 = .ok (.istore 4, 2) := by decide +kernel
theorem dX6_meanDark_111 : decode cX6_meanDark 111 = .ok (.iinc 5 1, 3) := by decide +kernel
theorem dX6_meanDark_114 : decode cX6_meanDark 114 = .ok (.iload 9, 2) := by decide +kernel
theorem dX6_meanDark_116 : decode cX6_meanDark 116 = .ok (.istore 7, 2) := by decide +kernel
theorem dX6_meanDark_118 : decode cX6_meanDark 118 = .ok (.iinc 8 1, 3) := by decide +kernel
theorem dX6_meanDark_121 : decode cX6_meanDark 121 = .ok (.goto (-74), 3) := by decide +kernel
theorem dX6_meanDark_124 : decode cX6_meanDark 124 = .ok (.iload 5, 2) := by decide +kernel
theorem dX6_meanDark_126 : decode cX6_meanDark 126 = .ok (.ifCond .le 13, 3) := by decide +kernel
theorem dX6_meanDark_129 : decode cX6_meanDark 129 = .ok (.iload 4, 2) := by decide +kernel
theorem dX6_meanDark_131 : decode cX6_meanDark 131 = .ok (.i2d, 1) := by decide +kernel
theorem dX6_meanDark_132 : decode cX6_meanDark 132 = .ok (.iload 5, 2) := by decide +kernel
theorem dX6_meanDark_134 : decode cX6_meanDark 134 = .ok (.i2d, 1) := by decide +kernel
theorem dX6_meanDark_135 : decode cX6_meanDark 135 = .ok (.ddiv, 1) := by decide +kernel
theorem dX6_meanDark_136 : decode cX6_meanDark 136 = .ok (.goto 4, 3) := by decide +kernel
theorem dX6_meanDark_139 : decode cX6_meanDark 139 = .ok (.dconst 0, 1) := by decide +kernel
theorem dX6_meanDark_140 : decode cX6_meanDark 140 = .ok (.dreturn, 1) := by decide +kernel
set_option maxRecDepth 20000 in
theorem ggX6_worst_X6_offOf : GoodIn wsX6_worst wsX6_offOf := goodIn_r _ [12, 13, 14, 3, 15, 16, 17, 18, 19, 20, 21, 22, 23, 24, 25, 26, 27, 28, 29, 30, 31, 32, 33, 34, 35, 36, 37, 38, 39, 40, 41, 42, 43, 44, 45, 46, 47, 48, 11, 49, 50, 51, 52, 53, 54, 55, 56, 57, 58, 59, 60, 61, 62, 63, 64, 65, 66, 67, 68, 69, 70, 71, 72, 73, 74, 75, 76, 77, 78, 79, 80, 5, 6, 7, 81, 82, 83, 84, 85, 86, 87, 88, 89, 90, 91, 92, 93, 94, 95, 96, 97, 98, 99, 100, 101, 102, 103, 104, 105, 106, 107, 108, 109, 110, 111, 112, 113, 114, 115, 116, 117, 118, 119] (by decide +kernel) (by decide +kernel)
set_option maxRecDepth 20000 in
theorem gX6_worst_X6_offOf : GoodIn wsX6_worst (wsV RX6 139 RX6 yX6_offOf wsX6_offOf) := goodIn_app (goodIn_of _ (by decide +kernel)) ggX6_worst_X6_offOf
theorem dX6_worst_0 : decode cX6_worst 0 = .ok (.iconst (-1), 1) := by decide +kernel
theorem dX6_worst_1 : decode cX6_worst 1 = .ok (.istore_n 1, 1) := by decide +kernel
theorem dX6_worst_2 : decode cX6_worst 2 = .ok (.iconst (-1), 1) := by decide +kernel
theorem dX6_worst_3 : decode cX6_worst 3 = .ok (.istore_n 2, 1) := by decide +kernel
theorem dX6_worst_4 : decode cX6_worst 4 = .ok (.iconst 0, 1) := by decide +kernel
theorem dX6_worst_5 : decode cX6_worst 5 = .ok (.istore_n 3, 1) := by decide +kernel
theorem dX6_worst_6 : decode cX6_worst 6 = .ok (.iload_n 3, 1) := by decide +kernel
theorem dX6_worst_7 : decode cX6_worst 7 = .ok (.aload_n 0, 1) := by decide +kernel
theorem dX6_worst_8 : decode cX6_worst 8 = .ok (.getfield 10, 3) := by decide +kernel
theorem dX6_worst_11 : decode cX6_worst 11 = .ok (.getfield 93, 3) := by decide +kernel
theorem dX6_worst_14 : decode cX6_worst 14 = .ok (.if_icmp .ge 44, 3) := by decide +kernel
theorem dX6_worst_17 : decode cX6_worst 17 = .ok (.aload_n 0, 1) := by decide +kernel
theorem dX6_worst_18 : decode cX6_worst 18 = .ok (.aload_n 0, 1) := by decide +kernel
theorem dX6_worst_19 : decode cX6_worst 19 = .ok (.getfield 10, 3) := by decide +kernel
theorem dX6_worst_22 : decode cX6_worst 22 = .ok (.iload_n 3, 1) := by decide +kernel
theorem dX6_worst_23 : decode cX6_worst 23 = .ok (.invokevirtual 139, 3) := by decide +kernel
theorem dX6_worst_26 : decode cX6_worst 26 = .ok (.istore 4, 2) := by decide +kernel
theorem dX6_worst_28 : decode cX6_worst 28 = .ok (.iload 4, 2) := by decide +kernel
theorem dX6_worst_30 : decode cX6_worst 30 = .ok (.ldc 236, 2) := by decide +kernel
theorem dX6_worst_32 : decode cX6_worst 32 = .ok (.if_icmp .eq 20, 3) := by decide +kernel
theorem dX6_worst_35 : decode cX6_worst 35 = .ok (.iload 4, 2) := by decide +kernel
theorem dX6_worst_37 : decode cX6_worst 37 = .ok (.invokestatic 237, 3) := by decide +kernel
theorem dX6_worst_40 : decode cX6_worst 40 = .ok (.iload_n 2, 1) := by decide +kernel
theorem dX6_worst_41 : decode cX6_worst 41 = .ok (.if_icmp .le 11, 3) := by decide +kernel
theorem dX6_worst_44 : decode cX6_worst 44 = .ok (.iload 4, 2) := by decide +kernel
theorem dX6_worst_46 : decode cX6_worst 46 = .ok (.invokestatic 237, 3) := by decide +kernel
theorem dX6_worst_49 : decode cX6_worst 49 = .ok (.istore_n 2, 1) := by decide +kernel
theorem dX6_worst_50 : decode cX6_worst 50 = .ok (.iload_n 3, 1) := by decide +kernel
theorem dX6_worst_51 : decode cX6_worst 51 = .ok (.istore_n 1, 1) := by decide +kernel
theorem dX6_worst_52 : decode cX6_worst 52 = .ok (.iinc 3 1, 3) := by decide +kernel
theorem dX6_worst_55 : decode cX6_worst 55 = .ok (.goto (-49), 3) := by decide +kernel
theorem dX6_worst_58 : decode cX6_worst 58 = .ok (.iload_n 1, 1) := by decide +kernel
theorem dX6_worst_59 : decode cX6_worst 59 = .ok (.ireturn, 1) := by decide +kernel
set_option maxRecDepth 20000 in
theorem ggX6_burden_X6_requireMoon : GoodIn wsX6_burden wsX6_requireMoon := goodIn_ca (goodIn_r _ [6, 7, 8, 9, 10, 135, 136, 137, 138, 139, 140, 141, 142, 143, 144, 145, 146, 147, 148, 149, 150, 151] (by decide +kernel) (by decide +kernel)) (goodIn_sub (fun _ h => List.mem_cons_of_mem _ (List.mem_append_left _ (List.mem_append_right _ h))) (by decide +kernel))
set_option maxRecDepth 20000 in
theorem gX6_burden_X6_requireMoon : GoodIn wsX6_burden (wsV RX6 115 RX6 yX6_requireMoon wsX6_requireMoon) := goodIn_app (goodIn_of _ (by decide +kernel)) ggX6_burden_X6_requireMoon
set_option maxRecDepth 20000 in
theorem ggX6_burden_X6_requireBetween : GoodIn wsX6_burden wsX6_requireBetween := goodIn_ca (goodIn_r _ [13, 14, 15] (by decide +kernel) (by decide +kernel)) (goodIn_sub (fun _ h => List.mem_cons_of_mem _ (List.mem_append_right _ h)) (by decide +kernel))
set_option maxRecDepth 20000 in
theorem gX6_burden_X6_requireBetween : GoodIn wsX6_burden (va_wsS RX6 118 yX6_requireBetween wsX6_requireBetween) := goodIn_app (goodIn_of _ (by decide +kernel)) ggX6_burden_X6_requireBetween
set_option maxRecDepth 20000 in
theorem ggX6_burden_X6_draftTurned : GoodIn wsX6_burden wsX6_draftTurned := goodIn_r _ [19, 1, 9, 20, 21, 22, 23, 24, 25, 26, 27, 28, 29, 30, 31, 32, 33, 34, 35, 36, 37, 38, 39, 40, 41, 42, 43, 44, 45, 46, 47, 48, 49, 50, 51, 135, 136, 137, 138, 139, 140, 141, 142, 143, 144, 145, 146, 147, 148, 149, 150, 151] (by decide +kernel) (by decide +kernel)
set_option maxRecDepth 20000 in
theorem gX6_burden_X6_draftTurned : GoodIn wsX6_burden (wsV RX6 240 RX6 yX6_draftTurned wsX6_draftTurned) := goodIn_app (goodIn_of _ (by decide +kernel)) ggX6_burden_X6_draftTurned
set_option maxRecDepth 20000 in
theorem ggX6_burden_X6_burdenOf : GoodIn wsX6_burden wsX6_burdenOf := goodIn_r _ [55, 56, 57, 58, 59, 60, 61, 62, 63, 64, 23, 65, 32, 66, 67, 68, 5, 69, 70, 71, 72, 73, 74, 75, 76, 77, 78, 79, 80, 81, 82, 83, 84, 85, 86, 87, 88, 89, 90, 91, 41, 42, 43, 31, 92, 93, 94, 95, 96, 97, 98, 99, 100, 101, 102, 103, 104, 105, 106, 107, 108, 109, 110, 111, 112, 113, 114, 115, 116, 117, 118, 119, 120, 121, 122, 123, 124, 125, 126, 127, 128, 129, 130, 131, 132, 133, 134, 144, 145, 146, 147, 148, 149, 150, 151, 135, 136, 137, 138, 139, 140, 141, 142, 143, 152, 153, 154, 155, 156, 157, 158, 159, 160, 161, 162, 163, 164, 165, 166] (by decide +kernel) (by decide +kernel)
set_option maxRecDepth 20000 in
theorem gX6_burden_X6_burdenOf : GoodIn wsX6_burden (wsV RX6 129 RX6 yX6_burdenOf wsX6_burdenOf) := goodIn_app (goodIn_of _ (by decide +kernel)) ggX6_burden_X6_burdenOf
theorem dX6_burden_0 : decode cX6_burden 0 = .ok (.aload_n 0, 1) := by decide +kernel
theorem dX6_burden_1 : decode cX6_burden 1 = .ok (.iload_n 1, 1) := by decide +kernel
theorem dX6_burden_2 : decode cX6_burden 2 = .ok (.invokevirtual 115, 3) := by decide +kernel
theorem dX6_burden_5 : decode cX6_burden 5 = .ok (.iload_n 2, 1) := by decide +kernel
theorem dX6_burden_6 : decode cX6_burden 6 = .ok (.bipush (-10), 2) := by decide +kernel
theorem dX6_burden_8 : decode cX6_burden 8 = .ok (.bipush 10, 2) := by decide +kernel
theorem dX6_burden_10 : decode cX6_burden 10 = .ok (.invokestatic 118, 3) := by decide +kernel
theorem dX6_burden_13 : decode cX6_burden 13 = .ok (.aload_n 0, 1) := by decide +kernel
theorem dX6_burden_14 : decode cX6_burden 14 = .ok (.iload_n 1, 1) := by decide +kernel
theorem dX6_burden_15 : decode cX6_burden 15 = .ok (.iload_n 2, 1) := by decide +kernel
theorem dX6_burden_16 : decode cX6_burden 16 = .ok (.invokevirtual 240, 3) := by decide +kernel
theorem dX6_burden_19 : decode cX6_burden 19 = .ok (.aload_n 0, 1) := by decide +kernel
theorem dX6_burden_20 : decode cX6_burden 20 = .ok (.aload_n 0, 1) := by decide +kernel
theorem dX6_burden_21 : decode cX6_burden 21 = .ok (.getfield 16, 3) := by decide +kernel
theorem dX6_burden_24 : decode cX6_burden 24 = .ok (.iload_n 1, 1) := by decide +kernel
theorem dX6_burden_25 : decode cX6_burden 25 = .ok (.invokevirtual 129, 3) := by decide +kernel
theorem dX6_burden_28 : decode cX6_burden 28 = .ok (.ireturn, 1) := by decide +kernel
set_option maxRecDepth 20000 in
theorem ggX6_bestShift_X6_requireMoon : GoodIn wsX6_bestShift wsX6_requireMoon := goodIn_ca (goodIn_r _ [5, 6, 7, 8, 9, 135, 136, 137, 138, 139, 140, 141, 142, 143, 144, 145, 146, 147, 148, 149, 150, 151] (by decide +kernel) (by decide +kernel)) (goodIn_sub (fun _ h => List.mem_cons_of_mem _ (List.mem_append_right _ h)) (by decide +kernel))
set_option maxRecDepth 20000 in
theorem gX6_bestShift_X6_requireMoon : GoodIn wsX6_bestShift (wsV RX6 115 RX6 yX6_requireMoon wsX6_requireMoon) := goodIn_app (goodIn_of _ (by decide +kernel)) ggX6_bestShift_X6_requireMoon
set_option maxRecDepth 20000 in
theorem ggX6_bestShift_X6_bestDegrees : GoodIn wsX6_bestShift wsX6_bestDegrees := goodIn_r _ [13, 14, 15, 16, 17, 18, 19, 4, 20, 8, 21, 22, 23, 24, 25, 26, 27, 28, 29, 30, 31, 32, 33, 34, 35, 36, 37, 38, 39, 40, 41, 42, 43, 44, 45, 46, 47, 48, 49, 50, 51, 52, 53, 54, 55, 56, 57, 58, 59, 60, 61, 62, 63, 64, 65, 66, 67, 68, 69, 70, 71, 72, 73, 74, 75, 76, 77, 78, 79, 80, 81, 82, 83, 84, 85, 86, 87, 88, 89, 90, 91, 92, 93, 94, 95, 96, 97, 98, 99, 100, 101, 102, 103, 104, 105, 106, 107, 108, 109, 110, 111, 112, 113, 114, 115, 116, 117, 118, 119, 120, 121, 122, 123, 124, 125, 126, 127, 128, 129, 130, 131, 132, 133, 134, 135, 136, 137, 138, 139, 140, 141, 142, 143, 144, 145, 146, 147, 148, 149, 150, 151, 152, 153, 154, 155, 156, 157, 158, 159, 160, 161, 162, 163, 164, 165, 166] (by decide +kernel) (by decide +kernel)
set_option maxRecDepth 20000 in
theorem gX6_bestShift_X6_bestDegrees : GoodIn wsX6_bestShift (wsV RX6 243 RX6 yX6_bestDegrees wsX6_bestDegrees) := goodIn_app (goodIn_of _ (by decide +kernel)) ggX6_bestShift_X6_bestDegrees
theorem dX6_bestShift_0 : decode cX6_bestShift 0 = .ok (.aload_n 0, 1) := by decide +kernel
theorem dX6_bestShift_1 : decode cX6_bestShift 1 = .ok (.iload_n 1, 1) := by decide +kernel
theorem dX6_bestShift_2 : decode cX6_bestShift 2 = .ok (.invokevirtual 115, 3) := by decide +kernel
theorem dX6_bestShift_5 : decode cX6_bestShift 5 = .ok (.aload_n 0, 1) := by decide +kernel
theorem dX6_bestShift_6 : decode cX6_bestShift 6 = .ok (.iload_n 1, 1) := by decide +kernel
theorem dX6_bestShift_7 : decode cX6_bestShift 7 = .ok (.invokevirtual 243, 3) := by decide +kernel
theorem dX6_bestShift_10 : decode cX6_bestShift 10 = .ok (.ireturn, 1) := by decide +kernel
set_option maxRecDepth 20000 in
theorem ggX6_see_X6_requireMoon : GoodIn wsX6_see wsX6_requireMoon := goodIn_ca (goodIn_r _ [8, 9, 10, 1, 11, 81, 82, 83, 84, 85, 86, 87, 88, 89, 90, 91, 92, 93, 94, 95, 96, 97] (by decide +kernel) (by decide +kernel)) (goodIn_sub (fun _ h => List.mem_cons_of_mem _ (List.mem_append_left _ (List.mem_append_right _ h))) (by decide +kernel))
set_option maxRecDepth 20000 in
theorem gX6_see_X6_requireMoon : GoodIn wsX6_see (wsV RX6 115 RX6 yX6_requireMoon wsX6_requireMoon) := goodIn_app (goodIn_of _ (by decide +kernel)) ggX6_see_X6_requireMoon
set_option maxRecDepth 20000 in
theorem ggX6_see_X6_requireBetween : GoodIn wsX6_see wsX6_requireBetween := goodIn_ca (goodIn_r _ [14, 15, 16] (by decide +kernel) (by decide +kernel)) (goodIn_sub (fun _ h => List.mem_cons_of_mem _ (List.mem_append_right _ h)) (by decide +kernel))
set_option maxRecDepth 20000 in
theorem gX6_see_X6_requireBetween : GoodIn wsX6_see (va_wsS RX6 118 yX6_requireBetween wsX6_requireBetween) := goodIn_app (goodIn_of _ (by decide +kernel)) ggX6_see_X6_requireBetween
set_option maxRecDepth 20000 in
theorem ggX6_see_X6_requireTime : GoodIn wsX6_see wsX6_requireTime := goodIn_ca (goodIn_r _ [19, 20, 12, 13, 7, 14, 15, 16] (by decide +kernel) (by decide +kernel)) (goodIn_sub (fun _ h => List.mem_cons_of_mem _ (List.mem_append_right _ h)) (by decide +kernel))
set_option maxRecDepth 20000 in
theorem gX6_see_X6_requireTime : GoodIn wsX6_see (va_wsS RX6 145 yX6_requireTime wsX6_requireTime) := goodIn_app (goodIn_of _ (by decide +kernel)) ggX6_see_X6_requireTime
set_option maxRecDepth 20000 in
theorem ggX6_see_X1_hasSight : GoodIn wsX6_see wsX1_hasSight := goodIn_r _ [25, 26, 27, 28, 29, 24, 30, 31, 90, 91, 92, 93, 94, 95, 96, 97] (by decide +kernel) (by decide +kernel)
set_option maxRecDepth 20000 in
theorem gX6_see_X1_hasSight : GoodIn wsX6_see (wsV RX6 246 RX1 yX1_hasSight wsX1_hasSight) := goodIn_app (goodIn_of _ (by decide +kernel)) ggX6_see_X1_hasSight
set_option maxRecDepth 20000 in
theorem ggX6_see_X1_copyFrom : GoodIn wsX6_see wsX1_copyFrom := goodIn_r _ [35, 36, 37, 38, 39, 26, 40, 41, 31, 42, 43, 24, 44, 90, 91, 92, 93, 94, 95, 96, 97] (by decide +kernel) (by decide +kernel)
set_option maxRecDepth 20000 in
theorem gX6_see_X1_copyFrom : GoodIn wsX6_see (wsV RX6 86 RX1 yX1_copyFrom wsX1_copyFrom) := goodIn_app (goodIn_of _ (by decide +kernel)) ggX6_see_X1_copyFrom
set_option maxRecDepth 20000 in
theorem ggX6_see_X1_addSight : GoodIn wsX6_see wsX1_addSight := goodIn_r _ [48, 26, 49, 50, 51, 24, 52, 31, 90, 91, 92, 93, 94, 95, 96, 97] (by decide +kernel) (by decide +kernel)
set_option maxRecDepth 20000 in
theorem gX6_see_X1_addSight : GoodIn wsX6_see (wsV RX6 249 RX1 yX1_addSight wsX1_addSight) := goodIn_app (goodIn_of _ (by decide +kernel)) ggX6_see_X1_addSight
set_option maxRecDepth 20000 in
theorem ggX6_see_X6_acceptDraft : GoodIn wsX6_see wsX6_acceptDraft := goodIn_r _ [56, 57, 1, 3, 58, 59, 60, 61, 62, 63, 64, 65, 66, 67, 68, 69, 70, 7, 71, 72, 73, 24, 74, 75, 76, 77, 78, 36, 79, 40, 80, 41, 31, 32, 33, 34, 35, 37, 38, 39, 26, 42, 43, 44, 81, 82, 83, 84, 85, 86, 87, 88, 89, 98, 99, 100, 90, 91, 92, 93, 94, 95, 96, 97] (by decide +kernel) (by decide +kernel)
set_option maxRecDepth 20000 in
theorem gX6_see_X6_acceptDraft : GoodIn wsX6_see (wsV RX6 80 RX6 yX6_acceptDraft wsX6_acceptDraft) := goodIn_app (goodIn_of _ (by decide +kernel)) ggX6_see_X6_acceptDraft
theorem dX6_see_0 : decode cX6_see 0 = .ok (.aload_n 0, 1) := by decide +kernel
theorem dX6_see_1 : decode cX6_see 1 = .ok (.iload_n 1, 1) := by decide +kernel
theorem dX6_see_2 : decode cX6_see 2 = .ok (.invokevirtual 115, 3) := by decide +kernel
theorem dX6_see_5 : decode cX6_see 5 = .ok (.iload_n 2, 1) := by decide +kernel
theorem dX6_see_6 : decode cX6_see 6 = .ok (.iconst 0, 1) := by decide +kernel
theorem dX6_see_7 : decode cX6_see 7 = .ok (.iconst 3, 1) := by decide +kernel
theorem dX6_see_8 : decode cX6_see 8 = .ok (.invokestatic 118, 3) := by decide +kernel
theorem dX6_see_11 : decode cX6_see 11 = .ok (.iload_n 3, 1) := by decide +kernel
theorem dX6_see_12 : decode cX6_see 12 = .ok (.iconst 1, 1) := by decide +kernel
theorem dX6_see_13 : decode cX6_see 13 = .ok (.invokestatic 145, 3) := by decide +kernel
theorem dX6_see_16 : decode cX6_see 16 = .ok (.aload_n 0, 1) := by decide +kernel
theorem dX6_see_17 : decode cX6_see 17 = .ok (.getfield 10, 3) := by decide +kernel
theorem dX6_see_20 : decode cX6_see 20 = .ok (.getfield 93, 3) := by decide +kernel
theorem dX6_see_23 : decode cX6_see 23 = .ok (.bipush 30, 2) := by decide +kernel
theorem dX6_see_25 : decode cX6_see 25 = .ok (.if_icmp .lt 6, 3) := by decide +kernel
theorem dX6_see_28 : decode cX6_see 28 = .ok (.bipush (-11), 2) := by decide +kernel
theorem dX6_see_30 : decode cX6_see 30 = .ok (.ireturn, 1) := by decide +kernel
theorem dX6_see_31 : decode cX6_see 31 = .ok (.aload_n 0, 1) := by decide +kernel
theorem dX6_see_32 : decode cX6_see 32 = .ok (.getfield 10, 3) := by decide +kernel
theorem dX6_see_35 : decode cX6_see 35 = .ok (.iload_n 1, 1) := by decide +kernel
theorem dX6_see_36 : decode cX6_see 36 = .ok (.iload_n 2, 1) := by decide +kernel
theorem dX6_see_37 : decode cX6_see 37 = .ok (.iload_n 3, 1) := by decide +kernel
theorem dX6_see_38 : decode cX6_see 38 = .ok (.invokevirtual 246, 3) := by decide +kernel
theorem dX6_see_41 : decode cX6_see 41 = .ok (.ifCond .eq 6, 3) := by decide +kernel
theorem dX6_see_44 : decode cX6_see 44 = .ok (.bipush (-12), 2) := by decide +kernel
theorem dX6_see_46 : decode cX6_see 46 = .ok (.ireturn, 1) := by decide +kernel
theorem dX6_see_47 : decode cX6_see 47 = .ok (.aload_n 0, 1) := by decide +kernel
theorem dX6_see_48 : decode cX6_see 48 = .ok (.getfield 16, 3) := by decide +kernel
theorem dX6_see_51 : decode cX6_see 51 = .ok (.aload_n 0, 1) := by decide +kernel
theorem dX6_see_52 : decode cX6_see 52 = .ok (.getfield 10, 3) := by decide +kernel
theorem dX6_see_55 : decode cX6_see 55 = .ok (.invokevirtual 86, 3) := by decide +kernel
theorem dX6_see_58 : decode cX6_see 58 = .ok (.aload_n 0, 1) := by decide +kernel
theorem dX6_see_59 : decode cX6_see 59 = .ok (.getfield 16, 3) := by decide +kernel
theorem dX6_see_62 : decode cX6_see 62 = .ok (.iload_n 1, 1) := by decide +kernel
theorem dX6_see_63 : decode cX6_see 63 = .ok (.iload_n 2, 1) := by decide +kernel
theorem dX6_see_64 : decode cX6_see 64 = .ok (.iload_n 3, 1) := by decide +kernel
theorem dX6_see_65 : decode cX6_see 65 = .ok (.invokevirtual 249, 3) := by decide +kernel
theorem dX6_see_68 : decode cX6_see 68 = .ok (.aload_n 0, 1) := by decide +kernel
theorem dX6_see_69 : decode cX6_see 69 = .ok (.invokevirtual 80, 3) := by decide +kernel
theorem dX6_see_72 : decode cX6_see 72 = .ok (.aload_n 0, 1) := by decide +kernel
theorem dX6_see_73 : decode cX6_see 73 = .ok (.getfield 10, 3) := by decide +kernel
theorem dX6_see_76 : decode cX6_see 76 = .ok (.getfield 93, 3) := by decide +kernel
theorem dX6_see_79 : decode cX6_see 79 = .ok (.iconst 1, 1) := by decide +kernel
theorem dX6_see_80 : decode cX6_see 80 = .ok (.isub, 1) := by decide +kernel
theorem dX6_see_81 : decode cX6_see 81 = .ok (.ireturn, 1) := by decide +kernel
set_option maxRecDepth 20000 in
theorem ggX6_forget_X6_requireSight : GoodIn wsX6_forget wsX6_requireSight := goodIn_ca (goodIn_r _ [8, 9, 10, 2, 3, 67, 68, 69, 70, 71, 72, 73, 74, 75, 76, 77, 78, 79, 80, 81, 82, 83] (by decide +kernel) (by decide +kernel)) (goodIn_sub (fun _ h => List.mem_cons_of_mem _ (List.mem_append_right _ h)) (by decide +kernel))
set_option maxRecDepth 20000 in
theorem gX6_forget_X6_requireSight : GoodIn wsX6_forget (wsV RX6 133 RX6 yX6_requireSight wsX6_requireSight) := goodIn_app (goodIn_of _ (by decide +kernel)) ggX6_forget_X6_requireSight
set_option maxRecDepth 20000 in
theorem ggX6_forget_X1_copyFrom : GoodIn wsX6_forget wsX1_copyFrom := goodIn_r _ [15, 16, 17, 18, 19, 20, 21, 22, 23, 24, 25, 14, 26, 76, 77, 78, 79, 80, 81, 82, 83] (by decide +kernel) (by decide +kernel)
set_option maxRecDepth 20000 in
theorem gX6_forget_X1_copyFrom : GoodIn wsX6_forget (wsV RX6 86 RX1 yX1_copyFrom wsX1_copyFrom) := goodIn_app (goodIn_of _ (by decide +kernel)) ggX6_forget_X1_copyFrom
set_option maxRecDepth 20000 in
theorem ggX6_forget_X1_dropSight : GoodIn wsX6_forget wsX1_dropSight := goodIn_r _ [30, 20, 31, 32, 33, 14, 34, 23, 35, 36, 37, 38, 76, 77, 78, 79, 80, 81, 82, 83] (by decide +kernel) (by decide +kernel)
set_option maxRecDepth 20000 in
theorem gX6_forget_X1_dropSight : GoodIn wsX6_forget (wsV RX6 252 RX1 yX1_dropSight wsX1_dropSight) := goodIn_app (goodIn_of _ (by decide +kernel)) ggX6_forget_X1_dropSight
set_option maxRecDepth 20000 in
theorem ggX6_forget_X6_acceptDraft : GoodIn wsX6_forget wsX6_acceptDraft := goodIn_r _ [42, 43, 2, 1, 44, 45, 46, 47, 48, 49, 50, 51, 52, 53, 54, 55, 56, 7, 57, 58, 59, 14, 60, 61, 62, 63, 64, 16, 65, 21, 66, 22, 23, 11, 12, 13, 15, 17, 18, 19, 20, 24, 25, 26, 67, 68, 69, 70, 71, 72, 73, 74, 75, 84, 85, 86, 76, 77, 78, 79, 80, 81, 82, 83] (by decide +kernel) (by decide +kernel)
set_option maxRecDepth 20000 in
theorem gX6_forget_X6_acceptDraft : GoodIn wsX6_forget (wsV RX6 80 RX6 yX6_acceptDraft wsX6_acceptDraft) := goodIn_app (goodIn_of _ (by decide +kernel)) ggX6_forget_X6_acceptDraft
theorem dX6_forget_0 : decode cX6_forget 0 = .ok (.aload_n 0, 1) := by decide +kernel
theorem dX6_forget_1 : decode cX6_forget 1 = .ok (.iload_n 1, 1) := by decide +kernel
theorem dX6_forget_2 : decode cX6_forget 2 = .ok (.invokevirtual 133, 3) := by decide +kernel
theorem dX6_forget_5 : decode cX6_forget 5 = .ok (.aload_n 0, 1) := by decide +kernel
theorem dX6_forget_6 : decode cX6_forget 6 = .ok (.getfield 16, 3) := by decide +kernel
theorem dX6_forget_9 : decode cX6_forget 9 = .ok (.aload_n 0, 1) := by decide +kernel
theorem dX6_forget_10 : decode cX6_forget 10 = .ok (.getfield 10, 3) := by decide +kernel
theorem dX6_forget_13 : decode cX6_forget 13 = .ok (.invokevirtual 86, 3) := by decide +kernel
theorem dX6_forget_16 : decode cX6_forget 16 = .ok (.aload_n 0, 1) := by decide +kernel
theorem dX6_forget_17 : decode cX6_forget 17 = .ok (.getfield 16, 3) := by decide +kernel
theorem dX6_forget_20 : decode cX6_forget 20 = .ok (.iload_n 1, 1) := by decide +kernel
theorem dX6_forget_21 : decode cX6_forget 21 = .ok (.invokevirtual 252, 3) := by decide +kernel
theorem dX6_forget_24 : decode cX6_forget 24 = .ok (.aload_n 0, 1) := by decide +kernel
theorem dX6_forget_25 : decode cX6_forget 25 = .ok (.invokevirtual 80, 3) := by decide +kernel
theorem dX6_forget_28 : decode cX6_forget 28 = .ok (.aload_n 0, 1) := by decide +kernel
theorem dX6_forget_29 : decode cX6_forget 29 = .ok (.getfield 10, 3) := by decide +kernel
theorem dX6_forget_32 : decode cX6_forget 32 = .ok (.getfield 93, 3) := by decide +kernel
theorem dX6_forget_35 : decode cX6_forget 35 = .ok (.ireturn, 1) := by decide +kernel
set_option maxRecDepth 20000 in
theorem ggX6_setMoon_X6_requireMoon : GoodIn wsX6_setMoon wsX6_requireMoon := goodIn_ca (goodIn_r _ [7, 8, 9, 2, 10, 81, 82, 83, 84, 85, 86, 87, 88, 89, 90, 91, 92, 93, 94, 95, 96, 97] (by decide +kernel) (by decide +kernel)) (goodIn_sub (fun _ h => List.mem_cons_of_mem _ (List.mem_append_left _ (List.mem_append_right _ h))) (by decide +kernel))
set_option maxRecDepth 20000 in
theorem gX6_setMoon_X6_requireMoon : GoodIn wsX6_setMoon (wsV RX6 115 RX6 yX6_requireMoon wsX6_requireMoon) := goodIn_app (goodIn_of _ (by decide +kernel)) ggX6_setMoon_X6_requireMoon
set_option maxRecDepth 20000 in
theorem ggX6_setMoon_X6_requireBetween : GoodIn wsX6_setMoon wsX6_requireBetween := goodIn_ca (goodIn_r _ [13, 14, 15] (by decide +kernel) (by decide +kernel)) (goodIn_sub (fun _ h => List.mem_cons_of_mem _ (List.mem_append_right _ h)) (by decide +kernel))
set_option maxRecDepth 20000 in
theorem gX6_setMoon_X6_requireBetween : GoodIn wsX6_setMoon (va_wsS RX6 118 yX6_requireBetween wsX6_requireBetween) := goodIn_app (goodIn_of _ (by decide +kernel)) ggX6_setMoon_X6_requireBetween
set_option maxRecDepth 20000 in
theorem ggX6_setMoon_X6_lowestOf : GoodIn wsX6_setMoon wsX6_lowestOf := goodIn_r _ [18, 19] (by decide +kernel) (by decide +kernel)
set_option maxRecDepth 20000 in
theorem gX6_setMoon_X6_lowestOf : GoodIn wsX6_setMoon (va_wsS RX6 255 yX6_lowestOf wsX6_lowestOf) := goodIn_app (goodIn_of _ (by decide +kernel)) ggX6_setMoon_X6_lowestOf
set_option maxRecDepth 20000 in
theorem ggX6_setMoon_X6_highestOf : GoodIn wsX6_setMoon wsX6_highestOf := goodIn_r _ [22, 23] (by decide +kernel) (by decide +kernel)
set_option maxRecDepth 20000 in
theorem gX6_setMoon_X6_highestOf : GoodIn wsX6_setMoon (va_wsS RX6 258 yX6_highestOf wsX6_highestOf) := goodIn_app (goodIn_of _ (by decide +kernel)) ggX6_setMoon_X6_highestOf
set_option maxRecDepth 20000 in
theorem ggX6_setMoon_X1_copyFrom : GoodIn wsX6_setMoon wsX1_copyFrom := goodIn_r _ [28, 29, 30, 31, 32, 33, 34, 35, 36, 37, 38, 27, 39, 90, 91, 92, 93, 94, 95, 96, 97] (by decide +kernel) (by decide +kernel)
set_option maxRecDepth 20000 in
theorem gX6_setMoon_X1_copyFrom : GoodIn wsX6_setMoon (wsV RX6 86 RX1 yX1_copyFrom wsX1_copyFrom) := goodIn_app (goodIn_of _ (by decide +kernel)) ggX6_setMoon_X1_copyFrom
set_option maxRecDepth 20000 in
theorem ggX6_setMoon_X1_putMoonNumber : GoodIn wsX6_setMoon wsX1_putMoonNumber := goodIn_r _ [43, 35, 90, 91, 92, 93, 94, 95, 96, 97] (by decide +kernel) (by decide +kernel)
set_option maxRecDepth 20000 in
theorem gX6_setMoon_X1_putMoonNumber : GoodIn wsX6_setMoon (wsV RX6 261 RX1 yX1_putMoonNumber wsX1_putMoonNumber) := goodIn_app (goodIn_of _ (by decide +kernel)) ggX6_setMoon_X1_putMoonNumber
set_option maxRecDepth 20000 in
theorem ggX6_setMoon_X1_moonFits : GoodIn wsX6_setMoon wsX1_moonFits := goodIn_r _ [47, 29, 48, 49, 50, 27, 51, 35, 90, 91, 92, 93, 94, 95, 96, 97] (by decide +kernel) (by decide +kernel)
set_option maxRecDepth 20000 in
theorem gX6_setMoon_X1_moonFits : GoodIn wsX6_setMoon (wsV RX6 264 RX1 yX1_moonFits wsX1_moonFits) := goodIn_app (goodIn_of _ (by decide +kernel)) ggX6_setMoon_X1_moonFits
set_option maxRecDepth 20000 in
theorem ggX6_setMoon_X1_moonNumber : GoodIn wsX6_setMoon wsX1_moonNumber := goodIn_r _ [51, 35, 90, 91, 92, 93, 94, 95, 96, 97] (by decide +kernel) (by decide +kernel)
set_option maxRecDepth 20000 in
theorem gX6_setMoon_X1_moonNumber : GoodIn wsX6_setMoon (wsV RX6 125 RX1 yX1_moonNumber wsX1_moonNumber) := goodIn_app (goodIn_of _ (by decide +kernel)) ggX6_setMoon_X1_moonNumber
set_option maxRecDepth 20000 in
theorem ggX6_setMoon_X6_acceptDraft : GoodIn wsX6_setMoon wsX6_acceptDraft := goodIn_r _ [56, 57, 2, 1, 58, 59, 60, 61, 62, 63, 64, 65, 66, 67, 68, 69, 70, 6, 71, 72, 73, 27, 74, 75, 76, 77, 78, 29, 79, 34, 80, 35, 36, 24, 25, 26, 28, 30, 31, 32, 33, 37, 38, 39, 81, 82, 83, 84, 85, 86, 87, 88, 89, 98, 99, 100, 90, 91, 92, 93, 94, 95, 96, 97] (by decide +kernel) (by decide +kernel)
set_option maxRecDepth 20000 in
theorem gX6_setMoon_X6_acceptDraft : GoodIn wsX6_setMoon (wsV RX6 80 RX6 yX6_acceptDraft wsX6_acceptDraft) := goodIn_app (goodIn_of _ (by decide +kernel)) ggX6_setMoon_X6_acceptDraft
theorem dX6_setMoon_0 : decode cX6_setMoon 0 = .ok (.aload_n 0, 1) := by decide +kernel
theorem dX6_setMoon_1 : decode cX6_setMoon 1 = .ok (.iload_n 1, 1) := by decide +kernel
theorem dX6_setMoon_2 : decode cX6_setMoon 2 = .ok (.invokevirtual 115, 3) := by decide +kernel
theorem dX6_setMoon_5 : decode cX6_setMoon 5 = .ok (.iload_n 2, 1) := by decide +kernel
theorem dX6_setMoon_6 : decode cX6_setMoon 6 = .ok (.iconst 0, 1) := by decide +kernel
theorem dX6_setMoon_7 : decode cX6_setMoon 7 = .ok (.iconst 5, 1) := by decide +kernel
theorem dX6_setMoon_8 : decode cX6_setMoon 8 = .ok (.invokestatic 118, 3) := by decide +kernel
theorem dX6_setMoon_11 : decode cX6_setMoon 11 = .ok (.iload_n 3, 1) := by decide +kernel
theorem dX6_setMoon_12 : decode cX6_setMoon 12 = .ok (.iload_n 2, 1) := by decide +kernel
theorem dX6_setMoon_13 : decode cX6_setMoon 13 = .ok (.invokestatic 255, 3) := by decide +kernel
theorem dX6_setMoon_16 : decode cX6_setMoon 16 = .ok (.iload_n 2, 1) := by decide +kernel
theorem dX6_setMoon_17 : decode cX6_setMoon 17 = .ok (.invokestatic 258, 3) := by decide +kernel
theorem dX6_setMoon_20 : decode cX6_setMoon 20 = .ok (.invokestatic 118, 3) := by decide +kernel
theorem dX6_setMoon_23 : decode cX6_setMoon 23 = .ok (.aload_n 0, 1) := by decide +kernel
theorem dX6_setMoon_24 : decode cX6_setMoon 24 = .ok (.getfield 16, 3) := by decide +kernel
theorem dX6_setMoon_27 : decode cX6_setMoon 27 = .ok (.aload_n 0, 1) := by decide +kernel
theorem dX6_setMoon_28 : decode cX6_setMoon 28 = .ok (.getfield 10, 3) := by decide +kernel
theorem dX6_setMoon_31 : decode cX6_setMoon 31 = .ok (.invokevirtual 86, 3) := by decide +kernel
theorem dX6_setMoon_34 : decode cX6_setMoon 34 = .ok (.aload_n 0, 1) := by decide +kernel
theorem dX6_setMoon_35 : decode cX6_setMoon 35 = .ok (.getfield 16, 3) := by decide +kernel
theorem dX6_setMoon_38 : decode cX6_setMoon 38 = .ok (.iload_n 1, 1) := by decide +kernel
theorem dX6_setMoon_39 : decode cX6_setMoon 39 = .ok (.iload_n 2, 1) := by decide +kernel
theorem dX6_setMoon_40 : decode cX6_setMoon 40 = .ok (.iload_n 3, 1) := by decide +kernel
theorem dX6_setMoon_41 : decode cX6_setMoon 41 = .ok (.invokevirtual 261, 3) := by decide +kernel
theorem dX6_setMoon_44 : decode cX6_setMoon 44 = .ok (.aload_n 0, 1) := by decide +kernel
theorem dX6_setMoon_45 : decode cX6_setMoon 45 = .ok (.getfield 16, 3) := by decide +kernel
theorem dX6_setMoon_48 : decode cX6_setMoon 48 = .ok (.iload_n 1, 1) := by decide +kernel
theorem dX6_setMoon_49 : decode cX6_setMoon 49 = .ok (.invokevirtual 264, 3) := by decide +kernel
theorem dX6_setMoon_52 : decode cX6_setMoon 52 = .ok (.ifCond .ne 6, 3) := by decide +kernel
theorem dX6_setMoon_55 : decode cX6_setMoon 55 = .ok (.bipush (-13), 2) := by decide +kernel
theorem dX6_setMoon_57 : decode cX6_setMoon 57 = .ok (.ireturn, 1) := by decide +kernel
theorem dX6_setMoon_58 : decode cX6_setMoon 58 = .ok (.aload_n 0, 1) := by decide +kernel
theorem dX6_setMoon_59 : decode cX6_setMoon 59 = .ok (.getfield 10, 3) := by decide +kernel
theorem dX6_setMoon_62 : decode cX6_setMoon 62 = .ok (.iload_n 1, 1) := by decide +kernel
theorem dX6_setMoon_63 : decode cX6_setMoon 63 = .ok (.iload_n 2, 1) := by decide +kernel
theorem dX6_setMoon_64 : decode cX6_setMoon 64 = .ok (.invokevirtual 125, 3) := by decide +kernel
theorem dX6_setMoon_67 : decode cX6_setMoon 67 = .ok (.istore 4, 2) := by decide +kernel
theorem dX6_setMoon_69 : decode cX6_setMoon 69 = .ok (.aload_n 0, 1) := by decide +kernel
theorem dX6_setMoon_70 : decode cX6_setMoon 70 = .ok (.invokevirtual 80, 3) := by decide +kernel
theorem dX6_setMoon_73 : decode cX6_setMoon 73 = .ok (.iload 4, 2) := by decide +kernel
theorem dX6_setMoon_75 : decode cX6_setMoon 75 = .ok (.ireturn, 1) := by decide +kernel
set_option maxRecDepth 20000 in
theorem ggX6_setLight_X6_requireBetween : GoodIn wsX6_setLight wsX6_requireBetween := goodIn_ca (goodIn_r _ [8, 9, 10] (by decide +kernel) (by decide +kernel)) (goodIn_sub (fun _ h => List.mem_cons_of_mem _ (List.mem_append_right _ h)) (by decide +kernel))
set_option maxRecDepth 20000 in
theorem gX6_setLight_X6_requireBetween : GoodIn wsX6_setLight (va_wsS RX6 118 yX6_requireBetween wsX6_requireBetween) := goodIn_app (goodIn_of _ (by decide +kernel)) ggX6_setLight_X6_requireBetween
set_option maxRecDepth 20000 in
theorem ggX6_setLight_X1_copyFrom : GoodIn wsX6_setLight wsX1_copyFrom := goodIn_r _ [15, 16, 17, 18, 19, 20, 21, 22, 23, 24, 25, 14, 26, 64, 65, 66, 67, 68, 69, 70, 71] (by decide +kernel) (by decide +kernel)
set_option maxRecDepth 20000 in
theorem gX6_setLight_X1_copyFrom : GoodIn wsX6_setLight (wsV RX6 86 RX1 yX1_copyFrom wsX1_copyFrom) := goodIn_app (goodIn_of _ (by decide +kernel)) ggX6_setLight_X1_copyFrom
set_option maxRecDepth 20000 in
theorem ggX6_setLight_X6_acceptDraft : GoodIn wsX6_setLight wsX6_acceptDraft := goodIn_r _ [30, 31, 1, 3, 32, 33, 34, 35, 36, 37, 38, 39, 40, 41, 42, 43, 44, 7, 45, 46, 47, 14, 48, 49, 50, 51, 52, 16, 53, 21, 54, 22, 23, 11, 12, 13, 15, 17, 18, 19, 20, 24, 25, 26, 55, 56, 57, 58, 59, 60, 61, 62, 63, 72, 73, 74, 64, 65, 66, 67, 68, 69, 70, 71] (by decide +kernel) (by decide +kernel)
set_option maxRecDepth 20000 in
theorem gX6_setLight_X6_acceptDraft : GoodIn wsX6_setLight (wsV RX6 80 RX6 yX6_acceptDraft wsX6_acceptDraft) := goodIn_app (goodIn_of _ (by decide +kernel)) ggX6_setLight_X6_acceptDraft
theorem dX6_setLight_0 : decode cX6_setLight 0 = .ok (.iload_n 1, 1) := by decide +kernel
theorem dX6_setLight_1 : decode cX6_setLight 1 = .ok (.iconst 0, 1) := by decide +kernel
theorem dX6_setLight_2 : decode cX6_setLight 2 = .ok (.sipush 359, 3) := by decide +kernel
theorem dX6_setLight_5 : decode cX6_setLight 5 = .ok (.invokestatic 118, 3) := by decide +kernel
theorem dX6_setLight_8 : decode cX6_setLight 8 = .ok (.iload_n 2, 1) := by decide +kernel
theorem dX6_setLight_9 : decode cX6_setLight 9 = .ok (.sipush (-999), 3) := by decide +kernel
theorem dX6_setLight_12 : decode cX6_setLight 12 = .ok (.sipush 999, 3) := by decide +kernel
theorem dX6_setLight_15 : decode cX6_setLight 15 = .ok (.invokestatic 118, 3) := by decide +kernel
theorem dX6_setLight_18 : decode cX6_setLight 18 = .ok (.aload_n 0, 1) := by decide +kernel
theorem dX6_setLight_19 : decode cX6_setLight 19 = .ok (.getfield 10, 3) := by decide +kernel
theorem dX6_setLight_22 : decode cX6_setLight 22 = .ok (.getfield 102, 3) := by decide +kernel
theorem dX6_setLight_25 : decode cX6_setLight 25 = .ok (.istore_n 3, 1) := by decide +kernel
theorem dX6_setLight_26 : decode cX6_setLight 26 = .ok (.aload_n 0, 1) := by decide +kernel
theorem dX6_setLight_27 : decode cX6_setLight 27 = .ok (.getfield 16, 3) := by decide +kernel
theorem dX6_setLight_30 : decode cX6_setLight 30 = .ok (.aload_n 0, 1) := by decide +kernel
theorem dX6_setLight_31 : decode cX6_setLight 31 = .ok (.getfield 10, 3) := by decide +kernel
theorem dX6_setLight_34 : decode cX6_setLight 34 = .ok (.invokevirtual 86, 3) := by decide +kernel
theorem dX6_setLight_37 : decode cX6_setLight 37 = .ok (.aload_n 0, 1) := by decide +kernel
theorem dX6_setLight_38 : decode cX6_setLight 38 = .ok (.getfield 16, 3) := by decide +kernel
theorem dX6_setLight_41 : decode cX6_setLight 41 = .ok (.iload_n 1, 1) := by decide +kernel
theorem dX6_setLight_42 : decode cX6_setLight 42 = .ok (.putfield 102, 3) := by decide +kernel
theorem dX6_setLight_45 : decode cX6_setLight 45 = .ok (.aload_n 0, 1) := by decide +kernel
theorem dX6_setLight_46 : decode cX6_setLight 46 = .ok (.getfield 16, 3) := by decide +kernel
theorem dX6_setLight_49 : decode cX6_setLight 49 = .ok (.iload_n 2, 1) := by decide +kernel
theorem dX6_setLight_50 : decode cX6_setLight 50 = .ok (.putfield 105, 3) := by decide +kernel
theorem dX6_setLight_53 : decode cX6_setLight 53 = .ok (.aload_n 0, 1) := by decide +kernel
theorem dX6_setLight_54 : decode cX6_setLight 54 = .ok (.invokevirtual 80, 3) := by decide +kernel
theorem dX6_setLight_57 : decode cX6_setLight 57 = .ok (.iload_n 3, 1) := by decide +kernel
theorem dX6_setLight_58 : decode cX6_setLight 58 = .ok (.ireturn, 1) := by decide +kernel
set_option maxRecDepth 20000 in
theorem ggX6_shift_X6_requireMoon : GoodIn wsX6_shift wsX6_requireMoon := goodIn_ca (goodIn_r _ [6, 7, 8, 1, 9, 162, 163, 164, 165, 166, 167, 168, 169, 170, 171, 172, 173, 174, 175, 176, 177, 178] (by decide +kernel) (by decide +kernel)) (goodIn_sub (fun _ h => List.mem_cons_of_mem _ (List.mem_append_right _ h)) (by decide +kernel))
set_option maxRecDepth 20000 in
theorem gX6_shift_X6_requireMoon : GoodIn wsX6_shift (wsV RX6 115 RX6 yX6_requireMoon wsX6_requireMoon) := goodIn_app (goodIn_of _ (by decide +kernel)) ggX6_shift_X6_requireMoon
set_option maxRecDepth 20000 in
theorem ggX6_shift_X6_bestDegrees : GoodIn wsX6_shift wsX6_bestDegrees := goodIn_r _ [13, 14, 15, 16, 17, 18, 19, 5, 20, 1, 21, 22, 23, 24, 25, 26, 27, 28, 29, 30, 31, 32, 33, 34, 35, 36, 37, 38, 39, 40, 41, 42, 43, 44, 45, 46, 47, 48, 49, 50, 51, 52, 53, 54, 55, 56, 57, 58, 59, 60, 61, 62, 63, 64, 65, 66, 67, 68, 69, 70, 71, 72, 73, 74, 75, 76, 77, 78, 79, 80, 81, 82, 83, 84, 85, 86, 87, 88, 89, 90, 91, 92, 93, 94, 95, 96, 97, 98, 99, 100, 101, 102, 103, 104, 105, 106, 107, 108, 109, 110, 111, 112, 113, 114, 115, 116, 117, 118, 119, 120, 121, 122, 123, 124, 125, 126, 127, 128, 129, 130, 131, 132, 133, 134, 162, 163, 164, 165, 166, 167, 168, 169, 170, 171, 172, 173, 174, 175, 176, 177, 178, 179, 180, 181, 182, 183, 184, 185, 186, 187, 188, 189, 190, 191, 192, 193] (by decide +kernel) (by decide +kernel)
