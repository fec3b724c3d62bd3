set_option maxRecDepth 20000 in
theorem gX7_forget_X7_isSight : GoodIn wsX7_forget (wsV RX7 282 RX7 yX7_isSight wsX7_isSight) := goodIn_app (goodIn_of _ (by decide +kernel)) ggX7_forget_X7_isSight
set_option maxRecDepth 20000 in
theorem ggX7_forget_X7_keeps : GoodIn wsX7_forget wsX7_keeps := goodIn_r _ [14, 15, 16, 17, 18, 6, 19, 20, 21, 22, 23, 24, 25, 26, 27, 28, 29, 30, 31, 32, 33, 34, 35, 36, 37, 38, 39, 40, 41, 42, 43, 44, 45, 46, 47, 48] (by decide +kernel) (by decide +kernel)
set_option maxRecDepth 20000 in
theorem gX7_forget_X7_keeps : GoodIn wsX7_forget (wsV RX7 56 RX7 yX7_keeps wsX7_keeps) := goodIn_app (goodIn_of _ (by decide +kernel)) ggX7_forget_X7_keeps
theorem dX7_forget_0 : decode cX7_forget 0 = .ok (.aload_n 0, 1) := by decide +kernel
theorem dX7_forget_1 : decode cX7_forget 1 = .ok (.aload_n 0, 1) := by decide +kernel
theorem dX7_forget_2 : decode cX7_forget 2 = .ok (.iload_n 1, 1) := by decide +kernel
theorem dX7_forget_3 : decode cX7_forget 3 = .ok (.invokevirtual 282, 3) := by decide +kernel
theorem dX7_forget_6 : decode cX7_forget 6 = .ok (.ifCond .eq 7, 3) := by decide +kernel
theorem dX7_forget_9 : decode cX7_forget 9 = .ok (.iconst 0, 1) := by decide +kernel
theorem dX7_forget_10 : decode cX7_forget 10 = .ok (.goto 4, 3) := by decide +kernel
theorem dX7_forget_13 : decode cX7_forget 13 = .ok (.iconst 1, 1) := by decide +kernel
theorem dX7_forget_14 : decode cX7_forget 14 = .ok (.putfield 42, 3) := by decide +kernel
theorem dX7_forget_17 : decode cX7_forget 17 = .ok (.aload_n 0, 1) := by decide +kernel
theorem dX7_forget_18 : decode cX7_forget 18 = .ok (.getfield 42, 3) := by decide +kernel
theorem dX7_forget_21 : decode cX7_forget 21 = .ok (.ifCond .le 5, 3) := by decide +kernel
theorem dX7_forget_24 : decode cX7_forget 24 = .ok (.iconst 0, 1) := by decide +kernel
theorem dX7_forget_25 : decode cX7_forget 25 = .ok (.ireturn, 1) := by decide +kernel
theorem dX7_forget_26 : decode cX7_forget 26 = .ok (.aload_n 0, 1) := by decide +kernel
theorem dX7_forget_27 : decode cX7_forget 27 = .ok (.aload_n 0, 1) := by decide +kernel
theorem dX7_forget_28 : decode cX7_forget 28 = .ok (.getfield 7, 3) := by decide +kernel
theorem dX7_forget_31 : decode cX7_forget 31 = .ok (.invokevirtual 56, 3) := by decide +kernel
theorem dX7_forget_34 : decode cX7_forget 34 = .ok (.bipush 89, 2) := by decide +kernel
theorem dX7_forget_36 : decode cX7_forget 36 = .ok (.iconst 3, 1) := by decide +kernel
theorem dX7_forget_37 : decode cX7_forget 37 = .ok (.iload_n 1, 1) := by decide +kernel
theorem dX7_forget_38 : decode cX7_forget 38 = .ok (.imul, 1) := by decide +kernel
theorem dX7_forget_39 : decode cX7_forget 39 = .ok (.iadd, 1) := by decide +kernel
theorem dX7_forget_40 : decode cX7_forget 40 = .ok (.istore_n 2, 1) := by decide +kernel
theorem dX7_forget_41 : decode cX7_forget 41 = .ok (.iload_n 2, 1) := by decide +kernel
theorem dX7_forget_42 : decode cX7_forget 42 = .ok (.sipush 176, 3) := by decide +kernel
theorem dX7_forget_45 : decode cX7_forget 45 = .ok (.if_icmp .ge 23, 3) := by decide +kernel
theorem dX7_forget_48 : decode cX7_forget 48 = .ok (.aload_n 0, 1) := by decide +kernel
theorem dX7_forget_49 : decode cX7_forget 49 = .ok (.getfield 7, 3) := by decide +kernel
theorem dX7_forget_52 : decode cX7_forget 52 = .ok (.iload_n 2, 1) := by decide +kernel
theorem dX7_forget_53 : decode cX7_forget 53 = .ok (.aload_n 0, 1) := by decide +kernel
theorem dX7_forget_54 : decode cX7_forget 54 = .ok (.getfield 7, 3) := by decide +kernel
theorem dX7_forget_57 : decode cX7_forget 57 = .ok (.iload_n 2, 1) := by decide +kernel
theorem dX7_forget_58 : decode cX7_forget 58 = .ok (.iconst 3, 1) := by decide +kernel
theorem dX7_forget_59 : decode cX7_forget 59 = .ok (.iadd, 1) := by decide +kernel
theorem dX7_forget_60 : decode cX7_forget 60 = .ok (.iaload, 1) := by decide +kernel
theorem dX7_forget_61 : decode cX7_forget 61 = .ok (.iastore, 1) := by decide +kernel
theorem dX7_forget_62 : decode cX7_forget 62 = .ok (.iinc 2 1, 3) := by decide +kernel
theorem dX7_forget_65 : decode cX7_forget 65 = .ok (.goto (-24), 3) := by decide +kernel
theorem dX7_forget_68 : decode cX7_forget 68 = .ok (.aload_n 0, 1) := by decide +kernel
theorem dX7_forget_69 : decode cX7_forget 69 = .ok (.getfield 7, 3) := by decide +kernel
theorem dX7_forget_72 : decode cX7_forget 72 = .ok (.iconst 4, 1) := by decide +kernel
theorem dX7_forget_73 : decode cX7_forget 73 = .ok (.dup2, 1) := by decide +kernel
theorem dX7_forget_74 : decode cX7_forget 74 = .ok (.iaload, 1) := by decide +kernel
theorem dX7_forget_75 : decode cX7_forget 75 = .ok (.iconst 1, 1) := by decide +kernel
theorem dX7_forget_76 : decode cX7_forget 76 = .ok (.isub, 1) := by decide +kernel
theorem dX7_forget_77 : decode cX7_forget 77 = .ok (.iastore, 1) := by decide +kernel
theorem dX7_forget_78 : decode cX7_forget 78 = .ok (.aload_n 0, 1) := by decide +kernel
theorem dX7_forget_79 : decode cX7_forget 79 = .ok (.getfield 7, 3) := by decide +kernel
theorem dX7_forget_82 : decode cX7_forget 82 = .ok (.iconst 4, 1) := by decide +kernel
theorem dX7_forget_83 : decode cX7_forget 83 = .ok (.iaload, 1) := by decide +kernel
theorem dX7_forget_84 : decode cX7_forget 84 = .ok (.ireturn, 1) := by decide +kernel
set_option maxRecDepth 20000 in
theorem ggX7_setMoon_X7_isMoon : GoodIn wsX7_setMoon wsX7_isMoon := goodIn_r _ [7, 2, 8, 9, 6, 10, 39, 40, 41, 42, 43, 44, 45, 46, 47, 48, 49, 50, 51, 52, 53, 54, 55, 56, 57, 58, 59, 60, 61, 62, 63, 64, 65, 66, 67] (by decide +kernel) (by decide +kernel)
set_option maxRecDepth 20000 in
theorem gX7_setMoon_X7_isMoon : GoodIn wsX7_setMoon (wsV RX7 273 RX7 yX7_isMoon wsX7_isMoon) := goodIn_app (goodIn_of _ (by decide +kernel)) ggX7_setMoon_X7_isMoon
set_option maxRecDepth 20000 in
theorem ggX7_setMoon_X7_isIn : GoodIn wsX7_setMoon wsX7_isIn := goodIn_r _ [10] (by decide +kernel) (by decide +kernel)
set_option maxRecDepth 20000 in
theorem gX7_setMoon_X7_isIn : GoodIn wsX7_setMoon (va_wsS RX7 52 yX7_isIn wsX7_isIn) := goodIn_app (goodIn_of _ (by decide +kernel)) ggX7_setMoon_X7_isIn
set_option maxRecDepth 20000 in
theorem ggX7_setMoon_X7_leastOf : GoodIn wsX7_setMoon wsX7_leastOf := goodIn_r _ [13] (by decide +kernel) (by decide +kernel)
set_option maxRecDepth 20000 in
theorem gX7_setMoon_X7_leastOf : GoodIn wsX7_setMoon (va_wsS RX7 141 yX7_leastOf wsX7_leastOf) := goodIn_app (goodIn_of _ (by decide +kernel)) ggX7_setMoon_X7_leastOf
set_option maxRecDepth 20000 in
theorem ggX7_setMoon_X7_mostOf : GoodIn wsX7_setMoon wsX7_mostOf := goodIn_r _ [16, 17] (by decide +kernel) (by decide +kernel)
set_option maxRecDepth 20000 in
theorem gX7_setMoon_X7_mostOf : GoodIn wsX7_setMoon (va_wsS RX7 144 yX7_mostOf wsX7_mostOf) := goodIn_app (goodIn_of _ (by decide +kernel)) ggX7_setMoon_X7_mostOf
set_option maxRecDepth 20000 in
theorem ggX7_setMoon_X7_of : GoodIn wsX7_setMoon wsX7_of := goodIn_r _ [21, 2, 39, 40, 41, 42, 43, 44, 45, 46, 47, 48, 49, 50, 51, 52, 53, 54, 55, 56, 57, 58, 59, 60, 61, 62, 63, 64, 65, 66, 67] (by decide +kernel) (by decide +kernel)
set_option maxRecDepth 20000 in
theorem gX7_setMoon_X7_of : GoodIn wsX7_setMoon (wsV RX7 128 RX7 yX7_of wsX7_of) := goodIn_app (goodIn_of _ (by decide +kernel)) ggX7_setMoon_X7_of
set_option maxRecDepth 20000 in
theorem ggX7_setMoon_X7_puts : GoodIn wsX7_setMoon wsX7_puts := goodIn_r _ [25, 2, 39, 40, 41, 42, 43, 44, 45, 46, 47, 48, 49, 50, 51, 52, 53, 54, 55, 56, 57, 58, 59, 60, 61, 62, 63, 64, 65, 66, 67] (by decide +kernel) (by decide +kernel)
set_option maxRecDepth 20000 in
theorem gX7_setMoon_X7_puts : GoodIn wsX7_setMoon (wsV RX7 137 RX7 yX7_puts wsX7_puts) := goodIn_app (goodIn_of _ (by decide +kernel)) ggX7_setMoon_X7_puts
set_option maxRecDepth 20000 in
theorem ggX7_setMoon_X7_isMisfit : GoodIn wsX7_setMoon wsX7_isMisfit := goodIn_r _ [29, 2, 18, 19, 20, 6, 21, 39, 40, 41, 42, 43, 44, 45, 46, 47, 48, 49, 50, 51, 52, 53, 54, 55, 56, 57, 58, 59, 60, 61, 62, 63, 64, 65, 66, 67] (by decide +kernel) (by decide +kernel)
set_option maxRecDepth 20000 in
theorem gX7_setMoon_X7_isMisfit : GoodIn wsX7_setMoon (wsV RX7 156 RX7 yX7_isMisfit wsX7_isMisfit) := goodIn_app (goodIn_of _ (by decide +kernel)) ggX7_setMoon_X7_isMisfit
set_option maxRecDepth 20000 in
theorem ggX7_setMoon_X7_keeps : GoodIn wsX7_setMoon wsX7_keeps := goodIn_r _ [33, 34, 35, 36, 37, 6, 38, 39, 40, 41, 42, 43, 44, 45, 46, 47, 48, 49, 50, 51, 52, 53, 54, 55, 56, 57, 58, 59, 60, 61, 62, 63, 64, 65, 66, 67] (by decide +kernel) (by decide +kernel)
set_option maxRecDepth 20000 in
theorem gX7_setMoon_X7_keeps : GoodIn wsX7_setMoon (wsV RX7 56 RX7 yX7_keeps wsX7_keeps) := goodIn_app (goodIn_of _ (by decide +kernel)) ggX7_setMoon_X7_keeps
theorem dX7_setMoon_0 : decode cX7_setMoon 0 = .ok (.aload_n 0, 1) := by decide +kernel
theorem dX7_setMoon_1 : decode cX7_setMoon 1 = .ok (.aload_n 0, 1) := by decide +kernel
theorem dX7_setMoon_2 : decode cX7_setMoon 2 = .ok (.iload_n 1, 1) := by decide +kernel
theorem dX7_setMoon_3 : decode cX7_setMoon 3 = .ok (.invokevirtual 273, 3) := by decide +kernel
theorem dX7_setMoon_6 : decode cX7_setMoon 6 = .ok (.ifCond .ne 7, 3) := by decide +kernel
theorem dX7_setMoon_9 : decode cX7_setMoon 9 = .ok (.iconst 1, 1) := by decide +kernel
theorem dX7_setMoon_10 : decode cX7_setMoon 10 = .ok (.goto 32, 3) := by decide +kernel
theorem dX7_setMoon_13 : decode cX7_setMoon 13 = .ok (.iload_n 2, 1) := by decide +kernel
theorem dX7_setMoon_14 : decode cX7_setMoon 14 = .ok (.iconst 0, 1) := by decide +kernel
theorem dX7_setMoon_15 : decode cX7_setMoon 15 = .ok (.iconst 5, 1) := by decide +kernel
theorem dX7_setMoon_16 : decode cX7_setMoon 16 = .ok (.invokestatic 52, 3) := by decide +kernel
theorem dX7_setMoon_19 : decode cX7_setMoon 19 = .ok (.ifCond .eq 22, 3) := by decide +kernel
theorem dX7_setMoon_22 : decode cX7_setMoon 22 = .ok (.iload_n 3, 1) := by decide +kernel
theorem dX7_setMoon_23 : decode cX7_setMoon 23 = .ok (.iload_n 2, 1) := by decide +kernel
theorem dX7_setMoon_24 : decode cX7_setMoon 24 = .ok (.invokestatic 141, 3) := by decide +kernel
theorem dX7_setMoon_27 : decode cX7_setMoon 27 = .ok (.iload_n 2, 1) := by decide +kernel
theorem dX7_setMoon_28 : decode cX7_setMoon 28 = .ok (.invokestatic 144, 3) := by decide +kernel
theorem dX7_setMoon_31 : decode cX7_setMoon 31 = .ok (.invokestatic 52, 3) := by decide +kernel
theorem dX7_setMoon_34 : decode cX7_setMoon 34 = .ok (.ifCond .eq 7, 3) := by decide +kernel
theorem dX7_setMoon_37 : decode cX7_setMoon 37 = .ok (.iconst 0, 1) := by decide +kernel
theorem dX7_setMoon_38 : decode cX7_setMoon 38 = .ok (.goto 4, 3) := by decide +kernel
theorem dX7_setMoon_41 : decode cX7_setMoon 41 = .ok (.iconst 2, 1) := by decide +kernel
theorem dX7_setMoon_42 : decode cX7_setMoon 42 = .ok (.putfield 42, 3) := by decide +kernel
theorem dX7_setMoon_45 : decode cX7_setMoon 45 = .ok (.aload_n 0, 1) := by decide +kernel
theorem dX7_setMoon_46 : decode cX7_setMoon 46 = .ok (.getfield 42, 3) := by decide +kernel
theorem dX7_setMoon_49 : decode cX7_setMoon 49 = .ok (.ifCond .le 5, 3) := by decide +kernel
theorem dX7_setMoon_52 : decode cX7_setMoon 52 = .ok (.iconst 0, 1) := by decide +kernel
theorem dX7_setMoon_53 : decode cX7_setMoon 53 = .ok (.ireturn, 1) := by decide +kernel
theorem dX7_setMoon_54 : decode cX7_setMoon 54 = .ok (.aload_n 0, 1) := by decide +kernel
theorem dX7_setMoon_55 : decode cX7_setMoon 55 = .ok (.iload_n 1, 1) := by decide +kernel
theorem dX7_setMoon_56 : decode cX7_setMoon 56 = .ok (.iload_n 2, 1) := by decide +kernel
theorem dX7_setMoon_57 : decode cX7_setMoon 57 = .ok (.invokevirtual 128, 3) := by decide +kernel
theorem dX7_setMoon_60 : decode cX7_setMoon 60 = .ok (.istore 4, 2) := by decide +kernel
theorem dX7_setMoon_62 : decode cX7_setMoon 62 = .ok (.aload_n 0, 1) := by decide +kernel
theorem dX7_setMoon_63 : decode cX7_setMoon 63 = .ok (.iload_n 1, 1) := by decide +kernel
theorem dX7_setMoon_64 : decode cX7_setMoon 64 = .ok (.iload_n 2, 1) := by decide +kernel
theorem dX7_setMoon_65 : decode cX7_setMoon 65 = .ok (.iload_n 3, 1) := by decide +kernel
theorem dX7_setMoon_66 : decode cX7_setMoon 66 = .ok (.invokevirtual 137, 3) := by decide +kernel
theorem dX7_setMoon_69 : decode cX7_setMoon 69 = .ok (.aload_n 0, 1) := by decide +kernel
theorem dX7_setMoon_70 : decode cX7_setMoon 70 = .ok (.iload_n 1, 1) := by decide +kernel
theorem dX7_setMoon_71 : decode cX7_setMoon 71 = .ok (.invokevirtual 156, 3) := by decide +kernel
theorem dX7_setMoon_74 : decode cX7_setMoon 74 = .ok (.istore 5, 2) := by decide +kernel
theorem dX7_setMoon_76 : decode cX7_setMoon 76 = .ok (.aload_n 0, 1) := by decide +kernel
theorem dX7_setMoon_77 : decode cX7_setMoon 77 = .ok (.iload_n 1, 1) := by decide +kernel
theorem dX7_setMoon_78 : decode cX7_setMoon 78 = .ok (.iload_n 2, 1) := by decide +kernel
theorem dX7_setMoon_79 : decode cX7_setMoon 79 = .ok (.iload 4, 2) := by decide +kernel
theorem dX7_setMoon_81 : decode cX7_setMoon 81 = .ok (.invokevirtual 137, 3) := by decide +kernel
theorem dX7_setMoon_84 : decode cX7_setMoon 84 = .ok (.iload 5, 2) := by decide +kernel
theorem dX7_setMoon_86 : decode cX7_setMoon 86 = .ok (.ifCond .eq 6, 3) := by decide +kernel
theorem dX7_setMoon_89 : decode cX7_setMoon 89 = .ok (.bipush (-13), 2) := by decide +kernel
theorem dX7_setMoon_91 : decode cX7_setMoon 91 = .ok (.ireturn, 1) := by decide +kernel
theorem dX7_setMoon_92 : decode cX7_setMoon 92 = .ok (.aload_n 0, 1) := by decide +kernel
theorem dX7_setMoon_93 : decode cX7_setMoon 93 = .ok (.aload_n 0, 1) := by decide +kernel
theorem dX7_setMoon_94 : decode cX7_setMoon 94 = .ok (.getfield 7, 3) := by decide +kernel
theorem dX7_setMoon_97 : decode cX7_setMoon 97 = .ok (.invokevirtual 56, 3) := by decide +kernel
theorem dX7_setMoon_100 : decode cX7_setMoon 100 = .ok (.aload_n 0, 1) := by decide +kernel
theorem dX7_setMoon_101 : decode cX7_setMoon 101 = .ok (.iload_n 1, 1) := by decide +kernel
theorem dX7_setMoon_102 : decode cX7_setMoon 102 = .ok (.iload_n 2, 1) := by decide +kernel
theorem dX7_setMoon_103 : decode cX7_setMoon 103 = .ok (.iload_n 3, 1) := by decide +kernel
theorem dX7_setMoon_104 : decode cX7_setMoon 104 = .ok (.invokevirtual 137, 3) := by decide +kernel
theorem dX7_setMoon_107 : decode cX7_setMoon 107 = .ok (.iload 4, 2) := by decide +kernel
theorem dX7_setMoon_109 : decode cX7_setMoon 109 = .ok (.ireturn, 1) := by decide +kernel
set_option maxRecDepth 20000 in
theorem ggX7_setLight_X7_isIn : GoodIn wsX7_setLight wsX7_isIn := goodIn_r _ [6] (by decide +kernel) (by decide +kernel)
set_option maxRecDepth 20000 in
theorem gX7_setLight_X7_isIn : GoodIn wsX7_setLight (va_wsS RX7 52 yX7_isIn wsX7_isIn) := goodIn_app (goodIn_of _ (by decide +kernel)) ggX7_setLight_X7_isIn
set_option maxRecDepth 20000 in
theorem ggX7_setLight_X7_keeps : GoodIn wsX7_setLight wsX7_keeps := goodIn_r _ [10, 11, 12, 13, 14, 5, 15, 16, 17, 18, 19, 20, 21, 22, 23, 24, 25, 26, 27, 28, 29, 30, 31, 32, 33, 34, 35, 36, 37, 38, 39, 40, 41, 42, 43, 44] (by decide +kernel) (by decide +kernel)
set_option maxRecDepth 20000 in
theorem gX7_setLight_X7_keeps : GoodIn wsX7_setLight (wsV RX7 56 RX7 yX7_keeps wsX7_keeps) := goodIn_app (goodIn_of _ (by decide +kernel)) ggX7_setLight_X7_keeps
theorem dX7_setLight_0 : decode cX7_setLight 0 = .ok (.aload_n 0, 1) := by decide +kernel
theorem dX7_setLight_1 : decode cX7_setLight 1 = .ok (.iload_n 1, 1) := by decide +kernel
theorem dX7_setLight_2 : decode cX7_setLight 2 = .ok (.iconst 0, 1) := by decide +kernel
theorem dX7_setLight_3 : decode cX7_setLight 3 = .ok (.sipush 359, 3) := by decide +kernel
theorem dX7_setLight_6 : decode cX7_setLight 6 = .ok (.invokestatic 52, 3) := by decide +kernel
theorem dX7_setLight_9 : decode cX7_setLight 9 = .ok (.ifCond .eq 20, 3) := by decide +kernel
theorem dX7_setLight_12 : decode cX7_setLight 12 = .ok (.iload_n 2, 1) := by decide +kernel
theorem dX7_setLight_13 : decode cX7_setLight 13 = .ok (.sipush (-999), 3) := by decide +kernel
theorem dX7_setLight_16 : decode cX7_setLight 16 = .ok (.sipush 999, 3) := by decide +kernel
theorem dX7_setLight_19 : decode cX7_setLight 19 = .ok (.invokestatic 52, 3) := by decide +kernel
theorem dX7_setLight_22 : decode cX7_setLight 22 = .ok (.ifCond .eq 7, 3) := by decide +kernel
theorem dX7_setLight_25 : decode cX7_setLight 25 = .ok (.iconst 0, 1) := by decide +kernel
theorem dX7_setLight_26 : decode cX7_setLight 26 = .ok (.goto 4, 3) := by decide +kernel
theorem dX7_setLight_29 : decode cX7_setLight 29 = .ok (.iconst 1, 1) := by decide +kernel
theorem dX7_setLight_30 : decode cX7_setLight 30 = .ok (.putfield 42, 3) := by decide +kernel
theorem dX7_setLight_33 : decode cX7_setLight 33 = .ok (.aload_n 0, 1) := by decide +kernel
theorem dX7_setLight_34 : decode cX7_setLight 34 = .ok (.getfield 42, 3) := by decide +kernel
theorem dX7_setLight_37 : decode cX7_setLight 37 = .ok (.ifCond .le 5, 3) := by decide +kernel
theorem dX7_setLight_40 : decode cX7_setLight 40 = .ok (.iconst 0, 1) := by decide +kernel
theorem dX7_setLight_41 : decode cX7_setLight 41 = .ok (.ireturn, 1) := by decide +kernel
theorem dX7_setLight_42 : decode cX7_setLight 42 = .ok (.aload_n 0, 1) := by decide +kernel
theorem dX7_setLight_43 : decode cX7_setLight 43 = .ok (.aload_n 0, 1) := by decide +kernel
theorem dX7_setLight_44 : decode cX7_setLight 44 = .ok (.getfield 7, 3) := by decide +kernel
theorem dX7_setLight_47 : decode cX7_setLight 47 = .ok (.invokevirtual 56, 3) := by decide +kernel
theorem dX7_setLight_50 : decode cX7_setLight 50 = .ok (.aload_n 0, 1) := by decide +kernel
theorem dX7_setLight_51 : decode cX7_setLight 51 = .ok (.getfield 7, 3) := by decide +kernel
theorem dX7_setLight_54 : decode cX7_setLight 54 = .ok (.iconst 1, 1) := by decide +kernel
theorem dX7_setLight_55 : decode cX7_setLight 55 = .ok (.iaload, 1) := by decide +kernel
theorem dX7_setLight_56 : decode cX7_setLight 56 = .ok (.istore_n 3, 1) := by decide +kernel
theorem dX7_setLight_57 : decode cX7_setLight 57 = .ok (.aload_n 0, 1) := by decide +kernel
theorem dX7_setLight_58 : decode cX7_setLight 58 = .ok (.getfield 7, 3) := by decide +kernel
theorem dX7_setLight_61 : decode cX7_setLight 61 = .ok (.iconst 1, 1) := by decide +kernel
theorem dX7_setLight_62 : decode cX7_setLight 62 = .ok (.iload_n 1, 1) := by decide +kernel
theorem dX7_setLight_63 : decode cX7_setLight 63 = .ok (.iastore, 1) := by decide +kernel
theorem dX7_setLight_64 : decode cX7_setLight 64 = .ok (.aload_n 0, 1) := by decide +kernel
theorem dX7_setLight_65 : decode cX7_setLight 65 = .ok (.getfield 7, 3) := by decide +kernel
theorem dX7_setLight_68 : decode cX7_setLight 68 = .ok (.iconst 2, 1) := by decide +kernel
theorem dX7_setLight_69 : decode cX7_setLight 69 = .ok (.iload_n 2, 1) := by decide +kernel
theorem dX7_setLight_70 : decode cX7_setLight 70 = .ok (.iastore, 1) := by decide +kernel
theorem dX7_setLight_71 : decode cX7_setLight 71 = .ok (.iload_n 3, 1) := by decide +kernel
theorem dX7_setLight_72 : decode cX7_setLight 72 = .ok (.ireturn, 1) := by decide +kernel
set_option maxRecDepth 20000 in
theorem ggX7_shift_X7_isMoon : GoodIn wsX7_shift wsX7_isMoon := goodIn_r _ [7, 2, 8, 9, 6, 10, 104, 105, 106, 107, 108, 109, 110, 111, 112, 113, 114, 115, 116, 117, 118, 119, 120, 121, 122, 123, 124, 125, 126, 127, 128, 129, 130, 131, 132] (by decide +kernel) (by decide +kernel)
set_option maxRecDepth 20000 in
theorem gX7_shift_X7_isMoon : GoodIn wsX7_shift (wsV RX7 273 RX7 yX7_isMoon wsX7_isMoon) := goodIn_app (goodIn_of _ (by decide +kernel)) ggX7_shift_X7_isMoon
set_option maxRecDepth 20000 in
theorem ggX7_shift_X7_bestOf : GoodIn wsX7_shift wsX7_bestOf := goodIn_r _ [14, 15, 16, 17, 6, 18, 2, 19, 20, 21, 22, 23, 24, 25, 26, 27, 28, 29, 30, 31, 32, 8, 9, 10, 33, 34, 35, 36, 37, 38, 39, 40, 41, 42, 43, 44, 45, 46, 47, 48, 49, 50, 51, 52, 53, 54, 55, 56, 57, 58, 59, 60, 61, 62, 63, 64, 65, 66, 67, 68, 69, 70, 71, 72, 73, 74, 75, 76, 77, 78, 79, 80, 81, 82, 83, 84, 85, 86, 87, 88, 89, 90, 91, 92, 93, 94, 104, 105, 106, 107, 108, 109, 110, 111, 112, 113, 114, 115, 116, 117, 118, 119, 120, 121, 122, 123, 124, 125, 126, 127, 128, 129, 130, 131, 132] (by decide +kernel) (by decide +kernel)
set_option maxRecDepth 20000 in
theorem gX7_shift_X7_bestOf : GoodIn wsX7_shift (wsV RX7 328 RX7 yX7_bestOf wsX7_bestOf) := goodIn_app (goodIn_of _ (by decide +kernel)) ggX7_shift_X7_bestOf
set_option maxRecDepth 20000 in
theorem ggX7_shift_X7_keeps : GoodIn wsX7_shift wsX7_keeps := goodIn_r _ [98, 99, 100, 101, 102, 6, 103, 104, 105, 106, 107, 108, 109, 110, 111, 112, 113, 114, 115, 116, 117, 118, 119, 120, 121, 122, 123, 124, 125, 126, 127, 128, 129, 130, 131, 132] (by decide +kernel) (by decide +kernel)
set_option maxRecDepth 20000 in
theorem gX7_shift_X7_keeps : GoodIn wsX7_shift (wsV RX7 56 RX7 yX7_keeps wsX7_keeps) := goodIn_app (goodIn_of _ (by decide +kernel)) ggX7_shift_X7_keeps
set_option maxRecDepth 20000 in
theorem ggX7_shift_X7_of : GoodIn wsX7_shift wsX7_of := goodIn_r _ [52, 2, 104, 105, 106, 107, 108, 109, 110, 111, 112, 113, 114, 115, 116, 117, 118, 119, 120, 121, 122, 123, 124, 125, 126, 127, 128, 129, 130, 131, 132] (by decide +kernel) (by decide +kernel)
set_option maxRecDepth 20000 in
theorem gX7_shift_X7_of : GoodIn wsX7_shift (wsV RX7 128 RX7 yX7_of wsX7_of) := goodIn_app (goodIn_of _ (by decide +kernel)) ggX7_shift_X7_of
set_option maxRecDepth 20000 in
theorem ggX7_shift_J9_floorMod_7cf53 : GoodIn wsX7_shift wsJ9_floorMod_7cf53 := goodIn_r _ [62] (by decide +kernel) (by decide +kernel)
set_option maxRecDepth 20000 in
theorem gX7_shift_J9_floorMod_7cf53 : GoodIn wsX7_shift (va_wsS RX7 201 yJ9_floorMod_7cf53 wsJ9_floorMod_7cf53) := goodIn_app (goodIn_of _ (by decide +kernel)) ggX7_shift_J9_floorMod_7cf53
set_option maxRecDepth 20000 in
theorem ggX7_shift_X7_puts : GoodIn wsX7_shift wsX7_puts := goodIn_r _ [94, 2, 104, 105, 106, 107, 108, 109, 110, 111, 112, 113, 114, 115, 116, 117, 118, 119, 120, 121, 122, 123, 124, 125, 126, 127, 128, 129, 130, 131, 132] (by decide +kernel) (by decide +kernel)
set_option maxRecDepth 20000 in
theorem gX7_shift_X7_puts : GoodIn wsX7_shift (wsV RX7 137 RX7 yX7_puts wsX7_puts) := goodIn_app (goodIn_of _ (by decide +kernel)) ggX7_shift_X7_puts
set_option maxRecDepth 20000 in
theorem ggX7_shift_X7_burdenOf : GoodIn wsX7_shift wsX7_burdenOf := goodIn_r _ [18, 2, 19, 20, 21, 22, 6, 23, 24, 25, 26, 27, 28, 29, 30, 31, 32, 8, 9, 10, 33, 34, 35, 36, 37, 38, 39, 40, 41, 42, 43, 44, 45, 46, 47, 48, 49, 50, 51, 52, 53, 54, 55, 56, 57, 58, 59, 60, 61, 62, 63, 64, 65, 66, 67, 68, 69, 70, 71, 72, 73, 74, 75, 76, 77, 78, 79, 80, 81, 82, 83, 84, 85, 86, 104, 105, 106, 107, 108, 109, 110, 111, 112, 113, 114, 115, 116, 117, 118, 119, 120, 121, 122, 123, 124, 125, 126, 127, 128, 129, 130, 131, 132] (by decide +kernel) (by decide +kernel)
set_option maxRecDepth 20000 in
theorem gX7_shift_X7_burdenOf : GoodIn wsX7_shift (wsV RX7 279 RX7 yX7_burdenOf wsX7_burdenOf) := goodIn_app (goodIn_of _ (by decide +kernel)) ggX7_shift_X7_burdenOf
theorem dX7_shift_0 : decode cX7_shift 0 = .ok (.aload_n 0, 1) := by decide +kernel
theorem dX7_shift_1 : decode cX7_shift 1 = .ok (.aload_n 0, 1) := by decide +kernel
theorem dX7_shift_2 : decode cX7_shift 2 = .ok (.iload_n 1, 1) := by decide +kernel
theorem dX7_shift_3 : decode cX7_shift 3 = .ok (.invokevirtual 273, 3) := by decide +kernel
theorem dX7_shift_6 : decode cX7_shift 6 = .ok (.ifCond .eq 7, 3) := by decide +kernel
theorem dX7_shift_9 : decode cX7_shift 9 = .ok (.iconst 0, 1) := by decide +kernel
theorem dX7_shift_10 : decode cX7_shift 10 = .ok (.goto 4, 3) := by decide +kernel
theorem dX7_shift_13 : decode cX7_shift 13 = .ok (.iconst 1, 1) := by decide +kernel
theorem dX7_shift_14 : decode cX7_shift 14 = .ok (.putfield 42, 3) := by decide +kernel
theorem dX7_shift_17 : decode cX7_shift 17 = .ok (.aload_n 0, 1) := by decide +kernel
theorem dX7_shift_18 : decode cX7_shift 18 = .ok (.getfield 42, 3) := by decide +kernel
theorem dX7_shift_21 : decode cX7_shift 21 = .ok (.ifCond .le 5, 3) := by decide +kernel
theorem dX7_shift_24 : decode cX7_shift 24 = .ok (.iconst 0, 1) := by decide +kernel
theorem dX7_shift_25 : decode cX7_shift 25 = .ok (.ireturn, 1) := by decide +kernel
theorem dX7_shift_26 : decode cX7_shift 26 = .ok (.aload_n 0, 1) := by decide +kernel
theorem dX7_shift_27 : decode cX7_shift 27 = .ok (.iload_n 1, 1) := by decide +kernel
theorem dX7_shift_28 : decode cX7_shift 28 = .ok (.invokevirtual 328, 3) := by decide +kernel
theorem dX7_shift_31 : decode cX7_shift 31 = .ok (.istore_n 2, 1) := by decide +kernel
theorem dX7_shift_32 : decode cX7_shift 32 = .ok (.aload_n 0, 1) := by decide +kernel
theorem dX7_shift_33 : decode cX7_shift 33 = .ok (.aload_n 0, 1) := by decide +kernel
theorem dX7_shift_34 : decode cX7_shift 34 = .ok (.getfield 7, 3) := by decide +kernel
theorem dX7_shift_37 : decode cX7_shift 37 = .ok (.invokevirtual 56, 3) := by decide +kernel
theorem dX7_shift_40 : decode cX7_shift 40 = .ok (.aload_n 0, 1) := by decide +kernel
theorem dX7_shift_41 : decode cX7_shift 41 = .ok (.iload_n 1, 1) := by decide +kernel
theorem dX7_shift_42 : decode cX7_shift 42 = .ok (.iconst 4, 1) := by decide +kernel
theorem dX7_shift_43 : decode cX7_shift 43 = .ok (.aload_n 0, 1) := by decide +kernel
theorem dX7_shift_44 : decode cX7_shift 44 = .ok (.iload_n 1, 1) := by decide +kernel
theorem dX7_shift_45 : decode cX7_shift 45 = .ok (.iconst 4, 1) := by decide +kernel
theorem dX7_shift_46 : decode cX7_shift 46 = .ok (.invokevirtual 128, 3) := by decide +kernel
theorem dX7_shift_49 : decode cX7_shift 49 = .ok (.iload_n 2, 1) := by decide +kernel
theorem dX7_shift_50 : decode cX7_shift 50 = .ok (.iadd, 1) := by decide +kernel
theorem dX7_shift_51 : decode cX7_shift 51 = .ok (.sipush 360, 3) := by decide +kernel
theorem dX7_shift_54 : decode cX7_shift 54 = .ok (.invokestatic 201, 3) := by decide +kernel
theorem dX7_shift_57 : decode cX7_shift 57 = .ok (.invokevirtual 137, 3) := by decide +kernel
theorem dX7_shift_60 : decode cX7_shift 60 = .ok (.aload_n 0, 1) := by decide +kernel
theorem dX7_shift_61 : decode cX7_shift 61 = .ok (.iload_n 1, 1) := by decide +kernel
theorem dX7_shift_62 : decode cX7_shift 62 = .ok (.invokevirtual 279, 3) := by decide +kernel
theorem dX7_shift_65 : decode cX7_shift 65 = .ok (.ireturn, 1) := by decide +kernel
theorem dX7_says_0 : decode cX7_says 0 = .ok (.aload_n 0, 1) := by decide +kernel
theorem dX7_says_1 : decode cX7_says 1 = .ok (.getfield 36, 3) := by decide +kernel
theorem dX7_says_4 : decode cX7_says 4 = .ok (.aload_n 0, 1) := by decide +kernel
theorem dX7_says_5 : decode cX7_says 5 = .ok (.getfield 331, 3) := by decide +kernel
theorem dX7_says_8 : decode cX7_says 8 = .ok (.iload_n 1, 1) := by decide +kernel
theorem dX7_says_9 : decode cX7_says 9 = .ok (.iastore, 1) := by decide +kernel
theorem dX7_says_10 : decode cX7_says 10 = .ok (.aload_n 0, 1) := by decide +kernel
theorem dX7_says_11 : decode cX7_says 11 = .ok (.dup, 1) := by decide +kernel
theorem dX7_says_12 : decode cX7_says 12 = .ok (.getfield 331, 3) := by decide +kernel
theorem dX7_says_15 : decode cX7_says 15 = .ok (.iconst 1, 1) := by decide +kernel
theorem dX7_says_16 : decode cX7_says 16 = .ok (.iadd, 1) := by decide +kernel
theorem dX7_says_17 : decode cX7_says 17 = .ok (.putfield 331, 3) := by decide +kernel
theorem dX7_says_20 : decode cX7_says 20 = .ok (.return_, 1) := by decide +kernel
set_option maxRecDepth 20000 in
theorem ggX7_saysWord_J0_length_8abf5 : GoodIn wsX7_saysWord wsJ0_length_8abf5 := goodIn_r _ [5, 6, 7, 8, 9, 4, 10, 11, 12] (by decide +kernel) (by decide +kernel)
set_option maxRecDepth 20000 in
theorem gX7_saysWord_J0_length_8abf5 : GoodIn wsX7_saysWord (wsV RX7 110 RJ0 yJ0_length_8abf5 wsJ0_length_8abf5) := goodIn_app (goodIn_of _ (by decide +kernel)) ggX7_saysWord_J0_length_8abf5
set_option maxRecDepth 20000 in
theorem ggX7_saysWord_J0_charAt_5068e : GoodIn wsX7_saysWord wsJ0_charAt_5068e := goodIn_r _ [16, 6, 17, 18, 19, 4, 20, 11, 12, 21, 22, 23, 24, 25, 26, 27, 28, 29, 30, 31, 32, 33, 34, 35, 36, 37, 38, 39, 40, 41, 42, 43, 44, 45, 46, 47, 48, 49] (by decide +kernel) (by decide +kernel)
set_option maxRecDepth 20000 in
theorem gX7_saysWord_J0_charAt_5068e : GoodIn wsX7_saysWord (wsV RX7 116 RJ0 yJ0_charAt_5068e wsJ0_charAt_5068e) := goodIn_app (goodIn_of _ (by decide +kernel)) ggX7_saysWord_J0_charAt_5068e
set_option maxRecDepth 20000 in
theorem ggX7_saysWord_X7_says : GoodIn wsX7_saysWord wsX7_says := goodIn_r _ [54, 55, 56, 57, 58, 59, 60, 61, 62, 63, 64, 65, 66, 67, 68, 69, 70, 71, 72, 73, 74, 75, 76, 77, 78, 79, 80, 81, 82, 83, 84, 85] (by decide +kernel) (by decide +kernel)
set_option maxRecDepth 20000 in
theorem gX7_saysWord_X7_says : GoodIn wsX7_saysWord (wsV RX7 334 RX7 yX7_says wsX7_says) := goodIn_app (goodIn_of _ (by decide +kernel)) ggX7_saysWord_X7_says
theorem dX7_saysWord_0 : decode cX7_saysWord 0 = .ok (.iconst 0, 1) := by decide +kernel
theorem dX7_saysWord_1 : decode cX7_saysWord 1 = .ok (.istore_n 2, 1) := by decide +kernel
theorem dX7_saysWord_2 : decode cX7_saysWord 2 = .ok (.iload_n 2, 1) := by decide +kernel
theorem dX7_saysWord_3 : decode cX7_saysWord 3 = .ok (.aload_n 1, 1) := by decide +kernel
theorem dX7_saysWord_4 : decode cX7_saysWord 4 = .ok (.invokevirtual 110, 3) := by decide +kernel
theorem dX7_saysWord_7 : decode cX7_saysWord 7 = .ok (.if_icmp .ge 18, 3) := by decide +kernel
theorem dX7_saysWord_10 : decode cX7_saysWord 10 = .ok (.aload_n 0, 1) := by decide +kernel
theorem dX7_saysWord_11 : decode cX7_saysWord 11 = .ok (.aload_n 1, 1) := by decide +kernel
theorem dX7_saysWord_12 : decode cX7_saysWord 12 = .ok (.iload_n 2, 1) := by decide +kernel
theorem dX7_saysWord_13 : decode cX7_saysWord 13 = .ok (.invokevirtual 116, 3) := by decide +kernel
theorem dX7_saysWord_16 : decode cX7_saysWord 16 = .ok (.invokevirtual 334, 3) := by decide +kernel
theorem dX7_saysWord_19 : decode cX7_saysWord 19 = .ok (.iinc 2 1, 3) := by decide +kernel
theorem dX7_saysWord_22 : decode cX7_saysWord 22 = .ok (.goto (-20), 3) := by decide +kernel
theorem dX7_saysWord_25 : decode cX7_saysWord 25 = .ok (.return_, 1) := by decide +kernel
set_option maxRecDepth 20000 in
theorem ggX7_saysNumber_X7_saysNumber : GoodIn wsX7_saysNumber wsX7_saysNumber := goodIn_r _ [0, 1, 2, 3, 4, 5, 6, 7, 8, 9, 10, 11, 12, 13, 14, 15, 16, 17, 18, 19, 20, 21, 22, 23, 24, 25, 26, 27, 28, 29, 30, 31, 32, 33, 34, 35, 36, 37, 38, 39] (by decide +kernel) (by decide +kernel)
set_option maxRecDepth 20000 in
theorem gX7_saysNumber_X7_saysNumber : GoodIn wsX7_saysNumber (wsV RX7 337 RX7 yX7_saysNumber wsX7_saysNumber) := goodIn_app (goodIn_of _ (by decide +kernel)) ggX7_saysNumber_X7_saysNumber
set_option maxRecDepth 20000 in
theorem ggX7_saysNumber_X7_says : GoodIn wsX7_saysNumber wsX7_says := goodIn_r _ [8, 9, 10, 11, 12, 13, 14, 15, 16, 17, 18, 19, 20, 21, 22, 23, 24, 25, 26, 27, 28, 29, 30, 31, 32, 33, 34, 35, 36, 37, 38, 39] (by decide +kernel) (by decide +kernel)
set_option maxRecDepth 20000 in
theorem gX7_saysNumber_X7_says : GoodIn wsX7_saysNumber (wsV RX7 334 RX7 yX7_says wsX7_says) := goodIn_app (goodIn_of _ (by decide +kernel)) ggX7_saysNumber_X7_says
theorem dX7_saysNumber_0 : decode cX7_saysNumber 0 = .ok (.iload_n 1, 1) := by decide +kernel
theorem dX7_saysNumber_1 : decode cX7_saysNumber 1 = .ok (.bipush 9, 2) := by decide +kernel
theorem dX7_saysNumber_3 : decode cX7_saysNumber 3 = .ok (.if_icmp .le 11, 3) := by decide +kernel
theorem dX7_saysNumber_6 : decode cX7_saysNumber 6 = .ok (.aload_n 0, 1) := by decide +kernel
theorem dX7_saysNumber_7 : decode cX7_saysNumber 7 = .ok (.iload_n 1, 1) := by decide +kernel
theorem dX7_saysNumber_8 : decode cX7_saysNumber 8 = .ok (.bipush 10, 2) := by decide +kernel
theorem dX7_saysNumber_10 : decode cX7_saysNumber 10 = .ok (.idiv, 1) := by decide +kernel
theorem dX7_saysNumber_11 : decode cX7_saysNumber 11 = .ok (.invokevirtual 337, 3) := by decide +kernel
theorem dX7_saysNumber_14 : decode cX7_saysNumber 14 = .ok (.aload_n 0, 1) := by decide +kernel
theorem dX7_saysNumber_15 : decode cX7_saysNumber 15 = .ok (.bipush 48, 2) := by decide +kernel
theorem dX7_saysNumber_17 : decode cX7_saysNumber 17 = .ok (.iload_n 1, 1) := by decide +kernel
theorem dX7_saysNumber_18 : decode cX7_saysNumber 18 = .ok (.bipush 10, 2) := by decide +kernel
theorem dX7_saysNumber_20 : decode cX7_saysNumber 20 = .ok (.irem, 1) := by decide +kernel
theorem dX7_saysNumber_21 : decode cX7_saysNumber 21 = .ok (.iadd, 1) := by decide +kernel
theorem dX7_saysNumber_22 : decode cX7_saysNumber 22 = .ok (.invokevirtual 334, 3) := by decide +kernel
theorem dX7_saysNumber_25 : decode cX7_saysNumber 25 = .ok (.return_, 1) := by decide +kernel
set_option maxRecDepth 20000 in
theorem ggX7_tells_X7_says : GoodIn wsX7_tells wsX7_says := goodIn_r _ [7, 8, 9, 72, 73, 74, 75, 76, 77, 78, 79, 80, 81, 82, 83, 84, 85, 86, 87, 88, 89, 90, 91, 92, 93, 94, 95, 96, 97, 98, 99, 100] (by decide +kernel) (by decide +kernel)
set_option maxRecDepth 20000 in
theorem gX7_tells_X7_says : GoodIn wsX7_tells (wsV RX7 334 RX7 yX7_says wsX7_says) := goodIn_app (goodIn_of _ (by decide +kernel)) ggX7_tells_X7_says
set_option maxRecDepth 20000 in
theorem ggX7_tells_X7_saysNumber : GoodIn wsX7_tells wsX7_saysNumber := goodIn_r _ [13, 10, 11, 12, 6, 3, 4, 5, 7, 8, 9, 72, 73, 74, 75, 76, 77, 78, 79, 80, 81, 82, 83, 84, 85, 86, 87, 88, 89, 90, 91, 92, 93, 94, 95, 96, 97, 98, 99, 100] (by decide +kernel) (by decide +kernel)
set_option maxRecDepth 20000 in
theorem gX7_tells_X7_saysNumber : GoodIn wsX7_tells (wsV RX7 337 RX7 yX7_saysNumber wsX7_saysNumber) := goodIn_app (goodIn_of _ (by decide +kernel)) ggX7_tells_X7_saysNumber
set_option maxRecDepth 20000 in
theorem ggX7_tells_X7_saysWord : GoodIn wsX7_tells wsX7_saysWord := goodIn_r _ [17, 18, 19, 20, 21, 22, 23, 24, 25, 26, 27, 28, 29, 30, 31, 32, 33, 34, 35, 36, 37, 38, 39, 40, 41, 42, 43, 44, 45, 46, 47, 48, 49, 50, 51, 52, 53, 54, 55, 56, 57, 58, 59, 60, 61, 62, 63, 64, 65, 66, 3, 4, 5, 6, 7, 8, 9, 72, 73, 74, 75, 76, 77, 78, 79, 80, 81, 82, 83, 84, 85, 86, 87, 88, 89, 90, 91, 92, 93, 94, 95, 96, 97, 98, 99, 100] (by decide +kernel) (by decide +kernel)
set_option maxRecDepth 20000 in
theorem gX7_tells_X7_saysWord : GoodIn wsX7_tells (wsV RX7 351 RX7 yX7_saysWord wsX7_saysWord) := goodIn_app (goodIn_of _ (by decide +kernel)) ggX7_tells_X7_saysWord
set_option maxRecDepth 20000 in
theorem ggX7_tells_X7_of : GoodIn wsX7_tells wsX7_of := goodIn_r _ [70, 71, 72, 73, 74, 75, 76, 77, 78, 79, 80, 81, 82, 83, 84, 85, 86, 87, 88, 89, 90, 91, 92, 93, 94, 95, 96, 97, 98, 99, 100] (by decide +kernel) (by decide +kernel)
set_option maxRecDepth 20000 in
theorem gX7_tells_X7_of : GoodIn wsX7_tells (wsV RX7 128 RX7 yX7_of wsX7_of) := goodIn_app (goodIn_of _ (by decide +kernel)) ggX7_tells_X7_of
theorem dX7_tells_0 : decode cX7_tells 0 = .ok (.aload_n 0, 1) := by decide +kernel
theorem dX7_tells_1 : decode cX7_tells 1 = .ok (.getfield 318, 3) := by decide +kernel
theorem dX7_tells_4 : decode cX7_tells 4 = .ok (.ifCond .eq 12, 3) := by decide +kernel
theorem dX7_tells_7 : decode cX7_tells 7 = .ok (.aload_n 0, 1) := by decide +kernel
theorem dX7_tells_8 : decode cX7_tells 8 = .ok (.getfield 340, 3) := by decide +kernel
theorem dX7_tells_11 : decode cX7_tells 11 = .ok (.bipush 20, 2) := by decide +kernel
theorem dX7_tells_13 : decode cX7_tells 13 = .ok (.if_icmp .ne 4, 3) := by decide +kernel
theorem dX7_tells_16 : decode cX7_tells 16 = .ok (.return_, 1) := by decide +kernel
theorem dX7_tells_17 : decode cX7_tells 17 = .ok (.aload_n 0, 1) := by decide +kernel
theorem dX7_tells_18 : decode cX7_tells 18 = .ok (.getfield 340, 3) := by decide +kernel
theorem dX7_tells_21 : decode cX7_tells 21 = .ok (.ifCond .le 9, 3) := by decide +kernel
theorem dX7_tells_24 : decode cX7_tells 24 = .ok (.aload_n 0, 1) := by decide +kernel
theorem dX7_tells_25 : decode cX7_tells 25 = .ok (.bipush 44, 2) := by decide +kernel
theorem dX7_tells_27 : decode cX7_tells 27 = .ok (.invokevirtual 334, 3) := by decide +kernel
theorem dX7_tells_30 : decode cX7_tells 30 = .ok (.aload_n 0, 1) := by decide +kernel
theorem dX7_tells_31 : decode cX7_tells 31 = .ok (.iload_n 1, 1) := by decide +kernel
theorem dX7_tells_32 : decode cX7_tells 32 = .ok (.invokevirtual 337, 3) := by decide +kernel
theorem dX7_tells_35 : decode cX7_tells 35 = .ok (.aload_n 0, 1) := by decide +kernel
theorem dX7_tells_36 : decode cX7_tells 36 = .ok (.iload_n 3, 1) := by decide +kernel
theorem dX7_tells_37 : decode cX7_tells 37 = .ok (.ifCond .ne 9, 3) := by decide +kernel
theorem dX7_tells_40 : decode cX7_tells 40 = .ok (.ldc_w 343, 3) := by decide +kernel
theorem dX7_tells_43 : decode cX7_tells 43 = .ok (.goto 28, 3) := by decide +kernel
theorem dX7_tells_46 : decode cX7_tells 46 = .ok (.iload_n 3, 1) := by decide +kernel
theorem dX7_tells_47 : decode cX7_tells 47 = .ok (.iconst 1, 1) := by decide +kernel
theorem dX7_tells_48 : decode cX7_tells 48 = .ok (.if_icmp .ne 9, 3) := by decide +kernel
theorem dX7_tells_51 : decode cX7_tells 51 = .ok (.ldc_w 345, 3) := by decide +kernel
theorem dX7_tells_54 : decode cX7_tells 54 = .ok (.goto 17, 3) := by decide +kernel
theorem dX7_tells_57 : decode cX7_tells 57 = .ok (.iload_n 3, 1) := by decide +kernel
theorem dX7_tells_58 : decode cX7_tells 58 = .ok (.iconst 2, 1) := by decide +kernel
theorem dX7_tells_59 : decode cX7_tells 59 = .ok (.if_icmp .ne 9, 3) := by decide +kernel
theorem dX7_tells_62 : decode cX7_tells 62 = .ok (.ldc_w 347, 3) := by decide +kernel
theorem dX7_tells_65 : decode cX7_tells 65 = .ok (.goto 6, 3) := by decide +kernel
theorem dX7_tells_68 : decode cX7_tells 68 = .ok (.ldc_w 349, 3) := by decide +kernel
theorem dX7_tells_71 : decode cX7_tells 71 = .ok (.invokevirtual 351, 3) := by decide +kernel
theorem dX7_tells_74 : decode cX7_tells 74 = .ok (.iconst 0, 1) := by decide +kernel
theorem dX7_tells_75 : decode cX7_tells 75 = .ok (.istore 4, 2) := by decide +kernel
theorem dX7_tells_77 : decode cX7_tells 77 = .ok (.iload 4, 2) := by decide +kernel
theorem dX7_tells_79 : decode cX7_tells 79 = .ok (.bipush 8, 2) := by decide +kernel
theorem dX7_tells_81 : decode cX7_tells 81 = .ok (.if_icmp .ge 36, 3) := by decide +kernel
theorem dX7_tells_84 : decode cX7_tells 84 = .ok (.aload_n 0, 1) := by decide +kernel
theorem dX7_tells_85 : decode cX7_tells 85 = .ok (.iload_n 2, 1) := by decide +kernel
theorem dX7_tells_86 : decode cX7_tells 86 = .ok (.bipush 6, 2) := by decide +kernel
theorem dX7_tells_88 : decode cX7_tells 88 = .ok (.iload 4, 2) := by decide +kernel
theorem dX7_tells_90 : decode cX7_tells 90 = .ok (.iadd, 1) := by decide +kernel
theorem dX7_tells_91 : decode cX7_tells 91 = .ok (.invokevirtual 128, 3) := by decide +kernel
theorem dX7_tells_94 : decode cX7_tells 94 = .ok (.ifCond .le 23, 3) := by decide +kernel
theorem dX7_tells_97 : decode cX7_tells 97 = .ok (.aload_n 0, 1) := by decide +kernel
theorem dX7_tells_98 : decode cX7_tells 98 = .ok (.aload_n 0, 1) := by decide +kernel
theorem dX7_tells_99 : decode cX7_tells 99 = .ok (.iload_n 2, 1) := by decide +kernel
theorem dX7_tells_100 : decode cX7_tells 100 = .ok (.bipush 6, 2) := by decide +kernel
theorem dX7_tells_102 : decode cX7_tells 102 = .ok (.iload 4, 2) := by decide +kernel
theorem dX7_tells_104 : decode cX7_tells 104 = .ok (.iadd, 1) := by decide +kernel
theorem dX7_tells_105 : decode cX7_tells 105 = .ok (.invokevirtual 128, 3) := by decide +kernel
theorem dX7_tells_108 : decode cX7_tells 108 = .ok (.invokevirtual 334, 3) := by decide +kernel
theorem dX7_tells_111 : decode cX7_tells 111 = .ok (.iinc 4 1, 3) := by decide +kernel
theorem dX7_tells_114 : decode cX7_tells 114 = .ok (.goto (-37), 3) := by decide +kernel
theorem dX7_tells_117 : decode cX7_tells 117 = .ok (.aload_n 0, 1) := by decide +kernel
theorem dX7_tells_118 : decode cX7_tells 118 = .ok (.dup, 1) := by decide +kernel
theorem dX7_tells_119 : decode cX7_tells 119 = .ok (.getfield 340, 3) := by decide +kernel
theorem dX7_tells_122 : decode cX7_tells 122 = .ok (.iconst 1, 1) := by decide +kernel
theorem dX7_tells_123 : decode cX7_tells 123 = .ok (.iadd, 1) := by decide +kernel
theorem dX7_tells_124 : decode cX7_tells 124 = .ok (.putfield 340, 3) := by decide +kernel
theorem dX7_tells_127 : decode cX7_tells 127 = .ok (.return_, 1) := by decide +kernel
set_option maxRecDepth 20000 in
theorem ggX7_writeTable_X7_isSpan : GoodIn wsX7_writeTable wsX7_isSpan := goodIn_r _ [8, 9, 10, 11, 7, 12] (by decide +kernel) (by decide +kernel)
set_option maxRecDepth 20000 in
theorem gX7_writeTable_X7_isSpan : GoodIn wsX7_writeTable (va_wsS RX7 299 yX7_isSpan wsX7_isSpan) := goodIn_app (goodIn_of _ (by decide +kernel)) ggX7_writeTable_X7_isSpan
set_option maxRecDepth 20000 in
theorem ggX7_writeTable_X7_goesTo : GoodIn wsX7_writeTable wsX7_goesTo := goodIn_r _ [16, 17, 18, 19, 20, 21, 22, 23, 24, 25, 7, 26, 27, 28, 29, 30, 31, 32, 33, 34, 35, 36, 37, 38, 39, 40, 41, 42, 43, 44, 45, 46, 47, 48, 49, 50, 51, 52, 53, 54, 55, 56, 57, 58, 59, 60, 61, 62, 63, 64, 65, 66, 67, 68, 69, 70, 71, 72, 73, 74, 75, 76, 77, 78, 79, 80, 4, 3, 81, 82, 83, 84, 85, 2, 86, 87, 88, 89, 90, 91, 92, 93, 94, 95, 96, 97, 98, 99, 100, 101, 102, 103, 104, 105, 106, 107, 108, 109, 110, 111, 112, 113, 114, 115, 116, 117, 118, 119, 120, 121, 122, 123, 124, 125, 126, 127, 128, 129, 130, 131, 132, 133, 134, 135, 136, 137, 138, 139, 140, 141, 142, 143, 144, 145, 146, 147, 148, 149, 150, 151, 152, 153, 154, 155, 156, 157, 158, 159, 160, 161, 162, 163, 164, 165, 166, 167, 168, 169, 170, 171] (by decide +kernel) (by decide +kernel)
set_option maxRecDepth 20000 in
theorem gX7_writeTable_X7_goesTo : GoodIn wsX7_writeTable (wsV RX7 322 RX7 yX7_goesTo wsX7_goesTo) := goodIn_app (goodIn_of _ (by decide +kernel)) ggX7_writeTable_X7_goesTo
theorem dX7_writeTable_0 : decode cX7_writeTable 0 = .ok (.aload_n 0, 1) := by decide +kernel
theorem dX7_writeTable_1 : decode cX7_writeTable 1 = .ok (.iload_n 1, 1) := by decide +kernel
theorem dX7_writeTable_2 : decode cX7_writeTable 2 = .ok (.iload_n 2, 1) := by decide +kernel
theorem dX7_writeTable_3 : decode cX7_writeTable 3 = .ok (.iconst 1, 1) := by decide +kernel
theorem dX7_writeTable_4 : decode cX7_writeTable 4 = .ok (.sipush 2000, 3) := by decide +kernel
theorem dX7_writeTable_7 : decode cX7_writeTable 7 = .ok (.invokestatic 299, 3) := by decide +kernel
theorem dX7_writeTable_10 : decode cX7_writeTable 10 = .ok (.ifCond .eq 7, 3) := by decide +kernel
theorem dX7_writeTable_13 : decode cX7_writeTable 13 = .ok (.iconst 0, 1) := by decide +kernel
theorem dX7_writeTable_14 : decode cX7_writeTable 14 = .ok (.goto 4, 3) := by decide +kernel
theorem dX7_writeTable_17 : decode cX7_writeTable 17 = .ok (.iconst 1, 1) := by decide +kernel
theorem dX7_writeTable_18 : decode cX7_writeTable 18 = .ok (.putfield 42, 3) := by decide +kernel
theorem dX7_writeTable_21 : decode cX7_writeTable 21 = .ok (.aload_n 0, 1) := by decide +kernel
theorem dX7_writeTable_22 : decode cX7_writeTable 22 = .ok (.getfield 42, 3) := by decide +kernel
theorem dX7_writeTable_25 : decode cX7_writeTable 25 = .ok (.ifCond .le 5, 3) := by decide +kernel
theorem dX7_writeTable_28 : decode cX7_writeTable 28 = .ok (.iconst 0, 1) := by decide +kernel
theorem dX7_writeTable_29 : decode cX7_writeTable 29 = .ok (.ireturn, 1) := by decide +kernel
theorem dX7_writeTable_30 : decode cX7_writeTable 30 = .ok (.aload_n 0, 1) := by decide +kernel
theorem dX7_writeTable_31 : decode cX7_writeTable 31 = .ok (.iconst 0, 1) := by decide +kernel
theorem dX7_writeTable_32 : decode cX7_writeTable 32 = .ok (.putfield 331, 3) := by decide +kernel
theorem dX7_writeTable_35 : decode cX7_writeTable 35 = .ok (.aload_n 0, 1) := by decide +kernel
theorem dX7_writeTable_36 : decode cX7_writeTable 36 = .ok (.iconst 0, 1) := by decide +kernel
theorem dX7_writeTable_37 : decode cX7_writeTable 37 = .ok (.putfield 340, 3) := by decide +kernel
theorem dX7_writeTable_40 : decode cX7_writeTable 40 = .ok (.aload_n 0, 1) := by decide +kernel
theorem dX7_writeTable_41 : decode cX7_writeTable 41 = .ok (.iconst 1, 1) := by decide +kernel
theorem dX7_writeTable_42 : decode cX7_writeTable 42 = .ok (.putfield 318, 3) := by decide +kernel
theorem dX7_writeTable_45 : decode cX7_writeTable 45 = .ok (.aload_n 0, 1) := by decide +kernel
theorem dX7_writeTable_46 : decode cX7_writeTable 46 = .ok (.iload_n 1, 1) := by decide +kernel
theorem dX7_writeTable_47 : decode cX7_writeTable 47 = .ok (.iload_n 2, 1) := by decide +kernel
theorem dX7_writeTable_48 : decode cX7_writeTable 48 = .ok (.iconst (-1), 1) := by decide +kernel
theorem dX7_writeTable_49 : decode cX7_writeTable 49 = .ok (.invokevirtual 322, 3) := by decide +kernel
theorem dX7_writeTable_52 : decode cX7_writeTable 52 = .ok (.istore_n 3, 1) := by decide +kernel
theorem dX7_writeTable_53 : decode cX7_writeTable 53 = .ok (.aload_n 0, 1) := by decide +kernel
theorem dX7_writeTable_54 : decode cX7_writeTable 54 = .ok (.iconst 0, 1) := by decide +kernel
theorem dX7_writeTable_55 : decode cX7_writeTable 55 = .ok (.putfield 318, 3) := by decide +kernel
theorem dX7_writeTable_58 : decode cX7_writeTable 58 = .ok (.iload_n 3, 1) := by decide +kernel
theorem dX7_writeTable_59 : decode cX7_writeTable 59 = .ok (.ifCond .eq 7, 3) := by decide +kernel
theorem dX7_writeTable_62 : decode cX7_writeTable 62 = .ok (.iconst 0, 1) := by decide +kernel
theorem dX7_writeTable_63 : decode cX7_writeTable 63 = .ok (.goto 7, 3) := by decide +kernel
theorem dX7_writeTable_66 : decode cX7_writeTable 66 = .ok (.aload_n 0, 1) := by decide +kernel
theorem dX7_writeTable_67 : decode cX7_writeTable 67 = .ok (.getfield 331, 3) := by decide +kernel
theorem dX7_writeTable_70 : decode cX7_writeTable 70 = .ok (.ireturn, 1) := by decide +kernel
set_option maxRecDepth 20000 in
theorem ggX7_writtenByte_X7_isIn : GoodIn wsX7_writtenByte wsX7_isIn := goodIn_r _ [7] (by decide +kernel) (by decide +kernel)
set_option maxRecDepth 20000 in
theorem gX7_writtenByte_X7_isIn : GoodIn wsX7_writtenByte (va_wsS RX7 52 yX7_isIn wsX7_isIn) := goodIn_app (goodIn_of _ (by decide +kernel)) ggX7_writtenByte_X7_isIn
theorem dX7_writtenByte_0 : decode cX7_writtenByte 0 = .ok (.aload_n 0, 1) := by decide +kernel
theorem dX7_writtenByte_1 : decode cX7_writtenByte 1 = .ok (.iload_n 1, 1) := by decide +kernel
theorem dX7_writtenByte_2 : decode cX7_writtenByte 2 = .ok (.iconst 0, 1) := by decide +kernel
theorem dX7_writtenByte_3 : decode cX7_writtenByte 3 = .ok (.aload_n 0, 1) := by decide +kernel
theorem dX7_writtenByte_4 : decode cX7_writtenByte 4 = .ok (.getfield 331, 3) := by decide +kernel
theorem dX7_writtenByte_7 : decode cX7_writtenByte 7 = .ok (.iconst 1, 1) := by decide +kernel
theorem dX7_writtenByte_8 : decode cX7_writtenByte 8 = .ok (.isub, 1) := by decide +kernel
theorem dX7_writtenByte_9 : decode cX7_writtenByte 9 = .ok (.invokestatic 52, 3) := by decide +kernel
theorem dX7_writtenByte_12 : decode cX7_writtenByte 12 = .ok (.ifCond .eq 7, 3) := by decide +kernel
theorem dX7_writtenByte_15 : decode cX7_writtenByte 15 = .ok (.iconst 0, 1) := by decide +kernel
theorem dX7_writtenByte_16 : decode cX7_writtenByte 16 = .ok (.goto 4, 3) := by decide +kernel
theorem dX7_writtenByte_19 : decode cX7_writtenByte 19 = .ok (.iconst 1, 1) := by decide +kernel
theorem dX7_writtenByte_20 : decode cX7_writtenByte 20 = .ok (.putfield 42, 3) := by decide +kernel
theorem dX7_writtenByte_23 : decode cX7_writtenByte 23 = .ok (.aload_n 0, 1) := by decide +kernel
theorem dX7_writtenByte_24 : decode cX7_writtenByte 24 = .ok (.getfield 42, 3) := by decide +kernel
theorem dX7_writtenByte_27 : decode cX7_writtenByte 27 = .ok (.ifCond .le 7, 3) := by decide +kernel
theorem dX7_writtenByte_30 : decode cX7_writtenByte 30 = .ok (.iconst 0, 1) := by decide +kernel
theorem dX7_writtenByte_31 : decode cX7_writtenByte 31 = .ok (.goto 9, 3) := by decide +kernel
theorem dX7_writtenByte_34 : decode cX7_writtenByte 34 = .ok (.aload_n 0, 1) := by decide +kernel
theorem dX7_writtenByte_35 : decode cX7_writtenByte 35 = .ok (.getfield 36, 3) := by decide +kernel
theorem dX7_writtenByte_38 : decode cX7_writtenByte 38 = .ok (.iload_n 1, 1) := by decide +kernel
theorem dX7_writtenByte_39 : decode cX7_writtenByte 39 = .ok (.iaload, 1) := by decide +kernel
theorem dX7_writtenByte_40 : decode cX7_writtenByte 40 = .ok (.ireturn, 1) := by decide +kernel
theorem dJ9_floorMod_7cf53_0 : decode cJ9_floorMod_7cf53 0 = .ok (.iload_n 0, 1) := by decide +kernel
theorem dJ9_floorMod_7cf53_1 : decode cJ9_floorMod_7cf53 1 = .ok (.iload_n 1, 1) := by decide +kernel
theorem dJ9_floorMod_7cf53_2 : decode cJ9_floorMod_7cf53 2 = .ok (.irem, 1) := by decide +kernel
theorem dJ9_floorMod_7cf53_3 : decode cJ9_floorMod_7cf53 3 = .ok (.istore_n 2, 1) := by decide +kernel
theorem dJ9_floorMod_7cf53_4 : decode cJ9_floorMod_7cf53 4 = .ok (.iload_n 0, 1) := by decide +kernel
theorem dJ9_floorMod_7cf53_5 : decode cJ9_floorMod_7cf53 5 = .ok (.iload_n 1, 1) := by decide +kernel
theorem dJ9_floorMod_7cf53_6 : decode cJ9_floorMod_7cf53 6 = .ok (.ixor, 1) := by decide +kernel
theorem dJ9_floorMod_7cf53_7 : decode cJ9_floorMod_7cf53 7 = .ok (.ifCond .ge 11, 3) := by decide +kernel
theorem dJ9_floorMod_7cf53_10 : decode cJ9_floorMod_7cf53 10 = .ok (.iload_n 2, 1) := by decide +kernel
theorem dJ9_floorMod_7cf53_11 : decode cJ9_floorMod_7cf53 11 = .ok (.ifCond .eq 7, 3) := by decide +kernel
theorem dJ9_floorMod_7cf53_14 : decode cJ9_floorMod_7cf53 14 = .ok (.iload_n 2, 1) := by decide +kernel
theorem dJ9_floorMod_7cf53_15 : decode cJ9_floorMod_7cf53 15 = .ok (.iload_n 1, 1) := by decide +kernel
theorem dJ9_floorMod_7cf53_16 : decode cJ9_floorMod_7cf53 16 = .ok (.iadd, 1) := by decide +kernel
theorem dJ9_floorMod_7cf53_17 : decode cJ9_floorMod_7cf53 17 = .ok (.ireturn, 1) := by decide +kernel
theorem dJ9_floorMod_7cf53_18 : decode cJ9_floorMod_7cf53 18 = .ok (.iload_n 2, 1) := by decide +kernel
theorem dJ9_floorMod_7cf53_19 : decode cJ9_floorMod_7cf53 19 = .ok (.ireturn, 1) := by decide +kernel
theorem dJ9_abs_0f7a4_0 : decode cJ9_abs_0f7a4 0 = .ok (.iload_n 0, 1) := by decide +kernel
theorem dJ9_abs_0f7a4_1 : decode cJ9_abs_0f7a4 1 = .ok (.ifCond .ge 8, 3) := by decide +kernel
theorem dJ9_abs_0f7a4_4 : decode cJ9_abs_0f7a4 4 = .ok (.iload_n 0, 1) := by decide +kernel
theorem dJ9_abs_0f7a4_5 : decode cJ9_abs_0f7a4 5 = .ok (.ineg, 1) := by decide +kernel
theorem dJ9_abs_0f7a4_6 : decode cJ9_abs_0f7a4 6 = .ok (.goto 4, 3) := by decide +kernel
theorem dJ9_abs_0f7a4_9 : decode cJ9_abs_0f7a4 9 = .ok (.iload_n 0, 1) := by decide +kernel
theorem dJ9_abs_0f7a4_10 : decode cJ9_abs_0f7a4 10 = .ok (.ireturn, 1) := by decide +kernel
theorem dJ9_abs_067f4_0 : decode cJ9_abs_067f4 0 = .ok (.lload_n 0, 1) := by decide +kernel
theorem dJ9_abs_067f4_1 : decode cJ9_abs_067f4 1 = .ok (.lconst 0, 1) := by decide +kernel
theorem dJ9_abs_067f4_2 : decode cJ9_abs_067f4 2 = .ok (.lcmp, 1) := by decide +kernel
theorem dJ9_abs_067f4_3 : decode cJ9_abs_067f4 3 = .ok (.ifCond .ge 8, 3) := by decide +kernel
theorem dJ9_abs_067f4_6 : decode cJ9_abs_067f4 6 = .ok (.lload_n 0, 1) := by decide +kernel
theorem dJ9_abs_067f4_7 : decode cJ9_abs_067f4 7 = .ok (.lneg, 1) := by decide +kernel
theorem dJ9_abs_067f4_8 : decode cJ9_abs_067f4 8 = .ok (.goto 4, 3) := by decide +kernel
theorem dJ9_abs_067f4_11 : decode cJ9_abs_067f4 11 = .ok (.lload_n 0, 1) := by decide +kernel
theorem dJ9_abs_067f4_12 : decode cJ9_abs_067f4 12 = .ok (.lreturn, 1) := by decide +kernel
theorem dJ9_min_7cf53_0 : decode cJ9_min_7cf53 0 = .ok (.iload_n 0, 1) := by decide +kernel
theorem dJ9_min_7cf53_1 : decode cJ9_min_7cf53 1 = .ok (.iload_n 1, 1) := by decide +kernel
theorem dJ9_min_7cf53_2 : decode cJ9_min_7cf53 2 = .ok (.if_icmp .gt 7, 3) := by decide +kernel
theorem dJ9_min_7cf53_5 : decode cJ9_min_7cf53 5 = .ok (.iload_n 0, 1) := by decide +kernel
theorem dJ9_min_7cf53_6 : decode cJ9_min_7cf53 6 = .ok (.goto 4, 3) := by decide +kernel
theorem dJ9_min_7cf53_9 : decode cJ9_min_7cf53 9 = .ok (.iload_n 1, 1) := by decide +kernel
theorem dJ9_min_7cf53_10 : decode cJ9_min_7cf53 10 = .ok (.ireturn, 1) := by decide +kernel
set_option maxRecDepth 20000 in
theorem ggJ0_length_8abf5_J0_coder_7d493 : GoodIn wsJ0_length_8abf5 wsJ0_coder_7d493 := goodIn_r _ [6, 7, 8] (by decide +kernel) (by decide +kernel)
set_option maxRecDepth 20000 in
theorem gJ0_length_8abf5_J0_coder_7d493 : GoodIn wsJ0_length_8abf5 (wsV RJ0 335 RJ0 yJ0_coder_7d493 wsJ0_coder_7d493) := goodIn_app (goodIn_of _ (by decide +kernel)) ggJ0_length_8abf5_J0_coder_7d493
theorem dJ0_length_8abf5_0 : decode cJ0_length_8abf5 0 = .ok (.aload_n 0, 1) := by decide +kernel
theorem dJ0_length_8abf5_1 : decode cJ0_length_8abf5 1 = .ok (.getfield 9, 3) := by decide +kernel
theorem dJ0_length_8abf5_4 : decode cJ0_length_8abf5 4 = .ok (.arraylength, 1) := by decide +kernel
theorem dJ0_length_8abf5_5 : decode cJ0_length_8abf5 5 = .ok (.aload_n 0, 1) := by decide +kernel
theorem dJ0_length_8abf5_6 : decode cJ0_length_8abf5 6 = .ok (.invokevirtual 335, 3) := by decide +kernel
theorem dJ0_length_8abf5_9 : decode cJ0_length_8abf5 9 = .ok (.ishr, 1) := by decide +kernel
theorem dJ0_length_8abf5_10 : decode cJ0_length_8abf5 10 = .ok (.ireturn, 1) := by decide +kernel
set_option maxRecDepth 20000 in
theorem ggJ0_charAt_5068e_J0_isLatin1_aae02 : GoodIn wsJ0_charAt_5068e wsJ0_isLatin1_aae02 := goodIn_r _ [6, 7, 8] (by decide +kernel) (by decide +kernel)
set_option maxRecDepth 20000 in
theorem gJ0_charAt_5068e_J0_isLatin1_aae02 : GoodIn wsJ0_charAt_5068e (wsV RJ0 492 RJ0 yJ0_isLatin1_aae02 wsJ0_isLatin1_aae02) := goodIn_app (goodIn_of _ (by decide +kernel)) ggJ0_charAt_5068e_J0_isLatin1_aae02
set_option maxRecDepth 20000 in
theorem ggJ0_charAt_5068e_J1_charAt_3b067 : GoodIn wsJ0_charAt_5068e wsJ1_charAt_3b067 := goodIn_r _ [12, 13, 14, 5, 15, 16, 17, 18, 19, 20] (by decide +kernel) (by decide +kernel)
set_option maxRecDepth 20000 in
theorem gJ0_charAt_5068e_J1_charAt_3b067 : GoodIn wsJ0_charAt_5068e (va_wsS RJ0 495 yJ1_charAt_3b067 wsJ1_charAt_3b067) := goodIn_app (goodIn_of _ (by decide +kernel)) ggJ0_charAt_5068e_J1_charAt_3b067
set_option maxRecDepth 20000 in
theorem ggJ0_charAt_5068e_J2_charAt_3b067 : GoodIn wsJ0_charAt_5068e wsJ2_charAt_3b067 := goodIn_r _ [24, 25, 26, 23, 27, 28, 29, 30, 31, 14, 5, 15, 16, 17, 18, 19, 20, 32, 33, 34, 35, 36, 37] (by decide +kernel) (by decide +kernel)
set_option maxRecDepth 20000 in
theorem gJ0_charAt_5068e_J2_charAt_3b067 : GoodIn wsJ0_charAt_5068e (va_wsS RJ0 498 yJ2_charAt_3b067 wsJ2_charAt_3b067) := goodIn_app (goodIn_of _ (by decide +kernel)) ggJ0_charAt_5068e_J2_charAt_3b067
theorem dJ0_charAt_5068e_0 : decode cJ0_charAt_5068e 0 = .ok (.aload_n 0, 1) := by decide +kernel
theorem dJ0_charAt_5068e_1 : decode cJ0_charAt_5068e 1 = .ok (.invokevirtual 492, 3) := by decide +kernel
theorem dJ0_charAt_5068e_4 : decode cJ0_charAt_5068e 4 = .ok (.ifCond .eq 12, 3) := by decide +kernel
theorem dJ0_charAt_5068e_7 : decode cJ0_charAt_5068e 7 = .ok (.aload_n 0, 1) := by decide +kernel
theorem dJ0_charAt_5068e_8 : decode cJ0_charAt_5068e 8 = .ok (.getfield 9, 3) := by decide +kernel
theorem dJ0_charAt_5068e_11 : decode cJ0_charAt_5068e 11 = .ok (.iload_n 1, 1) := by decide +kernel
theorem dJ0_charAt_5068e_12 : decode cJ0_charAt_5068e 12 = .ok (.invokestatic 495, 3) := by decide +kernel
theorem dJ0_charAt_5068e_15 : decode cJ0_charAt_5068e 15 = .ok (.ireturn, 1) := by decide +kernel
theorem dJ0_charAt_5068e_16 : decode cJ0_charAt_5068e 16 = .ok (.aload_n 0, 1) := by decide +kernel
theorem dJ0_charAt_5068e_17 : decode cJ0_charAt_5068e 17 = .ok (.getfield 9, 3) := by decide +kernel
theorem dJ0_charAt_5068e_20 : decode cJ0_charAt_5068e 20 = .ok (.iload_n 1, 1) := by decide +kernel
theorem dJ0_charAt_5068e_21 : decode cJ0_charAt_5068e 21 = .ok (.invokestatic 498, 3) := by decide +kernel
theorem dJ0_charAt_5068e_24 : decode cJ0_charAt_5068e 24 = .ok (.ireturn, 1) := by decide +kernel
theorem dJ0_coder_7d493_0 : decode cJ0_coder_7d493 0 = .ok (.getstatic 38, 3) := by decide +kernel
theorem dJ0_coder_7d493_3 : decode cJ0_coder_7d493 3 = .ok (.ifCond .eq 10, 3) := by decide +kernel
theorem dJ0_coder_7d493_6 : decode cJ0_coder_7d493 6 = .ok (.aload_n 0, 1) := by decide +kernel
theorem dJ0_coder_7d493_7 : decode cJ0_coder_7d493 7 = .ok (.getfield 15, 3) := by decide +kernel
theorem dJ0_coder_7d493_10 : decode cJ0_coder_7d493 10 = .ok (.goto 4, 3) := by decide +kernel
theorem dJ0_coder_7d493_13 : decode cJ0_coder_7d493 13 = .ok (.iconst 1, 1) := by decide +kernel
theorem dJ0_coder_7d493_14 : decode cJ0_coder_7d493 14 = .ok (.ireturn, 1) := by decide +kernel
theorem dJ0_isLatin1_aae02_0 : decode cJ0_isLatin1_aae02 0 = .ok (.getstatic 38, 3) := by decide +kernel
theorem dJ0_isLatin1_aae02_3 : decode cJ0_isLatin1_aae02 3 = .ok (.ifCond .eq 14, 3) := by decide +kernel
theorem dJ0_isLatin1_aae02_6 : decode cJ0_isLatin1_aae02 6 = .ok (.aload_n 0, 1) := by decide +kernel
theorem dJ0_isLatin1_aae02_7 : decode cJ0_isLatin1_aae02 7 = .ok (.getfield 15, 3) := by decide +kernel
theorem dJ0_isLatin1_aae02_10 : decode cJ0_isLatin1_aae02 10 = .ok (.ifCond .ne 7, 3) := by decide +kernel
theorem dJ0_isLatin1_aae02_13 : decode cJ0_isLatin1_aae02 13 = .ok (.iconst 1, 1) := by decide +kernel
theorem dJ0_isLatin1_aae02_14 : decode cJ0_isLatin1_aae02 14 = .ok (.goto 4, 3) := by decide +kernel
theorem dJ0_isLatin1_aae02_17 : decode cJ0_isLatin1_aae02 17 = .ok (.iconst 0, 1) := by decide +kernel
theorem dJ0_isLatin1_aae02_18 : decode cJ0_isLatin1_aae02 18 = .ok (.ireturn, 1) := by decide +kernel
set_option maxRecDepth 20000 in
theorem ggJ0_checkIndex_df160_J3_checkIndex_8e157 : GoodIn wsJ0_checkIndex_df160 wsJ3_checkIndex_8e157 := goodIn_r _ [5] (by decide +kernel) (by decide +kernel)
set_option maxRecDepth 20000 in
theorem gJ0_checkIndex_df160_J3_checkIndex_8e157 : GoodIn wsJ0_checkIndex_df160 (va_wsS RJ0 1059 yJ3_checkIndex_8e157 wsJ3_checkIndex_8e157) := goodIn_app (goodIn_of _ (by decide +kernel)) ggJ0_checkIndex_df160_J3_checkIndex_8e157
theorem dJ0_checkIndex_df160_0 : decode cJ0_checkIndex_df160 0 = .ok (.iload_n 0, 1) := by decide +kernel
theorem dJ0_checkIndex_df160_1 : decode cJ0_checkIndex_df160 1 = .ok (.iload_n 1, 1) := by decide +kernel
theorem dJ0_checkIndex_df160_2 : decode cJ0_checkIndex_df160 2 = .ok (.getstatic 1053, 3) := by decide +kernel
theorem dJ0_checkIndex_df160_5 : decode cJ0_checkIndex_df160 5 = .ok (.invokestatic 1059, 3) := by decide +kernel
theorem dJ0_checkIndex_df160_8 : decode cJ0_checkIndex_df160 8 = .ok (.pop, 1) := by decide +kernel
theorem dJ0_checkIndex_df160_9 : decode cJ0_checkIndex_df160 9 = .ok (.return_, 1) := by decide +kernel
set_option maxRecDepth 20000 in
theorem ggJ1_charAt_3b067_J0_checkIndex_df160 : GoodIn wsJ1_charAt_3b067 wsJ0_checkIndex_df160 := goodIn_r _ [4, 5, 6, 7, 8, 9] (by decide +kernel) (by decide +kernel)
set_option maxRecDepth 20000 in
theorem gJ1_charAt_3b067_J0_checkIndex_df160 : GoodIn wsJ1_charAt_3b067 (va_wsS RJ1 9 yJ0_checkIndex_df160 wsJ0_checkIndex_df160) := goodIn_app (goodIn_of _ (by decide +kernel)) ggJ1_charAt_3b067_J0_checkIndex_df160
theorem dJ1_charAt_3b067_0 : decode cJ1_charAt_3b067 0 = .ok (.iload_n 1, 1) := by decide +kernel
theorem dJ1_charAt_3b067_1 : decode cJ1_charAt_3b067 1 = .ok (.aload_n 0, 1) := by decide +kernel
theorem dJ1_charAt_3b067_2 : decode cJ1_charAt_3b067 2 = .ok (.arraylength, 1) := by decide +kernel
theorem dJ1_charAt_3b067_3 : decode cJ1_charAt_3b067 3 = .ok (.invokestatic 9, 3) := by decide +kernel
theorem dJ1_charAt_3b067_6 : decode cJ1_charAt_3b067 6 = .ok (.aload_n 0, 1) := by decide +kernel
theorem dJ1_charAt_3b067_7 : decode cJ1_charAt_3b067 7 = .ok (.iload_n 1, 1) := by decide +kernel
theorem dJ1_charAt_3b067_8 : decode cJ1_charAt_3b067 8 = .ok (.baload, 1) := by decide +kernel
theorem dJ1_charAt_3b067_9 : decode cJ1_charAt_3b067 9 = .ok (.sipush 255, 3) := by decide +kernel
theorem dJ1_charAt_3b067_12 : decode cJ1_charAt_3b067 12 = .ok (.iand, 1) := by decide +kernel
theorem dJ1_charAt_3b067_13 : decode cJ1_charAt_3b067 13 = .ok (.i2c, 1) := by decide +kernel
theorem dJ1_charAt_3b067_14 : decode cJ1_charAt_3b067 14 = .ok (.ireturn, 1) := by decide +kernel
set_option maxRecDepth 20000 in
theorem ggJ2_getChar_3b067_J2_length_9d52b : GoodIn wsJ2_getChar_3b067 wsJ2_length_9d52b := goodIn_r _ [7] (by decide +kernel) (by decide +kernel)
set_option maxRecDepth 20000 in
theorem gJ2_getChar_3b067_J2_length_9d52b : GoodIn wsJ2_getChar_3b067 (va_wsS RJ2 48 yJ2_length_9d52b wsJ2_length_9d52b) := goodIn_app (goodIn_of _ (by decide +kernel)) ggJ2_getChar_3b067_J2_length_9d52b
theorem dJ2_getChar_3b067_0 : decode cJ2_getChar_3b067 0 = .ok (.getstatic 44, 3) := by decide +kernel
theorem dJ2_getChar_3b067_3 : decode cJ2_getChar_3b067 3 = .ok (.ifCond .ne 25, 3) := by decide +kernel
theorem dJ2_getChar_3b067_6 : decode cJ2_getChar_3b067 6 = .ok (.iload_n 1, 1) := by decide +kernel
theorem dJ2_getChar_3b067_7 : decode cJ2_getChar_3b067 7 = .ok (.ifCond .lt 11, 3) := by decide +kernel
theorem dJ2_getChar_3b067_10 : decode cJ2_getChar_3b067 10 = .ok (.iload_n 1, 1) := by decide +kernel
theorem dJ2_getChar_3b067_11 : decode cJ2_getChar_3b067 11 = .ok (.aload_n 0, 1) := by decide +kernel
theorem dJ2_getChar_3b067_12 : decode cJ2_getChar_3b067 12 = .ok (.invokestatic 48, 3) := by decide +kernel
theorem dJ2_getChar_3b067_15 : decode cJ2_getChar_3b067 15 = .ok (.if_icmp .lt 13, 3) := by decide +kernel
theorem dJ2_getChar_3b067_18 : decode cJ2_getChar_3b067 18 = .ok (.new 52, 3) := by decide +kernel
theorem dJ2_getChar_3b067_21 : decode cJ2_getChar_3b067 21 = .ok (.dup, 1) := by decide +kernel
theorem dJ2_getChar_3b067_22 : decode cJ2_getChar_3b067 22 = .ok (.ldc 54, 2) := by decide +kernel
theorem dJ2_getChar_3b067_24 : decode cJ2_getChar_3b067 24 = .ok (.invokespecial 56, 3) := by decide +kernel
theorem dJ2_getChar_3b067_27 : decode cJ2_getChar_3b067 27 = .ok (.athrow, 1) := by decide +kernel
theorem dJ2_getChar_3b067_28 : decode cJ2_getChar_3b067 28 = .ok (.iload_n 1, 1) := by decide +kernel
theorem dJ2_getChar_3b067_29 : decode cJ2_getChar_3b067 29 = .ok (.iconst 1, 1) := by decide +kernel
theorem dJ2_getChar_3b067_30 : decode cJ2_getChar_3b067 30 = .ok (.ishl, 1) := by decide +kernel
theorem dJ2_getChar_3b067_31 : decode cJ2_getChar_3b067 31 = .ok (.istore_n 1, 1) := by decide +kernel
theorem dJ2_getChar_3b067_32 : decode cJ2_getChar_3b067 32 = .ok (.aload_n 0, 1) := by decide +kernel
theorem dJ2_getChar_3b067_33 : decode cJ2_getChar_3b067 33 = .ok (.iload_n 1, 1) := by decide +kernel
theorem dJ2_getChar_3b067_34 : decode cJ2_getChar_3b067 34 = .ok (.iinc 1 1, 3) := by decide +kernel
theorem dJ2_getChar_3b067_37 : decode cJ2_getChar_3b067 37 = .ok (.baload, 1) := by decide +kernel
theorem dJ2_getChar_3b067_38 : decode cJ2_getChar_3b067 38 = .ok (.sipush 255, 3) := by decide +kernel
theorem dJ2_getChar_3b067_41 : decode cJ2_getChar_3b067 41 = .ok (.iand, 1) := by decide +kernel
theorem dJ2_getChar_3b067_42 : decode cJ2_getChar_3b067 42 = .ok (.getstatic 59, 3) := by decide +kernel
theorem dJ2_getChar_3b067_45 : decode cJ2_getChar_3b067 45 = .ok (.ishl, 1) := by decide +kernel
theorem dJ2_getChar_3b067_46 : decode cJ2_getChar_3b067 46 = .ok (.aload_n 0, 1) := by decide +kernel
theorem dJ2_getChar_3b067_47 : decode cJ2_getChar_3b067 47 = .ok (.iload_n 1, 1) := by decide +kernel
theorem dJ2_getChar_3b067_48 : decode cJ2_getChar_3b067 48 = .ok (.baload, 1) := by decide +kernel
theorem dJ2_getChar_3b067_49 : decode cJ2_getChar_3b067 49 = .ok (.sipush 255, 3) := by decide +kernel
theorem dJ2_getChar_3b067_52 : decode cJ2_getChar_3b067 52 = .ok (.iand, 1) := by decide +kernel
theorem dJ2_getChar_3b067_53 : decode cJ2_getChar_3b067 53 = .ok (.getstatic 63, 3) := by decide +kernel
theorem dJ2_getChar_3b067_56 : decode cJ2_getChar_3b067 56 = .ok (.ishl, 1) := by decide +kernel
theorem dJ2_getChar_3b067_57 : decode cJ2_getChar_3b067 57 = .ok (.ior, 1) := by decide +kernel
theorem dJ2_getChar_3b067_58 : decode cJ2_getChar_3b067 58 = .ok (.i2c, 1) := by decide +kernel
theorem dJ2_getChar_3b067_59 : decode cJ2_getChar_3b067 59 = .ok (.ireturn, 1) := by decide +kernel
theorem dJ2_length_9d52b_0 : decode cJ2_length_9d52b 0 = .ok (.aload_n 0, 1) := by decide +kernel
theorem dJ2_length_9d52b_1 : decode cJ2_length_9d52b 1 = .ok (.arraylength, 1) := by decide +kernel
theorem dJ2_length_9d52b_2 : decode cJ2_length_9d52b 2 = .ok (.iconst 1, 1) := by decide +kernel
theorem dJ2_length_9d52b_3 : decode cJ2_length_9d52b 3 = .ok (.ishr, 1) := by decide +kernel
theorem dJ2_length_9d52b_4 : decode cJ2_length_9d52b 4 = .ok (.ireturn, 1) := by decide +kernel
set_option maxRecDepth 20000 in
theorem ggJ2_charAt_3b067_J2_checkIndex_2214a : GoodIn wsJ2_charAt_3b067 wsJ2_checkIndex_2214a := goodIn_r _ [4, 5, 6, 3, 7, 8, 9, 10, 11, 12, 13, 14, 15, 16] (by decide +kernel) (by decide +kernel)
set_option maxRecDepth 20000 in
theorem gJ2_charAt_3b067_J2_checkIndex_2214a : GoodIn wsJ2_charAt_3b067 (va_wsS RJ2 67 yJ2_checkIndex_2214a wsJ2_checkIndex_2214a) := goodIn_app (goodIn_of _ (by decide +kernel)) ggJ2_charAt_3b067_J2_checkIndex_2214a
set_option maxRecDepth 20000 in
theorem ggJ2_charAt_3b067_J2_getChar_3b067 : GoodIn wsJ2_charAt_3b067 wsJ2_getChar_3b067 := goodIn_r _ [19, 20, 21, 22, 5, 6, 3, 7] (by decide +kernel) (by decide +kernel)
set_option maxRecDepth 20000 in
theorem gJ2_charAt_3b067_J2_getChar_3b067 : GoodIn wsJ2_charAt_3b067 (va_wsS RJ2 71 yJ2_getChar_3b067 wsJ2_getChar_3b067) := goodIn_app (goodIn_of _ (by decide +kernel)) ggJ2_charAt_3b067_J2_getChar_3b067
theorem dJ2_charAt_3b067_0 : decode cJ2_charAt_3b067 0 = .ok (.iload_n 1, 1) := by decide +kernel
theorem dJ2_charAt_3b067_1 : decode cJ2_charAt_3b067 1 = .ok (.aload_n 0, 1) := by decide +kernel
theorem dJ2_charAt_3b067_2 : decode cJ2_charAt_3b067 2 = .ok (.invokestatic 67, 3) := by decide +kernel
theorem dJ2_charAt_3b067_5 : decode cJ2_charAt_3b067 5 = .ok (.aload_n 0, 1) := by decide +kernel
theorem dJ2_charAt_3b067_6 : decode cJ2_charAt_3b067 6 = .ok (.iload_n 1, 1) := by decide +kernel
theorem dJ2_charAt_3b067_7 : decode cJ2_charAt_3b067 7 = .ok (.invokestatic 71, 3) := by decide +kernel
theorem dJ2_charAt_3b067_10 : decode cJ2_charAt_3b067 10 = .ok (.ireturn, 1) := by decide +kernel
set_option maxRecDepth 20000 in
theorem ggJ2_checkIndex_2214a_J2_length_9d52b : GoodIn wsJ2_checkIndex_2214a wsJ2_length_9d52b := goodIn_r _ [4] (by decide +kernel) (by decide +kernel)
set_option maxRecDepth 20000 in
theorem gJ2_checkIndex_2214a_J2_length_9d52b : GoodIn wsJ2_checkIndex_2214a (va_wsS RJ2 48 yJ2_length_9d52b wsJ2_length_9d52b) := goodIn_app (goodIn_of _ (by decide +kernel)) ggJ2_checkIndex_2214a_J2_length_9d52b
set_option maxRecDepth 20000 in
theorem ggJ2_checkIndex_2214a_J0_checkIndex_df160 : GoodIn wsJ2_checkIndex_2214a wsJ0_checkIndex_df160 := goodIn_r _ [8, 9, 10, 11, 12, 13] (by decide +kernel) (by decide +kernel)
set_option maxRecDepth 20000 in
theorem gJ2_checkIndex_2214a_J0_checkIndex_df160 : GoodIn wsJ2_checkIndex_2214a (va_wsS RJ2 414 yJ0_checkIndex_df160 wsJ0_checkIndex_df160) := goodIn_app (goodIn_of _ (by decide +kernel)) ggJ2_checkIndex_2214a_J0_checkIndex_df160
theorem dJ2_checkIndex_2214a_0 : decode cJ2_checkIndex_2214a 0 = .ok (.iload_n 0, 1) := by decide +kernel
theorem dJ2_checkIndex_2214a_1 : decode cJ2_checkIndex_2214a 1 = .ok (.aload_n 1, 1) := by decide +kernel
theorem dJ2_checkIndex_2214a_2 : decode cJ2_checkIndex_2214a 2 = .ok (.invokestatic 48, 3) := by decide +kernel
theorem dJ2_checkIndex_2214a_5 : decode cJ2_checkIndex_2214a 5 = .ok (.invokestatic 414, 3) := by decide +kernel
theorem dJ2_checkIndex_2214a_8 : decode cJ2_checkIndex_2214a 8 = .ok (.return_, 1) := by decide +kernel
theorem dJ3_checkIndex_8e157_0 : decode cJ3_checkIndex_8e157 0 = .ok (.iload_n 0, 1) := by decide +kernel
theorem dJ3_checkIndex_8e157_1 : decode cJ3_checkIndex_8e157 1 = .ok (.ifCond .lt 8, 3) := by decide +kernel
theorem dJ3_checkIndex_8e157_4 : decode cJ3_checkIndex_8e157 4 = .ok (.iload_n 0, 1) := by decide +kernel
theorem dJ3_checkIndex_8e157_5 : decode cJ3_checkIndex_8e157 5 = .ok (.iload_n 1, 1) := by decide +kernel
theorem dJ3_checkIndex_8e157_6 : decode cJ3_checkIndex_8e157 6 = .ok (.if_icmp .lt 10, 3) := by decide +kernel
theorem dJ3_checkIndex_8e157_9 : decode cJ3_checkIndex_8e157 9 = .ok (.aload_n 2, 1) := by decide +kernel
theorem dJ3_checkIndex_8e157_10 : decode cJ3_checkIndex_8e157 10 = .ok (.iload_n 0, 1) := by decide +kernel
theorem dJ3_checkIndex_8e157_11 : decode cJ3_checkIndex_8e157 11 = .ok (.iload_n 1, 1) := by decide +kernel
theorem dJ3_checkIndex_8e157_12 : decode cJ3_checkIndex_8e157 12 = .ok (.invokestatic 95, 3) := by decide +kernel
theorem dJ3_checkIndex_8e157_15 : decode cJ3_checkIndex_8e157 15 = .ok (.athrow, 1) := by decide +kernel
theorem dJ3_checkIndex_8e157_16 : decode cJ3_checkIndex_8e157 16 = .ok (.iload_n 0, 1) := by decide +kernel
theorem dJ3_checkIndex_8e157_17 : decode cJ3_checkIndex_8e157 17 = .ok (.ireturn, 1) := by decide +kernel
set_option maxRecDepth 20000 in
theorem ggL_append_X6_append : GoodIn wsL_append wsX6_append := goodIn_ca (goodIn_r _ [6, 7, 8, 9, 10, 11, 12, 5, 13, 14, 15, 16, 17, 18, 19, 20, 21, 22, 23, 24, 25, 26, 27, 28, 29, 30, 31, 32, 33, 34, 35, 36, 37] (by decide +kernel) (by decide +kernel)) (goodIn_sub (fun _ h => List.mem_cons_of_mem _ (List.mem_append_right _ h)) (by decide +kernel))
set_option maxRecDepth 20000 in
theorem gL_append_X6_append : GoodIn wsL_append (wsV RL 7 RX6 yX6_append wsX6_append) := goodIn_app (goodIn_of _ (by decide +kernel)) ggL_append_X6_append
theorem dL_append_0 : decode cL_append 0 = .ok (.aload 6, 2) := by decide +kernel
theorem dL_append_2 : decode cL_append 2 = .ok (.iconst 0, 1) := by decide +kernel
theorem dL_append_3 : decode cL_append 3 = .ok (.aload_n 0, 1) := by decide +kernel
theorem dL_append_4 : decode cL_append 4 = .ok (.iload_n 1, 1) := by decide +kernel
theorem dL_append_5 : decode cL_append 5 = .ok (.iload_n 2, 1) := by decide +kernel
theorem dL_append_6 : decode cL_append 6 = .ok (.iload_n 3, 1) := by decide +kernel
theorem dL_append_7 : decode cL_append 7 = .ok (.iload 4, 2) := by decide +kernel
theorem dL_append_9 : decode cL_append 9 = .ok (.iload 5, 2) := by decide +kernel
theorem dL_append_11 : decode cL_append 11 = .ok (.invokevirtual 7, 3) := by decide +kernel
theorem dL_append_14 : decode cL_append 14 = .ok (.i2l, 1) := by decide +kernel
theorem dL_append_15 : decode cL_append 15 = .ok (.lastore, 1) := by decide +kernel
theorem dL_append_16 : decode cL_append 16 = .ok (.goto 7, 3) := by decide +kernel
theorem dL_append_19 : decode cL_append 19 = .ok (.astore 7, 2) := by decide +kernel
theorem dL_append_21 : decode cL_append 21 = .ok (.iconst 1, 1) := by decide +kernel
theorem dL_append_22 : decode cL_append 22 = .ok (.ireturn, 1) := by decide +kernel
theorem dL_append_23 : decode cL_append 23 = .ok (.iconst 0, 1) := by decide +kernel
theorem dL_append_24 : decode cL_append 24 = .ok (.ireturn, 1) := by decide +kernel
set_option maxRecDepth 20000 in
theorem ggL_count_X6_count : GoodIn wsL_count wsX6_count := goodIn_ca (goodIn_r _ [6, 7, 8, 9, 10, 11, 12, 13, 14, 15, 16, 17, 5, 18, 19, 20, 21, 22, 23, 24, 25, 26, 27, 28, 29, 30, 31, 32, 33, 34, 35, 36, 37, 38, 39, 40, 41, 42, 43, 44, 45, 46, 47, 48, 49, 50, 51, 52, 53, 54, 55, 56, 57, 58, 59, 60, 61, 62, 63, 64, 65, 66, 67, 68, 69, 70, 71, 72, 73, 74, 75, 76, 77, 78, 79, 80, 81, 82, 83, 84, 85, 86, 87, 88, 89, 90, 91, 92, 93, 94, 95, 96, 97, 98, 99, 100, 101, 102, 103, 104, 105, 106, 107, 108, 109, 110, 111, 112, 113, 114, 115, 116, 117, 118, 119, 120, 121, 122, 123, 124, 125, 126, 127, 128, 129, 130, 131, 132, 133] (by decide +kernel) (by decide +kernel)) (goodIn_sub (fun _ h => List.mem_cons_of_mem _ (List.mem_append_right _ h)) (by decide +kernel))
set_option maxRecDepth 20000 in
theorem gL_count_X6_count : GoodIn wsL_count (wsV RL 15 RX6 yX6_count wsX6_count) := goodIn_app (goodIn_of _ (by decide +kernel)) ggL_count_X6_count
theorem dL_count_0 : decode cL_count 0 = .ok (.aload_n 2, 1) := by decide +kernel
theorem dL_count_1 : decode cL_count 1 = .ok (.iconst 0, 1) := by decide +kernel
theorem dL_count_2 : decode cL_count 2 = .ok (.aload_n 0, 1) := by decide +kernel
theorem dL_count_3 : decode cL_count 3 = .ok (.iload_n 1, 1) := by decide +kernel
theorem dL_count_4 : decode cL_count 4 = .ok (.invokevirtual 15, 3) := by decide +kernel
theorem dL_count_7 : decode cL_count 7 = .ok (.i2l, 1) := by decide +kernel
theorem dL_count_8 : decode cL_count 8 = .ok (.lastore, 1) := by decide +kernel
theorem dL_count_9 : decode cL_count 9 = .ok (.goto 6, 3) := by decide +kernel
theorem dL_count_12 : decode cL_count 12 = .ok (.astore_n 3, 1) := by decide +kernel
theorem dL_count_13 : decode cL_count 13 = .ok (.iconst 1, 1) := by decide +kernel
theorem dL_count_14 : decode cL_count 14 = .ok (.ireturn, 1) := by decide +kernel
theorem dL_count_15 : decode cL_count 15 = .ok (.iconst 0, 1) := by decide +kernel
theorem dL_count_16 : decode cL_count 16 = .ok (.ireturn, 1) := by decide +kernel
set_option maxRecDepth 20000 in
theorem ggL_moon_X6_moon : GoodIn wsL_moon wsX6_moon := goodIn_ca (goodIn_ca (goodIn_r _ [7, 8, 9, 10, 11, 6, 12, 13, 14, 15, 16, 17, 18, 19, 20, 21, 22, 23, 24, 25, 26, 27, 28, 29, 30, 31, 32, 33, 34, 35, 36, 37, 38, 39, 40, 41, 42, 43, 44, 45, 46, 47, 48, 49, 50, 51, 52, 53, 54, 55, 56, 57, 58, 59, 60, 61, 62, 63, 64, 65, 66, 67, 68, 69, 70, 71, 72, 73, 74, 75, 76, 77, 78, 79, 80, 81, 82, 83, 84, 85, 86, 87, 88, 89, 90, 91, 92, 93, 94, 95, 96, 97, 98, 99, 100, 101, 102, 103, 104, 105, 106, 107, 108, 109, 110, 111, 112, 113, 114, 115, 116, 117, 118, 119, 120, 121, 122, 123, 124, 125, 126, 127, 128, 129, 130, 131, 132, 133, 134, 135, 136, 137, 138, 139, 140, 141, 142, 143, 144, 145, 146, 147, 148] (by decide +kernel) (by decide +kernel)) (goodIn_sub (fun _ h => List.mem_cons_of_mem _ (List.mem_append_left _ (List.mem_append_right _ h))) (by decide +kernel))) (goodIn_sub (fun _ h => List.mem_cons_of_mem _ (List.mem_append_right _ h)) (by decide +kernel))
set_option maxRecDepth 20000 in
theorem gL_moon_X6_moon : GoodIn wsL_moon (wsV RL 21 RX6 yX6_moon wsX6_moon) := goodIn_app (goodIn_of _ (by decide +kernel)) ggL_moon_X6_moon
theorem dL_moon_0 : decode cL_moon 0 = .ok (.aload_n 3, 1) := by decide +kernel
theorem dL_moon_1 : decode cL_moon 1 = .ok (.iconst 0, 1) := by decide +kernel
theorem dL_moon_2 : decode cL_moon 2 = .ok (.aload_n 0, 1) := by decide +kernel
theorem dL_moon_3 : decode cL_moon 3 = .ok (.iload_n 1, 1) := by decide +kernel
theorem dL_moon_4 : decode cL_moon 4 = .ok (.iload_n 2, 1) := by decide +kernel
theorem dL_moon_5 : decode cL_moon 5 = .ok (.invokevirtual 21, 3) := by decide +kernel
theorem dL_moon_8 : decode cL_moon 8 = .ok (.i2l, 1) := by decide +kernel
theorem dL_moon_9 : decode cL_moon 9 = .ok (.lastore, 1) := by decide +kernel
theorem dL_moon_10 : decode cL_moon 10 = .ok (.goto 11, 3) := by decide +kernel
theorem dL_moon_13 : decode cL_moon 13 = .ok (.astore 4, 2) := by decide +kernel
theorem dL_moon_15 : decode cL_moon 15 = .ok (.iconst 1, 1) := by decide +kernel
theorem dL_moon_16 : decode cL_moon 16 = .ok (.ireturn, 1) := by decide +kernel
theorem dL_moon_17 : decode cL_moon 17 = .ok (.astore 4, 2) := by decide +kernel
theorem dL_moon_19 : decode cL_moon 19 = .ok (.iconst 2, 1) := by decide +kernel
theorem dL_moon_20 : decode cL_moon 20 = .ok (.ireturn, 1) := by decide +kernel
theorem dL_moon_21 : decode cL_moon 21 = .ok (.iconst 0, 1) := by decide +kernel
theorem dL_moon_22 : decode cL_moon 22 = .ok (.ireturn, 1) := by decide +kernel
set_option maxRecDepth 20000 in
theorem ggL_sight_X6_sight : GoodIn wsL_sight wsX6_sight := goodIn_ca (goodIn_ca (goodIn_r _ [7, 8, 9, 10, 11, 6, 12, 13, 14, 15, 16, 17, 18, 19, 20, 21, 22, 23, 24, 25, 26, 27, 28, 29, 30, 31, 32, 33, 34, 35, 36, 37, 38, 39, 40, 41, 42, 43, 44, 45, 46, 47, 48, 49, 50, 51, 52, 53, 54, 55, 56, 57, 58, 59, 60, 61, 62, 63, 64, 65, 66, 67, 68, 69, 70, 71, 72, 73, 74, 75, 76, 77, 78, 79, 80, 81, 82, 83, 84, 85, 86, 87, 88, 89, 90, 91, 92, 93, 94, 95, 96, 97, 98, 99, 100, 101, 102, 103, 104, 105, 106, 107, 108, 109, 110, 111, 112, 113, 114, 115, 116, 117, 118, 119, 120, 121, 122, 123, 124, 125, 126, 127, 128, 129, 130, 131, 132, 133, 134, 135] (by decide +kernel) (by decide +kernel)) (goodIn_sub (fun _ h => List.mem_cons_of_mem _ (List.mem_append_left _ (List.mem_append_right _ h))) (by decide +kernel))) (goodIn_sub (fun _ h => List.mem_cons_of_mem _ (List.mem_append_right _ h)) (by decide +kernel))
set_option maxRecDepth 20000 in
theorem gL_sight_X6_sight : GoodIn wsL_sight (wsV RL 27 RX6 yX6_sight wsX6_sight) := goodIn_app (goodIn_of _ (by decide +kernel)) ggL_sight_X6_sight
theorem dL_sight_0 : decode cL_sight 0 = .ok (.aload_n 3, 1) := by decide +kernel
theorem dL_sight_1 : decode cL_sight 1 = .ok (.iconst 0, 1) := by decide +kernel
theorem dL_sight_2 : decode cL_sight 2 = .ok (.aload_n 0, 1) := by decide +kernel
theorem dL_sight_3 : decode cL_sight 3 = .ok (.iload_n 1, 1) := by decide +kernel
theorem dL_sight_4 : decode cL_sight 4 = .ok (.iload_n 2, 1) := by decide +kernel
theorem dL_sight_5 : decode cL_sight 5 = .ok (.invokevirtual 27, 3) := by decide +kernel
theorem dL_sight_8 : decode cL_sight 8 = .ok (.i2l, 1) := by decide +kernel
theorem dL_sight_9 : decode cL_sight 9 = .ok (.lastore, 1) := by decide +kernel
theorem dL_sight_10 : decode cL_sight 10 = .ok (.goto 11, 3) := by decide +kernel
theorem dL_sight_13 : decode cL_sight 13 = .ok (.astore 4, 2) := by decide +kernel
theorem dL_sight_15 : decode cL_sight 15 = .ok (.iconst 1, 1) := by decide +kernel
theorem dL_sight_16 : decode cL_sight 16 = .ok (.ireturn, 1) := by decide +kernel
theorem dL_sight_17 : decode cL_sight 17 = .ok (.astore 4, 2) := by decide +kernel
theorem dL_sight_19 : decode cL_sight 19 = .ok (.iconst 2, 1) := by decide +kernel
theorem dL_sight_20 : decode cL_sight 20 = .ok (.ireturn, 1) := by decide +kernel
theorem dL_sight_21 : decode cL_sight 21 = .ok (.iconst 0, 1) := by decide +kernel
theorem dL_sight_22 : decode cL_sight 22 = .ok (.ireturn, 1) := by decide +kernel
set_option maxRecDepth 20000 in
theorem ggL_light_X6_light : GoodIn wsL_light wsX6_light := goodIn_ca (goodIn_r _ [6, 7, 8, 9, 10, 11, 12, 5, 13, 14, 15, 16, 17, 18, 19, 20, 21, 22, 23, 24, 25, 26, 27, 28, 29, 30, 31, 32, 33, 34, 35, 36, 37, 38, 39, 40, 41, 42, 43] (by decide +kernel) (by decide +kernel)) (goodIn_sub (fun _ h => List.mem_cons_of_mem _ (List.mem_append_right _ h)) (by decide +kernel))
set_option maxRecDepth 20000 in
theorem gL_light_X6_light : GoodIn wsL_light (wsV RL 30 RX6 yX6_light wsX6_light) := goodIn_app (goodIn_of _ (by decide +kernel)) ggL_light_X6_light
theorem dL_light_0 : decode cL_light 0 = .ok (.aload_n 2, 1) := by decide +kernel
theorem dL_light_1 : decode cL_light 1 = .ok (.iconst 0, 1) := by decide +kernel
theorem dL_light_2 : decode cL_light 2 = .ok (.aload_n 0, 1) := by decide +kernel
theorem dL_light_3 : decode cL_light 3 = .ok (.iload_n 1, 1) := by decide +kernel
theorem dL_light_4 : decode cL_light 4 = .ok (.invokevirtual 30, 3) := by decide +kernel
theorem dL_light_7 : decode cL_light 7 = .ok (.i2l, 1) := by decide +kernel
theorem dL_light_8 : decode cL_light 8 = .ok (.lastore, 1) := by decide +kernel
theorem dL_light_9 : decode cL_light 9 = .ok (.goto 6, 3) := by decide +kernel
theorem dL_light_12 : decode cL_light 12 = .ok (.astore_n 3, 1) := by decide +kernel
theorem dL_light_13 : decode cL_light 13 = .ok (.iconst 1, 1) := by decide +kernel
theorem dL_light_14 : decode cL_light 14 = .ok (.ireturn, 1) := by decide +kernel
theorem dL_light_15 : decode cL_light 15 = .ok (.iconst 0, 1) := by decide +kernel
theorem dL_light_16 : decode cL_light 16 = .ok (.ireturn, 1) := by decide +kernel
set_option maxRecDepth 20000 in
theorem ggL_place_X6_place : GoodIn wsL_place wsX6_place := goodIn_ca (goodIn_ca (goodIn_r _ [7, 8, 9, 10, 11, 12, 13, 14, 15, 6, 16, 17, 18, 19, 20, 21, 22, 23, 24, 25, 26, 27, 28, 29, 30, 31, 32, 33, 34, 35, 36, 37, 38, 39, 40, 41, 42, 43, 44, 45, 46, 47, 48, 49, 50, 51, 52, 53, 54, 55, 56, 57, 58, 59, 60, 61, 62, 63, 64, 65, 66, 67, 68, 69, 70, 71, 72, 73, 74, 75, 76, 77, 78, 79, 80, 81, 82, 83, 84, 85, 86, 87, 88, 89, 90, 91, 92, 93, 94, 95, 96, 97, 98, 99, 100, 101, 102, 103, 104, 105, 106, 107, 108, 109, 110, 111, 112, 113, 114, 115, 116, 117] (by decide +kernel) (by decide +kernel)) (goodIn_sub (fun _ h => List.mem_cons_of_mem _ (List.mem_append_left _ (List.mem_append_right _ h))) (by decide +kernel))) (goodIn_sub (fun _ h => List.mem_cons_of_mem _ (List.mem_append_right _ h)) (by decide +kernel))
set_option maxRecDepth 20000 in
theorem gL_place_X6_place : GoodIn wsL_place (wsV RL 33 RX6 yX6_place wsX6_place) := goodIn_app (goodIn_of _ (by decide +kernel)) ggL_place_X6_place
theorem dL_place_0 : decode cL_place 0 = .ok (.aload 4, 2) := by decide +kernel
theorem dL_place_2 : decode cL_place 2 = .ok (.iconst 0, 1) := by decide +kernel
theorem dL_place_3 : decode cL_place 3 = .ok (.aload_n 0, 1) := by decide +kernel
theorem dL_place_4 : decode cL_place 4 = .ok (.iload_n 1, 1) := by decide +kernel
theorem dL_place_5 : decode cL_place 5 = .ok (.iload_n 2, 1) := by decide +kernel
theorem dL_place_6 : decode cL_place 6 = .ok (.iload_n 3, 1) := by decide +kernel
theorem dL_place_7 : decode cL_place 7 = .ok (.invokevirtual 33, 3) := by decide +kernel
theorem dL_place_10 : decode cL_place 10 = .ok (.i2l, 1) := by decide +kernel
theorem dL_place_11 : decode cL_place 11 = .ok (.lastore, 1) := by decide +kernel
theorem dL_place_12 : decode cL_place 12 = .ok (.goto 11, 3) := by decide +kernel
theorem dL_place_15 : decode cL_place 15 = .ok (.astore 5, 2) := by decide +kernel
theorem dL_place_17 : decode cL_place 17 = .ok (.iconst 1, 1) := by decide +kernel
theorem dL_place_18 : decode cL_place 18 = .ok (.ireturn, 1) := by decide +kernel
theorem dL_place_19 : decode cL_place 19 = .ok (.astore 5, 2) := by decide +kernel
theorem dL_place_21 : decode cL_place 21 = .ok (.iconst 2, 1) := by decide +kernel
theorem dL_place_22 : decode cL_place 22 = .ok (.ireturn, 1) := by decide +kernel
theorem dL_place_23 : decode cL_place 23 = .ok (.iconst 0, 1) := by decide +kernel
theorem dL_place_24 : decode cL_place 24 = .ok (.ireturn, 1) := by decide +kernel
set_option maxRecDepth 20000 in
theorem ggL_far_X6_far : GoodIn wsL_far wsX6_far := goodIn_ca (goodIn_ca (goodIn_r _ [7, 8, 9, 10, 11, 12, 13, 6, 14, 15, 16, 17, 18, 19, 20, 21, 22, 23, 24, 25, 26, 27, 28, 29, 30, 31, 32, 33, 34, 35, 36, 37, 38, 39, 40, 41, 42, 43, 44, 45, 46, 47, 48, 49, 50, 51, 52, 53, 54, 55, 56, 57, 58, 59, 60, 61, 62, 63, 64, 65, 66, 67, 68, 69, 70, 71, 72, 73, 74, 75, 76, 77, 78, 79, 80, 81, 82, 83, 84, 85, 86, 87, 88, 89, 90, 91, 92, 93, 94, 95, 96, 97, 98, 99, 100, 101, 102, 103, 104, 105, 106, 107, 108, 109, 110, 111, 112, 113, 114, 115] (by decide +kernel) (by decide +kernel)) (goodIn_sub (fun _ h => List.mem_cons_of_mem _ (List.mem_append_left _ (List.mem_append_right _ h))) (by decide +kernel))) (goodIn_sub (fun _ h => List.mem_cons_of_mem _ (List.mem_append_right _ h)) (by decide +kernel))
set_option maxRecDepth 20000 in
theorem gL_far_X6_far : GoodIn wsL_far (wsV RL 37 RX6 yX6_far wsX6_far) := goodIn_app (goodIn_of _ (by decide +kernel)) ggL_far_X6_far
theorem dL_far_0 : decode cL_far 0 = .ok (.aload_n 3, 1) := by decide +kernel
theorem dL_far_1 : decode cL_far 1 = .ok (.iconst 0, 1) := by decide +kernel
theorem dL_far_2 : decode cL_far 2 = .ok (.aload_n 0, 1) := by decide +kernel
theorem dL_far_3 : decode cL_far 3 = .ok (.iload_n 1, 1) := by decide +kernel
theorem dL_far_4 : decode cL_far 4 = .ok (.iload_n 2, 1) := by decide +kernel
theorem dL_far_5 : decode cL_far 5 = .ok (.invokevirtual 37, 3) := by decide +kernel
theorem dL_far_8 : decode cL_far 8 = .ok (.lastore, 1) := by decide +kernel
theorem dL_far_9 : decode cL_far 9 = .ok (.goto 11, 3) := by decide +kernel
theorem dL_far_12 : decode cL_far 12 = .ok (.astore 4, 2) := by decide +kernel
theorem dL_far_14 : decode cL_far 14 = .ok (.iconst 1, 1) := by decide +kernel
theorem dL_far_15 : decode cL_far 15 = .ok (.ireturn, 1) := by decide +kernel
theorem dL_far_16 : decode cL_far 16 = .ok (.astore 4, 2) := by decide +kernel
theorem dL_far_18 : decode cL_far 18 = .ok (.iconst 2, 1) := by decide +kernel
theorem dL_far_19 : decode cL_far 19 = .ok (.ireturn, 1) := by decide +kernel
theorem dL_far_20 : decode cL_far 20 = .ok (.iconst 0, 1) := by decide +kernel
theorem dL_far_21 : decode cL_far 21 = .ok (.ireturn, 1) := by decide +kernel
set_option maxRecDepth 20000 in
theorem ggL_state_X6_state : GoodIn wsL_state wsX6_state := goodIn_ca (goodIn_ca (goodIn_r _ [7, 8, 9, 10, 11, 6, 12, 13, 14, 15, 16, 17, 18, 19, 20, 21, 22, 23, 24, 25, 26, 27, 28, 29, 30, 31, 32, 33, 34, 35, 36, 37, 38, 39, 40, 41, 42, 43, 44, 45, 46, 47, 48, 49, 50, 51, 52, 53, 54, 55, 56, 57, 58, 59, 60, 61, 62, 63, 64, 65, 66, 67, 68, 69, 70, 71, 72, 73, 74, 75, 76, 77, 78, 79, 80, 81, 82, 83, 84, 85, 86, 87, 88, 89, 90, 91, 92, 93, 94, 95, 96, 97, 98, 99, 100, 101, 102, 103, 104, 105, 106, 107, 108, 109, 110, 111, 112, 113, 114, 115, 116, 117, 118, 119, 120, 121] (by decide +kernel) (by decide +kernel)) (goodIn_sub (fun _ h => List.mem_cons_of_mem _ (List.mem_append_left _ (List.mem_append_right _ h))) (by decide +kernel))) (goodIn_sub (fun _ h => List.mem_cons_of_mem _ (List.mem_append_right _ h)) (by decide +kernel))
set_option maxRecDepth 20000 in
theorem gL_state_X6_state : GoodIn wsL_state (wsV RL 41 RX6 yX6_state wsX6_state) := goodIn_app (goodIn_of _ (by decide +kernel)) ggL_state_X6_state
theorem dL_state_0 : decode cL_state 0 = .ok (.aload_n 3, 1) := by decide +kernel
theorem dL_state_1 : decode cL_state 1 = .ok (.iconst 0, 1) := by decide +kernel
theorem dL_state_2 : decode cL_state 2 = .ok (.aload_n 0, 1) := by decide +kernel
theorem dL_state_3 : decode cL_state 3 = .ok (.iload_n 1, 1) := by decide +kernel
theorem dL_state_4 : decode cL_state 4 = .ok (.iload_n 2, 1) := by decide +kernel
theorem dL_state_5 : decode cL_state 5 = .ok (.invokevirtual 41, 3) := by decide +kernel
theorem dL_state_8 : decode cL_state 8 = .ok (.i2l, 1) := by decide +kernel
theorem dL_state_9 : decode cL_state 9 = .ok (.lastore, 1) := by decide +kernel
theorem dL_state_10 : decode cL_state 10 = .ok (.goto 11, 3) := by decide +kernel
theorem dL_state_13 : decode cL_state 13 = .ok (.astore 4, 2) := by decide +kernel
theorem dL_state_15 : decode cL_state 15 = .ok (.iconst 1, 1) := by decide +kernel
theorem dL_state_16 : decode cL_state 16 = .ok (.ireturn, 1) := by decide +kernel
theorem dL_state_17 : decode cL_state 17 = .ok (.astore 4, 2) := by decide +kernel
theorem dL_state_19 : decode cL_state 19 = .ok (.iconst 2, 1) := by decide +kernel
theorem dL_state_20 : decode cL_state 20 = .ok (.ireturn, 1) := by decide +kernel
theorem dL_state_21 : decode cL_state 21 = .ok (.iconst 0, 1) := by decide +kernel
theorem dL_state_22 : decode cL_state 22 = .ok (.ireturn, 1) := by decide +kernel
set_option maxRecDepth 20000 in
theorem ggL_casts_X6_casts : GoodIn wsL_casts wsX6_casts := goodIn_ca (goodIn_ca (goodIn_r _ [7, 8, 9, 10, 11, 6, 12, 13, 14, 15, 16, 17, 18, 19, 20, 21, 22, 23, 24, 25, 26, 27, 28, 29, 30, 31, 32, 33, 34, 35, 36, 37, 38, 39, 40, 41, 42, 43, 44, 45, 46, 47, 48, 49, 50, 51, 52, 53, 54, 55, 56, 57, 58, 59, 60, 61, 62, 63, 64, 65, 66, 67, 68, 69, 70, 71, 72, 73, 74, 75, 76, 77, 78, 79, 80, 81, 82, 83, 84, 85, 86, 87, 88, 89, 90, 91, 92, 93, 94, 95, 96, 97, 98, 99, 100, 101, 102, 103, 104, 105, 106, 107, 108, 109, 110, 111, 112, 113, 114, 115, 116, 117, 118, 119, 120, 121] (by decide +kernel) (by decide +kernel)) (goodIn_sub (fun _ h => List.mem_cons_of_mem _ (List.mem_append_left _ (List.mem_append_right _ h))) (by decide +kernel))) (goodIn_sub (fun _ h => List.mem_cons_of_mem _ (List.mem_append_right _ h)) (by decide +kernel))
set_option maxRecDepth 20000 in
theorem gL_casts_X6_casts : GoodIn wsL_casts (wsV RL 44 RX6 yX6_casts wsX6_casts) := goodIn_app (goodIn_of _ (by decide +kernel)) ggL_casts_X6_casts
theorem dL_casts_0 : decode cL_casts 0 = .ok (.aload_n 3, 1) := by decide +kernel
theorem dL_casts_1 : decode cL_casts 1 = .ok (.iconst 0, 1) := by decide +kernel
theorem dL_casts_2 : decode cL_casts 2 = .ok (.aload_n 0, 1) := by decide +kernel
theorem dL_casts_3 : decode cL_casts 3 = .ok (.iload_n 1, 1) := by decide +kernel
theorem dL_casts_4 : decode cL_casts 4 = .ok (.iload_n 2, 1) := by decide +kernel
theorem dL_casts_5 : decode cL_casts 5 = .ok (.invokevirtual 44, 3) := by decide +kernel
theorem dL_casts_8 : decode cL_casts 8 = .ok (.ifCond .eq 7, 3) := by decide +kernel
theorem dL_casts_11 : decode cL_casts 11 = .ok (.lconst 1, 1) := by decide +kernel
theorem dL_casts_12 : decode cL_casts 12 = .ok (.goto 4, 3) := by decide +kernel
theorem dL_casts_15 : decode cL_casts 15 = .ok (.lconst 0, 1) := by decide +kernel
theorem dL_casts_16 : decode cL_casts 16 = .ok (.lastore, 1) := by decide +kernel
theorem dL_casts_17 : decode cL_casts 17 = .ok (.goto 11, 3) := by decide +kernel
theorem dL_casts_20 : decode cL_casts 20 = .ok (.astore 4, 2) := by decide +kernel
theorem dL_casts_22 : decode cL_casts 22 = .ok (.iconst 1, 1) := by decide +kernel
theorem dL_casts_23 : decode cL_casts 23 = .ok (.ireturn, 1) := by decide +kernel
theorem dL_casts_24 : decode cL_casts 24 = .ok (.astore 4, 2) := by decide +kernel
theorem dL_casts_26 : decode cL_casts 26 = .ok (.iconst 2, 1) := by decide +kernel
theorem dL_casts_27 : decode cL_casts 27 = .ok (.ireturn, 1) := by decide +kernel
theorem dL_casts_28 : decode cL_casts 28 = .ok (.iconst 0, 1) := by decide +kernel
theorem dL_casts_29 : decode cL_casts 29 = .ok (.ireturn, 1) := by decide +kernel
set_option maxRecDepth 20000 in
theorem ggL_shadedBy_X6_shadedBy : GoodIn wsL_shadedBy wsX6_shadedBy := goodIn_ca (goodIn_ca (goodIn_r _ [7, 8, 9, 10, 11, 12, 13, 14, 6, 15, 16, 17, 18, 19, 20, 21, 22, 23, 24, 25, 26, 27, 28, 29, 30, 31, 32, 33, 34, 35, 36, 37, 38, 39, 40, 41, 42, 43, 44, 45, 46, 47, 48, 49, 50, 51, 52, 53, 54, 55, 56, 57, 58, 59, 60, 61, 62, 63, 64, 65, 66, 67, 68, 69, 70, 71, 72, 73, 74, 75, 76, 77, 78, 79, 80, 81, 82, 83, 84, 85, 86, 87, 88, 89, 90, 91, 92, 93, 94, 95, 96, 97, 98, 99, 100, 101, 102, 103, 104, 105, 106, 107, 108, 109, 110, 111, 112, 113, 114, 115, 116, 117, 118, 119, 120, 121, 122] (by decide +kernel) (by decide +kernel)) (goodIn_sub (fun _ h => List.mem_cons_of_mem _ (List.mem_append_left _ (List.mem_append_right _ h))) (by decide +kernel))) (goodIn_sub (fun _ h => List.mem_cons_of_mem _ (List.mem_append_right _ h)) (by decide +kernel))
set_option maxRecDepth 20000 in
theorem gL_shadedBy_X6_shadedBy : GoodIn wsL_shadedBy (wsV RL 48 RX6 yX6_shadedBy wsX6_shadedBy) := goodIn_app (goodIn_of _ (by decide +kernel)) ggL_shadedBy_X6_shadedBy
theorem dL_shadedBy_0 : decode cL_shadedBy 0 = .ok (.aload_n 3, 1) := by decide +kernel
theorem dL_shadedBy_1 : decode cL_shadedBy 1 = .ok (.iconst 0, 1) := by decide +kernel
theorem dL_shadedBy_2 : decode cL_shadedBy 2 = .ok (.aload_n 0, 1) := by decide +kernel
theorem dL_shadedBy_3 : decode cL_shadedBy 3 = .ok (.iload_n 1, 1) := by decide +kernel
theorem dL_shadedBy_4 : decode cL_shadedBy 4 = .ok (.iload_n 2, 1) := by decide +kernel
theorem dL_shadedBy_5 : decode cL_shadedBy 5 = .ok (.invokevirtual 48, 3) := by decide +kernel
theorem dL_shadedBy_8 : decode cL_shadedBy 8 = .ok (.i2l, 1) := by decide +kernel
theorem dL_shadedBy_9 : decode cL_shadedBy 9 = .ok (.lastore, 1) := by decide +kernel
theorem dL_shadedBy_10 : decode cL_shadedBy 10 = .ok (.goto 11, 3) := by decide +kernel
theorem dL_shadedBy_13 : decode cL_shadedBy 13 = .ok (.astore 4, 2) := by decide +kernel
theorem dL_shadedBy_15 : decode cL_shadedBy 15 = .ok (.iconst 1, 1) := by decide +kernel
theorem dL_shadedBy_16 : decode cL_shadedBy 16 = .ok (.ireturn, 1) := by decide +kernel
theorem dL_shadedBy_17 : decode cL_shadedBy 17 = .ok (.astore 4, 2) := by decide +kernel
theorem dL_shadedBy_19 : decode cL_shadedBy 19 = .ok (.iconst 2, 1) := by decide +kernel
theorem dL_shadedBy_20 : decode cL_shadedBy 20 = .ok (.ireturn, 1) := by decide +kernel
theorem dL_shadedBy_21 : decode cL_shadedBy 21 = .ok (.iconst 0, 1) := by decide +kernel
theorem dL_shadedBy_22 : decode cL_shadedBy 22 = .ok (.ireturn, 1) := by decide +kernel
set_option maxRecDepth 20000 in
theorem ggL_whyLit_X6_whyLit : GoodIn wsL_whyLit wsX6_whyLit := goodIn_ca (goodIn_ca (goodIn_r _ [7, 8, 9, 10, 11, 12, 6, 13, 14, 15, 16, 17, 18, 19, 20, 21, 22, 23, 24, 25, 26, 27, 28, 29, 30, 31, 32, 33, 34, 35, 36, 37, 38, 39, 40, 41, 42, 43, 44, 45, 46, 47, 48, 49, 50, 51, 52, 53, 54, 55, 56, 57, 58, 59, 60, 61, 62, 63, 64, 65, 66, 67, 68, 69, 70, 71, 72, 73, 74, 75, 76, 77, 78, 79, 80, 81, 82, 83, 84, 85, 86, 87, 88, 89, 90, 91, 92, 93, 94, 95, 96, 97, 98, 99, 100, 101, 102, 103, 104, 105, 106, 107, 108, 109, 110, 111, 112, 113, 114, 115, 116, 117, 118, 119, 120, 121, 122] (by decide +kernel) (by decide +kernel)) (goodIn_sub (fun _ h => List.mem_cons_of_mem _ (List.mem_append_left _ (List.mem_append_right _ h))) (by decide +kernel))) (goodIn_sub (fun _ h => List.mem_cons_of_mem _ (List.mem_append_right _ h)) (by decide +kernel))
set_option maxRecDepth 20000 in
theorem gL_whyLit_X6_whyLit : GoodIn wsL_whyLit (wsV RL 51 RX6 yX6_whyLit wsX6_whyLit) := goodIn_app (goodIn_of _ (by decide +kernel)) ggL_whyLit_X6_whyLit
theorem dL_whyLit_0 : decode cL_whyLit 0 = .ok (.aload_n 3, 1) := by decide +kernel
theorem dL_whyLit_1 : decode cL_whyLit 1 = .ok (.iconst 0, 1) := by decide +kernel
theorem dL_whyLit_2 : decode cL_whyLit 2 = .ok (.aload_n 0, 1) := by decide +kernel
theorem dL_whyLit_3 : decode cL_whyLit 3 = .ok (.iload_n 1, 1) := by decide +kernel
theorem dL_whyLit_4 : decode cL_whyLit 4 = .ok (.iload_n 2, 1) := by decide +kernel
theorem dL_whyLit_5 : decode cL_whyLit 5 = .ok (.invokevirtual 51, 3) := by decide +kernel
theorem dL_whyLit_8 : decode cL_whyLit 8 = .ok (.i2l, 1) := by decide +kernel
theorem dL_whyLit_9 : decode cL_whyLit 9 = .ok (.lastore, 1) := by decide +kernel
theorem dL_whyLit_10 : decode cL_whyLit 10 = .ok (.goto 11, 3) := by decide +kernel
theorem dL_whyLit_13 : decode cL_whyLit 13 = .ok (.astore 4, 2) := by decide +kernel
theorem dL_whyLit_15 : decode cL_whyLit 15 = .ok (.iconst 1, 1) := by decide +kernel
theorem dL_whyLit_16 : decode cL_whyLit 16 = .ok (.ireturn, 1) := by decide +kernel
theorem dL_whyLit_17 : decode cL_whyLit 17 = .ok (.astore 4, 2) := by decide +kernel
theorem dL_whyLit_19 : decode cL_whyLit 19 = .ok (.iconst 2, 1) := by decide +kernel
theorem dL_whyLit_20 : decode cL_whyLit 20 = .ok (.ireturn, 1) := by decide +kernel
theorem dL_whyLit_21 : decode cL_whyLit 21 = .ok (.iconst 0, 1) := by decide +kernel
theorem dL_whyLit_22 : decode cL_whyLit 22 = .ok (.ireturn, 1) := by decide +kernel
set_option maxRecDepth 20000 in
theorem ggL_meeting_X6_meeting : GoodIn wsL_meeting wsX6_meeting := goodIn_ca (goodIn_ca (goodIn_r _ [7, 8, 9, 10, 11, 12, 13, 6, 14, 15, 16, 17, 18, 19, 20, 21, 22, 23, 24, 25, 26, 27, 28, 29, 30, 31, 32, 33, 34, 35, 36, 37, 38, 39, 40, 41, 42, 43, 44, 45, 46, 47, 48, 49, 50, 51, 52, 53, 54, 55, 56, 57, 58, 59, 60, 61, 62, 63, 64, 65, 66, 67, 68, 69, 70, 71, 72, 73, 74, 75, 76, 77, 78, 79, 80, 81, 82, 83, 84, 85, 86, 87, 88, 89, 90, 91, 92, 93, 94, 95, 96, 97, 98, 99, 100, 101, 102, 103, 104, 105, 106, 107, 108, 109, 110, 111, 112, 113, 114, 115, 116, 117, 118, 119, 120, 121, 122, 123, 124, 125] (by decide +kernel) (by decide +kernel)) (goodIn_sub (fun _ h => List.mem_cons_of_mem _ (List.mem_append_left _ (List.mem_append_right _ h))) (by decide +kernel))) (goodIn_sub (fun _ h => List.mem_cons_of_mem _ (List.mem_append_right _ h)) (by decide +kernel))
set_option maxRecDepth 20000 in
theorem gL_meeting_X6_meeting : GoodIn wsL_meeting (wsV RL 54 RX6 yX6_meeting wsX6_meeting) := goodIn_app (goodIn_of _ (by decide +kernel)) ggL_meeting_X6_meeting
theorem dL_meeting_0 : decode cL_meeting 0 = .ok (.aload 4, 2) := by decide +kernel
theorem dL_meeting_2 : decode cL_meeting 2 = .ok (.iconst 0, 1) := by decide +kernel
theorem dL_meeting_3 : decode cL_meeting 3 = .ok (.aload_n 0, 1) := by decide +kernel
theorem dL_meeting_4 : decode cL_meeting 4 = .ok (.iload_n 1, 1) := by decide +kernel
theorem dL_meeting_5 : decode cL_meeting 5 = .ok (.iload_n 2, 1) := by decide +kernel
theorem dL_meeting_6 : decode cL_meeting 6 = .ok (.iload_n 3, 1) := by decide +kernel
theorem dL_meeting_7 : decode cL_meeting 7 = .ok (.invokevirtual 54, 3) := by decide +kernel
theorem dL_meeting_10 : decode cL_meeting 10 = .ok (.i2l, 1) := by decide +kernel
theorem dL_meeting_11 : decode cL_meeting 11 = .ok (.lastore, 1) := by decide +kernel
theorem dL_meeting_12 : decode cL_meeting 12 = .ok (.goto 11, 3) := by decide +kernel
theorem dL_meeting_15 : decode cL_meeting 15 = .ok (.astore 5, 2) := by decide +kernel
theorem dL_meeting_17 : decode cL_meeting 17 = .ok (.iconst 1, 1) := by decide +kernel
theorem dL_meeting_18 : decode cL_meeting 18 = .ok (.ireturn, 1) := by decide +kernel
theorem dL_meeting_19 : decode cL_meeting 19 = .ok (.astore 5, 2) := by decide +kernel
theorem dL_meeting_21 : decode cL_meeting 21 = .ok (.iconst 2, 1) := by decide +kernel
theorem dL_meeting_22 : decode cL_meeting 22 = .ok (.ireturn, 1) := by decide +kernel
theorem dL_meeting_23 : decode cL_meeting 23 = .ok (.iconst 0, 1) := by decide +kernel
theorem dL_meeting_24 : decode cL_meeting 24 = .ok (.ireturn, 1) := by decide +kernel
set_option maxRecDepth 20000 in
theorem ggL_ticks_X6_ticks : GoodIn wsL_ticks wsX6_ticks := goodIn_ca (goodIn_ca (goodIn_r _ [7, 8, 9, 10, 11, 12, 6, 13, 14, 15, 16, 17, 18, 19, 20, 21, 22, 23, 24, 25, 26, 27, 28, 29, 30, 31, 32, 33, 34, 35, 36, 37, 38, 39, 40, 41, 42, 43, 44, 45, 46, 47, 48, 49, 50, 51, 52, 53, 54, 55, 56, 57, 58, 59, 60, 61, 62, 63, 64, 65, 66, 67, 68, 69, 70, 71, 72, 73, 74, 75, 76, 77, 78, 79, 80, 81, 82, 83, 84, 85, 86, 87, 88, 89, 90, 91, 92, 93, 94, 95, 96, 97, 98, 99, 100, 101, 102, 103, 104, 105, 106, 107, 108, 109, 110, 111, 112, 113, 114, 115, 116, 117, 118, 119, 120, 121, 122, 123] (by decide +kernel) (by decide +kernel)) (goodIn_sub (fun _ h => List.mem_cons_of_mem _ (List.mem_append_left _ (List.mem_append_right _ h))) (by decide +kernel))) (goodIn_sub (fun _ h => List.mem_cons_of_mem _ (List.mem_append_right _ h)) (by decide +kernel))
set_option maxRecDepth 20000 in
theorem gL_ticks_X6_ticks : GoodIn wsL_ticks (wsV RL 57 RX6 yX6_ticks wsX6_ticks) := goodIn_app (goodIn_of _ (by decide +kernel)) ggL_ticks_X6_ticks
theorem dL_ticks_0 : decode cL_ticks 0 = .ok (.aload 5, 2) := by decide +kernel
theorem dL_ticks_2 : decode cL_ticks 2 = .ok (.iconst 0, 1) := by decide +kernel
theorem dL_ticks_3 : decode cL_ticks 3 = .ok (.aload_n 0, 1) := by decide +kernel
theorem dL_ticks_4 : decode cL_ticks 4 = .ok (.iload_n 1, 1) := by decide +kernel
theorem dL_ticks_5 : decode cL_ticks 5 = .ok (.iload_n 2, 1) := by decide +kernel
theorem dL_ticks_6 : decode cL_ticks 6 = .ok (.iload_n 3, 1) := by decide +kernel
theorem dL_ticks_7 : decode cL_ticks 7 = .ok (.iload 4, 2) := by decide +kernel
theorem dL_ticks_9 : decode cL_ticks 9 = .ok (.invokevirtual 57, 3) := by decide +kernel
theorem dL_ticks_12 : decode cL_ticks 12 = .ok (.i2l, 1) := by decide +kernel
theorem dL_ticks_13 : decode cL_ticks 13 = .ok (.lastore, 1) := by decide +kernel
theorem dL_ticks_14 : decode cL_ticks 14 = .ok (.goto 11, 3) := by decide +kernel
theorem dL_ticks_17 : decode cL_ticks 17 = .ok (.astore 6, 2) := by decide +kernel
theorem dL_ticks_19 : decode cL_ticks 19 = .ok (.iconst 1, 1) := by decide +kernel
theorem dL_ticks_20 : decode cL_ticks 20 = .ok (.ireturn, 1) := by decide +kernel
theorem dL_ticks_21 : decode cL_ticks 21 = .ok (.astore 6, 2) := by decide +kernel
theorem dL_ticks_23 : decode cL_ticks 23 = .ok (.iconst 2, 1) := by decide +kernel
theorem dL_ticks_24 : decode cL_ticks 24 = .ok (.ireturn, 1) := by decide +kernel
theorem dL_ticks_25 : decode cL_ticks 25 = .ok (.iconst 0, 1) := by decide +kernel
theorem dL_ticks_26 : decode cL_ticks 26 = .ok (.ireturn, 1) := by decide +kernel
set_option maxRecDepth 20000 in
theorem ggL_darkest_X6_darkest : GoodIn wsL_darkest wsX6_darkest := goodIn_ca (goodIn_r _ [6, 7, 8, 5, 9, 10, 11, 12, 13, 14, 15, 16, 17, 18, 19, 20, 21, 22, 23, 24, 25, 26, 27, 28, 29, 30, 31, 32, 33, 34, 35, 36, 37, 38, 39, 40, 41, 42, 43, 44, 45, 46, 47, 48, 49, 50, 51, 52, 53, 54, 55, 56, 57, 58, 59, 60, 61, 62, 63, 64, 65, 66, 67, 68, 69, 70, 71, 72, 73, 74, 75, 76, 77, 78, 79, 80, 81, 82, 83, 84, 85, 86, 87, 88, 89, 90, 91, 92, 93, 94, 95, 96, 97, 98, 99, 100, 101, 102, 103, 104, 105, 106, 107, 108, 109, 110, 111, 112, 113, 114, 115, 116, 117, 118, 119, 120] (by decide +kernel) (by decide +kernel)) (goodIn_sub (fun _ h => List.mem_cons_of_mem _ (List.mem_append_right _ h)) (by decide +kernel))
set_option maxRecDepth 20000 in
theorem gL_darkest_X6_darkest : GoodIn wsL_darkest (wsV RL 61 RX6 yX6_darkest wsX6_darkest) := goodIn_app (goodIn_of _ (by decide +kernel)) ggL_darkest_X6_darkest
theorem dL_darkest_0 : decode cL_darkest 0 = .ok (.aload_n 3, 1) := by decide +kernel
theorem dL_darkest_1 : decode cL_darkest 1 = .ok (.iconst 0, 1) := by decide +kernel
theorem dL_darkest_2 : decode cL_darkest 2 = .ok (.aload_n 0, 1) := by decide +kernel
theorem dL_darkest_3 : decode cL_darkest 3 = .ok (.iload_n 1, 1) := by decide +kernel
theorem dL_darkest_4 : decode cL_darkest 4 = .ok (.iload_n 2, 1) := by decide +kernel
theorem dL_darkest_5 : decode cL_darkest 5 = .ok (.invokevirtual 61, 3) := by decide +kernel
theorem dL_darkest_8 : decode cL_darkest 8 = .ok (.i2l, 1) := by decide +kernel
theorem dL_darkest_9 : decode cL_darkest 9 = .ok (.lastore, 1) := by decide +kernel
theorem dL_darkest_10 : decode cL_darkest 10 = .ok (.goto 7, 3) := by decide +kernel
theorem dL_darkest_13 : decode cL_darkest 13 = .ok (.astore 4, 2) := by decide +kernel
theorem dL_darkest_15 : decode cL_darkest 15 = .ok (.iconst 1, 1) := by decide +kernel
theorem dL_darkest_16 : decode cL_darkest 16 = .ok (.ireturn, 1) := by decide +kernel
theorem dL_darkest_17 : decode cL_darkest 17 = .ok (.iconst 0, 1) := by decide +kernel
theorem dL_darkest_18 : decode cL_darkest 18 = .ok (.ireturn, 1) := by decide +kernel
set_option maxRecDepth 20000 in
theorem ggL_next_X6_next : GoodIn wsL_next wsX6_next := goodIn_ca (goodIn_ca (goodIn_r _ [7, 8, 9, 10, 11, 12, 6, 13, 14, 15, 16, 17, 18, 19, 20, 21, 22, 23, 24, 25, 26, 27, 28, 29, 30, 31, 32, 33, 34, 35, 36, 37, 38, 39, 40, 41, 42, 43, 44, 45, 46, 47, 48, 49, 50, 51, 52, 53, 54, 55, 56, 57, 58, 59, 60, 61, 62, 63, 64, 65, 66, 67, 68, 69, 70, 71, 72, 73, 74, 75, 76, 77, 78, 79, 80, 81, 82, 83, 84, 85, 86, 87, 88, 89, 90, 91, 92, 93, 94, 95, 96, 97, 98, 99, 100, 101, 102, 103, 104, 105, 106, 107, 108, 109, 110, 111, 112, 113, 114, 115, 116, 117, 118, 119, 120, 121, 122, 123, 124, 125, 126, 127, 128, 129, 130, 131, 132, 133, 134] (by decide +kernel) (by decide +kernel)) (goodIn_sub (fun _ h => List.mem_cons_of_mem _ (List.mem_append_left _ (List.mem_append_right _ h))) (by decide +kernel))) (goodIn_sub (fun _ h => List.mem_cons_of_mem _ (List.mem_append_right _ h)) (by decide +kernel))
set_option maxRecDepth 20000 in
theorem gL_next_X6_next : GoodIn wsL_next (wsV RL 64 RX6 yX6_next wsX6_next) := goodIn_app (goodIn_of _ (by decide +kernel)) ggL_next_X6_next
theorem dL_next_0 : decode cL_next 0 = .ok (.aload 4, 2) := by decide +kernel
theorem dL_next_2 : decode cL_next 2 = .ok (.iconst 0, 1) := by decide +kernel
theorem dL_next_3 : decode cL_next 3 = .ok (.aload_n 0, 1) := by decide +kernel
theorem dL_next_4 : decode cL_next 4 = .ok (.iload_n 1, 1) := by decide +kernel
theorem dL_next_5 : decode cL_next 5 = .ok (.iload_n 2, 1) := by decide +kernel
theorem dL_next_6 : decode cL_next 6 = .ok (.iload_n 3, 1) := by decide +kernel
theorem dL_next_7 : decode cL_next 7 = .ok (.invokevirtual 64, 3) := by decide +kernel
theorem dL_next_10 : decode cL_next 10 = .ok (.i2l, 1) := by decide +kernel
theorem dL_next_11 : decode cL_next 11 = .ok (.lastore, 1) := by decide +kernel
theorem dL_next_12 : decode cL_next 12 = .ok (.goto 11, 3) := by decide +kernel
theorem dL_next_15 : decode cL_next 15 = .ok (.astore 5, 2) := by decide +kernel
theorem dL_next_17 : decode cL_next 17 = .ok (.iconst 1, 1) := by decide +kernel
theorem dL_next_18 : decode cL_next 18 = .ok (.ireturn, 1) := by decide +kernel
theorem dL_next_19 : decode cL_next 19 = .ok (.astore 5, 2) := by decide +kernel
theorem dL_next_21 : decode cL_next 21 = .ok (.iconst 2, 1) := by decide +kernel
theorem dL_next_22 : decode cL_next 22 = .ok (.ireturn, 1) := by decide +kernel
theorem dL_next_23 : decode cL_next 23 = .ok (.iconst 0, 1) := by decide +kernel
theorem dL_next_24 : decode cL_next 24 = .ok (.ireturn, 1) := by decide +kernel
set_option maxRecDepth 20000 in
theorem ggL_events_X6_events : GoodIn wsL_events wsX6_events := goodIn_ca (goodIn_r _ [6, 7, 8, 9, 10, 11, 5, 12, 13, 14, 15, 16, 17, 18, 19, 20, 21, 22, 23, 24, 25, 26, 27, 28, 29, 30, 31, 32, 33, 34, 35, 36, 37, 38, 39, 40, 41, 42, 43, 44, 45, 46, 47, 48, 49, 50, 51, 52, 53, 54, 55, 56, 57, 58, 59, 60, 61, 62, 63, 64, 65, 66, 67, 68, 69, 70, 71, 72, 73, 74, 75, 76, 77, 78, 79, 80, 81, 82, 83, 84, 85, 86, 87, 88, 89, 90, 91, 92, 93, 94, 95, 96, 97, 98, 99, 100, 101, 102, 103, 104, 105, 106, 107, 108, 109, 110, 111, 112, 113, 114, 115, 116, 117, 118, 119, 120, 121, 122, 123, 124, 125, 126, 127, 128, 129, 130, 131, 132, 133, 134, 135, 136, 137, 138, 139, 140, 141, 142, 143, 144, 145, 146, 147, 148, 149, 150, 151, 152, 153, 154, 155, 156, 157, 158, 159, 160, 161, 162, 163] (by decide +kernel) (by decide +kernel)) (goodIn_sub (fun _ h => List.mem_cons_of_mem _ (List.mem_append_right _ h)) (by decide +kernel))
set_option maxRecDepth 20000 in
theorem gL_events_X6_events : GoodIn wsL_events (wsV RL 67 RX6 yX6_events wsX6_events) := goodIn_app (goodIn_of _ (by decide +kernel)) ggL_events_X6_events
theorem dL_events_0 : decode cL_events 0 = .ok (.aload_n 3, 1) := by decide +kernel
theorem dL_events_1 : decode cL_events 1 = .ok (.iconst 0, 1) := by decide +kernel
theorem dL_events_2 : decode cL_events 2 = .ok (.aload_n 0, 1) := by decide +kernel
theorem dL_events_3 : decode cL_events 3 = .ok (.iload_n 1, 1) := by decide +kernel
theorem dL_events_4 : decode cL_events 4 = .ok (.iload_n 2, 1) := by decide +kernel
theorem dL_events_5 : decode cL_events 5 = .ok (.invokevirtual 67, 3) := by decide +kernel
theorem dL_events_8 : decode cL_events 8 = .ok (.i2l, 1) := by decide +kernel
theorem dL_events_9 : decode cL_events 9 = .ok (.lastore, 1) := by decide +kernel
theorem dL_events_10 : decode cL_events 10 = .ok (.goto 7, 3) := by decide +kernel
theorem dL_events_13 : decode cL_events 13 = .ok (.astore 4, 2) := by decide +kernel
theorem dL_events_15 : decode cL_events 15 = .ok (.iconst 1, 1) := by decide +kernel
theorem dL_events_16 : decode cL_events 16 = .ok (.ireturn, 1) := by decide +kernel
theorem dL_events_17 : decode cL_events 17 = .ok (.iconst 0, 1) := by decide +kernel
theorem dL_events_18 : decode cL_events 18 = .ok (.ireturn, 1) := by decide +kernel
set_option maxRecDepth 20000 in
theorem ggL_event_X6_event : GoodIn wsL_event wsX6_event := goodIn_ca (goodIn_ca (goodIn_r _ [7, 8, 9, 10, 11, 12, 13, 14, 15, 6, 16, 17, 18, 19, 20, 21, 22, 23, 24, 25, 26, 27, 28, 29, 30, 31, 32, 33, 34, 35, 36, 37, 38, 39, 40, 41, 42, 43, 44, 45, 46, 47, 48, 49, 50, 51, 52, 53, 54, 55, 56, 57, 58, 59, 60, 61, 62, 63, 64, 65, 66, 67, 68, 69, 70, 71, 72, 73, 74, 75, 76, 77, 78, 79, 80, 81, 82, 83, 84, 85, 86, 87, 88, 89, 90, 91, 92, 93, 94, 95, 96, 97, 98, 99, 100, 101, 102, 103, 104, 105, 106, 107, 108, 109, 110, 111, 112, 113, 114, 115, 116, 117, 118, 119, 120, 121, 122, 123, 124, 125, 126, 127, 128, 129, 130, 131, 132, 133, 134, 135, 136, 137, 138, 139, 140, 141, 142, 143, 144, 145, 146, 147, 148, 149, 150, 151, 152, 153, 154, 155, 156, 157, 158, 159, 160, 161, 162, 163, 164, 165, 166, 167, 168, 169, 170, 171, 172, 173] (by decide +kernel) (by decide +kernel)) (goodIn_sub (fun _ h => List.mem_cons_of_mem _ (List.mem_append_left _ (List.mem_append_right _ h))) (by decide +kernel))) (goodIn_sub (fun _ h => List.mem_cons_of_mem _ (List.mem_append_right _ h)) (by decide +kernel))
set_option maxRecDepth 20000 in
theorem gL_event_X6_event : GoodIn wsL_event (wsV RL 70 RX6 yX6_event wsX6_event) := goodIn_app (goodIn_of _ (by decide +kernel)) ggL_event_X6_event
theorem dL_event_0 : decode cL_event 0 = .ok (.aload 5, 2) := by decide +kernel
theorem dL_event_2 : decode cL_event 2 = .ok (.iconst 0, 1) := by decide +kernel
theorem dL_event_3 : decode cL_event 3 = .ok (.aload_n 0, 1) := by decide +kernel
theorem dL_event_4 : decode cL_event 4 = .ok (.iload_n 1, 1) := by decide +kernel
theorem dL_event_5 : decode cL_event 5 = .ok (.iload_n 2, 1) := by decide +kernel
theorem dL_event_6 : decode cL_event 6 = .ok (.iload_n 3, 1) := by decide +kernel
theorem dL_event_7 : decode cL_event 7 = .ok (.iload 4, 2) := by decide +kernel
theorem dL_event_9 : decode cL_event 9 = .ok (.invokevirtual 70, 3) := by decide +kernel
theorem dL_event_12 : decode cL_event 12 = .ok (.i2l, 1) := by decide +kernel
theorem dL_event_13 : decode cL_event 13 = .ok (.lastore, 1) := by decide +kernel
theorem dL_event_14 : decode cL_event 14 = .ok (.goto 11, 3) := by decide +kernel
theorem dL_event_17 : decode cL_event 17 = .ok (.astore 6, 2) := by decide +kernel
theorem dL_event_19 : decode cL_event 19 = .ok (.iconst 1, 1) := by decide +kernel
theorem dL_event_20 : decode cL_event 20 = .ok (.ireturn, 1) := by decide +kernel
theorem dL_event_21 : decode cL_event 21 = .ok (.astore 6, 2) := by decide +kernel
theorem dL_event_23 : decode cL_event 23 = .ok (.iconst 2, 1) := by decide +kernel
theorem dL_event_24 : decode cL_event 24 = .ok (.ireturn, 1) := by decide +kernel
theorem dL_event_25 : decode cL_event 25 = .ok (.iconst 0, 1) := by decide +kernel
theorem dL_event_26 : decode cL_event 26 = .ok (.ireturn, 1) := by decide +kernel
set_option maxRecDepth 20000 in
theorem ggL_meanDark_X6_meanDark : GoodIn wsL_meanDark wsX6_meanDark := goodIn_ca (goodIn_ca (goodIn_r _ [7, 8, 9, 10, 11, 12, 6, 13, 14, 15, 16, 17, 18, 19, 20, 21, 22, 23, 24, 25, 26, 27, 28, 29, 30, 31, 32, 33, 34, 35, 36, 37, 38, 39, 40, 41, 42, 43, 44, 45, 46, 47, 48, 49, 50, 51, 52, 53, 54, 55, 56, 57, 58, 59, 60, 61, 62, 63, 64, 65, 66, 67, 68, 69, 70, 71, 72, 73, 74, 75, 76, 77, 78, 79, 80, 81, 82, 83, 84, 85, 86, 87, 88, 89, 90, 91, 92, 93, 94, 95, 96, 97, 98, 99, 100, 101, 102, 103, 104, 105, 106, 107, 108, 109, 110, 111, 112, 113, 114, 115, 116, 117, 118, 119, 120, 121, 122, 123, 124, 125, 126, 127, 128, 129, 130, 131, 132, 133, 134] (by decide +kernel) (by decide +kernel)) (goodIn_sub (fun _ h => List.mem_cons_of_mem _ (List.mem_append_left _ (List.mem_append_right _ h))) (by decide +kernel))) (goodIn_sub (fun _ h => List.mem_cons_of_mem _ (List.mem_append_right _ h)) (by decide +kernel))
set_option maxRecDepth 20000 in
theorem gL_meanDark_X6_meanDark : GoodIn wsL_meanDark (wsV RL 73 RX6 yX6_meanDark wsX6_meanDark) := goodIn_app (goodIn_of _ (by decide +kernel)) ggL_meanDark_X6_meanDark
theorem dL_meanDark_0 : decode cL_meanDark 0 = .ok (.aload 4, 2) := by decide +kernel
theorem dL_meanDark_2 : decode cL_meanDark 2 = .ok (.iconst 0, 1) := by decide +kernel
theorem dL_meanDark_3 : decode cL_meanDark 3 = .ok (.aload_n 0, 1) := by decide +kernel
theorem dL_meanDark_4 : decode cL_meanDark 4 = .ok (.iload_n 1, 1) := by decide +kernel
theorem dL_meanDark_5 : decode cL_meanDark 5 = .ok (.iload_n 2, 1) := by decide +kernel
theorem dL_meanDark_6 : decode cL_meanDark 6 = .ok (.iload_n 3, 1) := by decide +kernel
theorem dL_meanDark_7 : decode cL_meanDark 7 = .ok (.invokevirtual 73, 3) := by decide +kernel
theorem dL_meanDark_10 : decode cL_meanDark 10 = .ok (.dastore, 1) := by decide +kernel
theorem dL_meanDark_11 : decode cL_meanDark 11 = .ok (.goto 11, 3) := by decide +kernel
theorem dL_meanDark_14 : decode cL_meanDark 14 = .ok (.astore 5, 2) := by decide +kernel
theorem dL_meanDark_16 : decode cL_meanDark 16 = .ok (.iconst 1, 1) := by decide +kernel
theorem dL_meanDark_17 : decode cL_meanDark 17 = .ok (.ireturn, 1) := by decide +kernel
theorem dL_meanDark_18 : decode cL_meanDark 18 = .ok (.astore 5, 2) := by decide +kernel
theorem dL_meanDark_20 : decode cL_meanDark 20 = .ok (.iconst 2, 1) := by decide +kernel
theorem dL_meanDark_21 : decode cL_meanDark 21 = .ok (.ireturn, 1) := by decide +kernel
theorem dL_meanDark_22 : decode cL_meanDark 22 = .ok (.iconst 0, 1) := by decide +kernel
theorem dL_meanDark_23 : decode cL_meanDark 23 = .ok (.ireturn, 1) := by decide +kernel
set_option maxRecDepth 20000 in
theorem ggL_burden_X6_burden : GoodIn wsL_burden wsX6_burden := goodIn_ca (goodIn_ca (goodIn_r _ [7, 8, 9, 10, 11, 6, 12, 13, 14, 15, 16, 17, 18, 19, 20, 21, 22, 23, 24, 25, 26, 27, 28, 29, 30, 31, 32, 33, 34, 35, 36, 37, 38, 39, 40, 41, 42, 43, 44, 45, 46, 47, 48, 49, 50, 51, 52, 53, 54, 55, 56, 57, 58, 59, 60, 61, 62, 63, 64, 65, 66, 67, 68, 69, 70, 71, 72, 73, 74, 75, 76, 77, 78, 79, 80, 81, 82, 83, 84, 85, 86, 87, 88, 89, 90, 91, 92, 93, 94, 95, 96, 97, 98, 99, 100, 101, 102, 103, 104, 105, 106, 107, 108, 109, 110, 111, 112, 113, 114, 115, 116, 117, 118, 119, 120, 121, 122, 123, 124, 125, 126, 127, 128, 129, 130, 131, 132, 133, 134, 135, 136, 137, 138, 139, 140, 141, 142, 143, 144, 145, 146, 147, 148, 149, 150, 151, 152, 153, 154, 155, 156, 157, 158, 159, 160, 161, 162, 163, 164, 165, 166, 167, 168, 169, 170, 171, 172] (by decide +kernel) (by decide +kernel)) (goodIn_sub (fun _ h => List.mem_cons_of_mem _ (List.mem_append_left _ (List.mem_append_right _ h))) (by decide +kernel))) (goodIn_sub (fun _ h => List.mem_cons_of_mem _ (List.mem_append_right _ h)) (by decide +kernel))
set_option maxRecDepth 20000 in
theorem gL_burden_X6_burden : GoodIn wsL_burden (wsV RL 77 RX6 yX6_burden wsX6_burden) := goodIn_app (goodIn_of _ (by decide +kernel)) ggL_burden_X6_burden
theorem dL_burden_0 : decode cL_burden 0 = .ok (.aload_n 3, 1) := by decide +kernel
theorem dL_burden_1 : decode cL_burden 1 = .ok (.iconst 0, 1) := by decide +kernel
theorem dL_burden_2 : decode cL_burden 2 = .ok (.aload_n 0, 1) := by decide +kernel
theorem dL_burden_3 : decode cL_burden 3 = .ok (.iload_n 1, 1) := by decide +kernel
theorem dL_burden_4 : decode cL_burden 4 = .ok (.iload_n 2, 1) := by decide +kernel
theorem dL_burden_5 : decode cL_burden 5 = .ok (.invokevirtual 77, 3) := by decide +kernel
theorem dL_burden_8 : decode cL_burden 8 = .ok (.i2l, 1) := by decide +kernel
theorem dL_burden_9 : decode cL_burden 9 = .ok (.lastore, 1) := by decide +kernel
theorem dL_burden_10 : decode cL_burden 10 = .ok (.goto 11, 3) := by decide +kernel
theorem dL_burden_13 : decode cL_burden 13 = .ok (.astore 4, 2) := by decide +kernel
theorem dL_burden_15 : decode cL_burden 15 = .ok (.iconst 1, 1) := by decide +kernel
theorem dL_burden_16 : decode cL_burden 16 = .ok (.ireturn, 1) := by decide +kernel
theorem dL_burden_17 : decode cL_burden 17 = .ok (.astore 4, 2) := by decide +kernel
theorem dL_burden_19 : decode cL_burden 19 = .ok (.iconst 2, 1) := by decide +kernel
theorem dL_burden_20 : decode cL_burden 20 = .ok (.ireturn, 1) := by decide +kernel
theorem dL_burden_21 : decode cL_burden 21 = .ok (.iconst 0, 1) := by decide +kernel
theorem dL_burden_22 : decode cL_burden 22 = .ok (.ireturn, 1) := by decide +kernel
set_option maxRecDepth 20000 in
theorem ggL_bestShift_X6_bestShift : GoodIn wsL_bestShift wsX6_bestShift := goodIn_ca (goodIn_r _ [6, 7, 8, 9, 5, 10, 11, 12, 13, 14, 15, 16, 17, 18, 19, 20, 21, 22, 23, 24, 25, 26, 27, 28, 29, 30, 31, 32, 33, 34, 35, 36, 37, 38, 39, 40, 41, 42, 43, 44, 45, 46, 47, 48, 49, 50, 51, 52, 53, 54, 55, 56, 57, 58, 59, 60, 61, 62, 63, 64, 65, 66, 67, 68, 69, 70, 71, 72, 73, 74, 75, 76, 77, 78, 79, 80, 81, 82, 83, 84, 85, 86, 87, 88, 89, 90, 91, 92, 93, 94, 95, 96, 97, 98, 99, 100, 101, 102, 103, 104, 105, 106, 107, 108, 109, 110, 111, 112, 113, 114, 115, 116, 117, 118, 119, 120, 121, 122, 123, 124, 125, 126, 127, 128, 129, 130, 131, 132, 133, 134, 135, 136, 137, 138, 139, 140, 141, 142, 143, 144, 145, 146, 147, 148, 149, 150, 151, 152, 153, 154, 155, 156, 157, 158, 159, 160, 161, 162, 163, 164, 165, 166, 167, 168, 169, 170, 171] (by decide +kernel) (by decide +kernel)) (goodIn_sub (fun _ h => List.mem_cons_of_mem _ (List.mem_append_right _ h)) (by decide +kernel))
set_option maxRecDepth 20000 in
theorem gL_bestShift_X6_bestShift : GoodIn wsL_bestShift (wsV RL 80 RX6 yX6_bestShift wsX6_bestShift) := goodIn_app (goodIn_of _ (by decide +kernel)) ggL_bestShift_X6_bestShift
theorem dL_bestShift_0 : decode cL_bestShift 0 = .ok (.aload_n 2, 1) := by decide +kernel
theorem dL_bestShift_1 : decode cL_bestShift 1 = .ok (.iconst 0, 1) := by decide +kernel
theorem dL_bestShift_2 : decode cL_bestShift 2 = .ok (.aload_n 0, 1) := by decide +kernel
theorem dL_bestShift_3 : decode cL_bestShift 3 = .ok (.iload_n 1, 1) := by decide +kernel
theorem dL_bestShift_4 : decode cL_bestShift 4 = .ok (.invokevirtual 80, 3) := by decide +kernel
theorem dL_bestShift_7 : decode cL_bestShift 7 = .ok (.i2l, 1) := by decide +kernel
theorem dL_bestShift_8 : decode cL_bestShift 8 = .ok (.lastore, 1) := by decide +kernel
theorem dL_bestShift_9 : decode cL_bestShift 9 = .ok (.goto 6, 3) := by decide +kernel
theorem dL_bestShift_12 : decode cL_bestShift 12 = .ok (.astore_n 3, 1) := by decide +kernel
theorem dL_bestShift_13 : decode cL_bestShift 13 = .ok (.iconst 1, 1) := by decide +kernel
theorem dL_bestShift_14 : decode cL_bestShift 14 = .ok (.ireturn, 1) := by decide +kernel
theorem dL_bestShift_15 : decode cL_bestShift 15 = .ok (.iconst 0, 1) := by decide +kernel
theorem dL_bestShift_16 : decode cL_bestShift 16 = .ok (.ireturn, 1) := by decide +kernel
set_option maxRecDepth 20000 in
theorem ggL_see_X6_see : GoodIn wsL_see wsX6_see := goodIn_ca (goodIn_ca (goodIn_r _ [7, 8, 9, 10, 11, 12, 13, 6, 14, 15, 16, 17, 18, 19, 20, 21, 22, 23, 24, 25, 26, 27, 28, 29, 30, 31, 32, 33, 34, 35, 36, 37, 38, 39, 40, 41, 42, 43, 44, 45, 46, 47, 48, 49, 50, 51, 52, 53, 54, 55, 56, 57, 58, 59, 60, 61, 62, 63, 64, 65, 66, 67, 68, 69, 70, 71, 72, 73, 74, 75, 76, 77, 78, 79, 80, 81, 82, 83, 84, 85, 86, 87, 88, 89, 90, 91, 92, 93, 94, 95, 96, 97, 98, 99, 100, 101, 102, 103, 104, 105, 106] (by decide +kernel) (by decide +kernel)) (goodIn_sub (fun _ h => List.mem_cons_of_mem _ (List.mem_append_left _ (List.mem_append_right _ h))) (by decide +kernel))) (goodIn_sub (fun _ h => List.mem_cons_of_mem _ (List.mem_append_right _ h)) (by decide +kernel))
set_option maxRecDepth 20000 in
theorem gL_see_X6_see : GoodIn wsL_see (wsV RL 83 RX6 yX6_see wsX6_see) := goodIn_app (goodIn_of _ (by decide +kernel)) ggL_see_X6_see
theorem dL_see_0 : decode cL_see 0 = .ok (.aload 4, 2) := by decide +kernel
theorem dL_see_2 : decode cL_see 2 = .ok (.iconst 0, 1) := by decide +kernel
theorem dL_see_3 : decode cL_see 3 = .ok (.aload_n 0, 1) := by decide +kernel
theorem dL_see_4 : decode cL_see 4 = .ok (.iload_n 1, 1) := by decide +kernel
theorem dL_see_5 : decode cL_see 5 = .ok (.iload_n 2, 1) := by decide +kernel
theorem dL_see_6 : decode cL_see 6 = .ok (.iload_n 3, 1) := by decide +kernel
theorem dL_see_7 : decode cL_see 7 = .ok (.invokevirtual 83, 3) := by decide +kernel
theorem dL_see_10 : decode cL_see 10 = .ok (.i2l, 1) := by decide +kernel
theorem dL_see_11 : decode cL_see 11 = .ok (.lastore, 1) := by decide +kernel
theorem dL_see_12 : decode cL_see 12 = .ok (.goto 11, 3) := by decide +kernel
theorem dL_see_15 : decode cL_see 15 = .ok (.astore 5, 2) := by decide +kernel
theorem dL_see_17 : decode cL_see 17 = .ok (.iconst 1, 1) := by decide +kernel
theorem dL_see_18 : decode cL_see 18 = .ok (.ireturn, 1) := by decide +kernel
theorem dL_see_19 : decode cL_see 19 = .ok (.astore 5, 2) := by decide +kernel
theorem dL_see_21 : decode cL_see 21 = .ok (.iconst 2, 1) := by decide +kernel
theorem dL_see_22 : decode cL_see 22 = .ok (.ireturn, 1) := by decide +kernel
theorem dL_see_23 : decode cL_see 23 = .ok (.iconst 0, 1) := by decide +kernel
theorem dL_see_24 : decode cL_see 24 = .ok (.ireturn, 1) := by decide +kernel
set_option maxRecDepth 20000 in
theorem ggL_forget_X6_forget : GoodIn wsL_forget wsX6_forget := goodIn_ca (goodIn_r _ [6, 7, 8, 9, 10, 11, 12, 5, 13, 14, 15, 16, 17, 18, 19, 20, 21, 22, 23, 24, 25, 26, 27, 28, 29, 30, 31, 32, 33, 34, 35, 36, 37, 38, 39, 40, 41, 42, 43, 44, 45, 46, 47, 48, 49, 50, 51, 52, 53, 54, 55, 56, 57, 58, 59, 60, 61, 62, 63, 64, 65, 66, 67, 68, 69, 70, 71, 72, 73, 74, 75, 76, 77, 78, 79, 80, 81, 82, 83, 84, 85, 86, 87, 88, 89, 90, 91] (by decide +kernel) (by decide +kernel)) (goodIn_sub (fun _ h => List.mem_cons_of_mem _ (List.mem_append_right _ h)) (by decide +kernel))
set_option maxRecDepth 20000 in
theorem gL_forget_X6_forget : GoodIn wsL_forget (wsV RL 86 RX6 yX6_forget wsX6_forget) := goodIn_app (goodIn_of _ (by decide +kernel)) ggL_forget_X6_forget
theorem dL_forget_0 : decode cL_forget 0 = .ok (.aload_n 2, 1) := by decide +kernel
theorem dL_forget_1 : decode cL_forget 1 = .ok (.iconst 0, 1) := by decide +kernel
theorem dL_forget_2 : decode cL_forget 2 = .ok (.aload_n 0, 1) := by decide +kernel
theorem dL_forget_3 : decode cL_forget 3 = .ok (.iload_n 1, 1) := by decide +kernel
theorem dL_forget_4 : decode cL_forget 4 = .ok (.invokevirtual 86, 3) := by decide +kernel
theorem dL_forget_7 : decode cL_forget 7 = .ok (.i2l, 1) := by decide +kernel
theorem dL_forget_8 : decode cL_forget 8 = .ok (.lastore, 1) := by decide +kernel
theorem dL_forget_9 : decode cL_forget 9 = .ok (.goto 6, 3) := by decide +kernel
theorem dL_forget_12 : decode cL_forget 12 = .ok (.astore_n 3, 1) := by decide +kernel
theorem dL_forget_13 : decode cL_forget 13 = .ok (.iconst 1, 1) := by decide +kernel
theorem dL_forget_14 : decode cL_forget 14 = .ok (.ireturn, 1) := by decide +kernel
theorem dL_forget_15 : decode cL_forget 15 = .ok (.iconst 0, 1) := by decide +kernel
theorem dL_forget_16 : decode cL_forget 16 = .ok (.ireturn, 1) := by decide +kernel
set_option maxRecDepth 20000 in
theorem ggL_setMoon_X6_setMoon : GoodIn wsL_setMoon wsX6_setMoon := goodIn_ca (goodIn_ca (goodIn_r _ [7, 8, 9, 10, 11, 12, 6, 13, 14, 15, 16, 17, 18, 19, 20, 21, 22, 23, 24, 25, 26, 27, 28, 29, 30, 31, 32, 33, 34, 35, 36, 37, 38, 39, 40, 41, 42, 43, 44, 45, 46, 47, 48, 49, 50, 51, 52, 53, 54, 55, 56, 57, 58, 59, 60, 61, 62, 63, 64, 65, 66, 67, 68, 69, 70, 71, 72, 73, 74, 75, 76, 77, 78, 79, 80, 81, 82, 83, 84, 85, 86, 87, 88, 89, 90, 91, 92, 93, 94, 95, 96, 97, 98, 99, 100, 101, 102, 103, 104, 105, 106] (by decide +kernel) (by decide +kernel)) (goodIn_sub (fun _ h => List.mem_cons_of_mem _ (List.mem_append_left _ (List.mem_append_right _ h))) (by decide +kernel))) (goodIn_sub (fun _ h => List.mem_cons_of_mem _ (List.mem_append_right _ h)) (by decide +kernel))
set_option maxRecDepth 20000 in
theorem gL_setMoon_X6_setMoon : GoodIn wsL_setMoon (wsV RL 89 RX6 yX6_setMoon wsX6_setMoon) := goodIn_app (goodIn_of _ (by decide +kernel)) ggL_setMoon_X6_setMoon
theorem dL_setMoon_0 : decode cL_setMoon 0 = .ok (.aload 4, 2) := by decide +kernel
theorem dL_setMoon_2 : decode cL_setMoon 2 = .ok (.iconst 0, 1) := by decide +kernel
theorem dL_setMoon_3 : decode cL_setMoon 3 = .ok (.aload_n 0, 1) := by decide +kernel
theorem dL_setMoon_4 : decode cL_setMoon 4 = .ok (.iload_n 1, 1) := by decide +kernel
theorem dL_setMoon_5 : decode cL_setMoon 5 = .ok (.iload_n 2, 1) := by decide +kernel
theorem dL_setMoon_6 : decode cL_setMoon 6 = .ok (.iload_n 3, 1) := by decide +kernel
theorem dL_setMoon_7 : decode cL_setMoon 7 = .ok (.invokevirtual 89, 3) := by decide +kernel
theorem dL_setMoon_10 : decode cL_setMoon 10 = .ok (.i2l, 1) := by decide +kernel
theorem dL_setMoon_11 : decode cL_setMoon 11 = .ok (.lastore, 1) := by decide +kernel
theorem dL_setMoon_12 : decode cL_setMoon 12 = .ok (.goto 11, 3) := by decide +kernel
theorem dL_setMoon_15 : decode cL_setMoon 15 = .ok (.astore 5, 2) := by decide +kernel
theorem dL_setMoon_17 : decode cL_setMoon 17 = .ok (.iconst 1, 1) := by decide +kernel
theorem dL_setMoon_18 : decode cL_setMoon 18 = .ok (.ireturn, 1) := by decide +kernel
theorem dL_setMoon_19 : decode cL_setMoon 19 = .ok (.astore 5, 2) := by decide +kernel
theorem dL_setMoon_21 : decode cL_setMoon 21 = .ok (.iconst 2, 1) := by decide +kernel
theorem dL_setMoon_22 : decode cL_setMoon 22 = .ok (.ireturn, 1) := by decide +kernel
theorem dL_setMoon_23 : decode cL_setMoon 23 = .ok (.iconst 0, 1) := by decide +kernel
theorem dL_setMoon_24 : decode cL_setMoon 24 = .ok (.ireturn, 1) := by decide +kernel
set_option maxRecDepth 20000 in
theorem ggL_setLight_X6_setLight : GoodIn wsL_setLight wsX6_setLight := goodIn_ca (goodIn_r _ [6, 7, 8, 9, 10, 11, 12, 5, 13, 14, 15, 16, 17, 18, 19, 20, 21, 22, 23, 24, 25, 26, 27, 28, 29, 30, 31, 32, 33, 34, 35, 36, 37, 38, 39, 40, 41, 42, 43, 44, 45, 46, 47, 48, 49, 50, 51, 52, 53, 54, 55, 56, 57, 58, 59, 60, 61, 62, 63, 64, 65, 66, 67, 68, 69, 70, 71, 72, 73, 74, 75, 76, 77, 78, 79] (by decide +kernel) (by decide +kernel)) (goodIn_sub (fun _ h => List.mem_cons_of_mem _ (List.mem_append_right _ h)) (by decide +kernel))
set_option maxRecDepth 20000 in
theorem gL_setLight_X6_setLight : GoodIn wsL_setLight (wsV RL 92 RX6 yX6_setLight wsX6_setLight) := goodIn_app (goodIn_of _ (by decide +kernel)) ggL_setLight_X6_setLight
theorem dL_setLight_0 : decode cL_setLight 0 = .ok (.aload_n 3, 1) := by decide +kernel
theorem dL_setLight_1 : decode cL_setLight 1 = .ok (.iconst 0, 1) := by decide +kernel
theorem dL_setLight_2 : decode cL_setLight 2 = .ok (.aload_n 0, 1) := by decide +kernel
theorem dL_setLight_3 : decode cL_setLight 3 = .ok (.iload_n 1, 1) := by decide +kernel
theorem dL_setLight_4 : decode cL_setLight 4 = .ok (.iload_n 2, 1) := by decide +kernel
theorem dL_setLight_5 : decode cL_setLight 5 = .ok (.invokevirtual 92, 3) := by decide +kernel
theorem dL_setLight_8 : decode cL_setLight 8 = .ok (.i2l, 1) := by decide +kernel
theorem dL_setLight_9 : decode cL_setLight 9 = .ok (.lastore, 1) := by decide +kernel
theorem dL_setLight_10 : decode cL_setLight 10 = .ok (.goto 7, 3) := by decide +kernel
theorem dL_setLight_13 : decode cL_setLight 13 = .ok (.astore 4, 2) := by decide +kernel
theorem dL_setLight_15 : decode cL_setLight 15 = .ok (.iconst 1, 1) := by decide +kernel
theorem dL_setLight_16 : decode cL_setLight 16 = .ok (.ireturn, 1) := by decide +kernel
theorem dL_setLight_17 : decode cL_setLight 17 = .ok (.iconst 0, 1) := by decide +kernel
theorem dL_setLight_18 : decode cL_setLight 18 = .ok (.ireturn, 1) := by decide +kernel
set_option maxRecDepth 20000 in
theorem ggL_shift_X6_shift : GoodIn wsL_shift wsX6_shift := goodIn_ca (goodIn_r _ [6, 7, 8, 9, 10, 5, 11, 12, 13, 14, 15, 16, 17, 18, 19, 20, 21, 22, 23, 24, 25, 26, 27, 28, 29, 30, 31, 32, 33, 34, 35, 36, 37, 38, 39, 40, 41, 42, 43, 44, 45, 46, 47, 48, 49, 50, 51, 52, 53, 54, 55, 56, 57, 58, 59, 60, 61, 62, 63, 64, 65, 66, 67, 68, 69, 70, 71, 72, 73, 74, 75, 76, 77, 78, 79, 80, 81, 82, 83, 84, 85, 86, 87, 88, 89, 90, 91, 92, 93, 94, 95, 96, 97, 98, 99, 100, 101, 102, 103, 104, 105, 106, 107, 108, 109, 110, 111, 112, 113, 114, 115, 116, 117, 118, 119, 120, 121, 122, 123, 124, 125, 126, 127, 128, 129, 130, 131, 132, 133, 134, 135, 136, 137, 138, 139, 140, 141, 142, 143, 144, 145, 146, 147, 148, 149, 150, 151, 152, 153, 154, 155, 156, 157, 158, 159, 160, 161, 162, 163, 164, 165, 166, 167, 168, 169, 170, 171, 172, 173, 174, 175, 176, 177, 178, 179, 180, 181, 182, 183, 184, 185, 186, 187, 188, 189, 190, 191, 192, 193, 194, 195, 196, 197, 198, 199, 200, 201] (by decide +kernel) (by decide +kernel)) (goodIn_sub (fun _ h => List.mem_cons_of_mem _ (List.mem_append_right _ h)) (by decide +kernel))
set_option maxRecDepth 20000 in
theorem gL_shift_X6_shift : GoodIn wsL_shift (wsV RL 95 RX6 yX6_shift wsX6_shift) := goodIn_app (goodIn_of _ (by decide +kernel)) ggL_shift_X6_shift
theorem dL_shift_0 : decode cL_shift 0 = .ok (.aload_n 2, 1) := by decide +kernel
theorem dL_shift_1 : decode cL_shift 1 = .ok (.iconst 0, 1) := by decide +kernel
theorem dL_shift_2 : decode cL_shift 2 = .ok (.aload_n 0, 1) := by decide +kernel
theorem dL_shift_3 : decode cL_shift 3 = .ok (.iload_n 1, 1) := by decide +kernel
theorem dL_shift_4 : decode cL_shift 4 = .ok (.invokevirtual 95, 3) := by decide +kernel
theorem dL_shift_7 : decode cL_shift 7 = .ok (.i2l, 1) := by decide +kernel
theorem dL_shift_8 : decode cL_shift 8 = .ok (.lastore, 1) := by decide +kernel
theorem dL_shift_9 : decode cL_shift 9 = .ok (.goto 6, 3) := by decide +kernel
theorem dL_shift_12 : decode cL_shift 12 = .ok (.astore_n 3, 1) := by decide +kernel
theorem dL_shift_13 : decode cL_shift 13 = .ok (.iconst 1, 1) := by decide +kernel
theorem dL_shift_14 : decode cL_shift 14 = .ok (.ireturn, 1) := by decide +kernel
theorem dL_shift_15 : decode cL_shift 15 = .ok (.iconst 0, 1) := by decide +kernel
theorem dL_shift_16 : decode cL_shift 16 = .ok (.ireturn, 1) := by decide +kernel
set_option maxRecDepth 20000 in
theorem ggL_undo_X6_undo : GoodIn wsL_undo wsX6_undo := goodIn_ca (goodIn_r _ [6, 7, 8, 9, 10, 11, 12, 13, 14, 15, 16, 17, 18, 19, 20, 5, 21, 22, 23, 24, 25, 26, 27, 28, 29, 30, 31, 32, 33, 34, 35, 36, 37, 38, 39, 40, 41, 42, 43, 44, 45, 46, 47, 48, 49, 50, 51, 52, 53, 54, 55, 56, 57] (by decide +kernel) (by decide +kernel)) (goodIn_sub (fun _ h => List.mem_cons_of_mem _ (List.mem_append_right _ h)) (by decide +kernel))
set_option maxRecDepth 20000 in
theorem gL_undo_X6_undo : GoodIn wsL_undo (wsV RL 98 RX6 yX6_undo wsX6_undo) := goodIn_app (goodIn_of _ (by decide +kernel)) ggL_undo_X6_undo
theorem dL_undo_0 : decode cL_undo 0 = .ok (.aload_n 1, 1) := by decide +kernel
theorem dL_undo_1 : decode cL_undo 1 = .ok (.iconst 0, 1) := by decide +kernel
theorem dL_undo_2 : decode cL_undo 2 = .ok (.aload_n 0, 1) := by decide +kernel
theorem dL_undo_3 : decode cL_undo 3 = .ok (.invokevirtual 98, 3) := by decide +kernel
theorem dL_undo_6 : decode cL_undo 6 = .ok (.i2l, 1) := by decide +kernel
theorem dL_undo_7 : decode cL_undo 7 = .ok (.lastore, 1) := by decide +kernel
theorem dL_undo_8 : decode cL_undo 8 = .ok (.goto 6, 3) := by decide +kernel
theorem dL_undo_11 : decode cL_undo 11 = .ok (.astore_n 2, 1) := by decide +kernel
theorem dL_undo_12 : decode cL_undo 12 = .ok (.iconst 1, 1) := by decide +kernel
theorem dL_undo_13 : decode cL_undo 13 = .ok (.ireturn, 1) := by decide +kernel
theorem dL_undo_14 : decode cL_undo 14 = .ok (.iconst 0, 1) := by decide +kernel
theorem dL_undo_15 : decode cL_undo 15 = .ok (.ireturn, 1) := by decide +kernel
set_option maxRecDepth 20000 in
theorem ggL_save_X6_save : GoodIn wsL_save wsX6_save := goodIn_ca (goodIn_r _ [6, 7, 8, 9, 10, 5, 11, 12, 13, 14, 15, 16, 17, 18, 19, 20, 21, 22, 23, 24, 25, 26, 27, 28, 29, 30, 31, 32, 33, 34, 35, 36, 37, 38, 39, 40, 41, 42, 43, 44, 45, 46, 47, 48, 49, 50, 51, 52, 53, 54, 55, 56, 57, 58] (by decide +kernel) (by decide +kernel)) (goodIn_sub (fun _ h => List.mem_cons_of_mem _ (List.mem_append_right _ h)) (by decide +kernel))
set_option maxRecDepth 20000 in
theorem gL_save_X6_save : GoodIn wsL_save (wsV RL 102 RX6 yX6_save wsX6_save) := goodIn_app (goodIn_of _ (by decide +kernel)) ggL_save_X6_save
theorem dL_save_0 : decode cL_save 0 = .ok (.aload_n 0, 1) := by decide +kernel
theorem dL_save_1 : decode cL_save 1 = .ok (.iload_n 1, 1) := by decide +kernel
theorem dL_save_2 : decode cL_save 2 = .ok (.invokevirtual 102, 3) := by decide +kernel
theorem dL_save_5 : decode cL_save 5 = .ok (.goto 6, 3) := by decide +kernel
theorem dL_save_8 : decode cL_save 8 = .ok (.astore_n 2, 1) := by decide +kernel
theorem dL_save_9 : decode cL_save 9 = .ok (.iconst 1, 1) := by decide +kernel
theorem dL_save_10 : decode cL_save 10 = .ok (.ireturn, 1) := by decide +kernel
theorem dL_save_11 : decode cL_save 11 = .ok (.iconst 0, 1) := by decide +kernel
theorem dL_save_12 : decode cL_save 12 = .ok (.ireturn, 1) := by decide +kernel
set_option maxRecDepth 20000 in
theorem ggL_restore_X6_restore : GoodIn wsL_restore wsX6_restore := goodIn_ca (goodIn_ca (goodIn_r _ [7, 8, 9, 10, 11, 12, 13, 14, 15, 6, 16, 17, 18, 19, 20, 21, 22, 23, 24, 25, 26, 27, 28, 29, 30, 31, 32, 33, 34, 35, 36, 37, 38, 39, 40, 41, 42, 43, 44, 45, 46, 47, 48, 49, 50, 51, 52, 53, 54, 55, 56, 57, 58, 59, 60, 61, 62, 63, 64, 65, 66, 67, 68, 69, 70, 71, 72, 73, 74, 75, 76, 77, 78, 79, 80, 81, 82, 83, 84, 85] (by decide +kernel) (by decide +kernel)) (goodIn_sub (fun _ h => List.mem_cons_of_mem _ (List.mem_append_left _ (List.mem_append_right _ h))) (by decide +kernel))) (goodIn_sub (fun _ h => List.mem_cons_of_mem _ (List.mem_append_right _ h)) (by decide +kernel))
set_option maxRecDepth 20000 in
theorem gL_restore_X6_restore : GoodIn wsL_restore (wsV RL 106 RX6 yX6_restore wsX6_restore) := goodIn_app (goodIn_of _ (by decide +kernel)) ggL_restore_X6_restore
theorem dL_restore_0 : decode cL_restore 0 = .ok (.aload_n 2, 1) := by decide +kernel
theorem dL_restore_1 : decode cL_restore 1 = .ok (.iconst 0, 1) := by decide +kernel
theorem dL_restore_2 : decode cL_restore 2 = .ok (.aload_n 0, 1) := by decide +kernel
theorem dL_restore_3 : decode cL_restore 3 = .ok (.iload_n 1, 1) := by decide +kernel
theorem dL_restore_4 : decode cL_restore 4 = .ok (.invokevirtual 106, 3) := by decide +kernel
theorem dL_restore_7 : decode cL_restore 7 = .ok (.i2l, 1) := by decide +kernel
theorem dL_restore_8 : decode cL_restore 8 = .ok (.lastore, 1) := by decide +kernel
theorem dL_restore_9 : decode cL_restore 9 = .ok (.goto 9, 3) := by decide +kernel
theorem dL_restore_12 : decode cL_restore 12 = .ok (.astore_n 3, 1) := by decide +kernel
theorem dL_restore_13 : decode cL_restore 13 = .ok (.iconst 1, 1) := by decide +kernel
theorem dL_restore_14 : decode cL_restore 14 = .ok (.ireturn, 1) := by decide +kernel
theorem dL_restore_15 : decode cL_restore 15 = .ok (.astore_n 3, 1) := by decide +kernel
theorem dL_restore_16 : decode cL_restore 16 = .ok (.iconst 2, 1) := by decide +kernel
theorem dL_restore_17 : decode cL_restore 17 = .ok (.ireturn, 1) := by decide +kernel
theorem dL_restore_18 : decode cL_restore 18 = .ok (.iconst 0, 1) := by decide +kernel
theorem dL_restore_19 : decode cL_restore 19 = .ok (.ireturn, 1) := by decide +kernel
set_option maxRecDepth 20000 in
theorem ggL_writeTable_X6_writeTable : GoodIn wsL_writeTable wsX6_writeTable := goodIn_ca (goodIn_r _ [6, 7, 8, 9, 10, 11, 12, 13, 14, 15, 5, 16, 17, 18, 19, 20, 21, 22, 23, 24, 25, 26, 27, 28, 29, 30, 31, 32, 33, 34, 35, 36, 37, 38, 39, 40, 41, 42, 43, 44, 45, 46, 47, 48, 49, 50, 51, 52, 53, 54, 55, 56, 57, 58, 59, 60, 61, 62, 63, 64, 65, 66, 67, 68, 69, 70, 71, 72, 73, 74, 75, 76, 77, 78, 79, 80, 81, 82, 83, 84, 85, 86, 87, 88, 89, 90, 91, 92, 93, 94, 95, 96, 97, 98, 99, 100, 101, 102, 103, 104, 105, 106, 107, 108, 109, 110, 111, 112, 113, 114, 115, 116, 117, 118, 119, 120, 121, 122, 123, 124, 125, 126, 127, 128, 129, 130, 131, 132, 133, 134, 135, 136, 137, 138, 139, 140, 141, 142, 143, 144, 145, 146, 147, 148, 149, 150, 151, 152, 153, 154, 155, 156, 157, 158, 159, 160, 161, 162, 163, 164, 165, 166, 167, 168, 169, 170, 171, 172, 173, 174, 175, 176, 177, 178, 179, 180, 181, 182, 183, 184, 185, 186, 187, 188, 189, 190, 191, 192, 193, 194, 195, 196, 197, 198, 199, 200, 201, 202, 203, 204, 205, 206, 207, 208, 209, 210, 211, 212, 213, 214, 215, 216, 217, 218, 219, 220, 221, 222, 223, 224, 225, 226, 227, 228, 229, 230, 231, 232, 233, 234, 235, 236, 237, 238, 239, 240, 241, 242, 243, 244, 245, 246, 247, 248] (by decide +kernel) (by decide +kernel)) (goodIn_sub (fun _ h => List.mem_cons_of_mem _ (List.mem_append_right _ h)) (by decide +kernel))
set_option maxRecDepth 20000 in
theorem gL_writeTable_X6_writeTable : GoodIn wsL_writeTable (wsV RL 109 RX6 yX6_writeTable wsX6_writeTable) := goodIn_app (goodIn_of _ (by decide +kernel)) ggL_writeTable_X6_writeTable
theorem dL_writeTable_0 : decode cL_writeTable 0 = .ok (.aload_n 3, 1) := by decide +kernel
theorem dL_writeTable_1 : decode cL_writeTable 1 = .ok (.iconst 0, 1) := by decide +kernel
theorem dL_writeTable_2 : decode cL_writeTable 2 = .ok (.aload_n 0, 1) := by decide +kernel
theorem dL_writeTable_3 : decode cL_writeTable 3 = .ok (.iload_n 1, 1) := by decide +kernel
theorem dL_writeTable_4 : decode cL_writeTable 4 = .ok (.iload_n 2, 1) := by decide +kernel
theorem dL_writeTable_5 : decode cL_writeTable 5 = .ok (.invokevirtual 109, 3) := by decide +kernel
theorem dL_writeTable_8 : decode cL_writeTable 8 = .ok (.i2l, 1) := by decide +kernel
theorem dL_writeTable_9 : decode cL_writeTable 9 = .ok (.lastore, 1) := by decide +kernel
theorem dL_writeTable_10 : decode cL_writeTable 10 = .ok (.goto 7, 3) := by decide +kernel
theorem dL_writeTable_13 : decode cL_writeTable 13 = .ok (.astore 4, 2) := by decide +kernel
theorem dL_writeTable_15 : decode cL_writeTable 15 = .ok (.iconst 1, 1) := by decide +kernel
theorem dL_writeTable_16 : decode cL_writeTable 16 = .ok (.ireturn, 1) := by decide +kernel
theorem dL_writeTable_17 : decode cL_writeTable 17 = .ok (.iconst 0, 1) := by decide +kernel
theorem dL_writeTable_18 : decode cL_writeTable 18 = .ok (.ireturn, 1) := by decide +kernel
set_option maxRecDepth 20000 in
theorem ggL_writtenByte_X6_writtenByte : GoodIn wsL_writtenByte wsX6_writtenByte := goodIn_ca (goodIn_r _ [6, 7, 8, 9, 10, 11, 12, 13, 14, 15, 16, 17, 18, 19, 20, 21, 22, 23, 24, 25, 26, 27, 28] (by decide +kernel) (by decide +kernel)) (goodIn_sub (fun _ h => List.mem_cons_of_mem _ (List.mem_append_right _ h)) (by decide +kernel))
set_option maxRecDepth 20000 in
theorem gL_writtenByte_X6_writtenByte : GoodIn wsL_writtenByte (wsV RL 112 RX6 yX6_writtenByte wsX6_writtenByte) := goodIn_app (goodIn_of _ (by decide +kernel)) ggL_writtenByte_X6_writtenByte
theorem dL_writtenByte_0 : decode cL_writtenByte 0 = .ok (.aload_n 2, 1) := by decide +kernel
theorem dL_writtenByte_1 : decode cL_writtenByte 1 = .ok (.iconst 0, 1) := by decide +kernel
theorem dL_writtenByte_2 : decode cL_writtenByte 2 = .ok (.aload_n 0, 1) := by decide +kernel
theorem dL_writtenByte_3 : decode cL_writtenByte 3 = .ok (.iload_n 1, 1) := by decide +kernel
theorem dL_writtenByte_4 : decode cL_writtenByte 4 = .ok (.invokevirtual 112, 3) := by decide +kernel
theorem dL_writtenByte_7 : decode cL_writtenByte 7 = .ok (.i2l, 1) := by decide +kernel
theorem dL_writtenByte_8 : decode cL_writtenByte 8 = .ok (.lastore, 1) := by decide +kernel
theorem dL_writtenByte_9 : decode cL_writtenByte 9 = .ok (.goto 6, 3) := by decide +kernel
theorem dL_writtenByte_12 : decode cL_writtenByte 12 = .ok (.astore_n 3, 1) := by decide +kernel
theorem dL_writtenByte_13 : decode cL_writtenByte 13 = .ok (.iconst 1, 1) := by decide +kernel
theorem dL_writtenByte_14 : decode cL_writtenByte 14 = .ok (.ireturn, 1) := by decide +kernel
theorem dL_writtenByte_15 : decode cL_writtenByte 15 = .ok (.iconst 0, 1) := by decide +kernel
theorem dL_writtenByte_16 : decode cL_writtenByte 16 = .ok (.ireturn, 1) := by decide +kernel
set_option maxRecDepth 20000 in
theorem ggL_law_X6_init : GoodIn wsL_law wsX6_init := goodIn_r _ [10, 11, 12, 13, 14, 15, 16, 17, 18, 19, 20, 21, 22, 23, 24, 25, 26, 27, 28, 29, 30, 31, 32, 33, 34, 35, 36, 37, 38, 39, 40, 41, 42, 43, 44, 6, 45, 46, 47, 48, 49, 50, 51, 52, 53, 54, 55, 56, 57, 58, 59, 60, 61, 62, 63, 64, 65, 66, 67, 68, 69, 70, 71, 1255, 1256, 1257, 1258, 1259, 1260, 1261, 1262, 1217, 1218, 1219, 1220, 1221, 1222, 1223, 1224, 1225, 1263, 1264, 1265, 1266, 1267, 1268, 1269, 1270, 1271, 1272, 1273, 1274, 1275, 1276, 1277, 1278, 1279, 1280, 1281, 1282, 1283, 1284, 1285, 1286, 1287, 1288, 1289, 1290, 1291, 1292, 1293, 1294, 1295, 1296, 1297, 1298, 1299, 1300] (by decide +kernel) (by decide +kernel)
set_option maxRecDepth 20000 in
theorem gL_law_X6_init : GoodIn wsL_law (wsX6_init) := ggL_law_X6_init
set_option maxRecDepth 20000 in
theorem ggL_law_X7_init : GoodIn wsL_law wsX7_init := goodIn_r _ [74, 75, 12, 13, 46, 76, 77, 78, 79, 80, 81, 82, 83, 84, 85, 86, 87, 88, 5, 89, 1226, 1227, 1228, 1229, 1230, 1231, 1232, 1233, 1234, 1235, 1236, 1237, 1238, 1239, 1240, 1241, 1242, 1243, 1244, 1245, 1246, 1247, 1248, 1249, 1250, 1251, 1252, 1253, 1254] (by decide +kernel) (by decide +kernel)
set_option maxRecDepth 20000 in
theorem gL_law_X7_init : GoodIn wsL_law (wsX7_init) := ggL_law_X7_init
set_option maxRecDepth 20000 in
theorem ggL_law_L_append : GoodIn wsL_law wsL_append := goodIn_ca (goodIn_r _ [93, 94, 95, 96, 97, 2, 98, 99, 100, 27, 101, 102, 103, 104, 105, 106, 107, 26, 108, 109, 59, 1217, 1218, 1219, 1220, 1221, 1222, 1223, 1224, 1225, 1266, 1267, 1268, 1269, 1270, 1271, 1272, 1273] (by decide +kernel) (by decide +kernel)) (goodIn_sub (fun _ h => List.mem_append_left _ (List.mem_append_left _ (List.mem_append_right _ h))) (by decide +kernel))
set_option maxRecDepth 20000 in
theorem gL_law_L_append : GoodIn wsL_law (va_wsS RL 119 yL_append wsL_append) := goodIn_app (goodIn_of _ (by decide +kernel)) ggL_law_L_append
set_option maxRecDepth 20000 in
theorem ggL_law_X7_append : GoodIn wsL_law wsX7_append := goodIn_r _ [113, 114, 115, 82, 116, 117, 5, 118, 1226, 1227, 1228, 1229, 1230, 1231, 1232, 1233, 1234, 1235, 1236, 1237, 1238, 1239, 1240, 1241, 1242, 1243, 1244, 1245, 1246, 1247, 1248, 1249, 1250, 1251, 1252, 1253, 1254] (by decide +kernel) (by decide +kernel)
set_option maxRecDepth 20000 in
theorem gL_law_X7_append : GoodIn wsL_law (wsV RL 124 RX7 yX7_append wsX7_append) := goodIn_app (goodIn_of _ (by decide +kernel)) ggL_law_X7_append
set_option maxRecDepth 20000 in
theorem ggL_law_X7_thrown : GoodIn wsL_law wsX7_thrown := goodIn_r _ [122, 115, 1226, 1227, 1228, 1229, 1230, 1231, 1232, 1233, 1234, 1235, 1236, 1237, 1238, 1239, 1240, 1241, 1242, 1243, 1244, 1245, 1246, 1247, 1248, 1249, 1250, 1251, 1252, 1253, 1254] (by decide +kernel) (by decide +kernel)
set_option maxRecDepth 20000 in
theorem gL_law_X7_thrown : GoodIn wsL_law (wsV RL 125 RX7 yX7_thrown wsX7_thrown) := goodIn_app (goodIn_of _ (by decide +kernel)) ggL_law_X7_thrown
set_option maxRecDepth 20000 in
theorem ggL_law_X6_load : GoodIn wsL_law wsX6_load := goodIn_r _ [126, 27, 18, 17, 127, 128, 129, 130, 26, 131, 109, 132, 133, 134, 135, 136, 137, 57, 138, 139, 140, 16, 141, 142, 143, 144, 145, 146, 147, 148, 149, 150, 151, 152, 153, 154, 155, 156, 157, 158, 159, 160, 161, 162, 163, 164, 165, 166, 167, 59, 168, 169, 170, 171, 172, 173, 174, 175, 176, 177, 178, 179, 180, 181, 182, 183, 184, 185, 186, 187, 188, 189, 190, 191, 192, 193, 194, 195, 196, 197, 198, 199, 200, 201, 202, 203, 204, 205, 206, 207, 208, 209, 210, 211, 212, 213, 214, 215, 216, 217, 218, 219, 220, 221, 222, 223, 224, 225, 226, 227, 228, 229, 230, 231, 232, 233, 234, 235, 236, 237, 238, 239, 240, 241, 242, 243, 244, 245, 246, 247, 248, 249, 250, 251, 252, 253, 254, 255, 256, 257, 258, 259, 260, 261, 262, 263, 264, 265, 266, 267, 268, 269, 270, 271, 272, 273, 274, 275, 276, 277, 45, 278, 279, 280, 281, 282, 283, 284, 285, 286, 2, 287, 288, 289, 290, 291, 292, 293, 294, 295, 47, 296, 297, 298, 299, 44, 300, 301, 302, 303, 304, 305, 306, 307, 308, 309, 310, 311, 312, 313, 314, 315, 316, 317, 318, 319, 320, 321, 322, 323, 324, 325, 326, 327, 328, 329, 330, 331, 48, 332, 333, 334, 335, 336, 337, 338, 339, 340, 341, 342, 343, 22, 344, 345, 346, 21, 347, 53, 348, 349, 350, 351, 352, 14, 15, 41, 42, 43, 12, 13, 6, 46, 353, 354, 355, 356, 357, 358, 359, 1217, 1218, 1219, 1220, 1221, 1222, 1223, 1224, 1225, 1255, 1256, 1257, 1258, 1259, 1260, 1261, 1262, 1266, 1267, 1268, 1269, 1270, 1271, 1272, 1273, 1263, 1264, 1265] (by decide +kernel) (by decide +kernel)
set_option maxRecDepth 20000 in
theorem gL_law_X6_load : GoodIn wsL_law (wsV RL 128 RX6 yX6_load wsX6_load) := goodIn_app (goodIn_of _ (by decide +kernel)) ggL_law_X6_load
set_option maxRecDepth 20000 in
theorem ggL_law_X7_load : GoodIn wsL_law wsX7_load := goodIn_r _ [363, 76, 364, 365, 366, 367, 5, 368, 115, 369, 77, 370, 371, 372, 373, 374, 375, 376, 377, 378, 114, 379, 380, 381, 236, 237, 238, 382, 383, 384, 385, 82, 386, 387, 388, 389, 390, 391, 392, 393, 394, 395, 396, 86, 87, 88, 89, 397, 398, 399, 400, 401, 174, 175, 176, 177, 178, 179, 180, 181, 182, 183, 184, 402, 190, 191, 192, 193, 194, 195, 196, 197, 198, 199, 200, 201, 202, 203, 204, 205, 206, 207, 208, 209, 210, 211, 212, 213, 214, 215, 216, 217, 218, 219, 220, 221, 222, 223, 224, 225, 403, 404, 405, 406, 407, 408, 409, 410, 411, 412, 413, 414, 415, 416, 417, 418, 419, 420, 421, 422, 423, 424, 425, 426, 427, 428, 429, 430, 431, 432, 433, 434, 435, 436, 437, 438, 439, 440, 441, 442, 443, 444, 445, 446, 447, 448, 449, 450, 451, 452, 453, 454, 455, 456, 457, 458, 459, 460, 461, 462, 463, 464, 465, 466, 467, 468, 469, 470, 471, 472, 473, 474, 475, 83, 476, 477, 478, 479, 480, 78, 1226, 1227, 1228, 1229, 1230, 1231, 1232, 1233, 1234, 1235, 1236, 1237, 1238, 1239, 1240, 1241, 1242, 1243, 1244, 1245, 1246, 1247, 1248, 1249, 1250, 1251, 1252, 1253, 1254] (by decide +kernel) (by decide +kernel)
set_option maxRecDepth 20000 in
theorem gL_law_X7_load : GoodIn wsL_law (wsV RL 131 RX7 yX7_load wsX7_load) := goodIn_app (goodIn_of _ (by decide +kernel)) ggL_law_X7_load
set_option maxRecDepth 20000 in
theorem ggL_law_X6_read : GoodIn wsL_law wsX6_read := goodIn_r _ [484, 18, 17, 27, 485, 353, 354, 355, 16, 356, 44, 142, 143, 144, 145, 45, 47, 48, 357, 358, 359, 486, 487, 488, 26, 489, 109, 132, 133, 134, 135, 136, 137, 57, 304, 305, 306, 307, 308, 309, 310, 311, 164, 165, 166, 167, 59, 168, 312, 313, 314, 315, 316, 265, 150, 317, 160, 161, 162, 163, 169, 170, 171, 172, 173, 174, 175, 176, 177, 178, 179, 180, 181, 182, 183, 184, 185, 186, 187, 188, 189, 190, 191, 192, 193, 194, 195, 196, 197, 198, 199, 200, 201, 202, 203, 204, 205, 206, 207, 208, 209, 210, 211, 212, 213, 214, 215, 216, 217, 218, 219, 220, 221, 222, 223, 224, 225, 226, 227, 228, 229, 152, 153, 154, 155, 156, 157, 158, 159, 266, 267, 268, 269, 270, 271, 272, 273, 274, 275, 276, 277, 318, 319, 320, 321, 322, 2, 323, 230, 231, 232, 233, 234, 235, 236, 237, 238, 239, 240, 241, 324, 325, 326, 327, 328, 329, 330, 331, 332, 333, 334, 335, 336, 337, 338, 339, 242, 243, 244, 245, 246, 247, 248, 249, 340, 341, 342, 343, 22, 344, 345, 346, 21, 347, 53, 348, 349, 350, 351, 352, 14, 15, 41, 42, 43, 12, 13, 6, 46, 1217, 1218, 1219, 1220, 1221, 1222, 1223, 1224, 1225, 1255, 1256, 1257, 1258, 1259, 1260, 1261, 1262, 1266, 1267, 1268, 1269, 1270, 1271, 1272, 1273, 1263, 1264, 1265] (by decide +kernel) (by decide +kernel)
set_option maxRecDepth 20000 in
theorem gL_law_X6_read : GoodIn wsL_law (wsV RL 132 RX6 yX6_read wsX6_read) := goodIn_app (goodIn_of _ (by decide +kernel)) ggL_law_X6_read
set_option maxRecDepth 20000 in
theorem ggL_law_X7_read : GoodIn wsL_law wsX7_read := goodIn_r _ [493, 76, 364, 365, 366, 367, 5, 368, 115, 369, 77, 370, 371, 372, 373, 374, 375, 376, 377, 378, 114, 379, 380, 381, 236, 237, 238, 382, 383, 384, 385, 82, 386, 387, 388, 389, 390, 391, 392, 393, 394, 395, 396, 397, 398, 399, 400, 401, 174, 175, 176, 177, 178, 179, 180, 181, 182, 183, 184, 402, 190, 191, 192, 193, 194, 195, 196, 197, 198, 199, 200, 201, 202, 203, 204, 205, 206, 207, 208, 209, 210, 211, 212, 213, 214, 215, 216, 217, 218, 219, 220, 221, 222, 223, 224, 225, 455, 456, 457, 458, 459, 407, 408, 409, 410, 411, 403, 404, 405, 406, 428, 429, 430, 431, 432, 433, 434, 435, 436, 437, 438, 439, 460, 461, 462, 463, 464, 465, 466, 467, 468, 469, 470, 471, 420, 421, 422, 423, 416, 417, 418, 419, 472, 473, 474, 475, 83, 476, 477, 478, 479, 480, 78, 1226, 1227, 1228, 1229, 1230, 1231, 1232, 1233, 1234, 1235, 1236, 1237, 1238, 1239, 1240, 1241, 1242, 1243, 1244, 1245, 1246, 1247, 1248, 1249, 1250, 1251, 1252, 1253, 1254] (by decide +kernel) (by decide +kernel)
set_option maxRecDepth 20000 in
theorem gL_law_X7_read : GoodIn wsL_law (wsV RL 135 RX7 yX7_read wsX7_read) := goodIn_app (goodIn_of _ (by decide +kernel)) ggL_law_X7_read
set_option maxRecDepth 20000 in
theorem ggL_law_X6_errorPosition : GoodIn wsL_law wsX6_errorPosition := goodIn_r _ [497, 27, 498, 1217, 1218, 1219, 1220, 1221, 1222, 1223, 1224, 1225, 1266, 1267, 1268, 1269, 1270, 1271, 1272, 1273] (by decide +kernel) (by decide +kernel)
set_option maxRecDepth 20000 in
theorem gL_law_X6_errorPosition : GoodIn wsL_law (wsV RL 136 RX6 yX6_errorPosition wsX6_errorPosition) := goodIn_app (goodIn_of _ (by decide +kernel)) ggL_law_X6_errorPosition
set_option maxRecDepth 20000 in
theorem ggL_law_X7_errorPosition : GoodIn wsL_law wsX7_errorPosition := goodIn_r _ [502, 115, 83, 1226, 1227, 1228, 1229, 1230, 1231, 1232, 1233, 1234, 1235, 1236, 1237, 1238, 1239, 1240, 1241, 1242, 1243, 1244, 1245, 1246, 1247, 1248, 1249, 1250, 1251, 1252, 1253, 1254] (by decide +kernel) (by decide +kernel)
set_option maxRecDepth 20000 in
theorem gL_law_X7_errorPosition : GoodIn wsL_law (wsV RL 139 RX7 yX7_errorPosition wsX7_errorPosition) := goodIn_app (goodIn_of _ (by decide +kernel)) ggL_law_X7_errorPosition
set_option maxRecDepth 20000 in
theorem ggL_law_L_count : GoodIn wsL_law wsL_count := goodIn_ca (goodIn_r _ [505, 506, 507, 508, 509, 2, 510, 511, 512, 17, 513, 514, 515, 127, 485, 516, 517, 518, 519, 520, 521, 522, 523, 524, 39, 525, 526, 329, 330, 16, 331, 48, 527, 528, 529, 38, 530, 531, 532, 533, 534, 535, 536, 537, 538, 539, 540, 541, 542, 543, 544, 545, 301, 302, 303, 47, 546, 547, 548, 549, 550, 551, 552, 553, 554, 555, 556, 557, 558, 559, 560, 561, 562, 563, 564, 565, 566, 567, 568, 569, 570, 571, 572, 573, 574, 575, 576, 577, 578, 579, 580, 581, 582, 237, 583, 584, 585, 586, 587, 588, 589, 590, 1217, 1218, 1219, 1220, 1221, 1222, 1223, 1224, 1225, 1255, 1256, 1257, 1258, 1259, 1260, 1261, 1262, 1286, 1287, 1288, 1289, 1290, 1291, 1292, 1293, 1294, 1295, 1296, 1297, 1298, 1299, 1300] (by decide +kernel) (by decide +kernel)) (goodIn_sub (fun _ h => List.mem_append_left _ (List.mem_append_right _ h)) (by decide +kernel))
set_option maxRecDepth 20000 in
theorem gL_law_L_count : GoodIn wsL_law (va_wsS RL 140 yL_count wsL_count) := goodIn_app (goodIn_of _ (by decide +kernel)) ggL_law_L_count
set_option maxRecDepth 20000 in
theorem ggL_law_X7_count : GoodIn wsL_law wsX7_count := goodIn_r _ [594, 115, 76, 390, 391, 5, 392, 595, 596, 597, 598, 599, 600, 601, 602, 603, 468, 469, 470, 471, 604, 605, 606, 607, 459, 608, 609, 610, 611, 612, 613, 614, 615, 616, 617, 618, 619, 620, 621, 622, 623, 436, 437, 438, 439, 624, 625, 626, 627, 628, 629, 630, 631, 632, 633, 634, 635, 636, 637, 638, 639, 640, 641, 642, 643, 644, 645, 646, 647, 648, 649, 650, 651, 652, 653, 654, 655, 656, 657, 1226, 1227, 1228, 1229, 1230, 1231, 1232, 1233, 1234, 1235, 1236, 1237, 1238, 1239, 1240, 1241, 1242, 1243, 1244, 1245, 1246, 1247, 1248, 1249, 1250, 1251, 1252, 1253, 1254] (by decide +kernel) (by decide +kernel)
set_option maxRecDepth 20000 in
theorem gL_law_X7_count : GoodIn wsL_law (wsV RL 143 RX7 yX7_count wsX7_count) := goodIn_app (goodIn_of _ (by decide +kernel)) ggL_law_X7_count
set_option maxRecDepth 20000 in
theorem ggL_law_L_moon : GoodIn wsL_law wsL_moon := goodIn_ca (goodIn_ca (goodIn_r _ [660, 661, 506, 662, 663, 664, 2, 665, 17, 666, 667, 668, 669, 670, 671, 127, 672, 673, 674, 511, 512, 675, 676, 677, 16, 678, 145, 328, 329, 330, 331, 48, 679, 301, 302, 303, 47, 680, 681, 682, 683, 485, 520, 684, 582, 237, 583, 526, 521, 522, 523, 524, 39, 525, 527, 528, 529, 38, 530, 531, 532, 533, 534, 535, 536, 537, 538, 539, 540, 541, 542, 543, 544, 545, 546, 547, 548, 549, 550, 551, 552, 553, 554, 555, 556, 557, 558, 559, 560, 561, 562, 563, 564, 565, 566, 567, 568, 569, 570, 571, 572, 573, 574, 575, 576, 577, 578, 579, 580, 581, 584, 585, 586, 587, 588, 589, 590, 1217, 1218, 1219, 1220, 1221, 1222, 1223, 1224, 1225, 1255, 1256, 1257, 1258, 1259, 1260, 1261, 1262, 1286, 1287, 1288, 1289, 1290, 1291, 1292, 1293, 1294, 1295, 1296, 1297, 1298, 1299, 1300] (by decide +kernel) (by decide +kernel)) (goodIn_sub (fun _ h => List.mem_append_right _ h) (by decide +kernel))) (goodIn_sub (fun _ h => List.mem_append_left _ (List.mem_append_right _ h)) (by decide +kernel))
set_option maxRecDepth 20000 in
theorem gL_law_L_moon : GoodIn wsL_law (va_wsS RL 144 yL_moon wsL_moon) := goodIn_app (goodIn_of _ (by decide +kernel)) ggL_law_L_moon
set_option maxRecDepth 20000 in
theorem ggL_law_X7_moon : GoodIn wsL_law wsX7_moon := goodIn_r _ [688, 115, 689, 690, 691, 5, 692, 76, 390, 391, 392, 436, 437, 438, 439, 693, 694, 695, 696, 468, 469, 470, 471, 697, 698, 699, 700, 599, 600, 601, 602, 603, 604, 605, 606, 607, 459, 608, 609, 610, 611, 612, 613, 614, 615, 616, 617, 618, 619, 620, 621, 622, 623, 624, 625, 626, 627, 628, 629, 630, 631, 632, 633, 634, 635, 636, 637, 638, 639, 640, 641, 642, 643, 644, 645, 646, 647, 648, 649, 650, 651, 652, 653, 654, 655, 656, 657, 1226, 1227, 1228, 1229, 1230, 1231, 1232, 1233, 1234, 1235, 1236, 1237, 1238, 1239, 1240, 1241, 1242, 1243, 1244, 1245, 1246, 1247, 1248, 1249, 1250, 1251, 1252, 1253, 1254] (by decide +kernel) (by decide +kernel)
set_option maxRecDepth 20000 in
theorem gL_law_X7_moon : GoodIn wsL_law (wsV RL 147 RX7 yX7_moon wsX7_moon) := goodIn_app (goodIn_of _ (by decide +kernel)) ggL_law_X7_moon
set_option maxRecDepth 20000 in
theorem ggL_law_L_sight : GoodIn wsL_law wsL_sight := goodIn_ca (goodIn_ca (goodIn_r _ [703, 661, 506, 704, 705, 706, 2, 707, 17, 708, 709, 710, 711, 670, 671, 485, 672, 673, 674, 511, 512, 526, 329, 330, 16, 331, 48, 521, 522, 523, 524, 39, 525, 520, 527, 528, 529, 38, 530, 531, 532, 533, 534, 535, 536, 537, 538, 539, 540, 541, 542, 543, 544, 545, 301, 302, 303, 47, 546, 547, 548, 549, 550, 551, 552, 553, 554, 555, 556, 557, 558, 559, 560, 561, 562, 563, 564, 565, 566, 567, 568, 569, 570, 571, 572, 573, 574, 575, 576, 577, 578, 579, 580, 581, 582, 237, 583, 584, 585, 586, 587, 588, 589, 590, 1217, 1218, 1219, 1220, 1221, 1222, 1223, 1224, 1225, 1255, 1256, 1257, 1258, 1259, 1260, 1261, 1262, 1286, 1287, 1288, 1289, 1290, 1291, 1292, 1293, 1294, 1295, 1296, 1297, 1298, 1299, 1300] (by decide +kernel) (by decide +kernel)) (goodIn_sub (fun _ h => List.mem_append_right _ h) (by decide +kernel))) (goodIn_sub (fun _ h => List.mem_append_left _ (List.mem_append_right _ h)) (by decide +kernel))
set_option maxRecDepth 20000 in
theorem gL_law_L_sight : GoodIn wsL_law (va_wsS RL 148 yL_sight wsL_sight) := goodIn_app (goodIn_of _ (by decide +kernel)) ggL_law_L_sight
set_option maxRecDepth 20000 in
theorem ggL_law_X7_sight : GoodIn wsL_law wsX7_sight := goodIn_r _ [715, 115, 716, 717, 718, 5, 719, 76, 390, 391, 392, 468, 469, 470, 471, 600, 601, 602, 603, 599, 604, 605, 606, 607, 459, 608, 609, 610, 611, 612, 613, 614, 615, 616, 617, 618, 619, 620, 621, 622, 623, 436, 437, 438, 439, 624, 625, 626, 627, 628, 629, 630, 631, 632, 633, 634, 635, 636, 637, 638, 639, 640, 641, 642, 643, 644, 645, 646, 647, 648, 649, 650, 651, 652, 653, 654, 655, 656, 657, 1226, 1227, 1228, 1229, 1230, 1231, 1232, 1233, 1234, 1235, 1236, 1237, 1238, 1239, 1240, 1241, 1242, 1243, 1244, 1245, 1246, 1247, 1248, 1249, 1250, 1251, 1252, 1253, 1254] (by decide +kernel) (by decide +kernel)
set_option maxRecDepth 20000 in
theorem gL_law_X7_sight : GoodIn wsL_law (wsV RL 150 RX7 yX7_sight wsX7_sight) := goodIn_app (goodIn_of _ (by decide +kernel)) ggL_law_X7_sight
set_option maxRecDepth 20000 in
theorem ggL_law_X6_sine : GoodIn wsL_law wsX6_sine := goodIn_r _ [723, 724, 549, 2, 550, 551, 552, 553, 554] (by decide +kernel) (by decide +kernel)
set_option maxRecDepth 20000 in
theorem gL_law_X6_sine : GoodIn wsL_law (wsV RL 151 RX6 yX6_sine wsX6_sine) := goodIn_app (goodIn_of _ (by decide +kernel)) ggL_law_X6_sine
set_option maxRecDepth 20000 in
theorem ggL_law_X7_sine : GoodIn wsL_law wsX7_sine := goodIn_r _ [728, 115, 624, 625, 5, 626, 627, 628, 629, 630, 631, 632, 633, 1226, 1227, 1228, 1229, 1230, 1231, 1232, 1233, 1234, 1235, 1236, 1237, 1238, 1239, 1240, 1241, 1242, 1243, 1244, 1245, 1246, 1247, 1248, 1249, 1250, 1251, 1252, 1253, 1254] (by decide +kernel) (by decide +kernel)
set_option maxRecDepth 20000 in
theorem gL_law_X7_sine : GoodIn wsL_law (wsV RL 154 RX7 yX7_sine wsX7_sine) := goodIn_app (goodIn_of _ (by decide +kernel)) ggL_law_X7_sine
set_option maxRecDepth 20000 in
theorem ggL_law_L_light : GoodIn wsL_law wsL_light := goodIn_ca (goodIn_r _ [731, 506, 732, 733, 734, 2, 735, 17, 514, 515, 551, 736, 737, 738, 525, 672, 673, 674, 511, 512, 739, 575, 576, 740, 631, 632, 633, 1217, 1218, 1219, 1220, 1221, 1222, 1223, 1224, 1225, 1255, 1256, 1257, 1258, 1259, 1260, 1261, 1262] (by decide +kernel) (by decide +kernel)) (goodIn_sub (fun _ h => List.mem_append_left _ (List.mem_append_right _ h)) (by decide +kernel))
set_option maxRecDepth 20000 in
theorem gL_law_L_light : GoodIn wsL_law (va_wsS RL 155 yL_light wsL_light) := goodIn_app (goodIn_of _ (by decide +kernel)) ggL_law_L_light
set_option maxRecDepth 20000 in
theorem ggL_law_X7_light : GoodIn wsL_law wsX7_light := goodIn_r _ [744, 115, 745, 746, 5, 747, 459, 390, 391, 392, 640, 641, 642, 643, 76, 627, 630, 631, 632, 633, 1226, 1227, 1228, 1229, 1230, 1231, 1232, 1233, 1234, 1235, 1236, 1237, 1238, 1239, 1240, 1241, 1242, 1243, 1244, 1245, 1246, 1247, 1248, 1249, 1250, 1251, 1252, 1253, 1254] (by decide +kernel) (by decide +kernel)
set_option maxRecDepth 20000 in
theorem gL_law_X7_light : GoodIn wsL_law (wsV RL 157 RX7 yX7_light wsX7_light) := goodIn_app (goodIn_of _ (by decide +kernel)) ggL_law_X7_light
set_option maxRecDepth 20000 in
theorem ggL_law_L_place : GoodIn wsL_law wsL_place := goodIn_ca (goodIn_ca (goodIn_r _ [750, 661, 506, 751, 752, 753, 2, 754, 39, 755, 756, 757, 758, 759, 760, 761, 762, 17, 666, 667, 668, 669, 670, 671, 127, 736, 737, 738, 525, 672, 673, 674, 511, 512, 527, 528, 529, 38, 530, 531, 532, 533, 534, 535, 536, 537, 538, 539, 540, 541, 542, 543, 544, 545, 301, 302, 16, 303, 47, 546, 547, 548, 549, 550, 551, 552, 553, 554, 763, 560, 561, 562, 563, 564, 565, 566, 567, 568, 569, 570, 571, 572, 573, 574, 575, 576, 1217, 1218, 1219, 1220, 1221, 1222, 1223, 1224, 1225, 1286, 1287, 1288, 1289, 1290, 1291, 1292, 1293, 1294, 1295, 1296, 1297, 1298, 1299, 1300, 1255, 1256, 1257, 1258, 1259, 1260, 1261, 1262] (by decide +kernel) (by decide +kernel)) (goodIn_sub (fun _ h => List.mem_append_right _ h) (by decide +kernel))) (goodIn_sub (fun _ h => List.mem_append_left _ (List.mem_append_right _ h)) (by decide +kernel))
set_option maxRecDepth 20000 in
theorem gL_law_L_place : GoodIn wsL_law (va_wsS RL 158 yL_place wsL_place) := goodIn_app (goodIn_of _ (by decide +kernel)) ggL_law_L_place
set_option maxRecDepth 20000 in
theorem ggL_law_X7_place : GoodIn wsL_law wsX7_place := goodIn_r _ [767, 115, 620, 621, 622, 623, 689, 690, 691, 5, 692, 76, 390, 391, 392, 768, 769, 770, 771, 745, 746, 747, 459, 612, 613, 614, 615, 616, 617, 618, 619, 436, 437, 438, 439, 624, 625, 626, 627, 628, 629, 630, 631, 632, 633, 634, 635, 636, 637, 638, 639, 640, 641, 642, 643, 1226, 1227, 1228, 1229, 1230, 1231, 1232, 1233, 1234, 1235, 1236, 1237, 1238, 1239, 1240, 1241, 1242, 1243, 1244, 1245, 1246, 1247, 1248, 1249, 1250, 1251, 1252, 1253, 1254] (by decide +kernel) (by decide +kernel)
set_option maxRecDepth 20000 in
theorem gL_law_X7_place : GoodIn wsL_law (wsV RL 161 RX7 yX7_place wsX7_place) := goodIn_app (goodIn_of _ (by decide +kernel)) ggL_law_X7_place
set_option maxRecDepth 20000 in
theorem ggL_law_L_far : GoodIn wsL_law wsL_far := goodIn_ca (goodIn_ca (goodIn_r _ [774, 661, 506, 775, 776, 777, 2, 778, 39, 755, 756, 759, 760, 761, 762, 17, 666, 667, 668, 669, 670, 671, 127, 736, 737, 738, 525, 672, 673, 674, 511, 512, 527, 528, 529, 38, 530, 531, 532, 533, 534, 535, 536, 537, 538, 539, 540, 541, 542, 543, 544, 545, 301, 302, 16, 303, 47, 546, 547, 548, 549, 550, 551, 552, 553, 554, 763, 560, 561, 562, 563, 564, 565, 566, 567, 568, 569, 570, 571, 572, 573, 574, 575, 576, 1217, 1218, 1219, 1220, 1221, 1222, 1223, 1224, 1225, 1286, 1287, 1288, 1289, 1290, 1291, 1292, 1293, 1294, 1295, 1296, 1297, 1298, 1299, 1300, 1255, 1256, 1257, 1258, 1259, 1260, 1261, 1262] (by decide +kernel) (by decide +kernel)) (goodIn_sub (fun _ h => List.mem_append_right _ h) (by decide +kernel))) (goodIn_sub (fun _ h => List.mem_append_left _ (List.mem_append_right _ h)) (by decide +kernel))
set_option maxRecDepth 20000 in
theorem gL_law_L_far : GoodIn wsL_law (va_wsS RL 162 yL_far wsL_far) := goodIn_app (goodIn_of _ (by decide +kernel)) ggL_law_L_far
set_option maxRecDepth 20000 in
theorem ggL_law_X7_far : GoodIn wsL_law wsX7_far := goodIn_r _ [782, 115, 620, 621, 768, 769, 770, 5, 771, 689, 690, 691, 692, 76, 390, 391, 392, 745, 746, 747, 459, 612, 613, 614, 615, 616, 617, 618, 619, 622, 623, 436, 437, 438, 439, 624, 625, 626, 627, 628, 629, 630, 631, 632, 633, 634, 635, 636, 637, 638, 639, 640, 641, 642, 643, 1226, 1227, 1228, 1229, 1230, 1231, 1232, 1233, 1234, 1235, 1236, 1237, 1238, 1239, 1240, 1241, 1242, 1243, 1244, 1245, 1246, 1247, 1248, 1249, 1250, 1251, 1252, 1253, 1254] (by decide +kernel) (by decide +kernel)
set_option maxRecDepth 20000 in
theorem gL_law_X7_far : GoodIn wsL_law (wsV RL 164 RX7 yX7_far wsX7_far) := goodIn_app (goodIn_of _ (by decide +kernel)) ggL_law_X7_far
set_option maxRecDepth 20000 in
theorem ggL_law_L_state : GoodIn wsL_law wsL_state := goodIn_ca (goodIn_ca (goodIn_r _ [785, 661, 506, 786, 787, 788, 2, 789, 39, 759, 760, 761, 762, 17, 666, 667, 668, 669, 670, 671, 127, 736, 737, 738, 525, 672, 673, 674, 511, 512, 527, 528, 529, 38, 530, 531, 532, 533, 534, 535, 536, 537, 538, 539, 540, 541, 542, 543, 544, 545, 301, 302, 16, 303, 47, 546, 547, 548, 549, 550, 551, 552, 553, 554, 763, 560, 561, 562, 563, 564, 565, 566, 567, 568, 569, 570, 571, 572, 573, 574, 575, 576, 790, 578, 579, 580, 581, 582, 237, 583, 1217, 1218, 1219, 1220, 1221, 1222, 1223, 1224, 1225, 1255, 1256, 1257, 1258, 1259, 1260, 1261, 1262, 1286, 1287, 1288, 1289, 1290, 1291, 1292, 1293, 1294, 1295, 1296, 1297, 1298, 1299, 1300] (by decide +kernel) (by decide +kernel)) (goodIn_sub (fun _ h => List.mem_append_right _ h) (by decide +kernel))) (goodIn_sub (fun _ h => List.mem_append_left _ (List.mem_append_right _ h)) (by decide +kernel))
set_option maxRecDepth 20000 in
theorem gL_law_L_state : GoodIn wsL_law (va_wsS RL 165 yL_state wsL_state) := goodIn_app (goodIn_of _ (by decide +kernel)) ggL_law_L_state
set_option maxRecDepth 20000 in
theorem ggL_law_X7_state : GoodIn wsL_law wsX7_state := goodIn_r _ [794, 115, 768, 769, 770, 5, 771, 689, 690, 691, 692, 76, 390, 391, 392, 745, 746, 747, 459, 795, 796, 797, 798, 612, 613, 614, 615, 616, 617, 618, 619, 620, 621, 622, 623, 436, 437, 438, 439, 624, 625, 626, 627, 628, 629, 630, 631, 632, 633, 634, 635, 636, 637, 638, 639, 640, 641, 642, 643, 644, 645, 646, 647, 648, 649, 650, 1226, 1227, 1228, 1229, 1230, 1231, 1232, 1233, 1234, 1235, 1236, 1237, 1238, 1239, 1240, 1241, 1242, 1243, 1244, 1245, 1246, 1247, 1248, 1249, 1250, 1251, 1252, 1253, 1254] (by decide +kernel) (by decide +kernel)
set_option maxRecDepth 20000 in
theorem gL_law_X7_state : GoodIn wsL_law (wsV RL 167 RX7 yX7_state wsX7_state) := goodIn_app (goodIn_of _ (by decide +kernel)) ggL_law_X7_state
set_option maxRecDepth 20000 in
theorem ggL_law_L_casts : GoodIn wsL_law wsL_casts := goodIn_ca (goodIn_ca (goodIn_r _ [801, 661, 506, 802, 803, 804, 2, 805, 39, 759, 760, 761, 762, 17, 666, 667, 668, 669, 670, 671, 127, 736, 737, 738, 525, 672, 673, 674, 511, 512, 527, 528, 529, 38, 530, 531, 532, 533, 534, 535, 536, 537, 538, 539, 540, 541, 542, 543, 544, 545, 301, 302, 16, 303, 47, 546, 547, 548, 549, 550, 551, 552, 553, 554, 763, 560, 561, 562, 563, 564, 565, 566, 567, 568, 569, 570, 571, 572, 573, 574, 575, 576, 806, 585, 586, 587, 581, 582, 237, 583, 1217, 1218, 1219, 1220, 1221, 1222, 1223, 1224, 1225, 1255, 1256, 1257, 1258, 1259, 1260, 1261, 1262, 1286, 1287, 1288, 1289, 1290, 1291, 1292, 1293, 1294, 1295, 1296, 1297, 1298, 1299, 1300] (by decide +kernel) (by decide +kernel)) (goodIn_sub (fun _ h => List.mem_append_right _ h) (by decide +kernel))) (goodIn_sub (fun _ h => List.mem_append_left _ (List.mem_append_right _ h)) (by decide +kernel))
set_option maxRecDepth 20000 in
theorem gL_law_L_casts : GoodIn wsL_law (va_wsS RL 168 yL_casts wsL_casts) := goodIn_app (goodIn_of _ (by decide +kernel)) ggL_law_L_casts
set_option maxRecDepth 20000 in
theorem ggL_law_X7_casts : GoodIn wsL_law wsX7_casts := goodIn_r _ [810, 115, 768, 769, 770, 5, 771, 689, 690, 691, 692, 76, 390, 391, 392, 745, 746, 747, 459, 612, 613, 614, 615, 616, 617, 618, 619, 620, 621, 622, 623, 436, 437, 438, 439, 624, 625, 626, 627, 628, 629, 630, 631, 632, 633, 634, 635, 636, 637, 638, 639, 640, 641, 642, 643, 651, 652, 653, 654, 648, 649, 650, 1226, 1227, 1228, 1229, 1230, 1231, 1232, 1233, 1234, 1235, 1236, 1237, 1238, 1239, 1240, 1241, 1242, 1243, 1244, 1245, 1246, 1247, 1248, 1249, 1250, 1251, 1252, 1253, 1254] (by decide +kernel) (by decide +kernel)
set_option maxRecDepth 20000 in
theorem gL_law_X7_casts : GoodIn wsL_law (wsV RL 170 RX7 yX7_casts wsX7_casts) := goodIn_app (goodIn_of _ (by decide +kernel)) ggL_law_X7_casts
set_option maxRecDepth 20000 in
theorem ggL_law_L_shadedBy : GoodIn wsL_law wsL_shadedBy := goodIn_ca (goodIn_ca (goodIn_r _ [813, 661, 506, 814, 815, 816, 2, 817, 17, 127, 40, 39, 759, 760, 761, 762, 666, 667, 668, 669, 670, 671, 736, 737, 738, 525, 672, 673, 674, 511, 512, 527, 528, 529, 38, 530, 531, 532, 533, 534, 535, 536, 537, 538, 539, 540, 541, 542, 543, 544, 545, 301, 302, 16, 303, 47, 546, 547, 548, 549, 550, 551, 552, 553, 554, 763, 560, 561, 562, 563, 564, 565, 566, 567, 568, 569, 570, 571, 572, 573, 574, 575, 576, 818, 819, 820, 821, 581, 582, 237, 583, 1217, 1218, 1219, 1220, 1221, 1222, 1223, 1224, 1225, 1255, 1256, 1257, 1258, 1259, 1260, 1261, 1262, 1286, 1287, 1288, 1289, 1290, 1291, 1292, 1293, 1294, 1295, 1296, 1297, 1298, 1299, 1300] (by decide +kernel) (by decide +kernel)) (goodIn_sub (fun _ h => List.mem_append_right _ h) (by decide +kernel))) (goodIn_sub (fun _ h => List.mem_append_left _ (List.mem_append_right _ h)) (by decide +kernel))
set_option maxRecDepth 20000 in
theorem gL_law_L_shadedBy : GoodIn wsL_law (va_wsS RL 171 yL_shadedBy wsL_shadedBy) := goodIn_app (goodIn_of _ (by decide +kernel)) ggL_law_L_shadedBy
set_option maxRecDepth 20000 in
theorem ggL_law_X7_shadedBy : GoodIn wsL_law wsX7_shadedBy := goodIn_r _ [825, 115, 622, 623, 76, 616, 768, 769, 770, 5, 771, 689, 690, 691, 692, 390, 391, 392, 745, 746, 747, 459, 612, 613, 614, 615, 617, 618, 619, 620, 621, 436, 437, 438, 439, 624, 625, 626, 627, 628, 629, 630, 631, 632, 633, 634, 635, 636, 637, 638, 639, 640, 641, 642, 643, 648, 649, 650, 1226, 1227, 1228, 1229, 1230, 1231, 1232, 1233, 1234, 1235, 1236, 1237, 1238, 1239, 1240, 1241, 1242, 1243, 1244, 1245, 1246, 1247, 1248, 1249, 1250, 1251, 1252, 1253, 1254] (by decide +kernel) (by decide +kernel)
set_option maxRecDepth 20000 in
theorem gL_law_X7_shadedBy : GoodIn wsL_law (wsV RL 173 RX7 yX7_shadedBy wsX7_shadedBy) := goodIn_app (goodIn_of _ (by decide +kernel)) ggL_law_X7_shadedBy
set_option maxRecDepth 20000 in
theorem ggL_law_L_whyLit : GoodIn wsL_law wsL_whyLit := goodIn_ca (goodIn_ca (goodIn_r _ [828, 661, 506, 829, 830, 831, 2, 832, 39, 757, 759, 760, 761, 762, 17, 666, 667, 668, 669, 670, 671, 127, 736, 737, 738, 525, 672, 673, 674, 511, 512, 527, 528, 529, 38, 530, 531, 532, 533, 534, 535, 536, 537, 538, 539, 540, 541, 542, 543, 544, 545, 301, 302, 16, 303, 47, 546, 547, 548, 549, 550, 551, 552, 553, 554, 763, 560, 561, 562, 563, 564, 565, 566, 567, 568, 569, 570, 571, 572, 573, 574, 575, 576, 790, 578, 579, 580, 581, 582, 237, 583, 1217, 1218, 1219, 1220, 1221, 1222, 1223, 1224, 1225, 1286, 1287, 1288, 1289, 1290, 1291, 1292, 1293, 1294, 1295, 1296, 1297, 1298, 1299, 1300, 1255, 1256, 1257, 1258, 1259, 1260, 1261, 1262] (by decide +kernel) (by decide +kernel)) (goodIn_sub (fun _ h => List.mem_append_right _ h) (by decide +kernel))) (goodIn_sub (fun _ h => List.mem_append_left _ (List.mem_append_right _ h)) (by decide +kernel))
set_option maxRecDepth 20000 in
theorem gL_law_L_whyLit : GoodIn wsL_law (va_wsS RL 174 yL_whyLit wsL_whyLit) := goodIn_app (goodIn_of _ (by decide +kernel)) ggL_law_L_whyLit
set_option maxRecDepth 20000 in
theorem ggL_law_X7_whyLit : GoodIn wsL_law wsX7_whyLit := goodIn_r _ [836, 115, 622, 768, 769, 770, 5, 771, 689, 690, 691, 692, 76, 390, 391, 392, 745, 746, 747, 459, 795, 796, 797, 798, 612, 613, 614, 615, 616, 617, 618, 619, 620, 621, 623, 436, 437, 438, 439, 624, 625, 626, 627, 628, 629, 630, 631, 632, 633, 634, 635, 636, 637, 638, 639, 640, 641, 642, 643, 644, 645, 646, 647, 648, 649, 650, 1226, 1227, 1228, 1229, 1230, 1231, 1232, 1233, 1234, 1235, 1236, 1237, 1238, 1239, 1240, 1241, 1242, 1243, 1244, 1245, 1246, 1247, 1248, 1249, 1250, 1251, 1252, 1253, 1254] (by decide +kernel) (by decide +kernel)
set_option maxRecDepth 20000 in
theorem gL_law_X7_whyLit : GoodIn wsL_law (wsV RL 176 RX7 yX7_whyLit wsX7_whyLit) := goodIn_app (goodIn_of _ (by decide +kernel)) ggL_law_X7_whyLit
set_option maxRecDepth 20000 in
theorem ggL_law_L_meeting : GoodIn wsL_law wsL_meeting := goodIn_ca (goodIn_ca (goodIn_r _ [839, 661, 506, 840, 841, 842, 2, 843, 39, 17, 40, 666, 667, 668, 669, 670, 671, 127, 736, 737, 738, 525, 672, 673, 674, 511, 512, 527, 528, 529, 38, 530, 531, 532, 533, 534, 535, 536, 537, 538, 539, 540, 541, 542, 543, 544, 545, 301, 302, 16, 303, 47, 546, 547, 548, 549, 550, 551, 552, 553, 554, 844, 845, 846, 847, 236, 237, 238, 763, 560, 561, 562, 563, 564, 565, 566, 567, 568, 569, 570, 571, 572, 573, 574, 575, 576, 848, 849, 850, 851, 852, 853, 854, 855, 1217, 1218, 1219, 1220, 1221, 1222, 1223, 1224, 1225, 1255, 1256, 1257, 1258, 1259, 1260, 1261, 1262, 1286, 1287, 1288, 1289, 1290, 1291, 1292, 1293, 1294, 1295, 1296, 1297, 1298, 1299, 1300] (by decide +kernel) (by decide +kernel)) (goodIn_sub (fun _ h => List.mem_append_right _ h) (by decide +kernel))) (goodIn_sub (fun _ h => List.mem_append_left _ (List.mem_append_right _ h)) (by decide +kernel))
set_option maxRecDepth 20000 in
theorem gL_law_L_meeting : GoodIn wsL_law (va_wsS RL 177 yL_meeting wsL_meeting) := goodIn_app (goodIn_of _ (by decide +kernel)) ggL_law_L_meeting
set_option maxRecDepth 20000 in
theorem ggL_law_X7_meeting : GoodIn wsL_law wsX7_meeting := goodIn_r _ [859, 115, 459, 381, 236, 237, 238, 689, 690, 691, 5, 692, 76, 390, 391, 392, 745, 746, 747, 860, 861, 862, 863, 620, 621, 864, 612, 613, 614, 615, 616, 617, 618, 619, 622, 623, 436, 437, 438, 439, 624, 625, 626, 627, 628, 629, 630, 631, 632, 633, 634, 635, 636, 637, 638, 639, 640, 641, 642, 643, 648, 649, 650, 1226, 1227, 1228, 1229, 1230, 1231, 1232, 1233, 1234, 1235, 1236, 1237, 1238, 1239, 1240, 1241, 1242, 1243, 1244, 1245, 1246, 1247, 1248, 1249, 1250, 1251, 1252, 1253, 1254] (by decide +kernel) (by decide +kernel)
set_option maxRecDepth 20000 in
theorem gL_law_X7_meeting : GoodIn wsL_law (wsV RL 179 RX7 yX7_meeting wsX7_meeting) := goodIn_app (goodIn_of _ (by decide +kernel)) ggL_law_X7_meeting
set_option maxRecDepth 20000 in
theorem ggL_law_L_ticks : GoodIn wsL_law wsL_ticks := goodIn_ca (goodIn_ca (goodIn_r _ [867, 661, 506, 868, 869, 870, 2, 871, 39, 17, 666, 667, 668, 669, 670, 671, 127, 736, 737, 738, 525, 672, 673, 674, 511, 512, 844, 845, 846, 847, 236, 237, 238, 527, 528, 529, 38, 530, 531, 532, 533, 534, 535, 536, 537, 538, 539, 540, 541, 542, 543, 544, 545, 301, 302, 16, 303, 47, 546, 547, 548, 549, 550, 551, 552, 553, 554, 763, 560, 561, 562, 563, 564, 565, 566, 567, 568, 569, 570, 571, 572, 573, 574, 575, 576, 790, 578, 579, 580, 581, 582, 583, 1217, 1218, 1219, 1220, 1221, 1222, 1223, 1224, 1225, 1255, 1256, 1257, 1258, 1259, 1260, 1261, 1262, 1286, 1287, 1288, 1289, 1290, 1291, 1292, 1293, 1294, 1295, 1296, 1297, 1298, 1299, 1300] (by decide +kernel) (by decide +kernel)) (goodIn_sub (fun _ h => List.mem_append_right _ h) (by decide +kernel))) (goodIn_sub (fun _ h => List.mem_append_left _ (List.mem_append_right _ h)) (by decide +kernel))
set_option maxRecDepth 20000 in
theorem gL_law_L_ticks : GoodIn wsL_law (va_wsS RL 180 yL_ticks wsL_ticks) := goodIn_app (goodIn_of _ (by decide +kernel)) ggL_law_L_ticks
set_option maxRecDepth 20000 in
theorem ggL_law_X7_ticks : GoodIn wsL_law wsX7_ticks := goodIn_r _ [875, 115, 689, 690, 691, 5, 692, 76, 390, 391, 392, 876, 877, 878, 459, 795, 796, 797, 798, 612, 613, 614, 615, 616, 617, 618, 619, 620, 621, 622, 623, 436, 437, 438, 439, 624, 625, 626, 627, 628, 629, 630, 631, 632, 633, 634, 635, 636, 637, 638, 639, 640, 641, 642, 643, 644, 645, 646, 647, 648, 649, 650, 1226, 1227, 1228, 1229, 1230, 1231, 1232, 1233, 1234, 1235, 1236, 1237, 1238, 1239, 1240, 1241, 1242, 1243, 1244, 1245, 1246, 1247, 1248, 1249, 1250, 1251, 1252, 1253, 1254] (by decide +kernel) (by decide +kernel)
set_option maxRecDepth 20000 in
theorem gL_law_X7_ticks : GoodIn wsL_law (wsV RL 183 RX7 yX7_ticks wsX7_ticks) := goodIn_app (goodIn_of _ (by decide +kernel)) ggL_law_X7_ticks
set_option maxRecDepth 20000 in
theorem ggL_law_L_darkest : GoodIn wsL_law wsL_darkest := goodIn_ca (goodIn_r _ [881, 506, 882, 883, 884, 2, 885, 886, 887, 888, 525, 847, 236, 237, 238, 736, 737, 738, 672, 673, 674, 511, 512, 889, 890, 891, 892, 17, 127, 39, 527, 528, 529, 38, 530, 531, 532, 533, 534, 535, 536, 537, 538, 539, 540, 541, 542, 543, 544, 545, 301, 302, 16, 303, 47, 546, 547, 548, 549, 550, 551, 552, 553, 554, 763, 560, 561, 562, 563, 564, 565, 566, 567, 568, 569, 570, 571, 572, 573, 574, 575, 576, 790, 578, 579, 580, 581, 582, 583, 1217, 1218, 1219, 1220, 1221, 1222, 1223, 1224, 1225, 1255, 1256, 1257, 1258, 1259, 1260, 1261, 1262, 1286, 1287, 1288, 1289, 1290, 1291, 1292, 1293, 1294, 1295, 1296, 1297, 1298, 1299, 1300] (by decide +kernel) (by decide +kernel)) (goodIn_sub (fun _ h => List.mem_append_left _ (List.mem_append_right _ h)) (by decide +kernel))
set_option maxRecDepth 20000 in
theorem gL_law_L_darkest : GoodIn wsL_law (va_wsS RL 184 yL_darkest wsL_darkest) := goodIn_app (goodIn_of _ (by decide +kernel)) ggL_law_L_darkest
set_option maxRecDepth 20000 in
theorem ggL_law_X7_darkest : GoodIn wsL_law wsX7_darkest := goodIn_r _ [896, 115, 76, 876, 877, 5, 878, 459, 390, 391, 392, 795, 796, 797, 798, 612, 613, 614, 615, 616, 617, 618, 619, 620, 621, 622, 623, 436, 437, 438, 439, 624, 625, 626, 627, 628, 629, 630, 631, 632, 633, 634, 635, 636, 637, 638, 639, 640, 641, 642, 643, 644, 645, 646, 647, 648, 649, 650, 1226, 1227, 1228, 1229, 1230, 1231, 1232, 1233, 1234, 1235, 1236, 1237, 1238, 1239, 1240, 1241, 1242, 1243, 1244, 1245, 1246, 1247, 1248, 1249, 1250, 1251, 1252, 1253, 1254] (by decide +kernel) (by decide +kernel)
set_option maxRecDepth 20000 in
theorem gL_law_X7_darkest : GoodIn wsL_law (wsV RL 186 RX7 yX7_darkest wsX7_darkest) := goodIn_app (goodIn_of _ (by decide +kernel)) ggL_law_X7_darkest
set_option maxRecDepth 20000 in
theorem ggL_law_L_next : GoodIn wsL_law wsL_next := goodIn_ca (goodIn_ca (goodIn_r _ [899, 661, 506, 900, 901, 902, 2, 903, 39, 17, 666, 667, 668, 669, 670, 671, 127, 672, 673, 674, 511, 512, 736, 737, 738, 525, 527, 528, 529, 38, 530, 531, 532, 533, 534, 535, 536, 537, 538, 539, 540, 541, 542, 543, 544, 545, 301, 302, 16, 303, 47, 546, 547, 548, 549, 550, 551, 552, 553, 554, 844, 845, 846, 847, 236, 237, 238, 555, 556, 557, 558, 559, 560, 561, 562, 563, 564, 565, 566, 567, 568, 569, 570, 571, 572, 573, 574, 575, 576, 577, 578, 579, 580, 581, 582, 583, 584, 585, 586, 587, 588, 589, 590, 1217, 1218, 1219, 1220, 1221, 1222, 1223, 1224, 1225, 1255, 1256, 1257, 1258, 1259, 1260, 1261, 1262, 1286, 1287, 1288, 1289, 1290, 1291, 1292, 1293, 1294, 1295, 1296, 1297, 1298, 1299, 1300] (by decide +kernel) (by decide +kernel)) (goodIn_sub (fun _ h => List.mem_append_right _ h) (by decide +kernel))) (goodIn_sub (fun _ h => List.mem_append_left _ (List.mem_append_right _ h)) (by decide +kernel))
set_option maxRecDepth 20000 in
theorem gL_law_L_next : GoodIn wsL_law (va_wsS RL 187 yL_next wsL_next) := goodIn_app (goodIn_of _ (by decide +kernel)) ggL_law_L_next
set_option maxRecDepth 20000 in
theorem ggL_law_X7_next : GoodIn wsL_law wsX7_next := goodIn_r _ [907, 459, 115, 381, 236, 237, 238, 689, 690, 691, 5, 692, 76, 390, 391, 392, 608, 609, 610, 611, 612, 613, 614, 615, 616, 617, 618, 619, 620, 621, 622, 623, 436, 437, 438, 439, 624, 625, 626, 627, 628, 629, 630, 631, 632, 633, 634, 635, 636, 637, 638, 639, 640, 641, 642, 643, 644, 645, 646, 647, 648, 649, 650, 651, 652, 653, 654, 655, 656, 657, 1226, 1227, 1228, 1229, 1230, 1231, 1232, 1233, 1234, 1235, 1236, 1237, 1238, 1239, 1240, 1241, 1242, 1243, 1244, 1245, 1246, 1247, 1248, 1249, 1250, 1251, 1252, 1253, 1254] (by decide +kernel) (by decide +kernel)
set_option maxRecDepth 20000 in
theorem gL_law_X7_next : GoodIn wsL_law (wsV RL 189 RX7 yX7_next wsX7_next) := goodIn_app (goodIn_of _ (by decide +kernel)) ggL_law_X7_next
set_option maxRecDepth 20000 in
theorem ggL_law_L_events : GoodIn wsL_law wsL_events := goodIn_ca (goodIn_r _ [910, 506, 911, 912, 913, 2, 914, 35, 17, 525, 886, 887, 888, 847, 236, 237, 238, 736, 737, 738, 672, 673, 674, 511, 512, 915, 916, 917, 34, 918, 919, 920, 921, 922, 923, 924, 925, 68, 926, 528, 529, 38, 530, 531, 532, 533, 534, 535, 536, 537, 538, 539, 540, 541, 542, 543, 544, 545, 301, 302, 16, 303, 47, 546, 547, 548, 549, 550, 551, 552, 553, 554, 927, 556, 557, 558, 559, 560, 561, 562, 563, 564, 565, 566, 567, 568, 569, 570, 571, 572, 573, 574, 575, 576, 577, 578, 579, 580, 581, 582, 583, 584, 585, 586, 587, 928, 929, 930, 931, 932, 933, 934, 935, 936, 937, 938, 939, 940, 941, 942, 589, 590, 1217, 1218, 1219, 1220, 1221, 1222, 1223, 1224, 1225, 1276, 1277, 1278, 1279, 1280, 1281, 1282, 1283, 1284, 1285, 1255, 1256, 1257, 1258, 1259, 1260, 1261, 1262, 1286, 1287, 1288, 1289, 1290, 1291, 1292, 1293, 1294, 1295, 1296, 1297, 1298, 1299, 1300] (by decide +kernel) (by decide +kernel)) (goodIn_sub (fun _ h => List.mem_append_left _ (List.mem_append_right _ h)) (by decide +kernel))
set_option maxRecDepth 20000 in
theorem gL_law_L_events : GoodIn wsL_law (va_wsS RL 190 yL_events wsL_events) := goodIn_app (goodIn_of _ (by decide +kernel)) ggL_law_L_events
set_option maxRecDepth 20000 in
theorem ggL_law_X7_events : GoodIn wsL_law wsX7_events := goodIn_r _ [946, 115, 947, 948, 876, 877, 5, 878, 459, 390, 391, 392, 949, 950, 951, 952, 76, 84, 953, 954, 955, 608, 609, 610, 611, 612, 613, 614, 615, 616, 617, 618, 619, 620, 621, 622, 623, 436, 437, 438, 439, 624, 625, 626, 627, 628, 629, 630, 631, 632, 633, 634, 635, 636, 637, 638, 639, 640, 641, 642, 643, 644, 645, 646, 647, 648, 649, 650, 651, 652, 653, 654, 655, 656, 657, 956, 957, 958, 959, 960, 961, 962, 963, 964, 85, 965, 966, 967, 968, 969, 970, 971, 972, 973, 401, 174, 175, 176, 177, 178, 179, 180, 181, 182, 183, 184, 402, 190, 191, 192, 193, 194, 195, 196, 197, 198, 199, 200, 201, 202, 203, 204, 205, 206, 207, 208, 209, 210, 211, 212, 213, 214, 215, 216, 217, 218, 219, 220, 221, 222, 223, 224, 225, 1226, 1227, 1228, 1229, 1230, 1231, 1232, 1233, 1234, 1235, 1236, 1237, 1238, 1239, 1240, 1241, 1242, 1243, 1244, 1245, 1246, 1247, 1248, 1249, 1250, 1251, 1252, 1253, 1254] (by decide +kernel) (by decide +kernel)
set_option maxRecDepth 20000 in
theorem gL_law_X7_events : GoodIn wsL_law (wsV RL 192 RX7 yX7_events wsX7_events) := goodIn_app (goodIn_of _ (by decide +kernel)) ggL_law_X7_events
set_option maxRecDepth 20000 in
theorem ggL_law_L_event : GoodIn wsL_law wsL_event := goodIn_ca (goodIn_ca (goodIn_r _ [976, 506, 661, 977, 978, 979, 2, 980, 670, 671, 35, 981, 982, 983, 886, 887, 888, 525, 847, 236, 237, 238, 736, 737, 738, 672, 673, 674, 511, 512, 984, 985, 986, 987, 17, 915, 916, 917, 34, 918, 919, 920, 921, 922, 923, 924, 925, 68, 926, 528, 529, 38, 530, 531, 532, 533, 534, 535, 536, 537, 538, 539, 540, 541, 542, 543, 544, 545, 301, 302, 16, 303, 47, 546, 547, 548, 549, 550, 551, 552, 553, 554, 927, 556, 557, 558, 559, 560, 561, 562, 563, 564, 565, 566, 567, 568, 569, 570, 571, 572, 573, 574, 575, 576, 577, 578, 579, 580, 581, 582, 583, 584, 585, 586, 587, 928, 929, 930, 931, 932, 933, 934, 935, 936, 937, 938, 939, 940, 941, 942, 589, 590, 1217, 1218, 1219, 1220, 1221, 1222, 1223, 1224, 1225, 1276, 1277, 1278, 1279, 1280, 1281, 1282, 1283, 1284, 1285, 1255, 1256, 1257, 1258, 1259, 1260, 1261, 1262, 1286, 1287, 1288, 1289, 1290, 1291, 1292, 1293, 1294, 1295, 1296, 1297, 1298, 1299, 1300] (by decide +kernel) (by decide +kernel)) (goodIn_sub (fun _ h => List.mem_append_right _ h) (by decide +kernel))) (goodIn_sub (fun _ h => List.mem_append_left _ (List.mem_append_right _ h)) (by decide +kernel))
set_option maxRecDepth 20000 in
theorem gL_law_L_event : GoodIn wsL_law (va_wsS RL 193 yL_event wsL_event) := goodIn_app (goodIn_of _ (by decide +kernel)) ggL_law_L_event
set_option maxRecDepth 20000 in
theorem ggL_law_X7_event : GoodIn wsL_law wsX7_event := goodIn_r _ [991, 115, 953, 954, 955, 876, 877, 5, 878, 459, 390, 391, 392, 949, 950, 951, 952, 948, 76, 84, 608, 609, 610, 611, 612, 613, 614, 615, 616, 617, 618, 619, 620, 621, 622, 623, 436, 437, 438, 439, 624, 625, 626, 627, 628, 629, 630, 631, 632, 633, 634, 635, 636, 637, 638, 639, 640, 641, 642, 643, 644, 645, 646, 647, 648, 649, 650, 651, 652, 653, 654, 655, 656, 657, 956, 957, 958, 959, 947, 960, 961, 962, 963, 964, 85, 965, 966, 967, 968, 969, 970, 971, 972, 973, 401, 174, 175, 176, 177, 178, 179, 180, 181, 182, 183, 184, 402, 190, 191, 192, 193, 194, 195, 196, 197, 198, 199, 200, 201, 202, 203, 204, 205, 206, 207, 208, 209, 210, 211, 212, 213, 214, 215, 216, 217, 218, 219, 220, 221, 222, 223, 224, 225, 1226, 1227, 1228, 1229, 1230, 1231, 1232, 1233, 1234, 1235, 1236, 1237, 1238, 1239, 1240, 1241, 1242, 1243, 1244, 1245, 1246, 1247, 1248, 1249, 1250, 1251, 1252, 1253, 1254] (by decide +kernel) (by decide +kernel)
set_option maxRecDepth 20000 in
theorem gL_law_X7_event : GoodIn wsL_law (wsV RL 195 RX7 yX7_event wsX7_event) := goodIn_app (goodIn_of _ (by decide +kernel)) ggL_law_X7_event
set_option maxRecDepth 20000 in
theorem ggL_law_L_meanDark : GoodIn wsL_law wsL_meanDark := goodIn_ca (goodIn_ca (goodIn_r _ [994, 661, 506, 995, 996, 997, 2, 998, 39, 17, 666, 667, 668, 669, 670, 671, 127, 886, 887, 888, 525, 847, 236, 237, 238, 736, 737, 738, 672, 673, 674, 511, 512, 527, 528, 529, 38, 530, 531, 532, 533, 534, 535, 536, 537, 538, 539, 540, 541, 542, 543, 544, 545, 301, 302, 16, 303, 47, 546, 547, 548, 549, 550, 551, 552, 553, 554, 555, 556, 557, 558, 559, 560, 561, 562, 563, 564, 565, 566, 567, 568, 569, 570, 571, 572, 573, 574, 575, 576, 577, 578, 579, 580, 581, 582, 583, 584, 585, 586, 587, 588, 589, 590, 1217, 1218, 1219, 1220, 1221, 1222, 1223, 1224, 1225, 1255, 1256, 1257, 1258, 1259, 1260, 1261, 1262, 1286, 1287, 1288, 1289, 1290, 1291, 1292, 1293, 1294, 1295, 1296, 1297, 1298, 1299, 1300] (by decide +kernel) (by decide +kernel)) (goodIn_sub (fun _ h => List.mem_append_right _ h) (by decide +kernel))) (goodIn_sub (fun _ h => List.mem_append_left _ (List.mem_append_right _ h)) (by decide +kernel))
set_option maxRecDepth 20000 in
theorem gL_law_L_meanDark : GoodIn wsL_law (va_wsS RL 196 yL_meanDark wsL_meanDark) := goodIn_app (goodIn_of _ (by decide +kernel)) ggL_law_L_meanDark
set_option maxRecDepth 20000 in
theorem ggL_law_X7_meanDark : GoodIn wsL_law wsX7_meanDark := goodIn_r _ [1002, 115, 689, 690, 691, 5, 692, 76, 390, 391, 392, 876, 877, 878, 459, 608, 609, 610, 611, 612, 613, 614, 615, 616, 617, 618, 619, 620, 621, 622, 623, 436, 437, 438, 439, 624, 625, 626, 627, 628, 629, 630, 631, 632, 633, 634, 635, 636, 637, 638, 639, 640, 641, 642, 643, 644, 645, 646, 647, 648, 649, 650, 651, 652, 653, 654, 655, 656, 657, 1226, 1227, 1228, 1229, 1230, 1231, 1232, 1233, 1234, 1235, 1236, 1237, 1238, 1239, 1240, 1241, 1242, 1243, 1244, 1245, 1246, 1247, 1248, 1249, 1250, 1251, 1252, 1253, 1254] (by decide +kernel) (by decide +kernel)
set_option maxRecDepth 20000 in
theorem gL_law_X7_meanDark : GoodIn wsL_law (wsV RL 199 RX7 yX7_meanDark wsX7_meanDark) := goodIn_app (goodIn_of _ (by decide +kernel)) ggL_law_X7_meanDark
set_option maxRecDepth 20000 in
theorem ggL_law_X6_worst : GoodIn wsL_law wsX6_worst := goodIn_r _ [1006, 17, 485, 520, 684, 582, 237, 583, 521, 522, 523, 2, 524, 39, 525, 526, 329, 330, 16, 331, 48, 527, 528, 529, 38, 530, 531, 532, 533, 534, 535, 536, 537, 538, 539, 540, 541, 542, 543, 544, 545, 301, 302, 303, 47, 546, 547, 548, 549, 550, 551, 552, 553, 554, 555, 556, 557, 558, 559, 560, 561, 562, 563, 564, 565, 566, 567, 568, 569, 570, 571, 572, 573, 574, 575, 576, 577, 578, 579, 580, 581, 584, 585, 586, 587, 588, 589, 590, 1217, 1218, 1219, 1220, 1221, 1222, 1223, 1224, 1225, 1255, 1256, 1257, 1258, 1259, 1260, 1261, 1262, 1286, 1287, 1288, 1289, 1290, 1291, 1292, 1293, 1294, 1295, 1296, 1297, 1298, 1299, 1300] (by decide +kernel) (by decide +kernel)
set_option maxRecDepth 20000 in
theorem gL_law_X6_worst : GoodIn wsL_law (wsV RL 200 RX6 yX6_worst wsX6_worst) := goodIn_app (goodIn_of _ (by decide +kernel)) ggL_law_X6_worst
set_option maxRecDepth 20000 in
theorem ggL_law_X7_worst : GoodIn wsL_law wsX7_worst := goodIn_r _ [1010, 115, 76, 599, 600, 601, 602, 5, 603, 468, 469, 470, 471, 604, 605, 606, 607, 459, 390, 391, 392, 608, 609, 610, 611, 612, 613, 614, 615, 616, 617, 618, 619, 620, 621, 622, 623, 436, 437, 438, 439, 624, 625, 626, 627, 628, 629, 630, 631, 632, 633, 634, 635, 636, 637, 638, 639, 640, 641, 642, 643, 644, 645, 646, 647, 648, 649, 650, 651, 652, 653, 654, 655, 656, 657, 1226, 1227, 1228, 1229, 1230, 1231, 1232, 1233, 1234, 1235, 1236, 1237, 1238, 1239, 1240, 1241, 1242, 1243, 1244, 1245, 1246, 1247, 1248, 1249, 1250, 1251, 1252, 1253, 1254] (by decide +kernel) (by decide +kernel)
set_option maxRecDepth 20000 in
theorem gL_law_X7_worst : GoodIn wsL_law (wsV RL 203 RX7 yX7_worst wsX7_worst) := goodIn_app (goodIn_of _ (by decide +kernel)) ggL_law_X7_worst
set_option maxRecDepth 20000 in
theorem ggL_law_L_burden : GoodIn wsL_law wsL_burden := goodIn_ca (goodIn_ca (goodIn_r _ [1013, 661, 506, 1014, 1015, 1016, 2, 1017, 18, 666, 667, 668, 669, 670, 671, 17, 127, 672, 673, 674, 511, 512, 1018, 1019, 1020, 1021, 353, 354, 355, 16, 356, 44, 142, 143, 144, 145, 45, 47, 48, 357, 358, 359, 1022, 1023, 1024, 1025, 300, 301, 302, 303, 1026, 631, 632, 633, 1027, 293, 294, 295, 680, 681, 682, 683, 485, 520, 684, 582, 237, 583, 526, 329, 330, 331, 521, 522, 523, 524, 39, 525, 527, 528, 529, 38, 530, 531, 532, 533, 534, 535, 536, 537, 538, 539, 540, 541, 542, 543, 544, 545, 546, 547, 548, 549, 550, 551, 552, 553, 554, 555, 556, 557, 558, 559, 560, 561, 562, 563, 564, 565, 566, 567, 568, 569, 570, 571, 572, 573, 574, 575, 576, 577, 578, 579, 580, 581, 584, 585, 586, 587, 588, 589, 590, 1217, 1218, 1219, 1220, 1221, 1222, 1223, 1224, 1225, 1255, 1256, 1257, 1258, 1259, 1260, 1261, 1262, 1286, 1287, 1288, 1289, 1290, 1291, 1292, 1293, 1294, 1295, 1296, 1297, 1298, 1299, 1300] (by decide +kernel) (by decide +kernel)) (goodIn_sub (fun _ h => List.mem_append_right _ h) (by decide +kernel))) (goodIn_sub (fun _ h => List.mem_append_left _ (List.mem_append_right _ h)) (by decide +kernel))
set_option maxRecDepth 20000 in
theorem gL_law_L_burden : GoodIn wsL_law (va_wsS RL 204 yL_burden wsL_burden) := goodIn_app (goodIn_of _ (by decide +kernel)) ggL_law_L_burden
set_option maxRecDepth 20000 in
theorem ggL_law_X7_burden : GoodIn wsL_law wsX7_burden := goodIn_r _ [1031, 115, 689, 690, 691, 5, 692, 76, 390, 391, 392, 1032, 1033, 1034, 1035, 436, 437, 438, 439, 630, 631, 632, 633, 440, 441, 442, 443, 697, 698, 699, 700, 599, 468, 469, 470, 471, 600, 601, 602, 603, 604, 605, 606, 607, 459, 608, 609, 610, 611, 612, 613, 614, 615, 616, 617, 618, 619, 620, 621, 622, 623, 624, 625, 626, 627, 628, 629, 634, 635, 636, 637, 638, 639, 640, 641, 642, 643, 644, 645, 646, 647, 648, 649, 650, 651, 652, 653, 654, 655, 656, 657, 1226, 1227, 1228, 1229, 1230, 1231, 1232, 1233, 1234, 1235, 1236, 1237, 1238, 1239, 1240, 1241, 1242, 1243, 1244, 1245, 1246, 1247, 1248, 1249, 1250, 1251, 1252, 1253, 1254] (by decide +kernel) (by decide +kernel)
set_option maxRecDepth 20000 in
theorem gL_law_X7_burden : GoodIn wsL_law (wsV RL 206 RX7 yX7_burden wsX7_burden) := goodIn_app (goodIn_of _ (by decide +kernel)) ggL_law_X7_burden
set_option maxRecDepth 20000 in
theorem ggL_law_L_bestShift : GoodIn wsL_law wsL_bestShift := goodIn_ca (goodIn_r _ [1038, 661, 1039, 1040, 1041, 2, 1042, 666, 667, 668, 669, 670, 671, 17, 127, 1043, 1044, 1045, 1046, 525, 1047, 18, 1018, 1019, 1020, 1021, 353, 354, 355, 16, 356, 44, 142, 143, 144, 145, 45, 47, 48, 357, 358, 359, 1022, 1023, 1024, 1025, 300, 301, 302, 303, 1026, 631, 632, 633, 1027, 293, 294, 295, 680, 681, 682, 683, 485, 520, 684, 582, 237, 583, 526, 329, 330, 331, 521, 522, 523, 524, 39, 527, 528, 529, 38, 530, 531, 532, 533, 534, 535, 536, 537, 538, 539, 540, 541, 542, 543, 544, 545, 546, 547, 548, 549, 550, 551, 552, 553, 554, 555, 556, 557, 558, 559, 560, 561, 562, 563, 564, 565, 566, 567, 568, 569, 570, 571, 572, 573, 574, 575, 576, 577, 578, 579, 580, 581, 584, 585, 586, 587, 588, 589, 590, 1217, 1218, 1219, 1220, 1221, 1222, 1223, 1224, 1225, 1255, 1256, 1257, 1258, 1259, 1260, 1261, 1262, 1286, 1287, 1288, 1289, 1290, 1291, 1292, 1293, 1294, 1295, 1296, 1297, 1298, 1299, 1300] (by decide +kernel) (by decide +kernel)) (goodIn_sub (fun _ h => List.mem_append_right _ h) (by decide +kernel))
set_option maxRecDepth 20000 in
theorem gL_law_L_bestShift : GoodIn wsL_law (va_wsS RL 207 yL_bestShift wsL_bestShift) := goodIn_app (goodIn_of _ (by decide +kernel)) ggL_law_L_bestShift
set_option maxRecDepth 20000 in
theorem ggL_law_X7_bestShift : GoodIn wsL_law wsX7_bestShift := goodIn_r _ [1051, 115, 689, 690, 691, 5, 692, 76, 390, 391, 392, 1052, 1053, 1054, 1055, 697, 698, 699, 700, 599, 468, 469, 470, 471, 600, 601, 602, 603, 604, 605, 606, 607, 459, 608, 609, 610, 611, 612, 613, 614, 615, 616, 617, 618, 619, 620, 621, 622, 623, 436, 437, 438, 439, 624, 625, 626, 627, 628, 629, 630, 631, 632, 633, 634, 635, 636, 637, 638, 639, 640, 641, 642, 643, 644, 645, 646, 647, 648, 649, 650, 651, 652, 653, 654, 655, 656, 657, 1032, 1033, 1034, 1035, 440, 441, 442, 443, 1226, 1227, 1228, 1229, 1230, 1231, 1232, 1233, 1234, 1235, 1236, 1237, 1238, 1239, 1240, 1241, 1242, 1243, 1244, 1245, 1246, 1247, 1248, 1249, 1250, 1251, 1252, 1253, 1254] (by decide +kernel) (by decide +kernel)
set_option maxRecDepth 20000 in
theorem gL_law_X7_bestShift : GoodIn wsL_law (wsV RL 209 RX7 yX7_bestShift wsX7_bestShift) := goodIn_app (goodIn_of _ (by decide +kernel)) ggL_law_X7_bestShift
set_option maxRecDepth 20000 in
theorem ggL_law_L_see : GoodIn wsL_law wsL_see := goodIn_ca (goodIn_ca (goodIn_r _ [1058, 661, 506, 1059, 1060, 1061, 2, 1062, 17, 485, 18, 666, 667, 668, 669, 670, 671, 127, 672, 673, 674, 511, 512, 736, 737, 738, 525, 1063, 325, 326, 16, 327, 145, 328, 329, 330, 331, 48, 353, 354, 355, 356, 44, 142, 143, 144, 45, 47, 357, 358, 359, 1064, 333, 334, 335, 336, 337, 338, 339, 340, 341, 342, 343, 22, 344, 345, 346, 21, 347, 53, 348, 349, 350, 236, 237, 238, 351, 352, 14, 15, 41, 42, 43, 12, 13, 6, 46, 1217, 1218, 1219, 1220, 1221, 1222, 1223, 1224, 1225, 1255, 1256, 1257, 1258, 1259, 1260, 1261, 1262, 1263, 1264, 1265] (by decide +kernel) (by decide +kernel)) (goodIn_sub (fun _ h => List.mem_append_right _ h) (by decide +kernel))) (goodIn_sub (fun _ h => List.mem_append_left _ (List.mem_append_right _ h)) (by decide +kernel))
set_option maxRecDepth 20000 in
theorem gL_law_L_see : GoodIn wsL_law (va_wsS RL 210 yL_see wsL_see) := goodIn_app (goodIn_of _ (by decide +kernel)) ggL_law_L_see
set_option maxRecDepth 20000 in
theorem ggL_law_X7_see : GoodIn wsL_law wsX7_see := goodIn_r _ [1068, 459, 115, 76, 689, 690, 691, 5, 692, 390, 391, 392, 464, 465, 466, 467, 468, 469, 470, 471, 476, 477, 478, 479, 480, 78, 370, 371, 372, 1226, 1227, 1228, 1229, 1230, 1231, 1232, 1233, 1234, 1235, 1236, 1237, 1238, 1239, 1240, 1241, 1242, 1243, 1244, 1245, 1246, 1247, 1248, 1249, 1250, 1251, 1252, 1253, 1254] (by decide +kernel) (by decide +kernel)
set_option maxRecDepth 20000 in
theorem gL_law_X7_see : GoodIn wsL_law (wsV RL 212 RX7 yX7_see wsX7_see) := goodIn_app (goodIn_of _ (by decide +kernel)) ggL_law_X7_see
set_option maxRecDepth 20000 in
theorem ggL_law_L_forget : GoodIn wsL_law wsL_forget := goodIn_ca (goodIn_r _ [1071, 661, 1072, 1073, 1074, 2, 1075, 18, 17, 485, 708, 709, 710, 711, 670, 671, 353, 354, 355, 16, 356, 44, 142, 143, 144, 145, 45, 47, 48, 357, 358, 359, 1076, 1077, 1078, 1079, 328, 329, 330, 331, 336, 337, 338, 339, 340, 341, 342, 343, 22, 344, 345, 346, 21, 347, 53, 348, 349, 350, 236, 237, 238, 351, 352, 14, 15, 41, 42, 43, 12, 13, 6, 46, 1217, 1218, 1219, 1220, 1221, 1222, 1223, 1224, 1225, 1255, 1256, 1257, 1258, 1259, 1260, 1261, 1262, 1263, 1264, 1265] (by decide +kernel) (by decide +kernel)) (goodIn_sub (fun _ h => List.mem_append_right _ h) (by decide +kernel))
set_option maxRecDepth 20000 in
theorem gL_law_L_forget : GoodIn wsL_law (va_wsS RL 213 yL_forget wsL_forget) := goodIn_app (goodIn_of _ (by decide +kernel)) ggL_law_L_forget
set_option maxRecDepth 20000 in
theorem ggL_law_X7_forget : GoodIn wsL_law wsX7_forget := goodIn_r _ [1083, 115, 76, 716, 717, 718, 5, 719, 390, 391, 392, 476, 477, 478, 479, 480, 78, 370, 371, 372, 1226, 1227, 1228, 1229, 1230, 1231, 1232, 1233, 1234, 1235, 1236, 1237, 1238, 1239, 1240, 1241, 1242, 1243, 1244, 1245, 1246, 1247, 1248, 1249, 1250, 1251, 1252, 1253, 1254] (by decide +kernel) (by decide +kernel)
set_option maxRecDepth 20000 in
theorem gL_law_X7_forget : GoodIn wsL_law (wsV RL 215 RX7 yX7_forget wsX7_forget) := goodIn_app (goodIn_of _ (by decide +kernel)) ggL_law_X7_forget
set_option maxRecDepth 20000 in
theorem ggL_law_L_setMoon : GoodIn wsL_law wsL_setMoon := goodIn_ca (goodIn_ca (goodIn_r _ [1086, 661, 506, 1087, 1088, 1089, 2, 1090, 18, 17, 666, 667, 668, 669, 670, 671, 127, 672, 673, 674, 511, 512, 1091, 286, 287, 288, 1092, 289, 290, 291, 353, 354, 355, 16, 356, 44, 142, 143, 144, 145, 45, 47, 48, 357, 358, 359, 1093, 293, 294, 295, 1094, 297, 298, 299, 300, 301, 302, 303, 679, 340, 341, 342, 343, 22, 344, 345, 346, 21, 347, 53, 348, 349, 350, 236, 237, 238, 351, 352, 14, 15, 41, 42, 43, 12, 13, 6, 46, 1217, 1218, 1219, 1220, 1221, 1222, 1223, 1224, 1225, 1255, 1256, 1257, 1258, 1259, 1260, 1261, 1262, 1263, 1264, 1265] (by decide +kernel) (by decide +kernel)) (goodIn_sub (fun _ h => List.mem_append_right _ h) (by decide +kernel))) (goodIn_sub (fun _ h => List.mem_append_left _ (List.mem_append_right _ h)) (by decide +kernel))
set_option maxRecDepth 20000 in
theorem gL_law_L_setMoon : GoodIn wsL_law (va_wsS RL 216 yL_setMoon wsL_setMoon) := goodIn_app (goodIn_of _ (by decide +kernel)) ggL_law_L_setMoon
set_option maxRecDepth 20000 in
theorem ggL_law_X7_setMoon : GoodIn wsL_law wsX7_setMoon := goodIn_r _ [1098, 115, 76, 689, 690, 691, 5, 692, 390, 391, 392, 444, 445, 446, 447, 448, 449, 450, 436, 437, 438, 439, 440, 441, 442, 443, 451, 452, 453, 454, 476, 477, 478, 479, 480, 78, 370, 371, 372, 1226, 1227, 1228, 1229, 1230, 1231, 1232, 1233, 1234, 1235, 1236, 1237, 1238, 1239, 1240, 1241, 1242, 1243, 1244, 1245, 1246, 1247, 1248, 1249, 1250, 1251, 1252, 1253, 1254] (by decide +kernel) (by decide +kernel)
set_option maxRecDepth 20000 in
theorem gL_law_X7_setMoon : GoodIn wsL_law (wsV RL 218 RX7 yX7_setMoon wsX7_setMoon) := goodIn_app (goodIn_of _ (by decide +kernel)) ggL_law_X7_setMoon
set_option maxRecDepth 20000 in
theorem ggL_law_L_setLight : GoodIn wsL_law wsL_setLight := goodIn_ca (goodIn_r _ [1101, 506, 1102, 1103, 1104, 2, 1105, 17, 514, 18, 515, 672, 673, 674, 511, 512, 353, 354, 355, 16, 356, 44, 142, 143, 144, 145, 45, 47, 48, 357, 358, 359, 340, 341, 342, 343, 22, 344, 345, 346, 21, 347, 53, 348, 349, 350, 236, 237, 238, 351, 352, 14, 15, 41, 42, 43, 12, 13, 6, 46, 1217, 1218, 1219, 1220, 1221, 1222, 1223, 1224, 1225, 1255, 1256, 1257, 1258, 1259, 1260, 1261, 1262, 1263, 1264, 1265] (by decide +kernel) (by decide +kernel)) (goodIn_sub (fun _ h => List.mem_append_left _ (List.mem_append_right _ h)) (by decide +kernel))
set_option maxRecDepth 20000 in
theorem gL_law_L_setLight : GoodIn wsL_law (va_wsS RL 219 yL_setLight wsL_setLight) := goodIn_app (goodIn_of _ (by decide +kernel)) ggL_law_L_setLight
set_option maxRecDepth 20000 in
theorem ggL_law_X7_setLight : GoodIn wsL_law wsX7_setLight := goodIn_r _ [1109, 115, 76, 390, 391, 5, 392, 476, 477, 478, 479, 480, 78, 370, 371, 372, 1226, 1227, 1228, 1229, 1230, 1231, 1232, 1233, 1234, 1235, 1236, 1237, 1238, 1239, 1240, 1241, 1242, 1243, 1244, 1245, 1246, 1247, 1248, 1249, 1250, 1251, 1252, 1253, 1254] (by decide +kernel) (by decide +kernel)
set_option maxRecDepth 20000 in
theorem gL_law_X7_setLight : GoodIn wsL_law (wsV RL 221 RX7 yX7_setLight wsX7_setLight) := goodIn_app (goodIn_of _ (by decide +kernel)) ggL_law_X7_setLight
set_option maxRecDepth 20000 in
theorem ggL_law_L_shift : GoodIn wsL_law wsL_shift := goodIn_ca (goodIn_r _ [1112, 661, 1113, 1114, 1115, 2, 1116, 17, 666, 667, 668, 669, 670, 671, 127, 1043, 1044, 1045, 1046, 525, 1047, 18, 1018, 1019, 1020, 1021, 353, 354, 355, 16, 356, 44, 142, 143, 144, 145, 45, 47, 48, 357, 358, 359, 1022, 1023, 1024, 1025, 300, 301, 302, 303, 1026, 631, 632, 633, 1027, 293, 294, 295, 680, 681, 682, 683, 485, 520, 684, 582, 237, 583, 526, 329, 330, 331, 521, 522, 523, 524, 39, 527, 528, 529, 38, 530, 531, 532, 533, 534, 535, 536, 537, 538, 539, 540, 541, 542, 543, 544, 545, 546, 547, 548, 549, 550, 551, 552, 553, 554, 555, 556, 557, 558, 559, 560, 561, 562, 563, 564, 565, 566, 567, 568, 569, 570, 571, 572, 573, 574, 575, 576, 577, 578, 579, 580, 581, 584, 585, 586, 587, 588, 589, 590, 340, 341, 342, 343, 22, 344, 345, 346, 21, 347, 53, 348, 349, 350, 236, 238, 351, 352, 14, 15, 41, 42, 43, 12, 13, 6, 46, 1217, 1218, 1219, 1220, 1221, 1222, 1223, 1224, 1225, 1255, 1256, 1257, 1258, 1259, 1260, 1261, 1262, 1286, 1287, 1288, 1289, 1290, 1291, 1292, 1293, 1294, 1295, 1296, 1297, 1298, 1299, 1300, 1263, 1264, 1265] (by decide +kernel) (by decide +kernel)) (goodIn_sub (fun _ h => List.mem_append_right _ h) (by decide +kernel))
set_option maxRecDepth 20000 in
theorem gL_law_L_shift : GoodIn wsL_law (va_wsS RL 222 yL_shift wsL_shift) := goodIn_app (goodIn_of _ (by decide +kernel)) ggL_law_L_shift
set_option maxRecDepth 20000 in
theorem ggL_law_X7_shift : GoodIn wsL_law wsX7_shift := goodIn_r _ [1120, 115, 76, 689, 690, 691, 5, 692, 390, 391, 392, 1052, 1053, 1054, 1055, 697, 698, 699, 700, 599, 468, 469, 470, 471, 600, 601, 602, 603, 604, 605, 606, 607, 459, 608, 609, 610, 611, 612, 613, 614, 615, 616, 617, 618, 619, 620, 621, 622, 623, 436, 437, 438, 439, 624, 625, 626, 627, 628, 629, 630, 631, 632, 633, 634, 635, 636, 637, 638, 639, 640, 641, 642, 643, 644, 645, 646, 647, 648, 649, 650, 651, 652, 653, 654, 655, 656, 657, 1032, 1033, 1034, 1035, 440, 441, 442, 443, 476, 477, 478, 479, 480, 78, 370, 371, 372, 1226, 1227, 1228, 1229, 1230, 1231, 1232, 1233, 1234, 1235, 1236, 1237, 1238, 1239, 1240, 1241, 1242, 1243, 1244, 1245, 1246, 1247, 1248, 1249, 1250, 1251, 1252, 1253, 1254] (by decide +kernel) (by decide +kernel)
set_option maxRecDepth 20000 in
theorem gL_law_X7_shift : GoodIn wsL_law (wsV RL 224 RX7 yX7_shift wsX7_shift) := goodIn_app (goodIn_of _ (by decide +kernel)) ggL_law_X7_shift
set_option maxRecDepth 20000 in
theorem ggL_law_L_undo : GoodIn wsL_law wsL_undo := goodIn_ca (goodIn_r _ [1123, 94, 1124, 1125, 1126, 2, 1127, 99, 100, 22, 1128, 17, 1129, 1130, 1131, 21, 1132, 348, 349, 53, 1133, 1134, 1135, 354, 355, 16, 356, 44, 142, 143, 144, 145, 45, 47, 48, 357, 358, 359, 1217, 1218, 1219, 1220, 1221, 1222, 1223, 1224, 1225, 1263, 1264, 1265, 1255, 1256, 1257, 1258, 1259, 1260, 1261, 1262] (by decide +kernel) (by decide +kernel)) (goodIn_sub (fun _ h => List.mem_append_left _ (List.mem_append_left _ (List.mem_append_right _ h))) (by decide +kernel))
set_option maxRecDepth 20000 in
theorem gL_law_L_undo : GoodIn wsL_law (va_wsS RL 225 yL_undo wsL_undo) := goodIn_app (goodIn_of _ (by decide +kernel)) ggL_law_L_undo
set_option maxRecDepth 20000 in
theorem ggL_law_X7_undo : GoodIn wsL_law wsX7_undo := goodIn_r _ [1139, 480, 115, 76, 78, 370, 371, 5, 372, 1226, 1227, 1228, 1229, 1230, 1231, 1232, 1233, 1234, 1235, 1236, 1237, 1238, 1239, 1240, 1241, 1242, 1243, 1244, 1245, 1246, 1247, 1248, 1249, 1250, 1251, 1252, 1253, 1254] (by decide +kernel) (by decide +kernel)
set_option maxRecDepth 20000 in
theorem gL_law_X7_undo : GoodIn wsL_law (wsV RL 228 RX7 yX7_undo wsX7_undo) := goodIn_app (goodIn_of _ (by decide +kernel)) ggL_law_X7_undo
set_option maxRecDepth 20000 in
theorem ggL_law_L_save : GoodIn wsL_law wsL_save := goodIn_ca (goodIn_r _ [1142, 661, 1143, 1144, 1145, 2, 1146, 23, 17, 1147, 1148, 1149, 670, 671, 1150, 351, 352, 14, 15, 16, 41, 42, 43, 12, 13, 44, 6, 45, 46, 47, 48, 353, 354, 355, 356, 142, 143, 144, 145, 357, 358, 359, 1217, 1218, 1219, 1220, 1221, 1222, 1223, 1224, 1225, 1255, 1256, 1257, 1258, 1259, 1260, 1261, 1262] (by decide +kernel) (by decide +kernel)) (goodIn_sub (fun _ h => List.mem_append_right _ h) (by decide +kernel))
set_option maxRecDepth 20000 in
theorem gL_law_L_save : GoodIn wsL_law (va_wsS RL 229 yL_save wsL_save) := goodIn_app (goodIn_of _ (by decide +kernel)) ggL_law_L_save
set_option maxRecDepth 20000 in
theorem ggL_law_X7_save : GoodIn wsL_law wsX7_save := goodIn_r _ [1154, 115, 79, 76, 81, 390, 391, 5, 392, 370, 371, 372, 1226, 1227, 1228, 1229, 1230, 1231, 1232, 1233, 1234, 1235, 1236, 1237, 1238, 1239, 1240, 1241, 1242, 1243, 1244, 1245, 1246, 1247, 1248, 1249, 1250, 1251, 1252, 1253, 1254] (by decide +kernel) (by decide +kernel)
set_option maxRecDepth 20000 in
theorem gL_law_X7_save : GoodIn wsL_law (wsV RL 232 RX7 yX7_save wsX7_save) := goodIn_app (goodIn_of _ (by decide +kernel)) ggL_law_X7_save
set_option maxRecDepth 20000 in
theorem ggL_law_L_restore : GoodIn wsL_law wsL_restore := goodIn_ca (goodIn_ca (goodIn_r _ [1157, 661, 94, 1158, 1159, 1160, 2, 1161, 99, 100, 23, 18, 17, 127, 1147, 1148, 1149, 670, 671, 1162, 1133, 1134, 353, 354, 355, 16, 356, 44, 142, 143, 144, 145, 45, 47, 48, 357, 358, 359, 340, 341, 342, 343, 22, 344, 345, 346, 21, 347, 53, 348, 349, 350, 236, 237, 238, 351, 352, 14, 15, 41, 42, 43, 12, 13, 6, 46, 1217, 1218, 1219, 1220, 1221, 1222, 1223, 1224, 1225, 1255, 1256, 1257, 1258, 1259, 1260, 1261, 1262, 1263, 1264, 1265] (by decide +kernel) (by decide +kernel)) (goodIn_sub (fun _ h => List.mem_append_left _ (List.mem_append_left _ (List.mem_append_right _ h))) (by decide +kernel))) (goodIn_sub (fun _ h => List.mem_append_right _ h) (by decide +kernel))
set_option maxRecDepth 20000 in
theorem gL_law_L_restore : GoodIn wsL_law (va_wsS RL 233 yL_restore wsL_restore) := goodIn_app (goodIn_of _ (by decide +kernel)) ggL_law_L_restore
set_option maxRecDepth 20000 in
theorem ggL_law_X7_restore : GoodIn wsL_law wsX7_restore := goodIn_r _ [1166, 81, 115, 76, 79, 390, 391, 5, 392, 476, 477, 478, 479, 480, 78, 370, 371, 372, 1226, 1227, 1228, 1229, 1230, 1231, 1232, 1233, 1234, 1235, 1236, 1237, 1238, 1239, 1240, 1241, 1242, 1243, 1244, 1245, 1246, 1247, 1248, 1249, 1250, 1251, 1252, 1253, 1254] (by decide +kernel) (by decide +kernel)
set_option maxRecDepth 20000 in
theorem gL_law_X7_restore : GoodIn wsL_law (wsV RL 235 RX7 yX7_restore wsX7_restore) := goodIn_app (goodIn_of _ (by decide +kernel)) ggL_law_X7_restore
set_option maxRecDepth 20000 in
theorem ggL_law_L_writeTable : GoodIn wsL_law wsL_writeTable := goodIn_ca (goodIn_r _ [1169, 506, 1170, 1171, 1172, 2, 1173, 31, 1174, 35, 17, 981, 983, 982, 886, 887, 888, 525, 847, 236, 237, 238, 736, 737, 738, 672, 673, 674, 511, 512, 915, 916, 917, 34, 918, 919, 920, 921, 922, 923, 924, 925, 68, 926, 528, 529, 38, 530, 531, 532, 533, 534, 535, 536, 537, 538, 539, 540, 541, 542, 543, 544, 545, 301, 302, 16, 303, 47, 546, 547, 548, 549, 550, 551, 552, 553, 554, 927, 556, 557, 558, 559, 560, 561, 562, 563, 564, 565, 566, 567, 568, 569, 570, 571, 572, 573, 574, 575, 576, 577, 578, 579, 580, 581, 582, 583, 584, 585, 586, 587, 928, 929, 930, 931, 932, 933, 934, 935, 936, 937, 938, 939, 940, 941, 942, 589, 590, 1175, 1176, 1177, 30, 1178, 1179, 63, 1180, 1181, 1182, 1183, 1184, 1185, 1186, 322, 323, 1187, 1188, 1189, 1190, 1191, 174, 175, 176, 177, 178, 179, 180, 181, 182, 183, 184, 1192, 190, 191, 192, 193, 194, 195, 196, 197, 198, 199, 200, 201, 202, 203, 204, 205, 206, 207, 208, 209, 210, 211, 212, 213, 214, 215, 216, 217, 218, 219, 220, 221, 222, 223, 224, 225, 1193, 275, 276, 277, 45, 1194, 1195, 1196, 1197, 1217, 1218, 1219, 1220, 1221, 1222, 1223, 1224, 1225, 1274, 1275, 1276, 1277, 1278, 1279, 1280, 1281, 1282, 1283, 1284, 1285, 1255, 1256, 1257, 1258, 1259, 1260, 1261, 1262, 1286, 1287, 1288, 1289, 1290, 1291, 1292, 1293, 1294, 1295, 1296, 1297, 1298, 1299, 1300] (by decide +kernel) (by decide +kernel)) (goodIn_sub (fun _ h => List.mem_append_left _ (List.mem_append_right _ h)) (by decide +kernel))
set_option maxRecDepth 20000 in
theorem gL_law_L_writeTable : GoodIn wsL_law (va_wsS RL 236 yL_writeTable wsL_writeTable) := goodIn_app (goodIn_of _ (by decide +kernel)) ggL_law_L_writeTable
set_option maxRecDepth 20000 in
theorem ggL_law_X7_writeTable : GoodIn wsL_law wsX7_writeTable := goodIn_r _ [1201, 115, 965, 960, 947, 876, 877, 5, 878, 459, 390, 391, 392, 949, 950, 951, 952, 948, 76, 84, 953, 954, 955, 608, 609, 610, 611, 612, 613, 614, 615, 616, 617, 618, 619, 620, 621, 622, 623, 436, 437, 438, 439, 624, 625, 626, 627, 628, 629, 630, 631, 632, 633, 634, 635, 636, 637, 638, 639, 640, 641, 642, 643, 644, 645, 646, 647, 648, 649, 650, 651, 652, 653, 654, 655, 656, 657, 956, 957, 958, 959, 961, 962, 963, 964, 85, 966, 967, 968, 969, 970, 971, 972, 973, 401, 174, 175, 176, 177, 178, 179, 180, 181, 182, 183, 184, 402, 190, 191, 192, 193, 194, 195, 196, 197, 198, 199, 200, 201, 202, 203, 204, 205, 206, 207, 208, 209, 210, 211, 212, 213, 214, 215, 216, 217, 218, 219, 220, 221, 222, 223, 224, 225, 1226, 1227, 1228, 1229, 1230, 1231, 1232, 1233, 1234, 1235, 1236, 1237, 1238, 1239, 1240, 1241, 1242, 1243, 1244, 1245, 1246, 1247, 1248, 1249, 1250, 1251, 1252, 1253, 1254] (by decide +kernel) (by decide +kernel)
set_option maxRecDepth 20000 in
theorem gL_law_X7_writeTable : GoodIn wsL_law (wsV RL 238 RX7 yX7_writeTable wsX7_writeTable) := goodIn_app (goodIn_of _ (by decide +kernel)) ggL_law_X7_writeTable
set_option maxRecDepth 20000 in
theorem ggL_law_L_writtenByte : GoodIn wsL_law wsL_writtenByte := goodIn_ca (goodIn_r _ [1204, 661, 1205, 1206, 1207, 2, 1208, 670, 671, 31, 1174, 1209, 1210, 1211, 30, 1212, 1179, 63, 1217, 1218, 1219, 1220, 1221, 1222, 1223, 1224, 1225, 1274, 1275] (by decide +kernel) (by decide +kernel)) (goodIn_sub (fun _ h => List.mem_append_right _ h) (by decide +kernel))
set_option maxRecDepth 20000 in
theorem gL_law_L_writtenByte : GoodIn wsL_law (va_wsS RL 239 yL_writtenByte wsL_writtenByte) := goodIn_app (goodIn_of _ (by decide +kernel)) ggL_law_L_writtenByte
set_option maxRecDepth 20000 in
theorem ggL_law_X7_writtenByte : GoodIn wsL_law wsX7_writtenByte := goodIn_r _ [1216, 965, 115, 85, 390, 391, 5, 392, 1226, 1227, 1228, 1229, 1230, 1231, 1232, 1233, 1234, 1235, 1236, 1237, 1238, 1239, 1240, 1241, 1242, 1243, 1244, 1245, 1246, 1247, 1248, 1249, 1250, 1251, 1252, 1253, 1254] (by decide +kernel) (by decide +kernel)
set_option maxRecDepth 20000 in
theorem gL_law_X7_writtenByte : GoodIn wsL_law (wsV RL 241 RX7 yX7_writtenByte wsX7_writtenByte) := goodIn_app (goodIn_of _ (by decide +kernel)) ggL_law_X7_writtenByte
theorem dL_law_0 : decode cL_law 0 = .ok (.new 8, 3) := by decide +kernel
theorem dL_law_3 : decode cL_law 3 = .ok (.dup, 1) := by decide +kernel
theorem dL_law_4 : decode cL_law 4 = .ok (.invokespecial 115, 3) := by decide +kernel
theorem dL_law_7 : decode cL_law 7 = .ok (.astore_n 1, 1) := by decide +kernel
theorem dL_law_8 : decode cL_law 8 = .ok (.new 116, 3) := by decide +kernel
theorem dL_law_11 : decode cL_law 11 = .ok (.dup, 1) := by decide +kernel
theorem dL_law_12 : decode cL_law 12 = .ok (.invokespecial 118, 3) := by decide +kernel
theorem dL_law_15 : decode cL_law 15 = .ok (.astore_n 2, 1) := by decide +kernel
theorem dL_law_16 : decode cL_law 16 = .ok (.iconst 1, 1) := by decide +kernel
theorem dL_law_17 : decode cL_law 17 = .ok (.newarray .long, 2) := by decide +kernel
theorem dL_law_19 : decode cL_law 19 = .ok (.astore_n 3, 1) := by decide +kernel
theorem dL_law_20 : decode cL_law 20 = .ok (.iconst 1, 1) := by decide +kernel
theorem dL_law_21 : decode cL_law 21 = .ok (.newarray .double, 2) := by decide +kernel
theorem dL_law_23 : decode cL_law 23 = .ok (.astore 4, 2) := by decide +kernel
theorem dL_law_25 : decode cL_law 25 = .ok (.iconst 0, 1) := by decide +kernel
theorem dL_law_26 : decode cL_law 26 = .ok (.istore 5, 2) := by decide +kernel
theorem dL_law_28 : decode cL_law 28 = .ok (.iload 5, 2) := by decide +kernel
theorem dL_law_30 : decode cL_law 30 = .ok (.aload_n 0, 1) := by decide +kernel
theorem dL_law_31 : decode cL_law 31 = .ok (.arraylength, 1) := by decide +kernel
theorem dL_law_32 : decode cL_law 32 = .ok (.bipush 6, 2) := by decide +kernel
theorem dL_law_34 : decode cL_law 34 = .ok (.isub, 1) := by decide +kernel
theorem dL_law_35 : decode cL_law 35 = .ok (.if_icmp .gt 2331, 3) := by decide +kernel
theorem dL_law_38 : decode cL_law 38 = .ok (.aload_n 0, 1) := by decide +kernel
theorem dL_law_39 : decode cL_law 39 = .ok (.iload 5, 2) := by decide +kernel
theorem dL_law_41 : decode cL_law 41 = .ok (.iaload, 1) := by decide +kernel
theorem dL_law_42 : decode cL_law 42 = .ok (.bipush 63, 2) := by decide +kernel
theorem dL_law_44 : decode cL_law 44 = .ok (.iand, 1) := by decide +kernel
theorem dL_law_45 : decode cL_law 45 = .ok (.tableswitch 2315 0 34 #[155, 259, 272, 285, 298, 354, 422, 490, 515, 571, 651, 718, 786, 861, 929, 997, 1077, 1169, 1237, 1317, 1385, 1477, 1578, 1591, 1659, 1715, 1795, 1851, 1931, 1999, 2055, 2099, 2135, 2191, 2259], 155) := by decide +kernel
theorem dL_law_200 : decode cL_law 200 = .ok (.aload_n 1, 1) := by decide +kernel
theorem dL_law_201 : decode cL_law 201 = .ok (.aload_n 0, 1) := by decide +kernel
theorem dL_law_202 : decode cL_law 202 = .ok (.iload 5, 2) := by decide +kernel
theorem dL_law_204 : decode cL_law 204 = .ok (.iconst 1, 1) := by decide +kernel
theorem dL_law_205 : decode cL_law 205 = .ok (.iadd, 1) := by decide +kernel
theorem dL_law_206 : decode cL_law 206 = .ok (.iaload, 1) := by decide +kernel
theorem dL_law_207 : decode cL_law 207 = .ok (.aload_n 0, 1) := by decide +kernel
theorem dL_law_208 : decode cL_law 208 = .ok (.iload 5, 2) := by decide +kernel
theorem dL_law_210 : decode cL_law 210 = .ok (.iconst 2, 1) := by decide +kernel
theorem dL_law_211 : decode cL_law 211 = .ok (.iadd, 1) := by decide +kernel
theorem dL_law_212 : decode cL_law 212 = .ok (.iaload, 1) := by decide +kernel
theorem dL_law_213 : decode cL_law 213 = .ok (.aload_n 0, 1) := by decide +kernel
theorem dL_law_214 : decode cL_law 214 = .ok (.iload 5, 2) := by decide +kernel
theorem dL_law_216 : decode cL_law 216 = .ok (.iconst 3, 1) := by decide +kernel
theorem dL_law_217 : decode cL_law 217 = .ok (.iadd, 1) := by decide +kernel
theorem dL_law_218 : decode cL_law 218 = .ok (.iaload, 1) := by decide +kernel
theorem dL_law_219 : decode cL_law 219 = .ok (.aload_n 0, 1) := by decide +kernel
theorem dL_law_220 : decode cL_law 220 = .ok (.iload 5, 2) := by decide +kernel
theorem dL_law_222 : decode cL_law 222 = .ok (.iconst 4, 1) := by decide +kernel
theorem dL_law_223 : decode cL_law 223 = .ok (.iadd, 1) := by decide +kernel
theorem dL_law_224 : decode cL_law 224 = .ok (.iaload, 1) := by decide +kernel
theorem dL_law_225 : decode cL_law 225 = .ok (.aload_n 0, 1) := by decide +kernel
theorem dL_law_226 : decode cL_law 226 = .ok (.iload 5, 2) := by decide +kernel
theorem dL_law_228 : decode cL_law 228 = .ok (.iconst 5, 1) := by decide +kernel
theorem dL_law_229 : decode cL_law 229 = .ok (.iadd, 1) := by decide +kernel
theorem dL_law_230 : decode cL_law 230 = .ok (.iaload, 1) := by decide +kernel
theorem dL_law_231 : decode cL_law 231 = .ok (.aload_n 3, 1) := by decide +kernel
theorem dL_law_232 : decode cL_law 232 = .ok (.invokestatic 119, 3) := by decide +kernel
theorem dL_law_235 : decode cL_law 235 = .ok (.istore 6, 2) := by decide +kernel
theorem dL_law_237 : decode cL_law 237 = .ok (.aload_n 2, 1) := by decide +kernel
theorem dL_law_238 : decode cL_law 238 = .ok (.aload_n 0, 1) := by decide +kernel
theorem dL_law_239 : decode cL_law 239 = .ok (.iload 5, 2) := by decide +kernel
theorem dL_law_241 : decode cL_law 241 = .ok (.iconst 1, 1) := by decide +kernel
theorem dL_law_242 : decode cL_law 242 = .ok (.iadd, 1) := by decide +kernel
theorem dL_law_243 : decode cL_law 243 = .ok (.iaload, 1) := by decide +kernel
theorem dL_law_244 : decode cL_law 244 = .ok (.aload_n 0, 1) := by decide +kernel
theorem dL_law_245 : decode cL_law 245 = .ok (.iload 5, 2) := by decide +kernel
theorem dL_law_247 : decode cL_law 247 = .ok (.iconst 2, 1) := by decide +kernel
theorem dL_law_248 : decode cL_law 248 = .ok (.iadd, 1) := by decide +kernel
theorem dL_law_249 : decode cL_law 249 = .ok (.iaload, 1) := by decide +kernel
theorem dL_law_250 : decode cL_law 250 = .ok (.aload_n 0, 1) := by decide +kernel
theorem dL_law_251 : decode cL_law 251 = .ok (.iload 5, 2) := by decide +kernel
theorem dL_law_253 : decode cL_law 253 = .ok (.iconst 3, 1) := by decide +kernel
theorem dL_law_254 : decode cL_law 254 = .ok (.iadd, 1) := by decide +kernel
theorem dL_law_255 : decode cL_law 255 = .ok (.iaload, 1) := by decide +kernel
theorem dL_law_256 : decode cL_law 256 = .ok (.aload_n 0, 1) := by decide +kernel
theorem dL_law_257 : decode cL_law 257 = .ok (.iload 5, 2) := by decide +kernel
theorem dL_law_259 : decode cL_law 259 = .ok (.iconst 4, 1) := by decide +kernel
theorem dL_law_260 : decode cL_law 260 = .ok (.iadd, 1) := by decide +kernel
theorem dL_law_261 : decode cL_law 261 = .ok (.iaload, 1) := by decide +kernel
theorem dL_law_262 : decode cL_law 262 = .ok (.aload_n 0, 1) := by decide +kernel
theorem dL_law_263 : decode cL_law 263 = .ok (.iload 5, 2) := by decide +kernel
theorem dL_law_265 : decode cL_law 265 = .ok (.iconst 5, 1) := by decide +kernel
theorem dL_law_266 : decode cL_law 266 = .ok (.iadd, 1) := by decide +kernel
theorem dL_law_267 : decode cL_law 267 = .ok (.iaload, 1) := by decide +kernel
theorem dL_law_268 : decode cL_law 268 = .ok (.invokevirtual 124, 3) := by decide +kernel
theorem dL_law_271 : decode cL_law 271 = .ok (.istore 7, 2) := by decide +kernel
theorem dL_law_273 : decode cL_law 273 = .ok (.aload_n 2, 1) := by decide +kernel
theorem dL_law_274 : decode cL_law 274 = .ok (.invokevirtual 125, 3) := by decide +kernel
theorem dL_law_277 : decode cL_law 277 = .ok (.iload 6, 2) := by decide +kernel
theorem dL_law_279 : decode cL_law 279 = .ok (.if_icmp .eq 5, 3) := by decide +kernel
theorem dL_law_282 : decode cL_law 282 = .ok (.iconst 0, 1) := by decide +kernel
theorem dL_law_283 : decode cL_law 283 = .ok (.ireturn, 1) := by decide +kernel
theorem dL_law_284 : decode cL_law 284 = .ok (.iload 6, 2) := by decide +kernel
theorem dL_law_286 : decode cL_law 286 = .ok (.ifCond .ne 15, 3) := by decide +kernel
theorem dL_law_289 : decode cL_law 289 = .ok (.aload_n 3, 1) := by decide +kernel
theorem dL_law_290 : decode cL_law 290 = .ok (.iconst 0, 1) := by decide +kernel
theorem dL_law_291 : decode cL_law 291 = .ok (.laload, 1) := by decide +kernel
theorem dL_law_292 : decode cL_law 292 = .ok (.iload 7, 2) := by decide +kernel
theorem dL_law_294 : decode cL_law 294 = .ok (.i2l, 1) := by decide +kernel
theorem dL_law_295 : decode cL_law 295 = .ok (.lcmp, 1) := by decide +kernel
theorem dL_law_296 : decode cL_law 296 = .ok (.ifCond .eq 5, 3) := by decide +kernel
theorem dL_law_299 : decode cL_law 299 = .ok (.iconst 0, 1) := by decide +kernel
theorem dL_law_300 : decode cL_law 300 = .ok (.ireturn, 1) := by decide +kernel
theorem dL_law_301 : decode cL_law 301 = .ok (.goto 2059, 3) := by decide +kernel
theorem dL_law_304 : decode cL_law 304 = .ok (.aload_n 1, 1) := by decide +kernel
theorem dL_law_305 : decode cL_law 305 = .ok (.invokevirtual 128, 3) := by decide +kernel
theorem dL_law_308 : decode cL_law 308 = .ok (.aload_n 2, 1) := by decide +kernel
theorem dL_law_309 : decode cL_law 309 = .ok (.invokevirtual 131, 3) := by decide +kernel
theorem dL_law_312 : decode cL_law 312 = .ok (.if_icmp .eq 2048, 3) := by decide +kernel
theorem dL_law_315 : decode cL_law 315 = .ok (.iconst 0, 1) := by decide +kernel
theorem dL_law_316 : decode cL_law 316 = .ok (.ireturn, 1) := by decide +kernel
theorem dL_law_317 : decode cL_law 317 = .ok (.aload_n 1, 1) := by decide +kernel
theorem dL_law_318 : decode cL_law 318 = .ok (.invokevirtual 132, 3) := by decide +kernel
theorem dL_law_321 : decode cL_law 321 = .ok (.aload_n 2, 1) := by decide +kernel
theorem dL_law_322 : decode cL_law 322 = .ok (.invokevirtual 135, 3) := by decide +kernel
theorem dL_law_325 : decode cL_law 325 = .ok (.if_icmp .eq 2035, 3) := by decide +kernel
theorem dL_law_328 : decode cL_law 328 = .ok (.iconst 0, 1) := by decide +kernel
theorem dL_law_329 : decode cL_law 329 = .ok (.ireturn, 1) := by decide +kernel
theorem dL_law_330 : decode cL_law 330 = .ok (.aload_n 1, 1) := by decide +kernel
theorem dL_law_331 : decode cL_law 331 = .ok (.invokevirtual 136, 3) := by decide +kernel
theorem dL_law_334 : decode cL_law 334 = .ok (.aload_n 2, 1) := by decide +kernel
theorem dL_law_335 : decode cL_law 335 = .ok (.invokevirtual 139, 3) := by decide +kernel
theorem dL_law_338 : decode cL_law 338 = .ok (.if_icmp .eq 2022, 3) := by decide +kernel
theorem dL_law_341 : decode cL_law 341 = .ok (.iconst 0, 1) := by decide +kernel
theorem dL_law_342 : decode cL_law 342 = .ok (.ireturn, 1) := by decide +kernel
theorem dL_law_343 : decode cL_law 343 = .ok (.aload_n 1, 1) := by decide +kernel
theorem dL_law_344 : decode cL_law 344 = .ok (.aload_n 0, 1) := by decide +kernel
theorem dL_law_345 : decode cL_law 345 = .ok (.iload 5, 2) := by decide +kernel
theorem dL_law_347 : decode cL_law 347 = .ok (.iconst 1, 1) := by decide +kernel
theorem dL_law_348 : decode cL_law 348 = .ok (.iadd, 1) := by decide +kernel
theorem dL_law_349 : decode cL_law 349 = .ok (.iaload, 1) := by decide +kernel
theorem dL_law_350 : decode cL_law 350 = .ok (.aload_n 3, 1) := by decide +kernel
theorem dL_law_351 : decode cL_law 351 = .ok (.invokestatic 140, 3) := by decide +kernel
theorem dL_law_354 : decode cL_law 354 = .ok (.istore 6, 2) := by decide +kernel
theorem dL_law_356 : decode cL_law 356 = .ok (.aload_n 2, 1) := by decide +kernel
theorem dL_law_357 : decode cL_law 357 = .ok (.aload_n 0, 1) := by decide +kernel
theorem dL_law_358 : decode cL_law 358 = .ok (.iload 5, 2) := by decide +kernel
theorem dL_law_360 : decode cL_law 360 = .ok (.iconst 1, 1) := by decide +kernel
theorem dL_law_361 : decode cL_law 361 = .ok (.iadd, 1) := by decide +kernel
theorem dL_law_362 : decode cL_law 362 = .ok (.iaload, 1) := by decide +kernel
theorem dL_law_363 : decode cL_law 363 = .ok (.invokevirtual 143, 3) := by decide +kernel
theorem dL_law_366 : decode cL_law 366 = .ok (.istore 7, 2) := by decide +kernel
theorem dL_law_368 : decode cL_law 368 = .ok (.aload_n 2, 1) := by decide +kernel
theorem dL_law_369 : decode cL_law 369 = .ok (.invokevirtual 125, 3) := by decide +kernel
theorem dL_law_372 : decode cL_law 372 = .ok (.iload 6, 2) := by decide +kernel
theorem dL_law_374 : decode cL_law 374 = .ok (.if_icmp .eq 5, 3) := by decide +kernel
theorem dL_law_377 : decode cL_law 377 = .ok (.iconst 0, 1) := by decide +kernel
theorem dL_law_378 : decode cL_law 378 = .ok (.ireturn, 1) := by decide +kernel
theorem dL_law_379 : decode cL_law 379 = .ok (.iload 6, 2) := by decide +kernel
theorem dL_law_381 : decode cL_law 381 = .ok (.ifCond .ne 15, 3) := by decide +kernel
theorem dL_law_384 : decode cL_law 384 = .ok (.aload_n 3, 1) := by decide +kernel
theorem dL_law_385 : decode cL_law 385 = .ok (.iconst 0, 1) := by decide +kernel
theorem dL_law_386 : decode cL_law 386 = .ok (.laload, 1) := by decide +kernel
theorem dL_law_387 : decode cL_law 387 = .ok (.iload 7, 2) := by decide +kernel
theorem dL_law_389 : decode cL_law 389 = .ok (.i2l, 1) := by decide +kernel
theorem dL_law_390 : decode cL_law 390 = .ok (.lcmp, 1) := by decide +kernel
theorem dL_law_391 : decode cL_law 391 = .ok (.ifCond .eq 5, 3) := by decide +kernel
theorem dL_law_394 : decode cL_law 394 = .ok (.iconst 0, 1) := by decide +kernel
theorem dL_law_395 : decode cL_law 395 = .ok (.ireturn, 1) := by decide +kernel
theorem dL_law_396 : decode cL_law 396 = .ok (.goto 1964, 3) := by decide +kernel
theorem dL_law_399 : decode cL_law 399 = .ok (.aload_n 1, 1) := by decide +kernel
theorem dL_law_400 : decode cL_law 400 = .ok (.aload_n 0, 1) := by decide +kernel
theorem dL_law_401 : decode cL_law 401 = .ok (.iload 5, 2) := by decide +kernel
