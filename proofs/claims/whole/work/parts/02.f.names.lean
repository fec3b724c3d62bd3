set_option maxRecDepth 20000 in
theorem gX6_shift_X6_bestDegrees : GoodIn wsX6_shift (wsV RX6 243 RX6 yX6_bestDegrees wsX6_bestDegrees) := goodIn_app (goodIn_of _ (by decide +kernel)) ggX6_shift_X6_bestDegrees
set_option maxRecDepth 20000 in
theorem ggX6_shift_X6_draftTurned : GoodIn wsX6_shift wsX6_draftTurned := goodIn_r _ [20, 16, 1, 21, 22, 23, 24, 25, 26, 27, 28, 29, 30, 31, 32, 33, 34, 35, 36, 37, 38, 39, 40, 41, 42, 43, 44, 45, 46, 47, 48, 49, 50, 51, 52, 162, 163, 164, 165, 166, 167, 168, 169, 170, 171, 172, 173, 174, 175, 176, 177, 178] (by decide +kernel) (by decide +kernel)
set_option maxRecDepth 20000 in
theorem gX6_shift_X6_draftTurned : GoodIn wsX6_shift (wsV RX6 240 RX6 yX6_draftTurned wsX6_draftTurned) := goodIn_app (goodIn_of _ (by decide +kernel)) ggX6_shift_X6_draftTurned
set_option maxRecDepth 20000 in
theorem ggX6_shift_X6_acceptDraft : GoodIn wsX6_shift wsX6_acceptDraft := goodIn_r _ [138, 139, 1, 16, 140, 141, 142, 143, 144, 145, 146, 147, 148, 149, 61, 150, 151, 5, 152, 153, 154, 24, 155, 156, 157, 158, 159, 26, 160, 31, 161, 32, 33, 21, 22, 23, 25, 27, 28, 29, 30, 34, 35, 36, 162, 163, 164, 165, 166, 167, 168, 169, 170, 194, 195, 196, 171, 172, 173, 174, 175, 176, 177, 178] (by decide +kernel) (by decide +kernel)
set_option maxRecDepth 20000 in
theorem gX6_shift_X6_acceptDraft : GoodIn wsX6_shift (wsV RX6 80 RX6 yX6_acceptDraft wsX6_acceptDraft) := goodIn_app (goodIn_of _ (by decide +kernel)) ggX6_shift_X6_acceptDraft
set_option maxRecDepth 20000 in
theorem ggX6_shift_X6_burdenOf : GoodIn wsX6_shift wsX6_burdenOf := goodIn_r _ [56, 57, 58, 59, 60, 61, 62, 63, 64, 65, 24, 66, 33, 67, 68, 69, 5, 70, 71, 14, 72, 73, 74, 75, 76, 77, 78, 79, 80, 81, 82, 83, 84, 85, 86, 87, 88, 89, 90, 91, 42, 43, 44, 32, 92, 93, 94, 95, 96, 97, 98, 99, 100, 101, 102, 103, 104, 105, 106, 107, 108, 109, 110, 111, 112, 113, 114, 115, 116, 117, 118, 119, 120, 121, 122, 123, 124, 125, 126, 127, 128, 129, 130, 131, 132, 133, 134, 171, 172, 173, 174, 175, 176, 177, 178, 162, 163, 164, 165, 166, 167, 168, 169, 170, 179, 180, 181, 182, 183, 184, 185, 186, 187, 188, 189, 190, 191, 192, 193] (by decide +kernel) (by decide +kernel)
set_option maxRecDepth 20000 in
theorem gX6_shift_X6_burdenOf : GoodIn wsX6_shift (wsV RX6 129 RX6 yX6_burdenOf wsX6_burdenOf) := goodIn_app (goodIn_of _ (by decide +kernel)) ggX6_shift_X6_burdenOf
theorem dX6_shift_0 : decode cX6_shift 0 = .ok (.aload_n 0, 1) := by decide +kernel
theorem dX6_shift_1 : decode cX6_shift 1 = .ok (.iload_n 1, 1) := by decide +kernel
theorem dX6_shift_2 : decode cX6_shift 2 = .ok (.invokevirtual 115, 3) := by decide +kernel
theorem dX6_shift_5 : decode cX6_shift 5 = .ok (.aload_n 0, 1) := by decide +kernel
theorem dX6_shift_6 : decode cX6_shift 6 = .ok (.iload_n 1, 1) := by decide +kernel
theorem dX6_shift_7 : decode cX6_shift 7 = .ok (.aload_n 0, 1) := by decide +kernel
theorem dX6_shift_8 : decode cX6_shift 8 = .ok (.iload_n 1, 1) := by decide +kernel
theorem dX6_shift_9 : decode cX6_shift 9 = .ok (.invokevirtual 243, 3) := by decide +kernel
theorem dX6_shift_12 : decode cX6_shift 12 = .ok (.invokevirtual 240, 3) := by decide +kernel
theorem dX6_shift_15 : decode cX6_shift 15 = .ok (.aload_n 0, 1) := by decide +kernel
theorem dX6_shift_16 : decode cX6_shift 16 = .ok (.invokevirtual 80, 3) := by decide +kernel
theorem dX6_shift_19 : decode cX6_shift 19 = .ok (.aload_n 0, 1) := by decide +kernel
theorem dX6_shift_20 : decode cX6_shift 20 = .ok (.aload_n 0, 1) := by decide +kernel
theorem dX6_shift_21 : decode cX6_shift 21 = .ok (.getfield 10, 3) := by decide +kernel
theorem dX6_shift_24 : decode cX6_shift 24 = .ok (.iload_n 1, 1) := by decide +kernel
theorem dX6_shift_25 : decode cX6_shift 25 = .ok (.invokevirtual 129, 3) := by decide +kernel
theorem dX6_shift_28 : decode cX6_shift 28 = .ok (.ireturn, 1) := by decide +kernel
set_option maxRecDepth 20000 in
theorem ggX6_undo_X0_bringBack : GoodIn wsX6_undo wsX0_bringBack := goodIn_r _ [10, 11, 12, 13, 14, 15, 16, 17, 18, 19, 20, 21, 22, 23, 24, 25, 26, 27, 28, 29, 30, 31, 32, 42, 43, 44, 45, 46, 47, 48, 49, 50, 51, 52] (by decide +kernel) (by decide +kernel)
set_option maxRecDepth 20000 in
theorem gX6_undo_X0_bringBack : GoodIn wsX6_undo (wsV RX6 271 RX0 yX0_bringBack wsX0_bringBack) := goodIn_app (goodIn_of _ (by decide +kernel)) ggX6_undo_X0_bringBack
theorem dX6_undo_0 : decode cX6_undo 0 = .ok (.aload_n 0, 1) := by decide +kernel
theorem dX6_undo_1 : decode cX6_undo 1 = .ok (.getfield 22, 3) := by decide +kernel
theorem dX6_undo_4 : decode cX6_undo 4 = .ok (.getfield 268, 3) := by decide +kernel
theorem dX6_undo_7 : decode cX6_undo 7 = .ok (.iconst 1, 1) := by decide +kernel
theorem dX6_undo_8 : decode cX6_undo 8 = .ok (.if_icmp .ge 11, 3) := by decide +kernel
theorem dX6_undo_11 : decode cX6_undo 11 = .ok (.new 69, 3) := by decide +kernel
theorem dX6_undo_14 : decode cX6_undo 14 = .ok (.dup, 1) := by decide +kernel
theorem dX6_undo_15 : decode cX6_undo 15 = .ok (.invokespecial 71, 3) := by decide +kernel
theorem dX6_undo_18 : decode cX6_undo 18 = .ok (.athrow, 1) := by decide +kernel
theorem dX6_undo_19 : decode cX6_undo 19 = .ok (.aload_n 0, 1) := by decide +kernel
theorem dX6_undo_20 : decode cX6_undo 20 = .ok (.getfield 22, 3) := by decide +kernel
theorem dX6_undo_23 : decode cX6_undo 23 = .ok (.aload_n 0, 1) := by decide +kernel
theorem dX6_undo_24 : decode cX6_undo 24 = .ok (.getfield 10, 3) := by decide +kernel
theorem dX6_undo_27 : decode cX6_undo 27 = .ok (.invokevirtual 271, 3) := by decide +kernel
theorem dX6_undo_30 : decode cX6_undo 30 = .ok (.aload_n 0, 1) := by decide +kernel
theorem dX6_undo_31 : decode cX6_undo 31 = .ok (.getfield 22, 3) := by decide +kernel
theorem dX6_undo_34 : decode cX6_undo 34 = .ok (.getfield 268, 3) := by decide +kernel
theorem dX6_undo_37 : decode cX6_undo 37 = .ok (.ireturn, 1) := by decide +kernel
set_option maxRecDepth 20000 in
theorem ggX6_save_X6_requireSlot : GoodIn wsX6_save wsX6_requireSlot := goodIn_ca (goodIn_r _ [6, 7, 8] (by decide +kernel) (by decide +kernel)) (goodIn_sub (fun _ h => List.mem_cons_of_mem _ (List.mem_append_right _ h)) (by decide +kernel))
set_option maxRecDepth 20000 in
theorem gX6_save_X6_requireSlot : GoodIn wsX6_save (va_wsS RX6 274 yX6_requireSlot wsX6_requireSlot) := goodIn_app (goodIn_of _ (by decide +kernel)) ggX6_save_X6_requireSlot
set_option maxRecDepth 20000 in
theorem ggX6_save_X6_keepIn : GoodIn wsX6_save wsX6_keepIn := goodIn_r _ [11, 12, 13, 14, 15, 16, 17, 18, 19, 20, 21, 22, 23, 24, 25, 26, 27, 28, 29, 30, 31, 32, 33, 34, 35, 36, 46, 47, 48, 49, 50, 51, 52, 53] (by decide +kernel) (by decide +kernel)
set_option maxRecDepth 20000 in
theorem gX6_save_X6_keepIn : GoodIn wsX6_save (va_wsS RX6 277 yX6_keepIn wsX6_keepIn) := goodIn_app (goodIn_of _ (by decide +kernel)) ggX6_save_X6_keepIn
theorem dX6_save_0 : decode cX6_save 0 = .ok (.iload_n 1, 1) := by decide +kernel
theorem dX6_save_1 : decode cX6_save 1 = .ok (.invokestatic 274, 3) := by decide +kernel
theorem dX6_save_4 : decode cX6_save 4 = .ok (.aload_n 0, 1) := by decide +kernel
theorem dX6_save_5 : decode cX6_save 5 = .ok (.getfield 26, 3) := by decide +kernel
theorem dX6_save_8 : decode cX6_save 8 = .ok (.iload_n 1, 1) := by decide +kernel
theorem dX6_save_9 : decode cX6_save 9 = .ok (.aload_n 0, 1) := by decide +kernel
theorem dX6_save_10 : decode cX6_save 10 = .ok (.getfield 10, 3) := by decide +kernel
theorem dX6_save_13 : decode cX6_save 13 = .ok (.invokestatic 277, 3) := by decide +kernel
theorem dX6_save_16 : decode cX6_save 16 = .ok (.return_, 1) := by decide +kernel
set_option maxRecDepth 20000 in
theorem ggX6_restore_X6_requireSlot : GoodIn wsX6_restore wsX6_requireSlot := goodIn_ca (goodIn_r _ [10, 11, 12] (by decide +kernel) (by decide +kernel)) (goodIn_sub (fun _ h => List.mem_cons_of_mem _ (List.mem_append_right _ h)) (by decide +kernel))
set_option maxRecDepth 20000 in
theorem gX6_restore_X6_requireSlot : GoodIn wsX6_restore (va_wsS RX6 274 yX6_requireSlot wsX6_requireSlot) := goodIn_app (goodIn_of _ (by decide +kernel)) ggX6_restore_X6_requireSlot
set_option maxRecDepth 20000 in
theorem ggX6_restore_X6_skyIn : GoodIn wsX6_restore wsX6_skyIn := goodIn_r _ [15] (by decide +kernel) (by decide +kernel)
set_option maxRecDepth 20000 in
theorem gX6_restore_X6_skyIn : GoodIn wsX6_restore (va_wsS RX6 281 yX6_skyIn wsX6_skyIn) := goodIn_app (goodIn_of _ (by decide +kernel)) ggX6_restore_X6_skyIn
set_option maxRecDepth 20000 in
theorem ggX6_restore_X1_copyFrom : GoodIn wsX6_restore wsX1_copyFrom := goodIn_r _ [20, 21, 22, 23, 24, 25, 26, 27, 28, 29, 30, 19, 31, 69, 70, 71, 72, 73, 74, 75, 76] (by decide +kernel) (by decide +kernel)
set_option maxRecDepth 20000 in
theorem gX6_restore_X1_copyFrom : GoodIn wsX6_restore (wsV RX6 86 RX1 yX1_copyFrom wsX1_copyFrom) := goodIn_app (goodIn_of _ (by decide +kernel)) ggX6_restore_X1_copyFrom
set_option maxRecDepth 20000 in
theorem ggX6_restore_X6_acceptDraft : GoodIn wsX6_restore wsX6_acceptDraft := goodIn_r _ [35, 36, 5, 4, 37, 38, 39, 40, 41, 42, 43, 44, 45, 46, 47, 48, 49, 9, 50, 51, 52, 19, 53, 54, 55, 56, 57, 21, 58, 26, 59, 27, 28, 16, 17, 18, 20, 22, 23, 24, 25, 29, 30, 31, 60, 61, 62, 63, 64, 65, 66, 67, 68, 77, 78, 79, 69, 70, 71, 72, 73, 74, 75, 76] (by decide +kernel) (by decide +kernel)
set_option maxRecDepth 20000 in
theorem gX6_restore_X6_acceptDraft : GoodIn wsX6_restore (wsV RX6 80 RX6 yX6_acceptDraft wsX6_acceptDraft) := goodIn_app (goodIn_of _ (by decide +kernel)) ggX6_restore_X6_acceptDraft
theorem dX6_restore_0 : decode cX6_restore 0 = .ok (.iload_n 1, 1) := by decide +kernel
theorem dX6_restore_1 : decode cX6_restore 1 = .ok (.invokestatic 274, 3) := by decide +kernel
theorem dX6_restore_4 : decode cX6_restore 4 = .ok (.aload_n 0, 1) := by decide +kernel
theorem dX6_restore_5 : decode cX6_restore 5 = .ok (.getfield 26, 3) := by decide +kernel
theorem dX6_restore_8 : decode cX6_restore 8 = .ok (.iload_n 1, 1) := by decide +kernel
theorem dX6_restore_9 : decode cX6_restore 9 = .ok (.invokestatic 281, 3) := by decide +kernel
theorem dX6_restore_12 : decode cX6_restore 12 = .ok (.astore_n 2, 1) := by decide +kernel
theorem dX6_restore_13 : decode cX6_restore 13 = .ok (.aload_n 2, 1) := by decide +kernel
theorem dX6_restore_14 : decode cX6_restore 14 = .ok (.ifnonnull 11, 3) := by decide +kernel
theorem dX6_restore_17 : decode cX6_restore 17 = .ok (.new 69, 3) := by decide +kernel
theorem dX6_restore_20 : decode cX6_restore 20 = .ok (.dup, 1) := by decide +kernel
theorem dX6_restore_21 : decode cX6_restore 21 = .ok (.invokespecial 71, 3) := by decide +kernel
theorem dX6_restore_24 : decode cX6_restore 24 = .ok (.athrow, 1) := by decide +kernel
theorem dX6_restore_25 : decode cX6_restore 25 = .ok (.aload_n 0, 1) := by decide +kernel
theorem dX6_restore_26 : decode cX6_restore 26 = .ok (.getfield 16, 3) := by decide +kernel
theorem dX6_restore_29 : decode cX6_restore 29 = .ok (.aload_n 2, 1) := by decide +kernel
theorem dX6_restore_30 : decode cX6_restore 30 = .ok (.invokevirtual 86, 3) := by decide +kernel
theorem dX6_restore_33 : decode cX6_restore 33 = .ok (.aload_n 0, 1) := by decide +kernel
theorem dX6_restore_34 : decode cX6_restore 34 = .ok (.invokevirtual 80, 3) := by decide +kernel
theorem dX6_restore_37 : decode cX6_restore 37 = .ok (.aload_n 0, 1) := by decide +kernel
theorem dX6_restore_38 : decode cX6_restore 38 = .ok (.getfield 10, 3) := by decide +kernel
theorem dX6_restore_41 : decode cX6_restore 41 = .ok (.getfield 83, 3) := by decide +kernel
theorem dX6_restore_44 : decode cX6_restore 44 = .ok (.ireturn, 1) := by decide +kernel
set_option maxRecDepth 20000 in
theorem ggX6_writeTable_X6_requireTable : GoodIn wsX6_writeTable wsX6_requireTable := goodIn_ca (goodIn_r _ [11, 12, 13, 14, 15, 16, 17, 18, 10, 19, 20, 21, 22, 23, 24] (by decide +kernel) (by decide +kernel)) (goodIn_sub (fun _ h => List.mem_cons_of_mem _ (List.mem_append_right _ h)) (by decide +kernel))
set_option maxRecDepth 20000 in
theorem gX6_writeTable_X6_requireTable : GoodIn wsX6_writeTable (va_wsS RX6 198 yX6_requireTable wsX6_requireTable) := goodIn_app (goodIn_of _ (by decide +kernel)) ggX6_writeTable_X6_requireTable
set_option maxRecDepth 20000 in
theorem ggX6_writeTable_X4_begin : GoodIn wsX6_writeTable wsX4_begin := goodIn_r _ [29, 30, 31, 32, 33, 34, 35, 36, 37, 38, 39, 40, 41, 42, 43, 44, 45, 46, 47, 48, 49, 50, 51, 52, 53, 54, 55, 56, 57, 58, 59, 60, 61, 62, 63, 64, 65, 66, 10, 67, 68, 69, 70, 71, 72, 73, 74, 75, 76, 77, 78, 79, 80, 81, 82, 83, 84, 85, 86, 87, 88, 89, 90, 91, 92, 93, 94, 95, 96, 97, 98, 99, 15, 100, 101, 102, 103, 104, 211, 212, 213, 214, 215, 216, 217, 218, 219, 220, 221, 222, 223, 224, 225, 226, 227, 228, 229, 230, 231, 232, 233, 234, 235, 236, 237, 238, 239, 240, 241, 242, 243] (by decide +kernel) (by decide +kernel)
set_option maxRecDepth 20000 in
theorem gX6_writeTable_X4_begin : GoodIn wsX6_writeTable (wsV RX6 211 RX4 yX4_begin wsX4_begin) := goodIn_app (goodIn_of _ (by decide +kernel)) ggX6_writeTable_X4_begin
set_option maxRecDepth 20000 in
theorem ggX6_writeTable_X4_advance : GoodIn wsX6_writeTable wsX4_advance := goodIn_r _ [108, 35, 33, 34, 32, 109, 30, 110, 111, 112, 113, 114, 28, 115, 36, 37, 38, 39, 40, 41, 42, 43, 44, 45, 46, 47, 48, 49, 50, 51, 52, 53, 54, 55, 56, 57, 58, 59, 60, 61, 62, 63, 64, 65, 66, 10, 67, 68, 69, 70, 71, 72, 73, 74, 75, 76, 77, 78, 79, 80, 81, 82, 83, 84, 85, 86, 87, 88, 89, 90, 91, 92, 93, 94, 95, 96, 97, 98, 99, 15, 100, 101, 102, 103, 104, 116, 117, 118, 119, 120, 121, 211, 212, 213, 214, 215, 216, 217, 218, 219, 220, 221, 222, 223, 224, 225, 226, 227, 228, 229, 230, 231, 232, 233, 234, 235, 236, 237, 238, 239, 240, 241, 242, 243] (by decide +kernel) (by decide +kernel)
set_option maxRecDepth 20000 in
theorem gX6_writeTable_X4_advance : GoodIn wsX6_writeTable (wsV RX6 216 RX4 yX4_advance wsX4_advance) := goodIn_app (goodIn_of _ (by decide +kernel)) ggX6_writeTable_X4_advance
set_option maxRecDepth 20000 in
theorem ggX6_writeTable_X5_addByte : GoodIn wsX6_writeTable wsX5_addByte := goodIn_r _ [126, 127, 128, 209, 210] (by decide +kernel) (by decide +kernel)
set_option maxRecDepth 20000 in
theorem gX6_writeTable_X5_addByte : GoodIn wsX6_writeTable (wsV RX6 286 RX5 yX5_addByte wsX5_addByte) := goodIn_app (goodIn_of _ (by decide +kernel)) ggX6_writeTable_X5_addByte
set_option maxRecDepth 20000 in
theorem ggX6_writeTable_X5_addNumber : GoodIn wsX6_writeTable wsX5_addNumber := goodIn_r _ [132, 133, 134, 123, 124, 125, 126, 127, 128, 209, 210] (by decide +kernel) (by decide +kernel)
set_option maxRecDepth 20000 in
theorem gX6_writeTable_X5_addNumber : GoodIn wsX6_writeTable (wsV RX6 290 RX5 yX5_addNumber wsX5_addNumber) := goodIn_app (goodIn_of _ (by decide +kernel)) ggX6_writeTable_X5_addNumber
set_option maxRecDepth 20000 in
theorem ggX6_writeTable_X6_kindWord : GoodIn wsX6_writeTable wsX6_kindWord := goodIn_r _ [137] (by decide +kernel) (by decide +kernel)
set_option maxRecDepth 20000 in
theorem gX6_writeTable_X6_kindWord : GoodIn wsX6_writeTable (va_wsS RX6 293 yX6_kindWord wsX6_kindWord) := goodIn_app (goodIn_of _ (by decide +kernel)) ggX6_writeTable_X6_kindWord
set_option maxRecDepth 20000 in
theorem ggX6_writeTable_X5_addWord : GoodIn wsX6_writeTable wsX5_addWord := goodIn_r _ [141, 142, 143, 144, 145, 146, 147, 148, 149, 150, 151, 152, 153, 154, 155, 156, 157, 158, 159, 160, 161, 162, 163, 164, 165, 166, 167, 168, 169, 170, 171, 172, 173, 174, 175, 176, 177, 178, 179, 180, 181, 182, 183, 184, 185, 186, 187, 188, 189, 190, 134, 123, 124, 125, 126, 127, 128, 209, 210] (by decide +kernel) (by decide +kernel)
set_option maxRecDepth 20000 in
theorem gX6_writeTable_X5_addWord : GoodIn wsX6_writeTable (wsV RX6 297 RX5 yX5_addWord wsX5_addWord) := goodIn_app (goodIn_of _ (by decide +kernel)) ggX6_writeTable_X5_addWord
set_option maxRecDepth 20000 in
theorem ggX6_writeTable_X1_nameOf : GoodIn wsX6_writeTable wsX1_nameOf := goodIn_r _ [194, 195, 221, 222, 223, 224, 225, 226, 227, 228] (by decide +kernel) (by decide +kernel)
set_option maxRecDepth 20000 in
theorem gX6_writeTable_X1_nameOf : GoodIn wsX6_writeTable (wsV RX6 301 RX1 yX1_nameOf wsX1_nameOf) := goodIn_app (goodIn_of _ (by decide +kernel)) ggX6_writeTable_X1_nameOf
set_option maxRecDepth 20000 in
theorem ggX6_writeTable_X5_addName : GoodIn wsX6_writeTable wsX5_addName := goodIn_r _ [199, 134, 123, 124, 125, 126, 127, 128, 209, 210] (by decide +kernel) (by decide +kernel)
set_option maxRecDepth 20000 in
theorem gX6_writeTable_X5_addName : GoodIn wsX6_writeTable (wsV RX6 305 RX5 yX5_addName wsX5_addName) := goodIn_app (goodIn_of _ (by decide +kernel)) ggX6_writeTable_X5_addName
theorem dX6_writeTable_0 : decode cX6_writeTable 0 = .ok (.iload_n 1, 1) := by decide +kernel
theorem dX6_writeTable_1 : decode cX6_writeTable 1 = .ok (.iload_n 2, 1) := by decide +kernel
theorem dX6_writeTable_2 : decode cX6_writeTable 2 = .ok (.iconst 1, 1) := by decide +kernel
theorem dX6_writeTable_3 : decode cX6_writeTable 3 = .ok (.invokestatic 198, 3) := by decide +kernel
theorem dX6_writeTable_6 : decode cX6_writeTable 6 = .ok (.aload_n 0, 1) := by decide +kernel
theorem dX6_writeTable_7 : decode cX6_writeTable 7 = .ok (.getfield 40, 3) := by decide +kernel
theorem dX6_writeTable_10 : decode cX6_writeTable 10 = .ok (.iconst 0, 1) := by decide +kernel
theorem dX6_writeTable_11 : decode cX6_writeTable 11 = .ok (.putfield 285, 3) := by decide +kernel
theorem dX6_writeTable_14 : decode cX6_writeTable 14 = .ok (.aload_n 0, 1) := by decide +kernel
theorem dX6_writeTable_15 : decode cX6_writeTable 15 = .ok (.getfield 47, 3) := by decide +kernel
theorem dX6_writeTable_18 : decode cX6_writeTable 18 = .ok (.aload_n 0, 1) := by decide +kernel
theorem dX6_writeTable_19 : decode cX6_writeTable 19 = .ok (.getfield 10, 3) := by decide +kernel
theorem dX6_writeTable_22 : decode cX6_writeTable 22 = .ok (.iload_n 1, 1) := by decide +kernel
theorem dX6_writeTable_23 : decode cX6_writeTable 23 = .ok (.iload_n 2, 1) := by decide +kernel
theorem dX6_writeTable_24 : decode cX6_writeTable 24 = .ok (.invokevirtual 211, 3) := by decide +kernel
theorem dX6_writeTable_27 : decode cX6_writeTable 27 = .ok (.iconst 0, 1) := by decide +kernel
theorem dX6_writeTable_28 : decode cX6_writeTable 28 = .ok (.istore_n 3, 1) := by decide +kernel
theorem dX6_writeTable_29 : decode cX6_writeTable 29 = .ok (.iload_n 3, 1) := by decide +kernel
theorem dX6_writeTable_30 : decode cX6_writeTable 30 = .ok (.bipush 20, 2) := by decide +kernel
theorem dX6_writeTable_32 : decode cX6_writeTable 32 = .ok (.if_icmp .ge 106, 3) := by decide +kernel
theorem dX6_writeTable_35 : decode cX6_writeTable 35 = .ok (.aload_n 0, 1) := by decide +kernel
theorem dX6_writeTable_36 : decode cX6_writeTable 36 = .ok (.getfield 47, 3) := by decide +kernel
theorem dX6_writeTable_39 : decode cX6_writeTable 39 = .ok (.aload_n 0, 1) := by decide +kernel
theorem dX6_writeTable_40 : decode cX6_writeTable 40 = .ok (.getfield 10, 3) := by decide +kernel
theorem dX6_writeTable_43 : decode cX6_writeTable 43 = .ok (.invokevirtual 216, 3) := by decide +kernel
theorem dX6_writeTable_46 : decode cX6_writeTable 46 = .ok (.ifCond .eq 92, 3) := by decide +kernel
theorem dX6_writeTable_49 : decode cX6_writeTable 49 = .ok (.iload_n 3, 1) := by decide +kernel
theorem dX6_writeTable_50 : decode cX6_writeTable 50 = .ok (.ifCond .le 12, 3) := by decide +kernel
theorem dX6_writeTable_53 : decode cX6_writeTable 53 = .ok (.aload_n 0, 1) := by decide +kernel
theorem dX6_writeTable_54 : decode cX6_writeTable 54 = .ok (.getfield 40, 3) := by decide +kernel
theorem dX6_writeTable_57 : decode cX6_writeTable 57 = .ok (.bipush 44, 2) := by decide +kernel
theorem dX6_writeTable_59 : decode cX6_writeTable 59 = .ok (.invokevirtual 286, 3) := by decide +kernel
theorem dX6_writeTable_62 : decode cX6_writeTable 62 = .ok (.aload_n 0, 1) := by decide +kernel
theorem dX6_writeTable_63 : decode cX6_writeTable 63 = .ok (.getfield 40, 3) := by decide +kernel
theorem dX6_writeTable_66 : decode cX6_writeTable 66 = .ok (.aload_n 0, 1) := by decide +kernel
theorem dX6_writeTable_67 : decode cX6_writeTable 67 = .ok (.getfield 47, 3) := by decide +kernel
theorem dX6_writeTable_70 : decode cX6_writeTable 70 = .ok (.getfield 227, 3) := by decide +kernel
theorem dX6_writeTable_73 : decode cX6_writeTable 73 = .ok (.invokevirtual 290, 3) := by decide +kernel
theorem dX6_writeTable_76 : decode cX6_writeTable 76 = .ok (.aload_n 0, 1) := by decide +kernel
theorem dX6_writeTable_77 : decode cX6_writeTable 77 = .ok (.getfield 40, 3) := by decide +kernel
theorem dX6_writeTable_80 : decode cX6_writeTable 80 = .ok (.bipush 32, 2) := by decide +kernel
theorem dX6_writeTable_82 : decode cX6_writeTable 82 = .ok (.invokevirtual 286, 3) := by decide +kernel
theorem dX6_writeTable_85 : decode cX6_writeTable 85 = .ok (.aload_n 0, 1) := by decide +kernel
theorem dX6_writeTable_86 : decode cX6_writeTable 86 = .ok (.getfield 40, 3) := by decide +kernel
theorem dX6_writeTable_89 : decode cX6_writeTable 89 = .ok (.aload_n 0, 1) := by decide +kernel
theorem dX6_writeTable_90 : decode cX6_writeTable 90 = .ok (.getfield 47, 3) := by decide +kernel
theorem dX6_writeTable_93 : decode cX6_writeTable 93 = .ok (.getfield 233, 3) := by decide +kernel
theorem dX6_writeTable_96 : decode cX6_writeTable 96 = .ok (.invokestatic 293, 3) := by decide +kernel
theorem dX6_writeTable_99 : decode cX6_writeTable 99 = .ok (.invokevirtual 297, 3) := by decide +kernel
theorem dX6_writeTable_102 : decode cX6_writeTable 102 = .ok (.aload_n 0, 1) := by decide +kernel
theorem dX6_writeTable_103 : decode cX6_writeTable 103 = .ok (.getfield 40, 3) := by decide +kernel
theorem dX6_writeTable_106 : decode cX6_writeTable 106 = .ok (.bipush 32, 2) := by decide +kernel
theorem dX6_writeTable_108 : decode cX6_writeTable 108 = .ok (.invokevirtual 286, 3) := by decide +kernel
theorem dX6_writeTable_111 : decode cX6_writeTable 111 = .ok (.aload_n 0, 1) := by decide +kernel
theorem dX6_writeTable_112 : decode cX6_writeTable 112 = .ok (.getfield 40, 3) := by decide +kernel
theorem dX6_writeTable_115 : decode cX6_writeTable 115 = .ok (.aload_n 0, 1) := by decide +kernel
theorem dX6_writeTable_116 : decode cX6_writeTable 116 = .ok (.getfield 10, 3) := by decide +kernel
theorem dX6_writeTable_119 : decode cX6_writeTable 119 = .ok (.aload_n 0, 1) := by decide +kernel
theorem dX6_writeTable_120 : decode cX6_writeTable 120 = .ok (.getfield 47, 3) := by decide +kernel
theorem dX6_writeTable_123 : decode cX6_writeTable 123 = .ok (.getfield 230, 3) := by decide +kernel
theorem dX6_writeTable_126 : decode cX6_writeTable 126 = .ok (.invokevirtual 301, 3) := by decide +kernel
theorem dX6_writeTable_129 : decode cX6_writeTable 129 = .ok (.invokevirtual 305, 3) := by decide +kernel
theorem dX6_writeTable_132 : decode cX6_writeTable 132 = .ok (.iinc 3 1, 3) := by decide +kernel
theorem dX6_writeTable_135 : decode cX6_writeTable 135 = .ok (.goto (-106), 3) := by decide +kernel
theorem dX6_writeTable_138 : decode cX6_writeTable 138 = .ok (.aload_n 0, 1) := by decide +kernel
theorem dX6_writeTable_139 : decode cX6_writeTable 139 = .ok (.getfield 40, 3) := by decide +kernel
theorem dX6_writeTable_142 : decode cX6_writeTable 142 = .ok (.getfield 285, 3) := by decide +kernel
theorem dX6_writeTable_145 : decode cX6_writeTable 145 = .ok (.ireturn, 1) := by decide +kernel
set_option maxRecDepth 20000 in
theorem ggX6_writtenByte_X5_byteAt : GoodIn wsX6_writtenByte wsX5_byteAt := goodIn_r _ [9, 10, 11, 21, 22] (by decide +kernel) (by decide +kernel)
set_option maxRecDepth 20000 in
theorem gX6_writtenByte_X5_byteAt : GoodIn wsX6_writtenByte (wsV RX6 309 RX5 yX5_byteAt wsX5_byteAt) := goodIn_app (goodIn_of _ (by decide +kernel)) ggX6_writtenByte_X5_byteAt
theorem dX6_writtenByte_0 : decode cX6_writtenByte 0 = .ok (.iload_n 1, 1) := by decide +kernel
theorem dX6_writtenByte_1 : decode cX6_writtenByte 1 = .ok (.ifCond .lt 14, 3) := by decide +kernel
theorem dX6_writtenByte_4 : decode cX6_writtenByte 4 = .ok (.iload_n 1, 1) := by decide +kernel
theorem dX6_writtenByte_5 : decode cX6_writtenByte 5 = .ok (.aload_n 0, 1) := by decide +kernel
theorem dX6_writtenByte_6 : decode cX6_writtenByte 6 = .ok (.getfield 40, 3) := by decide +kernel
theorem dX6_writtenByte_9 : decode cX6_writtenByte 9 = .ok (.getfield 285, 3) := by decide +kernel
theorem dX6_writtenByte_12 : decode cX6_writtenByte 12 = .ok (.if_icmp .lt 11, 3) := by decide +kernel
theorem dX6_writtenByte_15 : decode cX6_writtenByte 15 = .ok (.new 224, 3) := by decide +kernel
theorem dX6_writtenByte_18 : decode cX6_writtenByte 18 = .ok (.dup, 1) := by decide +kernel
theorem dX6_writtenByte_19 : decode cX6_writtenByte 19 = .ok (.invokespecial 226, 3) := by decide +kernel
theorem dX6_writtenByte_22 : decode cX6_writtenByte 22 = .ok (.athrow, 1) := by decide +kernel
theorem dX6_writtenByte_23 : decode cX6_writtenByte 23 = .ok (.aload_n 0, 1) := by decide +kernel
theorem dX6_writtenByte_24 : decode cX6_writtenByte 24 = .ok (.getfield 40, 3) := by decide +kernel
theorem dX6_writtenByte_27 : decode cX6_writtenByte 27 = .ok (.iload_n 1, 1) := by decide +kernel
theorem dX6_writtenByte_28 : decode cX6_writtenByte 28 = .ok (.invokevirtual 309, 3) := by decide +kernel
theorem dX6_writtenByte_31 : decode cX6_writtenByte 31 = .ok (.ireturn, 1) := by decide +kernel
theorem dX6_requireMoon_0 : decode cX6_requireMoon 0 = .ok (.iload_n 1, 1) := by decide +kernel
theorem dX6_requireMoon_1 : decode cX6_requireMoon 1 = .ok (.ifCond .lt 14, 3) := by decide +kernel
theorem dX6_requireMoon_4 : decode cX6_requireMoon 4 = .ok (.iload_n 1, 1) := by decide +kernel
theorem dX6_requireMoon_5 : decode cX6_requireMoon 5 = .ok (.aload_n 0, 1) := by decide +kernel
theorem dX6_requireMoon_6 : decode cX6_requireMoon 6 = .ok (.getfield 10, 3) := by decide +kernel
theorem dX6_requireMoon_9 : decode cX6_requireMoon 9 = .ok (.getfield 83, 3) := by decide +kernel
theorem dX6_requireMoon_12 : decode cX6_requireMoon 12 = .ok (.if_icmp .lt 11, 3) := by decide +kernel
theorem dX6_requireMoon_15 : decode cX6_requireMoon 15 = .ok (.new 224, 3) := by decide +kernel
theorem dX6_requireMoon_18 : decode cX6_requireMoon 18 = .ok (.dup, 1) := by decide +kernel
theorem dX6_requireMoon_19 : decode cX6_requireMoon 19 = .ok (.invokespecial 226, 3) := by decide +kernel
theorem dX6_requireMoon_22 : decode cX6_requireMoon 22 = .ok (.athrow, 1) := by decide +kernel
theorem dX6_requireMoon_23 : decode cX6_requireMoon 23 = .ok (.return_, 1) := by decide +kernel
theorem dX6_requireSight_0 : decode cX6_requireSight 0 = .ok (.iload_n 1, 1) := by decide +kernel
theorem dX6_requireSight_1 : decode cX6_requireSight 1 = .ok (.ifCond .lt 14, 3) := by decide +kernel
theorem dX6_requireSight_4 : decode cX6_requireSight 4 = .ok (.iload_n 1, 1) := by decide +kernel
theorem dX6_requireSight_5 : decode cX6_requireSight 5 = .ok (.aload_n 0, 1) := by decide +kernel
theorem dX6_requireSight_6 : decode cX6_requireSight 6 = .ok (.getfield 10, 3) := by decide +kernel
theorem dX6_requireSight_9 : decode cX6_requireSight 9 = .ok (.getfield 93, 3) := by decide +kernel
theorem dX6_requireSight_12 : decode cX6_requireSight 12 = .ok (.if_icmp .lt 11, 3) := by decide +kernel
theorem dX6_requireSight_15 : decode cX6_requireSight 15 = .ok (.new 224, 3) := by decide +kernel
theorem dX6_requireSight_18 : decode cX6_requireSight 18 = .ok (.dup, 1) := by decide +kernel
theorem dX6_requireSight_19 : decode cX6_requireSight 19 = .ok (.invokespecial 226, 3) := by decide +kernel
theorem dX6_requireSight_22 : decode cX6_requireSight 22 = .ok (.athrow, 1) := by decide +kernel
theorem dX6_requireSight_23 : decode cX6_requireSight 23 = .ok (.return_, 1) := by decide +kernel
theorem dX6_requireSlot_0 : decode cX6_requireSlot 0 = .ok (.iload_n 0, 1) := by decide +kernel
theorem dX6_requireSlot_1 : decode cX6_requireSlot 1 = .ok (.ifCond .lt 8, 3) := by decide +kernel
theorem dX6_requireSlot_4 : decode cX6_requireSlot 4 = .ok (.iload_n 0, 1) := by decide +kernel
theorem dX6_requireSlot_5 : decode cX6_requireSlot 5 = .ok (.iconst 2, 1) := by decide +kernel
theorem dX6_requireSlot_6 : decode cX6_requireSlot 6 = .ok (.if_icmp .lt 11, 3) := by decide +kernel
theorem dX6_requireSlot_9 : decode cX6_requireSlot 9 = .ok (.new 224, 3) := by decide +kernel
theorem dX6_requireSlot_12 : decode cX6_requireSlot 12 = .ok (.dup, 1) := by decide +kernel
theorem dX6_requireSlot_13 : decode cX6_requireSlot 13 = .ok (.invokespecial 226, 3) := by decide +kernel
theorem dX6_requireSlot_16 : decode cX6_requireSlot 16 = .ok (.athrow, 1) := by decide +kernel
theorem dX6_requireSlot_17 : decode cX6_requireSlot 17 = .ok (.return_, 1) := by decide +kernel
theorem dX6_requireBetween_0 : decode cX6_requireBetween 0 = .ok (.iload_n 0, 1) := by decide +kernel
theorem dX6_requireBetween_1 : decode cX6_requireBetween 1 = .ok (.iload_n 1, 1) := by decide +kernel
theorem dX6_requireBetween_2 : decode cX6_requireBetween 2 = .ok (.if_icmp .lt 8, 3) := by decide +kernel
theorem dX6_requireBetween_5 : decode cX6_requireBetween 5 = .ok (.iload_n 0, 1) := by decide +kernel
theorem dX6_requireBetween_6 : decode cX6_requireBetween 6 = .ok (.iload_n 2, 1) := by decide +kernel
theorem dX6_requireBetween_7 : decode cX6_requireBetween 7 = .ok (.if_icmp .le 11, 3) := by decide +kernel
theorem dX6_requireBetween_10 : decode cX6_requireBetween 10 = .ok (.new 112, 3) := by decide +kernel
theorem dX6_requireBetween_13 : decode cX6_requireBetween 13 = .ok (.dup, 1) := by decide +kernel
theorem dX6_requireBetween_14 : decode cX6_requireBetween 14 = .ok (.invokespecial 114, 3) := by decide +kernel
theorem dX6_requireBetween_17 : decode cX6_requireBetween 17 = .ok (.athrow, 1) := by decide +kernel
theorem dX6_requireBetween_18 : decode cX6_requireBetween 18 = .ok (.return_, 1) := by decide +kernel
set_option maxRecDepth 20000 in
theorem ggX6_requireTime_X6_requireBetween : GoodIn wsX6_requireTime wsX6_requireBetween := goodIn_ca (goodIn_r _ [5, 6, 7] (by decide +kernel) (by decide +kernel)) (goodIn_sub (fun _ h => List.mem_cons_of_mem _ (List.mem_append_right _ h)) (by decide +kernel))
set_option maxRecDepth 20000 in
theorem gX6_requireTime_X6_requireBetween : GoodIn wsX6_requireTime (va_wsS RX6 118 yX6_requireBetween wsX6_requireBetween) := goodIn_app (goodIn_of _ (by decide +kernel)) ggX6_requireTime_X6_requireBetween
theorem dX6_requireTime_0 : decode cX6_requireTime 0 = .ok (.iload_n 0, 1) := by decide +kernel
theorem dX6_requireTime_1 : decode cX6_requireTime 1 = .ok (.iload_n 1, 1) := by decide +kernel
theorem dX6_requireTime_2 : decode cX6_requireTime 2 = .ok (.ldc 215, 2) := by decide +kernel
theorem dX6_requireTime_4 : decode cX6_requireTime 4 = .ok (.invokestatic 118, 3) := by decide +kernel
theorem dX6_requireTime_7 : decode cX6_requireTime 7 = .ok (.return_, 1) := by decide +kernel
set_option maxRecDepth 20000 in
theorem ggX6_requireTable_X6_requireTime : GoodIn wsX6_requireTable wsX6_requireTime := goodIn_ca (goodIn_r _ [9, 1, 10, 11, 8, 12, 13, 14] (by decide +kernel) (by decide +kernel)) (goodIn_sub (fun _ h => List.mem_cons_of_mem _ (List.mem_append_right _ h)) (by decide +kernel))
set_option maxRecDepth 20000 in
theorem gX6_requireTable_X6_requireTime : GoodIn wsX6_requireTable (va_wsS RX6 145 yX6_requireTime wsX6_requireTime) := goodIn_app (goodIn_of _ (by decide +kernel)) ggX6_requireTable_X6_requireTime
set_option maxRecDepth 20000 in
theorem ggX6_requireTable_X6_requireBetween : GoodIn wsX6_requireTable wsX6_requireBetween := goodIn_ca (goodIn_r _ [12, 13, 14] (by decide +kernel) (by decide +kernel)) (goodIn_sub (fun _ h => List.mem_cons_of_mem _ (List.mem_append_right _ h)) (by decide +kernel))
set_option maxRecDepth 20000 in
theorem gX6_requireTable_X6_requireBetween : GoodIn wsX6_requireTable (va_wsS RX6 118 yX6_requireBetween wsX6_requireBetween) := goodIn_app (goodIn_of _ (by decide +kernel)) ggX6_requireTable_X6_requireBetween
theorem dX6_requireTable_0 : decode cX6_requireTable 0 = .ok (.iload_n 0, 1) := by decide +kernel
theorem dX6_requireTable_1 : decode cX6_requireTable 1 = .ok (.iload_n 2, 1) := by decide +kernel
theorem dX6_requireTable_2 : decode cX6_requireTable 2 = .ok (.invokestatic 145, 3) := by decide +kernel
theorem dX6_requireTable_5 : decode cX6_requireTable 5 = .ok (.iload_n 1, 1) := by decide +kernel
theorem dX6_requireTable_6 : decode cX6_requireTable 6 = .ok (.iload_n 0, 1) := by decide +kernel
theorem dX6_requireTable_7 : decode cX6_requireTable 7 = .ok (.iload_n 0, 1) := by decide +kernel
theorem dX6_requireTable_8 : decode cX6_requireTable 8 = .ok (.sipush 2000, 3) := by decide +kernel
theorem dX6_requireTable_11 : decode cX6_requireTable 11 = .ok (.iadd, 1) := by decide +kernel
theorem dX6_requireTable_12 : decode cX6_requireTable 12 = .ok (.ldc 215, 2) := by decide +kernel
theorem dX6_requireTable_14 : decode cX6_requireTable 14 = .ok (.invokestatic 312, 3) := by decide +kernel
theorem dX6_requireTable_17 : decode cX6_requireTable 17 = .ok (.invokestatic 118, 3) := by decide +kernel
theorem dX6_requireTable_20 : decode cX6_requireTable 20 = .ok (.return_, 1) := by decide +kernel
theorem dX6_searchEnd_0 : decode cX6_searchEnd 0 = .ok (.iload_n 0, 1) := by decide +kernel
theorem dX6_searchEnd_1 : decode cX6_searchEnd 1 = .ok (.sipush 5000, 3) := by decide +kernel
theorem dX6_searchEnd_4 : decode cX6_searchEnd 4 = .ok (.iadd, 1) := by decide +kernel
theorem dX6_searchEnd_5 : decode cX6_searchEnd 5 = .ok (.ldc 215, 2) := by decide +kernel
theorem dX6_searchEnd_7 : decode cX6_searchEnd 7 = .ok (.invokestatic 312, 3) := by decide +kernel
theorem dX6_searchEnd_10 : decode cX6_searchEnd 10 = .ok (.ireturn, 1) := by decide +kernel
set_option maxRecDepth 20000 in
theorem ggX6_lookAt_X6_requireMoon : GoodIn wsX6_lookAt wsX6_requireMoon := goodIn_ca (goodIn_r _ [7, 8, 9, 2, 10, 72, 73, 74, 75, 76, 77, 78, 79, 80, 81, 82, 83, 84, 85, 86, 87, 88] (by decide +kernel) (by decide +kernel)) (goodIn_sub (fun _ h => List.mem_cons_of_mem _ (List.mem_append_left _ (List.mem_append_right _ h))) (by decide +kernel))
set_option maxRecDepth 20000 in
theorem gX6_lookAt_X6_requireMoon : GoodIn wsX6_lookAt (wsV RX6 115 RX6 yX6_requireMoon wsX6_requireMoon) := goodIn_app (goodIn_of _ (by decide +kernel)) ggX6_lookAt_X6_requireMoon
set_option maxRecDepth 20000 in
theorem ggX6_lookAt_X6_requireTime : GoodIn wsX6_lookAt wsX6_requireTime := goodIn_ca (goodIn_r _ [13, 14, 15, 16, 6, 17, 18, 19] (by decide +kernel) (by decide +kernel)) (goodIn_sub (fun _ h => List.mem_cons_of_mem _ (List.mem_append_right _ h)) (by decide +kernel))
set_option maxRecDepth 20000 in
theorem gX6_lookAt_X6_requireTime : GoodIn wsX6_lookAt (va_wsS RX6 145 yX6_requireTime wsX6_requireTime) := goodIn_app (goodIn_of _ (by decide +kernel)) ggX6_lookAt_X6_requireTime
set_option maxRecDepth 20000 in
theorem ggX6_lookAt_X3_aim : GoodIn wsX6_lookAt wsX3_aim := goodIn_r _ [24, 25, 26, 27, 28, 29, 30, 31, 32, 33, 34, 35, 36, 37, 38, 39, 40, 41, 42, 43, 44, 45, 46, 23, 47, 48, 6, 49, 50, 51, 52, 53, 81, 82, 83, 84, 85, 86, 87, 88, 89, 90, 91, 92, 93, 94, 95, 96, 97, 98, 99, 100, 101, 102, 103] (by decide +kernel) (by decide +kernel)
set_option maxRecDepth 20000 in
theorem gX6_lookAt_X3_aim : GoodIn wsX6_lookAt (wsV RX6 181 RX3 yX3_aim wsX3_aim) := goodIn_app (goodIn_of _ (by decide +kernel)) ggX6_lookAt_X3_aim
set_option maxRecDepth 20000 in
theorem ggX6_lookAt_X3_look : GoodIn wsX6_lookAt wsX3_look := goodIn_r _ [57, 32, 33, 58, 34, 59, 36, 35, 60, 61, 29, 31, 62, 63, 64, 65, 66, 23, 67, 37, 68, 38, 69, 48, 6, 49, 50, 51, 52, 53, 70, 71, 89, 90, 91, 92, 93, 94, 95, 96, 97, 98, 99, 100, 101, 102, 103] (by decide +kernel) (by decide +kernel)
set_option maxRecDepth 20000 in
theorem gX6_lookAt_X3_look : GoodIn wsX6_lookAt (wsV RX6 185 RX3 yX3_look wsX3_look) := goodIn_app (goodIn_of _ (by decide +kernel)) ggX6_lookAt_X3_look
theorem dX6_lookAt_0 : decode cX6_lookAt 0 = .ok (.aload_n 0, 1) := by decide +kernel
theorem dX6_lookAt_1 : decode cX6_lookAt 1 = .ok (.iload_n 1, 1) := by decide +kernel
theorem dX6_lookAt_2 : decode cX6_lookAt 2 = .ok (.invokevirtual 115, 3) := by decide +kernel
theorem dX6_lookAt_5 : decode cX6_lookAt 5 = .ok (.iload_n 2, 1) := by decide +kernel
theorem dX6_lookAt_6 : decode cX6_lookAt 6 = .ok (.iconst 0, 1) := by decide +kernel
theorem dX6_lookAt_7 : decode cX6_lookAt 7 = .ok (.invokestatic 145, 3) := by decide +kernel
theorem dX6_lookAt_10 : decode cX6_lookAt 10 = .ok (.aload_n 0, 1) := by decide +kernel
theorem dX6_lookAt_11 : decode cX6_lookAt 11 = .ok (.getfield 54, 3) := by decide +kernel
theorem dX6_lookAt_14 : decode cX6_lookAt 14 = .ok (.aload_n 0, 1) := by decide +kernel
theorem dX6_lookAt_15 : decode cX6_lookAt 15 = .ok (.getfield 10, 3) := by decide +kernel
theorem dX6_lookAt_18 : decode cX6_lookAt 18 = .ok (.iload_n 1, 1) := by decide +kernel
theorem dX6_lookAt_19 : decode cX6_lookAt 19 = .ok (.invokevirtual 181, 3) := by decide +kernel
theorem dX6_lookAt_22 : decode cX6_lookAt 22 = .ok (.aload_n 0, 1) := by decide +kernel
theorem dX6_lookAt_23 : decode cX6_lookAt 23 = .ok (.getfield 54, 3) := by decide +kernel
theorem dX6_lookAt_26 : decode cX6_lookAt 26 = .ok (.iload_n 2, 1) := by decide +kernel
theorem dX6_lookAt_27 : decode cX6_lookAt 27 = .ok (.invokevirtual 185, 3) := by decide +kernel
theorem dX6_lookAt_30 : decode cX6_lookAt 30 = .ok (.return_, 1) := by decide +kernel
set_option maxRecDepth 20000 in
theorem ggX6_darkMoons_X3_aim : GoodIn wsX6_darkMoons wsX3_aim := goodIn_r _ [8, 9, 10, 11, 12, 13, 14, 15, 16, 17, 18, 19, 20, 21, 22, 23, 24, 25, 26, 27, 28, 29, 30, 7, 31, 32, 33, 34, 35, 36, 37, 38, 74, 75, 76, 77, 78, 79, 80, 81, 82, 83, 84, 85, 86, 87, 88, 89, 90, 91, 92, 93, 94, 95, 96] (by decide +kernel) (by decide +kernel)
set_option maxRecDepth 20000 in
theorem gX6_darkMoons_X3_aim : GoodIn wsX6_darkMoons (wsV RX6 181 RX3 yX3_aim wsX3_aim) := goodIn_app (goodIn_of _ (by decide +kernel)) ggX6_darkMoons_X3_aim
set_option maxRecDepth 20000 in
theorem ggX6_darkMoons_X3_look : GoodIn wsX6_darkMoons wsX3_look := goodIn_r _ [42, 16, 17, 43, 18, 44, 20, 19, 45, 46, 13, 15, 47, 48, 49, 50, 51, 7, 52, 21, 53, 22, 54, 32, 33, 34, 35, 36, 37, 38, 55, 56, 82, 83, 84, 85, 86, 87, 88, 89, 90, 91, 92, 93, 94, 95, 96] (by decide +kernel) (by decide +kernel)
set_option maxRecDepth 20000 in
theorem gX6_darkMoons_X3_look : GoodIn wsX6_darkMoons (wsV RX6 185 RX3 yX3_look wsX3_look) := goodIn_app (goodIn_of _ (by decide +kernel)) ggX6_darkMoons_X3_look
set_option maxRecDepth 20000 in
theorem ggX6_darkMoons_X3_shadowState : GoodIn wsX6_darkMoons wsX3_shadowState := goodIn_r _ [60, 47, 48, 61, 62, 63, 64, 11, 10, 82, 83, 84, 85, 86, 87, 88, 89, 90, 91, 92, 93, 94, 95, 96] (by decide +kernel) (by decide +kernel)
set_option maxRecDepth 20000 in
theorem gX6_darkMoons_X3_shadowState : GoodIn wsX6_darkMoons (wsV RX6 174 RX3 yX3_shadowState wsX3_shadowState) := goodIn_app (goodIn_of _ (by decide +kernel)) ggX6_darkMoons_X3_shadowState
theorem dX6_darkMoons_0 : decode cX6_darkMoons 0 = .ok (.iconst 0, 1) := by decide +kernel
theorem dX6_darkMoons_1 : decode cX6_darkMoons 1 = .ok (.istore_n 2, 1) := by decide +kernel
theorem dX6_darkMoons_2 : decode cX6_darkMoons 2 = .ok (.iconst 0, 1) := by decide +kernel
theorem dX6_darkMoons_3 : decode cX6_darkMoons 3 = .ok (.istore_n 3, 1) := by decide +kernel
theorem dX6_darkMoons_4 : decode cX6_darkMoons 4 = .ok (.iload_n 3, 1) := by decide +kernel
theorem dX6_darkMoons_5 : decode cX6_darkMoons 5 = .ok (.aload_n 0, 1) := by decide +kernel
theorem dX6_darkMoons_6 : decode cX6_darkMoons 6 = .ok (.getfield 10, 3) := by decide +kernel
theorem dX6_darkMoons_9 : decode cX6_darkMoons 9 = .ok (.getfield 83, 3) := by decide +kernel
theorem dX6_darkMoons_12 : decode cX6_darkMoons 12 = .ok (.if_icmp .ge 42, 3) := by decide +kernel
theorem dX6_darkMoons_15 : decode cX6_darkMoons 15 = .ok (.aload_n 0, 1) := by decide +kernel
theorem dX6_darkMoons_16 : decode cX6_darkMoons 16 = .ok (.getfield 54, 3) := by decide +kernel
theorem dX6_darkMoons_19 : decode cX6_darkMoons 19 = .ok (.aload_n 0, 1) := by decide +kernel
theorem dX6_darkMoons_20 : decode cX6_darkMoons 20 = .ok (.getfield 10, 3) := by decide +kernel
theorem dX6_darkMoons_23 : decode cX6_darkMoons 23 = .ok (.iload_n 3, 1) := by decide +kernel
theorem dX6_darkMoons_24 : decode cX6_darkMoons 24 = .ok (.invokevirtual 181, 3) := by decide +kernel
theorem dX6_darkMoons_27 : decode cX6_darkMoons 27 = .ok (.aload_n 0, 1) := by decide +kernel
theorem dX6_darkMoons_28 : decode cX6_darkMoons 28 = .ok (.getfield 54, 3) := by decide +kernel
theorem dX6_darkMoons_31 : decode cX6_darkMoons 31 = .ok (.iload_n 1, 1) := by decide +kernel
theorem dX6_darkMoons_32 : decode cX6_darkMoons 32 = .ok (.invokevirtual 185, 3) := by decide +kernel
theorem dX6_darkMoons_35 : decode cX6_darkMoons 35 = .ok (.aload_n 0, 1) := by decide +kernel
theorem dX6_darkMoons_36 : decode cX6_darkMoons 36 = .ok (.getfield 54, 3) := by decide +kernel
theorem dX6_darkMoons_39 : decode cX6_darkMoons 39 = .ok (.invokevirtual 174, 3) := by decide +kernel
theorem dX6_darkMoons_42 : decode cX6_darkMoons 42 = .ok (.ifCond .eq 6, 3) := by decide +kernel
theorem dX6_darkMoons_45 : decode cX6_darkMoons 45 = .ok (.iinc 2 1, 3) := by decide +kernel
theorem dX6_darkMoons_48 : decode cX6_darkMoons 48 = .ok (.iinc 3 1, 3) := by decide +kernel
theorem dX6_darkMoons_51 : decode cX6_darkMoons 51 = .ok (.goto (-47), 3) := by decide +kernel
theorem dX6_darkMoons_54 : decode cX6_darkMoons 54 = .ok (.iload_n 2, 1) := by decide +kernel
theorem dX6_darkMoons_55 : decode cX6_darkMoons 55 = .ok (.ireturn, 1) := by decide +kernel
set_option maxRecDepth 20000 in
theorem ggX6_findEvent_X4_begin : GoodIn wsX6_findEvent wsX4_begin := goodIn_r _ [7, 8, 9, 10, 11, 12, 13, 14, 15, 16, 17, 18, 19, 20, 21, 22, 23, 24, 25, 26, 27, 28, 29, 30, 31, 32, 33, 34, 35, 36, 37, 38, 39, 40, 41, 42, 43, 44, 45, 46, 47, 48, 49, 50, 51, 52, 53, 54, 55, 56, 57, 58, 59, 60, 61, 62, 63, 64, 65, 66, 67, 68, 69, 70, 71, 72, 73, 74, 75, 76, 77, 78, 79, 80, 81, 82, 83, 84, 111, 112, 113, 114, 115, 116, 117, 118, 119, 120, 121, 122, 123, 124, 125, 126, 127, 128, 129, 130, 131, 132, 133, 134, 135, 136, 137, 138, 139, 140, 141, 142, 143] (by decide +kernel) (by decide +kernel)
set_option maxRecDepth 20000 in
theorem gX6_findEvent_X4_begin : GoodIn wsX6_findEvent (wsV RX6 211 RX4 yX4_begin wsX4_begin) := goodIn_app (goodIn_of _ (by decide +kernel)) ggX6_findEvent_X4_begin
set_option maxRecDepth 20000 in
theorem ggX6_findEvent_X4_advance : GoodIn wsX6_findEvent wsX4_advance := goodIn_r _ [88, 13, 11, 12, 10, 89, 8, 90, 91, 92, 93, 94, 6, 95, 14, 15, 16, 17, 18, 19, 20, 21, 22, 23, 24, 25, 26, 27, 28, 29, 30, 31, 32, 33, 34, 35, 36, 37, 38, 39, 40, 41, 42, 43, 44, 45, 46, 47, 48, 49, 50, 51, 52, 53, 54, 55, 56, 57, 58, 59, 60, 61, 62, 63, 64, 65, 66, 67, 68, 69, 70, 71, 72, 73, 74, 75, 76, 77, 78, 79, 80, 81, 82, 83, 84, 96, 97, 98, 99, 100, 101, 111, 112, 113, 114, 115, 116, 117, 118, 119, 120, 121, 122, 123, 124, 125, 126, 127, 128, 129, 130, 131, 132, 133, 134, 135, 136, 137, 138, 139, 140, 141, 142, 143] (by decide +kernel) (by decide +kernel)
set_option maxRecDepth 20000 in
theorem gX6_findEvent_X4_advance : GoodIn wsX6_findEvent (wsV RX6 216 RX4 yX4_advance wsX4_advance) := goodIn_app (goodIn_of _ (by decide +kernel)) ggX6_findEvent_X4_advance
theorem dX6_findEvent_0 : decode cX6_findEvent 0 = .ok (.aload_n 0, 1) := by decide +kernel
theorem dX6_findEvent_1 : decode cX6_findEvent 1 = .ok (.getfield 47, 3) := by decide +kernel
theorem dX6_findEvent_4 : decode cX6_findEvent 4 = .ok (.aload_n 0, 1) := by decide +kernel
theorem dX6_findEvent_5 : decode cX6_findEvent 5 = .ok (.getfield 10, 3) := by decide +kernel
theorem dX6_findEvent_8 : decode cX6_findEvent 8 = .ok (.iload_n 1, 1) := by decide +kernel
theorem dX6_findEvent_9 : decode cX6_findEvent 9 = .ok (.iload_n 2, 1) := by decide +kernel
theorem dX6_findEvent_10 : decode cX6_findEvent 10 = .ok (.invokevirtual 211, 3) := by decide +kernel
theorem dX6_findEvent_13 : decode cX6_findEvent 13 = .ok (.iconst 0, 1) := by decide +kernel
theorem dX6_findEvent_14 : decode cX6_findEvent 14 = .ok (.istore 4, 2) := by decide +kernel
theorem dX6_findEvent_16 : decode cX6_findEvent 16 = .ok (.iload 4, 2) := by decide +kernel
theorem dX6_findEvent_18 : decode cX6_findEvent 18 = .ok (.iload_n 3, 1) := by decide +kernel
theorem dX6_findEvent_19 : decode cX6_findEvent 19 = .ok (.if_icmp .ge 25, 3) := by decide +kernel
theorem dX6_findEvent_22 : decode cX6_findEvent 22 = .ok (.aload_n 0, 1) := by decide +kernel
theorem dX6_findEvent_23 : decode cX6_findEvent 23 = .ok (.getfield 47, 3) := by decide +kernel
theorem dX6_findEvent_26 : decode cX6_findEvent 26 = .ok (.aload_n 0, 1) := by decide +kernel
theorem dX6_findEvent_27 : decode cX6_findEvent 27 = .ok (.getfield 10, 3) := by decide +kernel
theorem dX6_findEvent_30 : decode cX6_findEvent 30 = .ok (.invokevirtual 216, 3) := by decide +kernel
theorem dX6_findEvent_33 : decode cX6_findEvent 33 = .ok (.ifCond .ne 5, 3) := by decide +kernel
theorem dX6_findEvent_36 : decode cX6_findEvent 36 = .ok (.iconst 0, 1) := by decide +kernel
theorem dX6_findEvent_37 : decode cX6_findEvent 37 = .ok (.ireturn, 1) := by decide +kernel
theorem dX6_findEvent_38 : decode cX6_findEvent 38 = .ok (.iinc 4 1, 3) := by decide +kernel
theorem dX6_findEvent_41 : decode cX6_findEvent 41 = .ok (.goto (-25), 3) := by decide +kernel
theorem dX6_findEvent_44 : decode cX6_findEvent 44 = .ok (.iload_n 3, 1) := by decide +kernel
theorem dX6_findEvent_45 : decode cX6_findEvent 45 = .ok (.ifCond .lt 21, 3) := by decide +kernel
theorem dX6_findEvent_48 : decode cX6_findEvent 48 = .ok (.aload_n 0, 1) := by decide +kernel
theorem dX6_findEvent_49 : decode cX6_findEvent 49 = .ok (.getfield 47, 3) := by decide +kernel
theorem dX6_findEvent_52 : decode cX6_findEvent 52 = .ok (.aload_n 0, 1) := by decide +kernel
theorem dX6_findEvent_53 : decode cX6_findEvent 53 = .ok (.getfield 10, 3) := by decide +kernel
theorem dX6_findEvent_56 : decode cX6_findEvent 56 = .ok (.invokevirtual 216, 3) := by decide +kernel
theorem dX6_findEvent_59 : decode cX6_findEvent 59 = .ok (.ifCond .eq 7, 3) := by decide +kernel
theorem dX6_findEvent_62 : decode cX6_findEvent 62 = .ok (.iconst 1, 1) := by decide +kernel
theorem dX6_findEvent_63 : decode cX6_findEvent 63 = .ok (.goto 4, 3) := by decide +kernel
theorem dX6_findEvent_66 : decode cX6_findEvent 66 = .ok (.iconst 0, 1) := by decide +kernel
theorem dX6_findEvent_67 : decode cX6_findEvent 67 = .ok (.ireturn, 1) := by decide +kernel
set_option maxRecDepth 20000 in
theorem ggX6_lostSights_X6_offOf : GoodIn wsX6_lostSights wsX6_offOf := goodIn_r _ [8, 9, 10, 3, 11, 12, 13, 14, 15, 16, 17, 18, 19, 20, 21, 22, 23, 24, 25, 26, 27, 28, 29, 30, 31, 32, 33, 34, 35, 36, 37, 38, 39, 40, 41, 42, 43, 44, 7, 45, 46, 47, 48, 49, 50, 51, 52, 53, 54, 55, 56, 57, 58, 59, 60, 61, 62, 63, 64, 65, 66, 67, 68, 69, 70, 71, 72, 73, 74, 75, 76, 77, 78, 79, 80, 81, 82, 83, 84, 85, 86, 87, 88, 89, 90, 91, 92, 93, 94, 95, 96, 97, 98, 99, 100, 101, 102, 103, 104, 105, 106, 107, 108, 109, 110, 111, 112, 113, 114, 115, 116, 117, 118] (by decide +kernel) (by decide +kernel)
set_option maxRecDepth 20000 in
theorem gX6_lostSights_X6_offOf : GoodIn wsX6_lostSights (wsV RX6 139 RX6 yX6_offOf wsX6_offOf) := goodIn_app (goodIn_of _ (by decide +kernel)) ggX6_lostSights_X6_offOf
theorem dX6_lostSights_0 : decode cX6_lostSights 0 = .ok (.iconst 0, 1) := by decide +kernel
theorem dX6_lostSights_1 : decode cX6_lostSights 1 = .ok (.istore_n 1, 1) := by decide +kernel
theorem dX6_lostSights_2 : decode cX6_lostSights 2 = .ok (.iconst 0, 1) := by decide +kernel
theorem dX6_lostSights_3 : decode cX6_lostSights 3 = .ok (.istore_n 2, 1) := by decide +kernel
theorem dX6_lostSights_4 : decode cX6_lostSights 4 = .ok (.iload_n 2, 1) := by decide +kernel
theorem dX6_lostSights_5 : decode cX6_lostSights 5 = .ok (.aload_n 0, 1) := by decide +kernel
theorem dX6_lostSights_6 : decode cX6_lostSights 6 = .ok (.getfield 10, 3) := by decide +kernel
theorem dX6_lostSights_9 : decode cX6_lostSights 9 = .ok (.getfield 93, 3) := by decide +kernel
theorem dX6_lostSights_12 : decode cX6_lostSights 12 = .ok (.if_icmp .ge 26, 3) := by decide +kernel
theorem dX6_lostSights_15 : decode cX6_lostSights 15 = .ok (.aload_n 0, 1) := by decide +kernel
theorem dX6_lostSights_16 : decode cX6_lostSights 16 = .ok (.aload_n 0, 1) := by decide +kernel
theorem dX6_lostSights_17 : decode cX6_lostSights 17 = .ok (.getfield 10, 3) := by decide +kernel
theorem dX6_lostSights_20 : decode cX6_lostSights 20 = .ok (.iload_n 2, 1) := by decide +kernel
theorem dX6_lostSights_21 : decode cX6_lostSights 21 = .ok (.invokevirtual 139, 3) := by decide +kernel
theorem dX6_lostSights_24 : decode cX6_lostSights 24 = .ok (.ldc 236, 2) := by decide +kernel
theorem dX6_lostSights_26 : decode cX6_lostSights 26 = .ok (.if_icmp .ne 6, 3) := by decide +kernel
theorem dX6_lostSights_29 : decode cX6_lostSights 29 = .ok (.iinc 1 1, 3) := by decide +kernel
theorem dX6_lostSights_32 : decode cX6_lostSights 32 = .ok (.iinc 2 1, 3) := by decide +kernel
theorem dX6_lostSights_35 : decode cX6_lostSights 35 = .ok (.goto (-31), 3) := by decide +kernel
theorem dX6_lostSights_38 : decode cX6_lostSights 38 = .ok (.iload_n 1, 1) := by decide +kernel
theorem dX6_lostSights_39 : decode cX6_lostSights 39 = .ok (.ireturn, 1) := by decide +kernel
set_option maxRecDepth 20000 in
theorem ggX6_burdenOf_X1_sightNumber : GoodIn wsX6_burdenOf wsX1_sightNumber := goodIn_r _ [11, 12, 87, 88, 89, 90, 91, 92, 93, 94] (by decide +kernel) (by decide +kernel)
set_option maxRecDepth 20000 in
theorem gX6_burdenOf_X1_sightNumber : GoodIn wsX6_burdenOf (wsV RX6 136 RX1 yX1_sightNumber wsX1_sightNumber) := goodIn_app (goodIn_of _ (by decide +kernel)) ggX6_burdenOf_X1_sightNumber
set_option maxRecDepth 20000 in
theorem ggX6_burdenOf_X6_offOf : GoodIn wsX6_burdenOf wsX6_offOf := goodIn_r _ [17, 18, 19, 2, 7, 8, 9, 10, 11, 12, 20, 21, 22, 23, 24, 25, 26, 27, 28, 29, 30, 31, 32, 33, 34, 35, 36, 37, 38, 39, 40, 41, 42, 43, 44, 45, 46, 47, 16, 48, 49, 50, 51, 52, 53, 54, 55, 56, 57, 58, 59, 60, 61, 62, 63, 64, 65, 66, 67, 68, 69, 70, 71, 72, 73, 74, 75, 76, 77, 78, 79, 4, 5, 6, 80, 81, 82, 83, 84, 85, 86, 95, 96, 97, 98, 99, 100, 101, 102, 103, 87, 88, 89, 90, 91, 92, 93, 94, 104, 105, 106, 107, 108, 109, 110, 111, 112, 113, 114, 115, 116, 117, 118] (by decide +kernel) (by decide +kernel)
set_option maxRecDepth 20000 in
theorem gX6_burdenOf_X6_offOf : GoodIn wsX6_burdenOf (wsV RX6 139 RX6 yX6_offOf wsX6_offOf) := goodIn_app (goodIn_of _ (by decide +kernel)) ggX6_burdenOf_X6_offOf
theorem dX6_burdenOf_0 : decode cX6_burdenOf 0 = .ok (.iconst 0, 1) := by decide +kernel
theorem dX6_burdenOf_1 : decode cX6_burdenOf 1 = .ok (.istore_n 3, 1) := by decide +kernel
theorem dX6_burdenOf_2 : decode cX6_burdenOf 2 = .ok (.iconst 0, 1) := by decide +kernel
theorem dX6_burdenOf_3 : decode cX6_burdenOf 3 = .ok (.istore 4, 2) := by decide +kernel
theorem dX6_burdenOf_5 : decode cX6_burdenOf 5 = .ok (.iload 4, 2) := by decide +kernel
theorem dX6_burdenOf_7 : decode cX6_burdenOf 7 = .ok (.aload_n 1, 1) := by decide +kernel
theorem dX6_burdenOf_8 : decode cX6_burdenOf 8 = .ok (.getfield 93, 3) := by decide +kernel
theorem dX6_burdenOf_11 : decode cX6_burdenOf 11 = .ok (.if_icmp .ge 50, 3) := by decide +kernel
theorem dX6_burdenOf_14 : decode cX6_burdenOf 14 = .ok (.aload_n 1, 1) := by decide +kernel
theorem dX6_burdenOf_15 : decode cX6_burdenOf 15 = .ok (.iload 4, 2) := by decide +kernel
theorem dX6_burdenOf_17 : decode cX6_burdenOf 17 = .ok (.iconst 0, 1) := by decide +kernel
theorem dX6_burdenOf_18 : decode cX6_burdenOf 18 = .ok (.invokevirtual 136, 3) := by decide +kernel
theorem dX6_burdenOf_21 : decode cX6_burdenOf 21 = .ok (.iload_n 2, 1) := by decide +kernel
theorem dX6_burdenOf_22 : decode cX6_burdenOf 22 = .ok (.if_icmp .ne 33, 3) := by decide +kernel
theorem dX6_burdenOf_25 : decode cX6_burdenOf 25 = .ok (.aload_n 0, 1) := by decide +kernel
theorem dX6_burdenOf_26 : decode cX6_burdenOf 26 = .ok (.aload_n 1, 1) := by decide +kernel
theorem dX6_burdenOf_27 : decode cX6_burdenOf 27 = .ok (.iload 4, 2) := by decide +kernel
theorem dX6_burdenOf_29 : decode cX6_burdenOf 29 = .ok (.invokevirtual 139, 3) := by decide +kernel
theorem dX6_burdenOf_32 : decode cX6_burdenOf 32 = .ok (.istore 5, 2) := by decide +kernel
theorem dX6_burdenOf_34 : decode cX6_burdenOf 34 = .ok (.iload_n 3, 1) := by decide +kernel
theorem dX6_burdenOf_35 : decode cX6_burdenOf 35 = .ok (.iload 5, 2) := by decide +kernel
theorem dX6_burdenOf_37 : decode cX6_burdenOf 37 = .ok (.ldc 236, 2) := by decide +kernel
theorem dX6_burdenOf_39 : decode cX6_burdenOf 39 = .ok (.if_icmp .ne 9, 3) := by decide +kernel
theorem dX6_burdenOf_42 : decode cX6_burdenOf 42 = .ok (.sipush 401, 3) := by decide +kernel
theorem dX6_burdenOf_45 : decode cX6_burdenOf 45 = .ok (.goto 8, 3) := by decide +kernel
theorem dX6_burdenOf_48 : decode cX6_burdenOf 48 = .ok (.iload 5, 2) := by decide +kernel
theorem dX6_burdenOf_50 : decode cX6_burdenOf 50 = .ok (.invokestatic 237, 3) := by decide +kernel
theorem dX6_burdenOf_53 : decode cX6_burdenOf 53 = .ok (.iadd, 1) := by decide +kernel
theorem dX6_burdenOf_54 : decode cX6_burdenOf 54 = .ok (.istore_n 3, 1) := by decide +kernel
theorem dX6_burdenOf_55 : decode cX6_burdenOf 55 = .ok (.iinc 4 1, 3) := by decide +kernel
theorem dX6_burdenOf_58 : decode cX6_burdenOf 58 = .ok (.goto (-53), 3) := by decide +kernel
theorem dX6_burdenOf_61 : decode cX6_burdenOf 61 = .ok (.iload_n 3, 1) := by decide +kernel
theorem dX6_burdenOf_62 : decode cX6_burdenOf 62 = .ok (.ireturn, 1) := by decide +kernel
set_option maxRecDepth 20000 in
theorem ggX6_draftTurned_X1_copyFrom : GoodIn wsX6_draftTurned wsX1_copyFrom := goodIn_r _ [7, 8, 9, 10, 11, 12, 13, 14, 15, 16, 17, 6, 18, 44, 45, 46, 47, 48, 49, 50, 51] (by decide +kernel) (by decide +kernel)
set_option maxRecDepth 20000 in
theorem gX6_draftTurned_X1_copyFrom : GoodIn wsX6_draftTurned (wsV RX6 86 RX1 yX1_copyFrom wsX1_copyFrom) := goodIn_app (goodIn_of _ (by decide +kernel)) ggX6_draftTurned_X1_copyFrom
set_option maxRecDepth 20000 in
theorem ggX6_draftTurned_X1_turnStart : GoodIn wsX6_draftTurned wsX1_turnStart := goodIn_r _ [22, 23, 24, 25, 6, 26, 14, 27, 28, 29, 30, 31, 32, 33, 34, 44, 45, 46, 47, 48, 49, 50, 51] (by decide +kernel) (by decide +kernel)
set_option maxRecDepth 20000 in
theorem gX6_draftTurned_X1_turnStart : GoodIn wsX6_draftTurned (wsV RX6 315 RX1 yX1_turnStart wsX1_turnStart) := goodIn_app (goodIn_of _ (by decide +kernel)) ggX6_draftTurned_X1_turnStart
theorem dX6_draftTurned_0 : decode cX6_draftTurned 0 = .ok (.aload_n 0, 1) := by decide +kernel
theorem dX6_draftTurned_1 : decode cX6_draftTurned 1 = .ok (.getfield 16, 3) := by decide +kernel
theorem dX6_draftTurned_4 : decode cX6_draftTurned 4 = .ok (.aload_n 0, 1) := by decide +kernel
theorem dX6_draftTurned_5 : decode cX6_draftTurned 5 = .ok (.getfield 10, 3) := by decide +kernel
theorem dX6_draftTurned_8 : decode cX6_draftTurned 8 = .ok (.invokevirtual 86, 3) := by decide +kernel
theorem dX6_draftTurned_11 : decode cX6_draftTurned 11 = .ok (.aload_n 0, 1) := by decide +kernel
theorem dX6_draftTurned_12 : decode cX6_draftTurned 12 = .ok (.getfield 16, 3) := by decide +kernel
theorem dX6_draftTurned_15 : decode cX6_draftTurned 15 = .ok (.iload_n 1, 1) := by decide +kernel
theorem dX6_draftTurned_16 : decode cX6_draftTurned 16 = .ok (.iload_n 2, 1) := by decide +kernel
theorem dX6_draftTurned_17 : decode cX6_draftTurned 17 = .ok (.invokevirtual 315, 3) := by decide +kernel
theorem dX6_draftTurned_20 : decode cX6_draftTurned 20 = .ok (.return_, 1) := by decide +kernel
set_option maxRecDepth 20000 in
theorem ggX6_bestDegrees_X6_draftTurned : GoodIn wsX6_bestDegrees wsX6_draftTurned := goodIn_r _ [8, 3, 9, 10, 11, 12, 13, 14, 15, 16, 17, 18, 19, 20, 21, 22, 23, 24, 25, 26, 27, 28, 29, 30, 31, 32, 33, 34, 35, 36, 37, 38, 39, 40, 41, 124, 125, 126, 127, 128, 129, 130, 131, 132, 133, 134, 135, 136, 137, 138, 139, 140] (by decide +kernel) (by decide +kernel)
set_option maxRecDepth 20000 in
theorem gX6_bestDegrees_X6_draftTurned : GoodIn wsX6_bestDegrees (wsV RX6 240 RX6 yX6_draftTurned wsX6_draftTurned) := goodIn_app (goodIn_of _ (by decide +kernel)) ggX6_bestDegrees_X6_draftTurned
set_option maxRecDepth 20000 in
theorem ggX6_bestDegrees_X6_burdenOf : GoodIn wsX6_bestDegrees wsX6_burdenOf := goodIn_r _ [45, 46, 47, 48, 49, 50, 51, 52, 53, 54, 13, 55, 22, 56, 57, 58, 7, 59, 60, 1, 61, 62, 63, 64, 65, 66, 67, 68, 69, 70, 71, 72, 73, 74, 75, 76, 77, 78, 79, 80, 31, 32, 33, 21, 81, 82, 83, 84, 85, 86, 87, 88, 89, 90, 91, 92, 93, 94, 95, 96, 97, 98, 99, 100, 101, 102, 103, 104, 105, 106, 107, 108, 109, 110, 111, 112, 113, 114, 115, 116, 117, 118, 119, 120, 121, 122, 123, 133, 134, 135, 136, 137, 138, 139, 140, 124, 125, 126, 127, 128, 129, 130, 131, 132, 141, 142, 143, 144, 145, 146, 147, 148, 149, 150, 151, 152, 153, 154, 155] (by decide +kernel) (by decide +kernel)
set_option maxRecDepth 20000 in
theorem gX6_bestDegrees_X6_burdenOf : GoodIn wsX6_bestDegrees (wsV RX6 129 RX6 yX6_burdenOf wsX6_burdenOf) := goodIn_app (goodIn_of _ (by decide +kernel)) ggX6_bestDegrees_X6_burdenOf
theorem dX6_bestDegrees_0 : decode cX6_bestDegrees 0 = .ok (.iconst 0, 1) := by decide +kernel
theorem dX6_bestDegrees_1 : decode cX6_bestDegrees 1 = .ok (.istore_n 2, 1) := by decide +kernel
theorem dX6_bestDegrees_2 : decode cX6_bestDegrees 2 = .ok (.ldc 215, 2) := by decide +kernel
theorem dX6_bestDegrees_4 : decode cX6_bestDegrees 4 = .ok (.istore_n 3, 1) := by decide +kernel
theorem dX6_bestDegrees_5 : decode cX6_bestDegrees 5 = .ok (.iconst 0, 1) := by decide +kernel
theorem dX6_bestDegrees_6 : decode cX6_bestDegrees 6 = .ok (.istore 4, 2) := by decide +kernel
theorem dX6_bestDegrees_8 : decode cX6_bestDegrees 8 = .ok (.iload 4, 2) := by decide +kernel
theorem dX6_bestDegrees_10 : decode cX6_bestDegrees 10 = .ok (.getstatic 318, 3) := by decide +kernel
theorem dX6_bestDegrees_13 : decode cX6_bestDegrees 13 = .ok (.arraylength, 1) := by decide +kernel
theorem dX6_bestDegrees_14 : decode cX6_bestDegrees 14 = .ok (.if_icmp .ge 47, 3) := by decide +kernel
theorem dX6_bestDegrees_17 : decode cX6_bestDegrees 17 = .ok (.aload_n 0, 1) := by decide +kernel
theorem dX6_bestDegrees_18 : decode cX6_bestDegrees 18 = .ok (.iload_n 1, 1) := by decide +kernel
theorem dX6_bestDegrees_19 : decode cX6_bestDegrees 19 = .ok (.getstatic 318, 3) := by decide +kernel
theorem dX6_bestDegrees_22 : decode cX6_bestDegrees 22 = .ok (.iload 4, 2) := by decide +kernel
theorem dX6_bestDegrees_24 : decode cX6_bestDegrees 24 = .ok (.iaload, 1) := by decide +kernel
theorem dX6_bestDegrees_25 : decode cX6_bestDegrees 25 = .ok (.invokevirtual 240, 3) := by decide +kernel
theorem dX6_bestDegrees_28 : decode cX6_bestDegrees 28 = .ok (.aload_n 0, 1) := by decide +kernel
theorem dX6_bestDegrees_29 : decode cX6_bestDegrees 29 = .ok (.aload_n 0, 1) := by decide +kernel
theorem dX6_bestDegrees_30 : decode cX6_bestDegrees 30 = .ok (.getfield 16, 3) := by decide +kernel
theorem dX6_bestDegrees_33 : decode cX6_bestDegrees 33 = .ok (.iload_n 1, 1) := by decide +kernel
theorem dX6_bestDegrees_34 : decode cX6_bestDegrees 34 = .ok (.invokevirtual 129, 3) := by decide +kernel
theorem dX6_bestDegrees_37 : decode cX6_bestDegrees 37 = .ok (.istore 5, 2) := by decide +kernel
theorem dX6_bestDegrees_39 : decode cX6_bestDegrees 39 = .ok (.iload 5, 2) := by decide +kernel
theorem dX6_bestDegrees_41 : decode cX6_bestDegrees 41 = .ok (.iload_n 3, 1) := by decide +kernel
theorem dX6_bestDegrees_42 : decode cX6_bestDegrees 42 = .ok (.if_icmp .ge 13, 3) := by decide +kernel
theorem dX6_bestDegrees_45 : decode cX6_bestDegrees 45 = .ok (.iload 5, 2) := by decide +kernel
theorem dX6_bestDegrees_47 : decode cX6_bestDegrees 47 = .ok (.istore_n 3, 1) := by decide +kernel
theorem dX6_bestDegrees_48 : decode cX6_bestDegrees 48 = .ok (.getstatic 318, 3) := by decide +kernel
theorem dX6_bestDegrees_51 : decode cX6_bestDegrees 51 = .ok (.iload 4, 2) := by decide +kernel
theorem dX6_bestDegrees_53 : decode cX6_bestDegrees 53 = .ok (.iaload, 1) := by decide +kernel
theorem dX6_bestDegrees_54 : decode cX6_bestDegrees 54 = .ok (.istore_n 2, 1) := by decide +kernel
theorem dX6_bestDegrees_55 : decode cX6_bestDegrees 55 = .ok (.iinc 4 1, 3) := by decide +kernel
theorem dX6_bestDegrees_58 : decode cX6_bestDegrees 58 = .ok (.goto (-50), 3) := by decide +kernel
theorem dX6_bestDegrees_61 : decode cX6_bestDegrees 61 = .ok (.iload_n 2, 1) := by decide +kernel
theorem dX6_bestDegrees_62 : decode cX6_bestDegrees 62 = .ok (.ireturn, 1) := by decide +kernel
set_option maxRecDepth 20000 in
theorem ggX6_offOf_X1_sightNumber : GoodIn wsX6_offOf wsX1_sightNumber := goodIn_r _ [8, 9, 90, 91, 92, 93, 94, 95, 96, 97] (by decide +kernel) (by decide +kernel)
set_option maxRecDepth 20000 in
theorem gX6_offOf_X1_sightNumber : GoodIn wsX6_offOf (wsV RX6 136 RX1 yX1_sightNumber wsX1_sightNumber) := goodIn_app (goodIn_of _ (by decide +kernel)) ggX6_offOf_X1_sightNumber
set_option maxRecDepth 20000 in
theorem ggX6_offOf_X3_aim : GoodIn wsX6_offOf wsX3_aim := goodIn_r _ [14, 15, 16, 17, 18, 19, 20, 21, 22, 23, 24, 25, 26, 27, 28, 29, 30, 31, 7, 32, 33, 34, 35, 13, 36, 37, 38, 39, 40, 41, 42, 43, 90, 91, 92, 93, 94, 95, 96, 97, 98, 99, 100, 101, 102, 103, 104, 105, 106, 107, 108, 109, 110, 111, 112] (by decide +kernel) (by decide +kernel)
set_option maxRecDepth 20000 in
theorem gX6_offOf_X3_aim : GoodIn wsX6_offOf (wsV RX6 181 RX3 yX3_aim wsX3_aim) := goodIn_app (goodIn_of _ (by decide +kernel)) ggX6_offOf_X3_aim
set_option maxRecDepth 20000 in
theorem ggX6_offOf_X3_conditionsAt : GoodIn wsX6_offOf wsX3_conditionsAt := goodIn_r _ [47, 48, 49, 50, 13, 51, 22, 23, 52, 24, 53, 26, 25, 54, 55, 19, 21, 56, 57, 58, 59, 60, 61, 27, 62, 28, 63, 37, 38, 39, 40, 41, 42, 43, 64, 65, 66, 67, 68, 69, 70, 71, 72, 73, 17, 16, 74, 75, 76, 77, 98, 99, 100, 101, 102, 103, 104, 105, 106, 107, 108, 109, 110, 111, 112] (by decide +kernel) (by decide +kernel)
set_option maxRecDepth 20000 in
theorem gX6_offOf_X3_conditionsAt : GoodIn wsX6_offOf (wsV RX6 204 RX3 yX3_conditionsAt wsX3_conditionsAt) := goodIn_app (goodIn_of _ (by decide +kernel)) ggX6_offOf_X3_conditionsAt
set_option maxRecDepth 20000 in
theorem ggX6_offOf_X6_hasKind : GoodIn wsX6_offOf wsX6_hasKind := goodIn_r _ [80] (by decide +kernel) (by decide +kernel)
set_option maxRecDepth 20000 in
theorem gX6_offOf_X6_hasKind : GoodIn wsX6_offOf (va_wsS RX6 207 yX6_hasKind wsX6_hasKind) := goodIn_app (goodIn_of _ (by decide +kernel)) ggX6_offOf_X6_hasKind
theorem dX6_offOf_0 : decode cX6_offOf 0 = .ok (.aload_n 0, 1) := by decide +kernel
theorem dX6_offOf_1 : decode cX6_offOf 1 = .ok (.getfield 54, 3) := by decide +kernel
theorem dX6_offOf_4 : decode cX6_offOf 4 = .ok (.aload_n 1, 1) := by decide +kernel
theorem dX6_offOf_5 : decode cX6_offOf 5 = .ok (.aload_n 1, 1) := by decide +kernel
theorem dX6_offOf_6 : decode cX6_offOf 6 = .ok (.iload_n 2, 1) := by decide +kernel
theorem dX6_offOf_7 : decode cX6_offOf 7 = .ok (.iconst 0, 1) := by decide +kernel
theorem dX6_offOf_8 : decode cX6_offOf 8 = .ok (.invokevirtual 136, 3) := by decide +kernel
theorem dX6_offOf_11 : decode cX6_offOf 11 = .ok (.invokevirtual 181, 3) := by decide +kernel
theorem dX6_offOf_14 : decode cX6_offOf 14 = .ok (.aload_n 1, 1) := by decide +kernel
theorem dX6_offOf_15 : decode cX6_offOf 15 = .ok (.iload_n 2, 1) := by decide +kernel
theorem dX6_offOf_16 : decode cX6_offOf 16 = .ok (.iconst 1, 1) := by decide +kernel
theorem dX6_offOf_17 : decode cX6_offOf 17 = .ok (.invokevirtual 136, 3) := by decide +kernel
theorem dX6_offOf_20 : decode cX6_offOf 20 = .ok (.istore_n 3, 1) := by decide +kernel
theorem dX6_offOf_21 : decode cX6_offOf 21 = .ok (.aload_n 1, 1) := by decide +kernel
theorem dX6_offOf_22 : decode cX6_offOf 22 = .ok (.iload_n 2, 1) := by decide +kernel
theorem dX6_offOf_23 : decode cX6_offOf 23 = .ok (.iconst 2, 1) := by decide +kernel
theorem dX6_offOf_24 : decode cX6_offOf 24 = .ok (.invokevirtual 136, 3) := by decide +kernel
theorem dX6_offOf_27 : decode cX6_offOf 27 = .ok (.istore 4, 2) := by decide +kernel
theorem dX6_offOf_29 : decode cX6_offOf 29 = .ok (.aload_n 0, 1) := by decide +kernel
theorem dX6_offOf_30 : decode cX6_offOf 30 = .ok (.getfield 54, 3) := by decide +kernel
theorem dX6_offOf_33 : decode cX6_offOf 33 = .ok (.iload 4, 2) := by decide +kernel
theorem dX6_offOf_35 : decode cX6_offOf 35 = .ok (.invokevirtual 204, 3) := by decide +kernel
theorem dX6_offOf_38 : decode cX6_offOf 38 = .ok (.istore 5, 2) := by decide +kernel
theorem dX6_offOf_40 : decode cX6_offOf 40 = .ok (.iload 5, 2) := by decide +kernel
theorem dX6_offOf_42 : decode cX6_offOf 42 = .ok (.istore 6, 2) := by decide +kernel
theorem dX6_offOf_44 : decode cX6_offOf 44 = .ok (.iconst 0, 1) := by decide +kernel
theorem dX6_offOf_45 : decode cX6_offOf 45 = .ok (.istore 7, 2) := by decide +kernel
theorem dX6_offOf_47 : decode cX6_offOf 47 = .ok (.iload 7, 2) := by decide +kernel
theorem dX6_offOf_49 : decode cX6_offOf 49 = .ok (.sipush 400, 3) := by decide +kernel
theorem dX6_offOf_52 : decode cX6_offOf 52 = .ok (.if_icmp .gt 106, 3) := by decide +kernel
theorem dX6_offOf_55 : decode cX6_offOf 55 = .ok (.iload 4, 2) := by decide +kernel
theorem dX6_offOf_57 : decode cX6_offOf 57 = .ok (.iload 7, 2) := by decide +kernel
theorem dX6_offOf_59 : decode cX6_offOf 59 = .ok (.isub, 1) := by decide +kernel
theorem dX6_offOf_60 : decode cX6_offOf 60 = .ok (.iconst 1, 1) := by decide +kernel
theorem dX6_offOf_61 : decode cX6_offOf 61 = .ok (.if_icmp .lt 41, 3) := by decide +kernel
theorem dX6_offOf_64 : decode cX6_offOf 64 = .ok (.aload_n 0, 1) := by decide +kernel
theorem dX6_offOf_65 : decode cX6_offOf 65 = .ok (.getfield 54, 3) := by decide +kernel
theorem dX6_offOf_68 : decode cX6_offOf 68 = .ok (.iload 4, 2) := by decide +kernel
theorem dX6_offOf_70 : decode cX6_offOf 70 = .ok (.iload 7, 2) := by decide +kernel
theorem dX6_offOf_72 : decode cX6_offOf 72 = .ok (.isub, 1) := by decide +kernel
theorem dX6_offOf_73 : decode cX6_offOf 73 = .ok (.iconst 1, 1) := by decide +kernel
theorem dX6_offOf_74 : decode cX6_offOf 74 = .ok (.isub, 1) := by decide +kernel
theorem dX6_offOf_75 : decode cX6_offOf 75 = .ok (.invokevirtual 204, 3) := by decide +kernel
theorem dX6_offOf_78 : decode cX6_offOf 78 = .ok (.istore 8, 2) := by decide +kernel
theorem dX6_offOf_80 : decode cX6_offOf 80 = .ok (.iload 5, 2) := by decide +kernel
theorem dX6_offOf_82 : decode cX6_offOf 82 = .ok (.iload 8, 2) := by decide +kernel
theorem dX6_offOf_84 : decode cX6_offOf 84 = .ok (.iconst (-1), 1) := by decide +kernel
theorem dX6_offOf_85 : decode cX6_offOf 85 = .ok (.ixor, 1) := by decide +kernel
theorem dX6_offOf_86 : decode cX6_offOf 86 = .ok (.iand, 1) := by decide +kernel
theorem dX6_offOf_87 : decode cX6_offOf 87 = .ok (.iload_n 3, 1) := by decide +kernel
theorem dX6_offOf_88 : decode cX6_offOf 88 = .ok (.invokestatic 207, 3) := by decide +kernel
theorem dX6_offOf_91 : decode cX6_offOf 91 = .ok (.ifCond .eq 7, 3) := by decide +kernel
theorem dX6_offOf_94 : decode cX6_offOf 94 = .ok (.iload 7, 2) := by decide +kernel
theorem dX6_offOf_96 : decode cX6_offOf 96 = .ok (.ineg, 1) := by decide +kernel
theorem dX6_offOf_97 : decode cX6_offOf 97 = .ok (.ireturn, 1) := by decide +kernel
theorem dX6_offOf_98 : decode cX6_offOf 98 = .ok (.iload 8, 2) := by decide +kernel
theorem dX6_offOf_100 : decode cX6_offOf 100 = .ok (.istore 5, 2) := by decide +kernel
theorem dX6_offOf_102 : decode cX6_offOf 102 = .ok (.iload 7, 2) := by decide +kernel
theorem dX6_offOf_104 : decode cX6_offOf 104 = .ok (.ifCond .le 48, 3) := by decide +kernel
theorem dX6_offOf_107 : decode cX6_offOf 107 = .ok (.iload 4, 2) := by decide +kernel
theorem dX6_offOf_109 : decode cX6_offOf 109 = .ok (.iload 7, 2) := by decide +kernel
theorem dX6_offOf_111 : decode cX6_offOf 111 = .ok (.iadd, 1) := by decide +kernel
theorem dX6_offOf_112 : decode cX6_offOf 112 = .ok (.ldc 215, 2) := by decide +kernel
theorem dX6_offOf_114 : decode cX6_offOf 114 = .ok (.if_icmp .gt 38, 3) := by decide +kernel
theorem dX6_offOf_117 : decode cX6_offOf 117 = .ok (.aload_n 0, 1) := by decide +kernel
theorem dX6_offOf_118 : decode cX6_offOf 118 = .ok (.getfield 54, 3) := by decide +kernel
theorem dX6_offOf_121 : decode cX6_offOf 121 = .ok (.iload 4, 2) := by decide +kernel
theorem dX6_offOf_123 : decode cX6_offOf 123 = .ok (.iload 7, 2) := by decide +kernel
theorem dX6_offOf_125 : decode cX6_offOf 125 = .ok (.iadd, 1) := by decide +kernel
theorem dX6_offOf_126 : decode cX6_offOf 126 = .ok (.invokevirtual 204, 3) := by decide +kernel
theorem dX6_offOf_129 : decode cX6_offOf 129 = .ok (.istore 8, 2) := by decide +kernel
theorem dX6_offOf_131 : decode cX6_offOf 131 = .ok (.iload 8, 2) := by decide +kernel
theorem dX6_offOf_133 : decode cX6_offOf 133 = .ok (.iload 6, 2) := by decide +kernel
theorem dX6_offOf_135 : decode cX6_offOf 135 = .ok (.iconst (-1), 1) := by decide +kernel
theorem dX6_offOf_136 : decode cX6_offOf 136 = .ok (.ixor, 1) := by decide +kernel
theorem dX6_offOf_137 : decode cX6_offOf 137 = .ok (.iand, 1) := by decide +kernel
theorem dX6_offOf_138 : decode cX6_offOf 138 = .ok (.iload_n 3, 1) := by decide +kernel
theorem dX6_offOf_139 : decode cX6_offOf 139 = .ok (.invokestatic 207, 3) := by decide +kernel
theorem dX6_offOf_142 : decode cX6_offOf 142 = .ok (.ifCond .eq 6, 3) := by decide +kernel
theorem dX6_offOf_145 : decode cX6_offOf 145 = .ok (.iload 7, 2) := by decide +kernel
theorem dX6_offOf_147 : decode cX6_offOf 147 = .ok (.ireturn, 1) := by decide +kernel
theorem dX6_offOf_148 : decode cX6_offOf 148 = .ok (.iload 8, 2) := by decide +kernel
theorem dX6_offOf_150 : decode cX6_offOf 150 = .ok (.istore 6, 2) := by decide +kernel
theorem dX6_offOf_152 : decode cX6_offOf 152 = .ok (.iinc 7 1, 3) := by decide +kernel
theorem dX6_offOf_155 : decode cX6_offOf 155 = .ok (.goto (-108), 3) := by decide +kernel
theorem dX6_offOf_158 : decode cX6_offOf 158 = .ok (.ldc 236, 2) := by decide +kernel
theorem dX6_offOf_160 : decode cX6_offOf 160 = .ok (.ireturn, 1) := by decide +kernel
set_option maxRecDepth 20000 in
theorem ggX6_acceptDraft_X0_keep : GoodIn wsX6_acceptDraft wsX0_keep := goodIn_r _ [8, 9, 10, 11, 12, 13, 14, 15, 16, 17, 18, 19, 20, 21, 22, 23, 24, 25, 26, 27, 28, 29, 30, 31, 32, 33, 34, 35, 36, 37, 38, 39, 40, 41, 42, 43, 53, 54, 55, 56, 57, 58, 59, 60, 61, 62, 63] (by decide +kernel) (by decide +kernel)
set_option maxRecDepth 20000 in
theorem gX6_acceptDraft_X0_keep : GoodIn wsX6_acceptDraft (wsV RX6 322 RX0 yX0_keep wsX0_keep) := goodIn_app (goodIn_of _ (by decide +kernel)) ggX6_acceptDraft_X0_keep
set_option maxRecDepth 20000 in
theorem ggX6_acceptDraft_X1_copyFrom : GoodIn wsX6_acceptDraft wsX1_copyFrom := goodIn_r _ [36, 27, 37, 38, 39, 40, 29, 31, 32, 41, 42, 21, 43, 56, 57, 58, 59, 60, 61, 62, 63] (by decide +kernel) (by decide +kernel)
set_option maxRecDepth 20000 in
theorem gX6_acceptDraft_X1_copyFrom : GoodIn wsX6_acceptDraft (wsV RX6 86 RX1 yX1_copyFrom wsX1_copyFrom) := goodIn_app (goodIn_of _ (by decide +kernel)) ggX6_acceptDraft_X1_copyFrom
theorem dX6_acceptDraft_0 : decode cX6_acceptDraft 0 = .ok (.aload_n 0, 1) := by decide +kernel
theorem dX6_acceptDraft_1 : decode cX6_acceptDraft 1 = .ok (.getfield 22, 3) := by decide +kernel
theorem dX6_acceptDraft_4 : decode cX6_acceptDraft 4 = .ok (.aload_n 0, 1) := by decide +kernel
theorem dX6_acceptDraft_5 : decode cX6_acceptDraft 5 = .ok (.getfield 10, 3) := by decide +kernel
theorem dX6_acceptDraft_8 : decode cX6_acceptDraft 8 = .ok (.invokevirtual 322, 3) := by decide +kernel
theorem dX6_acceptDraft_11 : decode cX6_acceptDraft 11 = .ok (.aload_n 0, 1) := by decide +kernel
theorem dX6_acceptDraft_12 : decode cX6_acceptDraft 12 = .ok (.getfield 10, 3) := by decide +kernel
theorem dX6_acceptDraft_15 : decode cX6_acceptDraft 15 = .ok (.aload_n 0, 1) := by decide +kernel
theorem dX6_acceptDraft_16 : decode cX6_acceptDraft 16 = .ok (.getfield 16, 3) := by decide +kernel
theorem dX6_acceptDraft_19 : decode cX6_acceptDraft 19 = .ok (.invokevirtual 86, 3) := by decide +kernel
theorem dX6_acceptDraft_22 : decode cX6_acceptDraft 22 = .ok (.return_, 1) := by decide +kernel
theorem dX6_skyIn_0 : decode cX6_skyIn 0 = .ok (.iload_n 1, 1) := by decide +kernel
theorem dX6_skyIn_1 : decode cX6_skyIn 1 = .ok (.ifCond .lt 15, 3) := by decide +kernel
theorem dX6_skyIn_4 : decode cX6_skyIn 4 = .ok (.iload_n 1, 1) := by decide +kernel
theorem dX6_skyIn_5 : decode cX6_skyIn 5 = .ok (.aload_n 0, 1) := by decide +kernel
theorem dX6_skyIn_6 : decode cX6_skyIn 6 = .ok (.arraylength, 1) := by decide +kernel
theorem dX6_skyIn_7 : decode cX6_skyIn 7 = .ok (.if_icmp .ge 9, 3) := by decide +kernel
theorem dX6_skyIn_10 : decode cX6_skyIn 10 = .ok (.aload_n 0, 1) := by decide +kernel
theorem dX6_skyIn_11 : decode cX6_skyIn 11 = .ok (.iload_n 1, 1) := by decide +kernel
theorem dX6_skyIn_12 : decode cX6_skyIn 12 = .ok (.aaload, 1) := by decide +kernel
theorem dX6_skyIn_13 : decode cX6_skyIn 13 = .ok (.goto 4, 3) := by decide +kernel
theorem dX6_skyIn_16 : decode cX6_skyIn 16 = .ok (.aconst_null, 1) := by decide +kernel
theorem dX6_skyIn_17 : decode cX6_skyIn 17 = .ok (.areturn, 1) := by decide +kernel
set_option maxRecDepth 20000 in
theorem ggX6_keepIn_X1_init : GoodIn wsX6_keepIn wsX1_init := goodIn_r _ [5, 6, 7, 8, 9, 10, 11, 12, 13, 14, 26, 27, 28, 29, 30, 31, 32, 33] (by decide +kernel) (by decide +kernel)
set_option maxRecDepth 20000 in
theorem gX6_keepIn_X1_init_n9 : GoodIn wsX6_keepIn (wsX1_init) := ggX6_keepIn_X1_init
set_option maxRecDepth 20000 in
theorem ggX6_keepIn_X1_copyFrom : GoodIn wsX6_keepIn wsX1_copyFrom := goodIn_r _ [18, 9, 19, 20, 21, 22, 11, 13, 14, 23, 24, 3, 25, 26, 27, 28, 29, 30, 31, 32, 33] (by decide +kernel) (by decide +kernel)
set_option maxRecDepth 20000 in
theorem gX6_keepIn_X1_copyFrom : GoodIn wsX6_keepIn (wsV RX6 86 RX1 yX1_copyFrom wsX1_copyFrom) := goodIn_app (goodIn_of _ (by decide +kernel)) ggX6_keepIn_X1_copyFrom
theorem dX6_keepIn_0 : decode cX6_keepIn 0 = .ok (.iload_n 1, 1) := by decide +kernel
theorem dX6_keepIn_1 : decode cX6_keepIn 1 = .ok (.ifCond .lt 9, 3) := by decide +kernel
theorem dX6_keepIn_4 : decode cX6_keepIn 4 = .ok (.iload_n 1, 1) := by decide +kernel
theorem dX6_keepIn_5 : decode cX6_keepIn 5 = .ok (.aload_n 0, 1) := by decide +kernel
theorem dX6_keepIn_6 : decode cX6_keepIn 6 = .ok (.arraylength, 1) := by decide +kernel
theorem dX6_keepIn_7 : decode cX6_keepIn 7 = .ok (.if_icmp .lt 4, 3) := by decide +kernel
theorem dX6_keepIn_10 : decode cX6_keepIn 10 = .ok (.return_, 1) := by decide +kernel
theorem dX6_keepIn_11 : decode cX6_keepIn 11 = .ok (.aload_n 0, 1) := by decide +kernel
theorem dX6_keepIn_12 : decode cX6_keepIn 12 = .ok (.iload_n 1, 1) := by decide +kernel
theorem dX6_keepIn_13 : decode cX6_keepIn 13 = .ok (.aaload, 1) := by decide +kernel
theorem dX6_keepIn_14 : decode cX6_keepIn 14 = .ok (.astore_n 3, 1) := by decide +kernel
theorem dX6_keepIn_15 : decode cX6_keepIn 15 = .ok (.aload_n 3, 1) := by decide +kernel
theorem dX6_keepIn_16 : decode cX6_keepIn 16 = .ok (.ifnonnull 15, 3) := by decide +kernel
theorem dX6_keepIn_19 : decode cX6_keepIn 19 = .ok (.new 7, 3) := by decide +kernel
theorem dX6_keepIn_22 : decode cX6_keepIn 22 = .ok (.dup, 1) := by decide +kernel
theorem dX6_keepIn_23 : decode cX6_keepIn 23 = .ok (.invokespecial 9, 3) := by decide +kernel
theorem dX6_keepIn_26 : decode cX6_keepIn 26 = .ok (.astore_n 3, 1) := by decide +kernel
theorem dX6_keepIn_27 : decode cX6_keepIn 27 = .ok (.aload_n 0, 1) := by decide +kernel
theorem dX6_keepIn_28 : decode cX6_keepIn 28 = .ok (.iload_n 1, 1) := by decide +kernel
theorem dX6_keepIn_29 : decode cX6_keepIn 29 = .ok (.aload_n 3, 1) := by decide +kernel
theorem dX6_keepIn_30 : decode cX6_keepIn 30 = .ok (.aastore, 1) := by decide +kernel
theorem dX6_keepIn_31 : decode cX6_keepIn 31 = .ok (.aload_n 3, 1) := by decide +kernel
theorem dX6_keepIn_32 : decode cX6_keepIn 32 = .ok (.aload_n 2, 1) := by decide +kernel
theorem dX6_keepIn_33 : decode cX6_keepIn 33 = .ok (.invokevirtual 86, 3) := by decide +kernel
theorem dX6_keepIn_36 : decode cX6_keepIn 36 = .ok (.return_, 1) := by decide +kernel
theorem dX6_hasKind_0 : decode cX6_hasKind 0 = .ok (.iload_n 0, 1) := by decide +kernel
theorem dX6_hasKind_1 : decode cX6_hasKind 1 = .ok (.iload_n 1, 1) := by decide +kernel
theorem dX6_hasKind_2 : decode cX6_hasKind 2 = .ok (.ishr, 1) := by decide +kernel
theorem dX6_hasKind_3 : decode cX6_hasKind 3 = .ok (.iconst 1, 1) := by decide +kernel
theorem dX6_hasKind_4 : decode cX6_hasKind 4 = .ok (.iand, 1) := by decide +kernel
theorem dX6_hasKind_5 : decode cX6_hasKind 5 = .ok (.ifCond .eq 7, 3) := by decide +kernel
theorem dX6_hasKind_8 : decode cX6_hasKind 8 = .ok (.iconst 1, 1) := by decide +kernel
theorem dX6_hasKind_9 : decode cX6_hasKind 9 = .ok (.goto 4, 3) := by decide +kernel
theorem dX6_hasKind_12 : decode cX6_hasKind 12 = .ok (.iconst 0, 1) := by decide +kernel
theorem dX6_hasKind_13 : decode cX6_hasKind 13 = .ok (.ireturn, 1) := by decide +kernel
theorem dX6_lowestOf_0 : decode cX6_lowestOf 0 = .ok (.iload_n 0, 1) := by decide +kernel
theorem dX6_lowestOf_1 : decode cX6_lowestOf 1 = .ok (.ifCond .lt 19, 3) := by decide +kernel
theorem dX6_lowestOf_4 : decode cX6_lowestOf 4 = .ok (.iload_n 0, 1) := by decide +kernel
theorem dX6_lowestOf_5 : decode cX6_lowestOf 5 = .ok (.getstatic 325, 3) := by decide +kernel
theorem dX6_lowestOf_8 : decode cX6_lowestOf 8 = .ok (.arraylength, 1) := by decide +kernel
theorem dX6_lowestOf_9 : decode cX6_lowestOf 9 = .ok (.if_icmp .ge 11, 3) := by decide +kernel
theorem dX6_lowestOf_12 : decode cX6_lowestOf 12 = .ok (.getstatic 325, 3) := by decide +kernel
theorem dX6_lowestOf_15 : decode cX6_lowestOf 15 = .ok (.iload_n 0, 1) := by decide +kernel
theorem dX6_lowestOf_16 : decode cX6_lowestOf 16 = .ok (.iaload, 1) := by decide +kernel
theorem dX6_lowestOf_17 : decode cX6_lowestOf 17 = .ok (.goto 4, 3) := by decide +kernel
theorem dX6_lowestOf_20 : decode cX6_lowestOf 20 = .ok (.iconst 0, 1) := by decide +kernel
theorem dX6_lowestOf_21 : decode cX6_lowestOf 21 = .ok (.ireturn, 1) := by decide +kernel
theorem dX6_highestOf_0 : decode cX6_highestOf 0 = .ok (.iload_n 0, 1) := by decide +kernel
theorem dX6_highestOf_1 : decode cX6_highestOf 1 = .ok (.ifCond .lt 19, 3) := by decide +kernel
theorem dX6_highestOf_4 : decode cX6_highestOf 4 = .ok (.iload_n 0, 1) := by decide +kernel
theorem dX6_highestOf_5 : decode cX6_highestOf 5 = .ok (.getstatic 328, 3) := by decide +kernel
theorem dX6_highestOf_8 : decode cX6_highestOf 8 = .ok (.arraylength, 1) := by decide +kernel
theorem dX6_highestOf_9 : decode cX6_highestOf 9 = .ok (.if_icmp .ge 11, 3) := by decide +kernel
theorem dX6_highestOf_12 : decode cX6_highestOf 12 = .ok (.getstatic 328, 3) := by decide +kernel
theorem dX6_highestOf_15 : decode cX6_highestOf 15 = .ok (.iload_n 0, 1) := by decide +kernel
theorem dX6_highestOf_16 : decode cX6_highestOf 16 = .ok (.iaload, 1) := by decide +kernel
theorem dX6_highestOf_17 : decode cX6_highestOf 17 = .ok (.goto 4, 3) := by decide +kernel
theorem dX6_highestOf_20 : decode cX6_highestOf 20 = .ok (.iconst 0, 1) := by decide +kernel
theorem dX6_highestOf_21 : decode cX6_highestOf 21 = .ok (.ireturn, 1) := by decide +kernel
theorem dX6_kindWord_0 : decode cX6_kindWord 0 = .ok (.iload_n 0, 1) := by decide +kernel
theorem dX6_kindWord_1 : decode cX6_kindWord 1 = .ok (.tableswitch 39 0 2 #[27, 31, 35], 27) := by decide +kernel
theorem dX6_kindWord_28 : decode cX6_kindWord 28 = .ok (.ldc_w 331, 3) := by decide +kernel
theorem dX6_kindWord_31 : decode cX6_kindWord 31 = .ok (.areturn, 1) := by decide +kernel
theorem dX6_kindWord_32 : decode cX6_kindWord 32 = .ok (.ldc_w 333, 3) := by decide +kernel
theorem dX6_kindWord_35 : decode cX6_kindWord 35 = .ok (.areturn, 1) := by decide +kernel
theorem dX6_kindWord_36 : decode cX6_kindWord 36 = .ok (.ldc_w 335, 3) := by decide +kernel
theorem dX6_kindWord_39 : decode cX6_kindWord 39 = .ok (.areturn, 1) := by decide +kernel
theorem dX6_kindWord_40 : decode cX6_kindWord 40 = .ok (.ldc_w 337, 3) := by decide +kernel
theorem dX6_kindWord_43 : decode cX6_kindWord 43 = .ok (.areturn, 1) := by decide +kernel
theorem dX6_bytesIn_0 : decode cX6_bytesIn 0 = .ok (.iconst 0, 1) := by decide +kernel
theorem dX6_bytesIn_1 : decode cX6_bytesIn 1 = .ok (.istore_n 1, 1) := by decide +kernel
theorem dX6_bytesIn_2 : decode cX6_bytesIn 2 = .ok (.bipush 24, 2) := by decide +kernel
theorem dX6_bytesIn_4 : decode cX6_bytesIn 4 = .ok (.istore_n 2, 1) := by decide +kernel
theorem dX6_bytesIn_5 : decode cX6_bytesIn 5 = .ok (.iload_n 2, 1) := by decide +kernel
theorem dX6_bytesIn_6 : decode cX6_bytesIn 6 = .ok (.ifCond .lt 22, 3) := by decide +kernel
theorem dX6_bytesIn_9 : decode cX6_bytesIn 9 = .ok (.iload_n 0, 1) := by decide +kernel
theorem dX6_bytesIn_10 : decode cX6_bytesIn 10 = .ok (.iload_n 2, 1) := by decide +kernel
theorem dX6_bytesIn_11 : decode cX6_bytesIn 11 = .ok (.ishr, 1) := by decide +kernel
theorem dX6_bytesIn_12 : decode cX6_bytesIn 12 = .ok (.sipush 255, 3) := by decide +kernel
theorem dX6_bytesIn_15 : decode cX6_bytesIn 15 = .ok (.iand, 1) := by decide +kernel
theorem dX6_bytesIn_16 : decode cX6_bytesIn 16 = .ok (.ifCond .eq 6, 3) := by decide +kernel
theorem dX6_bytesIn_19 : decode cX6_bytesIn 19 = .ok (.iinc 1 1, 3) := by decide +kernel
theorem dX6_bytesIn_22 : decode cX6_bytesIn 22 = .ok (.iinc 2 (-8), 3) := by decide +kernel
theorem dX6_bytesIn_25 : decode cX6_bytesIn 25 = .ok (.goto (-20), 3) := by decide +kernel
theorem dX6_bytesIn_28 : decode cX6_bytesIn 28 = .ok (.iload_n 1, 1) := by decide +kernel
theorem dX6_bytesIn_29 : decode cX6_bytesIn 29 = .ok (.ireturn, 1) := by decide +kernel
theorem dX6_lightAngle_0 : decode cX6_lightAngle 0 = .ok (.bipush 100, 2) := by decide +kernel
theorem dX6_lightAngle_2 : decode cX6_lightAngle 2 = .ok (.iload_n 0, 1) := by decide +kernel
theorem dX6_lightAngle_3 : decode cX6_lightAngle 3 = .ok (.imul, 1) := by decide +kernel
theorem dX6_lightAngle_4 : decode cX6_lightAngle 4 = .ok (.iload_n 1, 1) := by decide +kernel
theorem dX6_lightAngle_5 : decode cX6_lightAngle 5 = .ok (.iload_n 2, 1) := by decide +kernel
theorem dX6_lightAngle_6 : decode cX6_lightAngle 6 = .ok (.imul, 1) := by decide +kernel
theorem dX6_lightAngle_7 : decode cX6_lightAngle 7 = .ok (.iadd, 1) := by decide +kernel
theorem dX6_lightAngle_8 : decode cX6_lightAngle 8 = .ok (.ireturn, 1) := by decide +kernel
theorem dX6_sineOf_0 : decode cX6_sineOf 0 = .ok (.iload_n 0, 1) := by decide +kernel
theorem dX6_sineOf_1 : decode cX6_sineOf 1 = .ok (.ldc 153, 2) := by decide +kernel
theorem dX6_sineOf_3 : decode cX6_sineOf 3 = .ok (.irem, 1) := by decide +kernel
theorem dX6_sineOf_4 : decode cX6_sineOf 4 = .ok (.istore_n 1, 1) := by decide +kernel
theorem dX6_sineOf_5 : decode cX6_sineOf 5 = .ok (.iload_n 1, 1) := by decide +kernel
theorem dX6_sineOf_6 : decode cX6_sineOf 6 = .ok (.ifCond .ge 8, 3) := by decide +kernel
theorem dX6_sineOf_9 : decode cX6_sineOf 9 = .ok (.iload_n 1, 1) := by decide +kernel
theorem dX6_sineOf_10 : decode cX6_sineOf 10 = .ok (.ldc 153, 2) := by decide +kernel
theorem dX6_sineOf_12 : decode cX6_sineOf 12 = .ok (.iadd, 1) := by decide +kernel
theorem dX6_sineOf_13 : decode cX6_sineOf 13 = .ok (.istore_n 1, 1) := by decide +kernel
theorem dX6_sineOf_14 : decode cX6_sineOf 14 = .ok (.iload_n 1, 1) := by decide +kernel
theorem dX6_sineOf_15 : decode cX6_sineOf 15 = .ok (.sipush 18000, 3) := by decide +kernel
theorem dX6_sineOf_18 : decode cX6_sineOf 18 = .ok (.if_icmp .le 7, 3) := by decide +kernel
theorem dX6_sineOf_21 : decode cX6_sineOf 21 = .ok (.iconst 1, 1) := by decide +kernel
theorem dX6_sineOf_22 : decode cX6_sineOf 22 = .ok (.goto 4, 3) := by decide +kernel
theorem dX6_sineOf_25 : decode cX6_sineOf 25 = .ok (.iconst 0, 1) := by decide +kernel
theorem dX6_sineOf_26 : decode cX6_sineOf 26 = .ok (.istore_n 2, 1) := by decide +kernel
theorem dX6_sineOf_27 : decode cX6_sineOf 27 = .ok (.iload_n 2, 1) := by decide +kernel
theorem dX6_sineOf_28 : decode cX6_sineOf 28 = .ok (.ifCond .eq 12, 3) := by decide +kernel
theorem dX6_sineOf_31 : decode cX6_sineOf 31 = .ok (.iload_n 1, 1) := by decide +kernel
theorem dX6_sineOf_32 : decode cX6_sineOf 32 = .ok (.sipush 18000, 3) := by decide +kernel
theorem dX6_sineOf_35 : decode cX6_sineOf 35 = .ok (.isub, 1) := by decide +kernel
theorem dX6_sineOf_36 : decode cX6_sineOf 36 = .ok (.i2l, 1) := by decide +kernel
theorem dX6_sineOf_37 : decode cX6_sineOf 37 = .ok (.goto 5, 3) := by decide +kernel
theorem dX6_sineOf_40 : decode cX6_sineOf 40 = .ok (.iload_n 1, 1) := by decide +kernel
theorem dX6_sineOf_41 : decode cX6_sineOf 41 = .ok (.i2l, 1) := by decide +kernel
theorem dX6_sineOf_42 : decode cX6_sineOf 42 = .ok (.lstore_n 3, 1) := by decide +kernel
theorem dX6_sineOf_43 : decode cX6_sineOf 43 = .ok (.lload_n 3, 1) := by decide +kernel
theorem dX6_sineOf_44 : decode cX6_sineOf 44 = .ok (.ldc2_w 339, 3) := by decide +kernel
theorem dX6_sineOf_47 : decode cX6_sineOf 47 = .ok (.lload_n 3, 1) := by decide +kernel
theorem dX6_sineOf_48 : decode cX6_sineOf 48 = .ok (.lsub, 1) := by decide +kernel
theorem dX6_sineOf_49 : decode cX6_sineOf 49 = .ok (.lmul, 1) := by decide +kernel
theorem dX6_sineOf_50 : decode cX6_sineOf 50 = .ok (.lstore 5, 2) := by decide +kernel
theorem dX6_sineOf_52 : decode cX6_sineOf 52 = .ok (.ldc2_w 341, 3) := by decide +kernel
theorem dX6_sineOf_55 : decode cX6_sineOf 55 = .ok (.lload 5, 2) := by decide +kernel
theorem dX6_sineOf_57 : decode cX6_sineOf 57 = .ok (.lsub, 1) := by decide +kernel
theorem dX6_sineOf_58 : decode cX6_sineOf 58 = .ok (.lstore 7, 2) := by decide +kernel
theorem dX6_sineOf_60 : decode cX6_sineOf 60 = .ok (.lload 7, 2) := by decide +kernel
theorem dX6_sineOf_62 : decode cX6_sineOf 62 = .ok (.lconst 0, 1) := by decide +kernel
theorem dX6_sineOf_63 : decode cX6_sineOf 63 = .ok (.lcmp, 1) := by decide +kernel
theorem dX6_sineOf_64 : decode cX6_sineOf 64 = .ok (.ifCond .le 16, 3) := by decide +kernel
theorem dX6_sineOf_67 : decode cX6_sineOf 67 = .ok (.ldc2_w 343, 3) := by decide +kernel
theorem dX6_sineOf_70 : decode cX6_sineOf 70 = .ok (.lload 5, 2) := by decide +kernel
theorem dX6_sineOf_72 : decode cX6_sineOf 72 = .ok (.lmul, 1) := by decide +kernel
theorem dX6_sineOf_73 : decode cX6_sineOf 73 = .ok (.lload 7, 2) := by decide +kernel
theorem dX6_sineOf_75 : decode cX6_sineOf 75 = .ok (.ldiv, 1) := by decide +kernel
theorem dX6_sineOf_76 : decode cX6_sineOf 76 = .ok (.l2i, 1) := by decide +kernel
theorem dX6_sineOf_77 : decode cX6_sineOf 77 = .ok (.goto 4, 3) := by decide +kernel
theorem dX6_sineOf_80 : decode cX6_sineOf 80 = .ok (.iconst 0, 1) := by decide +kernel
theorem dX6_sineOf_81 : decode cX6_sineOf 81 = .ok (.istore 9, 2) := by decide +kernel
theorem dX6_sineOf_83 : decode cX6_sineOf 83 = .ok (.iload_n 2, 1) := by decide +kernel
theorem dX6_sineOf_84 : decode cX6_sineOf 84 = .ok (.ifCond .eq 9, 3) := by decide +kernel
theorem dX6_sineOf_87 : decode cX6_sineOf 87 = .ok (.iload 9, 2) := by decide +kernel
theorem dX6_sineOf_89 : decode cX6_sineOf 89 = .ok (.ineg, 1) := by decide +kernel
theorem dX6_sineOf_90 : decode cX6_sineOf 90 = .ok (.goto 5, 3) := by decide +kernel
theorem dX6_sineOf_93 : decode cX6_sineOf 93 = .ok (.iload 9, 2) := by decide +kernel
theorem dX6_sineOf_95 : decode cX6_sineOf 95 = .ok (.ireturn, 1) := by decide +kernel
set_option maxRecDepth 20000 in
theorem ggX7_init_X7_begins : GoodIn wsX7_init wsX7_begins := goodIn_r _ [19, 5, 20, 21, 22, 23, 24, 25, 26, 27, 28, 29, 30, 31, 32, 33, 34, 35, 36, 37, 38, 39, 40, 41, 42, 43, 44, 45, 46, 47, 48] (by decide +kernel) (by decide +kernel)
set_option maxRecDepth 20000 in
theorem gX7_init_X7_begins : GoodIn wsX7_init (wsV RX7 39 RX7 yX7_begins wsX7_begins) := goodIn_app (goodIn_of _ (by decide +kernel)) ggX7_init_X7_begins
theorem dX7_init_0 : decode cX7_init 0 = .ok (.aload_n 0, 1) := by decide +kernel
theorem dX7_init_1 : decode cX7_init 1 = .ok (.invokespecial 1, 3) := by decide +kernel
theorem dX7_init_4 : decode cX7_init 4 = .ok (.aload_n 0, 1) := by decide +kernel
theorem dX7_init_5 : decode cX7_init 5 = .ok (.sipush 179, 3) := by decide +kernel
theorem dX7_init_8 : decode cX7_init 8 = .ok (.newarray .int, 2) := by decide +kernel
theorem dX7_init_10 : decode cX7_init 10 = .ok (.putfield 7, 3) := by decide +kernel
theorem dX7_init_13 : decode cX7_init 13 = .ok (.aload_n 0, 1) := by decide +kernel
theorem dX7_init_14 : decode cX7_init 14 = .ok (.sipush 179, 3) := by decide +kernel
theorem dX7_init_17 : decode cX7_init 17 = .ok (.newarray .int, 2) := by decide +kernel
theorem dX7_init_19 : decode cX7_init 19 = .ok (.putfield 13, 3) := by decide +kernel
theorem dX7_init_22 : decode cX7_init 22 = .ok (.aload_n 0, 1) := by decide +kernel
theorem dX7_init_23 : decode cX7_init 23 = .ok (.sipush 1432, 3) := by decide +kernel
theorem dX7_init_26 : decode cX7_init 26 = .ok (.newarray .int, 2) := by decide +kernel
theorem dX7_init_28 : decode cX7_init 28 = .ok (.putfield 16, 3) := by decide +kernel
theorem dX7_init_31 : decode cX7_init 31 = .ok (.aload_n 0, 1) := by decide +kernel
theorem dX7_init_32 : decode cX7_init 32 = .ok (.sipush 358, 3) := by decide +kernel
theorem dX7_init_35 : decode cX7_init 35 = .ok (.newarray .int, 2) := by decide +kernel
theorem dX7_init_37 : decode cX7_init 37 = .ok (.putfield 19, 3) := by decide +kernel
theorem dX7_init_40 : decode cX7_init 40 = .ok (.aload_n 0, 1) := by decide +kernel
theorem dX7_init_41 : decode cX7_init 41 = .ok (.iconst 2, 1) := by decide +kernel
theorem dX7_init_42 : decode cX7_init 42 = .ok (.newarray .boolean, 2) := by decide +kernel
theorem dX7_init_44 : decode cX7_init 44 = .ok (.putfield 22, 3) := by decide +kernel
theorem dX7_init_47 : decode cX7_init 47 = .ok (.aload_n 0, 1) := by decide +kernel
theorem dX7_init_48 : decode cX7_init 48 = .ok (.sipush 600, 3) := by decide +kernel
theorem dX7_init_51 : decode cX7_init 51 = .ok (.newarray .int, 2) := by decide +kernel
theorem dX7_init_53 : decode cX7_init 53 = .ok (.putfield 26, 3) := by decide +kernel
theorem dX7_init_56 : decode cX7_init 56 = .ok (.aload_n 0, 1) := by decide +kernel
theorem dX7_init_57 : decode cX7_init 57 = .ok (.iconst (-1), 1) := by decide +kernel
theorem dX7_init_58 : decode cX7_init 58 = .ok (.putfield 29, 3) := by decide +kernel
theorem dX7_init_61 : decode cX7_init 61 = .ok (.aload_n 0, 1) := by decide +kernel
theorem dX7_init_62 : decode cX7_init 62 = .ok (.bipush 6, 2) := by decide +kernel
theorem dX7_init_64 : decode cX7_init 64 = .ok (.newarray .int, 2) := by decide +kernel
theorem dX7_init_66 : decode cX7_init 66 = .ok (.putfield 33, 3) := by decide +kernel
theorem dX7_init_69 : decode cX7_init 69 = .ok (.aload_n 0, 1) := by decide +kernel
theorem dX7_init_70 : decode cX7_init 70 = .ok (.sipush 500, 3) := by decide +kernel
theorem dX7_init_73 : decode cX7_init 73 = .ok (.newarray .int, 2) := by decide +kernel
theorem dX7_init_75 : decode cX7_init 75 = .ok (.putfield 36, 3) := by decide +kernel
theorem dX7_init_78 : decode cX7_init 78 = .ok (.aload_n 0, 1) := by decide +kernel
theorem dX7_init_79 : decode cX7_init 79 = .ok (.invokevirtual 39, 3) := by decide +kernel
theorem dX7_init_82 : decode cX7_init 82 = .ok (.aload_n 0, 1) := by decide +kernel
theorem dX7_init_83 : decode cX7_init 83 = .ok (.getfield 7, 3) := by decide +kernel
theorem dX7_init_86 : decode cX7_init 86 = .ok (.iconst 0, 1) := by decide +kernel
theorem dX7_init_87 : decode cX7_init 87 = .ok (.bipush 10, 2) := by decide +kernel
theorem dX7_init_89 : decode cX7_init 89 = .ok (.iastore, 1) := by decide +kernel
theorem dX7_init_90 : decode cX7_init 90 = .ok (.return_, 1) := by decide +kernel
theorem dX7_begins_0 : decode cX7_begins 0 = .ok (.iconst 0, 1) := by decide +kernel
theorem dX7_begins_1 : decode cX7_begins 1 = .ok (.istore_n 1, 1) := by decide +kernel
theorem dX7_begins_2 : decode cX7_begins 2 = .ok (.iload_n 1, 1) := by decide +kernel
theorem dX7_begins_3 : decode cX7_begins 3 = .ok (.sipush 179, 3) := by decide +kernel
theorem dX7_begins_6 : decode cX7_begins 6 = .ok (.if_icmp .ge 16, 3) := by decide +kernel
theorem dX7_begins_9 : decode cX7_begins 9 = .ok (.aload_n 0, 1) := by decide +kernel
theorem dX7_begins_10 : decode cX7_begins 10 = .ok (.getfield 7, 3) := by decide +kernel
theorem dX7_begins_13 : decode cX7_begins 13 = .ok (.iload_n 1, 1) := by decide +kernel
theorem dX7_begins_14 : decode cX7_begins 14 = .ok (.iconst 0, 1) := by decide +kernel
theorem dX7_begins_15 : decode cX7_begins 15 = .ok (.iastore, 1) := by decide +kernel
theorem dX7_begins_16 : decode cX7_begins 16 = .ok (.iinc 1 1, 3) := by decide +kernel
theorem dX7_begins_19 : decode cX7_begins 19 = .ok (.goto (-17), 3) := by decide +kernel
theorem dX7_begins_22 : decode cX7_begins 22 = .ok (.return_, 1) := by decide +kernel
theorem dX7_thrown_0 : decode cX7_thrown 0 = .ok (.aload_n 0, 1) := by decide +kernel
theorem dX7_thrown_1 : decode cX7_thrown 1 = .ok (.getfield 42, 3) := by decide +kernel
theorem dX7_thrown_4 : decode cX7_thrown 4 = .ok (.ireturn, 1) := by decide +kernel
theorem dX7_isIn_0 : decode cX7_isIn 0 = .ok (.iload_n 0, 1) := by decide +kernel
theorem dX7_isIn_1 : decode cX7_isIn 1 = .ok (.iload_n 1, 1) := by decide +kernel
theorem dX7_isIn_2 : decode cX7_isIn 2 = .ok (.if_icmp .lt 12, 3) := by decide +kernel
theorem dX7_isIn_5 : decode cX7_isIn 5 = .ok (.iload_n 0, 1) := by decide +kernel
theorem dX7_isIn_6 : decode cX7_isIn 6 = .ok (.iload_n 2, 1) := by decide +kernel
theorem dX7_isIn_7 : decode cX7_isIn 7 = .ok (.if_icmp .gt 7, 3) := by decide +kernel
theorem dX7_isIn_10 : decode cX7_isIn 10 = .ok (.iconst 1, 1) := by decide +kernel
theorem dX7_isIn_11 : decode cX7_isIn 11 = .ok (.goto 4, 3) := by decide +kernel
theorem dX7_isIn_14 : decode cX7_isIn 14 = .ok (.iconst 0, 1) := by decide +kernel
theorem dX7_isIn_15 : decode cX7_isIn 15 = .ok (.ireturn, 1) := by decide +kernel
theorem dX7_copies_0 : decode cX7_copies 0 = .ok (.iconst 0, 1) := by decide +kernel
theorem dX7_copies_1 : decode cX7_copies 1 = .ok (.istore 4, 2) := by decide +kernel
theorem dX7_copies_3 : decode cX7_copies 3 = .ok (.iload 4, 2) := by decide +kernel
theorem dX7_copies_5 : decode cX7_copies 5 = .ok (.sipush 179, 3) := by decide +kernel
theorem dX7_copies_8 : decode cX7_copies 8 = .ok (.if_icmp .ge 21, 3) := by decide +kernel
theorem dX7_copies_11 : decode cX7_copies 11 = .ok (.aload_n 0, 1) := by decide +kernel
theorem dX7_copies_12 : decode cX7_copies 12 = .ok (.iload_n 1, 1) := by decide +kernel
theorem dX7_copies_13 : decode cX7_copies 13 = .ok (.iload 4, 2) := by decide +kernel
theorem dX7_copies_15 : decode cX7_copies 15 = .ok (.iadd, 1) := by decide +kernel
theorem dX7_copies_16 : decode cX7_copies 16 = .ok (.aload_n 2, 1) := by decide +kernel
theorem dX7_copies_17 : decode cX7_copies 17 = .ok (.iload_n 3, 1) := by decide +kernel
theorem dX7_copies_18 : decode cX7_copies 18 = .ok (.iload 4, 2) := by decide +kernel
theorem dX7_copies_20 : decode cX7_copies 20 = .ok (.iadd, 1) := by decide +kernel
theorem dX7_copies_21 : decode cX7_copies 21 = .ok (.iaload, 1) := by decide +kernel
theorem dX7_copies_22 : decode cX7_copies 22 = .ok (.iastore, 1) := by decide +kernel
theorem dX7_copies_23 : decode cX7_copies 23 = .ok (.iinc 4 1, 3) := by decide +kernel
theorem dX7_copies_26 : decode cX7_copies 26 = .ok (.goto (-23), 3) := by decide +kernel
theorem dX7_copies_29 : decode cX7_copies 29 = .ok (.return_, 1) := by decide +kernel
set_option maxRecDepth 20000 in
theorem ggX7_keeps_X7_copies : GoodIn wsX7_keeps wsX7_copies := goodIn_r _ [6] (by decide +kernel) (by decide +kernel)
set_option maxRecDepth 20000 in
theorem gX7_keeps_X7_copies : GoodIn wsX7_keeps (va_wsS RX7 48 yX7_copies wsX7_copies) := goodIn_app (goodIn_of _ (by decide +kernel)) ggX7_keeps_X7_copies
theorem dX7_keeps_0 : decode cX7_keeps 0 = .ok (.aload_n 0, 1) := by decide +kernel
theorem dX7_keeps_1 : decode cX7_keeps 1 = .ok (.getfield 45, 3) := by decide +kernel
theorem dX7_keeps_4 : decode cX7_keeps 4 = .ok (.bipush 8, 2) := by decide +kernel
theorem dX7_keeps_6 : decode cX7_keeps 6 = .ok (.if_icmp .ne 44, 3) := by decide +kernel
theorem dX7_keeps_9 : decode cX7_keeps 9 = .ok (.iconst 0, 1) := by decide +kernel
theorem dX7_keeps_10 : decode cX7_keeps 10 = .ok (.istore_n 2, 1) := by decide +kernel
theorem dX7_keeps_11 : decode cX7_keeps 11 = .ok (.iload_n 2, 1) := by decide +kernel
theorem dX7_keeps_12 : decode cX7_keeps 12 = .ok (.sipush 1253, 3) := by decide +kernel
theorem dX7_keeps_15 : decode cX7_keeps 15 = .ok (.if_icmp .ge 25, 3) := by decide +kernel
theorem dX7_keeps_18 : decode cX7_keeps 18 = .ok (.aload_n 0, 1) := by decide +kernel
theorem dX7_keeps_19 : decode cX7_keeps 19 = .ok (.getfield 16, 3) := by decide +kernel
theorem dX7_keeps_22 : decode cX7_keeps 22 = .ok (.iload_n 2, 1) := by decide +kernel
theorem dX7_keeps_23 : decode cX7_keeps 23 = .ok (.aload_n 0, 1) := by decide +kernel
theorem dX7_keeps_24 : decode cX7_keeps 24 = .ok (.getfield 16, 3) := by decide +kernel
theorem dX7_keeps_27 : decode cX7_keeps 27 = .ok (.iload_n 2, 1) := by decide +kernel
theorem dX7_keeps_28 : decode cX7_keeps 28 = .ok (.sipush 179, 3) := by decide +kernel
theorem dX7_keeps_31 : decode cX7_keeps 31 = .ok (.iadd, 1) := by decide +kernel
theorem dX7_keeps_32 : decode cX7_keeps 32 = .ok (.iaload, 1) := by decide +kernel
theorem dX7_keeps_33 : decode cX7_keeps 33 = .ok (.iastore, 1) := by decide +kernel
theorem dX7_keeps_34 : decode cX7_keeps 34 = .ok (.iinc 2 1, 3) := by decide +kernel
theorem dX7_keeps_37 : decode cX7_keeps 37 = .ok (.goto (-26), 3) := by decide +kernel
theorem dX7_keeps_40 : decode cX7_keeps 40 = .ok (.aload_n 0, 1) := by decide +kernel
theorem dX7_keeps_41 : decode cX7_keeps 41 = .ok (.dup, 1) := by decide +kernel
theorem dX7_keeps_42 : decode cX7_keeps 42 = .ok (.getfield 45, 3) := by decide +kernel
theorem dX7_keeps_45 : decode cX7_keeps 45 = .ok (.iconst 1, 1) := by decide +kernel
theorem dX7_keeps_46 : decode cX7_keeps 46 = .ok (.isub, 1) := by decide +kernel
theorem dX7_keeps_47 : decode cX7_keeps 47 = .ok (.putfield 45, 3) := by decide +kernel
theorem dX7_keeps_50 : decode cX7_keeps 50 = .ok (.aload_n 0, 1) := by decide +kernel
theorem dX7_keeps_51 : decode cX7_keeps 51 = .ok (.getfield 16, 3) := by decide +kernel
theorem dX7_keeps_54 : decode cX7_keeps 54 = .ok (.sipush 179, 3) := by decide +kernel
theorem dX7_keeps_57 : decode cX7_keeps 57 = .ok (.aload_n 0, 1) := by decide +kernel
theorem dX7_keeps_58 : decode cX7_keeps 58 = .ok (.getfield 45, 3) := by decide +kernel
theorem dX7_keeps_61 : decode cX7_keeps 61 = .ok (.imul, 1) := by decide +kernel
theorem dX7_keeps_62 : decode cX7_keeps 62 = .ok (.aload_n 1, 1) := by decide +kernel
theorem dX7_keeps_63 : decode cX7_keeps 63 = .ok (.iconst 0, 1) := by decide +kernel
theorem dX7_keeps_64 : decode cX7_keeps 64 = .ok (.invokestatic 48, 3) := by decide +kernel
theorem dX7_keeps_67 : decode cX7_keeps 67 = .ok (.aload_n 0, 1) := by decide +kernel
theorem dX7_keeps_68 : decode cX7_keeps 68 = .ok (.dup, 1) := by decide +kernel
theorem dX7_keeps_69 : decode cX7_keeps 69 = .ok (.getfield 45, 3) := by decide +kernel
theorem dX7_keeps_72 : decode cX7_keeps 72 = .ok (.iconst 1, 1) := by decide +kernel
theorem dX7_keeps_73 : decode cX7_keeps 73 = .ok (.iadd, 1) := by decide +kernel
theorem dX7_keeps_74 : decode cX7_keeps 74 = .ok (.putfield 45, 3) := by decide +kernel
theorem dX7_keeps_77 : decode cX7_keeps 77 = .ok (.return_, 1) := by decide +kernel
set_option maxRecDepth 20000 in
theorem ggX7_undo_X7_copies : GoodIn wsX7_undo wsX7_copies := goodIn_r _ [8] (by decide +kernel) (by decide +kernel)
set_option maxRecDepth 20000 in
theorem gX7_undo_X7_copies : GoodIn wsX7_undo (va_wsS RX7 48 yX7_copies wsX7_copies) := goodIn_app (goodIn_of _ (by decide +kernel)) ggX7_undo_X7_copies
theorem dX7_undo_0 : decode cX7_undo 0 = .ok (.aload_n 0, 1) := by decide +kernel
theorem dX7_undo_1 : decode cX7_undo 1 = .ok (.aload_n 0, 1) := by decide +kernel
theorem dX7_undo_2 : decode cX7_undo 2 = .ok (.getfield 45, 3) := by decide +kernel
theorem dX7_undo_5 : decode cX7_undo 5 = .ok (.ifCond .ne 7, 3) := by decide +kernel
theorem dX7_undo_8 : decode cX7_undo 8 = .ok (.iconst 1, 1) := by decide +kernel
theorem dX7_undo_9 : decode cX7_undo 9 = .ok (.goto 4, 3) := by decide +kernel
theorem dX7_undo_12 : decode cX7_undo 12 = .ok (.iconst 0, 1) := by decide +kernel
theorem dX7_undo_13 : decode cX7_undo 13 = .ok (.putfield 42, 3) := by decide +kernel
theorem dX7_undo_16 : decode cX7_undo 16 = .ok (.aload_n 0, 1) := by decide +kernel
theorem dX7_undo_17 : decode cX7_undo 17 = .ok (.getfield 42, 3) := by decide +kernel
theorem dX7_undo_20 : decode cX7_undo 20 = .ok (.ifCond .le 5, 3) := by decide +kernel
theorem dX7_undo_23 : decode cX7_undo 23 = .ok (.iconst 0, 1) := by decide +kernel
theorem dX7_undo_24 : decode cX7_undo 24 = .ok (.ireturn, 1) := by decide +kernel
theorem dX7_undo_25 : decode cX7_undo 25 = .ok (.aload_n 0, 1) := by decide +kernel
theorem dX7_undo_26 : decode cX7_undo 26 = .ok (.dup, 1) := by decide +kernel
theorem dX7_undo_27 : decode cX7_undo 27 = .ok (.getfield 45, 3) := by decide +kernel
theorem dX7_undo_30 : decode cX7_undo 30 = .ok (.iconst 1, 1) := by decide +kernel
theorem dX7_undo_31 : decode cX7_undo 31 = .ok (.isub, 1) := by decide +kernel
theorem dX7_undo_32 : decode cX7_undo 32 = .ok (.putfield 45, 3) := by decide +kernel
theorem dX7_undo_35 : decode cX7_undo 35 = .ok (.aload_n 0, 1) := by decide +kernel
theorem dX7_undo_36 : decode cX7_undo 36 = .ok (.getfield 7, 3) := by decide +kernel
theorem dX7_undo_39 : decode cX7_undo 39 = .ok (.iconst 0, 1) := by decide +kernel
theorem dX7_undo_40 : decode cX7_undo 40 = .ok (.aload_n 0, 1) := by decide +kernel
theorem dX7_undo_41 : decode cX7_undo 41 = .ok (.getfield 16, 3) := by decide +kernel
theorem dX7_undo_44 : decode cX7_undo 44 = .ok (.sipush 179, 3) := by decide +kernel
theorem dX7_undo_47 : decode cX7_undo 47 = .ok (.aload_n 0, 1) := by decide +kernel
theorem dX7_undo_48 : decode cX7_undo 48 = .ok (.getfield 45, 3) := by decide +kernel
theorem dX7_undo_51 : decode cX7_undo 51 = .ok (.imul, 1) := by decide +kernel
theorem dX7_undo_52 : decode cX7_undo 52 = .ok (.invokestatic 48, 3) := by decide +kernel
theorem dX7_undo_55 : decode cX7_undo 55 = .ok (.aload_n 0, 1) := by decide +kernel
theorem dX7_undo_56 : decode cX7_undo 56 = .ok (.getfield 45, 3) := by decide +kernel
theorem dX7_undo_59 : decode cX7_undo 59 = .ok (.ireturn, 1) := by decide +kernel
set_option maxRecDepth 20000 in
theorem ggX7_save_X7_isIn : GoodIn wsX7_save wsX7_isIn := goodIn_r _ [8] (by decide +kernel) (by decide +kernel)
set_option maxRecDepth 20000 in
theorem gX7_save_X7_isIn : GoodIn wsX7_save (va_wsS RX7 52 yX7_isIn wsX7_isIn) := goodIn_app (goodIn_of _ (by decide +kernel)) ggX7_save_X7_isIn
set_option maxRecDepth 20000 in
theorem ggX7_save_X7_copies : GoodIn wsX7_save wsX7_copies := goodIn_r _ [11] (by decide +kernel) (by decide +kernel)
set_option maxRecDepth 20000 in
theorem gX7_save_X7_copies : GoodIn wsX7_save (va_wsS RX7 48 yX7_copies wsX7_copies) := goodIn_app (goodIn_of _ (by decide +kernel)) ggX7_save_X7_copies
theorem dX7_save_0 : decode cX7_save 0 = .ok (.aload_n 0, 1) := by decide +kernel
theorem dX7_save_1 : decode cX7_save 1 = .ok (.iload_n 1, 1) := by decide +kernel
theorem dX7_save_2 : decode cX7_save 2 = .ok (.iconst 0, 1) := by decide +kernel
theorem dX7_save_3 : decode cX7_save 3 = .ok (.iconst 1, 1) := by decide +kernel
theorem dX7_save_4 : decode cX7_save 4 = .ok (.invokestatic 52, 3) := by decide +kernel
theorem dX7_save_7 : decode cX7_save 7 = .ok (.ifCond .eq 7, 3) := by decide +kernel
theorem dX7_save_10 : decode cX7_save 10 = .ok (.iconst 0, 1) := by decide +kernel
theorem dX7_save_11 : decode cX7_save 11 = .ok (.goto 4, 3) := by decide +kernel
theorem dX7_save_14 : decode cX7_save 14 = .ok (.iconst 1, 1) := by decide +kernel
theorem dX7_save_15 : decode cX7_save 15 = .ok (.putfield 42, 3) := by decide +kernel
theorem dX7_save_18 : decode cX7_save 18 = .ok (.aload_n 0, 1) := by decide +kernel
theorem dX7_save_19 : decode cX7_save 19 = .ok (.getfield 42, 3) := by decide +kernel
theorem dX7_save_22 : decode cX7_save 22 = .ok (.ifCond .le 4, 3) := by decide +kernel
theorem dX7_save_25 : decode cX7_save 25 = .ok (.return_, 1) := by decide +kernel
theorem dX7_save_26 : decode cX7_save 26 = .ok (.aload_n 0, 1) := by decide +kernel
theorem dX7_save_27 : decode cX7_save 27 = .ok (.getfield 19, 3) := by decide +kernel
theorem dX7_save_30 : decode cX7_save 30 = .ok (.sipush 179, 3) := by decide +kernel
theorem dX7_save_33 : decode cX7_save 33 = .ok (.iload_n 1, 1) := by decide +kernel
theorem dX7_save_34 : decode cX7_save 34 = .ok (.imul, 1) := by decide +kernel
theorem dX7_save_35 : decode cX7_save 35 = .ok (.aload_n 0, 1) := by decide +kernel
theorem dX7_save_36 : decode cX7_save 36 = .ok (.getfield 7, 3) := by decide +kernel
theorem dX7_save_39 : decode cX7_save 39 = .ok (.iconst 0, 1) := by decide +kernel
theorem dX7_save_40 : decode cX7_save 40 = .ok (.invokestatic 48, 3) := by decide +kernel
theorem dX7_save_43 : decode cX7_save 43 = .ok (.aload_n 0, 1) := by decide +kernel
theorem dX7_save_44 : decode cX7_save 44 = .ok (.getfield 22, 3) := by decide +kernel
theorem dX7_save_47 : decode cX7_save 47 = .ok (.iload_n 1, 1) := by decide +kernel
theorem dX7_save_48 : decode cX7_save 48 = .ok (.iconst 1, 1) := by decide +kernel
theorem dX7_save_49 : decode cX7_save 49 = .ok (.bastore, 1) := by decide +kernel
theorem dX7_save_50 : decode cX7_save 50 = .ok (.return_, 1) := by decide +kernel
set_option maxRecDepth 20000 in
theorem ggX7_restore_X7_isIn : GoodIn wsX7_restore wsX7_isIn := goodIn_r _ [8] (by decide +kernel) (by decide +kernel)
set_option maxRecDepth 20000 in
theorem gX7_restore_X7_isIn : GoodIn wsX7_restore (va_wsS RX7 52 yX7_isIn wsX7_isIn) := goodIn_app (goodIn_of _ (by decide +kernel)) ggX7_restore_X7_isIn
set_option maxRecDepth 20000 in
theorem ggX7_restore_X7_keeps : GoodIn wsX7_restore wsX7_keeps := goodIn_r _ [12, 13, 14, 15, 16, 7, 17, 18, 19, 20, 21, 22, 23, 24, 25, 26, 27, 28, 29, 30, 31, 32, 33, 34, 35, 36, 37, 38, 39, 40, 41, 42, 43, 44, 45, 46] (by decide +kernel) (by decide +kernel)
set_option maxRecDepth 20000 in
theorem gX7_restore_X7_keeps : GoodIn wsX7_restore (wsV RX7 56 RX7 yX7_keeps wsX7_keeps) := goodIn_app (goodIn_of _ (by decide +kernel)) ggX7_restore_X7_keeps
set_option maxRecDepth 20000 in
theorem ggX7_restore_X7_copies : GoodIn wsX7_restore wsX7_copies := goodIn_r _ [17] (by decide +kernel) (by decide +kernel)
set_option maxRecDepth 20000 in
theorem gX7_restore_X7_copies : GoodIn wsX7_restore (va_wsS RX7 48 yX7_copies wsX7_copies) := goodIn_app (goodIn_of _ (by decide +kernel)) ggX7_restore_X7_copies
theorem dX7_restore_0 : decode cX7_restore 0 = .ok (.aload_n 0, 1) := by decide +kernel
theorem dX7_restore_1 : decode cX7_restore 1 = .ok (.iload_n 1, 1) := by decide +kernel
theorem dX7_restore_2 : decode cX7_restore 2 = .ok (.iconst 0, 1) := by decide +kernel
theorem dX7_restore_3 : decode cX7_restore 3 = .ok (.iconst 1, 1) := by decide +kernel
theorem dX7_restore_4 : decode cX7_restore 4 = .ok (.invokestatic 52, 3) := by decide +kernel
theorem dX7_restore_7 : decode cX7_restore 7 = .ok (.ifCond .ne 7, 3) := by decide +kernel
theorem dX7_restore_10 : decode cX7_restore 10 = .ok (.iconst 1, 1) := by decide +kernel
theorem dX7_restore_11 : decode cX7_restore 11 = .ok (.goto 17, 3) := by decide +kernel
theorem dX7_restore_14 : decode cX7_restore 14 = .ok (.aload_n 0, 1) := by decide +kernel
theorem dX7_restore_15 : decode cX7_restore 15 = .ok (.getfield 22, 3) := by decide +kernel
theorem dX7_restore_18 : decode cX7_restore 18 = .ok (.iload_n 1, 1) := by decide +kernel
theorem dX7_restore_19 : decode cX7_restore 19 = .ok (.baload, 1) := by decide +kernel
theorem dX7_restore_20 : decode cX7_restore 20 = .ok (.ifCond .eq 7, 3) := by decide +kernel
theorem dX7_restore_23 : decode cX7_restore 23 = .ok (.iconst 0, 1) := by decide +kernel
theorem dX7_restore_24 : decode cX7_restore 24 = .ok (.goto 4, 3) := by decide +kernel
theorem dX7_restore_27 : decode cX7_restore 27 = .ok (.iconst 2, 1) := by decide +kernel
theorem dX7_restore_28 : decode cX7_restore 28 = .ok (.putfield 42, 3) := by decide +kernel
theorem dX7_restore_31 : decode cX7_restore 31 = .ok (.aload_n 0, 1) := by decide +kernel
theorem dX7_restore_32 : decode cX7_restore 32 = .ok (.getfield 42, 3) := by decide +kernel
theorem dX7_restore_35 : decode cX7_restore 35 = .ok (.ifCond .le 5, 3) := by decide +kernel
theorem dX7_restore_38 : decode cX7_restore 38 = .ok (.iconst 0, 1) := by decide +kernel
theorem dX7_restore_39 : decode cX7_restore 39 = .ok (.ireturn, 1) := by decide +kernel
theorem dX7_restore_40 : decode cX7_restore 40 = .ok (.aload_n 0, 1) := by decide +kernel
theorem dX7_restore_41 : decode cX7_restore 41 = .ok (.aload_n 0, 1) := by decide +kernel
theorem dX7_restore_42 : decode cX7_restore 42 = .ok (.getfield 7, 3) := by decide +kernel
theorem dX7_restore_45 : decode cX7_restore 45 = .ok (.invokevirtual 56, 3) := by decide +kernel
theorem dX7_restore_48 : decode cX7_restore 48 = .ok (.aload_n 0, 1) := by decide +kernel
theorem dX7_restore_49 : decode cX7_restore 49 = .ok (.getfield 7, 3) := by decide +kernel
theorem dX7_restore_52 : decode cX7_restore 52 = .ok (.iconst 0, 1) := by decide +kernel
theorem dX7_restore_53 : decode cX7_restore 53 = .ok (.aload_n 0, 1) := by decide +kernel
theorem dX7_restore_54 : decode cX7_restore 54 = .ok (.getfield 19, 3) := by decide +kernel
theorem dX7_restore_57 : decode cX7_restore 57 = .ok (.sipush 179, 3) := by decide +kernel
theorem dX7_restore_60 : decode cX7_restore 60 = .ok (.iload_n 1, 1) := by decide +kernel
theorem dX7_restore_61 : decode cX7_restore 61 = .ok (.imul, 1) := by decide +kernel
theorem dX7_restore_62 : decode cX7_restore 62 = .ok (.invokestatic 48, 3) := by decide +kernel
theorem dX7_restore_65 : decode cX7_restore 65 = .ok (.aload_n 0, 1) := by decide +kernel
theorem dX7_restore_66 : decode cX7_restore 66 = .ok (.getfield 7, 3) := by decide +kernel
theorem dX7_restore_69 : decode cX7_restore 69 = .ok (.iconst 3, 1) := by decide +kernel
theorem dX7_restore_70 : decode cX7_restore 70 = .ok (.iaload, 1) := by decide +kernel
theorem dX7_restore_71 : decode cX7_restore 71 = .ok (.ireturn, 1) := by decide +kernel
theorem dX7_byteOf_0 : decode cX7_byteOf 0 = .ok (.iload_n 0, 1) := by decide +kernel
theorem dX7_byteOf_1 : decode cX7_byteOf 1 = .ok (.iconst 4, 1) := by decide +kernel
theorem dX7_byteOf_2 : decode cX7_byteOf 2 = .ok (.if_icmp .ge 7, 3) := by decide +kernel
theorem dX7_byteOf_5 : decode cX7_byteOf 5 = .ok (.iload_n 1, 1) := by decide +kernel
theorem dX7_byteOf_6 : decode cX7_byteOf 6 = .ok (.goto 36, 3) := by decide +kernel
theorem dX7_byteOf_9 : decode cX7_byteOf 9 = .ok (.iload_n 0, 1) := by decide +kernel
theorem dX7_byteOf_10 : decode cX7_byteOf 10 = .ok (.bipush 8, 2) := by decide +kernel
theorem dX7_byteOf_12 : decode cX7_byteOf 12 = .ok (.if_icmp .ge 7, 3) := by decide +kernel
theorem dX7_byteOf_15 : decode cX7_byteOf 15 = .ok (.iload_n 2, 1) := by decide +kernel
theorem dX7_byteOf_16 : decode cX7_byteOf 16 = .ok (.goto 26, 3) := by decide +kernel
theorem dX7_byteOf_19 : decode cX7_byteOf 19 = .ok (.iload_n 0, 1) := by decide +kernel
theorem dX7_byteOf_20 : decode cX7_byteOf 20 = .ok (.bipush 12, 2) := by decide +kernel
theorem dX7_byteOf_22 : decode cX7_byteOf 22 = .ok (.if_icmp .ge 7, 3) := by decide +kernel
theorem dX7_byteOf_25 : decode cX7_byteOf 25 = .ok (.iload_n 3, 1) := by decide +kernel
theorem dX7_byteOf_26 : decode cX7_byteOf 26 = .ok (.goto 16, 3) := by decide +kernel
theorem dX7_byteOf_29 : decode cX7_byteOf 29 = .ok (.iload_n 0, 1) := by decide +kernel
theorem dX7_byteOf_30 : decode cX7_byteOf 30 = .ok (.bipush 16, 2) := by decide +kernel
theorem dX7_byteOf_32 : decode cX7_byteOf 32 = .ok (.if_icmp .ge 8, 3) := by decide +kernel
theorem dX7_byteOf_35 : decode cX7_byteOf 35 = .ok (.iload 4, 2) := by decide +kernel
theorem dX7_byteOf_37 : decode cX7_byteOf 37 = .ok (.goto 5, 3) := by decide +kernel
theorem dX7_byteOf_40 : decode cX7_byteOf 40 = .ok (.iload 5, 2) := by decide +kernel
theorem dX7_byteOf_42 : decode cX7_byteOf 42 = .ok (.istore 6, 2) := by decide +kernel
theorem dX7_byteOf_44 : decode cX7_byteOf 44 = .ok (.iload 6, 2) := by decide +kernel
theorem dX7_byteOf_46 : decode cX7_byteOf 46 = .ok (.bipush 24, 2) := by decide +kernel
theorem dX7_byteOf_48 : decode cX7_byteOf 48 = .ok (.bipush 8, 2) := by decide +kernel
theorem dX7_byteOf_50 : decode cX7_byteOf 50 = .ok (.iload_n 0, 1) := by decide +kernel
theorem dX7_byteOf_51 : decode cX7_byteOf 51 = .ok (.iconst 4, 1) := by decide +kernel
theorem dX7_byteOf_52 : decode cX7_byteOf 52 = .ok (.irem, 1) := by decide +kernel
theorem dX7_byteOf_53 : decode cX7_byteOf 53 = .ok (.imul, 1) := by decide +kernel
theorem dX7_byteOf_54 : decode cX7_byteOf 54 = .ok (.isub, 1) := by decide +kernel
theorem dX7_byteOf_55 : decode cX7_byteOf 55 = .ok (.ishr, 1) := by decide +kernel
theorem dX7_byteOf_56 : decode cX7_byteOf 56 = .ok (.sipush 255, 3) := by decide +kernel
theorem dX7_byteOf_59 : decode cX7_byteOf 59 = .ok (.iand, 1) := by decide +kernel
theorem dX7_byteOf_60 : decode cX7_byteOf 60 = .ok (.ireturn, 1) := by decide +kernel
set_option maxRecDepth 20000 in
theorem ggX7_append_X7_byteOf : GoodIn wsX7_append wsX7_byteOf := goodIn_r _ [7] (by decide +kernel) (by decide +kernel)
set_option maxRecDepth 20000 in
theorem gX7_append_X7_byteOf : GoodIn wsX7_append (va_wsS RX7 60 yX7_byteOf wsX7_byteOf) := goodIn_app (goodIn_of _ (by decide +kernel)) ggX7_append_X7_byteOf
theorem dX7_append_0 : decode cX7_append 0 = .ok (.iconst 0, 1) := by decide +kernel
theorem dX7_append_1 : decode cX7_append 1 = .ok (.istore 6, 2) := by decide +kernel
theorem dX7_append_3 : decode cX7_append 3 = .ok (.iconst 0, 1) := by decide +kernel
theorem dX7_append_4 : decode cX7_append 4 = .ok (.istore 7, 2) := by decide +kernel
theorem dX7_append_6 : decode cX7_append 6 = .ok (.iload 7, 2) := by decide +kernel
theorem dX7_append_8 : decode cX7_append 8 = .ok (.bipush 20, 2) := by decide +kernel
theorem dX7_append_10 : decode cX7_append 10 = .ok (.if_icmp .ge 34, 3) := by decide +kernel
theorem dX7_append_13 : decode cX7_append 13 = .ok (.iload 6, 2) := by decide +kernel
theorem dX7_append_15 : decode cX7_append 15 = .ok (.iload 7, 2) := by decide +kernel
theorem dX7_append_17 : decode cX7_append 17 = .ok (.iload_n 1, 1) := by decide +kernel
theorem dX7_append_18 : decode cX7_append 18 = .ok (.iload_n 2, 1) := by decide +kernel
theorem dX7_append_19 : decode cX7_append 19 = .ok (.iload_n 3, 1) := by decide +kernel
theorem dX7_append_20 : decode cX7_append 20 = .ok (.iload 4, 2) := by decide +kernel
theorem dX7_append_22 : decode cX7_append 22 = .ok (.iload 5, 2) := by decide +kernel
theorem dX7_append_24 : decode cX7_append 24 = .ok (.invokestatic 60, 3) := by decide +kernel
theorem dX7_append_27 : decode cX7_append 27 = .ok (.ifCond .ne 7, 3) := by decide +kernel
theorem dX7_append_30 : decode cX7_append 30 = .ok (.iconst 0, 1) := by decide +kernel
theorem dX7_append_31 : decode cX7_append 31 = .ok (.goto 4, 3) := by decide +kernel
theorem dX7_append_34 : decode cX7_append 34 = .ok (.iconst 1, 1) := by decide +kernel
theorem dX7_append_35 : decode cX7_append 35 = .ok (.iadd, 1) := by decide +kernel
theorem dX7_append_36 : decode cX7_append 36 = .ok (.istore 6, 2) := by decide +kernel
theorem dX7_append_38 : decode cX7_append 38 = .ok (.iinc 7 1, 3) := by decide +kernel
theorem dX7_append_41 : decode cX7_append 41 = .ok (.goto (-35), 3) := by decide +kernel
theorem dX7_append_44 : decode cX7_append 44 = .ok (.aload_n 0, 1) := by decide +kernel
theorem dX7_append_45 : decode cX7_append 45 = .ok (.aload_n 0, 1) := by decide +kernel
theorem dX7_append_46 : decode cX7_append 46 = .ok (.getfield 64, 3) := by decide +kernel
theorem dX7_append_49 : decode cX7_append 49 = .ok (.iload 6, 2) := by decide +kernel
theorem dX7_append_51 : decode cX7_append 51 = .ok (.iadd, 1) := by decide +kernel
theorem dX7_append_52 : decode cX7_append 52 = .ok (.sipush 600, 3) := by decide +kernel
theorem dX7_append_55 : decode cX7_append 55 = .ok (.if_icmp .le 7, 3) := by decide +kernel
theorem dX7_append_58 : decode cX7_append 58 = .ok (.iconst 1, 1) := by decide +kernel
theorem dX7_append_59 : decode cX7_append 59 = .ok (.goto 4, 3) := by decide +kernel
theorem dX7_append_62 : decode cX7_append 62 = .ok (.iconst 0, 1) := by decide +kernel
theorem dX7_append_63 : decode cX7_append 63 = .ok (.putfield 42, 3) := by decide +kernel
theorem dX7_append_66 : decode cX7_append 66 = .ok (.aload_n 0, 1) := by decide +kernel
theorem dX7_append_67 : decode cX7_append 67 = .ok (.getfield 42, 3) := by decide +kernel
theorem dX7_append_70 : decode cX7_append 70 = .ok (.ifCond .le 5, 3) := by decide +kernel
theorem dX7_append_73 : decode cX7_append 73 = .ok (.iconst 0, 1) := by decide +kernel
theorem dX7_append_74 : decode cX7_append 74 = .ok (.ireturn, 1) := by decide +kernel
theorem dX7_append_75 : decode cX7_append 75 = .ok (.iconst 0, 1) := by decide +kernel
theorem dX7_append_76 : decode cX7_append 76 = .ok (.istore 7, 2) := by decide +kernel
theorem dX7_append_78 : decode cX7_append 78 = .ok (.iload 7, 2) := by decide +kernel
theorem dX7_append_80 : decode cX7_append 80 = .ok (.bipush 20, 2) := by decide +kernel
theorem dX7_append_82 : decode cX7_append 82 = .ok (.if_icmp .ge 52, 3) := by decide +kernel
theorem dX7_append_85 : decode cX7_append 85 = .ok (.iload 7, 2) := by decide +kernel
theorem dX7_append_87 : decode cX7_append 87 = .ok (.iload_n 1, 1) := by decide +kernel
theorem dX7_append_88 : decode cX7_append 88 = .ok (.iload_n 2, 1) := by decide +kernel
theorem dX7_append_89 : decode cX7_append 89 = .ok (.iload_n 3, 1) := by decide +kernel
theorem dX7_append_90 : decode cX7_append 90 = .ok (.iload 4, 2) := by decide +kernel
theorem dX7_append_92 : decode cX7_append 92 = .ok (.iload 5, 2) := by decide +kernel
theorem dX7_append_94 : decode cX7_append 94 = .ok (.invokestatic 60, 3) := by decide +kernel
theorem dX7_append_97 : decode cX7_append 97 = .ok (.istore 8, 2) := by decide +kernel
theorem dX7_append_99 : decode cX7_append 99 = .ok (.iload 8, 2) := by decide +kernel
theorem dX7_append_101 : decode cX7_append 101 = .ok (.ifCond .ne 6, 3) := by decide +kernel
theorem dX7_append_104 : decode cX7_append 104 = .ok (.goto 24, 3) := by decide +kernel
theorem dX7_append_107 : decode cX7_append 107 = .ok (.aload_n 0, 1) := by decide +kernel
theorem dX7_append_108 : decode cX7_append 108 = .ok (.getfield 26, 3) := by decide +kernel
theorem dX7_append_111 : decode cX7_append 111 = .ok (.aload_n 0, 1) := by decide +kernel
theorem dX7_append_112 : decode cX7_append 112 = .ok (.getfield 64, 3) := by decide +kernel
theorem dX7_append_115 : decode cX7_append 115 = .ok (.iload 8, 2) := by decide +kernel
theorem dX7_append_117 : decode cX7_append 117 = .ok (.iastore, 1) := by decide +kernel
theorem dX7_append_118 : decode cX7_append 118 = .ok (.aload_n 0, 1) := by decide +kernel
theorem dX7_append_119 : decode cX7_append 119 = .ok (.dup, 1) := by decide +kernel
theorem dX7_append_120 : decode cX7_append 120 = .ok (.getfield 64, 3) := by decide +kernel
theorem dX7_append_123 : decode cX7_append 123 = .ok (.iconst 1, 1) := by decide +kernel
theorem dX7_append_124 : decode cX7_append 124 = .ok (.iadd, 1) := by decide +kernel
theorem dX7_append_125 : decode cX7_append 125 = .ok (.putfield 64, 3) := by decide +kernel
theorem dX7_append_128 : decode cX7_append 128 = .ok (.iinc 7 1, 3) := by decide +kernel
theorem dX7_append_131 : decode cX7_append 131 = .ok (.goto (-53), 3) := by decide +kernel
theorem dX7_append_134 : decode cX7_append 134 = .ok (.aload_n 0, 1) := by decide +kernel
theorem dX7_append_135 : decode cX7_append 135 = .ok (.getfield 64, 3) := by decide +kernel
theorem dX7_append_138 : decode cX7_append 138 = .ok (.ireturn, 1) := by decide +kernel
theorem dX7_see1_0 : decode cX7_see1 0 = .ok (.iload_n 1, 1) := by decide +kernel
theorem dX7_see1_1 : decode cX7_see1 1 = .ok (.aload_n 0, 1) := by decide +kernel
theorem dX7_see1_2 : decode cX7_see1 2 = .ok (.getfield 64, 3) := by decide +kernel
theorem dX7_see1_5 : decode cX7_see1 5 = .ok (.if_icmp .ge 12, 3) := by decide +kernel
theorem dX7_see1_8 : decode cX7_see1 8 = .ok (.aload_n 0, 1) := by decide +kernel
theorem dX7_see1_9 : decode cX7_see1 9 = .ok (.getfield 26, 3) := by decide +kernel
theorem dX7_see1_12 : decode cX7_see1 12 = .ok (.iload_n 1, 1) := by decide +kernel
theorem dX7_see1_13 : decode cX7_see1 13 = .ok (.iaload, 1) := by decide +kernel
theorem dX7_see1_14 : decode cX7_see1 14 = .ok (.goto 4, 3) := by decide +kernel
theorem dX7_see1_17 : decode cX7_see1 17 = .ok (.iconst (-1), 1) := by decide +kernel
theorem dX7_see1_18 : decode cX7_see1 18 = .ok (.ireturn, 1) := by decide +kernel
set_option maxRecDepth 20000 in
theorem ggX7_isLetter_X7_see1 : GoodIn wsX7_isLetter wsX7_see1 := goodIn_r _ [5, 6, 7, 11, 12, 13, 14, 15, 16, 17, 18, 19, 20, 21, 22, 23, 24, 25, 26, 27, 28, 29, 30, 31, 32, 33, 34, 35, 36, 37, 38, 39] (by decide +kernel) (by decide +kernel)
set_option maxRecDepth 20000 in
theorem gX7_isLetter_X7_see1 : GoodIn wsX7_isLetter (wsV RX7 67 RX7 yX7_see1 wsX7_see1) := goodIn_app (goodIn_of _ (by decide +kernel)) ggX7_isLetter_X7_see1
set_option maxRecDepth 20000 in
theorem ggX7_isLetter_X7_isIn : GoodIn wsX7_isLetter wsX7_isIn := goodIn_r _ [10] (by decide +kernel) (by decide +kernel)
set_option maxRecDepth 20000 in
theorem gX7_isLetter_X7_isIn : GoodIn wsX7_isLetter (va_wsS RX7 52 yX7_isIn wsX7_isIn) := goodIn_app (goodIn_of _ (by decide +kernel)) ggX7_isLetter_X7_isIn
theorem dX7_isLetter_0 : decode cX7_isLetter 0 = .ok (.aload_n 0, 1) := by decide +kernel
theorem dX7_isLetter_1 : decode cX7_isLetter 1 = .ok (.iload_n 1, 1) := by decide +kernel
theorem dX7_isLetter_2 : decode cX7_isLetter 2 = .ok (.invokevirtual 67, 3) := by decide +kernel
theorem dX7_isLetter_5 : decode cX7_isLetter 5 = .ok (.bipush 97, 2) := by decide +kernel
theorem dX7_isLetter_7 : decode cX7_isLetter 7 = .ok (.bipush 122, 2) := by decide +kernel
theorem dX7_isLetter_9 : decode cX7_isLetter 9 = .ok (.invokestatic 52, 3) := by decide +kernel
theorem dX7_isLetter_12 : decode cX7_isLetter 12 = .ok (.ireturn, 1) := by decide +kernel
set_option maxRecDepth 20000 in
theorem ggX7_isDigit_X7_see1 : GoodIn wsX7_isDigit wsX7_see1 := goodIn_r _ [5, 6, 7, 11, 12, 13, 14, 15, 16, 17, 18, 19, 20, 21, 22, 23, 24, 25, 26, 27, 28, 29, 30, 31, 32, 33, 34, 35, 36, 37, 38, 39] (by decide +kernel) (by decide +kernel)
set_option maxRecDepth 20000 in
theorem gX7_isDigit_X7_see1 : GoodIn wsX7_isDigit (wsV RX7 67 RX7 yX7_see1 wsX7_see1) := goodIn_app (goodIn_of _ (by decide +kernel)) ggX7_isDigit_X7_see1
set_option maxRecDepth 20000 in
theorem ggX7_isDigit_X7_isIn : GoodIn wsX7_isDigit wsX7_isIn := goodIn_r _ [10] (by decide +kernel) (by decide +kernel)
set_option maxRecDepth 20000 in
theorem gX7_isDigit_X7_isIn : GoodIn wsX7_isDigit (va_wsS RX7 52 yX7_isIn wsX7_isIn) := goodIn_app (goodIn_of _ (by decide +kernel)) ggX7_isDigit_X7_isIn
theorem dX7_isDigit_0 : decode cX7_isDigit 0 = .ok (.aload_n 0, 1) := by decide +kernel
theorem dX7_isDigit_1 : decode cX7_isDigit 1 = .ok (.iload_n 1, 1) := by decide +kernel
theorem dX7_isDigit_2 : decode cX7_isDigit 2 = .ok (.invokevirtual 67, 3) := by decide +kernel
theorem dX7_isDigit_5 : decode cX7_isDigit 5 = .ok (.bipush 48, 2) := by decide +kernel
theorem dX7_isDigit_7 : decode cX7_isDigit 7 = .ok (.bipush 57, 2) := by decide +kernel
theorem dX7_isDigit_9 : decode cX7_isDigit 9 = .ok (.invokestatic 52, 3) := by decide +kernel
theorem dX7_isDigit_12 : decode cX7_isDigit 12 = .ok (.ireturn, 1) := by decide +kernel
set_option maxRecDepth 20000 in
theorem ggX7_goes_X7_see1 : GoodIn wsX7_goes wsX7_see1 := goodIn_r _ [15, 4, 16, 28, 29, 30, 31, 32, 33, 34, 35, 36, 37, 38, 39, 40, 41, 42, 43, 44, 45, 46, 47, 48, 49, 50, 51, 52, 53, 54, 55, 56] (by decide +kernel) (by decide +kernel)
set_option maxRecDepth 20000 in
theorem gX7_goes_X7_see1 : GoodIn wsX7_goes (wsV RX7 67 RX7 yX7_see1 wsX7_see1) := goodIn_app (goodIn_of _ (by decide +kernel)) ggX7_goes_X7_see1
set_option maxRecDepth 20000 in
theorem ggX7_goes_X7_isLetter : GoodIn wsX7_goes wsX7_isLetter := goodIn_r _ [20, 11, 12, 13, 14, 15, 4, 16, 21, 22, 23, 28, 29, 30, 31, 32, 33, 34, 35, 36, 37, 38, 39, 40, 41, 42, 43, 44, 45, 46, 47, 48, 49, 50, 51, 52, 53, 54, 55, 56] (by decide +kernel) (by decide +kernel)
set_option maxRecDepth 20000 in
theorem gX7_goes_X7_isLetter : GoodIn wsX7_goes (wsV RX7 83 RX7 yX7_isLetter wsX7_isLetter) := goodIn_app (goodIn_of _ (by decide +kernel)) ggX7_goes_X7_isLetter
set_option maxRecDepth 20000 in
theorem ggX7_goes_X7_isDigit : GoodIn wsX7_goes wsX7_isDigit := goodIn_r _ [27, 11, 12, 13, 14, 15, 4, 16, 21, 22, 23, 28, 29, 30, 31, 32, 33, 34, 35, 36, 37, 38, 39, 40, 41, 42, 43, 44, 45, 46, 47, 48, 49, 50, 51, 52, 53, 54, 55, 56] (by decide +kernel) (by decide +kernel)
set_option maxRecDepth 20000 in
theorem gX7_goes_X7_isDigit : GoodIn wsX7_goes (wsV RX7 87 RX7 yX7_isDigit wsX7_isDigit) := goodIn_app (goodIn_of _ (by decide +kernel)) ggX7_goes_X7_isDigit
theorem dX7_goes_0 : decode cX7_goes 0 = .ok (.aload_n 0, 1) := by decide +kernel
theorem dX7_goes_1 : decode cX7_goes 1 = .ok (.aload_n 0, 1) := by decide +kernel
theorem dX7_goes_2 : decode cX7_goes 2 = .ok (.getfield 71, 3) := by decide +kernel
theorem dX7_goes_5 : decode cX7_goes 5 = .ok (.putfield 74, 3) := by decide +kernel
theorem dX7_goes_8 : decode cX7_goes 8 = .ok (.aload_n 0, 1) := by decide +kernel
theorem dX7_goes_9 : decode cX7_goes 9 = .ok (.aload_n 0, 1) := by decide +kernel
theorem dX7_goes_10 : decode cX7_goes 10 = .ok (.getfield 74, 3) := by decide +kernel
theorem dX7_goes_13 : decode cX7_goes 13 = .ok (.invokevirtual 67, 3) := by decide +kernel
theorem dX7_goes_16 : decode cX7_goes 16 = .ok (.bipush 32, 2) := by decide +kernel
theorem dX7_goes_18 : decode cX7_goes 18 = .ok (.if_icmp .ne 16, 3) := by decide +kernel
theorem dX7_goes_21 : decode cX7_goes 21 = .ok (.aload_n 0, 1) := by decide +kernel
theorem dX7_goes_22 : decode cX7_goes 22 = .ok (.dup, 1) := by decide +kernel
theorem dX7_goes_23 : decode cX7_goes 23 = .ok (.getfield 74, 3) := by decide +kernel
theorem dX7_goes_26 : decode cX7_goes 26 = .ok (.iconst 1, 1) := by decide +kernel
theorem dX7_goes_27 : decode cX7_goes 27 = .ok (.iadd, 1) := by decide +kernel
theorem dX7_goes_28 : decode cX7_goes 28 = .ok (.putfield 74, 3) := by decide +kernel
theorem dX7_goes_31 : decode cX7_goes 31 = .ok (.goto (-23), 3) := by decide +kernel
theorem dX7_goes_34 : decode cX7_goes 34 = .ok (.aload_n 0, 1) := by decide +kernel
theorem dX7_goes_35 : decode cX7_goes 35 = .ok (.aload_n 0, 1) := by decide +kernel
theorem dX7_goes_36 : decode cX7_goes 36 = .ok (.getfield 74, 3) := by decide +kernel
theorem dX7_goes_39 : decode cX7_goes 39 = .ok (.putfield 71, 3) := by decide +kernel
theorem dX7_goes_42 : decode cX7_goes 42 = .ok (.aload_n 0, 1) := by decide +kernel
theorem dX7_goes_43 : decode cX7_goes 43 = .ok (.iconst 0, 1) := by decide +kernel
theorem dX7_goes_44 : decode cX7_goes 44 = .ok (.putfield 77, 3) := by decide +kernel
theorem dX7_goes_47 : decode cX7_goes 47 = .ok (.aload_n 0, 1) := by decide +kernel
theorem dX7_goes_48 : decode cX7_goes 48 = .ok (.getfield 74, 3) := by decide +kernel
theorem dX7_goes_51 : decode cX7_goes 51 = .ok (.aload_n 0, 1) := by decide +kernel
theorem dX7_goes_52 : decode cX7_goes 52 = .ok (.getfield 64, 3) := by decide +kernel
theorem dX7_goes_55 : decode cX7_goes 55 = .ok (.if_icmp .lt 11, 3) := by decide +kernel
theorem dX7_goes_58 : decode cX7_goes 58 = .ok (.aload_n 0, 1) := by decide +kernel
theorem dX7_goes_59 : decode cX7_goes 59 = .ok (.iconst 3, 1) := by decide +kernel
theorem dX7_goes_60 : decode cX7_goes 60 = .ok (.putfield 80, 3) := by decide +kernel
theorem dX7_goes_63 : decode cX7_goes 63 = .ok (.goto 132, 3) := by decide +kernel
theorem dX7_goes_66 : decode cX7_goes 66 = .ok (.aload_n 0, 1) := by decide +kernel
theorem dX7_goes_67 : decode cX7_goes 67 = .ok (.aload_n 0, 1) := by decide +kernel
theorem dX7_goes_68 : decode cX7_goes 68 = .ok (.getfield 74, 3) := by decide +kernel
theorem dX7_goes_71 : decode cX7_goes 71 = .ok (.invokevirtual 83, 3) := by decide +kernel
theorem dX7_goes_74 : decode cX7_goes 74 = .ok (.ifCond .eq 35, 3) := by decide +kernel
theorem dX7_goes_77 : decode cX7_goes 77 = .ok (.aload_n 0, 1) := by decide +kernel
theorem dX7_goes_78 : decode cX7_goes 78 = .ok (.aload_n 0, 1) := by decide +kernel
theorem dX7_goes_79 : decode cX7_goes 79 = .ok (.getfield 71, 3) := by decide +kernel
theorem dX7_goes_82 : decode cX7_goes 82 = .ok (.invokevirtual 83, 3) := by decide +kernel
theorem dX7_goes_85 : decode cX7_goes 85 = .ok (.ifCond .eq 16, 3) := by decide +kernel
theorem dX7_goes_88 : decode cX7_goes 88 = .ok (.aload_n 0, 1) := by decide +kernel
theorem dX7_goes_89 : decode cX7_goes 89 = .ok (.dup, 1) := by decide +kernel
theorem dX7_goes_90 : decode cX7_goes 90 = .ok (.getfield 71, 3) := by decide +kernel
theorem dX7_goes_93 : decode cX7_goes 93 = .ok (.iconst 1, 1) := by decide +kernel
theorem dX7_goes_94 : decode cX7_goes 94 = .ok (.iadd, 1) := by decide +kernel
theorem dX7_goes_95 : decode cX7_goes 95 = .ok (.putfield 71, 3) := by decide +kernel
theorem dX7_goes_98 : decode cX7_goes 98 = .ok (.goto (-21), 3) := by decide +kernel
theorem dX7_goes_101 : decode cX7_goes 101 = .ok (.aload_n 0, 1) := by decide +kernel
theorem dX7_goes_102 : decode cX7_goes 102 = .ok (.iconst 0, 1) := by decide +kernel
theorem dX7_goes_103 : decode cX7_goes 103 = .ok (.putfield 80, 3) := by decide +kernel
theorem dX7_goes_106 : decode cX7_goes 106 = .ok (.goto 89, 3) := by decide +kernel
theorem dX7_goes_109 : decode cX7_goes 109 = .ok (.aload_n 0, 1) := by decide +kernel
theorem dX7_goes_110 : decode cX7_goes 110 = .ok (.aload_n 0, 1) := by decide +kernel
theorem dX7_goes_111 : decode cX7_goes 111 = .ok (.getfield 74, 3) := by decide +kernel
theorem dX7_goes_114 : decode cX7_goes 114 = .ok (.invokevirtual 87, 3) := by decide +kernel
theorem dX7_goes_117 : decode cX7_goes 117 = .ok (.ifCond .eq 63, 3) := by decide +kernel
theorem dX7_goes_120 : decode cX7_goes 120 = .ok (.aload_n 0, 1) := by decide +kernel
theorem dX7_goes_121 : decode cX7_goes 121 = .ok (.aload_n 0, 1) := by decide +kernel
theorem dX7_goes_122 : decode cX7_goes 122 = .ok (.getfield 71, 3) := by decide +kernel
theorem dX7_goes_125 : decode cX7_goes 125 = .ok (.invokevirtual 87, 3) := by decide +kernel
theorem dX7_goes_128 : decode cX7_goes 128 = .ok (.ifCond .eq 44, 3) := by decide +kernel
theorem dX7_goes_131 : decode cX7_goes 131 = .ok (.aload_n 0, 1) := by decide +kernel
theorem dX7_goes_132 : decode cX7_goes 132 = .ok (.ldc 90, 2) := by decide +kernel
theorem dX7_goes_134 : decode cX7_goes 134 = .ok (.bipush 10, 2) := by decide +kernel
theorem dX7_goes_136 : decode cX7_goes 136 = .ok (.aload_n 0, 1) := by decide +kernel
theorem dX7_goes_137 : decode cX7_goes 137 = .ok (.getfield 77, 3) := by decide +kernel
theorem dX7_goes_140 : decode cX7_goes 140 = .ok (.imul, 1) := by decide +kernel
theorem dX7_goes_141 : decode cX7_goes 141 = .ok (.aload_n 0, 1) := by decide +kernel
theorem dX7_goes_142 : decode cX7_goes 142 = .ok (.aload_n 0, 1) := by decide +kernel
theorem dX7_goes_143 : decode cX7_goes 143 = .ok (.getfield 71, 3) := by decide +kernel
theorem dX7_goes_146 : decode cX7_goes 146 = .ok (.invokevirtual 67, 3) := by decide +kernel
theorem dX7_goes_149 : decode cX7_goes 149 = .ok (.iadd, 1) := by decide +kernel
theorem dX7_goes_150 : decode cX7_goes 150 = .ok (.bipush 48, 2) := by decide +kernel
theorem dX7_goes_152 : decode cX7_goes 152 = .ok (.isub, 1) := by decide +kernel
theorem dX7_goes_153 : decode cX7_goes 153 = .ok (.invokestatic 91, 3) := by decide +kernel
theorem dX7_goes_156 : decode cX7_goes 156 = .ok (.putfield 77, 3) := by decide +kernel
theorem dX7_goes_159 : decode cX7_goes 159 = .ok (.aload_n 0, 1) := by decide +kernel
theorem dX7_goes_160 : decode cX7_goes 160 = .ok (.dup, 1) := by decide +kernel
theorem dX7_goes_161 : decode cX7_goes 161 = .ok (.getfield 71, 3) := by decide +kernel
theorem dX7_goes_164 : decode cX7_goes 164 = .ok (.iconst 1, 1) := by decide +kernel
theorem dX7_goes_165 : decode cX7_goes 165 = .ok (.iadd, 1) := by decide +kernel
theorem dX7_goes_166 : decode cX7_goes 166 = .ok (.putfield 71, 3) := by decide +kernel
theorem dX7_goes_169 : decode cX7_goes 169 = .ok (.goto (-49), 3) := by decide +kernel
theorem dX7_goes_172 : decode cX7_goes 172 = .ok (.aload_n 0, 1) := by decide +kernel
theorem dX7_goes_173 : decode cX7_goes 173 = .ok (.iconst 1, 1) := by decide +kernel
theorem dX7_goes_174 : decode cX7_goes 174 = .ok (.putfield 80, 3) := by decide +kernel
theorem dX7_goes_177 : decode cX7_goes 177 = .ok (.goto 18, 3) := by decide +kernel
theorem dX7_goes_180 : decode cX7_goes 180 = .ok (.aload_n 0, 1) := by decide +kernel
theorem dX7_goes_181 : decode cX7_goes 181 = .ok (.dup, 1) := by decide +kernel
theorem dX7_goes_182 : decode cX7_goes 182 = .ok (.getfield 71, 3) := by decide +kernel
theorem dX7_goes_185 : decode cX7_goes 185 = .ok (.iconst 1, 1) := by decide +kernel
theorem dX7_goes_186 : decode cX7_goes 186 = .ok (.iadd, 1) := by decide +kernel
theorem dX7_goes_187 : decode cX7_goes 187 = .ok (.putfield 71, 3) := by decide +kernel
theorem dX7_goes_190 : decode cX7_goes 190 = .ok (.aload_n 0, 1) := by decide +kernel
theorem dX7_goes_191 : decode cX7_goes 191 = .ok (.iconst 2, 1) := by decide +kernel
theorem dX7_goes_192 : decode cX7_goes 192 = .ok (.putfield 80, 3) := by decide +kernel
theorem dX7_goes_195 : decode cX7_goes 195 = .ok (.return_, 1) := by decide +kernel
set_option maxRecDepth 20000 in
theorem ggX7_starts_X7_copies : GoodIn wsX7_starts wsX7_copies := goodIn_r _ [9] (by decide +kernel) (by decide +kernel)
set_option maxRecDepth 20000 in
theorem gX7_starts_X7_copies : GoodIn wsX7_starts (va_wsS RX7 48 yX7_copies wsX7_copies) := goodIn_app (goodIn_of _ (by decide +kernel)) ggX7_starts_X7_copies
set_option maxRecDepth 20000 in
theorem ggX7_starts_X7_goes : GoodIn wsX7_starts wsX7_goes := goodIn_r _ [13, 2, 14, 15, 16, 17, 18, 19, 20, 21, 22, 23, 24, 25, 8, 26, 27, 28, 29, 30, 31, 32, 33, 34, 35, 36, 37, 38, 39, 40, 41, 42, 43, 44, 45, 46, 47, 48, 49, 50, 51, 52, 53, 54, 55, 56, 57, 58, 59, 60, 61, 62, 63, 64, 65, 66, 67] (by decide +kernel) (by decide +kernel)
set_option maxRecDepth 20000 in
theorem gX7_starts_X7_goes : GoodIn wsX7_starts (wsV RX7 100 RX7 yX7_goes wsX7_goes) := goodIn_app (goodIn_of _ (by decide +kernel)) ggX7_starts_X7_goes
theorem dX7_starts_0 : decode cX7_starts 0 = .ok (.aload_n 0, 1) := by decide +kernel
theorem dX7_starts_1 : decode cX7_starts 1 = .ok (.iconst 0, 1) := by decide +kernel
theorem dX7_starts_2 : decode cX7_starts 2 = .ok (.putfield 42, 3) := by decide +kernel
theorem dX7_starts_5 : decode cX7_starts 5 = .ok (.aload_n 0, 1) := by decide +kernel
theorem dX7_starts_6 : decode cX7_starts 6 = .ok (.iconst 0, 1) := by decide +kernel
theorem dX7_starts_7 : decode cX7_starts 7 = .ok (.putfield 71, 3) := by decide +kernel
theorem dX7_starts_10 : decode cX7_starts 10 = .ok (.aload_n 0, 1) := by decide +kernel
theorem dX7_starts_11 : decode cX7_starts 11 = .ok (.iconst 0, 1) := by decide +kernel
theorem dX7_starts_12 : decode cX7_starts 12 = .ok (.putfield 97, 3) := by decide +kernel
theorem dX7_starts_15 : decode cX7_starts 15 = .ok (.aload_n 0, 1) := by decide +kernel
theorem dX7_starts_16 : decode cX7_starts 16 = .ok (.getfield 13, 3) := by decide +kernel
theorem dX7_starts_19 : decode cX7_starts 19 = .ok (.iconst 0, 1) := by decide +kernel
theorem dX7_starts_20 : decode cX7_starts 20 = .ok (.aload_n 0, 1) := by decide +kernel
theorem dX7_starts_21 : decode cX7_starts 21 = .ok (.getfield 7, 3) := by decide +kernel
theorem dX7_starts_24 : decode cX7_starts 24 = .ok (.iconst 0, 1) := by decide +kernel
theorem dX7_starts_25 : decode cX7_starts 25 = .ok (.invokestatic 48, 3) := by decide +kernel
theorem dX7_starts_28 : decode cX7_starts 28 = .ok (.aload_n 0, 1) := by decide +kernel
theorem dX7_starts_29 : decode cX7_starts 29 = .ok (.invokevirtual 100, 3) := by decide +kernel
theorem dX7_starts_32 : decode cX7_starts 32 = .ok (.return_, 1) := by decide +kernel
set_option maxRecDepth 20000 in
theorem ggX7_ends_X7_fails : GoodIn wsX7_ends wsX7_fails := goodIn_r _ [12, 1, 13, 3, 23, 24, 25, 26, 27, 28, 29, 30, 31, 32, 33, 34, 35, 36, 37, 38, 39, 40, 41, 42, 43, 44, 45, 46, 47, 48, 49, 50, 51] (by decide +kernel) (by decide +kernel)
set_option maxRecDepth 20000 in
theorem gX7_ends_X7_fails : GoodIn wsX7_ends (wsV RX7 103 RX7 yX7_fails wsX7_fails) := goodIn_app (goodIn_of _ (by decide +kernel)) ggX7_ends_X7_fails
set_option maxRecDepth 20000 in
theorem ggX7_ends_X7_keeps : GoodIn wsX7_ends wsX7_keeps := goodIn_r _ [17, 18, 19, 20, 21, 11, 22, 23, 24, 25, 26, 27, 28, 29, 30, 31, 32, 33, 34, 35, 36, 37, 38, 39, 40, 41, 42, 43, 44, 45, 46, 47, 48, 49, 50, 51] (by decide +kernel) (by decide +kernel)
set_option maxRecDepth 20000 in
theorem gX7_ends_X7_keeps : GoodIn wsX7_ends (wsV RX7 56 RX7 yX7_keeps wsX7_keeps) := goodIn_app (goodIn_of _ (by decide +kernel)) ggX7_ends_X7_keeps
set_option maxRecDepth 20000 in
theorem ggX7_ends_X7_copies : GoodIn wsX7_ends wsX7_copies := goodIn_r _ [22] (by decide +kernel) (by decide +kernel)
set_option maxRecDepth 20000 in
theorem gX7_ends_X7_copies : GoodIn wsX7_ends (va_wsS RX7 48 yX7_copies wsX7_copies) := goodIn_app (goodIn_of _ (by decide +kernel)) ggX7_ends_X7_copies
theorem dX7_ends_0 : decode cX7_ends 0 = .ok (.aload_n 0, 1) := by decide +kernel
theorem dX7_ends_1 : decode cX7_ends 1 = .ok (.getfield 97, 3) := by decide +kernel
theorem dX7_ends_4 : decode cX7_ends 4 = .ok (.ifCond .ne 17, 3) := by decide +kernel
theorem dX7_ends_7 : decode cX7_ends 7 = .ok (.aload_n 0, 1) := by decide +kernel
theorem dX7_ends_8 : decode cX7_ends 8 = .ok (.getfield 80, 3) := by decide +kernel
theorem dX7_ends_11 : decode cX7_ends 11 = .ok (.iconst 3, 1) := by decide +kernel
theorem dX7_ends_12 : decode cX7_ends 12 = .ok (.if_icmp .eq 9, 3) := by decide +kernel
theorem dX7_ends_15 : decode cX7_ends 15 = .ok (.aload_n 0, 1) := by decide +kernel
theorem dX7_ends_16 : decode cX7_ends 16 = .ok (.bipush (-2), 2) := by decide +kernel
theorem dX7_ends_18 : decode cX7_ends 18 = .ok (.invokevirtual 103, 3) := by decide +kernel
theorem dX7_ends_21 : decode cX7_ends 21 = .ok (.aload_n 0, 1) := by decide +kernel
theorem dX7_ends_22 : decode cX7_ends 22 = .ok (.aload_n 0, 1) := by decide +kernel
theorem dX7_ends_23 : decode cX7_ends 23 = .ok (.getfield 97, 3) := by decide +kernel
theorem dX7_ends_26 : decode cX7_ends 26 = .ok (.ifCond .ne 7, 3) := by decide +kernel
theorem dX7_ends_29 : decode cX7_ends 29 = .ok (.iconst (-1), 1) := by decide +kernel
theorem dX7_ends_30 : decode cX7_ends 30 = .ok (.goto 7, 3) := by decide +kernel
theorem dX7_ends_33 : decode cX7_ends 33 = .ok (.aload_n 0, 1) := by decide +kernel
theorem dX7_ends_34 : decode cX7_ends 34 = .ok (.getfield 107, 3) := by decide +kernel
theorem dX7_ends_37 : decode cX7_ends 37 = .ok (.putfield 29, 3) := by decide +kernel
theorem dX7_ends_40 : decode cX7_ends 40 = .ok (.aload_n 0, 1) := by decide +kernel
theorem dX7_ends_41 : decode cX7_ends 41 = .ok (.iconst 0, 1) := by decide +kernel
theorem dX7_ends_42 : decode cX7_ends 42 = .ok (.putfield 64, 3) := by decide +kernel
theorem dX7_ends_45 : decode cX7_ends 45 = .ok (.aload_n 0, 1) := by decide +kernel
theorem dX7_ends_46 : decode cX7_ends 46 = .ok (.getfield 97, 3) := by decide +kernel
theorem dX7_ends_49 : decode cX7_ends 49 = .ok (.ifCond .ne 14, 3) := by decide +kernel
theorem dX7_ends_52 : decode cX7_ends 52 = .ok (.aload_n 0, 1) := by decide +kernel
theorem dX7_ends_53 : decode cX7_ends 53 = .ok (.aload_n 0, 1) := by decide +kernel
theorem dX7_ends_54 : decode cX7_ends 54 = .ok (.getfield 13, 3) := by decide +kernel
theorem dX7_ends_57 : decode cX7_ends 57 = .ok (.invokevirtual 56, 3) := by decide +kernel
theorem dX7_ends_60 : decode cX7_ends 60 = .ok (.goto 16, 3) := by decide +kernel
theorem dX7_ends_63 : decode cX7_ends 63 = .ok (.aload_n 0, 1) := by decide +kernel
theorem dX7_ends_64 : decode cX7_ends 64 = .ok (.getfield 7, 3) := by decide +kernel
theorem dX7_ends_67 : decode cX7_ends 67 = .ok (.iconst 0, 1) := by decide +kernel
theorem dX7_ends_68 : decode cX7_ends 68 = .ok (.aload_n 0, 1) := by decide +kernel
theorem dX7_ends_69 : decode cX7_ends 69 = .ok (.getfield 13, 3) := by decide +kernel
theorem dX7_ends_72 : decode cX7_ends 72 = .ok (.iconst 0, 1) := by decide +kernel
theorem dX7_ends_73 : decode cX7_ends 73 = .ok (.invokestatic 48, 3) := by decide +kernel
theorem dX7_ends_76 : decode cX7_ends 76 = .ok (.aload_n 0, 1) := by decide +kernel
theorem dX7_ends_77 : decode cX7_ends 77 = .ok (.getfield 97, 3) := by decide +kernel
theorem dX7_ends_80 : decode cX7_ends 80 = .ok (.ifCond .ne 7, 3) := by decide +kernel
theorem dX7_ends_83 : decode cX7_ends 83 = .ok (.iconst 1, 1) := by decide +kernel
theorem dX7_ends_84 : decode cX7_ends 84 = .ok (.goto 4, 3) := by decide +kernel
theorem dX7_ends_87 : decode cX7_ends 87 = .ok (.iconst 0, 1) := by decide +kernel
theorem dX7_ends_88 : decode cX7_ends 88 = .ok (.ireturn, 1) := by decide +kernel
set_option maxRecDepth 20000 in
theorem ggX7_isWord_J0_length_8abf5 : GoodIn wsX7_isWord wsJ0_length_8abf5 := goodIn_r _ [10, 11, 12, 13, 14, 9, 15, 16, 17] (by decide +kernel) (by decide +kernel)
set_option maxRecDepth 20000 in
theorem gX7_isWord_J0_length_8abf5 : GoodIn wsX7_isWord (wsV RX7 110 RJ0 yJ0_length_8abf5 wsJ0_length_8abf5) := goodIn_app (goodIn_of _ (by decide +kernel)) ggX7_isWord_J0_length_8abf5
set_option maxRecDepth 20000 in
theorem ggX7_isWord_J0_charAt_5068e : GoodIn wsX7_isWord wsJ0_charAt_5068e := goodIn_r _ [21, 11, 22, 23, 24, 9, 25, 16, 17, 26, 27, 28, 29, 30, 31, 32, 33, 34, 35, 36, 37, 38, 39, 40, 41, 42, 43, 44, 45, 46, 47, 48, 49, 50, 51, 52, 53, 54] (by decide +kernel) (by decide +kernel)
set_option maxRecDepth 20000 in
theorem gX7_isWord_J0_charAt_5068e : GoodIn wsX7_isWord (wsV RX7 116 RJ0 yJ0_charAt_5068e wsJ0_charAt_5068e) := goodIn_app (goodIn_of _ (by decide +kernel)) ggX7_isWord_J0_charAt_5068e
theorem dX7_isWord_0 : decode cX7_isWord 0 = .ok (.aload_n 0, 1) := by decide +kernel
theorem dX7_isWord_1 : decode cX7_isWord 1 = .ok (.getfield 97, 3) := by decide +kernel
theorem dX7_isWord_4 : decode cX7_isWord 4 = .ok (.ifCond .ne 26, 3) := by decide +kernel
theorem dX7_isWord_7 : decode cX7_isWord 7 = .ok (.aload_n 0, 1) := by decide +kernel
theorem dX7_isWord_8 : decode cX7_isWord 8 = .ok (.getfield 80, 3) := by decide +kernel
theorem dX7_isWord_11 : decode cX7_isWord 11 = .ok (.ifCond .ne 19, 3) := by decide +kernel
theorem dX7_isWord_14 : decode cX7_isWord 14 = .ok (.aload_n 0, 1) := by decide +kernel
theorem dX7_isWord_15 : decode cX7_isWord 15 = .ok (.getfield 71, 3) := by decide +kernel
theorem dX7_isWord_18 : decode cX7_isWord 18 = .ok (.aload_n 0, 1) := by decide +kernel
theorem dX7_isWord_19 : decode cX7_isWord 19 = .ok (.getfield 74, 3) := by decide +kernel
theorem dX7_isWord_22 : decode cX7_isWord 22 = .ok (.isub, 1) := by decide +kernel
theorem dX7_isWord_23 : decode cX7_isWord 23 = .ok (.aload_n 1, 1) := by decide +kernel
theorem dX7_isWord_24 : decode cX7_isWord 24 = .ok (.invokevirtual 110, 3) := by decide +kernel
theorem dX7_isWord_27 : decode cX7_isWord 27 = .ok (.if_icmp .eq 5, 3) := by decide +kernel
theorem dX7_isWord_30 : decode cX7_isWord 30 = .ok (.iconst 0, 1) := by decide +kernel
theorem dX7_isWord_31 : decode cX7_isWord 31 = .ok (.ireturn, 1) := by decide +kernel
theorem dX7_isWord_32 : decode cX7_isWord 32 = .ok (.iconst 0, 1) := by decide +kernel
theorem dX7_isWord_33 : decode cX7_isWord 33 = .ok (.istore_n 2, 1) := by decide +kernel
theorem dX7_isWord_34 : decode cX7_isWord 34 = .ok (.iload_n 2, 1) := by decide +kernel
theorem dX7_isWord_35 : decode cX7_isWord 35 = .ok (.aload_n 1, 1) := by decide +kernel
theorem dX7_isWord_36 : decode cX7_isWord 36 = .ok (.invokevirtual 110, 3) := by decide +kernel
theorem dX7_isWord_39 : decode cX7_isWord 39 = .ok (.if_icmp .ge 30, 3) := by decide +kernel
theorem dX7_isWord_42 : decode cX7_isWord 42 = .ok (.aload_n 0, 1) := by decide +kernel
theorem dX7_isWord_43 : decode cX7_isWord 43 = .ok (.getfield 26, 3) := by decide +kernel
theorem dX7_isWord_46 : decode cX7_isWord 46 = .ok (.aload_n 0, 1) := by decide +kernel
theorem dX7_isWord_47 : decode cX7_isWord 47 = .ok (.getfield 74, 3) := by decide +kernel
theorem dX7_isWord_50 : decode cX7_isWord 50 = .ok (.iload_n 2, 1) := by decide +kernel
theorem dX7_isWord_51 : decode cX7_isWord 51 = .ok (.iadd, 1) := by decide +kernel
theorem dX7_isWord_52 : decode cX7_isWord 52 = .ok (.iaload, 1) := by decide +kernel
theorem dX7_isWord_53 : decode cX7_isWord 53 = .ok (.aload_n 1, 1) := by decide +kernel
theorem dX7_isWord_54 : decode cX7_isWord 54 = .ok (.iload_n 2, 1) := by decide +kernel
theorem dX7_isWord_55 : decode cX7_isWord 55 = .ok (.invokevirtual 116, 3) := by decide +kernel
theorem dX7_isWord_58 : decode cX7_isWord 58 = .ok (.if_icmp .eq 5, 3) := by decide +kernel
theorem dX7_isWord_61 : decode cX7_isWord 61 = .ok (.iconst 0, 1) := by decide +kernel
theorem dX7_isWord_62 : decode cX7_isWord 62 = .ok (.ireturn, 1) := by decide +kernel
theorem dX7_isWord_63 : decode cX7_isWord 63 = .ok (.iinc 2 1, 3) := by decide +kernel
theorem dX7_isWord_66 : decode cX7_isWord 66 = .ok (.goto (-32), 3) := by decide +kernel
theorem dX7_isWord_69 : decode cX7_isWord 69 = .ok (.iconst 1, 1) := by decide +kernel
theorem dX7_isWord_70 : decode cX7_isWord 70 = .ok (.ireturn, 1) := by decide +kernel
set_option maxRecDepth 20000 in
theorem ggX7_isSign_X7_see1 : GoodIn wsX7_isSign wsX7_see1 := goodIn_r _ [8, 9, 10, 11, 12, 13, 14, 15, 16, 17, 18, 19, 20, 21, 22, 23, 24, 25, 26, 27, 28, 29, 30, 31, 32, 33, 34, 35, 36, 37, 38, 39] (by decide +kernel) (by decide +kernel)
set_option maxRecDepth 20000 in
theorem gX7_isSign_X7_see1 : GoodIn wsX7_isSign (wsV RX7 67 RX7 yX7_see1 wsX7_see1) := goodIn_app (goodIn_of _ (by decide +kernel)) ggX7_isSign_X7_see1
theorem dX7_isSign_0 : decode cX7_isSign 0 = .ok (.aload_n 0, 1) := by decide +kernel
theorem dX7_isSign_1 : decode cX7_isSign 1 = .ok (.getfield 97, 3) := by decide +kernel
theorem dX7_isSign_4 : decode cX7_isSign 4 = .ok (.ifCond .ne 27, 3) := by decide +kernel
theorem dX7_isSign_7 : decode cX7_isSign 7 = .ok (.aload_n 0, 1) := by decide +kernel
theorem dX7_isSign_8 : decode cX7_isSign 8 = .ok (.getfield 80, 3) := by decide +kernel
theorem dX7_isSign_11 : decode cX7_isSign 11 = .ok (.iconst 2, 1) := by decide +kernel
theorem dX7_isSign_12 : decode cX7_isSign 12 = .ok (.if_icmp .ne 19, 3) := by decide +kernel
theorem dX7_isSign_15 : decode cX7_isSign 15 = .ok (.aload_n 0, 1) := by decide +kernel
theorem dX7_isSign_16 : decode cX7_isSign 16 = .ok (.aload_n 0, 1) := by decide +kernel
theorem dX7_isSign_17 : decode cX7_isSign 17 = .ok (.getfield 74, 3) := by decide +kernel
theorem dX7_isSign_20 : decode cX7_isSign 20 = .ok (.invokevirtual 67, 3) := by decide +kernel
theorem dX7_isSign_23 : decode cX7_isSign 23 = .ok (.iload_n 1, 1) := by decide +kernel
theorem dX7_isSign_24 : decode cX7_isSign 24 = .ok (.if_icmp .ne 7, 3) := by decide +kernel
theorem dX7_isSign_27 : decode cX7_isSign 27 = .ok (.iconst 1, 1) := by decide +kernel
theorem dX7_isSign_28 : decode cX7_isSign 28 = .ok (.goto 4, 3) := by decide +kernel
theorem dX7_isSign_31 : decode cX7_isSign 31 = .ok (.iconst 0, 1) := by decide +kernel
theorem dX7_isSign_32 : decode cX7_isSign 32 = .ok (.ireturn, 1) := by decide +kernel
theorem dX7_fails_0 : decode cX7_fails 0 = .ok (.aload_n 0, 1) := by decide +kernel
theorem dX7_fails_1 : decode cX7_fails 1 = .ok (.getfield 97, 3) := by decide +kernel
theorem dX7_fails_4 : decode cX7_fails 4 = .ok (.ifCond .eq 4, 3) := by decide +kernel
theorem dX7_fails_7 : decode cX7_fails 7 = .ok (.return_, 1) := by decide +kernel
theorem dX7_fails_8 : decode cX7_fails 8 = .ok (.aload_n 0, 1) := by decide +kernel
theorem dX7_fails_9 : decode cX7_fails 9 = .ok (.iload_n 1, 1) := by decide +kernel
theorem dX7_fails_10 : decode cX7_fails 10 = .ok (.putfield 97, 3) := by decide +kernel
theorem dX7_fails_13 : decode cX7_fails 13 = .ok (.aload_n 0, 1) := by decide +kernel
theorem dX7_fails_14 : decode cX7_fails 14 = .ok (.aload_n 0, 1) := by decide +kernel
theorem dX7_fails_15 : decode cX7_fails 15 = .ok (.getfield 74, 3) := by decide +kernel
theorem dX7_fails_18 : decode cX7_fails 18 = .ok (.putfield 107, 3) := by decide +kernel
theorem dX7_fails_21 : decode cX7_fails 21 = .ok (.return_, 1) := by decide +kernel
set_option maxRecDepth 20000 in
theorem ggX7_must_X7_fails : GoodIn wsX7_must wsX7_fails := goodIn_r _ [6, 1, 7, 8, 38, 39, 40, 41, 42, 43, 44, 45, 46, 47, 48, 49, 50, 51, 52, 53, 54, 55, 56, 57, 58, 59, 60, 61, 62, 63, 64, 65, 66] (by decide +kernel) (by decide +kernel)
set_option maxRecDepth 20000 in
theorem gX7_must_X7_fails : GoodIn wsX7_must (wsV RX7 103 RX7 yX7_fails wsX7_fails) := goodIn_app (goodIn_of _ (by decide +kernel)) ggX7_must_X7_fails
set_option maxRecDepth 20000 in
theorem ggX7_must_X7_goes : GoodIn wsX7_must wsX7_goes := goodIn_r _ [12, 13, 7, 14, 15, 16, 17, 18, 19, 20, 21, 22, 23, 24, 5, 25, 26, 27, 28, 29, 30, 31, 32, 33, 34, 35, 36, 37, 38, 39, 40, 41, 42, 43, 44, 45, 46, 47, 48, 49, 50, 51, 52, 53, 54, 55, 56, 57, 58, 59, 60, 61, 62, 63, 64, 65, 66] (by decide +kernel) (by decide +kernel)
set_option maxRecDepth 20000 in
theorem gX7_must_X7_goes : GoodIn wsX7_must (wsV RX7 100 RX7 yX7_goes wsX7_goes) := goodIn_app (goodIn_of _ (by decide +kernel)) ggX7_must_X7_goes
theorem dX7_must_0 : decode cX7_must 0 = .ok (.iload_n 1, 1) := by decide +kernel
theorem dX7_must_1 : decode cX7_must 1 = .ok (.ifCond .ne 9, 3) := by decide +kernel
theorem dX7_must_4 : decode cX7_must 4 = .ok (.aload_n 0, 1) := by decide +kernel
theorem dX7_must_5 : decode cX7_must 5 = .ok (.bipush (-2), 2) := by decide +kernel
theorem dX7_must_7 : decode cX7_must 7 = .ok (.invokevirtual 103, 3) := by decide +kernel
theorem dX7_must_10 : decode cX7_must 10 = .ok (.aload_n 0, 1) := by decide +kernel
theorem dX7_must_11 : decode cX7_must 11 = .ok (.getfield 97, 3) := by decide +kernel
theorem dX7_must_14 : decode cX7_must 14 = .ok (.ifCond .ne 7, 3) := by decide +kernel
theorem dX7_must_17 : decode cX7_must 17 = .ok (.aload_n 0, 1) := by decide +kernel
theorem dX7_must_18 : decode cX7_must 18 = .ok (.invokevirtual 100, 3) := by decide +kernel
theorem dX7_must_21 : decode cX7_must 21 = .ok (.return_, 1) := by decide +kernel
set_option maxRecDepth 20000 in
theorem ggX7_mustEnd_X7_isSign : GoodIn wsX7_mustEnd wsX7_isSign := goodIn_r _ [5, 6, 7, 8, 9, 10, 11, 4, 12, 13, 14, 46, 47, 48, 49, 50, 51, 52, 53, 54, 55, 56, 57, 58, 59, 60, 61, 62, 63, 64, 65, 66, 67, 68, 69, 70, 71, 72, 73, 74] (by decide +kernel) (by decide +kernel)
set_option maxRecDepth 20000 in
theorem gX7_mustEnd_X7_isSign : GoodIn wsX7_mustEnd (wsV RX7 120 RX7 yX7_isSign wsX7_isSign) := goodIn_app (goodIn_of _ (by decide +kernel)) ggX7_mustEnd_X7_isSign
set_option maxRecDepth 20000 in
theorem ggX7_mustEnd_X7_must : GoodIn wsX7_mustEnd wsX7_must := goodIn_r _ [18, 6, 19, 20, 21, 4, 22, 8, 23, 24, 25, 26, 27, 28, 29, 13, 7, 30, 31, 32, 33, 34, 9, 10, 11, 12, 14, 35, 36, 37, 38, 39, 40, 41, 42, 43, 44, 45, 46, 47, 48, 49, 50, 51, 52, 53, 54, 55, 56, 57, 58, 59, 60, 61, 62, 63, 64, 65, 66, 67, 68, 69, 70, 71, 72, 73, 74] (by decide +kernel) (by decide +kernel)
set_option maxRecDepth 20000 in
theorem gX7_mustEnd_X7_must : GoodIn wsX7_mustEnd (wsV RX7 124 RX7 yX7_must wsX7_must) := goodIn_app (goodIn_of _ (by decide +kernel)) ggX7_mustEnd_X7_must
theorem dX7_mustEnd_0 : decode cX7_mustEnd 0 = .ok (.aload_n 0, 1) := by decide +kernel
theorem dX7_mustEnd_1 : decode cX7_mustEnd 1 = .ok (.aload_n 0, 1) := by decide +kernel
theorem dX7_mustEnd_2 : decode cX7_mustEnd 2 = .ok (.bipush 59, 2) := by decide +kernel
theorem dX7_mustEnd_4 : decode cX7_mustEnd 4 = .ok (.invokevirtual 120, 3) := by decide +kernel
theorem dX7_mustEnd_7 : decode cX7_mustEnd 7 = .ok (.invokevirtual 124, 3) := by decide +kernel
theorem dX7_mustEnd_10 : decode cX7_mustEnd 10 = .ok (.return_, 1) := by decide +kernel
set_option maxRecDepth 20000 in
theorem ggX7_takes_X7_isSign : GoodIn wsX7_takes wsX7_isSign := goodIn_r _ [8, 1, 2, 9, 10, 11, 12, 7, 13, 14, 15, 42, 43, 44, 45, 46, 47, 48, 49, 50, 51, 52, 53, 54, 55, 56, 57, 58, 59, 60, 61, 62, 63, 64, 65, 66, 67, 68, 69, 70] (by decide +kernel) (by decide +kernel)
set_option maxRecDepth 20000 in
theorem gX7_takes_X7_isSign : GoodIn wsX7_takes (wsV RX7 120 RX7 yX7_isSign wsX7_isSign) := goodIn_app (goodIn_of _ (by decide +kernel)) ggX7_takes_X7_isSign
set_option maxRecDepth 20000 in
theorem ggX7_takes_X7_goes : GoodIn wsX7_takes wsX7_goes := goodIn_r _ [19, 20, 9, 3, 14, 2, 21, 22, 23, 24, 25, 10, 11, 12, 7, 13, 15, 26, 27, 28, 29, 30, 31, 32, 33, 34, 35, 36, 42, 43, 44, 45, 46, 47, 48, 49, 50, 51, 52, 53, 54, 55, 56, 57, 58, 59, 60, 61, 62, 63, 64, 65, 66, 67, 68, 69, 70] (by decide +kernel) (by decide +kernel)
set_option maxRecDepth 20000 in
theorem gX7_takes_X7_goes : GoodIn wsX7_takes (wsV RX7 100 RX7 yX7_goes wsX7_goes) := goodIn_app (goodIn_of _ (by decide +kernel)) ggX7_takes_X7_goes
set_option maxRecDepth 20000 in
theorem ggX7_takes_X7_fails : GoodIn wsX7_takes wsX7_fails := goodIn_r _ [40, 1, 9, 41, 42, 43, 44, 45, 46, 47, 48, 49, 50, 51, 52, 53, 54, 55, 56, 57, 58, 59, 60, 61, 62, 63, 64, 65, 66, 67, 68, 69, 70] (by decide +kernel) (by decide +kernel)
set_option maxRecDepth 20000 in
theorem gX7_takes_X7_fails : GoodIn wsX7_takes (wsV RX7 103 RX7 yX7_fails wsX7_fails) := goodIn_app (goodIn_of _ (by decide +kernel)) ggX7_takes_X7_fails
set_option maxRecDepth 20000 in
theorem ggX7_takes_X7_isIn : GoodIn wsX7_takes wsX7_isIn := goodIn_r _ [32] (by decide +kernel) (by decide +kernel)
set_option maxRecDepth 20000 in
theorem gX7_takes_X7_isIn : GoodIn wsX7_takes (va_wsS RX7 52 yX7_isIn wsX7_isIn) := goodIn_app (goodIn_of _ (by decide +kernel)) ggX7_takes_X7_isIn
theorem dX7_takes_0 : decode cX7_takes 0 = .ok (.iload_n 1, 1) := by decide +kernel
theorem dX7_takes_1 : decode cX7_takes 1 = .ok (.ifCond .ge 16, 3) := by decide +kernel
theorem dX7_takes_4 : decode cX7_takes 4 = .ok (.aload_n 0, 1) := by decide +kernel
theorem dX7_takes_5 : decode cX7_takes 5 = .ok (.bipush 45, 2) := by decide +kernel
theorem dX7_takes_7 : decode cX7_takes 7 = .ok (.invokevirtual 120, 3) := by decide +kernel
theorem dX7_takes_10 : decode cX7_takes 10 = .ok (.ifCond .eq 7, 3) := by decide +kernel
theorem dX7_takes_13 : decode cX7_takes 13 = .ok (.iconst 1, 1) := by decide +kernel
theorem dX7_takes_14 : decode cX7_takes 14 = .ok (.goto 4, 3) := by decide +kernel
theorem dX7_takes_17 : decode cX7_takes 17 = .ok (.iconst 0, 1) := by decide +kernel
theorem dX7_takes_18 : decode cX7_takes 18 = .ok (.istore_n 3, 1) := by decide +kernel
theorem dX7_takes_19 : decode cX7_takes 19 = .ok (.iload_n 3, 1) := by decide +kernel
theorem dX7_takes_20 : decode cX7_takes 20 = .ok (.ifCond .eq 7, 3) := by decide +kernel
theorem dX7_takes_23 : decode cX7_takes 23 = .ok (.aload_n 0, 1) := by decide +kernel
theorem dX7_takes_24 : decode cX7_takes 24 = .ok (.invokevirtual 100, 3) := by decide +kernel
theorem dX7_takes_27 : decode cX7_takes 27 = .ok (.aload_n 0, 1) := by decide +kernel
theorem dX7_takes_28 : decode cX7_takes 28 = .ok (.getfield 97, 3) := by decide +kernel
theorem dX7_takes_31 : decode cX7_takes 31 = .ok (.ifCond .ne 17, 3) := by decide +kernel
theorem dX7_takes_34 : decode cX7_takes 34 = .ok (.aload_n 0, 1) := by decide +kernel
theorem dX7_takes_35 : decode cX7_takes 35 = .ok (.getfield 80, 3) := by decide +kernel
theorem dX7_takes_38 : decode cX7_takes 38 = .ok (.iconst 1, 1) := by decide +kernel
theorem dX7_takes_39 : decode cX7_takes 39 = .ok (.if_icmp .eq 9, 3) := by decide +kernel
theorem dX7_takes_42 : decode cX7_takes 42 = .ok (.aload_n 0, 1) := by decide +kernel
theorem dX7_takes_43 : decode cX7_takes 43 = .ok (.bipush (-2), 2) := by decide +kernel
theorem dX7_takes_45 : decode cX7_takes 45 = .ok (.invokevirtual 103, 3) := by decide +kernel
theorem dX7_takes_48 : decode cX7_takes 48 = .ok (.iload_n 3, 1) := by decide +kernel
theorem dX7_takes_49 : decode cX7_takes 49 = .ok (.ifCond .eq 11, 3) := by decide +kernel
theorem dX7_takes_52 : decode cX7_takes 52 = .ok (.aload_n 0, 1) := by decide +kernel
theorem dX7_takes_53 : decode cX7_takes 53 = .ok (.getfield 77, 3) := by decide +kernel
theorem dX7_takes_56 : decode cX7_takes 56 = .ok (.ineg, 1) := by decide +kernel
theorem dX7_takes_57 : decode cX7_takes 57 = .ok (.goto 7, 3) := by decide +kernel
theorem dX7_takes_60 : decode cX7_takes 60 = .ok (.aload_n 0, 1) := by decide +kernel
theorem dX7_takes_61 : decode cX7_takes 61 = .ok (.getfield 77, 3) := by decide +kernel
theorem dX7_takes_64 : decode cX7_takes 64 = .ok (.istore 4, 2) := by decide +kernel
theorem dX7_takes_66 : decode cX7_takes 66 = .ok (.aload_n 0, 1) := by decide +kernel
theorem dX7_takes_67 : decode cX7_takes 67 = .ok (.getfield 97, 3) := by decide +kernel
theorem dX7_takes_70 : decode cX7_takes 70 = .ok (.ifCond .ne 19, 3) := by decide +kernel
theorem dX7_takes_73 : decode cX7_takes 73 = .ok (.iload 4, 2) := by decide +kernel
theorem dX7_takes_75 : decode cX7_takes 75 = .ok (.iload_n 1, 1) := by decide +kernel
theorem dX7_takes_76 : decode cX7_takes 76 = .ok (.iload_n 2, 1) := by decide +kernel
theorem dX7_takes_77 : decode cX7_takes 77 = .ok (.invokestatic 52, 3) := by decide +kernel
theorem dX7_takes_80 : decode cX7_takes 80 = .ok (.ifCond .ne 9, 3) := by decide +kernel
theorem dX7_takes_83 : decode cX7_takes 83 = .ok (.aload_n 0, 1) := by decide +kernel
theorem dX7_takes_84 : decode cX7_takes 84 = .ok (.bipush (-3), 2) := by decide +kernel
theorem dX7_takes_86 : decode cX7_takes 86 = .ok (.invokevirtual 103, 3) := by decide +kernel
theorem dX7_takes_89 : decode cX7_takes 89 = .ok (.aload_n 0, 1) := by decide +kernel
theorem dX7_takes_90 : decode cX7_takes 90 = .ok (.getfield 97, 3) := by decide +kernel
theorem dX7_takes_93 : decode cX7_takes 93 = .ok (.ifCond .ne 7, 3) := by decide +kernel
theorem dX7_takes_96 : decode cX7_takes 96 = .ok (.aload_n 0, 1) := by decide +kernel
theorem dX7_takes_97 : decode cX7_takes 97 = .ok (.invokevirtual 100, 3) := by decide +kernel
theorem dX7_takes_100 : decode cX7_takes 100 = .ok (.aload_n 0, 1) := by decide +kernel
theorem dX7_takes_101 : decode cX7_takes 101 = .ok (.getfield 97, 3) := by decide +kernel
theorem dX7_takes_104 : decode cX7_takes 104 = .ok (.ifCond .ne 8, 3) := by decide +kernel
theorem dX7_takes_107 : decode cX7_takes 107 = .ok (.iload 4, 2) := by decide +kernel
theorem dX7_takes_109 : decode cX7_takes 109 = .ok (.goto 4, 3) := by decide +kernel
theorem dX7_takes_112 : decode cX7_takes 112 = .ok (.iconst 0, 1) := by decide +kernel
theorem dX7_takes_113 : decode cX7_takes 113 = .ok (.ireturn, 1) := by decide +kernel
set_option maxRecDepth 20000 in
theorem ggX7_mustName_X7_fails : GoodIn wsX7_mustName wsX7_fails := goodIn_r _ [9, 1, 4, 10, 11, 12, 13, 14, 15, 16, 17, 18, 19, 20, 21, 22, 23, 24, 25, 26, 27, 28, 29, 30, 31, 32, 33, 34, 35, 36, 37, 38, 39] (by decide +kernel) (by decide +kernel)
set_option maxRecDepth 20000 in
theorem gX7_mustName_X7_fails : GoodIn wsX7_mustName (wsV RX7 103 RX7 yX7_fails wsX7_fails) := goodIn_app (goodIn_of _ (by decide +kernel)) ggX7_mustName_X7_fails
theorem dX7_mustName_0 : decode cX7_mustName 0 = .ok (.aload_n 0, 1) := by decide +kernel
theorem dX7_mustName_1 : decode cX7_mustName 1 = .ok (.getfield 97, 3) := by decide +kernel
theorem dX7_mustName_4 : decode cX7_mustName 4 = .ok (.ifCond .ne 30, 3) := by decide +kernel
theorem dX7_mustName_7 : decode cX7_mustName 7 = .ok (.aload_n 0, 1) := by decide +kernel
theorem dX7_mustName_8 : decode cX7_mustName 8 = .ok (.getfield 80, 3) := by decide +kernel
theorem dX7_mustName_11 : decode cX7_mustName 11 = .ok (.ifCond .ne 17, 3) := by decide +kernel
theorem dX7_mustName_14 : decode cX7_mustName 14 = .ok (.aload_n 0, 1) := by decide +kernel
theorem dX7_mustName_15 : decode cX7_mustName 15 = .ok (.getfield 71, 3) := by decide +kernel
theorem dX7_mustName_18 : decode cX7_mustName 18 = .ok (.aload_n 0, 1) := by decide +kernel
theorem dX7_mustName_19 : decode cX7_mustName 19 = .ok (.getfield 74, 3) := by decide +kernel
theorem dX7_mustName_22 : decode cX7_mustName 22 = .ok (.isub, 1) := by decide +kernel
theorem dX7_mustName_23 : decode cX7_mustName 23 = .ok (.bipush 8, 2) := by decide +kernel
theorem dX7_mustName_25 : decode cX7_mustName 25 = .ok (.if_icmp .le 9, 3) := by decide +kernel
theorem dX7_mustName_28 : decode cX7_mustName 28 = .ok (.aload_n 0, 1) := by decide +kernel
theorem dX7_mustName_29 : decode cX7_mustName 29 = .ok (.bipush (-2), 2) := by decide +kernel
theorem dX7_mustName_31 : decode cX7_mustName 31 = .ok (.invokevirtual 103, 3) := by decide +kernel
theorem dX7_mustName_34 : decode cX7_mustName 34 = .ok (.return_, 1) := by decide +kernel
set_option maxRecDepth 20000 in
theorem ggX7_named_X7_of : GoodIn wsX7_named wsX7_of := goodIn_r _ [9, 1, 10, 11, 12, 13, 14, 15, 16, 17, 18, 19, 20, 21, 22, 23, 24, 25, 26, 27, 28, 29, 30, 31, 32, 33, 34, 35, 36, 37, 38] (by decide +kernel) (by decide +kernel)
set_option maxRecDepth 20000 in
theorem gX7_named_X7_of : GoodIn wsX7_named (wsV RX7 128 RX7 yX7_of wsX7_of) := goodIn_app (goodIn_of _ (by decide +kernel)) ggX7_named_X7_of
theorem dX7_named_0 : decode cX7_named 0 = .ok (.iconst 0, 1) := by decide +kernel
theorem dX7_named_1 : decode cX7_named 1 = .ok (.istore_n 1, 1) := by decide +kernel
theorem dX7_named_2 : decode cX7_named 2 = .ok (.iload_n 1, 1) := by decide +kernel
theorem dX7_named_3 : decode cX7_named 3 = .ok (.aload_n 0, 1) := by decide +kernel
theorem dX7_named_4 : decode cX7_named 4 = .ok (.getfield 7, 3) := by decide +kernel
theorem dX7_named_7 : decode cX7_named 7 = .ok (.iconst 3, 1) := by decide +kernel
theorem dX7_named_8 : decode cX7_named 8 = .ok (.iaload, 1) := by decide +kernel
theorem dX7_named_9 : decode cX7_named 9 = .ok (.if_icmp .ge 81, 3) := by decide +kernel
theorem dX7_named_12 : decode cX7_named 12 = .ok (.iconst 1, 1) := by decide +kernel
theorem dX7_named_13 : decode cX7_named 13 = .ok (.istore_n 2, 1) := by decide +kernel
theorem dX7_named_14 : decode cX7_named 14 = .ok (.iconst 0, 1) := by decide +kernel
theorem dX7_named_15 : decode cX7_named 15 = .ok (.istore_n 3, 1) := by decide +kernel
theorem dX7_named_16 : decode cX7_named 16 = .ok (.iload_n 3, 1) := by decide +kernel
theorem dX7_named_17 : decode cX7_named 17 = .ok (.bipush 8, 2) := by decide +kernel
theorem dX7_named_19 : decode cX7_named 19 = .ok (.if_icmp .ge 59, 3) := by decide +kernel
theorem dX7_named_22 : decode cX7_named 22 = .ok (.iload_n 2, 1) := by decide +kernel
theorem dX7_named_23 : decode cX7_named 23 = .ok (.ifCond .eq 47, 3) := by decide +kernel
theorem dX7_named_26 : decode cX7_named 26 = .ok (.aload_n 0, 1) := by decide +kernel
theorem dX7_named_27 : decode cX7_named 27 = .ok (.iload_n 1, 1) := by decide +kernel
theorem dX7_named_28 : decode cX7_named 28 = .ok (.bipush 6, 2) := by decide +kernel
theorem dX7_named_30 : decode cX7_named 30 = .ok (.iload_n 3, 1) := by decide +kernel
theorem dX7_named_31 : decode cX7_named 31 = .ok (.iadd, 1) := by decide +kernel
theorem dX7_named_32 : decode cX7_named 32 = .ok (.invokevirtual 128, 3) := by decide +kernel
theorem dX7_named_35 : decode cX7_named 35 = .ok (.aload_n 0, 1) := by decide +kernel
theorem dX7_named_36 : decode cX7_named 36 = .ok (.getfield 74, 3) := by decide +kernel
theorem dX7_named_39 : decode cX7_named 39 = .ok (.iload_n 3, 1) := by decide +kernel
theorem dX7_named_40 : decode cX7_named 40 = .ok (.iadd, 1) := by decide +kernel
theorem dX7_named_41 : decode cX7_named 41 = .ok (.aload_n 0, 1) := by decide +kernel
theorem dX7_named_42 : decode cX7_named 42 = .ok (.getfield 71, 3) := by decide +kernel
theorem dX7_named_45 : decode cX7_named 45 = .ok (.if_icmp .ge 17, 3) := by decide +kernel
theorem dX7_named_48 : decode cX7_named 48 = .ok (.aload_n 0, 1) := by decide +kernel
theorem dX7_named_49 : decode cX7_named 49 = .ok (.getfield 26, 3) := by decide +kernel
theorem dX7_named_52 : decode cX7_named 52 = .ok (.aload_n 0, 1) := by decide +kernel
theorem dX7_named_53 : decode cX7_named 53 = .ok (.getfield 74, 3) := by decide +kernel
theorem dX7_named_56 : decode cX7_named 56 = .ok (.iload_n 3, 1) := by decide +kernel
theorem dX7_named_57 : decode cX7_named 57 = .ok (.iadd, 1) := by decide +kernel
theorem dX7_named_58 : decode cX7_named 58 = .ok (.iaload, 1) := by decide +kernel
theorem dX7_named_59 : decode cX7_named 59 = .ok (.goto 4, 3) := by decide +kernel
theorem dX7_named_62 : decode cX7_named 62 = .ok (.iconst 0, 1) := by decide +kernel
theorem dX7_named_63 : decode cX7_named 63 = .ok (.if_icmp .ne 7, 3) := by decide +kernel
theorem dX7_named_66 : decode cX7_named 66 = .ok (.iconst 1, 1) := by decide +kernel
theorem dX7_named_67 : decode cX7_named 67 = .ok (.goto 4, 3) := by decide +kernel
theorem dX7_named_70 : decode cX7_named 70 = .ok (.iconst 0, 1) := by decide +kernel
theorem dX7_named_71 : decode cX7_named 71 = .ok (.istore_n 2, 1) := by decide +kernel
theorem dX7_named_72 : decode cX7_named 72 = .ok (.iinc 3 1, 3) := by decide +kernel
theorem dX7_named_75 : decode cX7_named 75 = .ok (.goto (-59), 3) := by decide +kernel
theorem dX7_named_78 : decode cX7_named 78 = .ok (.iload_n 2, 1) := by decide +kernel
theorem dX7_named_79 : decode cX7_named 79 = .ok (.ifCond .eq 5, 3) := by decide +kernel
theorem dX7_named_82 : decode cX7_named 82 = .ok (.iload_n 1, 1) := by decide +kernel
theorem dX7_named_83 : decode cX7_named 83 = .ok (.ireturn, 1) := by decide +kernel
theorem dX7_named_84 : decode cX7_named 84 = .ok (.iinc 1 1, 3) := by decide +kernel
theorem dX7_named_87 : decode cX7_named 87 = .ok (.goto (-85), 3) := by decide +kernel
theorem dX7_named_90 : decode cX7_named 90 = .ok (.iconst (-1), 1) := by decide +kernel
theorem dX7_named_91 : decode cX7_named 91 = .ok (.ireturn, 1) := by decide +kernel
set_option maxRecDepth 20000 in
theorem ggX7_readsMoon_X7_fails : GoodIn wsX7_readsMoon wsX7_fails := goodIn_r _ [10, 2, 3, 11, 135, 136, 137, 138, 139, 140, 141, 142, 143, 144, 145, 146, 147, 148, 149, 150, 151, 152, 153, 154, 155, 156, 157, 158, 159, 160, 161, 162, 163] (by decide +kernel) (by decide +kernel)
set_option maxRecDepth 20000 in
theorem gX7_readsMoon_X7_fails : GoodIn wsX7_readsMoon (wsV RX7 103 RX7 yX7_fails wsX7_fails) := goodIn_app (goodIn_of _ (by decide +kernel)) ggX7_readsMoon_X7_fails
set_option maxRecDepth 20000 in
theorem ggX7_readsMoon_X7_must : GoodIn wsX7_readsMoon wsX7_must := goodIn_r _ [15, 2, 6, 7, 8, 9, 10, 3, 11, 16, 17, 18, 19, 4, 20, 21, 22, 23, 24, 25, 26, 27, 28, 29, 30, 31, 5, 32, 33, 34, 35, 36, 37, 38, 39, 40, 41, 42, 135, 136, 137, 138, 139, 140, 141, 142, 143, 144, 145, 146, 147, 148, 149, 150, 151, 152, 153, 154, 155, 156, 157, 158, 159, 160, 161, 162, 163] (by decide +kernel) (by decide +kernel)
set_option maxRecDepth 20000 in
theorem gX7_readsMoon_X7_must : GoodIn wsX7_readsMoon (wsV RX7 124 RX7 yX7_must wsX7_must) := goodIn_app (goodIn_of _ (by decide +kernel)) ggX7_readsMoon_X7_must
set_option maxRecDepth 20000 in
theorem ggX7_readsMoon_X7_mustName : GoodIn wsX7_readsMoon wsX7_mustName := goodIn_r _ [46, 2, 22, 4, 3, 6, 7, 8, 9, 10, 11, 135, 136, 137, 138, 139, 140, 141, 142, 143, 144, 145, 146, 147, 148, 149, 150, 151, 152, 153, 154, 155, 156, 157, 158, 159, 160, 161, 162, 163] (by decide +kernel) (by decide +kernel)
set_option maxRecDepth 20000 in
theorem gX7_readsMoon_X7_mustName : GoodIn wsX7_readsMoon (wsV RX7 131 RX7 yX7_mustName wsX7_mustName) := goodIn_app (goodIn_of _ (by decide +kernel)) ggX7_readsMoon_X7_mustName
set_option maxRecDepth 20000 in
theorem ggX7_readsMoon_X7_named : GoodIn wsX7_readsMoon wsX7_named := goodIn_r _ [50, 1, 3, 4, 5, 51, 52, 53, 9, 54, 135, 136, 137, 138, 139, 140, 141, 142, 143, 144, 145, 146, 147, 148, 149, 150, 151, 152, 153, 154, 155, 156, 157, 158, 159, 160, 161, 162, 163] (by decide +kernel) (by decide +kernel)
set_option maxRecDepth 20000 in
theorem gX7_readsMoon_X7_named : GoodIn wsX7_readsMoon (wsV RX7 134 RX7 yX7_named wsX7_named) := goodIn_app (goodIn_of _ (by decide +kernel)) ggX7_readsMoon_X7_named
set_option maxRecDepth 20000 in
theorem ggX7_readsMoon_X7_puts : GoodIn wsX7_readsMoon wsX7_puts := goodIn_r _ [58, 1, 135, 136, 137, 138, 139, 140, 141, 142, 143, 144, 145, 146, 147, 148, 149, 150, 151, 152, 153, 154, 155, 156, 157, 158, 159, 160, 161, 162, 163] (by decide +kernel) (by decide +kernel)
set_option maxRecDepth 20000 in
theorem gX7_readsMoon_X7_puts : GoodIn wsX7_readsMoon (wsV RX7 137 RX7 yX7_puts wsX7_puts) := goodIn_app (goodIn_of _ (by decide +kernel)) ggX7_readsMoon_X7_puts
set_option maxRecDepth 20000 in
theorem ggX7_readsMoon_X7_goes : GoodIn wsX7_readsMoon wsX7_goes := goodIn_r _ [19, 4, 3, 20, 21, 22, 23, 24, 25, 26, 27, 28, 29, 30, 9, 31, 5, 32, 33, 34, 35, 36, 37, 38, 39, 40, 41, 42, 135, 136, 137, 138, 139, 140, 141, 142, 143, 144, 145, 146, 147, 148, 149, 150, 151, 152, 153, 154, 155, 156, 157, 158, 159, 160, 161, 162, 163] (by decide +kernel) (by decide +kernel)
set_option maxRecDepth 20000 in
theorem gX7_readsMoon_X7_goes : GoodIn wsX7_readsMoon (wsV RX7 100 RX7 yX7_goes wsX7_goes) := goodIn_app (goodIn_of _ (by decide +kernel)) ggX7_readsMoon_X7_goes
set_option maxRecDepth 20000 in
theorem ggX7_readsMoon_X7_leastOf : GoodIn wsX7_readsMoon wsX7_leastOf := goodIn_r _ [61] (by decide +kernel) (by decide +kernel)
set_option maxRecDepth 20000 in
theorem gX7_readsMoon_X7_leastOf : GoodIn wsX7_readsMoon (va_wsS RX7 141 yX7_leastOf wsX7_leastOf) := goodIn_app (goodIn_of _ (by decide +kernel)) ggX7_readsMoon_X7_leastOf
set_option maxRecDepth 20000 in
theorem ggX7_readsMoon_X7_mostOf : GoodIn wsX7_readsMoon wsX7_mostOf := goodIn_r _ [64, 65] (by decide +kernel) (by decide +kernel)
set_option maxRecDepth 20000 in
theorem gX7_readsMoon_X7_mostOf : GoodIn wsX7_readsMoon (va_wsS RX7 144 yX7_mostOf wsX7_mostOf) := goodIn_app (goodIn_of _ (by decide +kernel)) ggX7_readsMoon_X7_mostOf
set_option maxRecDepth 20000 in
theorem ggX7_readsMoon_X7_takes : GoodIn wsX7_readsMoon wsX7_takes := goodIn_r _ [69, 2, 22, 20, 70, 71, 72, 9, 73, 3, 28, 29, 30, 31, 21, 5, 16, 17, 18, 19, 4, 23, 24, 25, 26, 27, 32, 33, 34, 35, 36, 37, 38, 39, 40, 41, 42, 6, 7, 8, 10, 11, 135, 136, 137, 138, 139, 140, 141, 142, 143, 144, 145, 146, 147, 148, 149, 150, 151, 152, 153, 154, 155, 156, 157, 158, 159, 160, 161, 162, 163] (by decide +kernel) (by decide +kernel)
set_option maxRecDepth 20000 in
theorem gX7_readsMoon_X7_takes : GoodIn wsX7_readsMoon (wsV RX7 147 RX7 yX7_takes wsX7_takes) := goodIn_app (goodIn_of _ (by decide +kernel)) ggX7_readsMoon_X7_takes
set_option maxRecDepth 20000 in
theorem ggX7_readsMoon_X7_isWord : GoodIn wsX7_readsMoon wsX7_isWord := goodIn_r _ [77, 2, 22, 4, 3, 5, 78, 79, 80, 81, 82, 83, 84, 85, 86, 87, 88, 89, 90, 91, 92, 93, 94, 95, 96, 97, 98, 99, 100, 101, 102, 103, 104, 105, 106, 107, 108, 109, 110, 111, 112, 113, 114, 115, 116, 117, 118, 119, 120, 121, 122, 123, 124, 125, 126, 135, 136, 137, 138, 139, 140, 141, 142, 143, 144, 145, 146, 147, 148, 149, 150, 151, 152, 153, 154, 155, 156, 157, 158, 159, 160, 161, 162, 163] (by decide +kernel) (by decide +kernel)
set_option maxRecDepth 20000 in
theorem gX7_readsMoon_X7_isWord : GoodIn wsX7_readsMoon (wsV RX7 152 RX7 yX7_isWord wsX7_isWord) := goodIn_app (goodIn_of _ (by decide +kernel)) ggX7_readsMoon_X7_isWord
set_option maxRecDepth 20000 in
theorem ggX7_readsMoon_X7_isSign : GoodIn wsX7_readsMoon wsX7_isSign := goodIn_r _ [73, 2, 22, 3, 28, 29, 30, 9, 31, 21, 5, 135, 136, 137, 138, 139, 140, 141, 142, 143, 144, 145, 146, 147, 148, 149, 150, 151, 152, 153, 154, 155, 156, 157, 158, 159, 160, 161, 162, 163] (by decide +kernel) (by decide +kernel)
set_option maxRecDepth 20000 in
theorem gX7_readsMoon_X7_isSign : GoodIn wsX7_readsMoon (wsV RX7 120 RX7 yX7_isSign wsX7_isSign) := goodIn_app (goodIn_of _ (by decide +kernel)) ggX7_readsMoon_X7_isSign
set_option maxRecDepth 20000 in
theorem ggX7_readsMoon_X7_isMisfit : GoodIn wsX7_readsMoon wsX7_isMisfit := goodIn_r _ [130, 1, 51, 52, 53, 9, 54, 135, 136, 137, 138, 139, 140, 141, 142, 143, 144, 145, 146, 147, 148, 149, 150, 151, 152, 153, 154, 155, 156, 157, 158, 159, 160, 161, 162, 163] (by decide +kernel) (by decide +kernel)
set_option maxRecDepth 20000 in
theorem gX7_readsMoon_X7_isMisfit : GoodIn wsX7_readsMoon (wsV RX7 156 RX7 yX7_isMisfit wsX7_isMisfit) := goodIn_app (goodIn_of _ (by decide +kernel)) ggX7_readsMoon_X7_isMisfit
set_option maxRecDepth 20000 in
theorem ggX7_readsMoon_X7_mustEnd : GoodIn wsX7_readsMoon wsX7_mustEnd := goodIn_r _ [134, 70, 71, 72, 9, 73, 2, 22, 3, 28, 29, 30, 31, 21, 5, 12, 13, 14, 15, 6, 7, 8, 10, 11, 16, 17, 18, 19, 4, 20, 23, 24, 25, 26, 27, 32, 33, 34, 35, 36, 37, 38, 39, 40, 41, 42, 135, 136, 137, 138, 139, 140, 141, 142, 143, 144, 145, 146, 147, 148, 149, 150, 151, 152, 153, 154, 155, 156, 157, 158, 159, 160, 161, 162, 163] (by decide +kernel) (by decide +kernel)
set_option maxRecDepth 20000 in
theorem gX7_readsMoon_X7_mustEnd : GoodIn wsX7_readsMoon (wsV RX7 159 RX7 yX7_mustEnd wsX7_mustEnd) := goodIn_app (goodIn_of _ (by decide +kernel)) ggX7_readsMoon_X7_mustEnd
theorem dX7_readsMoon_0 : decode cX7_readsMoon 0 = .ok (.aload_n 0, 1) := by decide +kernel
theorem dX7_readsMoon_1 : decode cX7_readsMoon 1 = .ok (.getfield 7, 3) := by decide +kernel
theorem dX7_readsMoon_4 : decode cX7_readsMoon 4 = .ok (.iconst 3, 1) := by decide +kernel
theorem dX7_readsMoon_5 : decode cX7_readsMoon 5 = .ok (.iaload, 1) := by decide +kernel
theorem dX7_readsMoon_6 : decode cX7_readsMoon 6 = .ok (.istore_n 1, 1) := by decide +kernel
theorem dX7_readsMoon_7 : decode cX7_readsMoon 7 = .ok (.iload_n 1, 1) := by decide +kernel
theorem dX7_readsMoon_8 : decode cX7_readsMoon 8 = .ok (.bipush 6, 2) := by decide +kernel
theorem dX7_readsMoon_10 : decode cX7_readsMoon 10 = .ok (.if_icmp .ne 9, 3) := by decide +kernel
theorem dX7_readsMoon_13 : decode cX7_readsMoon 13 = .ok (.aload_n 0, 1) := by decide +kernel
theorem dX7_readsMoon_14 : decode cX7_readsMoon 14 = .ok (.bipush (-7), 2) := by decide +kernel
theorem dX7_readsMoon_16 : decode cX7_readsMoon 16 = .ok (.invokevirtual 103, 3) := by decide +kernel
theorem dX7_readsMoon_19 : decode cX7_readsMoon 19 = .ok (.aload_n 0, 1) := by decide +kernel
theorem dX7_readsMoon_20 : decode cX7_readsMoon 20 = .ok (.iconst 1, 1) := by decide +kernel
theorem dX7_readsMoon_21 : decode cX7_readsMoon 21 = .ok (.invokevirtual 124, 3) := by decide +kernel
theorem dX7_readsMoon_24 : decode cX7_readsMoon 24 = .ok (.aload_n 0, 1) := by decide +kernel
theorem dX7_readsMoon_25 : decode cX7_readsMoon 25 = .ok (.invokevirtual 131, 3) := by decide +kernel
theorem dX7_readsMoon_28 : decode cX7_readsMoon 28 = .ok (.aload_n 0, 1) := by decide +kernel
theorem dX7_readsMoon_29 : decode cX7_readsMoon 29 = .ok (.getfield 97, 3) := by decide +kernel
theorem dX7_readsMoon_32 : decode cX7_readsMoon 32 = .ok (.ifCond .ne 17, 3) := by decide +kernel
theorem dX7_readsMoon_35 : decode cX7_readsMoon 35 = .ok (.aload_n 0, 1) := by decide +kernel
theorem dX7_readsMoon_36 : decode cX7_readsMoon 36 = .ok (.invokevirtual 134, 3) := by decide +kernel
theorem dX7_readsMoon_39 : decode cX7_readsMoon 39 = .ok (.iconst (-1), 1) := by decide +kernel
theorem dX7_readsMoon_40 : decode cX7_readsMoon 40 = .ok (.if_icmp .eq 9, 3) := by decide +kernel
theorem dX7_readsMoon_43 : decode cX7_readsMoon 43 = .ok (.aload_n 0, 1) := by decide +kernel
theorem dX7_readsMoon_44 : decode cX7_readsMoon 44 = .ok (.bipush (-5), 2) := by decide +kernel
theorem dX7_readsMoon_46 : decode cX7_readsMoon 46 = .ok (.invokevirtual 103, 3) := by decide +kernel
theorem dX7_readsMoon_49 : decode cX7_readsMoon 49 = .ok (.aload_n 0, 1) := by decide +kernel
theorem dX7_readsMoon_50 : decode cX7_readsMoon 50 = .ok (.getfield 97, 3) := by decide +kernel
theorem dX7_readsMoon_53 : decode cX7_readsMoon 53 = .ok (.ifCond .eq 4, 3) := by decide +kernel
theorem dX7_readsMoon_56 : decode cX7_readsMoon 56 = .ok (.return_, 1) := by decide +kernel
theorem dX7_readsMoon_57 : decode cX7_readsMoon 57 = .ok (.iconst 0, 1) := by decide +kernel
theorem dX7_readsMoon_58 : decode cX7_readsMoon 58 = .ok (.istore_n 2, 1) := by decide +kernel
theorem dX7_readsMoon_59 : decode cX7_readsMoon 59 = .ok (.iload_n 2, 1) := by decide +kernel
theorem dX7_readsMoon_60 : decode cX7_readsMoon 60 = .ok (.bipush 8, 2) := by decide +kernel
theorem dX7_readsMoon_62 : decode cX7_readsMoon 62 = .ok (.if_icmp .ge 46, 3) := by decide +kernel
theorem dX7_readsMoon_65 : decode cX7_readsMoon 65 = .ok (.aload_n 0, 1) := by decide +kernel
theorem dX7_readsMoon_66 : decode cX7_readsMoon 66 = .ok (.iload_n 1, 1) := by decide +kernel
theorem dX7_readsMoon_67 : decode cX7_readsMoon 67 = .ok (.bipush 6, 2) := by decide +kernel
theorem dX7_readsMoon_69 : decode cX7_readsMoon 69 = .ok (.iload_n 2, 1) := by decide +kernel
theorem dX7_readsMoon_70 : decode cX7_readsMoon 70 = .ok (.iadd, 1) := by decide +kernel
theorem dX7_readsMoon_71 : decode cX7_readsMoon 71 = .ok (.aload_n 0, 1) := by decide +kernel
theorem dX7_readsMoon_72 : decode cX7_readsMoon 72 = .ok (.getfield 74, 3) := by decide +kernel
theorem dX7_readsMoon_75 : decode cX7_readsMoon 75 = .ok (.iload_n 2, 1) := by decide +kernel
theorem dX7_readsMoon_76 : decode cX7_readsMoon 76 = .ok (.iadd, 1) := by decide +kernel
theorem dX7_readsMoon_77 : decode cX7_readsMoon 77 = .ok (.aload_n 0, 1) := by decide +kernel
theorem dX7_readsMoon_78 : decode cX7_readsMoon 78 = .ok (.getfield 71, 3) := by decide +kernel
theorem dX7_readsMoon_81 : decode cX7_readsMoon 81 = .ok (.if_icmp .ge 17, 3) := by decide +kernel
theorem dX7_readsMoon_84 : decode cX7_readsMoon 84 = .ok (.aload_n 0, 1) := by decide +kernel
theorem dX7_readsMoon_85 : decode cX7_readsMoon 85 = .ok (.getfield 26, 3) := by decide +kernel
theorem dX7_readsMoon_88 : decode cX7_readsMoon 88 = .ok (.aload_n 0, 1) := by decide +kernel
theorem dX7_readsMoon_89 : decode cX7_readsMoon 89 = .ok (.getfield 74, 3) := by decide +kernel
theorem dX7_readsMoon_92 : decode cX7_readsMoon 92 = .ok (.iload_n 2, 1) := by decide +kernel
theorem dX7_readsMoon_93 : decode cX7_readsMoon 93 = .ok (.iadd, 1) := by decide +kernel
theorem dX7_readsMoon_94 : decode cX7_readsMoon 94 = .ok (.iaload, 1) := by decide +kernel
theorem dX7_readsMoon_95 : decode cX7_readsMoon 95 = .ok (.goto 4, 3) := by decide +kernel
theorem dX7_readsMoon_98 : decode cX7_readsMoon 98 = .ok (.iconst 0, 1) := by decide +kernel
theorem dX7_readsMoon_99 : decode cX7_readsMoon 99 = .ok (.invokevirtual 137, 3) := by decide +kernel
theorem dX7_readsMoon_102 : decode cX7_readsMoon 102 = .ok (.iinc 2 1, 3) := by decide +kernel
theorem dX7_readsMoon_105 : decode cX7_readsMoon 105 = .ok (.goto (-46), 3) := by decide +kernel
theorem dX7_readsMoon_108 : decode cX7_readsMoon 108 = .ok (.aload_n 0, 1) := by decide +kernel
theorem dX7_readsMoon_109 : decode cX7_readsMoon 109 = .ok (.invokevirtual 100, 3) := by decide +kernel
theorem dX7_readsMoon_112 : decode cX7_readsMoon 112 = .ok (.iconst 0, 1) := by decide +kernel
theorem dX7_readsMoon_113 : decode cX7_readsMoon 113 = .ok (.istore_n 2, 1) := by decide +kernel
theorem dX7_readsMoon_114 : decode cX7_readsMoon 114 = .ok (.iload_n 2, 1) := by decide +kernel
theorem dX7_readsMoon_115 : decode cX7_readsMoon 115 = .ok (.iconst 4, 1) := by decide +kernel
theorem dX7_readsMoon_116 : decode cX7_readsMoon 116 = .ok (.if_icmp .gt 27, 3) := by decide +kernel
theorem dX7_readsMoon_119 : decode cX7_readsMoon 119 = .ok (.aload_n 0, 1) := by decide +kernel
theorem dX7_readsMoon_120 : decode cX7_readsMoon 120 = .ok (.iload_n 1, 1) := by decide +kernel
theorem dX7_readsMoon_121 : decode cX7_readsMoon 121 = .ok (.iload_n 2, 1) := by decide +kernel
theorem dX7_readsMoon_122 : decode cX7_readsMoon 122 = .ok (.aload_n 0, 1) := by decide +kernel
theorem dX7_readsMoon_123 : decode cX7_readsMoon 123 = .ok (.iload_n 2, 1) := by decide +kernel
theorem dX7_readsMoon_124 : decode cX7_readsMoon 124 = .ok (.invokestatic 141, 3) := by decide +kernel
theorem dX7_readsMoon_127 : decode cX7_readsMoon 127 = .ok (.iload_n 2, 1) := by decide +kernel
theorem dX7_readsMoon_128 : decode cX7_readsMoon 128 = .ok (.invokestatic 144, 3) := by decide +kernel
theorem dX7_readsMoon_131 : decode cX7_readsMoon 131 = .ok (.invokevirtual 147, 3) := by decide +kernel
theorem dX7_readsMoon_134 : decode cX7_readsMoon 134 = .ok (.invokevirtual 137, 3) := by decide +kernel
theorem dX7_readsMoon_137 : decode cX7_readsMoon 137 = .ok (.iinc 2 1, 3) := by decide +kernel
theorem dX7_readsMoon_140 : decode cX7_readsMoon 140 = .ok (.goto (-26), 3) := by decide +kernel
theorem dX7_readsMoon_143 : decode cX7_readsMoon 143 = .ok (.aload_n 0, 1) := by decide +kernel
theorem dX7_readsMoon_144 : decode cX7_readsMoon 144 = .ok (.iload_n 1, 1) := by decide +kernel
theorem dX7_readsMoon_145 : decode cX7_readsMoon 145 = .ok (.iconst 5, 1) := by decide +kernel
theorem dX7_readsMoon_146 : decode cX7_readsMoon 146 = .ok (.iconst 1, 1) := by decide +kernel
theorem dX7_readsMoon_147 : decode cX7_readsMoon 147 = .ok (.invokevirtual 137, 3) := by decide +kernel
theorem dX7_readsMoon_150 : decode cX7_readsMoon 150 = .ok (.aload_n 0, 1) := by decide +kernel
theorem dX7_readsMoon_151 : decode cX7_readsMoon 151 = .ok (.ldc 150, 2) := by decide +kernel
theorem dX7_readsMoon_153 : decode cX7_readsMoon 153 = .ok (.invokevirtual 152, 3) := by decide +kernel
theorem dX7_readsMoon_156 : decode cX7_readsMoon 156 = .ok (.ifCond .eq 20, 3) := by decide +kernel
theorem dX7_readsMoon_159 : decode cX7_readsMoon 159 = .ok (.aload_n 0, 1) := by decide +kernel
theorem dX7_readsMoon_160 : decode cX7_readsMoon 160 = .ok (.invokevirtual 100, 3) := by decide +kernel
theorem dX7_readsMoon_163 : decode cX7_readsMoon 163 = .ok (.aload_n 0, 1) := by decide +kernel
theorem dX7_readsMoon_164 : decode cX7_readsMoon 164 = .ok (.iload_n 1, 1) := by decide +kernel
theorem dX7_readsMoon_165 : decode cX7_readsMoon 165 = .ok (.iconst 5, 1) := by decide +kernel
theorem dX7_readsMoon_166 : decode cX7_readsMoon 166 = .ok (.aload_n 0, 1) := by decide +kernel
theorem dX7_readsMoon_167 : decode cX7_readsMoon 167 = .ok (.iconst 0, 1) := by decide +kernel
theorem dX7_readsMoon_168 : decode cX7_readsMoon 168 = .ok (.bipush 99, 2) := by decide +kernel
theorem dX7_readsMoon_170 : decode cX7_readsMoon 170 = .ok (.invokevirtual 147, 3) := by decide +kernel
theorem dX7_readsMoon_173 : decode cX7_readsMoon 173 = .ok (.invokevirtual 137, 3) := by decide +kernel
theorem dX7_readsMoon_176 : decode cX7_readsMoon 176 = .ok (.aload_n 0, 1) := by decide +kernel
theorem dX7_readsMoon_177 : decode cX7_readsMoon 177 = .ok (.bipush 59, 2) := by decide +kernel
theorem dX7_readsMoon_179 : decode cX7_readsMoon 179 = .ok (.invokevirtual 120, 3) := by decide +kernel
theorem dX7_readsMoon_182 : decode cX7_readsMoon 182 = .ok (.ifCond .eq 17, 3) := by decide +kernel
theorem dX7_readsMoon_185 : decode cX7_readsMoon 185 = .ok (.aload_n 0, 1) := by decide +kernel
theorem dX7_readsMoon_186 : decode cX7_readsMoon 186 = .ok (.iload_n 1, 1) := by decide +kernel
theorem dX7_readsMoon_187 : decode cX7_readsMoon 187 = .ok (.invokevirtual 156, 3) := by decide +kernel
theorem dX7_readsMoon_190 : decode cX7_readsMoon 190 = .ok (.ifCond .eq 9, 3) := by decide +kernel
theorem dX7_readsMoon_193 : decode cX7_readsMoon 193 = .ok (.aload_n 0, 1) := by decide +kernel
theorem dX7_readsMoon_194 : decode cX7_readsMoon 194 = .ok (.bipush (-6), 2) := by decide +kernel
theorem dX7_readsMoon_196 : decode cX7_readsMoon 196 = .ok (.invokevirtual 103, 3) := by decide +kernel
theorem dX7_readsMoon_199 : decode cX7_readsMoon 199 = .ok (.aload_n 0, 1) := by decide +kernel
theorem dX7_readsMoon_200 : decode cX7_readsMoon 200 = .ok (.invokevirtual 159, 3) := by decide +kernel
theorem dX7_readsMoon_203 : decode cX7_readsMoon 203 = .ok (.aload_n 0, 1) := by decide +kernel
theorem dX7_readsMoon_204 : decode cX7_readsMoon 204 = .ok (.getfield 7, 3) := by decide +kernel
theorem dX7_readsMoon_207 : decode cX7_readsMoon 207 = .ok (.iconst 3, 1) := by decide +kernel
theorem dX7_readsMoon_208 : decode cX7_readsMoon 208 = .ok (.dup2, 1) := by decide +kernel
theorem dX7_readsMoon_209 : decode cX7_readsMoon 209 = .ok (.iaload, 1) := by decide +kernel
theorem dX7_readsMoon_210 : decode cX7_readsMoon 210 = .ok (.iconst 1, 1) := by decide +kernel
theorem dX7_readsMoon_211 : decode cX7_readsMoon 211 = .ok (.iadd, 1) := by decide +kernel
theorem dX7_readsMoon_212 : decode cX7_readsMoon 212 = .ok (.iastore, 1) := by decide +kernel
theorem dX7_readsMoon_213 : decode cX7_readsMoon 213 = .ok (.return_, 1) := by decide +kernel
theorem dX7_leastOf_0 : decode cX7_leastOf 0 = .ok (.iload_n 0, 1) := by decide +kernel
theorem dX7_leastOf_1 : decode cX7_leastOf 1 = .ok (.ifCond .ne 7, 3) := by decide +kernel
theorem dX7_leastOf_4 : decode cX7_leastOf 4 = .ok (.iconst 2, 1) := by decide +kernel
theorem dX7_leastOf_5 : decode cX7_leastOf 5 = .ok (.goto 14, 3) := by decide +kernel
theorem dX7_leastOf_8 : decode cX7_leastOf 8 = .ok (.iload_n 0, 1) := by decide +kernel
theorem dX7_leastOf_9 : decode cX7_leastOf 9 = .ok (.iconst 3, 1) := by decide +kernel
theorem dX7_leastOf_10 : decode cX7_leastOf 10 = .ok (.if_icmp .ne 8, 3) := by decide +kernel
theorem dX7_leastOf_13 : decode cX7_leastOf 13 = .ok (.bipush 8, 2) := by decide +kernel
theorem dX7_leastOf_15 : decode cX7_leastOf 15 = .ok (.goto 4, 3) := by decide +kernel
theorem dX7_leastOf_18 : decode cX7_leastOf 18 = .ok (.iconst 0, 1) := by decide +kernel
theorem dX7_leastOf_19 : decode cX7_leastOf 19 = .ok (.ireturn, 1) := by decide +kernel
theorem dX7_mostOf_0 : decode cX7_mostOf 0 = .ok (.iload_n 0, 1) := by decide +kernel
theorem dX7_mostOf_1 : decode cX7_mostOf 1 = .ok (.tableswitch 52 0 5 #[39, 43, 52, 46, 52, 49], 39) := by decide +kernel
theorem dX7_mostOf_40 : decode cX7_mostOf 40 = .ok (.sipush 9999, 3) := by decide +kernel
theorem dX7_mostOf_43 : decode cX7_mostOf 43 = .ok (.ireturn, 1) := by decide +kernel
theorem dX7_mostOf_44 : decode cX7_mostOf 44 = .ok (.bipush 60, 2) := by decide +kernel
theorem dX7_mostOf_46 : decode cX7_mostOf 46 = .ok (.ireturn, 1) := by decide +kernel
theorem dX7_mostOf_47 : decode cX7_mostOf 47 = .ok (.ldc 162, 2) := by decide +kernel
theorem dX7_mostOf_49 : decode cX7_mostOf 49 = .ok (.ireturn, 1) := by decide +kernel
theorem dX7_mostOf_50 : decode cX7_mostOf 50 = .ok (.bipush 99, 2) := by decide +kernel
theorem dX7_mostOf_52 : decode cX7_mostOf 52 = .ok (.ireturn, 1) := by decide +kernel
theorem dX7_mostOf_53 : decode cX7_mostOf 53 = .ok (.sipush 359, 3) := by decide +kernel
theorem dX7_mostOf_56 : decode cX7_mostOf 56 = .ok (.ireturn, 1) := by decide +kernel
set_option maxRecDepth 20000 in
theorem ggX7_kindHere_X7_isWord : GoodIn wsX7_kindHere wsX7_isWord := goodIn_r _ [5, 6, 7, 8, 9, 10, 11, 12, 13, 14, 15, 16, 17, 18, 19, 20, 21, 22, 23, 24, 25, 26, 27, 28, 29, 30, 31, 32, 33, 34, 35, 36, 37, 38, 39, 40, 41, 42, 43, 44, 45, 46, 47, 48, 49, 50, 51, 52, 53, 54, 55, 56, 57, 58, 59, 60, 61, 62, 63, 64, 65, 66, 67, 68, 69, 70, 71, 72, 73, 74, 75, 76, 77, 78, 79, 80, 81, 82, 83, 84, 85, 86, 87, 88] (by decide +kernel) (by decide +kernel)
set_option maxRecDepth 20000 in
theorem gX7_kindHere_X7_isWord : GoodIn wsX7_kindHere (wsV RX7 152 RX7 yX7_isWord wsX7_isWord) := goodIn_app (goodIn_of _ (by decide +kernel)) ggX7_kindHere_X7_isWord
theorem dX7_kindHere_0 : decode cX7_kindHere 0 = .ok (.aload_n 0, 1) := by decide +kernel
theorem dX7_kindHere_1 : decode cX7_kindHere 1 = .ok (.ldc 163, 2) := by decide +kernel
theorem dX7_kindHere_3 : decode cX7_kindHere 3 = .ok (.invokevirtual 152, 3) := by decide +kernel
theorem dX7_kindHere_6 : decode cX7_kindHere 6 = .ok (.ifCond .eq 7, 3) := by decide +kernel
theorem dX7_kindHere_9 : decode cX7_kindHere 9 = .ok (.iconst 0, 1) := by decide +kernel
theorem dX7_kindHere_10 : decode cX7_kindHere 10 = .ok (.goto 43, 3) := by decide +kernel
theorem dX7_kindHere_13 : decode cX7_kindHere 13 = .ok (.aload_n 0, 1) := by decide +kernel
theorem dX7_kindHere_14 : decode cX7_kindHere 14 = .ok (.ldc 165, 2) := by decide +kernel
theorem dX7_kindHere_16 : decode cX7_kindHere 16 = .ok (.invokevirtual 152, 3) := by decide +kernel
theorem dX7_kindHere_19 : decode cX7_kindHere 19 = .ok (.ifCond .eq 7, 3) := by decide +kernel
theorem dX7_kindHere_22 : decode cX7_kindHere 22 = .ok (.iconst 1, 1) := by decide +kernel
theorem dX7_kindHere_23 : decode cX7_kindHere 23 = .ok (.goto 30, 3) := by decide +kernel
theorem dX7_kindHere_26 : decode cX7_kindHere 26 = .ok (.aload_n 0, 1) := by decide +kernel
theorem dX7_kindHere_27 : decode cX7_kindHere 27 = .ok (.ldc 167, 2) := by decide +kernel
theorem dX7_kindHere_29 : decode cX7_kindHere 29 = .ok (.invokevirtual 152, 3) := by decide +kernel
theorem dX7_kindHere_32 : decode cX7_kindHere 32 = .ok (.ifCond .eq 7, 3) := by decide +kernel
theorem dX7_kindHere_35 : decode cX7_kindHere 35 = .ok (.iconst 2, 1) := by decide +kernel
theorem dX7_kindHere_36 : decode cX7_kindHere 36 = .ok (.goto 17, 3) := by decide +kernel
theorem dX7_kindHere_39 : decode cX7_kindHere 39 = .ok (.aload_n 0, 1) := by decide +kernel
theorem dX7_kindHere_40 : decode cX7_kindHere 40 = .ok (.ldc 169, 2) := by decide +kernel
theorem dX7_kindHere_42 : decode cX7_kindHere 42 = .ok (.invokevirtual 152, 3) := by decide +kernel
theorem dX7_kindHere_45 : decode cX7_kindHere 45 = .ok (.ifCond .eq 7, 3) := by decide +kernel
theorem dX7_kindHere_48 : decode cX7_kindHere 48 = .ok (.iconst 3, 1) := by decide +kernel
theorem dX7_kindHere_49 : decode cX7_kindHere 49 = .ok (.goto 4, 3) := by decide +kernel
theorem dX7_kindHere_52 : decode cX7_kindHere 52 = .ok (.iconst (-1), 1) := by decide +kernel
theorem dX7_kindHere_53 : decode cX7_kindHere 53 = .ok (.ireturn, 1) := by decide +kernel
set_option maxRecDepth 20000 in
theorem ggX7_readsSight_X7_fails : GoodIn wsX7_readsSight wsX7_fails := goodIn_r _ [10, 2, 11, 12, 129, 130, 131, 132, 133, 134, 135, 136, 137, 138, 139, 140, 141, 142, 143, 144, 145, 146, 147, 148, 149, 150, 151, 152, 153, 154, 155, 156, 157] (by decide +kernel) (by decide +kernel)
set_option maxRecDepth 20000 in
theorem gX7_readsSight_X7_fails : GoodIn wsX7_readsSight (wsV RX7 103 RX7 yX7_fails wsX7_fails) := goodIn_app (goodIn_of _ (by decide +kernel)) ggX7_readsSight_X7_fails
set_option maxRecDepth 20000 in
theorem ggX7_readsSight_X7_must : GoodIn wsX7_readsSight wsX7_must := goodIn_r _ [16, 2, 6, 7, 8, 9, 10, 11, 12, 17, 18, 19, 20, 21, 4, 22, 3, 23, 24, 25, 26, 27, 28, 29, 30, 31, 32, 33, 34, 35, 36, 37, 38, 39, 40, 41, 42, 43, 129, 130, 131, 132, 133, 134, 135, 136, 137, 138, 139, 140, 141, 142, 143, 144, 145, 146, 147, 148, 149, 150, 151, 152, 153, 154, 155, 156, 157] (by decide +kernel) (by decide +kernel)
set_option maxRecDepth 20000 in
theorem gX7_readsSight_X7_must : GoodIn wsX7_readsSight (wsV RX7 124 RX7 yX7_must wsX7_must) := goodIn_app (goodIn_of _ (by decide +kernel)) ggX7_readsSight_X7_must
set_option maxRecDepth 20000 in
theorem ggX7_readsSight_X7_mustName : GoodIn wsX7_readsSight wsX7_mustName := goodIn_r _ [47, 2, 3, 21, 11, 6, 7, 8, 9, 10, 12, 129, 130, 131, 132, 133, 134, 135, 136, 137, 138, 139, 140, 141, 142, 143, 144, 145, 146, 147, 148, 149, 150, 151, 152, 153, 154, 155, 156, 157] (by decide +kernel) (by decide +kernel)
set_option maxRecDepth 20000 in
theorem gX7_readsSight_X7_mustName : GoodIn wsX7_readsSight (wsV RX7 131 RX7 yX7_mustName wsX7_mustName) := goodIn_app (goodIn_of _ (by decide +kernel)) ggX7_readsSight_X7_mustName
set_option maxRecDepth 20000 in
theorem ggX7_readsSight_X7_named : GoodIn wsX7_readsSight wsX7_named := goodIn_r _ [51, 1, 11, 21, 32, 52, 53, 54, 9, 55, 129, 130, 131, 132, 133, 134, 135, 136, 137, 138, 139, 140, 141, 142, 143, 144, 145, 146, 147, 148, 149, 150, 151, 152, 153, 154, 155, 156, 157] (by decide +kernel) (by decide +kernel)
set_option maxRecDepth 20000 in
theorem gX7_readsSight_X7_named : GoodIn wsX7_readsSight (wsV RX7 134 RX7 yX7_named wsX7_named) := goodIn_app (goodIn_of _ (by decide +kernel)) ggX7_readsSight_X7_named
set_option maxRecDepth 20000 in
theorem ggX7_readsSight_X7_kindHere : GoodIn wsX7_readsSight wsX7_kindHere := goodIn_r _ [59, 60, 61, 62, 9, 63, 2, 3, 21, 11, 32, 64, 65, 66, 67, 68, 69, 70, 71, 72, 73, 74, 75, 76, 77, 78, 79, 80, 81, 82, 83, 84, 85, 86, 87, 88, 89, 90, 91, 92, 93, 94, 95, 96, 97, 98, 99, 100, 101, 102, 103, 104, 105, 106, 107, 108, 109, 110, 111, 112, 129, 130, 131, 132, 133, 134, 135, 136, 137, 138, 139, 140, 141, 142, 143, 144, 145, 146, 147, 148, 149, 150, 151, 152, 153, 154, 155, 156, 157] (by decide +kernel) (by decide +kernel)
set_option maxRecDepth 20000 in
theorem gX7_readsSight_X7_kindHere : GoodIn wsX7_readsSight (wsV RX7 171 RX7 yX7_kindHere wsX7_kindHere) := goodIn_app (goodIn_of _ (by decide +kernel)) ggX7_readsSight_X7_kindHere
set_option maxRecDepth 20000 in
theorem ggX7_readsSight_X7_isIn : GoodIn wsX7_readsSight wsX7_isIn := goodIn_r _ [39] (by decide +kernel) (by decide +kernel)
set_option maxRecDepth 20000 in
theorem gX7_readsSight_X7_isIn : GoodIn wsX7_readsSight (va_wsS RX7 52 yX7_isIn wsX7_isIn) := goodIn_app (goodIn_of _ (by decide +kernel)) ggX7_readsSight_X7_isIn
set_option maxRecDepth 20000 in
theorem ggX7_readsSight_X7_sightOf : GoodIn wsX7_readsSight wsX7_sightOf := goodIn_r _ [116, 1, 117, 118, 119, 9, 120, 129, 130, 131, 132, 133, 134, 135, 136, 137, 138, 139, 140, 141, 142, 143, 144, 145, 146, 147, 148, 149, 150, 151, 152, 153, 154, 155, 156, 157] (by decide +kernel) (by decide +kernel)
set_option maxRecDepth 20000 in
theorem gX7_readsSight_X7_sightOf : GoodIn wsX7_readsSight (wsV RX7 175 RX7 yX7_sightOf wsX7_sightOf) := goodIn_app (goodIn_of _ (by decide +kernel)) ggX7_readsSight_X7_sightOf
set_option maxRecDepth 20000 in
theorem ggX7_readsSight_X7_goes : GoodIn wsX7_readsSight wsX7_goes := goodIn_r _ [20, 21, 11, 4, 22, 3, 23, 24, 25, 26, 27, 28, 29, 30, 9, 31, 32, 33, 34, 35, 36, 37, 38, 39, 40, 41, 42, 43, 129, 130, 131, 132, 133, 134, 135, 136, 137, 138, 139, 140, 141, 142, 143, 144, 145, 146, 147, 148, 149, 150, 151, 152, 153, 154, 155, 156, 157] (by decide +kernel) (by decide +kernel)
set_option maxRecDepth 20000 in
theorem gX7_readsSight_X7_goes : GoodIn wsX7_readsSight (wsV RX7 100 RX7 yX7_goes wsX7_goes) := goodIn_app (goodIn_of _ (by decide +kernel)) ggX7_readsSight_X7_goes
set_option maxRecDepth 20000 in
theorem ggX7_readsSight_X7_mustEnd : GoodIn wsX7_readsSight wsX7_mustEnd := goodIn_r _ [124, 125, 126, 127, 9, 128, 2, 3, 11, 28, 29, 30, 31, 22, 32, 13, 14, 15, 16, 6, 7, 8, 10, 12, 17, 18, 19, 20, 21, 4, 23, 24, 25, 26, 27, 33, 34, 35, 36, 37, 38, 39, 40, 41, 42, 43, 129, 130, 131, 132, 133, 134, 135, 136, 137, 138, 139, 140, 141, 142, 143, 144, 145, 146, 147, 148, 149, 150, 151, 152, 153, 154, 155, 156, 157] (by decide +kernel) (by decide +kernel)
set_option maxRecDepth 20000 in
theorem gX7_readsSight_X7_mustEnd : GoodIn wsX7_readsSight (wsV RX7 159 RX7 yX7_mustEnd wsX7_mustEnd) := goodIn_app (goodIn_of _ (by decide +kernel)) ggX7_readsSight_X7_mustEnd
theorem dX7_readsSight_0 : decode cX7_readsSight 0 = .ok (.bipush 89, 2) := by decide +kernel
theorem dX7_readsSight_2 : decode cX7_readsSight 2 = .ok (.iconst 3, 1) := by decide +kernel
theorem dX7_readsSight_3 : decode cX7_readsSight 3 = .ok (.aload_n 0, 1) := by decide +kernel
theorem dX7_readsSight_4 : decode cX7_readsSight 4 = .ok (.getfield 7, 3) := by decide +kernel
theorem dX7_readsSight_7 : decode cX7_readsSight 7 = .ok (.iconst 4, 1) := by decide +kernel
theorem dX7_readsSight_8 : decode cX7_readsSight 8 = .ok (.iaload, 1) := by decide +kernel
theorem dX7_readsSight_9 : decode cX7_readsSight 9 = .ok (.imul, 1) := by decide +kernel
theorem dX7_readsSight_10 : decode cX7_readsSight 10 = .ok (.iadd, 1) := by decide +kernel
theorem dX7_readsSight_11 : decode cX7_readsSight 11 = .ok (.istore_n 1, 1) := by decide +kernel
theorem dX7_readsSight_12 : decode cX7_readsSight 12 = .ok (.aload_n 0, 1) := by decide +kernel
theorem dX7_readsSight_13 : decode cX7_readsSight 13 = .ok (.getfield 7, 3) := by decide +kernel
theorem dX7_readsSight_16 : decode cX7_readsSight 16 = .ok (.iconst 4, 1) := by decide +kernel
theorem dX7_readsSight_17 : decode cX7_readsSight 17 = .ok (.iaload, 1) := by decide +kernel
theorem dX7_readsSight_18 : decode cX7_readsSight 18 = .ok (.bipush 30, 2) := by decide +kernel
theorem dX7_readsSight_20 : decode cX7_readsSight 20 = .ok (.if_icmp .ne 9, 3) := by decide +kernel
theorem dX7_readsSight_23 : decode cX7_readsSight 23 = .ok (.aload_n 0, 1) := by decide +kernel
theorem dX7_readsSight_24 : decode cX7_readsSight 24 = .ok (.bipush (-7), 2) := by decide +kernel
theorem dX7_readsSight_26 : decode cX7_readsSight 26 = .ok (.invokevirtual 103, 3) := by decide +kernel
theorem dX7_readsSight_29 : decode cX7_readsSight 29 = .ok (.aload_n 0, 1) := by decide +kernel
theorem dX7_readsSight_30 : decode cX7_readsSight 30 = .ok (.iconst 1, 1) := by decide +kernel
theorem dX7_readsSight_31 : decode cX7_readsSight 31 = .ok (.invokevirtual 124, 3) := by decide +kernel
theorem dX7_readsSight_34 : decode cX7_readsSight 34 = .ok (.aload_n 0, 1) := by decide +kernel
theorem dX7_readsSight_35 : decode cX7_readsSight 35 = .ok (.invokevirtual 131, 3) := by decide +kernel
theorem dX7_readsSight_38 : decode cX7_readsSight 38 = .ok (.aload_n 0, 1) := by decide +kernel
theorem dX7_readsSight_39 : decode cX7_readsSight 39 = .ok (.getfield 97, 3) := by decide +kernel
theorem dX7_readsSight_42 : decode cX7_readsSight 42 = .ok (.ifCond .ne 10, 3) := by decide +kernel
theorem dX7_readsSight_45 : decode cX7_readsSight 45 = .ok (.aload_n 0, 1) := by decide +kernel
theorem dX7_readsSight_46 : decode cX7_readsSight 46 = .ok (.invokevirtual 134, 3) := by decide +kernel
theorem dX7_readsSight_49 : decode cX7_readsSight 49 = .ok (.goto 4, 3) := by decide +kernel
theorem dX7_readsSight_52 : decode cX7_readsSight 52 = .ok (.iconst (-1), 1) := by decide +kernel
theorem dX7_readsSight_53 : decode cX7_readsSight 53 = .ok (.istore_n 2, 1) := by decide +kernel
theorem dX7_readsSight_54 : decode cX7_readsSight 54 = .ok (.iload_n 2, 1) := by decide +kernel
theorem dX7_readsSight_55 : decode cX7_readsSight 55 = .ok (.iconst (-1), 1) := by decide +kernel
theorem dX7_readsSight_56 : decode cX7_readsSight 56 = .ok (.if_icmp .ne 9, 3) := by decide +kernel
theorem dX7_readsSight_59 : decode cX7_readsSight 59 = .ok (.aload_n 0, 1) := by decide +kernel
theorem dX7_readsSight_60 : decode cX7_readsSight 60 = .ok (.bipush (-4), 2) := by decide +kernel
theorem dX7_readsSight_62 : decode cX7_readsSight 62 = .ok (.invokevirtual 103, 3) := by decide +kernel
theorem dX7_readsSight_65 : decode cX7_readsSight 65 = .ok (.aload_n 0, 1) := by decide +kernel
theorem dX7_readsSight_66 : decode cX7_readsSight 66 = .ok (.iconst 1, 1) := by decide +kernel
theorem dX7_readsSight_67 : decode cX7_readsSight 67 = .ok (.invokevirtual 124, 3) := by decide +kernel
theorem dX7_readsSight_70 : decode cX7_readsSight 70 = .ok (.aload_n 0, 1) := by decide +kernel
theorem dX7_readsSight_71 : decode cX7_readsSight 71 = .ok (.invokevirtual 171, 3) := by decide +kernel
theorem dX7_readsSight_74 : decode cX7_readsSight 74 = .ok (.istore_n 3, 1) := by decide +kernel
theorem dX7_readsSight_75 : decode cX7_readsSight 75 = .ok (.aload_n 0, 1) := by decide +kernel
theorem dX7_readsSight_76 : decode cX7_readsSight 76 = .ok (.iload_n 3, 1) := by decide +kernel
theorem dX7_readsSight_77 : decode cX7_readsSight 77 = .ok (.iconst (-1), 1) := by decide +kernel
theorem dX7_readsSight_78 : decode cX7_readsSight 78 = .ok (.if_icmp .eq 7, 3) := by decide +kernel
theorem dX7_readsSight_81 : decode cX7_readsSight 81 = .ok (.iconst 1, 1) := by decide +kernel
theorem dX7_readsSight_82 : decode cX7_readsSight 82 = .ok (.goto 4, 3) := by decide +kernel
theorem dX7_readsSight_85 : decode cX7_readsSight 85 = .ok (.iconst 0, 1) := by decide +kernel
theorem dX7_readsSight_86 : decode cX7_readsSight 86 = .ok (.invokevirtual 124, 3) := by decide +kernel
theorem dX7_readsSight_89 : decode cX7_readsSight 89 = .ok (.aload_n 0, 1) := by decide +kernel
theorem dX7_readsSight_90 : decode cX7_readsSight 90 = .ok (.getfield 97, 3) := by decide +kernel
theorem dX7_readsSight_93 : decode cX7_readsSight 93 = .ok (.ifCond .ne 17, 3) := by decide +kernel
theorem dX7_readsSight_96 : decode cX7_readsSight 96 = .ok (.aload_n 0, 1) := by decide +kernel
theorem dX7_readsSight_97 : decode cX7_readsSight 97 = .ok (.getfield 80, 3) := by decide +kernel
theorem dX7_readsSight_100 : decode cX7_readsSight 100 = .ok (.iconst 1, 1) := by decide +kernel
theorem dX7_readsSight_101 : decode cX7_readsSight 101 = .ok (.if_icmp .eq 9, 3) := by decide +kernel
theorem dX7_readsSight_104 : decode cX7_readsSight 104 = .ok (.aload_n 0, 1) := by decide +kernel
theorem dX7_readsSight_105 : decode cX7_readsSight 105 = .ok (.bipush (-2), 2) := by decide +kernel
theorem dX7_readsSight_107 : decode cX7_readsSight 107 = .ok (.invokevirtual 103, 3) := by decide +kernel
theorem dX7_readsSight_110 : decode cX7_readsSight 110 = .ok (.aload_n 0, 1) := by decide +kernel
theorem dX7_readsSight_111 : decode cX7_readsSight 111 = .ok (.getfield 97, 3) := by decide +kernel
theorem dX7_readsSight_114 : decode cX7_readsSight 114 = .ok (.ifCond .ne 22, 3) := by decide +kernel
theorem dX7_readsSight_117 : decode cX7_readsSight 117 = .ok (.aload_n 0, 1) := by decide +kernel
theorem dX7_readsSight_118 : decode cX7_readsSight 118 = .ok (.getfield 77, 3) := by decide +kernel
theorem dX7_readsSight_121 : decode cX7_readsSight 121 = .ok (.iconst 1, 1) := by decide +kernel
theorem dX7_readsSight_122 : decode cX7_readsSight 122 = .ok (.ldc 174, 2) := by decide +kernel
theorem dX7_readsSight_124 : decode cX7_readsSight 124 = .ok (.invokestatic 52, 3) := by decide +kernel
theorem dX7_readsSight_127 : decode cX7_readsSight 127 = .ok (.ifCond .ne 9, 3) := by decide +kernel
theorem dX7_readsSight_130 : decode cX7_readsSight 130 = .ok (.aload_n 0, 1) := by decide +kernel
theorem dX7_readsSight_131 : decode cX7_readsSight 131 = .ok (.bipush (-3), 2) := by decide +kernel
theorem dX7_readsSight_133 : decode cX7_readsSight 133 = .ok (.invokevirtual 103, 3) := by decide +kernel
theorem dX7_readsSight_136 : decode cX7_readsSight 136 = .ok (.aload_n 0, 1) := by decide +kernel
theorem dX7_readsSight_137 : decode cX7_readsSight 137 = .ok (.getfield 97, 3) := by decide +kernel
theorem dX7_readsSight_140 : decode cX7_readsSight 140 = .ok (.ifCond .ne 23, 3) := by decide +kernel
theorem dX7_readsSight_143 : decode cX7_readsSight 143 = .ok (.aload_n 0, 1) := by decide +kernel
theorem dX7_readsSight_144 : decode cX7_readsSight 144 = .ok (.iload_n 2, 1) := by decide +kernel
theorem dX7_readsSight_145 : decode cX7_readsSight 145 = .ok (.iload_n 3, 1) := by decide +kernel
theorem dX7_readsSight_146 : decode cX7_readsSight 146 = .ok (.aload_n 0, 1) := by decide +kernel
theorem dX7_readsSight_147 : decode cX7_readsSight 147 = .ok (.getfield 77, 3) := by decide +kernel
theorem dX7_readsSight_150 : decode cX7_readsSight 150 = .ok (.invokevirtual 175, 3) := by decide +kernel
theorem dX7_readsSight_153 : decode cX7_readsSight 153 = .ok (.iconst (-1), 1) := by decide +kernel
theorem dX7_readsSight_154 : decode cX7_readsSight 154 = .ok (.if_icmp .eq 9, 3) := by decide +kernel
theorem dX7_readsSight_157 : decode cX7_readsSight 157 = .ok (.aload_n 0, 1) := by decide +kernel
theorem dX7_readsSight_158 : decode cX7_readsSight 158 = .ok (.bipush (-5), 2) := by decide +kernel
theorem dX7_readsSight_160 : decode cX7_readsSight 160 = .ok (.invokevirtual 103, 3) := by decide +kernel
theorem dX7_readsSight_163 : decode cX7_readsSight 163 = .ok (.aload_n 0, 1) := by decide +kernel
theorem dX7_readsSight_164 : decode cX7_readsSight 164 = .ok (.getfield 97, 3) := by decide +kernel
theorem dX7_readsSight_167 : decode cX7_readsSight 167 = .ok (.ifCond .eq 4, 3) := by decide +kernel
theorem dX7_readsSight_170 : decode cX7_readsSight 170 = .ok (.return_, 1) := by decide +kernel
theorem dX7_readsSight_171 : decode cX7_readsSight 171 = .ok (.aload_n 0, 1) := by decide +kernel
theorem dX7_readsSight_172 : decode cX7_readsSight 172 = .ok (.getfield 7, 3) := by decide +kernel
theorem dX7_readsSight_175 : decode cX7_readsSight 175 = .ok (.iload_n 1, 1) := by decide +kernel
theorem dX7_readsSight_176 : decode cX7_readsSight 176 = .ok (.iload_n 2, 1) := by decide +kernel
theorem dX7_readsSight_177 : decode cX7_readsSight 177 = .ok (.iastore, 1) := by decide +kernel
theorem dX7_readsSight_178 : decode cX7_readsSight 178 = .ok (.aload_n 0, 1) := by decide +kernel
theorem dX7_readsSight_179 : decode cX7_readsSight 179 = .ok (.getfield 7, 3) := by decide +kernel
theorem dX7_readsSight_182 : decode cX7_readsSight 182 = .ok (.iload_n 1, 1) := by decide +kernel
theorem dX7_readsSight_183 : decode cX7_readsSight 183 = .ok (.iconst 1, 1) := by decide +kernel
theorem dX7_readsSight_184 : decode cX7_readsSight 184 = .ok (.iadd, 1) := by decide +kernel
theorem dX7_readsSight_185 : decode cX7_readsSight 185 = .ok (.iload_n 3, 1) := by decide +kernel
theorem dX7_readsSight_186 : decode cX7_readsSight 186 = .ok (.iastore, 1) := by decide +kernel
theorem dX7_readsSight_187 : decode cX7_readsSight 187 = .ok (.aload_n 0, 1) := by decide +kernel
theorem dX7_readsSight_188 : decode cX7_readsSight 188 = .ok (.getfield 7, 3) := by decide +kernel
theorem dX7_readsSight_191 : decode cX7_readsSight 191 = .ok (.iload_n 1, 1) := by decide +kernel
theorem dX7_readsSight_192 : decode cX7_readsSight 192 = .ok (.iconst 2, 1) := by decide +kernel
theorem dX7_readsSight_193 : decode cX7_readsSight 193 = .ok (.iadd, 1) := by decide +kernel
theorem dX7_readsSight_194 : decode cX7_readsSight 194 = .ok (.aload_n 0, 1) := by decide +kernel
theorem dX7_readsSight_195 : decode cX7_readsSight 195 = .ok (.getfield 77, 3) := by decide +kernel
theorem dX7_readsSight_198 : decode cX7_readsSight 198 = .ok (.iastore, 1) := by decide +kernel
theorem dX7_readsSight_199 : decode cX7_readsSight 199 = .ok (.aload_n 0, 1) := by decide +kernel
theorem dX7_readsSight_200 : decode cX7_readsSight 200 = .ok (.invokevirtual 100, 3) := by decide +kernel
theorem dX7_readsSight_203 : decode cX7_readsSight 203 = .ok (.aload_n 0, 1) := by decide +kernel
theorem dX7_readsSight_204 : decode cX7_readsSight 204 = .ok (.invokevirtual 159, 3) := by decide +kernel
theorem dX7_readsSight_207 : decode cX7_readsSight 207 = .ok (.aload_n 0, 1) := by decide +kernel
theorem dX7_readsSight_208 : decode cX7_readsSight 208 = .ok (.getfield 7, 3) := by decide +kernel
theorem dX7_readsSight_211 : decode cX7_readsSight 211 = .ok (.iconst 4, 1) := by decide +kernel
theorem dX7_readsSight_212 : decode cX7_readsSight 212 = .ok (.dup2, 1) := by decide +kernel
theorem dX7_readsSight_213 : decode cX7_readsSight 213 = .ok (.iaload, 1) := by decide +kernel
theorem dX7_readsSight_214 : decode cX7_readsSight 214 = .ok (.iconst 1, 1) := by decide +kernel
theorem dX7_readsSight_215 : decode cX7_readsSight 215 = .ok (.iadd, 1) := by decide +kernel
theorem dX7_readsSight_216 : decode cX7_readsSight 216 = .ok (.iastore, 1) := by decide +kernel
theorem dX7_readsSight_217 : decode cX7_readsSight 217 = .ok (.return_, 1) := by decide +kernel
set_option maxRecDepth 20000 in
theorem ggX7_load_X7_starts : GoodIn wsX7_load wsX7_starts := goodIn_r _ [7, 8, 9, 2, 10, 1, 11, 12, 6, 13, 14, 15, 16, 17, 18, 19, 20, 21, 22, 23, 24, 25, 26, 27, 28, 29, 30, 31, 32, 33, 34, 35, 36, 37, 38, 39, 40, 41, 42, 180, 181, 182, 183, 184, 185, 186, 187, 188, 189, 190, 191, 192, 193, 194, 195, 196, 197, 198, 199, 200, 201, 202, 203, 204, 205, 206, 207, 208] (by decide +kernel) (by decide +kernel)
set_option maxRecDepth 20000 in
theorem gX7_load_X7_starts : GoodIn wsX7_load (wsV RX7 179 RX7 yX7_starts wsX7_starts) := goodIn_app (goodIn_of _ (by decide +kernel)) ggX7_load_X7_starts
set_option maxRecDepth 20000 in
theorem ggX7_load_X7_begins : GoodIn wsX7_load wsX7_begins := goodIn_r _ [46, 1, 180, 181, 182, 183, 184, 185, 186, 187, 188, 189, 190, 191, 192, 193, 194, 195, 196, 197, 198, 199, 200, 201, 202, 203, 204, 205, 206, 207, 208] (by decide +kernel) (by decide +kernel)
set_option maxRecDepth 20000 in
theorem gX7_load_X7_begins : GoodIn wsX7_load (wsV RX7 39 RX7 yX7_begins wsX7_begins) := goodIn_app (goodIn_of _ (by decide +kernel)) ggX7_load_X7_begins
set_option maxRecDepth 20000 in
theorem ggX7_load_X7_isWord : GoodIn wsX7_load wsX7_isWord := goodIn_r _ [50, 2, 21, 9, 18, 31, 51, 52, 53, 54, 55, 56, 57, 58, 59, 60, 61, 62, 63, 64, 65, 66, 67, 68, 69, 70, 71, 72, 73, 74, 75, 76, 77, 78, 79, 80, 81, 82, 83, 84, 85, 86, 87, 88, 89, 90, 91, 92, 93, 94, 95, 96, 97, 98, 99, 180, 181, 182, 183, 184, 185, 186, 187, 188, 189, 190, 191, 192, 193, 194, 195, 196, 197, 198, 199, 200, 201, 202, 203, 204, 205, 206, 207, 208] (by decide +kernel) (by decide +kernel)
set_option maxRecDepth 20000 in
theorem gX7_load_X7_isWord : GoodIn wsX7_load (wsV RX7 152 RX7 yX7_isWord wsX7_isWord) := goodIn_app (goodIn_of _ (by decide +kernel)) ggX7_load_X7_isWord
set_option maxRecDepth 20000 in
theorem ggX7_load_X7_must : GoodIn wsX7_load wsX7_must := goodIn_r _ [103, 2, 104, 105, 106, 6, 107, 18, 108, 14, 15, 16, 17, 9, 19, 20, 21, 22, 23, 24, 25, 26, 27, 28, 29, 30, 31, 32, 33, 34, 35, 36, 37, 38, 39, 40, 41, 42, 180, 181, 182, 183, 184, 185, 186, 187, 188, 189, 190, 191, 192, 193, 194, 195, 196, 197, 198, 199, 200, 201, 202, 203, 204, 205, 206, 207, 208] (by decide +kernel) (by decide +kernel)
set_option maxRecDepth 20000 in
theorem gX7_load_X7_must : GoodIn wsX7_load (wsV RX7 124 RX7 yX7_must wsX7_must) := goodIn_app (goodIn_of _ (by decide +kernel)) ggX7_load_X7_must
set_option maxRecDepth 20000 in
theorem ggX7_load_X7_takes : GoodIn wsX7_load wsX7_takes := goodIn_r _ [112, 2, 21, 19, 113, 114, 115, 6, 116, 18, 27, 28, 29, 30, 20, 31, 14, 15, 16, 17, 9, 22, 23, 24, 25, 26, 32, 33, 34, 35, 36, 37, 38, 39, 40, 41, 42, 104, 105, 106, 107, 108, 180, 181, 182, 183, 184, 185, 186, 187, 188, 189, 190, 191, 192, 193, 194, 195, 196, 197, 198, 199, 200, 201, 202, 203, 204, 205, 206, 207, 208] (by decide +kernel) (by decide +kernel)
set_option maxRecDepth 20000 in
theorem gX7_load_X7_takes : GoodIn wsX7_load (wsV RX7 147 RX7 yX7_takes wsX7_takes) := goodIn_app (goodIn_of _ (by decide +kernel)) ggX7_load_X7_takes
set_option maxRecDepth 20000 in
theorem ggX7_load_X7_mustEnd : GoodIn wsX7_load wsX7_mustEnd := goodIn_r _ [120, 113, 114, 115, 6, 116, 2, 21, 18, 27, 28, 29, 30, 20, 31, 100, 101, 102, 103, 104, 105, 106, 107, 108, 14, 15, 16, 17, 9, 19, 22, 23, 24, 25, 26, 32, 33, 34, 35, 36, 37, 38, 39, 40, 41, 42, 180, 181, 182, 183, 184, 185, 186, 187, 188, 189, 190, 191, 192, 193, 194, 195, 196, 197, 198, 199, 200, 201, 202, 203, 204, 205, 206, 207, 208] (by decide +kernel) (by decide +kernel)
set_option maxRecDepth 20000 in
theorem gX7_load_X7_mustEnd : GoodIn wsX7_load (wsV RX7 159 RX7 yX7_mustEnd wsX7_mustEnd) := goodIn_app (goodIn_of _ (by decide +kernel)) ggX7_load_X7_mustEnd
set_option maxRecDepth 20000 in
theorem ggX7_load_X7_goes : GoodIn wsX7_load wsX7_goes := goodIn_r _ [17, 9, 18, 19, 20, 21, 22, 23, 24, 25, 26, 27, 28, 29, 6, 30, 31, 32, 33, 34, 35, 36, 37, 38, 39, 40, 41, 42, 180, 181, 182, 183, 184, 185, 186, 187, 188, 189, 190, 191, 192, 193, 194, 195, 196, 197, 198, 199, 200, 201, 202, 203, 204, 205, 206, 207, 208] (by decide +kernel) (by decide +kernel)
set_option maxRecDepth 20000 in
theorem gX7_load_X7_goes : GoodIn wsX7_load (wsV RX7 100 RX7 yX7_goes wsX7_goes) := goodIn_app (goodIn_of _ (by decide +kernel)) ggX7_load_X7_goes
set_option maxRecDepth 20000 in
theorem ggX7_load_X7_readsMoon : GoodIn wsX7_load wsX7_readsMoon := goodIn_r _ [124, 1, 2, 18, 9, 31, 104, 105, 106, 6, 107, 108, 100, 101, 102, 103, 14, 15, 16, 17, 19, 20, 21, 22, 23, 24, 25, 26, 27, 28, 29, 30, 32, 33, 34, 35, 36, 37, 38, 39, 40, 41, 42, 125, 126, 127, 128, 129, 130, 131, 132, 133, 134, 135, 136, 137, 138, 139, 140, 141, 142, 143, 144, 145, 146, 147, 109, 110, 111, 112, 113, 114, 115, 116, 47, 48, 49, 50, 51, 52, 53, 54, 55, 56, 57, 58, 59, 60, 61, 62, 63, 64, 65, 66, 67, 68, 69, 70, 71, 72, 73, 74, 75, 76, 77, 78, 79, 80, 81, 82, 83, 84, 85, 86, 87, 88, 89, 90, 91, 92, 93, 94, 95, 96, 97, 98, 99, 148, 149, 150, 151, 117, 118, 119, 120, 180, 181, 182, 183, 184, 185, 186, 187, 188, 189, 190, 191, 192, 193, 194, 195, 196, 197, 198, 199, 200, 201, 202, 203, 204, 205, 206, 207, 208] (by decide +kernel) (by decide +kernel)
set_option maxRecDepth 20000 in
theorem gX7_load_X7_readsMoon : GoodIn wsX7_load (wsV RX7 188 RX7 yX7_readsMoon wsX7_readsMoon) := goodIn_app (goodIn_of _ (by decide +kernel)) ggX7_load_X7_readsMoon
set_option maxRecDepth 20000 in
theorem ggX7_load_X7_readsSight : GoodIn wsX7_load wsX7_readsSight := goodIn_r _ [155, 1, 2, 21, 19, 156, 104, 105, 106, 6, 107, 18, 108, 100, 101, 102, 103, 14, 15, 16, 17, 9, 20, 22, 23, 24, 25, 26, 27, 28, 29, 30, 31, 32, 33, 34, 35, 36, 37, 38, 39, 40, 41, 42, 125, 126, 127, 128, 129, 130, 131, 132, 133, 134, 135, 136, 157, 158, 159, 160, 47, 48, 49, 50, 51, 52, 53, 54, 55, 56, 57, 58, 59, 60, 61, 62, 63, 64, 65, 66, 67, 68, 69, 70, 71, 72, 73, 74, 75, 76, 77, 78, 79, 80, 81, 82, 83, 84, 85, 86, 87, 88, 89, 90, 91, 92, 93, 94, 95, 96, 97, 98, 99, 161, 162, 163, 164, 165, 166, 167, 168, 117, 118, 119, 120, 113, 114, 115, 116, 180, 181, 182, 183, 184, 185, 186, 187, 188, 189, 190, 191, 192, 193, 194, 195, 196, 197, 198, 199, 200, 201, 202, 203, 204, 205, 206, 207, 208] (by decide +kernel) (by decide +kernel)
set_option maxRecDepth 20000 in
theorem gX7_load_X7_readsSight : GoodIn wsX7_load (wsV RX7 193 RX7 yX7_readsSight wsX7_readsSight) := goodIn_app (goodIn_of _ (by decide +kernel)) ggX7_load_X7_readsSight
set_option maxRecDepth 20000 in
theorem ggX7_load_X7_ends : GoodIn wsX7_load wsX7_ends := goodIn_r _ [172, 2, 21, 108, 173, 20, 10, 1, 104, 105, 106, 6, 107, 18, 174, 175, 176, 177, 178, 179, 11, 12, 13, 180, 181, 182, 183, 184, 185, 186, 187, 188, 189, 190, 191, 192, 193, 194, 195, 196, 197, 198, 199, 200, 201, 202, 203, 204, 205, 206, 207, 208] (by decide +kernel) (by decide +kernel)
set_option maxRecDepth 20000 in
theorem gX7_load_X7_ends : GoodIn wsX7_load (wsV RX7 196 RX7 yX7_ends wsX7_ends) := goodIn_app (goodIn_of _ (by decide +kernel)) ggX7_load_X7_ends
theorem dX7_load_0 : decode cX7_load 0 = .ok (.aload_n 0, 1) := by decide +kernel
theorem dX7_load_1 : decode cX7_load 1 = .ok (.invokevirtual 179, 3) := by decide +kernel
theorem dX7_load_4 : decode cX7_load 4 = .ok (.aload_n 0, 1) := by decide +kernel
theorem dX7_load_5 : decode cX7_load 5 = .ok (.invokevirtual 39, 3) := by decide +kernel
theorem dX7_load_8 : decode cX7_load 8 = .ok (.aload_n 0, 1) := by decide +kernel
theorem dX7_load_9 : decode cX7_load 9 = .ok (.aload_n 0, 1) := by decide +kernel
theorem dX7_load_10 : decode cX7_load 10 = .ok (.ldc 182, 2) := by decide +kernel
theorem dX7_load_12 : decode cX7_load 12 = .ok (.invokevirtual 152, 3) := by decide +kernel
theorem dX7_load_15 : decode cX7_load 15 = .ok (.invokevirtual 124, 3) := by decide +kernel
theorem dX7_load_18 : decode cX7_load 18 = .ok (.aload_n 0, 1) := by decide +kernel
theorem dX7_load_19 : decode cX7_load 19 = .ok (.getfield 7, 3) := by decide +kernel
theorem dX7_load_22 : decode cX7_load 22 = .ok (.iconst 0, 1) := by decide +kernel
theorem dX7_load_23 : decode cX7_load 23 = .ok (.aload_n 0, 1) := by decide +kernel
theorem dX7_load_24 : decode cX7_load 24 = .ok (.iconst 1, 1) := by decide +kernel
theorem dX7_load_25 : decode cX7_load 25 = .ok (.sipush 999, 3) := by decide +kernel
theorem dX7_load_28 : decode cX7_load 28 = .ok (.invokevirtual 147, 3) := by decide +kernel
theorem dX7_load_31 : decode cX7_load 31 = .ok (.iastore, 1) := by decide +kernel
theorem dX7_load_32 : decode cX7_load 32 = .ok (.aload_n 0, 1) := by decide +kernel
theorem dX7_load_33 : decode cX7_load 33 = .ok (.invokevirtual 159, 3) := by decide +kernel
theorem dX7_load_36 : decode cX7_load 36 = .ok (.aload_n 0, 1) := by decide +kernel
theorem dX7_load_37 : decode cX7_load 37 = .ok (.ldc 184, 2) := by decide +kernel
theorem dX7_load_39 : decode cX7_load 39 = .ok (.invokevirtual 152, 3) := by decide +kernel
theorem dX7_load_42 : decode cX7_load 42 = .ok (.ifCond .eq 41, 3) := by decide +kernel
theorem dX7_load_45 : decode cX7_load 45 = .ok (.aload_n 0, 1) := by decide +kernel
theorem dX7_load_46 : decode cX7_load 46 = .ok (.invokevirtual 100, 3) := by decide +kernel
theorem dX7_load_49 : decode cX7_load 49 = .ok (.aload_n 0, 1) := by decide +kernel
theorem dX7_load_50 : decode cX7_load 50 = .ok (.getfield 7, 3) := by decide +kernel
theorem dX7_load_53 : decode cX7_load 53 = .ok (.iconst 1, 1) := by decide +kernel
theorem dX7_load_54 : decode cX7_load 54 = .ok (.aload_n 0, 1) := by decide +kernel
theorem dX7_load_55 : decode cX7_load 55 = .ok (.iconst 0, 1) := by decide +kernel
theorem dX7_load_56 : decode cX7_load 56 = .ok (.sipush 359, 3) := by decide +kernel
theorem dX7_load_59 : decode cX7_load 59 = .ok (.invokevirtual 147, 3) := by decide +kernel
theorem dX7_load_62 : decode cX7_load 62 = .ok (.iastore, 1) := by decide +kernel
theorem dX7_load_63 : decode cX7_load 63 = .ok (.aload_n 0, 1) := by decide +kernel
theorem dX7_load_64 : decode cX7_load 64 = .ok (.getfield 7, 3) := by decide +kernel
theorem dX7_load_67 : decode cX7_load 67 = .ok (.iconst 2, 1) := by decide +kernel
theorem dX7_load_68 : decode cX7_load 68 = .ok (.aload_n 0, 1) := by decide +kernel
theorem dX7_load_69 : decode cX7_load 69 = .ok (.sipush (-999), 3) := by decide +kernel
theorem dX7_load_72 : decode cX7_load 72 = .ok (.sipush 999, 3) := by decide +kernel
theorem dX7_load_75 : decode cX7_load 75 = .ok (.invokevirtual 147, 3) := by decide +kernel
theorem dX7_load_78 : decode cX7_load 78 = .ok (.iastore, 1) := by decide +kernel
theorem dX7_load_79 : decode cX7_load 79 = .ok (.aload_n 0, 1) := by decide +kernel
theorem dX7_load_80 : decode cX7_load 80 = .ok (.invokevirtual 159, 3) := by decide +kernel
theorem dX7_load_83 : decode cX7_load 83 = .ok (.aload_n 0, 1) := by decide +kernel
theorem dX7_load_84 : decode cX7_load 84 = .ok (.ldc 186, 2) := by decide +kernel
theorem dX7_load_86 : decode cX7_load 86 = .ok (.invokevirtual 152, 3) := by decide +kernel
theorem dX7_load_89 : decode cX7_load 89 = .ok (.ifCond .eq 10, 3) := by decide +kernel
theorem dX7_load_92 : decode cX7_load 92 = .ok (.aload_n 0, 1) := by decide +kernel
theorem dX7_load_93 : decode cX7_load 93 = .ok (.invokevirtual 188, 3) := by decide +kernel
theorem dX7_load_96 : decode cX7_load 96 = .ok (.goto (-13), 3) := by decide +kernel
theorem dX7_load_99 : decode cX7_load 99 = .ok (.aload_n 0, 1) := by decide +kernel
theorem dX7_load_100 : decode cX7_load 100 = .ok (.ldc 191, 2) := by decide +kernel
theorem dX7_load_102 : decode cX7_load 102 = .ok (.invokevirtual 152, 3) := by decide +kernel
theorem dX7_load_105 : decode cX7_load 105 = .ok (.ifCond .eq 10, 3) := by decide +kernel
theorem dX7_load_108 : decode cX7_load 108 = .ok (.aload_n 0, 1) := by decide +kernel
theorem dX7_load_109 : decode cX7_load 109 = .ok (.invokevirtual 193, 3) := by decide +kernel
theorem dX7_load_112 : decode cX7_load 112 = .ok (.goto (-13), 3) := by decide +kernel
theorem dX7_load_115 : decode cX7_load 115 = .ok (.aload_n 0, 1) := by decide +kernel
theorem dX7_load_116 : decode cX7_load 116 = .ok (.invokevirtual 196, 3) := by decide +kernel
theorem dX7_load_119 : decode cX7_load 119 = .ok (.ifCond .eq 12, 3) := by decide +kernel
theorem dX7_load_122 : decode cX7_load 122 = .ok (.aload_n 0, 1) := by decide +kernel
theorem dX7_load_123 : decode cX7_load 123 = .ok (.getfield 7, 3) := by decide +kernel
theorem dX7_load_126 : decode cX7_load 126 = .ok (.iconst 3, 1) := by decide +kernel
theorem dX7_load_127 : decode cX7_load 127 = .ok (.iaload, 1) := by decide +kernel
theorem dX7_load_128 : decode cX7_load 128 = .ok (.goto 7, 3) := by decide +kernel
theorem dX7_load_131 : decode cX7_load 131 = .ok (.aload_n 0, 1) := by decide +kernel
