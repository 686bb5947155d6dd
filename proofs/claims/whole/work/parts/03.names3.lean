set_option maxRecDepth 20000 in
theorem gX8_make_X5_take : GoodIn wsX8_make (wsV RX8 72 RX5 yX5_take wsX5_take) := goodIn_app (goodIn_of _ (by decide +kernel)) ggX8_make_X5_take
set_option maxRecDepth 20000 in
theorem ggX8_make_X8_isKind : GoodIn wsX8_make wsX8_isKind := goodIn_r _ [41] (by decide +kernel) (by decide +kernel)
set_option maxRecDepth 20000 in
theorem gX8_make_X8_isKind : GoodIn wsX8_make (va_wsS RX8 76 yX8_isKind wsX8_isKind) := goodIn_app (goodIn_of _ (by decide +kernel)) ggX8_make_X8_isKind
set_option maxRecDepth 20000 in
theorem ggX8_make_X8_isMode : GoodIn wsX8_make wsX8_isMode := goodIn_r _ [44] (by decide +kernel) (by decide +kernel)
set_option maxRecDepth 20000 in
theorem gX8_make_X8_isMode : GoodIn wsX8_make (va_wsS RX8 80 yX8_isMode wsX8_isMode) := goodIn_app (goodIn_of _ (by decide +kernel)) ggX8_make_X8_isMode
set_option maxRecDepth 20000 in
theorem ggX8_make_X8_isTime : GoodIn wsX8_make wsX8_isTime := goodIn_r _ [47] (by decide +kernel) (by decide +kernel)
set_option maxRecDepth 20000 in
theorem gX8_make_X8_isTime : GoodIn wsX8_make (va_wsS RX8 83 yX8_isTime wsX8_isTime) := goodIn_app (goodIn_of _ (by decide +kernel)) ggX8_make_X8_isTime
set_option maxRecDepth 20000 in
theorem ggX8_make_X3_isPath : GoodIn wsX8_make wsX3_isPath := goodIn_r _ [51, 52, 53, 50, 54] (by decide +kernel) (by decide +kernel)
set_option maxRecDepth 20000 in
theorem gX8_make_X3_isPath : GoodIn wsX8_make (va_wsS RX8 86 yX3_isPath wsX3_isPath) := goodIn_app (goodIn_of _ (by decide +kernel)) ggX8_make_X3_isPath
set_option maxRecDepth 20000 in
theorem ggX8_make_X6_find : GoodIn wsX8_make wsX6_find := goodIn_r _ [59, 60, 61, 62, 58, 63, 64, 65, 66, 67, 68, 69, 70, 71, 72, 50, 73, 74, 75, 76, 77, 132, 133, 124, 125, 126, 127, 128] (by decide +kernel) (by decide +kernel)
set_option maxRecDepth 20000 in
theorem gX8_make_X6_find : GoodIn wsX8_make (wsV RX8 97 RX6 yX6_find wsX6_find) := goodIn_app (goodIn_of _ (by decide +kernel)) ggX8_make_X6_find
set_option maxRecDepth 20000 in
theorem ggX8_make_X8_hasDirectory : GoodIn wsX8_make wsX8_hasDirectory := goodIn_r _ [81, 7, 82, 83, 84, 50, 85, 86, 21, 22, 23, 24, 25, 26, 27, 28, 29, 11, 30, 31, 32, 33, 34, 35, 36, 37, 55, 56, 57, 58, 59, 60, 61, 62, 63, 64, 65, 66, 67, 68, 69, 70, 71, 72, 73, 74, 75, 76, 77, 87, 115, 116, 117, 118, 119, 120, 121, 122, 123, 124, 125, 126, 127, 128, 132, 133] (by decide +kernel) (by decide +kernel)
set_option maxRecDepth 20000 in
theorem gX8_make_X8_hasDirectory : GoodIn wsX8_make (wsV RX8 101 RX8 yX8_hasDirectory wsX8_hasDirectory) := goodIn_app (goodIn_of _ (by decide +kernel)) ggX8_make_X8_hasDirectory
set_option maxRecDepth 20000 in
theorem ggX8_make_X6_size : GoodIn wsX8_make wsX6_size := goodIn_r _ [91, 64, 132, 133] (by decide +kernel) (by decide +kernel)
set_option maxRecDepth 20000 in
theorem gX8_make_X6_size : GoodIn wsX8_make (wsV RX8 104 RX6 yX6_size wsX6_size) := goodIn_app (goodIn_of _ (by decide +kernel)) ggX8_make_X6_size
set_option maxRecDepth 20000 in
theorem ggX8_make_X1_init : GoodIn wsX8_make wsX1_init := goodIn_r _ [94, 95, 96, 97, 98, 99, 100, 101, 102, 124, 125, 126, 127, 128] (by decide +kernel) (by decide +kernel)
set_option maxRecDepth 20000 in
theorem gX8_make_X1_init : GoodIn wsX8_make (wsX1_init) := ggX8_make_X1_init
set_option maxRecDepth 20000 in
theorem ggX8_make_X6_put : GoodIn wsX8_make wsX6_put := goodIn_r _ [106, 65, 60, 61, 62, 58, 63, 64, 66, 67, 68, 69, 70, 71, 72, 50, 73, 74, 75, 76, 77, 107, 108, 109, 110, 111, 112, 113, 114, 124, 125, 126, 127, 128, 132, 133] (by decide +kernel) (by decide +kernel)
set_option maxRecDepth 20000 in
theorem gX8_make_X6_put : GoodIn wsX8_make (wsV RX8 115 RX6 yX6_put wsX6_put) := goodIn_app (goodIn_of _ (by decide +kernel)) ggX8_make_X6_put
theorem dX8_make_0 : decode cX8_make 0 = .ok (.aload_n 0, 1) := by decide +kernel
theorem dX8_make_1 : decode cX8_make 1 = .ok (.getfield 54, 3) := by decide +kernel
theorem dX8_make_4 : decode cX8_make 4 = .ok (.iconst 1, 1) := by decide +kernel
theorem dX8_make_5 : decode cX8_make 5 = .ok (.if_icmp .ne 13, 3) := by decide +kernel
theorem dX8_make_8 : decode cX8_make 8 = .ok (.new 65, 3) := by decide +kernel
theorem dX8_make_11 : decode cX8_make 11 = .ok (.dup, 1) := by decide +kernel
theorem dX8_make_12 : decode cX8_make 12 = .ok (.ldc 67, 2) := by decide +kernel
theorem dX8_make_14 : decode cX8_make 14 = .ok (.invokespecial 69, 3) := by decide +kernel
theorem dX8_make_17 : decode cX8_make 17 = .ok (.athrow, 1) := by decide +kernel
theorem dX8_make_18 : decode cX8_make 18 = .ok (.aload_n 0, 1) := by decide +kernel
theorem dX8_make_19 : decode cX8_make 19 = .ok (.getfield 10, 3) := by decide +kernel
theorem dX8_make_22 : decode cX8_make 22 = .ok (.invokevirtual 72, 3) := by decide +kernel
theorem dX8_make_25 : decode cX8_make 25 = .ok (.astore 4, 2) := by decide +kernel
theorem dX8_make_27 : decode cX8_make 27 = .ok (.iload_n 1, 1) := by decide +kernel
theorem dX8_make_28 : decode cX8_make 28 = .ok (.invokestatic 76, 3) := by decide +kernel
theorem dX8_make_31 : decode cX8_make 31 = .ok (.ifCond .eq 25, 3) := by decide +kernel
theorem dX8_make_34 : decode cX8_make 34 = .ok (.iload_n 2, 1) := by decide +kernel
theorem dX8_make_35 : decode cX8_make 35 = .ok (.invokestatic 80, 3) := by decide +kernel
theorem dX8_make_38 : decode cX8_make 38 = .ok (.ifCond .eq 18, 3) := by decide +kernel
theorem dX8_make_41 : decode cX8_make 41 = .ok (.iload_n 3, 1) := by decide +kernel
theorem dX8_make_42 : decode cX8_make 42 = .ok (.invokestatic 83, 3) := by decide +kernel
theorem dX8_make_45 : decode cX8_make 45 = .ok (.ifCond .eq 11, 3) := by decide +kernel
theorem dX8_make_48 : decode cX8_make 48 = .ok (.aload 4, 2) := by decide +kernel
theorem dX8_make_50 : decode cX8_make 50 = .ok (.invokestatic 86, 3) := by decide +kernel
theorem dX8_make_53 : decode cX8_make 53 = .ok (.ifCond .ne 13, 3) := by decide +kernel
theorem dX8_make_56 : decode cX8_make 56 = .ok (.new 92, 3) := by decide +kernel
theorem dX8_make_59 : decode cX8_make 59 = .ok (.dup, 1) := by decide +kernel
theorem dX8_make_60 : decode cX8_make 60 = .ok (.ldc 94, 2) := by decide +kernel
theorem dX8_make_62 : decode cX8_make 62 = .ok (.invokespecial 96, 3) := by decide +kernel
theorem dX8_make_65 : decode cX8_make 65 = .ok (.athrow, 1) := by decide +kernel
theorem dX8_make_66 : decode cX8_make 66 = .ok (.aload_n 0, 1) := by decide +kernel
theorem dX8_make_67 : decode cX8_make 67 = .ok (.getfield 19, 3) := by decide +kernel
theorem dX8_make_70 : decode cX8_make 70 = .ok (.aload 4, 2) := by decide +kernel
theorem dX8_make_72 : decode cX8_make 72 = .ok (.invokevirtual 97, 3) := by decide +kernel
theorem dX8_make_75 : decode cX8_make 75 = .ok (.iconst (-1), 1) := by decide +kernel
theorem dX8_make_76 : decode cX8_make 76 = .ok (.if_icmp .ne 24, 3) := by decide +kernel
theorem dX8_make_79 : decode cX8_make 79 = .ok (.aload_n 0, 1) := by decide +kernel
theorem dX8_make_80 : decode cX8_make 80 = .ok (.aload 4, 2) := by decide +kernel
theorem dX8_make_82 : decode cX8_make 82 = .ok (.invokevirtual 101, 3) := by decide +kernel
theorem dX8_make_85 : decode cX8_make 85 = .ok (.ifCond .eq 15, 3) := by decide +kernel
theorem dX8_make_88 : decode cX8_make 88 = .ok (.aload_n 0, 1) := by decide +kernel
theorem dX8_make_89 : decode cX8_make 89 = .ok (.getfield 19, 3) := by decide +kernel
theorem dX8_make_92 : decode cX8_make 92 = .ok (.invokevirtual 104, 3) := by decide +kernel
theorem dX8_make_95 : decode cX8_make 95 = .ok (.bipush 60, 2) := by decide +kernel
theorem dX8_make_97 : decode cX8_make 97 = .ok (.if_icmp .lt 13, 3) := by decide +kernel
theorem dX8_make_100 : decode cX8_make 100 = .ok (.new 65, 3) := by decide +kernel
theorem dX8_make_103 : decode cX8_make 103 = .ok (.dup, 1) := by decide +kernel
theorem dX8_make_104 : decode cX8_make 104 = .ok (.ldc 108, 2) := by decide +kernel
theorem dX8_make_106 : decode cX8_make 106 = .ok (.invokespecial 69, 3) := by decide +kernel
theorem dX8_make_109 : decode cX8_make 109 = .ok (.athrow, 1) := by decide +kernel
theorem dX8_make_110 : decode cX8_make 110 = .ok (.aload_n 0, 1) := by decide +kernel
theorem dX8_make_111 : decode cX8_make 111 = .ok (.getfield 19, 3) := by decide +kernel
theorem dX8_make_114 : decode cX8_make 114 = .ok (.new 110, 3) := by decide +kernel
theorem dX8_make_117 : decode cX8_make 117 = .ok (.dup, 1) := by decide +kernel
theorem dX8_make_118 : decode cX8_make 118 = .ok (.aload 4, 2) := by decide +kernel
theorem dX8_make_120 : decode cX8_make 120 = .ok (.iload_n 1, 1) := by decide +kernel
theorem dX8_make_121 : decode cX8_make 121 = .ok (.iload_n 2, 1) := by decide +kernel
theorem dX8_make_122 : decode cX8_make 122 = .ok (.iload_n 3, 1) := by decide +kernel
theorem dX8_make_123 : decode cX8_make 123 = .ok (.iconst 0, 1) := by decide +kernel
theorem dX8_make_124 : decode cX8_make 124 = .ok (.newarray .byte, 2) := by decide +kernel
theorem dX8_make_126 : decode cX8_make 126 = .ok (.invokespecial 112, 3) := by decide +kernel
theorem dX8_make_129 : decode cX8_make 129 = .ok (.invokevirtual 115, 3) := by decide +kernel
theorem dX8_make_132 : decode cX8_make 132 = .ok (.aload_n 0, 1) := by decide +kernel
theorem dX8_make_133 : decode cX8_make 133 = .ok (.aload_n 0, 1) := by decide +kernel
theorem dX8_make_134 : decode cX8_make 134 = .ok (.getfield 19, 3) := by decide +kernel
theorem dX8_make_137 : decode cX8_make 137 = .ok (.aload 4, 2) := by decide +kernel
theorem dX8_make_139 : decode cX8_make 139 = .ok (.invokevirtual 97, 3) := by decide +kernel
theorem dX8_make_142 : decode cX8_make 142 = .ok (.putfield 50, 3) := by decide +kernel
theorem dX8_make_145 : decode cX8_make 145 = .ok (.aload_n 0, 1) := by decide +kernel
theorem dX8_make_146 : decode cX8_make 146 = .ok (.getfield 19, 3) := by decide +kernel
theorem dX8_make_149 : decode cX8_make 149 = .ok (.invokevirtual 104, 3) := by decide +kernel
theorem dX8_make_152 : decode cX8_make 152 = .ok (.ireturn, 1) := by decide +kernel
set_option maxRecDepth 20000 in
theorem ggX8_choose_X5_take : GoodIn wsX8_choose wsX5_take := goodIn_r _ [9, 10, 11, 12, 13, 14, 15, 16, 17, 18, 19, 20, 21, 22, 23, 24, 25, 26, 27, 28, 29, 30, 70, 71, 72] (by decide +kernel) (by decide +kernel)
set_option maxRecDepth 20000 in
theorem gX8_choose_X5_take : GoodIn wsX8_choose (wsV RX8 72 RX5 yX5_take wsX5_take) := goodIn_app (goodIn_of _ (by decide +kernel)) ggX8_choose_X5_take
set_option maxRecDepth 20000 in
theorem ggX8_choose_X6_find : GoodIn wsX8_choose wsX6_find := goodIn_r _ [35, 36, 37, 38, 34, 39, 40, 41, 42, 43, 44, 45, 46, 47, 48, 49, 50, 51, 52, 53, 54, 73, 74, 65, 66, 67, 68, 69] (by decide +kernel) (by decide +kernel)
set_option maxRecDepth 20000 in
theorem gX8_choose_X6_find : GoodIn wsX8_choose (wsV RX8 97 RX6 yX6_find wsX6_find) := goodIn_app (goodIn_of _ (by decide +kernel)) ggX8_choose_X6_find
set_option maxRecDepth 20000 in
theorem ggX8_choose_X6_get : GoodIn wsX8_choose wsX6_get := goodIn_r _ [45, 40, 46, 73, 74] (by decide +kernel) (by decide +kernel)
set_option maxRecDepth 20000 in
theorem gX8_choose_X6_get : GoodIn wsX8_choose (wsV RX8 119 RX6 yX6_get wsX6_get) := goodIn_app (goodIn_of _ (by decide +kernel)) ggX8_choose_X6_get
theorem dX8_choose_0 : decode cX8_choose 0 = .ok (.aload_n 0, 1) := by decide +kernel
theorem dX8_choose_1 : decode cX8_choose 1 = .ok (.aload_n 0, 1) := by decide +kernel
theorem dX8_choose_2 : decode cX8_choose 2 = .ok (.getfield 19, 3) := by decide +kernel
theorem dX8_choose_5 : decode cX8_choose 5 = .ok (.aload_n 0, 1) := by decide +kernel
theorem dX8_choose_6 : decode cX8_choose 6 = .ok (.getfield 10, 3) := by decide +kernel
theorem dX8_choose_9 : decode cX8_choose 9 = .ok (.invokevirtual 72, 3) := by decide +kernel
theorem dX8_choose_12 : decode cX8_choose 12 = .ok (.invokevirtual 97, 3) := by decide +kernel
theorem dX8_choose_15 : decode cX8_choose 15 = .ok (.putfield 50, 3) := by decide +kernel
theorem dX8_choose_18 : decode cX8_choose 18 = .ok (.aload_n 0, 1) := by decide +kernel
theorem dX8_choose_19 : decode cX8_choose 19 = .ok (.getfield 19, 3) := by decide +kernel
theorem dX8_choose_22 : decode cX8_choose 22 = .ok (.aload_n 0, 1) := by decide +kernel
theorem dX8_choose_23 : decode cX8_choose 23 = .ok (.getfield 50, 3) := by decide +kernel
theorem dX8_choose_26 : decode cX8_choose 26 = .ok (.invokevirtual 119, 3) := by decide +kernel
theorem dX8_choose_29 : decode cX8_choose 29 = .ok (.astore_n 1, 1) := by decide +kernel
theorem dX8_choose_30 : decode cX8_choose 30 = .ok (.aload_n 1, 1) := by decide +kernel
theorem dX8_choose_31 : decode cX8_choose 31 = .ok (.ifnonnull 7, 3) := by decide +kernel
theorem dX8_choose_34 : decode cX8_choose 34 = .ok (.iconst (-1), 1) := by decide +kernel
theorem dX8_choose_35 : decode cX8_choose 35 = .ok (.goto 7, 3) := by decide +kernel
theorem dX8_choose_38 : decode cX8_choose 38 = .ok (.aload_n 1, 1) := by decide +kernel
theorem dX8_choose_39 : decode cX8_choose 39 = .ok (.getfield 123, 3) := by decide +kernel
theorem dX8_choose_42 : decode cX8_choose 42 = .ok (.ireturn, 1) := by decide +kernel
set_option maxRecDepth 20000 in
theorem ggX8_write_X5_take : GoodIn wsX8_write wsX5_take := goodIn_r _ [20, 21, 22, 23, 24, 25, 26, 27, 28, 29, 30, 31, 32, 33, 34, 35, 13, 36, 37, 38, 39, 40, 100, 101, 102] (by decide +kernel) (by decide +kernel)
set_option maxRecDepth 20000 in
theorem gX8_write_X5_take : GoodIn wsX8_write (wsV RX8 72 RX5 yX5_take wsX5_take) := goodIn_app (goodIn_of _ (by decide +kernel)) ggX8_write_X5_take
set_option maxRecDepth 20000 in
theorem ggX8_write_X6_get : GoodIn wsX8_write wsX6_get := goodIn_r _ [45, 46, 47, 103, 104] (by decide +kernel) (by decide +kernel)
set_option maxRecDepth 20000 in
theorem gX8_write_X6_get : GoodIn wsX8_write (wsV RX8 119 RX6 yX6_get wsX6_get) := goodIn_app (goodIn_of _ (by decide +kernel)) ggX8_write_X6_get
set_option maxRecDepth 20000 in
theorem ggX8_write_X8_mostBytes : GoodIn wsX8_write wsX8_mostBytes := goodIn_r _ [51] (by decide +kernel) (by decide +kernel)
set_option maxRecDepth 20000 in
theorem gX8_write_X8_mostBytes : GoodIn wsX8_write (va_wsS RX8 138 yX8_mostBytes wsX8_mostBytes) := goodIn_app (goodIn_of _ (by decide +kernel)) ggX8_write_X8_mostBytes
set_option maxRecDepth 20000 in
theorem ggX8_write_X6_contentBytes : GoodIn wsX8_write wsX6_contentBytes := goodIn_r _ [55, 46, 47, 56, 103, 104, 95, 96, 97, 98, 99] (by decide +kernel) (by decide +kernel)
set_option maxRecDepth 20000 in
theorem gX8_write_X6_contentBytes : GoodIn wsX8_write (wsV RX8 141 RX6 yX6_contentBytes wsX6_contentBytes) := goodIn_app (goodIn_of _ (by decide +kernel)) ggX8_write_X6_contentBytes
set_option maxRecDepth 20000 in
theorem ggX8_write_X8_overlaid : GoodIn wsX8_write wsX8_overlaid := goodIn_r _ [59, 60, 61, 13, 62, 63, 24, 25, 26, 27, 28, 29, 30, 31, 32, 33, 34, 35, 36, 37, 38, 39, 40] (by decide +kernel) (by decide +kernel)
set_option maxRecDepth 20000 in
theorem gX8_write_X8_overlaid : GoodIn wsX8_write (va_wsS RX8 150 yX8_overlaid wsX8_overlaid) := goodIn_app (goodIn_of _ (by decide +kernel)) ggX8_write_X8_overlaid
set_option maxRecDepth 20000 in
theorem ggX8_write_X1_withContent : GoodIn wsX8_write wsX1_withContent := goodIn_r _ [68, 69, 70, 67, 71, 72, 73, 74, 75, 76, 77, 78, 79, 80, 81, 95, 96, 97, 98, 99] (by decide +kernel) (by decide +kernel)
set_option maxRecDepth 20000 in
theorem gX8_write_X1_withContent : GoodIn wsX8_write (wsV RX8 154 RX1 yX1_withContent wsX1_withContent) := goodIn_app (goodIn_of _ (by decide +kernel)) ggX8_write_X1_withContent
set_option maxRecDepth 20000 in
theorem ggX8_write_X6_replace : GoodIn wsX8_write wsX6_replace := goodIn_r _ [85, 46, 47, 103, 104] (by decide +kernel) (by decide +kernel)
set_option maxRecDepth 20000 in
theorem gX8_write_X6_replace : GoodIn wsX8_write (wsV RX8 158 RX6 yX6_replace wsX6_replace) := goodIn_app (goodIn_of _ (by decide +kernel)) ggX8_write_X6_replace
theorem dX8_write_0 : decode cX8_write 0 = .ok (.aload_n 0, 1) := by decide +kernel
theorem dX8_write_1 : decode cX8_write 1 = .ok (.getfield 54, 3) := by decide +kernel
theorem dX8_write_4 : decode cX8_write 4 = .ok (.iconst 1, 1) := by decide +kernel
theorem dX8_write_5 : decode cX8_write 5 = .ok (.if_icmp .ne 13, 3) := by decide +kernel
theorem dX8_write_8 : decode cX8_write 8 = .ok (.new 65, 3) := by decide +kernel
theorem dX8_write_11 : decode cX8_write 11 = .ok (.dup, 1) := by decide +kernel
theorem dX8_write_12 : decode cX8_write 12 = .ok (.ldc 67, 2) := by decide +kernel
theorem dX8_write_14 : decode cX8_write 14 = .ok (.invokespecial 69, 3) := by decide +kernel
theorem dX8_write_17 : decode cX8_write 17 = .ok (.athrow, 1) := by decide +kernel
theorem dX8_write_18 : decode cX8_write 18 = .ok (.aload_n 0, 1) := by decide +kernel
theorem dX8_write_19 : decode cX8_write 19 = .ok (.getfield 10, 3) := by decide +kernel
theorem dX8_write_22 : decode cX8_write 22 = .ok (.invokevirtual 72, 3) := by decide +kernel
theorem dX8_write_25 : decode cX8_write 25 = .ok (.astore_n 2, 1) := by decide +kernel
theorem dX8_write_26 : decode cX8_write 26 = .ok (.aload_n 0, 1) := by decide +kernel
theorem dX8_write_27 : decode cX8_write 27 = .ok (.getfield 19, 3) := by decide +kernel
theorem dX8_write_30 : decode cX8_write 30 = .ok (.aload_n 0, 1) := by decide +kernel
theorem dX8_write_31 : decode cX8_write 31 = .ok (.getfield 50, 3) := by decide +kernel
theorem dX8_write_34 : decode cX8_write 34 = .ok (.invokevirtual 119, 3) := by decide +kernel
theorem dX8_write_37 : decode cX8_write 37 = .ok (.astore_n 3, 1) := by decide +kernel
theorem dX8_write_38 : decode cX8_write 38 = .ok (.aload_n 3, 1) := by decide +kernel
theorem dX8_write_39 : decode cX8_write 39 = .ok (.ifnull 11, 3) := by decide +kernel
theorem dX8_write_42 : decode cX8_write 42 = .ok (.aload_n 3, 1) := by decide +kernel
theorem dX8_write_43 : decode cX8_write 43 = .ok (.getfield 123, 3) := by decide +kernel
theorem dX8_write_46 : decode cX8_write 46 = .ok (.iconst 2, 1) := by decide +kernel
theorem dX8_write_47 : decode cX8_write 47 = .ok (.if_icmp .ne 13, 3) := by decide +kernel
theorem dX8_write_50 : decode cX8_write 50 = .ok (.new 65, 3) := by decide +kernel
theorem dX8_write_53 : decode cX8_write 53 = .ok (.dup, 1) := by decide +kernel
theorem dX8_write_54 : decode cX8_write 54 = .ok (.ldc 126, 2) := by decide +kernel
theorem dX8_write_56 : decode cX8_write 56 = .ok (.invokespecial 69, 3) := by decide +kernel
theorem dX8_write_59 : decode cX8_write 59 = .ok (.athrow, 1) := by decide +kernel
theorem dX8_write_60 : decode cX8_write 60 = .ok (.aload_n 3, 1) := by decide +kernel
theorem dX8_write_61 : decode cX8_write 61 = .ok (.getfield 128, 3) := by decide +kernel
theorem dX8_write_64 : decode cX8_write 64 = .ok (.arraylength, 1) := by decide +kernel
theorem dX8_write_65 : decode cX8_write 65 = .ok (.istore 4, 2) := by decide +kernel
theorem dX8_write_67 : decode cX8_write 67 = .ok (.iload 4, 2) := by decide +kernel
theorem dX8_write_69 : decode cX8_write 69 = .ok (.i2l, 1) := by decide +kernel
theorem dX8_write_70 : decode cX8_write 70 = .ok (.iload_n 1, 1) := by decide +kernel
theorem dX8_write_71 : decode cX8_write 71 = .ok (.i2l, 1) := by decide +kernel
theorem dX8_write_72 : decode cX8_write 72 = .ok (.aload_n 2, 1) := by decide +kernel
theorem dX8_write_73 : decode cX8_write 73 = .ok (.arraylength, 1) := by decide +kernel
theorem dX8_write_74 : decode cX8_write 74 = .ok (.i2l, 1) := by decide +kernel
theorem dX8_write_75 : decode cX8_write 75 = .ok (.ladd, 1) := by decide +kernel
theorem dX8_write_76 : decode cX8_write 76 = .ok (.invokestatic 132, 3) := by decide +kernel
theorem dX8_write_79 : decode cX8_write 79 = .ok (.lstore 5, 2) := by decide +kernel
theorem dX8_write_81 : decode cX8_write 81 = .ok (.lload 5, 2) := by decide +kernel
theorem dX8_write_83 : decode cX8_write 83 = .ok (.aload_n 3, 1) := by decide +kernel
theorem dX8_write_84 : decode cX8_write 84 = .ok (.getfield 123, 3) := by decide +kernel
theorem dX8_write_87 : decode cX8_write 87 = .ok (.invokestatic 138, 3) := by decide +kernel
theorem dX8_write_90 : decode cX8_write 90 = .ok (.i2l, 1) := by decide +kernel
theorem dX8_write_91 : decode cX8_write 91 = .ok (.lcmp, 1) := by decide +kernel
theorem dX8_write_92 : decode cX8_write 92 = .ok (.ifCond .gt 24, 3) := by decide +kernel
theorem dX8_write_95 : decode cX8_write 95 = .ok (.aload_n 0, 1) := by decide +kernel
theorem dX8_write_96 : decode cX8_write 96 = .ok (.getfield 19, 3) := by decide +kernel
theorem dX8_write_99 : decode cX8_write 99 = .ok (.invokevirtual 141, 3) := by decide +kernel
theorem dX8_write_102 : decode cX8_write 102 = .ok (.iload 4, 2) := by decide +kernel
theorem dX8_write_104 : decode cX8_write 104 = .ok (.isub, 1) := by decide +kernel
theorem dX8_write_105 : decode cX8_write 105 = .ok (.i2l, 1) := by decide +kernel
theorem dX8_write_106 : decode cX8_write 106 = .ok (.lload 5, 2) := by decide +kernel
theorem dX8_write_108 : decode cX8_write 108 = .ok (.ladd, 1) := by decide +kernel
theorem dX8_write_109 : decode cX8_write 109 = .ok (.ldc2_w 144, 3) := by decide +kernel
theorem dX8_write_112 : decode cX8_write 112 = .ok (.lcmp, 1) := by decide +kernel
theorem dX8_write_113 : decode cX8_write 113 = .ok (.ifCond .le 13, 3) := by decide +kernel
theorem dX8_write_116 : decode cX8_write 116 = .ok (.new 65, 3) := by decide +kernel
theorem dX8_write_119 : decode cX8_write 119 = .ok (.dup, 1) := by decide +kernel
theorem dX8_write_120 : decode cX8_write 120 = .ok (.ldc 146, 2) := by decide +kernel
theorem dX8_write_122 : decode cX8_write 122 = .ok (.invokespecial 69, 3) := by decide +kernel
theorem dX8_write_125 : decode cX8_write 125 = .ok (.athrow, 1) := by decide +kernel
theorem dX8_write_126 : decode cX8_write 126 = .ok (.iload_n 1, 1) := by decide +kernel
theorem dX8_write_127 : decode cX8_write 127 = .ok (.ifCond .lt 9, 3) := by decide +kernel
theorem dX8_write_130 : decode cX8_write 130 = .ok (.iload_n 1, 1) := by decide +kernel
theorem dX8_write_131 : decode cX8_write 131 = .ok (.iload 4, 2) := by decide +kernel
theorem dX8_write_133 : decode cX8_write 133 = .ok (.if_icmp .le 13, 3) := by decide +kernel
theorem dX8_write_136 : decode cX8_write 136 = .ok (.new 92, 3) := by decide +kernel
theorem dX8_write_139 : decode cX8_write 139 = .ok (.dup, 1) := by decide +kernel
theorem dX8_write_140 : decode cX8_write 140 = .ok (.ldc 148, 2) := by decide +kernel
theorem dX8_write_142 : decode cX8_write 142 = .ok (.invokespecial 96, 3) := by decide +kernel
theorem dX8_write_145 : decode cX8_write 145 = .ok (.athrow, 1) := by decide +kernel
theorem dX8_write_146 : decode cX8_write 146 = .ok (.aload_n 0, 1) := by decide +kernel
theorem dX8_write_147 : decode cX8_write 147 = .ok (.getfield 19, 3) := by decide +kernel
theorem dX8_write_150 : decode cX8_write 150 = .ok (.aload_n 0, 1) := by decide +kernel
theorem dX8_write_151 : decode cX8_write 151 = .ok (.getfield 50, 3) := by decide +kernel
theorem dX8_write_154 : decode cX8_write 154 = .ok (.aload_n 3, 1) := by decide +kernel
theorem dX8_write_155 : decode cX8_write 155 = .ok (.aload_n 3, 1) := by decide +kernel
theorem dX8_write_156 : decode cX8_write 156 = .ok (.getfield 128, 3) := by decide +kernel
theorem dX8_write_159 : decode cX8_write 159 = .ok (.iload_n 1, 1) := by decide +kernel
theorem dX8_write_160 : decode cX8_write 160 = .ok (.aload_n 2, 1) := by decide +kernel
theorem dX8_write_161 : decode cX8_write 161 = .ok (.invokestatic 150, 3) := by decide +kernel
theorem dX8_write_164 : decode cX8_write 164 = .ok (.invokevirtual 154, 3) := by decide +kernel
theorem dX8_write_167 : decode cX8_write 167 = .ok (.invokevirtual 158, 3) := by decide +kernel
theorem dX8_write_170 : decode cX8_write 170 = .ok (.lload 5, 2) := by decide +kernel
theorem dX8_write_172 : decode cX8_write 172 = .ok (.l2i, 1) := by decide +kernel
theorem dX8_write_173 : decode cX8_write 173 = .ok (.ireturn, 1) := by decide +kernel
set_option maxRecDepth 20000 in
theorem ggX8_cut_X6_get : GoodIn wsX8_cut wsX6_get := goodIn_r _ [14, 15, 16, 72, 73] (by decide +kernel) (by decide +kernel)
set_option maxRecDepth 20000 in
theorem gX8_cut_X6_get : GoodIn wsX8_cut (wsV RX8 119 RX6 yX6_get wsX6_get) := goodIn_app (goodIn_of _ (by decide +kernel)) ggX8_cut_X6_get
set_option maxRecDepth 20000 in
theorem ggX8_cut_J7_copyOf_9075b : GoodIn wsX8_cut wsJ7_copyOf_9075b := goodIn_r _ [20, 21, 22, 23, 24, 25, 26, 27, 28, 29, 30, 31, 32, 33, 34, 35] (by decide +kernel) (by decide +kernel)
set_option maxRecDepth 20000 in
theorem gX8_cut_J7_copyOf_9075b : GoodIn wsX8_cut (va_wsS RX8 166 yJ7_copyOf_9075b wsJ7_copyOf_9075b) := goodIn_app (goodIn_of _ (by decide +kernel)) ggX8_cut_J7_copyOf_9075b
set_option maxRecDepth 20000 in
theorem ggX8_cut_X1_withContent : GoodIn wsX8_cut wsX1_withContent := goodIn_r _ [40, 41, 42, 39, 43, 44, 45, 46, 47, 48, 49, 50, 51, 52, 53, 67, 68, 69, 70, 71] (by decide +kernel) (by decide +kernel)
set_option maxRecDepth 20000 in
theorem gX8_cut_X1_withContent : GoodIn wsX8_cut (wsV RX8 154 RX1 yX1_withContent wsX1_withContent) := goodIn_app (goodIn_of _ (by decide +kernel)) ggX8_cut_X1_withContent
set_option maxRecDepth 20000 in
theorem ggX8_cut_X6_replace : GoodIn wsX8_cut wsX6_replace := goodIn_r _ [57, 15, 16, 72, 73] (by decide +kernel) (by decide +kernel)
set_option maxRecDepth 20000 in
theorem gX8_cut_X6_replace : GoodIn wsX8_cut (wsV RX8 158 RX6 yX6_replace wsX6_replace) := goodIn_app (goodIn_of _ (by decide +kernel)) ggX8_cut_X6_replace
theorem dX8_cut_0 : decode cX8_cut 0 = .ok (.aload_n 0, 1) := by decide +kernel
theorem dX8_cut_1 : decode cX8_cut 1 = .ok (.getfield 19, 3) := by decide +kernel
theorem dX8_cut_4 : decode cX8_cut 4 = .ok (.aload_n 0, 1) := by decide +kernel
theorem dX8_cut_5 : decode cX8_cut 5 = .ok (.getfield 50, 3) := by decide +kernel
theorem dX8_cut_8 : decode cX8_cut 8 = .ok (.invokevirtual 119, 3) := by decide +kernel
theorem dX8_cut_11 : decode cX8_cut 11 = .ok (.astore_n 2, 1) := by decide +kernel
theorem dX8_cut_12 : decode cX8_cut 12 = .ok (.aload_n 0, 1) := by decide +kernel
theorem dX8_cut_13 : decode cX8_cut 13 = .ok (.getfield 54, 3) := by decide +kernel
theorem dX8_cut_16 : decode cX8_cut 16 = .ok (.iconst 1, 1) := by decide +kernel
theorem dX8_cut_17 : decode cX8_cut 17 = .ok (.if_icmp .eq 15, 3) := by decide +kernel
theorem dX8_cut_20 : decode cX8_cut 20 = .ok (.aload_n 2, 1) := by decide +kernel
theorem dX8_cut_21 : decode cX8_cut 21 = .ok (.ifnull 11, 3) := by decide +kernel
theorem dX8_cut_24 : decode cX8_cut 24 = .ok (.aload_n 2, 1) := by decide +kernel
theorem dX8_cut_25 : decode cX8_cut 25 = .ok (.getfield 123, 3) := by decide +kernel
theorem dX8_cut_28 : decode cX8_cut 28 = .ok (.iconst 2, 1) := by decide +kernel
theorem dX8_cut_29 : decode cX8_cut 29 = .ok (.if_icmp .ne 13, 3) := by decide +kernel
theorem dX8_cut_32 : decode cX8_cut 32 = .ok (.new 65, 3) := by decide +kernel
theorem dX8_cut_35 : decode cX8_cut 35 = .ok (.dup, 1) := by decide +kernel
theorem dX8_cut_36 : decode cX8_cut 36 = .ok (.ldc 162, 2) := by decide +kernel
theorem dX8_cut_38 : decode cX8_cut 38 = .ok (.invokespecial 69, 3) := by decide +kernel
theorem dX8_cut_41 : decode cX8_cut 41 = .ok (.athrow, 1) := by decide +kernel
theorem dX8_cut_42 : decode cX8_cut 42 = .ok (.iload_n 1, 1) := by decide +kernel
theorem dX8_cut_43 : decode cX8_cut 43 = .ok (.ifCond .lt 12, 3) := by decide +kernel
theorem dX8_cut_46 : decode cX8_cut 46 = .ok (.iload_n 1, 1) := by decide +kernel
theorem dX8_cut_47 : decode cX8_cut 47 = .ok (.aload_n 2, 1) := by decide +kernel
theorem dX8_cut_48 : decode cX8_cut 48 = .ok (.getfield 128, 3) := by decide +kernel
theorem dX8_cut_51 : decode cX8_cut 51 = .ok (.arraylength, 1) := by decide +kernel
theorem dX8_cut_52 : decode cX8_cut 52 = .ok (.if_icmp .le 13, 3) := by decide +kernel
theorem dX8_cut_55 : decode cX8_cut 55 = .ok (.new 92, 3) := by decide +kernel
theorem dX8_cut_58 : decode cX8_cut 58 = .ok (.dup, 1) := by decide +kernel
theorem dX8_cut_59 : decode cX8_cut 59 = .ok (.ldc 164, 2) := by decide +kernel
theorem dX8_cut_61 : decode cX8_cut 61 = .ok (.invokespecial 96, 3) := by decide +kernel
theorem dX8_cut_64 : decode cX8_cut 64 = .ok (.athrow, 1) := by decide +kernel
theorem dX8_cut_65 : decode cX8_cut 65 = .ok (.aload_n 0, 1) := by decide +kernel
theorem dX8_cut_66 : decode cX8_cut 66 = .ok (.getfield 19, 3) := by decide +kernel
theorem dX8_cut_69 : decode cX8_cut 69 = .ok (.aload_n 0, 1) := by decide +kernel
theorem dX8_cut_70 : decode cX8_cut 70 = .ok (.getfield 50, 3) := by decide +kernel
theorem dX8_cut_73 : decode cX8_cut 73 = .ok (.aload_n 2, 1) := by decide +kernel
theorem dX8_cut_74 : decode cX8_cut 74 = .ok (.aload_n 2, 1) := by decide +kernel
theorem dX8_cut_75 : decode cX8_cut 75 = .ok (.getfield 128, 3) := by decide +kernel
theorem dX8_cut_78 : decode cX8_cut 78 = .ok (.iload_n 1, 1) := by decide +kernel
theorem dX8_cut_79 : decode cX8_cut 79 = .ok (.invokestatic 166, 3) := by decide +kernel
theorem dX8_cut_82 : decode cX8_cut 82 = .ok (.invokevirtual 154, 3) := by decide +kernel
theorem dX8_cut_85 : decode cX8_cut 85 = .ok (.invokevirtual 158, 3) := by decide +kernel
theorem dX8_cut_88 : decode cX8_cut 88 = .ok (.return_, 1) := by decide +kernel
set_option maxRecDepth 20000 in
theorem ggX8_set_X6_get : GoodIn wsX8_set wsX6_get := goodIn_r _ [12, 13, 14, 53, 54] (by decide +kernel) (by decide +kernel)
set_option maxRecDepth 20000 in
theorem gX8_set_X6_get : GoodIn wsX8_set (wsV RX8 119 RX6 yX6_get wsX6_get) := goodIn_app (goodIn_of _ (by decide +kernel)) ggX8_set_X6_get
set_option maxRecDepth 20000 in
theorem ggX8_set_X8_isMode : GoodIn wsX8_set wsX8_isMode := goodIn_r _ [18] (by decide +kernel) (by decide +kernel)
set_option maxRecDepth 20000 in
theorem gX8_set_X8_isMode : GoodIn wsX8_set (va_wsS RX8 80 yX8_isMode wsX8_isMode) := goodIn_app (goodIn_of _ (by decide +kernel)) ggX8_set_X8_isMode
set_option maxRecDepth 20000 in
theorem ggX8_set_X8_isTime : GoodIn wsX8_set wsX8_isTime := goodIn_r _ [21] (by decide +kernel) (by decide +kernel)
set_option maxRecDepth 20000 in
theorem gX8_set_X8_isTime : GoodIn wsX8_set (va_wsS RX8 83 yX8_isTime wsX8_isTime) := goodIn_app (goodIn_of _ (by decide +kernel)) ggX8_set_X8_isTime
set_option maxRecDepth 20000 in
theorem ggX8_set_X1_withModeAndTime : GoodIn wsX8_set wsX1_withModeAndTime := goodIn_r _ [26, 27, 28, 25, 29, 30, 31, 32, 33, 34, 35, 36, 37, 38, 39, 55, 56, 57, 58, 59] (by decide +kernel) (by decide +kernel)
set_option maxRecDepth 20000 in
theorem gX8_set_X1_withModeAndTime : GoodIn wsX8_set (wsV RX8 176 RX1 yX1_withModeAndTime wsX1_withModeAndTime) := goodIn_app (goodIn_of _ (by decide +kernel)) ggX8_set_X1_withModeAndTime
set_option maxRecDepth 20000 in
theorem ggX8_set_X6_replace : GoodIn wsX8_set wsX6_replace := goodIn_r _ [43, 13, 14, 53, 54] (by decide +kernel) (by decide +kernel)
set_option maxRecDepth 20000 in
theorem gX8_set_X6_replace : GoodIn wsX8_set (wsV RX8 158 RX6 yX6_replace wsX6_replace) := goodIn_app (goodIn_of _ (by decide +kernel)) ggX8_set_X6_replace
theorem dX8_set_0 : decode cX8_set 0 = .ok (.aload_n 0, 1) := by decide +kernel
theorem dX8_set_1 : decode cX8_set 1 = .ok (.getfield 19, 3) := by decide +kernel
theorem dX8_set_4 : decode cX8_set 4 = .ok (.aload_n 0, 1) := by decide +kernel
theorem dX8_set_5 : decode cX8_set 5 = .ok (.getfield 50, 3) := by decide +kernel
theorem dX8_set_8 : decode cX8_set 8 = .ok (.invokevirtual 119, 3) := by decide +kernel
theorem dX8_set_11 : decode cX8_set 11 = .ok (.astore_n 3, 1) := by decide +kernel
theorem dX8_set_12 : decode cX8_set 12 = .ok (.aload_n 0, 1) := by decide +kernel
theorem dX8_set_13 : decode cX8_set 13 = .ok (.getfield 54, 3) := by decide +kernel
theorem dX8_set_16 : decode cX8_set 16 = .ok (.iconst 1, 1) := by decide +kernel
theorem dX8_set_17 : decode cX8_set 17 = .ok (.if_icmp .eq 7, 3) := by decide +kernel
theorem dX8_set_20 : decode cX8_set 20 = .ok (.aload_n 3, 1) := by decide +kernel
theorem dX8_set_21 : decode cX8_set 21 = .ok (.ifnonnull 13, 3) := by decide +kernel
theorem dX8_set_24 : decode cX8_set 24 = .ok (.new 65, 3) := by decide +kernel
theorem dX8_set_27 : decode cX8_set 27 = .ok (.dup, 1) := by decide +kernel
theorem dX8_set_28 : decode cX8_set 28 = .ok (.ldc 172, 2) := by decide +kernel
theorem dX8_set_30 : decode cX8_set 30 = .ok (.invokespecial 69, 3) := by decide +kernel
theorem dX8_set_33 : decode cX8_set 33 = .ok (.athrow, 1) := by decide +kernel
theorem dX8_set_34 : decode cX8_set 34 = .ok (.iload_n 1, 1) := by decide +kernel
theorem dX8_set_35 : decode cX8_set 35 = .ok (.invokestatic 80, 3) := by decide +kernel
theorem dX8_set_38 : decode cX8_set 38 = .ok (.ifCond .eq 10, 3) := by decide +kernel
theorem dX8_set_41 : decode cX8_set 41 = .ok (.iload_n 2, 1) := by decide +kernel
theorem dX8_set_42 : decode cX8_set 42 = .ok (.invokestatic 83, 3) := by decide +kernel
theorem dX8_set_45 : decode cX8_set 45 = .ok (.ifCond .ne 13, 3) := by decide +kernel
theorem dX8_set_48 : decode cX8_set 48 = .ok (.new 92, 3) := by decide +kernel
theorem dX8_set_51 : decode cX8_set 51 = .ok (.dup, 1) := by decide +kernel
theorem dX8_set_52 : decode cX8_set 52 = .ok (.ldc 174, 2) := by decide +kernel
theorem dX8_set_54 : decode cX8_set 54 = .ok (.invokespecial 96, 3) := by decide +kernel
theorem dX8_set_57 : decode cX8_set 57 = .ok (.athrow, 1) := by decide +kernel
theorem dX8_set_58 : decode cX8_set 58 = .ok (.aload_n 0, 1) := by decide +kernel
theorem dX8_set_59 : decode cX8_set 59 = .ok (.getfield 19, 3) := by decide +kernel
theorem dX8_set_62 : decode cX8_set 62 = .ok (.aload_n 0, 1) := by decide +kernel
theorem dX8_set_63 : decode cX8_set 63 = .ok (.getfield 50, 3) := by decide +kernel
theorem dX8_set_66 : decode cX8_set 66 = .ok (.aload_n 3, 1) := by decide +kernel
theorem dX8_set_67 : decode cX8_set 67 = .ok (.iload_n 1, 1) := by decide +kernel
theorem dX8_set_68 : decode cX8_set 68 = .ok (.iload_n 2, 1) := by decide +kernel
theorem dX8_set_69 : decode cX8_set 69 = .ok (.invokevirtual 176, 3) := by decide +kernel
theorem dX8_set_72 : decode cX8_set 72 = .ok (.invokevirtual 158, 3) := by decide +kernel
theorem dX8_set_75 : decode cX8_set 75 = .ok (.return_, 1) := by decide +kernel
set_option maxRecDepth 20000 in
theorem ggX8_remove_X6_get : GoodIn wsX8_remove wsX6_get := goodIn_r _ [10, 11, 12, 36, 37] (by decide +kernel) (by decide +kernel)
set_option maxRecDepth 20000 in
theorem gX8_remove_X6_get : GoodIn wsX8_remove (wsV RX8 119 RX6 yX6_get wsX6_get) := goodIn_app (goodIn_of _ (by decide +kernel)) ggX8_remove_X6_get
set_option maxRecDepth 20000 in
theorem ggX8_remove_X6_countBelow : GoodIn wsX8_remove wsX6_countBelow := goodIn_r _ [16, 11, 12, 17, 18, 7, 8, 9, 10, 19, 20, 21, 22, 36, 37, 38, 39, 40, 41, 42] (by decide +kernel) (by decide +kernel)
set_option maxRecDepth 20000 in
theorem gX8_remove_X6_countBelow : GoodIn wsX8_remove (wsV RX8 180 RX6 yX6_countBelow wsX6_countBelow) := goodIn_app (goodIn_of _ (by decide +kernel)) ggX8_remove_X6_countBelow
set_option maxRecDepth 20000 in
theorem ggX8_remove_X6_drop : GoodIn wsX8_remove wsX6_drop := goodIn_r _ [26, 11, 12, 36, 37] (by decide +kernel) (by decide +kernel)
set_option maxRecDepth 20000 in
theorem gX8_remove_X6_drop : GoodIn wsX8_remove (wsV RX8 183 RX6 yX6_drop wsX6_drop) := goodIn_app (goodIn_of _ (by decide +kernel)) ggX8_remove_X6_drop
theorem dX8_remove_0 : decode cX8_remove 0 = .ok (.aload_n 0, 1) := by decide +kernel
theorem dX8_remove_1 : decode cX8_remove 1 = .ok (.getfield 19, 3) := by decide +kernel
theorem dX8_remove_4 : decode cX8_remove 4 = .ok (.aload_n 0, 1) := by decide +kernel
theorem dX8_remove_5 : decode cX8_remove 5 = .ok (.getfield 50, 3) := by decide +kernel
theorem dX8_remove_8 : decode cX8_remove 8 = .ok (.invokevirtual 119, 3) := by decide +kernel
theorem dX8_remove_11 : decode cX8_remove 11 = .ok (.astore_n 1, 1) := by decide +kernel
theorem dX8_remove_12 : decode cX8_remove 12 = .ok (.aload_n 0, 1) := by decide +kernel
theorem dX8_remove_13 : decode cX8_remove 13 = .ok (.getfield 54, 3) := by decide +kernel
theorem dX8_remove_16 : decode cX8_remove 16 = .ok (.iconst 1, 1) := by decide +kernel
theorem dX8_remove_17 : decode cX8_remove 17 = .ok (.if_icmp .eq 7, 3) := by decide +kernel
theorem dX8_remove_20 : decode cX8_remove 20 = .ok (.aload_n 1, 1) := by decide +kernel
theorem dX8_remove_21 : decode cX8_remove 21 = .ok (.ifnonnull 13, 3) := by decide +kernel
theorem dX8_remove_24 : decode cX8_remove 24 = .ok (.new 65, 3) := by decide +kernel
theorem dX8_remove_27 : decode cX8_remove 27 = .ok (.dup, 1) := by decide +kernel
theorem dX8_remove_28 : decode cX8_remove 28 = .ok (.ldc 172, 2) := by decide +kernel
theorem dX8_remove_30 : decode cX8_remove 30 = .ok (.invokespecial 69, 3) := by decide +kernel
theorem dX8_remove_33 : decode cX8_remove 33 = .ok (.athrow, 1) := by decide +kernel
theorem dX8_remove_34 : decode cX8_remove 34 = .ok (.iconst 1, 1) := by decide +kernel
theorem dX8_remove_35 : decode cX8_remove 35 = .ok (.aload_n 0, 1) := by decide +kernel
theorem dX8_remove_36 : decode cX8_remove 36 = .ok (.getfield 19, 3) := by decide +kernel
theorem dX8_remove_39 : decode cX8_remove 39 = .ok (.aload_n 0, 1) := by decide +kernel
theorem dX8_remove_40 : decode cX8_remove 40 = .ok (.getfield 50, 3) := by decide +kernel
theorem dX8_remove_43 : decode cX8_remove 43 = .ok (.invokevirtual 180, 3) := by decide +kernel
theorem dX8_remove_46 : decode cX8_remove 46 = .ok (.iadd, 1) := by decide +kernel
theorem dX8_remove_47 : decode cX8_remove 47 = .ok (.istore_n 2, 1) := by decide +kernel
theorem dX8_remove_48 : decode cX8_remove 48 = .ok (.aload_n 0, 1) := by decide +kernel
theorem dX8_remove_49 : decode cX8_remove 49 = .ok (.getfield 19, 3) := by decide +kernel
theorem dX8_remove_52 : decode cX8_remove 52 = .ok (.aload_n 0, 1) := by decide +kernel
theorem dX8_remove_53 : decode cX8_remove 53 = .ok (.getfield 50, 3) := by decide +kernel
theorem dX8_remove_56 : decode cX8_remove 56 = .ok (.iload_n 2, 1) := by decide +kernel
theorem dX8_remove_57 : decode cX8_remove 57 = .ok (.invokevirtual 183, 3) := by decide +kernel
theorem dX8_remove_60 : decode cX8_remove 60 = .ok (.aload_n 0, 1) := by decide +kernel
theorem dX8_remove_61 : decode cX8_remove 61 = .ok (.iconst (-1), 1) := by decide +kernel
theorem dX8_remove_62 : decode cX8_remove 62 = .ok (.putfield 50, 3) := by decide +kernel
theorem dX8_remove_65 : decode cX8_remove 65 = .ok (.iload_n 2, 1) := by decide +kernel
theorem dX8_remove_66 : decode cX8_remove 66 = .ok (.ireturn, 1) := by decide +kernel
set_option maxRecDepth 20000 in
theorem ggX8_begin_X2_isFull : GoodIn wsX8_begin wsX2_isFull := goodIn_r _ [14, 15, 99, 100] (by decide +kernel) (by decide +kernel)
set_option maxRecDepth 20000 in
theorem gX8_begin_X2_isFull : GoodIn wsX8_begin (wsV RX8 187 RX2 yX2_isFull wsX2_isFull) := goodIn_app (goodIn_of _ (by decide +kernel)) ggX8_begin_X2_isFull
set_option maxRecDepth 20000 in
theorem ggX8_begin_X8_isTime : GoodIn wsX8_begin wsX8_isTime := goodIn_r _ [19] (by decide +kernel) (by decide +kernel)
set_option maxRecDepth 20000 in
theorem gX8_begin_X8_isTime : GoodIn wsX8_begin (va_wsS RX8 83 yX8_isTime wsX8_isTime) := goodIn_app (goodIn_of _ (by decide +kernel)) ggX8_begin_X8_isTime
set_option maxRecDepth 20000 in
theorem ggX8_begin_X2_latestTime : GoodIn wsX8_begin wsX2_latestTime := goodIn_r _ [23, 15, 24, 25, 26, 27, 13, 28, 29, 99, 100, 101, 102, 103] (by decide +kernel) (by decide +kernel)
set_option maxRecDepth 20000 in
theorem gX8_begin_X2_latestTime : GoodIn wsX8_begin (wsV RX8 193 RX2 yX2_latestTime wsX2_latestTime) := goodIn_app (goodIn_of _ (by decide +kernel)) ggX8_begin_X2_latestTime
set_option maxRecDepth 20000 in
theorem ggX8_begin_X7_start : GoodIn wsX8_begin wsX7_start := goodIn_r _ [34, 35, 36, 37, 38, 39, 40, 41, 42, 43, 44, 45, 46, 47, 48, 49, 50, 51, 52, 53, 54, 55, 56, 57, 58, 59, 60, 61, 62, 63, 64, 65, 66, 67, 68, 69, 70, 71, 72, 73, 74, 75, 76, 77, 78, 79, 80, 81, 104, 105, 106, 107, 108, 109, 110, 111, 112, 113, 114, 115, 116] (by decide +kernel) (by decide +kernel)
set_option maxRecDepth 20000 in
theorem gX8_begin_X7_start : GoodIn wsX8_begin (wsV RX8 198 RX7 yX7_start wsX7_start) := goodIn_app (goodIn_of _ (by decide +kernel)) ggX8_begin_X7_start
set_option maxRecDepth 20000 in
theorem ggX8_begin_X7_operations : GoodIn wsX8_begin wsX7_operations := goodIn_r _ [85, 35, 86, 87, 88, 41, 89, 43, 104, 105, 106, 107, 108, 109] (by decide +kernel) (by decide +kernel)
set_option maxRecDepth 20000 in
theorem gX8_begin_X7_operations : GoodIn wsX8_begin (wsV RX8 202 RX7 yX7_operations wsX7_operations) := goodIn_app (goodIn_of _ (by decide +kernel)) ggX8_begin_X7_operations
theorem dX8_begin_0 : decode cX8_begin 0 = .ok (.aload_n 0, 1) := by decide +kernel
theorem dX8_begin_1 : decode cX8_begin 1 = .ok (.getfield 54, 3) := by decide +kernel
theorem dX8_begin_4 : decode cX8_begin 4 = .ok (.ifCond .ne 13, 3) := by decide +kernel
theorem dX8_begin_7 : decode cX8_begin 7 = .ok (.aload_n 0, 1) := by decide +kernel
theorem dX8_begin_8 : decode cX8_begin 8 = .ok (.getfield 32, 3) := by decide +kernel
theorem dX8_begin_11 : decode cX8_begin 11 = .ok (.invokevirtual 187, 3) := by decide +kernel
theorem dX8_begin_14 : decode cX8_begin 14 = .ok (.ifCond .eq 13, 3) := by decide +kernel
theorem dX8_begin_17 : decode cX8_begin 17 = .ok (.new 65, 3) := by decide +kernel
theorem dX8_begin_20 : decode cX8_begin 20 = .ok (.dup, 1) := by decide +kernel
theorem dX8_begin_21 : decode cX8_begin 21 = .ok (.ldc 191, 2) := by decide +kernel
theorem dX8_begin_23 : decode cX8_begin 23 = .ok (.invokespecial 69, 3) := by decide +kernel
theorem dX8_begin_26 : decode cX8_begin 26 = .ok (.athrow, 1) := by decide +kernel
theorem dX8_begin_27 : decode cX8_begin 27 = .ok (.iload_n 1, 1) := by decide +kernel
theorem dX8_begin_28 : decode cX8_begin 28 = .ok (.invokestatic 83, 3) := by decide +kernel
theorem dX8_begin_31 : decode cX8_begin 31 = .ok (.ifCond .eq 14, 3) := by decide +kernel
theorem dX8_begin_34 : decode cX8_begin 34 = .ok (.iload_n 1, 1) := by decide +kernel
theorem dX8_begin_35 : decode cX8_begin 35 = .ok (.aload_n 0, 1) := by decide +kernel
theorem dX8_begin_36 : decode cX8_begin 36 = .ok (.getfield 32, 3) := by decide +kernel
theorem dX8_begin_39 : decode cX8_begin 39 = .ok (.invokevirtual 193, 3) := by decide +kernel
theorem dX8_begin_42 : decode cX8_begin 42 = .ok (.if_icmp .gt 13, 3) := by decide +kernel
theorem dX8_begin_45 : decode cX8_begin 45 = .ok (.new 92, 3) := by decide +kernel
theorem dX8_begin_48 : decode cX8_begin 48 = .ok (.dup, 1) := by decide +kernel
theorem dX8_begin_49 : decode cX8_begin 49 = .ok (.ldc 196, 2) := by decide +kernel
theorem dX8_begin_51 : decode cX8_begin 51 = .ok (.invokespecial 96, 3) := by decide +kernel
theorem dX8_begin_54 : decode cX8_begin 54 = .ok (.athrow, 1) := by decide +kernel
theorem dX8_begin_55 : decode cX8_begin 55 = .ok (.aload_n 0, 1) := by decide +kernel
theorem dX8_begin_56 : decode cX8_begin 56 = .ok (.getfield 39, 3) := by decide +kernel
theorem dX8_begin_59 : decode cX8_begin 59 = .ok (.iload_n 1, 1) := by decide +kernel
theorem dX8_begin_60 : decode cX8_begin 60 = .ok (.aload_n 0, 1) := by decide +kernel
theorem dX8_begin_61 : decode cX8_begin 61 = .ok (.getfield 23, 3) := by decide +kernel
theorem dX8_begin_64 : decode cX8_begin 64 = .ok (.aload_n 0, 1) := by decide +kernel
theorem dX8_begin_65 : decode cX8_begin 65 = .ok (.getfield 19, 3) := by decide +kernel
theorem dX8_begin_68 : decode cX8_begin 68 = .ok (.invokevirtual 198, 3) := by decide +kernel
theorem dX8_begin_71 : decode cX8_begin 71 = .ok (.aload_n 0, 1) := by decide +kernel
theorem dX8_begin_72 : decode cX8_begin 72 = .ok (.iconst 1, 1) := by decide +kernel
theorem dX8_begin_73 : decode cX8_begin 73 = .ok (.putfield 54, 3) := by decide +kernel
theorem dX8_begin_76 : decode cX8_begin 76 = .ok (.aload_n 0, 1) := by decide +kernel
theorem dX8_begin_77 : decode cX8_begin 77 = .ok (.getfield 39, 3) := by decide +kernel
theorem dX8_begin_80 : decode cX8_begin 80 = .ok (.invokevirtual 202, 3) := by decide +kernel
theorem dX8_begin_83 : decode cX8_begin 83 = .ok (.ireturn, 1) := by decide +kernel
set_option maxRecDepth 20000 in
theorem ggX8_step_X8_isOperationCount : GoodIn wsX8_step wsX8_isOperationCount := goodIn_r _ [16] (by decide +kernel) (by decide +kernel)
set_option maxRecDepth 20000 in
theorem gX8_step_X8_isOperationCount : GoodIn wsX8_step (va_wsS RX8 207 yX8_isOperationCount wsX8_isOperationCount) := goodIn_app (goodIn_of _ (by decide +kernel)) ggX8_step_X8_isOperationCount
set_option maxRecDepth 20000 in
theorem ggX8_step_X7_operations : GoodIn wsX8_step wsX7_operations := goodIn_r _ [21, 22, 23, 24, 25, 26, 27, 28, 137, 138, 139, 140, 141, 142] (by decide +kernel) (by decide +kernel)
set_option maxRecDepth 20000 in
theorem gX8_step_X7_operations : GoodIn wsX8_step (wsV RX8 202 RX7 yX7_operations wsX7_operations) := goodIn_app (goodIn_of _ (by decide +kernel)) ggX8_step_X7_operations
set_option maxRecDepth 20000 in
theorem ggX8_step_X7_doNext : GoodIn wsX8_step wsX7_doNext := goodIn_r _ [32, 33, 22, 34, 35, 36, 20, 37, 23, 24, 25, 26, 27, 28, 38, 39, 40, 41, 42, 43, 44, 45, 46, 47, 48, 49, 50, 51, 52, 53, 54, 55, 56, 57, 58, 59, 60, 61, 62, 63, 64, 65, 66, 67, 68, 69, 70, 71, 72, 73, 74, 75, 76, 77, 78, 79, 80, 81, 82, 83, 84, 85, 86, 87, 88, 89, 90, 137, 138, 139, 140, 141, 142, 143, 144, 145, 146, 147, 148, 149] (by decide +kernel) (by decide +kernel)
set_option maxRecDepth 20000 in
theorem gX8_step_X7_doNext : GoodIn wsX8_step (wsV RX8 219 RX7 yX7_doNext wsX7_doNext) := goodIn_app (goodIn_of _ (by decide +kernel)) ggX8_step_X7_doNext
set_option maxRecDepth 20000 in
theorem ggX8_step_X8_commit : GoodIn wsX8_step wsX8_commit := goodIn_r _ [94, 95, 96, 97, 98, 6, 99, 100, 12, 5, 101, 24, 25, 26, 27, 28, 102, 103, 104, 105, 106, 107, 108, 109, 110, 111, 54, 112, 113, 114, 115, 116, 66, 61, 117, 118, 119, 120, 121, 122, 123, 124, 125, 126, 127, 128, 129, 130, 131, 132, 133, 134, 135, 136, 150, 151, 152, 137, 138, 139, 140, 141, 142, 148, 149, 153, 154] (by decide +kernel) (by decide +kernel)
set_option maxRecDepth 20000 in
theorem gX8_step_X8_commit : GoodIn wsX8_step (wsV RX8 223 RX8 yX8_commit wsX8_commit) := goodIn_app (goodIn_of _ (by decide +kernel)) ggX8_step_X8_commit
theorem dX8_step_0 : decode cX8_step 0 = .ok (.aload_n 0, 1) := by decide +kernel
theorem dX8_step_1 : decode cX8_step 1 = .ok (.getfield 54, 3) := by decide +kernel
theorem dX8_step_4 : decode cX8_step 4 = .ok (.iconst 1, 1) := by decide +kernel
theorem dX8_step_5 : decode cX8_step 5 = .ok (.if_icmp .eq 13, 3) := by decide +kernel
theorem dX8_step_8 : decode cX8_step 8 = .ok (.new 65, 3) := by decide +kernel
theorem dX8_step_11 : decode cX8_step 11 = .ok (.dup, 1) := by decide +kernel
theorem dX8_step_12 : decode cX8_step 12 = .ok (.ldc 205, 2) := by decide +kernel
theorem dX8_step_14 : decode cX8_step 14 = .ok (.invokespecial 69, 3) := by decide +kernel
theorem dX8_step_17 : decode cX8_step 17 = .ok (.athrow, 1) := by decide +kernel
theorem dX8_step_18 : decode cX8_step 18 = .ok (.iload_n 1, 1) := by decide +kernel
theorem dX8_step_19 : decode cX8_step 19 = .ok (.invokestatic 207, 3) := by decide +kernel
theorem dX8_step_22 : decode cX8_step 22 = .ok (.ifCond .ne 13, 3) := by decide +kernel
theorem dX8_step_25 : decode cX8_step 25 = .ok (.new 92, 3) := by decide +kernel
theorem dX8_step_28 : decode cX8_step 28 = .ok (.dup, 1) := by decide +kernel
theorem dX8_step_29 : decode cX8_step 29 = .ok (.ldc 210, 2) := by decide +kernel
theorem dX8_step_31 : decode cX8_step 31 = .ok (.invokespecial 96, 3) := by decide +kernel
theorem dX8_step_34 : decode cX8_step 34 = .ok (.athrow, 1) := by decide +kernel
theorem dX8_step_35 : decode cX8_step 35 = .ok (.iload_n 1, 1) := by decide +kernel
theorem dX8_step_36 : decode cX8_step 36 = .ok (.aload_n 0, 1) := by decide +kernel
theorem dX8_step_37 : decode cX8_step 37 = .ok (.getfield 39, 3) := by decide +kernel
theorem dX8_step_40 : decode cX8_step 40 = .ok (.invokevirtual 202, 3) := by decide +kernel
theorem dX8_step_43 : decode cX8_step 43 = .ok (.aload_n 0, 1) := by decide +kernel
theorem dX8_step_44 : decode cX8_step 44 = .ok (.getfield 39, 3) := by decide +kernel
theorem dX8_step_47 : decode cX8_step 47 = .ok (.getfield 212, 3) := by decide +kernel
theorem dX8_step_50 : decode cX8_step 50 = .ok (.isub, 1) := by decide +kernel
theorem dX8_step_51 : decode cX8_step 51 = .ok (.invokestatic 215, 3) := by decide +kernel
theorem dX8_step_54 : decode cX8_step 54 = .ok (.istore_n 2, 1) := by decide +kernel
theorem dX8_step_55 : decode cX8_step 55 = .ok (.iconst 0, 1) := by decide +kernel
theorem dX8_step_56 : decode cX8_step 56 = .ok (.istore_n 3, 1) := by decide +kernel
theorem dX8_step_57 : decode cX8_step 57 = .ok (.iload_n 3, 1) := by decide +kernel
theorem dX8_step_58 : decode cX8_step 58 = .ok (.iload_n 2, 1) := by decide +kernel
theorem dX8_step_59 : decode cX8_step 59 = .ok (.if_icmp .ge 20, 3) := by decide +kernel
theorem dX8_step_62 : decode cX8_step 62 = .ok (.aload_n 0, 1) := by decide +kernel
theorem dX8_step_63 : decode cX8_step 63 = .ok (.getfield 39, 3) := by decide +kernel
theorem dX8_step_66 : decode cX8_step 66 = .ok (.aload_n 0, 1) := by decide +kernel
theorem dX8_step_67 : decode cX8_step 67 = .ok (.getfield 23, 3) := by decide +kernel
theorem dX8_step_70 : decode cX8_step 70 = .ok (.invokevirtual 219, 3) := by decide +kernel
theorem dX8_step_73 : decode cX8_step 73 = .ok (.iinc 3 1, 3) := by decide +kernel
theorem dX8_step_76 : decode cX8_step 76 = .ok (.goto (-19), 3) := by decide +kernel
theorem dX8_step_79 : decode cX8_step 79 = .ok (.aload_n 0, 1) := by decide +kernel
theorem dX8_step_80 : decode cX8_step 80 = .ok (.getfield 39, 3) := by decide +kernel
theorem dX8_step_83 : decode cX8_step 83 = .ok (.getfield 212, 3) := by decide +kernel
theorem dX8_step_86 : decode cX8_step 86 = .ok (.aload_n 0, 1) := by decide +kernel
theorem dX8_step_87 : decode cX8_step 87 = .ok (.getfield 39, 3) := by decide +kernel
theorem dX8_step_90 : decode cX8_step 90 = .ok (.invokevirtual 202, 3) := by decide +kernel
theorem dX8_step_93 : decode cX8_step 93 = .ok (.if_icmp .ne 7, 3) := by decide +kernel
theorem dX8_step_96 : decode cX8_step 96 = .ok (.aload_n 0, 1) := by decide +kernel
theorem dX8_step_97 : decode cX8_step 97 = .ok (.invokevirtual 223, 3) := by decide +kernel
theorem dX8_step_100 : decode cX8_step 100 = .ok (.iload_n 2, 1) := by decide +kernel
theorem dX8_step_101 : decode cX8_step 101 = .ok (.ireturn, 1) := by decide +kernel
theorem dX8_crash_0 : decode cX8_crash 0 = .ok (.aload_n 0, 1) := by decide +kernel
theorem dX8_crash_1 : decode cX8_crash 1 = .ok (.getfield 54, 3) := by decide +kernel
theorem dX8_crash_4 : decode cX8_crash 4 = .ok (.iconst 1, 1) := by decide +kernel
theorem dX8_crash_5 : decode cX8_crash 5 = .ok (.if_icmp .eq 13, 3) := by decide +kernel
theorem dX8_crash_8 : decode cX8_crash 8 = .ok (.new 65, 3) := by decide +kernel
theorem dX8_crash_11 : decode cX8_crash 11 = .ok (.dup, 1) := by decide +kernel
theorem dX8_crash_12 : decode cX8_crash 12 = .ok (.ldc 205, 2) := by decide +kernel
theorem dX8_crash_14 : decode cX8_crash 14 = .ok (.invokespecial 69, 3) := by decide +kernel
theorem dX8_crash_17 : decode cX8_crash 17 = .ok (.athrow, 1) := by decide +kernel
theorem dX8_crash_18 : decode cX8_crash 18 = .ok (.aload_n 0, 1) := by decide +kernel
theorem dX8_crash_19 : decode cX8_crash 19 = .ok (.iconst 2, 1) := by decide +kernel
theorem dX8_crash_20 : decode cX8_crash 20 = .ok (.putfield 54, 3) := by decide +kernel
theorem dX8_crash_23 : decode cX8_crash 23 = .ok (.return_, 1) := by decide +kernel
set_option maxRecDepth 20000 in
theorem ggX8_regress_X8_isOperationCount : GoodIn wsX8_regress wsX8_isOperationCount := goodIn_r _ [16] (by decide +kernel) (by decide +kernel)
set_option maxRecDepth 20000 in
theorem gX8_regress_X8_isOperationCount : GoodIn wsX8_regress (va_wsS RX8 207 yX8_isOperationCount wsX8_isOperationCount) := goodIn_app (goodIn_of _ (by decide +kernel)) ggX8_regress_X8_isOperationCount
set_option maxRecDepth 20000 in
theorem ggX8_regress_X7_takeBackLast : GoodIn wsX8_regress wsX7_takeBackLast := goodIn_r _ [21, 22, 23, 24, 25, 26, 20, 27, 28, 29, 30, 31, 32, 33, 34, 35, 36, 37, 38, 39, 40, 41, 42, 43, 44, 45, 46, 47, 48, 49, 50, 51, 52, 53, 54, 55, 56, 57, 58, 59, 60, 61, 62, 63, 64, 65, 66, 67, 68, 69, 70, 71, 72, 73, 74, 75, 76, 77, 78, 79, 80, 81, 82, 83, 84, 85, 86, 96, 97, 98, 99, 100, 101, 102, 103, 104, 105, 106, 107, 108] (by decide +kernel) (by decide +kernel)
set_option maxRecDepth 20000 in
theorem gX8_regress_X7_takeBackLast : GoodIn wsX8_regress (wsV RX8 228 RX7 yX7_takeBackLast wsX7_takeBackLast) := goodIn_app (goodIn_of _ (by decide +kernel)) ggX8_regress_X7_takeBackLast
theorem dX8_regress_0 : decode cX8_regress 0 = .ok (.aload_n 0, 1) := by decide +kernel
theorem dX8_regress_1 : decode cX8_regress 1 = .ok (.getfield 54, 3) := by decide +kernel
theorem dX8_regress_4 : decode cX8_regress 4 = .ok (.iconst 2, 1) := by decide +kernel
theorem dX8_regress_5 : decode cX8_regress 5 = .ok (.if_icmp .eq 13, 3) := by decide +kernel
theorem dX8_regress_8 : decode cX8_regress 8 = .ok (.new 65, 3) := by decide +kernel
theorem dX8_regress_11 : decode cX8_regress 11 = .ok (.dup, 1) := by decide +kernel
theorem dX8_regress_12 : decode cX8_regress 12 = .ok (.ldc 226, 2) := by decide +kernel
theorem dX8_regress_14 : decode cX8_regress 14 = .ok (.invokespecial 69, 3) := by decide +kernel
theorem dX8_regress_17 : decode cX8_regress 17 = .ok (.athrow, 1) := by decide +kernel
theorem dX8_regress_18 : decode cX8_regress 18 = .ok (.iload_n 1, 1) := by decide +kernel
theorem dX8_regress_19 : decode cX8_regress 19 = .ok (.invokestatic 207, 3) := by decide +kernel
theorem dX8_regress_22 : decode cX8_regress 22 = .ok (.ifCond .ne 13, 3) := by decide +kernel
theorem dX8_regress_25 : decode cX8_regress 25 = .ok (.new 92, 3) := by decide +kernel
theorem dX8_regress_28 : decode cX8_regress 28 = .ok (.dup, 1) := by decide +kernel
theorem dX8_regress_29 : decode cX8_regress 29 = .ok (.ldc 210, 2) := by decide +kernel
theorem dX8_regress_31 : decode cX8_regress 31 = .ok (.invokespecial 96, 3) := by decide +kernel
theorem dX8_regress_34 : decode cX8_regress 34 = .ok (.athrow, 1) := by decide +kernel
theorem dX8_regress_35 : decode cX8_regress 35 = .ok (.iload_n 1, 1) := by decide +kernel
theorem dX8_regress_36 : decode cX8_regress 36 = .ok (.aload_n 0, 1) := by decide +kernel
theorem dX8_regress_37 : decode cX8_regress 37 = .ok (.getfield 39, 3) := by decide +kernel
theorem dX8_regress_40 : decode cX8_regress 40 = .ok (.getfield 212, 3) := by decide +kernel
theorem dX8_regress_43 : decode cX8_regress 43 = .ok (.invokestatic 215, 3) := by decide +kernel
theorem dX8_regress_46 : decode cX8_regress 46 = .ok (.istore_n 2, 1) := by decide +kernel
theorem dX8_regress_47 : decode cX8_regress 47 = .ok (.iconst 0, 1) := by decide +kernel
theorem dX8_regress_48 : decode cX8_regress 48 = .ok (.istore_n 3, 1) := by decide +kernel
theorem dX8_regress_49 : decode cX8_regress 49 = .ok (.iload_n 3, 1) := by decide +kernel
theorem dX8_regress_50 : decode cX8_regress 50 = .ok (.iload_n 2, 1) := by decide +kernel
theorem dX8_regress_51 : decode cX8_regress 51 = .ok (.if_icmp .ge 20, 3) := by decide +kernel
theorem dX8_regress_54 : decode cX8_regress 54 = .ok (.aload_n 0, 1) := by decide +kernel
theorem dX8_regress_55 : decode cX8_regress 55 = .ok (.getfield 39, 3) := by decide +kernel
theorem dX8_regress_58 : decode cX8_regress 58 = .ok (.aload_n 0, 1) := by decide +kernel
theorem dX8_regress_59 : decode cX8_regress 59 = .ok (.getfield 23, 3) := by decide +kernel
theorem dX8_regress_62 : decode cX8_regress 62 = .ok (.invokevirtual 228, 3) := by decide +kernel
theorem dX8_regress_65 : decode cX8_regress 65 = .ok (.iinc 3 1, 3) := by decide +kernel
theorem dX8_regress_68 : decode cX8_regress 68 = .ok (.goto (-19), 3) := by decide +kernel
theorem dX8_regress_71 : decode cX8_regress 71 = .ok (.aload_n 0, 1) := by decide +kernel
theorem dX8_regress_72 : decode cX8_regress 72 = .ok (.getfield 39, 3) := by decide +kernel
theorem dX8_regress_75 : decode cX8_regress 75 = .ok (.getfield 212, 3) := by decide +kernel
theorem dX8_regress_78 : decode cX8_regress 78 = .ok (.ifCond .ne 8, 3) := by decide +kernel
theorem dX8_regress_81 : decode cX8_regress 81 = .ok (.aload_n 0, 1) := by decide +kernel
theorem dX8_regress_82 : decode cX8_regress 82 = .ok (.iconst 0, 1) := by decide +kernel
theorem dX8_regress_83 : decode cX8_regress 83 = .ok (.putfield 54, 3) := by decide +kernel
theorem dX8_regress_86 : decode cX8_regress 86 = .ok (.iload_n 2, 1) := by decide +kernel
theorem dX8_regress_87 : decode cX8_regress 87 = .ok (.ireturn, 1) := by decide +kernel
set_option maxRecDepth 20000 in
theorem ggX8_restore_X2_findAsOf : GoodIn wsX8_restore wsX2_findAsOf := goodIn_r _ [11, 12, 13, 14, 42, 43, 39, 40, 41] (by decide +kernel) (by decide +kernel)
set_option maxRecDepth 20000 in
theorem gX8_restore_X2_findAsOf : GoodIn wsX8_restore (wsV RX8 231 RX2 yX2_findAsOf wsX2_findAsOf) := goodIn_app (goodIn_of _ (by decide +kernel)) ggX8_restore_X2_findAsOf
set_option maxRecDepth 20000 in
theorem ggX8_restore_X2_get : GoodIn wsX8_restore wsX2_get := goodIn_r _ [18, 12, 13, 42, 43] (by decide +kernel) (by decide +kernel)
set_option maxRecDepth 20000 in
theorem gX8_restore_X2_get : GoodIn wsX8_restore (wsV RX8 234 RX2 yX2_get wsX2_get) := goodIn_app (goodIn_of _ (by decide +kernel)) ggX8_restore_X2_get
set_option maxRecDepth 20000 in
theorem ggX8_restore_X6_copyFrom : GoodIn wsX8_restore wsX6_copyFrom := goodIn_r _ [23, 24, 25, 44, 45] (by decide +kernel) (by decide +kernel)
set_option maxRecDepth 20000 in
theorem gX8_restore_X6_copyFrom : GoodIn wsX8_restore (wsV RX8 244 RX6 yX6_copyFrom wsX6_copyFrom) := goodIn_app (goodIn_of _ (by decide +kernel)) ggX8_restore_X6_copyFrom
set_option maxRecDepth 20000 in
theorem ggX8_restore_X6_size : GoodIn wsX8_restore wsX6_size := goodIn_r _ [29, 24, 44, 45] (by decide +kernel) (by decide +kernel)
set_option maxRecDepth 20000 in
theorem gX8_restore_X6_size : GoodIn wsX8_restore (wsV RX8 104 RX6 yX6_size wsX6_size) := goodIn_app (goodIn_of _ (by decide +kernel)) ggX8_restore_X6_size
theorem dX8_restore_0 : decode cX8_restore 0 = .ok (.aload_n 0, 1) := by decide +kernel
theorem dX8_restore_1 : decode cX8_restore 1 = .ok (.getfield 32, 3) := by decide +kernel
theorem dX8_restore_4 : decode cX8_restore 4 = .ok (.aload_n 0, 1) := by decide +kernel
theorem dX8_restore_5 : decode cX8_restore 5 = .ok (.getfield 32, 3) := by decide +kernel
theorem dX8_restore_8 : decode cX8_restore 8 = .ok (.iload_n 1, 1) := by decide +kernel
theorem dX8_restore_9 : decode cX8_restore 9 = .ok (.invokevirtual 231, 3) := by decide +kernel
theorem dX8_restore_12 : decode cX8_restore 12 = .ok (.invokevirtual 234, 3) := by decide +kernel
theorem dX8_restore_15 : decode cX8_restore 15 = .ok (.astore_n 2, 1) := by decide +kernel
theorem dX8_restore_16 : decode cX8_restore 16 = .ok (.aload_n 0, 1) := by decide +kernel
theorem dX8_restore_17 : decode cX8_restore 17 = .ok (.getfield 54, 3) := by decide +kernel
theorem dX8_restore_20 : decode cX8_restore 20 = .ok (.ifCond .ne 7, 3) := by decide +kernel
theorem dX8_restore_23 : decode cX8_restore 23 = .ok (.aload_n 2, 1) := by decide +kernel
theorem dX8_restore_24 : decode cX8_restore 24 = .ok (.ifnonnull 13, 3) := by decide +kernel
theorem dX8_restore_27 : decode cX8_restore 27 = .ok (.new 65, 3) := by decide +kernel
theorem dX8_restore_30 : decode cX8_restore 30 = .ok (.dup, 1) := by decide +kernel
theorem dX8_restore_31 : decode cX8_restore 31 = .ok (.ldc 237, 2) := by decide +kernel
theorem dX8_restore_33 : decode cX8_restore 33 = .ok (.invokespecial 69, 3) := by decide +kernel
theorem dX8_restore_36 : decode cX8_restore 36 = .ok (.athrow, 1) := by decide +kernel
theorem dX8_restore_37 : decode cX8_restore 37 = .ok (.aload_n 0, 1) := by decide +kernel
theorem dX8_restore_38 : decode cX8_restore 38 = .ok (.getfield 26, 3) := by decide +kernel
theorem dX8_restore_41 : decode cX8_restore 41 = .ok (.aload_n 2, 1) := by decide +kernel
theorem dX8_restore_42 : decode cX8_restore 42 = .ok (.getfield 239, 3) := by decide +kernel
theorem dX8_restore_45 : decode cX8_restore 45 = .ok (.invokevirtual 244, 3) := by decide +kernel
theorem dX8_restore_48 : decode cX8_restore 48 = .ok (.aload_n 0, 1) := by decide +kernel
theorem dX8_restore_49 : decode cX8_restore 49 = .ok (.getfield 26, 3) := by decide +kernel
theorem dX8_restore_52 : decode cX8_restore 52 = .ok (.invokevirtual 104, 3) := by decide +kernel
theorem dX8_restore_55 : decode cX8_restore 55 = .ok (.ireturn, 1) := by decide +kernel
set_option maxRecDepth 20000 in
theorem ggX8_prune_X2_findAsOf : GoodIn wsX8_prune wsX2_findAsOf := goodIn_r _ [9, 10, 11, 12, 26, 27, 28, 29, 30] (by decide +kernel) (by decide +kernel)
set_option maxRecDepth 20000 in
theorem gX8_prune_X2_findAsOf : GoodIn wsX8_prune (wsV RX8 231 RX2 yX2_findAsOf wsX2_findAsOf) := goodIn_app (goodIn_of _ (by decide +kernel)) ggX8_prune_X2_findAsOf
set_option maxRecDepth 20000 in
theorem ggX8_prune_X2_forgetAheadOf : GoodIn wsX8_prune wsX2_forgetAheadOf := goodIn_r _ [16, 10, 11, 26, 27] (by decide +kernel) (by decide +kernel)
set_option maxRecDepth 20000 in
theorem gX8_prune_X2_forgetAheadOf : GoodIn wsX8_prune (wsV RX8 249 RX2 yX2_forgetAheadOf wsX2_forgetAheadOf) := goodIn_app (goodIn_of _ (by decide +kernel)) ggX8_prune_X2_forgetAheadOf
theorem dX8_prune_0 : decode cX8_prune 0 = .ok (.aload_n 0, 1) := by decide +kernel
theorem dX8_prune_1 : decode cX8_prune 1 = .ok (.getfield 54, 3) := by decide +kernel
theorem dX8_prune_4 : decode cX8_prune 4 = .ok (.ifCond .eq 13, 3) := by decide +kernel
theorem dX8_prune_7 : decode cX8_prune 7 = .ok (.new 65, 3) := by decide +kernel
theorem dX8_prune_10 : decode cX8_prune 10 = .ok (.dup, 1) := by decide +kernel
theorem dX8_prune_11 : decode cX8_prune 11 = .ok (.ldc 247, 2) := by decide +kernel
theorem dX8_prune_13 : decode cX8_prune 13 = .ok (.invokespecial 69, 3) := by decide +kernel
theorem dX8_prune_16 : decode cX8_prune 16 = .ok (.athrow, 1) := by decide +kernel
theorem dX8_prune_17 : decode cX8_prune 17 = .ok (.aload_n 0, 1) := by decide +kernel
theorem dX8_prune_18 : decode cX8_prune 18 = .ok (.getfield 32, 3) := by decide +kernel
theorem dX8_prune_21 : decode cX8_prune 21 = .ok (.aload_n 0, 1) := by decide +kernel
theorem dX8_prune_22 : decode cX8_prune 22 = .ok (.getfield 32, 3) := by decide +kernel
theorem dX8_prune_25 : decode cX8_prune 25 = .ok (.iload_n 1, 1) := by decide +kernel
theorem dX8_prune_26 : decode cX8_prune 26 = .ok (.invokevirtual 231, 3) := by decide +kernel
theorem dX8_prune_29 : decode cX8_prune 29 = .ok (.invokevirtual 249, 3) := by decide +kernel
theorem dX8_prune_32 : decode cX8_prune 32 = .ok (.ireturn, 1) := by decide +kernel
set_option maxRecDepth 20000 in
theorem ggX8_differ_X0_find : GoodIn wsX8_differ wsX0_find := goodIn_r _ [8, 9, 10, 11, 12, 13, 14, 15, 16, 17, 18, 19, 20, 21, 22, 7, 23, 24, 25, 26, 27, 28, 29, 30, 31, 32, 33, 34, 35, 36, 37, 38, 39, 40, 41, 42, 43, 44, 45, 46, 47, 61, 62, 63, 64, 65, 66, 67, 68, 69, 70] (by decide +kernel) (by decide +kernel)
set_option maxRecDepth 20000 in
theorem gX8_differ_X0_find : GoodIn wsX8_differ (wsV RX8 252 RX0 yX0_find wsX0_find) := goodIn_app (goodIn_of _ (by decide +kernel)) ggX8_differ_X0_find
set_option maxRecDepth 20000 in
theorem ggX8_differ_X0_size : GoodIn wsX8_differ wsX0_size := goodIn_r _ [51, 9, 61, 62, 63] (by decide +kernel) (by decide +kernel)
set_option maxRecDepth 20000 in
theorem gX8_differ_X0_size : GoodIn wsX8_differ (wsV RX8 255 RX0 yX0_size wsX0_size) := goodIn_app (goodIn_of _ (by decide +kernel)) ggX8_differ_X0_size
theorem dX8_differ_0 : decode cX8_differ 0 = .ok (.aload_n 0, 1) := by decide +kernel
theorem dX8_differ_1 : decode cX8_differ 1 = .ok (.getfield 46, 3) := by decide +kernel
theorem dX8_differ_4 : decode cX8_differ 4 = .ok (.aload_n 0, 1) := by decide +kernel
theorem dX8_differ_5 : decode cX8_differ 5 = .ok (.getfield 23, 3) := by decide +kernel
theorem dX8_differ_8 : decode cX8_differ 8 = .ok (.aload_n 0, 1) := by decide +kernel
theorem dX8_differ_9 : decode cX8_differ 9 = .ok (.getfield 19, 3) := by decide +kernel
theorem dX8_differ_12 : decode cX8_differ 12 = .ok (.invokevirtual 252, 3) := by decide +kernel
theorem dX8_differ_15 : decode cX8_differ 15 = .ok (.aload_n 0, 1) := by decide +kernel
theorem dX8_differ_16 : decode cX8_differ 16 = .ok (.getfield 46, 3) := by decide +kernel
theorem dX8_differ_19 : decode cX8_differ 19 = .ok (.invokevirtual 255, 3) := by decide +kernel
theorem dX8_differ_22 : decode cX8_differ 22 = .ok (.ireturn, 1) := by decide +kernel
set_option maxRecDepth 20000 in
theorem ggX8_entry_X8_entryOf : GoodIn wsX8_entry wsX8_entryOf := goodIn_r _ [10, 11, 12, 13, 14, 15, 16, 17, 18, 19, 20, 26, 27, 28, 29, 30, 31, 32, 33, 34, 35, 36] (by decide +kernel) (by decide +kernel)
set_option maxRecDepth 20000 in
theorem gX8_entry_X8_entryOf : GoodIn wsX8_entry (wsV RX8 256 RX8 yX8_entryOf wsX8_entryOf) := goodIn_app (goodIn_of _ (by decide +kernel)) ggX8_entry_X8_entryOf
theorem dX8_entry_0 : decode cX8_entry 0 = .ok (.aload_n 0, 1) := by decide +kernel
theorem dX8_entry_1 : decode cX8_entry 1 = .ok (.iload_n 1, 1) := by decide +kernel
theorem dX8_entry_2 : decode cX8_entry 2 = .ok (.iload_n 2, 1) := by decide +kernel
theorem dX8_entry_3 : decode cX8_entry 3 = .ok (.invokevirtual 256, 3) := by decide +kernel
theorem dX8_entry_6 : decode cX8_entry 6 = .ok (.astore 4, 2) := by decide +kernel
theorem dX8_entry_8 : decode cX8_entry 8 = .ok (.aload 4, 2) := by decide +kernel
theorem dX8_entry_10 : decode cX8_entry 10 = .ok (.ifnonnull 5, 3) := by decide +kernel
theorem dX8_entry_13 : decode cX8_entry 13 = .ok (.iconst (-1), 1) := by decide +kernel
theorem dX8_entry_14 : decode cX8_entry 14 = .ok (.ireturn, 1) := by decide +kernel
theorem dX8_entry_15 : decode cX8_entry 15 = .ok (.iload_n 3, 1) := by decide +kernel
theorem dX8_entry_16 : decode cX8_entry 16 = .ok (.tableswitch 68 0 4 #[36, 42, 48, 54, 61], 36) := by decide +kernel
theorem dX8_entry_52 : decode cX8_entry 52 = .ok (.aload 4, 2) := by decide +kernel
theorem dX8_entry_54 : decode cX8_entry 54 = .ok (.getfield 123, 3) := by decide +kernel
theorem dX8_entry_57 : decode cX8_entry 57 = .ok (.ireturn, 1) := by decide +kernel
theorem dX8_entry_58 : decode cX8_entry 58 = .ok (.aload 4, 2) := by decide +kernel
theorem dX8_entry_60 : decode cX8_entry 60 = .ok (.getfield 259, 3) := by decide +kernel
theorem dX8_entry_63 : decode cX8_entry 63 = .ok (.ireturn, 1) := by decide +kernel
theorem dX8_entry_64 : decode cX8_entry 64 = .ok (.aload 4, 2) := by decide +kernel
theorem dX8_entry_66 : decode cX8_entry 66 = .ok (.getfield 262, 3) := by decide +kernel
theorem dX8_entry_69 : decode cX8_entry 69 = .ok (.ireturn, 1) := by decide +kernel
theorem dX8_entry_70 : decode cX8_entry 70 = .ok (.aload 4, 2) := by decide +kernel
theorem dX8_entry_72 : decode cX8_entry 72 = .ok (.getfield 128, 3) := by decide +kernel
theorem dX8_entry_75 : decode cX8_entry 75 = .ok (.arraylength, 1) := by decide +kernel
theorem dX8_entry_76 : decode cX8_entry 76 = .ok (.ireturn, 1) := by decide +kernel
theorem dX8_entry_77 : decode cX8_entry 77 = .ok (.aload 4, 2) := by decide +kernel
theorem dX8_entry_79 : decode cX8_entry 79 = .ok (.getfield 265, 3) := by decide +kernel
theorem dX8_entry_82 : decode cX8_entry 82 = .ok (.arraylength, 1) := by decide +kernel
theorem dX8_entry_83 : decode cX8_entry 83 = .ok (.ireturn, 1) := by decide +kernel
theorem dX8_entry_84 : decode cX8_entry 84 = .ok (.iconst (-1), 1) := by decide +kernel
theorem dX8_entry_85 : decode cX8_entry 85 = .ok (.ireturn, 1) := by decide +kernel
set_option maxRecDepth 20000 in
theorem ggX8_at_X8_entryOf : GoodIn wsX8_at wsX8_entryOf := goodIn_r _ [7, 8, 9, 10, 11, 12, 13, 14, 15, 16, 17, 23, 24, 25, 26, 27, 28, 29, 30, 31, 32, 33] (by decide +kernel) (by decide +kernel)
set_option maxRecDepth 20000 in
theorem gX8_at_X8_entryOf : GoodIn wsX8_at (wsV RX8 256 RX8 yX8_entryOf wsX8_entryOf) := goodIn_app (goodIn_of _ (by decide +kernel)) ggX8_at_X8_entryOf
theorem dX8_at_0 : decode cX8_at 0 = .ok (.aload_n 0, 1) := by decide +kernel
theorem dX8_at_1 : decode cX8_at 1 = .ok (.iload_n 1, 1) := by decide +kernel
theorem dX8_at_2 : decode cX8_at 2 = .ok (.iload_n 2, 1) := by decide +kernel
theorem dX8_at_3 : decode cX8_at 3 = .ok (.invokevirtual 256, 3) := by decide +kernel
theorem dX8_at_6 : decode cX8_at 6 = .ok (.astore 5, 2) := by decide +kernel
theorem dX8_at_8 : decode cX8_at 8 = .ok (.aload 5, 2) := by decide +kernel
theorem dX8_at_10 : decode cX8_at 10 = .ok (.ifnonnull 5, 3) := by decide +kernel
theorem dX8_at_13 : decode cX8_at 13 = .ok (.iconst (-1), 1) := by decide +kernel
theorem dX8_at_14 : decode cX8_at 14 = .ok (.ireturn, 1) := by decide +kernel
theorem dX8_at_15 : decode cX8_at 15 = .ok (.iload_n 3, 1) := by decide +kernel
theorem dX8_at_16 : decode cX8_at 16 = .ok (.ifCond .eq 11, 3) := by decide +kernel
theorem dX8_at_19 : decode cX8_at 19 = .ok (.aload 5, 2) := by decide +kernel
theorem dX8_at_21 : decode cX8_at 21 = .ok (.getfield 265, 3) := by decide +kernel
theorem dX8_at_24 : decode cX8_at 24 = .ok (.goto 8, 3) := by decide +kernel
theorem dX8_at_27 : decode cX8_at 27 = .ok (.aload 5, 2) := by decide +kernel
theorem dX8_at_29 : decode cX8_at 29 = .ok (.getfield 128, 3) := by decide +kernel
theorem dX8_at_32 : decode cX8_at 32 = .ok (.astore 6, 2) := by decide +kernel
theorem dX8_at_34 : decode cX8_at 34 = .ok (.iload 4, 2) := by decide +kernel
theorem dX8_at_36 : decode cX8_at 36 = .ok (.ifCond .lt 11, 3) := by decide +kernel
theorem dX8_at_39 : decode cX8_at 39 = .ok (.iload 4, 2) := by decide +kernel
theorem dX8_at_41 : decode cX8_at 41 = .ok (.aload 6, 2) := by decide +kernel
theorem dX8_at_43 : decode cX8_at 43 = .ok (.arraylength, 1) := by decide +kernel
theorem dX8_at_44 : decode cX8_at 44 = .ok (.if_icmp .lt 7, 3) := by decide +kernel
theorem dX8_at_47 : decode cX8_at 47 = .ok (.iconst (-1), 1) := by decide +kernel
theorem dX8_at_48 : decode cX8_at 48 = .ok (.goto 12, 3) := by decide +kernel
theorem dX8_at_51 : decode cX8_at 51 = .ok (.aload 6, 2) := by decide +kernel
theorem dX8_at_53 : decode cX8_at 53 = .ok (.iload 4, 2) := by decide +kernel
theorem dX8_at_55 : decode cX8_at 55 = .ok (.baload, 1) := by decide +kernel
theorem dX8_at_56 : decode cX8_at 56 = .ok (.sipush 255, 3) := by decide +kernel
theorem dX8_at_59 : decode cX8_at 59 = .ok (.iand, 1) := by decide +kernel
theorem dX8_at_60 : decode cX8_at 60 = .ok (.ireturn, 1) := by decide +kernel
set_option maxRecDepth 20000 in
theorem ggX8_about_X2_size : GoodIn wsX8_about wsX2_size := goodIn_r _ [13, 14, 68, 69] (by decide +kernel) (by decide +kernel)
set_option maxRecDepth 20000 in
theorem gX8_about_X2_size : GoodIn wsX8_about (wsV RX8 268 RX2 yX2_size wsX2_size) := goodIn_app (goodIn_of _ (by decide +kernel)) ggX8_about_X2_size
set_option maxRecDepth 20000 in
theorem ggX8_about_X6_size : GoodIn wsX8_about wsX6_size := goodIn_r _ [19, 20, 70, 71] (by decide +kernel) (by decide +kernel)
set_option maxRecDepth 20000 in
theorem gX8_about_X6_size : GoodIn wsX8_about (wsV RX8 104 RX6 yX6_size wsX6_size) := goodIn_app (goodIn_of _ (by decide +kernel)) ggX8_about_X6_size
set_option maxRecDepth 20000 in
theorem ggX8_about_X6_contentBytes : GoodIn wsX8_about wsX6_contentBytes := goodIn_r _ [24, 20, 25, 26, 70, 71, 72, 73, 74, 75, 76] (by decide +kernel) (by decide +kernel)
set_option maxRecDepth 20000 in
theorem gX8_about_X6_contentBytes : GoodIn wsX8_about (wsV RX8 141 RX6 yX6_contentBytes wsX6_contentBytes) := goodIn_app (goodIn_of _ (by decide +kernel)) ggX8_about_X6_contentBytes
set_option maxRecDepth 20000 in
theorem ggX8_about_X2_increments : GoodIn wsX8_about wsX2_increments := goodIn_r _ [30, 14, 31, 32, 68, 69, 77, 78, 79] (by decide +kernel) (by decide +kernel)
set_option maxRecDepth 20000 in
theorem gX8_about_X2_increments : GoodIn wsX8_about (wsV RX8 269 RX2 yX2_increments wsX2_increments) := goodIn_app (goodIn_of _ (by decide +kernel)) ggX8_about_X2_increments
set_option maxRecDepth 20000 in
theorem ggX8_about_X7_increments : GoodIn wsX8_about wsX7_increments := goodIn_r _ [37, 38, 39, 40, 41, 42, 43, 44, 45, 46, 47, 48, 49, 65, 66, 67, 80, 81, 82] (by decide +kernel) (by decide +kernel)
set_option maxRecDepth 20000 in
theorem gX8_about_X7_increments : GoodIn wsX8_about (wsV RX8 272 RX7 yX7_increments wsX7_increments) := goodIn_app (goodIn_of _ (by decide +kernel)) ggX8_about_X7_increments
set_option maxRecDepth 20000 in
theorem ggX8_about_X5_size : GoodIn wsX8_about wsX5_size := goodIn_r _ [54, 55, 83, 84, 85] (by decide +kernel) (by decide +kernel)
set_option maxRecDepth 20000 in
theorem gX8_about_X5_size : GoodIn wsX8_about (wsV RX8 273 RX5 yX5_size wsX5_size) := goodIn_app (goodIn_of _ (by decide +kernel)) ggX8_about_X5_size
theorem dX8_about_0 : decode cX8_about 0 = .ok (.iload_n 1, 1) := by decide +kernel
theorem dX8_about_1 : decode cX8_about 1 = .ok (.tableswitch 150 0 8 #[51, 56, 64, 83, 91, 99, 107, 115, 142], 51) := by decide +kernel
theorem dX8_about_52 : decode cX8_about 52 = .ok (.aload_n 0, 1) := by decide +kernel
theorem dX8_about_53 : decode cX8_about 53 = .ok (.getfield 54, 3) := by decide +kernel
theorem dX8_about_56 : decode cX8_about 56 = .ok (.ireturn, 1) := by decide +kernel
theorem dX8_about_57 : decode cX8_about 57 = .ok (.aload_n 0, 1) := by decide +kernel
theorem dX8_about_58 : decode cX8_about 58 = .ok (.getfield 32, 3) := by decide +kernel
theorem dX8_about_61 : decode cX8_about 61 = .ok (.invokevirtual 268, 3) := by decide +kernel
theorem dX8_about_64 : decode cX8_about 64 = .ok (.ireturn, 1) := by decide +kernel
theorem dX8_about_65 : decode cX8_about 65 = .ok (.aload_n 0, 1) := by decide +kernel
theorem dX8_about_66 : decode cX8_about 66 = .ok (.getfield 54, 3) := by decide +kernel
theorem dX8_about_69 : decode cX8_about 69 = .ok (.ifCond .ne 7, 3) := by decide +kernel
theorem dX8_about_72 : decode cX8_about 72 = .ok (.iconst 0, 1) := by decide +kernel
theorem dX8_about_73 : decode cX8_about 73 = .ok (.goto 10, 3) := by decide +kernel
theorem dX8_about_76 : decode cX8_about 76 = .ok (.aload_n 0, 1) := by decide +kernel
theorem dX8_about_77 : decode cX8_about 77 = .ok (.getfield 39, 3) := by decide +kernel
theorem dX8_about_80 : decode cX8_about 80 = .ok (.getfield 212, 3) := by decide +kernel
theorem dX8_about_83 : decode cX8_about 83 = .ok (.ireturn, 1) := by decide +kernel
theorem dX8_about_84 : decode cX8_about 84 = .ok (.aload_n 0, 1) := by decide +kernel
theorem dX8_about_85 : decode cX8_about 85 = .ok (.getfield 19, 3) := by decide +kernel
theorem dX8_about_88 : decode cX8_about 88 = .ok (.invokevirtual 104, 3) := by decide +kernel
theorem dX8_about_91 : decode cX8_about 91 = .ok (.ireturn, 1) := by decide +kernel
theorem dX8_about_92 : decode cX8_about 92 = .ok (.aload_n 0, 1) := by decide +kernel
theorem dX8_about_93 : decode cX8_about 93 = .ok (.getfield 23, 3) := by decide +kernel
theorem dX8_about_96 : decode cX8_about 96 = .ok (.invokevirtual 104, 3) := by decide +kernel
theorem dX8_about_99 : decode cX8_about 99 = .ok (.ireturn, 1) := by decide +kernel
theorem dX8_about_100 : decode cX8_about 100 = .ok (.aload_n 0, 1) := by decide +kernel
theorem dX8_about_101 : decode cX8_about 101 = .ok (.getfield 26, 3) := by decide +kernel
theorem dX8_about_104 : decode cX8_about 104 = .ok (.invokevirtual 104, 3) := by decide +kernel
theorem dX8_about_107 : decode cX8_about 107 = .ok (.ireturn, 1) := by decide +kernel
theorem dX8_about_108 : decode cX8_about 108 = .ok (.aload_n 0, 1) := by decide +kernel
theorem dX8_about_109 : decode cX8_about 109 = .ok (.getfield 19, 3) := by decide +kernel
theorem dX8_about_112 : decode cX8_about 112 = .ok (.invokevirtual 141, 3) := by decide +kernel
theorem dX8_about_115 : decode cX8_about 115 = .ok (.ireturn, 1) := by decide +kernel
theorem dX8_about_116 : decode cX8_about 116 = .ok (.aload_n 0, 1) := by decide +kernel
theorem dX8_about_117 : decode cX8_about 117 = .ok (.getfield 32, 3) := by decide +kernel
theorem dX8_about_120 : decode cX8_about 120 = .ok (.invokevirtual 269, 3) := by decide +kernel
theorem dX8_about_123 : decode cX8_about 123 = .ok (.aload_n 0, 1) := by decide +kernel
theorem dX8_about_124 : decode cX8_about 124 = .ok (.getfield 54, 3) := by decide +kernel
theorem dX8_about_127 : decode cX8_about 127 = .ok (.ifCond .ne 7, 3) := by decide +kernel
theorem dX8_about_130 : decode cX8_about 130 = .ok (.iconst 0, 1) := by decide +kernel
theorem dX8_about_131 : decode cX8_about 131 = .ok (.goto 10, 3) := by decide +kernel
theorem dX8_about_134 : decode cX8_about 134 = .ok (.aload_n 0, 1) := by decide +kernel
theorem dX8_about_135 : decode cX8_about 135 = .ok (.getfield 39, 3) := by decide +kernel
theorem dX8_about_138 : decode cX8_about 138 = .ok (.invokevirtual 272, 3) := by decide +kernel
theorem dX8_about_141 : decode cX8_about 141 = .ok (.iadd, 1) := by decide +kernel
theorem dX8_about_142 : decode cX8_about 142 = .ok (.ireturn, 1) := by decide +kernel
theorem dX8_about_143 : decode cX8_about 143 = .ok (.aload_n 0, 1) := by decide +kernel
theorem dX8_about_144 : decode cX8_about 144 = .ok (.getfield 10, 3) := by decide +kernel
theorem dX8_about_147 : decode cX8_about 147 = .ok (.invokevirtual 273, 3) := by decide +kernel
theorem dX8_about_150 : decode cX8_about 150 = .ok (.ireturn, 1) := by decide +kernel
theorem dX8_about_151 : decode cX8_about 151 = .ok (.iconst (-1), 1) := by decide +kernel
theorem dX8_about_152 : decode cX8_about 152 = .ok (.ireturn, 1) := by decide +kernel
set_option maxRecDepth 20000 in
theorem ggX8_session_X2_get : GoodIn wsX8_session wsX2_get := goodIn_r _ [8, 9, 10, 23, 24] (by decide +kernel) (by decide +kernel)
set_option maxRecDepth 20000 in
theorem gX8_session_X2_get : GoodIn wsX8_session (wsV RX8 234 RX2 yX2_get wsX2_get) := goodIn_app (goodIn_of _ (by decide +kernel)) ggX8_session_X2_get
theorem dX8_session_0 : decode cX8_session 0 = .ok (.aload_n 0, 1) := by decide +kernel
theorem dX8_session_1 : decode cX8_session 1 = .ok (.getfield 32, 3) := by decide +kernel
theorem dX8_session_4 : decode cX8_session 4 = .ok (.iload_n 1, 1) := by decide +kernel
theorem dX8_session_5 : decode cX8_session 5 = .ok (.invokevirtual 234, 3) := by decide +kernel
theorem dX8_session_8 : decode cX8_session 8 = .ok (.astore_n 3, 1) := by decide +kernel
theorem dX8_session_9 : decode cX8_session 9 = .ok (.aload_n 3, 1) := by decide +kernel
theorem dX8_session_10 : decode cX8_session 10 = .ok (.ifnonnull 5, 3) := by decide +kernel
theorem dX8_session_13 : decode cX8_session 13 = .ok (.iconst (-1), 1) := by decide +kernel
theorem dX8_session_14 : decode cX8_session 14 = .ok (.ireturn, 1) := by decide +kernel
theorem dX8_session_15 : decode cX8_session 15 = .ok (.iload_n 2, 1) := by decide +kernel
theorem dX8_session_16 : decode cX8_session 16 = .ok (.lookupswitch 46 #[(0, 28), (1, 33)], 28) := by decide +kernel
theorem dX8_session_44 : decode cX8_session 44 = .ok (.aload_n 3, 1) := by decide +kernel
theorem dX8_session_45 : decode cX8_session 45 = .ok (.getfield 274, 3) := by decide +kernel
theorem dX8_session_48 : decode cX8_session 48 = .ok (.ireturn, 1) := by decide +kernel
theorem dX8_session_49 : decode cX8_session 49 = .ok (.iload_n 1, 1) := by decide +kernel
theorem dX8_session_50 : decode cX8_session 50 = .ok (.ifCond .ne 7, 3) := by decide +kernel
theorem dX8_session_53 : decode cX8_session 53 = .ok (.iconst (-1), 1) := by decide +kernel
theorem dX8_session_54 : decode cX8_session 54 = .ok (.goto 7, 3) := by decide +kernel
theorem dX8_session_57 : decode cX8_session 57 = .ok (.aload_n 3, 1) := by decide +kernel
theorem dX8_session_58 : decode cX8_session 58 = .ok (.getfield 275, 3) := by decide +kernel
theorem dX8_session_61 : decode cX8_session 61 = .ok (.ireturn, 1) := by decide +kernel
theorem dX8_session_62 : decode cX8_session 62 = .ok (.iconst (-1), 1) := by decide +kernel
theorem dX8_session_63 : decode cX8_session 63 = .ok (.ireturn, 1) := by decide +kernel
set_option maxRecDepth 20000 in
theorem ggX8_commit_X0_size : GoodIn wsX8_commit wsX0_size := goodIn_r _ [14, 15, 60, 61, 62] (by decide +kernel) (by decide +kernel)
set_option maxRecDepth 20000 in
theorem gX8_commit_X0_size : GoodIn wsX8_commit (wsV RX8 255 RX0 yX0_size wsX0_size) := goodIn_app (goodIn_of _ (by decide +kernel)) ggX8_commit_X0_size
set_option maxRecDepth 20000 in
theorem ggX8_commit_X4_init : GoodIn wsX8_commit wsX4_init := goodIn_r _ [18, 19, 20, 21, 22, 23, 24, 25, 26, 27, 28, 29, 30, 31, 32, 33, 34, 35, 36, 37, 54, 55, 56, 63, 64] (by decide +kernel) (by decide +kernel)
set_option maxRecDepth 20000 in
theorem gX8_commit_X4_init : GoodIn wsX8_commit (wsX4_init) := ggX8_commit_X4_init
set_option maxRecDepth 20000 in
theorem ggX8_commit_X2_add : GoodIn wsX8_commit wsX2_add := goodIn_r _ [42, 43, 44, 65, 66] (by decide +kernel) (by decide +kernel)
set_option maxRecDepth 20000 in
theorem gX8_commit_X2_add : GoodIn wsX8_commit (wsV RX8 284 RX2 yX2_add wsX2_add) := goodIn_app (goodIn_of _ (by decide +kernel)) ggX8_commit_X2_add
theorem dX8_commit_0 : decode cX8_commit 0 = .ok (.aload_n 0, 1) := by decide +kernel
theorem dX8_commit_1 : decode cX8_commit 1 = .ok (.getfield 32, 3) := by decide +kernel
theorem dX8_commit_4 : decode cX8_commit 4 = .ok (.new 240, 3) := by decide +kernel
theorem dX8_commit_7 : decode cX8_commit 7 = .ok (.dup, 1) := by decide +kernel
theorem dX8_commit_8 : decode cX8_commit 8 = .ok (.aload_n 0, 1) := by decide +kernel
theorem dX8_commit_9 : decode cX8_commit 9 = .ok (.getfield 39, 3) := by decide +kernel
theorem dX8_commit_12 : decode cX8_commit 12 = .ok (.getfield 278, 3) := by decide +kernel
theorem dX8_commit_15 : decode cX8_commit 15 = .ok (.aload_n 0, 1) := by decide +kernel
theorem dX8_commit_16 : decode cX8_commit 16 = .ok (.getfield 39, 3) := by decide +kernel
theorem dX8_commit_19 : decode cX8_commit 19 = .ok (.getfield 279, 3) := by decide +kernel
theorem dX8_commit_22 : decode cX8_commit 22 = .ok (.invokevirtual 255, 3) := by decide +kernel
theorem dX8_commit_25 : decode cX8_commit 25 = .ok (.aload_n 0, 1) := by decide +kernel
theorem dX8_commit_26 : decode cX8_commit 26 = .ok (.getfield 23, 3) := by decide +kernel
theorem dX8_commit_29 : decode cX8_commit 29 = .ok (.invokespecial 281, 3) := by decide +kernel
theorem dX8_commit_32 : decode cX8_commit 32 = .ok (.invokevirtual 284, 3) := by decide +kernel
theorem dX8_commit_35 : decode cX8_commit 35 = .ok (.aload_n 0, 1) := by decide +kernel
theorem dX8_commit_36 : decode cX8_commit 36 = .ok (.iconst 0, 1) := by decide +kernel
theorem dX8_commit_37 : decode cX8_commit 37 = .ok (.putfield 54, 3) := by decide +kernel
theorem dX8_commit_40 : decode cX8_commit 40 = .ok (.return_, 1) := by decide +kernel
set_option maxRecDepth 20000 in
theorem ggX8_hasDirectory_X3_lastSlash : GoodIn wsX8_hasDirectory wsX3_lastSlash := goodIn_r _ [6] (by decide +kernel) (by decide +kernel)
set_option maxRecDepth 20000 in
theorem gX8_hasDirectory_X3_lastSlash : GoodIn wsX8_hasDirectory (va_wsS RX8 288 yX3_lastSlash wsX3_lastSlash) := goodIn_app (goodIn_of _ (by decide +kernel)) ggX8_hasDirectory_X3_lastSlash
set_option maxRecDepth 20000 in
theorem ggX8_hasDirectory_J7_copyOf_9075b : GoodIn wsX8_hasDirectory wsJ7_copyOf_9075b := goodIn_r _ [10, 11, 12, 13, 14, 15, 16, 17, 18, 19, 20, 21, 22, 23, 24, 25] (by decide +kernel) (by decide +kernel)
set_option maxRecDepth 20000 in
theorem gX8_hasDirectory_J7_copyOf_9075b : GoodIn wsX8_hasDirectory (va_wsS RX8 166 yJ7_copyOf_9075b wsJ7_copyOf_9075b) := goodIn_app (goodIn_of _ (by decide +kernel)) ggX8_hasDirectory_J7_copyOf_9075b
set_option maxRecDepth 20000 in
theorem ggX8_hasDirectory_X6_find : GoodIn wsX8_hasDirectory wsX6_find := goodIn_r _ [30, 31, 32, 33, 29, 34, 35, 36, 37, 38, 39, 40, 41, 42, 43, 5, 44, 45, 46, 47, 48, 64, 65, 59, 60, 61, 62, 63] (by decide +kernel) (by decide +kernel)
set_option maxRecDepth 20000 in
theorem gX8_hasDirectory_X6_find : GoodIn wsX8_hasDirectory (wsV RX8 97 RX6 yX6_find wsX6_find) := goodIn_app (goodIn_of _ (by decide +kernel)) ggX8_hasDirectory_X6_find
set_option maxRecDepth 20000 in
theorem ggX8_hasDirectory_X6_get : GoodIn wsX8_hasDirectory wsX6_get := goodIn_r _ [40, 35, 41, 64, 65] (by decide +kernel) (by decide +kernel)
set_option maxRecDepth 20000 in
theorem gX8_hasDirectory_X6_get : GoodIn wsX8_hasDirectory (wsV RX8 119 RX6 yX6_get wsX6_get) := goodIn_app (goodIn_of _ (by decide +kernel)) ggX8_hasDirectory_X6_get
theorem dX8_hasDirectory_0 : decode cX8_hasDirectory 0 = .ok (.aload_n 1, 1) := by decide +kernel
theorem dX8_hasDirectory_1 : decode cX8_hasDirectory 1 = .ok (.invokestatic 288, 3) := by decide +kernel
theorem dX8_hasDirectory_4 : decode cX8_hasDirectory 4 = .ok (.istore_n 2, 1) := by decide +kernel
theorem dX8_hasDirectory_5 : decode cX8_hasDirectory 5 = .ok (.iload_n 2, 1) := by decide +kernel
theorem dX8_hasDirectory_6 : decode cX8_hasDirectory 6 = .ok (.ifCond .ge 5, 3) := by decide +kernel
theorem dX8_hasDirectory_9 : decode cX8_hasDirectory 9 = .ok (.iconst 1, 1) := by decide +kernel
theorem dX8_hasDirectory_10 : decode cX8_hasDirectory 10 = .ok (.ireturn, 1) := by decide +kernel
theorem dX8_hasDirectory_11 : decode cX8_hasDirectory 11 = .ok (.aload_n 0, 1) := by decide +kernel
theorem dX8_hasDirectory_12 : decode cX8_hasDirectory 12 = .ok (.getfield 19, 3) := by decide +kernel
theorem dX8_hasDirectory_15 : decode cX8_hasDirectory 15 = .ok (.aload_n 0, 1) := by decide +kernel
theorem dX8_hasDirectory_16 : decode cX8_hasDirectory 16 = .ok (.getfield 19, 3) := by decide +kernel
theorem dX8_hasDirectory_19 : decode cX8_hasDirectory 19 = .ok (.aload_n 1, 1) := by decide +kernel
theorem dX8_hasDirectory_20 : decode cX8_hasDirectory 20 = .ok (.iload_n 2, 1) := by decide +kernel
theorem dX8_hasDirectory_21 : decode cX8_hasDirectory 21 = .ok (.invokestatic 166, 3) := by decide +kernel
theorem dX8_hasDirectory_24 : decode cX8_hasDirectory 24 = .ok (.invokevirtual 97, 3) := by decide +kernel
theorem dX8_hasDirectory_27 : decode cX8_hasDirectory 27 = .ok (.invokevirtual 119, 3) := by decide +kernel
theorem dX8_hasDirectory_30 : decode cX8_hasDirectory 30 = .ok (.astore_n 3, 1) := by decide +kernel
theorem dX8_hasDirectory_31 : decode cX8_hasDirectory 31 = .ok (.aload_n 3, 1) := by decide +kernel
theorem dX8_hasDirectory_32 : decode cX8_hasDirectory 32 = .ok (.ifnull 15, 3) := by decide +kernel
theorem dX8_hasDirectory_35 : decode cX8_hasDirectory 35 = .ok (.aload_n 3, 1) := by decide +kernel
theorem dX8_hasDirectory_36 : decode cX8_hasDirectory 36 = .ok (.getfield 123, 3) := by decide +kernel
theorem dX8_hasDirectory_39 : decode cX8_hasDirectory 39 = .ok (.iconst 2, 1) := by decide +kernel
theorem dX8_hasDirectory_40 : decode cX8_hasDirectory 40 = .ok (.if_icmp .ne 7, 3) := by decide +kernel
theorem dX8_hasDirectory_43 : decode cX8_hasDirectory 43 = .ok (.iconst 1, 1) := by decide +kernel
theorem dX8_hasDirectory_44 : decode cX8_hasDirectory 44 = .ok (.goto 4, 3) := by decide +kernel
theorem dX8_hasDirectory_47 : decode cX8_hasDirectory 47 = .ok (.iconst 0, 1) := by decide +kernel
theorem dX8_hasDirectory_48 : decode cX8_hasDirectory 48 = .ok (.ireturn, 1) := by decide +kernel
set_option maxRecDepth 20000 in
theorem ggX8_entryOf_X6_get : GoodIn wsX8_entryOf wsX6_get := goodIn_r _ [8, 9, 10, 20, 21] (by decide +kernel) (by decide +kernel)
set_option maxRecDepth 20000 in
theorem gX8_entryOf_X6_get : GoodIn wsX8_entryOf (wsV RX8 119 RX6 yX6_get wsX6_get) := goodIn_app (goodIn_of _ (by decide +kernel)) ggX8_entryOf_X6_get
theorem dX8_entryOf_0 : decode cX8_entryOf 0 = .ok (.iload_n 1, 1) := by decide +kernel
theorem dX8_entryOf_1 : decode cX8_entryOf 1 = .ok (.tableswitch 54 0 2 #[27, 36, 45], 27) := by decide +kernel
theorem dX8_entryOf_28 : decode cX8_entryOf 28 = .ok (.aload_n 0, 1) := by decide +kernel
theorem dX8_entryOf_29 : decode cX8_entryOf 29 = .ok (.getfield 19, 3) := by decide +kernel
theorem dX8_entryOf_32 : decode cX8_entryOf 32 = .ok (.iload_n 2, 1) := by decide +kernel
theorem dX8_entryOf_33 : decode cX8_entryOf 33 = .ok (.invokevirtual 119, 3) := by decide +kernel
theorem dX8_entryOf_36 : decode cX8_entryOf 36 = .ok (.areturn, 1) := by decide +kernel
theorem dX8_entryOf_37 : decode cX8_entryOf 37 = .ok (.aload_n 0, 1) := by decide +kernel
theorem dX8_entryOf_38 : decode cX8_entryOf 38 = .ok (.getfield 23, 3) := by decide +kernel
theorem dX8_entryOf_41 : decode cX8_entryOf 41 = .ok (.iload_n 2, 1) := by decide +kernel
theorem dX8_entryOf_42 : decode cX8_entryOf 42 = .ok (.invokevirtual 119, 3) := by decide +kernel
theorem dX8_entryOf_45 : decode cX8_entryOf 45 = .ok (.areturn, 1) := by decide +kernel
theorem dX8_entryOf_46 : decode cX8_entryOf 46 = .ok (.aload_n 0, 1) := by decide +kernel
theorem dX8_entryOf_47 : decode cX8_entryOf 47 = .ok (.getfield 26, 3) := by decide +kernel
theorem dX8_entryOf_50 : decode cX8_entryOf 50 = .ok (.iload_n 2, 1) := by decide +kernel
theorem dX8_entryOf_51 : decode cX8_entryOf 51 = .ok (.invokevirtual 119, 3) := by decide +kernel
theorem dX8_entryOf_54 : decode cX8_entryOf 54 = .ok (.areturn, 1) := by decide +kernel
theorem dX8_entryOf_55 : decode cX8_entryOf 55 = .ok (.aconst_null, 1) := by decide +kernel
theorem dX8_entryOf_56 : decode cX8_entryOf 56 = .ok (.areturn, 1) := by decide +kernel
theorem dX8_isKind_0 : decode cX8_isKind 0 = .ok (.iload_n 0, 1) := by decide +kernel
theorem dX8_isKind_1 : decode cX8_isKind 1 = .ok (.iconst 1, 1) := by decide +kernel
theorem dX8_isKind_2 : decode cX8_isKind 2 = .ok (.if_icmp .eq 13, 3) := by decide +kernel
theorem dX8_isKind_5 : decode cX8_isKind 5 = .ok (.iload_n 0, 1) := by decide +kernel
theorem dX8_isKind_6 : decode cX8_isKind 6 = .ok (.iconst 2, 1) := by decide +kernel
theorem dX8_isKind_7 : decode cX8_isKind 7 = .ok (.if_icmp .eq 8, 3) := by decide +kernel
theorem dX8_isKind_10 : decode cX8_isKind 10 = .ok (.iload_n 0, 1) := by decide +kernel
theorem dX8_isKind_11 : decode cX8_isKind 11 = .ok (.iconst 3, 1) := by decide +kernel
theorem dX8_isKind_12 : decode cX8_isKind 12 = .ok (.if_icmp .ne 7, 3) := by decide +kernel
theorem dX8_isKind_15 : decode cX8_isKind 15 = .ok (.iconst 1, 1) := by decide +kernel
theorem dX8_isKind_16 : decode cX8_isKind 16 = .ok (.goto 4, 3) := by decide +kernel
theorem dX8_isKind_19 : decode cX8_isKind 19 = .ok (.iconst 0, 1) := by decide +kernel
theorem dX8_isKind_20 : decode cX8_isKind 20 = .ok (.ireturn, 1) := by decide +kernel
theorem dX8_isMode_0 : decode cX8_isMode 0 = .ok (.iload_n 0, 1) := by decide +kernel
theorem dX8_isMode_1 : decode cX8_isMode 1 = .ok (.ifCond .lt 14, 3) := by decide +kernel
theorem dX8_isMode_4 : decode cX8_isMode 4 = .ok (.iload_n 0, 1) := by decide +kernel
theorem dX8_isMode_5 : decode cX8_isMode 5 = .ok (.sipush 4095, 3) := by decide +kernel
theorem dX8_isMode_8 : decode cX8_isMode 8 = .ok (.if_icmp .gt 7, 3) := by decide +kernel
theorem dX8_isMode_11 : decode cX8_isMode 11 = .ok (.iconst 1, 1) := by decide +kernel
theorem dX8_isMode_12 : decode cX8_isMode 12 = .ok (.goto 4, 3) := by decide +kernel
theorem dX8_isMode_15 : decode cX8_isMode 15 = .ok (.iconst 0, 1) := by decide +kernel
theorem dX8_isMode_16 : decode cX8_isMode 16 = .ok (.ireturn, 1) := by decide +kernel
theorem dX8_isTime_0 : decode cX8_isTime 0 = .ok (.iload_n 0, 1) := by decide +kernel
theorem dX8_isTime_1 : decode cX8_isTime 1 = .ok (.ifCond .lt 7, 3) := by decide +kernel
theorem dX8_isTime_4 : decode cX8_isTime 4 = .ok (.iconst 1, 1) := by decide +kernel
theorem dX8_isTime_5 : decode cX8_isTime 5 = .ok (.goto 4, 3) := by decide +kernel
theorem dX8_isTime_8 : decode cX8_isTime 8 = .ok (.iconst 0, 1) := by decide +kernel
theorem dX8_isTime_9 : decode cX8_isTime 9 = .ok (.ireturn, 1) := by decide +kernel
theorem dX8_isOperationCount_0 : decode cX8_isOperationCount 0 = .ok (.iload_n 0, 1) := by decide +kernel
theorem dX8_isOperationCount_1 : decode cX8_isOperationCount 1 = .ok (.ifCond .lt 14, 3) := by decide +kernel
theorem dX8_isOperationCount_4 : decode cX8_isOperationCount 4 = .ok (.iload_n 0, 1) := by decide +kernel
theorem dX8_isOperationCount_5 : decode cX8_isOperationCount 5 = .ok (.sipush 200, 3) := by decide +kernel
theorem dX8_isOperationCount_8 : decode cX8_isOperationCount 8 = .ok (.if_icmp .gt 7, 3) := by decide +kernel
theorem dX8_isOperationCount_11 : decode cX8_isOperationCount 11 = .ok (.iconst 1, 1) := by decide +kernel
theorem dX8_isOperationCount_12 : decode cX8_isOperationCount 12 = .ok (.goto 4, 3) := by decide +kernel
theorem dX8_isOperationCount_15 : decode cX8_isOperationCount 15 = .ok (.iconst 0, 1) := by decide +kernel
theorem dX8_isOperationCount_16 : decode cX8_isOperationCount 16 = .ok (.ireturn, 1) := by decide +kernel
theorem dX8_mostBytes_0 : decode cX8_mostBytes 0 = .ok (.iload_n 0, 1) := by decide +kernel
theorem dX8_mostBytes_1 : decode cX8_mostBytes 1 = .ok (.iconst 3, 1) := by decide +kernel
theorem dX8_mostBytes_2 : decode cX8_mostBytes 2 = .ok (.if_icmp .ne 8, 3) := by decide +kernel
theorem dX8_mostBytes_5 : decode cX8_mostBytes 5 = .ok (.bipush 100, 2) := by decide +kernel
theorem dX8_mostBytes_7 : decode cX8_mostBytes 7 = .ok (.goto 6, 3) := by decide +kernel
theorem dX8_mostBytes_10 : decode cX8_mostBytes 10 = .ok (.sipush 1500, 3) := by decide +kernel
theorem dX8_mostBytes_13 : decode cX8_mostBytes 13 = .ok (.ireturn, 1) := by decide +kernel
set_option maxRecDepth 20000 in
theorem ggX8_overlaid_J7_copyOf_9075b : GoodIn wsX8_overlaid wsJ7_copyOf_9075b := goodIn_r _ [8, 9, 10, 11, 12, 13, 14, 15, 16, 17, 3, 18, 19, 20, 21, 22] (by decide +kernel) (by decide +kernel)
set_option maxRecDepth 20000 in
theorem gX8_overlaid_J7_copyOf_9075b : GoodIn wsX8_overlaid (va_wsS RX8 166 yJ7_copyOf_9075b wsJ7_copyOf_9075b) := goodIn_app (goodIn_of _ (by decide +kernel)) ggX8_overlaid_J7_copyOf_9075b
theorem dX8_overlaid_0 : decode cX8_overlaid 0 = .ok (.aload_n 0, 1) := by decide +kernel
theorem dX8_overlaid_1 : decode cX8_overlaid 1 = .ok (.aload_n 0, 1) := by decide +kernel
theorem dX8_overlaid_2 : decode cX8_overlaid 2 = .ok (.arraylength, 1) := by decide +kernel
theorem dX8_overlaid_3 : decode cX8_overlaid 3 = .ok (.iload_n 1, 1) := by decide +kernel
theorem dX8_overlaid_4 : decode cX8_overlaid 4 = .ok (.aload_n 2, 1) := by decide +kernel
theorem dX8_overlaid_5 : decode cX8_overlaid 5 = .ok (.arraylength, 1) := by decide +kernel
theorem dX8_overlaid_6 : decode cX8_overlaid 6 = .ok (.iadd, 1) := by decide +kernel
theorem dX8_overlaid_7 : decode cX8_overlaid 7 = .ok (.invokestatic 291, 3) := by decide +kernel
theorem dX8_overlaid_10 : decode cX8_overlaid 10 = .ok (.invokestatic 166, 3) := by decide +kernel
theorem dX8_overlaid_13 : decode cX8_overlaid 13 = .ok (.astore_n 3, 1) := by decide +kernel
theorem dX8_overlaid_14 : decode cX8_overlaid 14 = .ok (.iconst 0, 1) := by decide +kernel
theorem dX8_overlaid_15 : decode cX8_overlaid 15 = .ok (.istore 4, 2) := by decide +kernel
theorem dX8_overlaid_17 : decode cX8_overlaid 17 = .ok (.iload 4, 2) := by decide +kernel
theorem dX8_overlaid_19 : decode cX8_overlaid 19 = .ok (.aload_n 2, 1) := by decide +kernel
theorem dX8_overlaid_20 : decode cX8_overlaid 20 = .ok (.arraylength, 1) := by decide +kernel
theorem dX8_overlaid_21 : decode cX8_overlaid 21 = .ok (.if_icmp .ge 35, 3) := by decide +kernel
theorem dX8_overlaid_24 : decode cX8_overlaid 24 = .ok (.iload_n 1, 1) := by decide +kernel
theorem dX8_overlaid_25 : decode cX8_overlaid 25 = .ok (.iload 4, 2) := by decide +kernel
theorem dX8_overlaid_27 : decode cX8_overlaid 27 = .ok (.iadd, 1) := by decide +kernel
theorem dX8_overlaid_28 : decode cX8_overlaid 28 = .ok (.istore 5, 2) := by decide +kernel
theorem dX8_overlaid_30 : decode cX8_overlaid 30 = .ok (.iload 5, 2) := by decide +kernel
theorem dX8_overlaid_32 : decode cX8_overlaid 32 = .ok (.ifCond .lt 18, 3) := by decide +kernel
theorem dX8_overlaid_35 : decode cX8_overlaid 35 = .ok (.iload 5, 2) := by decide +kernel
theorem dX8_overlaid_37 : decode cX8_overlaid 37 = .ok (.aload_n 3, 1) := by decide +kernel
theorem dX8_overlaid_38 : decode cX8_overlaid 38 = .ok (.arraylength, 1) := by decide +kernel
theorem dX8_overlaid_39 : decode cX8_overlaid 39 = .ok (.if_icmp .ge 11, 3) := by decide +kernel
theorem dX8_overlaid_42 : decode cX8_overlaid 42 = .ok (.aload_n 3, 1) := by decide +kernel
theorem dX8_overlaid_43 : decode cX8_overlaid 43 = .ok (.iload 5, 2) := by decide +kernel
theorem dX8_overlaid_45 : decode cX8_overlaid 45 = .ok (.aload_n 2, 1) := by decide +kernel
theorem dX8_overlaid_46 : decode cX8_overlaid 46 = .ok (.iload 4, 2) := by decide +kernel
theorem dX8_overlaid_48 : decode cX8_overlaid 48 = .ok (.baload, 1) := by decide +kernel
theorem dX8_overlaid_49 : decode cX8_overlaid 49 = .ok (.bastore, 1) := by decide +kernel
theorem dX8_overlaid_50 : decode cX8_overlaid 50 = .ok (.iinc 4 1, 3) := by decide +kernel
theorem dX8_overlaid_53 : decode cX8_overlaid 53 = .ok (.goto (-36), 3) := by decide +kernel
theorem dX8_overlaid_56 : decode cX8_overlaid 56 = .ok (.aload_n 3, 1) := by decide +kernel
theorem dX8_overlaid_57 : decode cX8_overlaid 57 = .ok (.areturn, 1) := by decide +kernel
theorem dX9_init_0 : decode cX9_init 0 = .ok (.aload_n 0, 1) := by decide +kernel
theorem dX9_init_1 : decode cX9_init 1 = .ok (.invokespecial 1, 3) := by decide +kernel
theorem dX9_init_4 : decode cX9_init 4 = .ok (.aload_n 0, 1) := by decide +kernel
theorem dX9_init_5 : decode cX9_init 5 = .ok (.bipush 46, 2) := by decide +kernel
theorem dX9_init_7 : decode cX9_init 7 = .ok (.newarray .int, 2) := by decide +kernel
theorem dX9_init_9 : decode cX9_init 9 = .ok (.putfield 7, 3) := by decide +kernel
theorem dX9_init_12 : decode cX9_init 12 = .ok (.aload_n 0, 1) := by decide +kernel
theorem dX9_init_13 : decode cX9_init 13 = .ok (.bipush 46, 2) := by decide +kernel
theorem dX9_init_15 : decode cX9_init 15 = .ok (.newarray .int, 2) := by decide +kernel
theorem dX9_init_17 : decode cX9_init 17 = .ok (.putfield 13, 3) := by decide +kernel
theorem dX9_init_20 : decode cX9_init 20 = .ok (.aload_n 0, 1) := by decide +kernel
theorem dX9_init_21 : decode cX9_init 21 = .ok (.sipush 5520, 3) := by decide +kernel
theorem dX9_init_24 : decode cX9_init 24 = .ok (.newarray .int, 2) := by decide +kernel
theorem dX9_init_26 : decode cX9_init 26 = .ok (.putfield 16, 3) := by decide +kernel
theorem dX9_init_29 : decode cX9_init 29 = .ok (.aload_n 0, 1) := by decide +kernel
theorem dX9_init_30 : decode cX9_init 30 = .ok (.sipush 5520, 3) := by decide +kernel
theorem dX9_init_33 : decode cX9_init 33 = .ok (.newarray .int, 2) := by decide +kernel
theorem dX9_init_35 : decode cX9_init 35 = .ok (.putfield 19, 3) := by decide +kernel
theorem dX9_init_38 : decode cX9_init 38 = .ok (.aload_n 0, 1) := by decide +kernel
theorem dX9_init_39 : decode cX9_init 39 = .ok (.sipush 5520, 3) := by decide +kernel
theorem dX9_init_42 : decode cX9_init 42 = .ok (.newarray .int, 2) := by decide +kernel
theorem dX9_init_44 : decode cX9_init 44 = .ok (.putfield 22, 3) := by decide +kernel
theorem dX9_init_47 : decode cX9_init 47 = .ok (.aload_n 0, 1) := by decide +kernel
theorem dX9_init_48 : decode cX9_init 48 = .ok (.sipush 5520, 3) := by decide +kernel
theorem dX9_init_51 : decode cX9_init 51 = .ok (.newarray .int, 2) := by decide +kernel
theorem dX9_init_53 : decode cX9_init 53 = .ok (.putfield 25, 3) := by decide +kernel
theorem dX9_init_56 : decode cX9_init 56 = .ok (.aload_n 0, 1) := by decide +kernel
theorem dX9_init_57 : decode cX9_init 57 = .ok (.sipush 5520, 3) := by decide +kernel
theorem dX9_init_60 : decode cX9_init 60 = .ok (.newarray .int, 2) := by decide +kernel
theorem dX9_init_62 : decode cX9_init 62 = .ok (.putfield 28, 3) := by decide +kernel
theorem dX9_init_65 : decode cX9_init 65 = .ok (.aload_n 0, 1) := by decide +kernel
theorem dX9_init_66 : decode cX9_init 66 = .ok (.sipush 5520, 3) := by decide +kernel
theorem dX9_init_69 : decode cX9_init 69 = .ok (.newarray .int, 2) := by decide +kernel
theorem dX9_init_71 : decode cX9_init 71 = .ok (.putfield 31, 3) := by decide +kernel
theorem dX9_init_74 : decode cX9_init 74 = .ok (.aload_n 0, 1) := by decide +kernel
theorem dX9_init_75 : decode cX9_init 75 = .ok (.ldc 34, 2) := by decide +kernel
theorem dX9_init_77 : decode cX9_init 77 = .ok (.newarray .int, 2) := by decide +kernel
theorem dX9_init_79 : decode cX9_init 79 = .ok (.putfield 35, 3) := by decide +kernel
theorem dX9_init_82 : decode cX9_init 82 = .ok (.aload_n 0, 1) := by decide +kernel
