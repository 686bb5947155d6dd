theorem dX9_make_322 : decode cX9_make 322 = .ok (.iastore, 1) := by decide +kernel
theorem dX9_make_323 : decode cX9_make 323 = .ok (.iload 6, 2) := by decide +kernel
theorem dX9_make_325 : decode cX9_make 325 = .ok (.aload_n 0, 1) := by decide +kernel
theorem dX9_make_326 : decode cX9_make 326 = .ok (.getfield 7, 3) := by decide +kernel
theorem dX9_make_329 : decode cX9_make 329 = .ok (.iconst 0, 1) := by decide +kernel
theorem dX9_make_330 : decode cX9_make 330 = .ok (.iaload, 1) := by decide +kernel
theorem dX9_make_331 : decode cX9_make 331 = .ok (.if_icmp .ge 17, 3) := by decide +kernel
theorem dX9_make_334 : decode cX9_make 334 = .ok (.aload_n 0, 1) := by decide +kernel
theorem dX9_make_335 : decode cX9_make 335 = .ok (.iconst 0, 1) := by decide +kernel
theorem dX9_make_336 : decode cX9_make 336 = .ok (.iload 6, 2) := by decide +kernel
theorem dX9_make_338 : decode cX9_make 338 = .ok (.iconst 5, 1) := by decide +kernel
theorem dX9_make_339 : decode cX9_make 339 = .ok (.invokevirtual 72, 3) := by decide +kernel
theorem dX9_make_342 : decode cX9_make 342 = .ok (.iinc 6 1, 3) := by decide +kernel
theorem dX9_make_345 : decode cX9_make 345 = .ok (.goto (-22), 3) := by decide +kernel
theorem dX9_make_348 : decode cX9_make 348 = .ok (.aload_n 0, 1) := by decide +kernel
theorem dX9_make_349 : decode cX9_make 349 = .ok (.iconst 5, 1) := by decide +kernel
theorem dX9_make_350 : decode cX9_make 350 = .ok (.iconst 0, 1) := by decide +kernel
theorem dX9_make_351 : decode cX9_make 351 = .ok (.invokevirtual 117, 3) := by decide +kernel
theorem dX9_make_354 : decode cX9_make 354 = .ok (.aload_n 0, 1) := by decide +kernel
theorem dX9_make_355 : decode cX9_make 355 = .ok (.iload 4, 2) := by decide +kernel
theorem dX9_make_357 : decode cX9_make 357 = .ok (.invokevirtual 121, 3) := by decide +kernel
theorem dX9_make_360 : decode cX9_make 360 = .ok (.aload_n 0, 1) := by decide +kernel
theorem dX9_make_361 : decode cX9_make 361 = .ok (.getfield 7, 3) := by decide +kernel
theorem dX9_make_364 : decode cX9_make 364 = .ok (.iconst 0, 1) := by decide +kernel
theorem dX9_make_365 : decode cX9_make 365 = .ok (.iaload, 1) := by decide +kernel
theorem dX9_make_366 : decode cX9_make 366 = .ok (.ireturn, 1) := by decide +kernel
set_option maxRecDepth 20000 in
theorem ggX9_choose_X9_find : GoodIn wsX9_choose wsX9_find := goodIn_r _ [10, 11, 12, 13, 14, 15, 9, 16, 17, 18, 19, 20, 21, 22, 29, 30, 31, 32, 33, 34, 35, 36, 37, 38, 39, 40, 41, 42, 43, 44, 45, 46, 47, 48, 49, 50, 51, 52] (by decide +kernel) (by decide +kernel)
set_option maxRecDepth 20000 in
theorem gX9_choose_X9_find : GoodIn wsX9_choose (wsV RX9 103 RX9 yX9_find wsX9_find) := goodIn_app (goodIn_of _ (by decide +kernel)) ggX9_choose_X9_find
set_option maxRecDepth 20000 in
theorem ggX9_choose_X9_chooseTape : GoodIn wsX9_choose wsX9_chooseTape := goodIn_r _ [26, 4, 27, 28, 3, 29, 30, 31, 32, 33, 34, 35, 36, 37, 38, 39, 40, 41, 42, 43, 44, 45, 46, 47, 48, 49, 50, 51, 52] (by decide +kernel) (by decide +kernel)
set_option maxRecDepth 20000 in
theorem gX9_choose_X9_chooseTape : GoodIn wsX9_choose (wsV RX9 121 RX9 yX9_chooseTape wsX9_chooseTape) := goodIn_app (goodIn_of _ (by decide +kernel)) ggX9_choose_X9_chooseTape
set_option maxRecDepth 20000 in
theorem ggX9_choose_X9_place : GoodIn wsX9_choose wsX9_place := goodIn_r _ [16] (by decide +kernel) (by decide +kernel)
set_option maxRecDepth 20000 in
theorem gX9_choose_X9_place : GoodIn wsX9_choose (va_wsS RX9 64 yX9_place wsX9_place) := goodIn_app (goodIn_of _ (by decide +kernel)) ggX9_choose_X9_place
theorem dX9_choose_0 : decode cX9_choose 0 = .ok (.aload_n 0, 1) := by decide +kernel
theorem dX9_choose_1 : decode cX9_choose 1 = .ok (.iconst 0, 1) := by decide +kernel
theorem dX9_choose_2 : decode cX9_choose 2 = .ok (.putfield 57, 3) := by decide +kernel
theorem dX9_choose_5 : decode cX9_choose 5 = .ok (.aload_n 0, 1) := by decide +kernel
theorem dX9_choose_6 : decode cX9_choose 6 = .ok (.getfield 61, 3) := by decide +kernel
theorem dX9_choose_9 : decode cX9_choose 9 = .ok (.istore_n 1, 1) := by decide +kernel
theorem dX9_choose_10 : decode cX9_choose 10 = .ok (.aload_n 0, 1) := by decide +kernel
theorem dX9_choose_11 : decode cX9_choose 11 = .ok (.iconst 0, 1) := by decide +kernel
theorem dX9_choose_12 : decode cX9_choose 12 = .ok (.putfield 61, 3) := by decide +kernel
theorem dX9_choose_15 : decode cX9_choose 15 = .ok (.aload_n 0, 1) := by decide +kernel
theorem dX9_choose_16 : decode cX9_choose 16 = .ok (.iconst 0, 1) := by decide +kernel
theorem dX9_choose_17 : decode cX9_choose 17 = .ok (.aload_n 0, 1) := by decide +kernel
theorem dX9_choose_18 : decode cX9_choose 18 = .ok (.getfield 45, 3) := by decide +kernel
theorem dX9_choose_21 : decode cX9_choose 21 = .ok (.iload_n 1, 1) := by decide +kernel
theorem dX9_choose_22 : decode cX9_choose 22 = .ok (.invokevirtual 103, 3) := by decide +kernel
theorem dX9_choose_25 : decode cX9_choose 25 = .ok (.istore_n 2, 1) := by decide +kernel
theorem dX9_choose_26 : decode cX9_choose 26 = .ok (.aload_n 0, 1) := by decide +kernel
theorem dX9_choose_27 : decode cX9_choose 27 = .ok (.iload_n 2, 1) := by decide +kernel
theorem dX9_choose_28 : decode cX9_choose 28 = .ok (.ifCond .lt 7, 3) := by decide +kernel
theorem dX9_choose_31 : decode cX9_choose 31 = .ok (.iconst 1, 1) := by decide +kernel
theorem dX9_choose_32 : decode cX9_choose 32 = .ok (.goto 4, 3) := by decide +kernel
theorem dX9_choose_35 : decode cX9_choose 35 = .ok (.iconst 0, 1) := by decide +kernel
theorem dX9_choose_36 : decode cX9_choose 36 = .ok (.putfield 96, 3) := by decide +kernel
theorem dX9_choose_39 : decode cX9_choose 39 = .ok (.iload_n 2, 1) := by decide +kernel
theorem dX9_choose_40 : decode cX9_choose 40 = .ok (.ifCond .ge 5, 3) := by decide +kernel
theorem dX9_choose_43 : decode cX9_choose 43 = .ok (.iconst (-1), 1) := by decide +kernel
theorem dX9_choose_44 : decode cX9_choose 44 = .ok (.ireturn, 1) := by decide +kernel
theorem dX9_choose_45 : decode cX9_choose 45 = .ok (.aload_n 0, 1) := by decide +kernel
theorem dX9_choose_46 : decode cX9_choose 46 = .ok (.iload_n 1, 1) := by decide +kernel
theorem dX9_choose_47 : decode cX9_choose 47 = .ok (.invokevirtual 121, 3) := by decide +kernel
theorem dX9_choose_50 : decode cX9_choose 50 = .ok (.aload_n 0, 1) := by decide +kernel
theorem dX9_choose_51 : decode cX9_choose 51 = .ok (.getfield 16, 3) := by decide +kernel
theorem dX9_choose_54 : decode cX9_choose 54 = .ok (.iconst 0, 1) := by decide +kernel
theorem dX9_choose_55 : decode cX9_choose 55 = .ok (.iload_n 2, 1) := by decide +kernel
theorem dX9_choose_56 : decode cX9_choose 56 = .ok (.invokestatic 64, 3) := by decide +kernel
theorem dX9_choose_59 : decode cX9_choose 59 = .ok (.iaload, 1) := by decide +kernel
theorem dX9_choose_60 : decode cX9_choose 60 = .ok (.ireturn, 1) := by decide +kernel
set_option maxRecDepth 20000 in
theorem ggX9_chosenAt_X9_find : GoodIn wsX9_chosenAt wsX9_find := goodIn_r _ [8, 9, 10, 11, 12, 13, 7, 14, 15, 16, 17, 18, 19, 20, 21, 22, 23, 24, 25, 26, 27, 28, 29, 30, 31, 32, 33, 34, 35, 36, 37, 38, 39, 40, 41, 42, 43, 44] (by decide +kernel) (by decide +kernel)
set_option maxRecDepth 20000 in
theorem gX9_chosenAt_X9_find : GoodIn wsX9_chosenAt (wsV RX9 103 RX9 yX9_find wsX9_find) := goodIn_app (goodIn_of _ (by decide +kernel)) ggX9_chosenAt_X9_find
theorem dX9_chosenAt_0 : decode cX9_chosenAt 0 = .ok (.aload_n 0, 1) := by decide +kernel
theorem dX9_chosenAt_1 : decode cX9_chosenAt 1 = .ok (.getfield 96, 3) := by decide +kernel
theorem dX9_chosenAt_4 : decode cX9_chosenAt 4 = .ok (.ifCond .eq 19, 3) := by decide +kernel
theorem dX9_chosenAt_7 : decode cX9_chosenAt 7 = .ok (.aload_n 0, 1) := by decide +kernel
theorem dX9_chosenAt_8 : decode cX9_chosenAt 8 = .ok (.iconst 0, 1) := by decide +kernel
theorem dX9_chosenAt_9 : decode cX9_chosenAt 9 = .ok (.aload_n 0, 1) := by decide +kernel
theorem dX9_chosenAt_10 : decode cX9_chosenAt 10 = .ok (.getfield 54, 3) := by decide +kernel
theorem dX9_chosenAt_13 : decode cX9_chosenAt 13 = .ok (.aload_n 0, 1) := by decide +kernel
theorem dX9_chosenAt_14 : decode cX9_chosenAt 14 = .ok (.getfield 100, 3) := by decide +kernel
theorem dX9_chosenAt_17 : decode cX9_chosenAt 17 = .ok (.invokevirtual 103, 3) := by decide +kernel
theorem dX9_chosenAt_20 : decode cX9_chosenAt 20 = .ok (.goto 4, 3) := by decide +kernel
theorem dX9_chosenAt_23 : decode cX9_chosenAt 23 = .ok (.iconst (-1), 1) := by decide +kernel
theorem dX9_chosenAt_24 : decode cX9_chosenAt 24 = .ok (.ireturn, 1) := by decide +kernel
set_option maxRecDepth 20000 in
theorem ggX9_change_X9_empty : GoodIn wsX9_change wsX9_empty := goodIn_r _ [12, 1, 6, 29, 30, 31, 32, 33, 34, 35, 36, 37, 38, 39, 40, 41, 42, 43, 44, 45, 46, 47, 48, 49, 50, 51, 52] (by decide +kernel) (by decide +kernel)
set_option maxRecDepth 20000 in
theorem gX9_change_X9_empty : GoodIn wsX9_change (wsV RX9 68 RX9 yX9_empty wsX9_empty) := goodIn_app (goodIn_of _ (by decide +kernel)) ggX9_change_X9_empty
set_option maxRecDepth 20000 in
theorem ggX9_change_X9_append : GoodIn wsX9_change wsX9_append := goodIn_r _ [16, 1, 17, 18, 19, 20, 21, 7, 3, 6, 4, 22, 23, 11, 24, 29, 30, 31, 32, 33, 34, 35, 36, 37, 38, 39, 40, 41, 42, 43, 44, 45, 46, 47, 48, 49, 50, 51, 52] (by decide +kernel) (by decide +kernel)
set_option maxRecDepth 20000 in
theorem gX9_change_X9_append : GoodIn wsX9_change (wsV RX9 72 RX9 yX9_append wsX9_append) := goodIn_app (goodIn_of _ (by decide +kernel)) ggX9_change_X9_append
set_option maxRecDepth 20000 in
theorem ggX9_change_X9_place : GoodIn wsX9_change wsX9_place := goodIn_r _ [24] (by decide +kernel) (by decide +kernel)
set_option maxRecDepth 20000 in
theorem gX9_change_X9_place : GoodIn wsX9_change (va_wsS RX9 64 yX9_place wsX9_place) := goodIn_app (goodIn_of _ (by decide +kernel)) ggX9_change_X9_place
set_option maxRecDepth 20000 in
theorem ggX9_change_X9_copy : GoodIn wsX9_change wsX9_copy := goodIn_r _ [28, 1, 8, 9, 10, 11, 12, 6, 13, 14, 15, 16, 17, 18, 19, 20, 21, 7, 3, 4, 22, 23, 24, 29, 30, 31, 32, 33, 34, 35, 36, 37, 38, 39, 40, 41, 42, 43, 44, 45, 46, 47, 48, 49, 50, 51, 52] (by decide +kernel) (by decide +kernel)
set_option maxRecDepth 20000 in
theorem gX9_change_X9_copy : GoodIn wsX9_change (wsV RX9 117 RX9 yX9_copy wsX9_copy) := goodIn_app (goodIn_of _ (by decide +kernel)) ggX9_change_X9_copy
theorem dX9_change_0 : decode cX9_change 0 = .ok (.aload_n 0, 1) := by decide +kernel
theorem dX9_change_1 : decode cX9_change 1 = .ok (.iconst 5, 1) := by decide +kernel
theorem dX9_change_2 : decode cX9_change 2 = .ok (.invokevirtual 68, 3) := by decide +kernel
theorem dX9_change_5 : decode cX9_change 5 = .ok (.iconst 0, 1) := by decide +kernel
theorem dX9_change_6 : decode cX9_change 6 = .ok (.istore 5, 2) := by decide +kernel
theorem dX9_change_8 : decode cX9_change 8 = .ok (.iload 5, 2) := by decide +kernel
theorem dX9_change_10 : decode cX9_change 10 = .ok (.aload_n 0, 1) := by decide +kernel
theorem dX9_change_11 : decode cX9_change 11 = .ok (.getfield 7, 3) := by decide +kernel
theorem dX9_change_14 : decode cX9_change 14 = .ok (.iconst 0, 1) := by decide +kernel
theorem dX9_change_15 : decode cX9_change 15 = .ok (.iaload, 1) := by decide +kernel
theorem dX9_change_16 : decode cX9_change 16 = .ok (.if_icmp .ge 107, 3) := by decide +kernel
theorem dX9_change_19 : decode cX9_change 19 = .ok (.aload_n 0, 1) := by decide +kernel
theorem dX9_change_20 : decode cX9_change 20 = .ok (.iconst 0, 1) := by decide +kernel
theorem dX9_change_21 : decode cX9_change 21 = .ok (.iload 5, 2) := by decide +kernel
theorem dX9_change_23 : decode cX9_change 23 = .ok (.iconst 5, 1) := by decide +kernel
theorem dX9_change_24 : decode cX9_change 24 = .ok (.invokevirtual 72, 3) := by decide +kernel
theorem dX9_change_27 : decode cX9_change 27 = .ok (.iload 5, 2) := by decide +kernel
theorem dX9_change_29 : decode cX9_change 29 = .ok (.iload_n 1, 1) := by decide +kernel
theorem dX9_change_30 : decode cX9_change 30 = .ok (.if_icmp .eq 6, 3) := by decide +kernel
theorem dX9_change_33 : decode cX9_change 33 = .ok (.goto 84, 3) := by decide +kernel
theorem dX9_change_36 : decode cX9_change 36 = .ok (.iconst 5, 1) := by decide +kernel
theorem dX9_change_37 : decode cX9_change 37 = .ok (.iload 5, 2) := by decide +kernel
theorem dX9_change_39 : decode cX9_change 39 = .ok (.invokestatic 64, 3) := by decide +kernel
theorem dX9_change_42 : decode cX9_change 42 = .ok (.istore 6, 2) := by decide +kernel
theorem dX9_change_44 : decode cX9_change 44 = .ok (.ldc 124, 2) := by decide +kernel
theorem dX9_change_46 : decode cX9_change 46 = .ok (.aload_n 0, 1) := by decide +kernel
theorem dX9_change_47 : decode cX9_change 47 = .ok (.getfield 28, 3) := by decide +kernel
theorem dX9_change_50 : decode cX9_change 50 = .ok (.iload 6, 2) := by decide +kernel
theorem dX9_change_52 : decode cX9_change 52 = .ok (.iaload, 1) := by decide +kernel
theorem dX9_change_53 : decode cX9_change 53 = .ok (.iadd, 1) := by decide +kernel
theorem dX9_change_54 : decode cX9_change 54 = .ok (.istore 7, 2) := by decide +kernel
theorem dX9_change_56 : decode cX9_change 56 = .ok (.iconst 0, 1) := by decide +kernel
theorem dX9_change_57 : decode cX9_change 57 = .ok (.istore 8, 2) := by decide +kernel
theorem dX9_change_59 : decode cX9_change 59 = .ok (.iload 8, 2) := by decide +kernel
theorem dX9_change_61 : decode cX9_change 61 = .ok (.iload 4, 2) := by decide +kernel
theorem dX9_change_63 : decode cX9_change 63 = .ok (.if_icmp .ge 28, 3) := by decide +kernel
theorem dX9_change_66 : decode cX9_change 66 = .ok (.aload_n 0, 1) := by decide +kernel
theorem dX9_change_67 : decode cX9_change 67 = .ok (.getfield 39, 3) := by decide +kernel
theorem dX9_change_70 : decode cX9_change 70 = .ok (.iload 7, 2) := by decide +kernel
theorem dX9_change_72 : decode cX9_change 72 = .ok (.iload_n 3, 1) := by decide +kernel
theorem dX9_change_73 : decode cX9_change 73 = .ok (.iadd, 1) := by decide +kernel
theorem dX9_change_74 : decode cX9_change 74 = .ok (.iload 8, 2) := by decide +kernel
theorem dX9_change_76 : decode cX9_change 76 = .ok (.iadd, 1) := by decide +kernel
theorem dX9_change_77 : decode cX9_change 77 = .ok (.aload_n 0, 1) := by decide +kernel
theorem dX9_change_78 : decode cX9_change 78 = .ok (.getfield 45, 3) := by decide +kernel
theorem dX9_change_81 : decode cX9_change 81 = .ok (.iload 8, 2) := by decide +kernel
theorem dX9_change_83 : decode cX9_change 83 = .ok (.iaload, 1) := by decide +kernel
theorem dX9_change_84 : decode cX9_change 84 = .ok (.iastore, 1) := by decide +kernel
theorem dX9_change_85 : decode cX9_change 85 = .ok (.iinc 8 1, 3) := by decide +kernel
theorem dX9_change_88 : decode cX9_change 88 = .ok (.goto (-29), 3) := by decide +kernel
theorem dX9_change_91 : decode cX9_change 91 = .ok (.aload_n 0, 1) := by decide +kernel
theorem dX9_change_92 : decode cX9_change 92 = .ok (.getfield 13, 3) := by decide +kernel
theorem dX9_change_95 : decode cX9_change 95 = .ok (.iconst 5, 1) := by decide +kernel
theorem dX9_change_96 : decode cX9_change 96 = .ok (.dup2, 1) := by decide +kernel
theorem dX9_change_97 : decode cX9_change 97 = .ok (.iaload, 1) := by decide +kernel
theorem dX9_change_98 : decode cX9_change 98 = .ok (.iload_n 2, 1) := by decide +kernel
theorem dX9_change_99 : decode cX9_change 99 = .ok (.aload_n 0, 1) := by decide +kernel
theorem dX9_change_100 : decode cX9_change 100 = .ok (.getfield 31, 3) := by decide +kernel
theorem dX9_change_103 : decode cX9_change 103 = .ok (.iload 6, 2) := by decide +kernel
theorem dX9_change_105 : decode cX9_change 105 = .ok (.iaload, 1) := by decide +kernel
theorem dX9_change_106 : decode cX9_change 106 = .ok (.isub, 1) := by decide +kernel
theorem dX9_change_107 : decode cX9_change 107 = .ok (.iadd, 1) := by decide +kernel
theorem dX9_change_108 : decode cX9_change 108 = .ok (.iastore, 1) := by decide +kernel
theorem dX9_change_109 : decode cX9_change 109 = .ok (.aload_n 0, 1) := by decide +kernel
theorem dX9_change_110 : decode cX9_change 110 = .ok (.getfield 31, 3) := by decide +kernel
theorem dX9_change_113 : decode cX9_change 113 = .ok (.iload 6, 2) := by decide +kernel
theorem dX9_change_115 : decode cX9_change 115 = .ok (.iload_n 2, 1) := by decide +kernel
theorem dX9_change_116 : decode cX9_change 116 = .ok (.iastore, 1) := by decide +kernel
theorem dX9_change_117 : decode cX9_change 117 = .ok (.iinc 5 1, 3) := by decide +kernel
theorem dX9_change_120 : decode cX9_change 120 = .ok (.goto (-112), 3) := by decide +kernel
theorem dX9_change_123 : decode cX9_change 123 = .ok (.aload_n 0, 1) := by decide +kernel
theorem dX9_change_124 : decode cX9_change 124 = .ok (.iconst 5, 1) := by decide +kernel
theorem dX9_change_125 : decode cX9_change 125 = .ok (.iconst 0, 1) := by decide +kernel
theorem dX9_change_126 : decode cX9_change 126 = .ok (.invokevirtual 117, 3) := by decide +kernel
theorem dX9_change_129 : decode cX9_change 129 = .ok (.return_, 1) := by decide +kernel
set_option maxRecDepth 20000 in
theorem ggX9_write_X9_chosenAt : GoodIn wsX9_write wsX9_chosenAt := goodIn_r _ [12, 13, 14, 15, 16, 17, 18, 11, 19, 20, 21, 22, 23, 24, 25, 26, 27, 28, 29, 30, 31, 54, 55, 56, 57, 58, 59, 60, 61, 62, 63, 64, 65, 66, 67, 68, 69, 70, 71, 72, 73, 74, 75, 76, 77] (by decide +kernel) (by decide +kernel)
set_option maxRecDepth 20000 in
theorem gX9_write_X9_chosenAt : GoodIn wsX9_write (wsV RX9 125 RX9 yX9_chosenAt wsX9_chosenAt) := goodIn_app (goodIn_of _ (by decide +kernel)) ggX9_write_X9_chosenAt
set_option maxRecDepth 20000 in
theorem ggX9_write_X9_place : GoodIn wsX9_write wsX9_place := goodIn_r _ [25] (by decide +kernel) (by decide +kernel)
set_option maxRecDepth 20000 in
theorem gX9_write_X9_place : GoodIn wsX9_write (va_wsS RX9 64 yX9_place wsX9_place) := goodIn_app (goodIn_of _ (by decide +kernel)) ggX9_write_X9_place
set_option maxRecDepth 20000 in
theorem ggX9_write_X9_change : GoodIn wsX9_write wsX9_change := goodIn_r _ [35, 20, 36, 37, 38, 39, 6, 5, 40, 41, 42, 11, 43, 44, 45, 46, 47, 4, 48, 49, 22, 21, 23, 24, 25, 50, 51, 52, 53, 54, 55, 56, 57, 58, 59, 60, 61, 62, 63, 64, 65, 66, 67, 68, 69, 70, 71, 72, 73, 74, 75, 76, 77] (by decide +kernel) (by decide +kernel)
set_option maxRecDepth 20000 in
theorem gX9_write_X9_change : GoodIn wsX9_write (wsV RX9 131 RX9 yX9_change wsX9_change) := goodIn_app (goodIn_of _ (by decide +kernel)) ggX9_write_X9_change
theorem dX9_write_0 : decode cX9_write 0 = .ok (.aload_n 0, 1) := by decide +kernel
theorem dX9_write_1 : decode cX9_write 1 = .ok (.aload_n 0, 1) := by decide +kernel
theorem dX9_write_2 : decode cX9_write 2 = .ok (.getfield 107, 3) := by decide +kernel
theorem dX9_write_5 : decode cX9_write 5 = .ok (.iconst 1, 1) := by decide +kernel
theorem dX9_write_6 : decode cX9_write 6 = .ok (.if_icmp .ne 7, 3) := by decide +kernel
theorem dX9_write_9 : decode cX9_write 9 = .ok (.iconst 2, 1) := by decide +kernel
theorem dX9_write_10 : decode cX9_write 10 = .ok (.goto 4, 3) := by decide +kernel
theorem dX9_write_13 : decode cX9_write 13 = .ok (.iconst 0, 1) := by decide +kernel
theorem dX9_write_14 : decode cX9_write 14 = .ok (.putfield 57, 3) := by decide +kernel
theorem dX9_write_17 : decode cX9_write 17 = .ok (.aload_n 0, 1) := by decide +kernel
theorem dX9_write_18 : decode cX9_write 18 = .ok (.getfield 57, 3) := by decide +kernel
theorem dX9_write_21 : decode cX9_write 21 = .ok (.ifCond .le 5, 3) := by decide +kernel
theorem dX9_write_24 : decode cX9_write 24 = .ok (.iconst 0, 1) := by decide +kernel
theorem dX9_write_25 : decode cX9_write 25 = .ok (.ireturn, 1) := by decide +kernel
theorem dX9_write_26 : decode cX9_write 26 = .ok (.aload_n 0, 1) := by decide +kernel
theorem dX9_write_27 : decode cX9_write 27 = .ok (.getfield 61, 3) := by decide +kernel
theorem dX9_write_30 : decode cX9_write 30 = .ok (.istore_n 2, 1) := by decide +kernel
theorem dX9_write_31 : decode cX9_write 31 = .ok (.aload_n 0, 1) := by decide +kernel
theorem dX9_write_32 : decode cX9_write 32 = .ok (.iconst 0, 1) := by decide +kernel
theorem dX9_write_33 : decode cX9_write 33 = .ok (.putfield 61, 3) := by decide +kernel
theorem dX9_write_36 : decode cX9_write 36 = .ok (.aload_n 0, 1) := by decide +kernel
theorem dX9_write_37 : decode cX9_write 37 = .ok (.invokevirtual 125, 3) := by decide +kernel
theorem dX9_write_40 : decode cX9_write 40 = .ok (.istore_n 3, 1) := by decide +kernel
theorem dX9_write_41 : decode cX9_write 41 = .ok (.iload_n 3, 1) := by decide +kernel
theorem dX9_write_42 : decode cX9_write 42 = .ok (.ifCond .ge 7, 3) := by decide +kernel
theorem dX9_write_45 : decode cX9_write 45 = .ok (.iconst 2, 1) := by decide +kernel
theorem dX9_write_46 : decode cX9_write 46 = .ok (.goto 13, 3) := by decide +kernel
theorem dX9_write_49 : decode cX9_write 49 = .ok (.aload_n 0, 1) := by decide +kernel
theorem dX9_write_50 : decode cX9_write 50 = .ok (.getfield 16, 3) := by decide +kernel
theorem dX9_write_53 : decode cX9_write 53 = .ok (.iconst 0, 1) := by decide +kernel
theorem dX9_write_54 : decode cX9_write 54 = .ok (.iload_n 3, 1) := by decide +kernel
theorem dX9_write_55 : decode cX9_write 55 = .ok (.invokestatic 64, 3) := by decide +kernel
theorem dX9_write_58 : decode cX9_write 58 = .ok (.iaload, 1) := by decide +kernel
theorem dX9_write_59 : decode cX9_write 59 = .ok (.istore 4, 2) := by decide +kernel
theorem dX9_write_61 : decode cX9_write 61 = .ok (.aload_n 0, 1) := by decide +kernel
theorem dX9_write_62 : decode cX9_write 62 = .ok (.iload 4, 2) := by decide +kernel
theorem dX9_write_64 : decode cX9_write 64 = .ok (.iconst 2, 1) := by decide +kernel
theorem dX9_write_65 : decode cX9_write 65 = .ok (.if_icmp .ne 7, 3) := by decide +kernel
theorem dX9_write_68 : decode cX9_write 68 = .ok (.iconst 2, 1) := by decide +kernel
theorem dX9_write_69 : decode cX9_write 69 = .ok (.goto 4, 3) := by decide +kernel
theorem dX9_write_72 : decode cX9_write 72 = .ok (.iconst 0, 1) := by decide +kernel
theorem dX9_write_73 : decode cX9_write 73 = .ok (.putfield 57, 3) := by decide +kernel
theorem dX9_write_76 : decode cX9_write 76 = .ok (.aload_n 0, 1) := by decide +kernel
theorem dX9_write_77 : decode cX9_write 77 = .ok (.getfield 57, 3) := by decide +kernel
theorem dX9_write_80 : decode cX9_write 80 = .ok (.ifCond .le 5, 3) := by decide +kernel
theorem dX9_write_83 : decode cX9_write 83 = .ok (.iconst 0, 1) := by decide +kernel
theorem dX9_write_84 : decode cX9_write 84 = .ok (.ireturn, 1) := by decide +kernel
theorem dX9_write_85 : decode cX9_write 85 = .ok (.aload_n 0, 1) := by decide +kernel
theorem dX9_write_86 : decode cX9_write 86 = .ok (.getfield 31, 3) := by decide +kernel
theorem dX9_write_89 : decode cX9_write 89 = .ok (.iconst 0, 1) := by decide +kernel
theorem dX9_write_90 : decode cX9_write 90 = .ok (.iload_n 3, 1) := by decide +kernel
theorem dX9_write_91 : decode cX9_write 91 = .ok (.invokestatic 64, 3) := by decide +kernel
theorem dX9_write_94 : decode cX9_write 94 = .ok (.iaload, 1) := by decide +kernel
theorem dX9_write_95 : decode cX9_write 95 = .ok (.istore 5, 2) := by decide +kernel
theorem dX9_write_97 : decode cX9_write 97 = .ok (.iload_n 1, 1) := by decide +kernel
theorem dX9_write_98 : decode cX9_write 98 = .ok (.i2l, 1) := by decide +kernel
theorem dX9_write_99 : decode cX9_write 99 = .ok (.iload_n 2, 1) := by decide +kernel
theorem dX9_write_100 : decode cX9_write 100 = .ok (.i2l, 1) := by decide +kernel
theorem dX9_write_101 : decode cX9_write 101 = .ok (.ladd, 1) := by decide +kernel
theorem dX9_write_102 : decode cX9_write 102 = .ok (.lstore 6, 2) := by decide +kernel
theorem dX9_write_104 : decode cX9_write 104 = .ok (.lload 6, 2) := by decide +kernel
theorem dX9_write_106 : decode cX9_write 106 = .ok (.iload 5, 2) := by decide +kernel
theorem dX9_write_108 : decode cX9_write 108 = .ok (.i2l, 1) := by decide +kernel
theorem dX9_write_109 : decode cX9_write 109 = .ok (.lcmp, 1) := by decide +kernel
theorem dX9_write_110 : decode cX9_write 110 = .ok (.ifCond .le 8, 3) := by decide +kernel
theorem dX9_write_113 : decode cX9_write 113 = .ok (.lload 6, 2) := by decide +kernel
theorem dX9_write_115 : decode cX9_write 115 = .ok (.goto 6, 3) := by decide +kernel
theorem dX9_write_118 : decode cX9_write 118 = .ok (.iload 5, 2) := by decide +kernel
theorem dX9_write_120 : decode cX9_write 120 = .ok (.i2l, 1) := by decide +kernel
theorem dX9_write_121 : decode cX9_write 121 = .ok (.lstore 8, 2) := by decide +kernel
theorem dX9_write_123 : decode cX9_write 123 = .ok (.lload 8, 2) := by decide +kernel
theorem dX9_write_125 : decode cX9_write 125 = .ok (.iload 4, 2) := by decide +kernel
theorem dX9_write_127 : decode cX9_write 127 = .ok (.iconst 1, 1) := by decide +kernel
theorem dX9_write_128 : decode cX9_write 128 = .ok (.if_icmp .ne 9, 3) := by decide +kernel
theorem dX9_write_131 : decode cX9_write 131 = .ok (.sipush 1500, 3) := by decide +kernel
theorem dX9_write_134 : decode cX9_write 134 = .ok (.goto 5, 3) := by decide +kernel
theorem dX9_write_137 : decode cX9_write 137 = .ok (.bipush 100, 2) := by decide +kernel
theorem dX9_write_139 : decode cX9_write 139 = .ok (.i2l, 1) := by decide +kernel
theorem dX9_write_140 : decode cX9_write 140 = .ok (.lcmp, 1) := by decide +kernel
theorem dX9_write_141 : decode cX9_write 141 = .ok (.ifCond .gt 23, 3) := by decide +kernel
theorem dX9_write_144 : decode cX9_write 144 = .ok (.aload_n 0, 1) := by decide +kernel
theorem dX9_write_145 : decode cX9_write 145 = .ok (.getfield 13, 3) := by decide +kernel
theorem dX9_write_148 : decode cX9_write 148 = .ok (.iconst 0, 1) := by decide +kernel
theorem dX9_write_149 : decode cX9_write 149 = .ok (.iaload, 1) := by decide +kernel
theorem dX9_write_150 : decode cX9_write 150 = .ok (.iload 5, 2) := by decide +kernel
theorem dX9_write_152 : decode cX9_write 152 = .ok (.isub, 1) := by decide +kernel
theorem dX9_write_153 : decode cX9_write 153 = .ok (.i2l, 1) := by decide +kernel
theorem dX9_write_154 : decode cX9_write 154 = .ok (.lload 8, 2) := by decide +kernel
theorem dX9_write_156 : decode cX9_write 156 = .ok (.ladd, 1) := by decide +kernel
theorem dX9_write_157 : decode cX9_write 157 = .ok (.ldc2_w 129, 3) := by decide +kernel
theorem dX9_write_160 : decode cX9_write 160 = .ok (.lcmp, 1) := by decide +kernel
theorem dX9_write_161 : decode cX9_write 161 = .ok (.ifCond .le 11, 3) := by decide +kernel
theorem dX9_write_164 : decode cX9_write 164 = .ok (.aload_n 0, 1) := by decide +kernel
theorem dX9_write_165 : decode cX9_write 165 = .ok (.iconst 2, 1) := by decide +kernel
theorem dX9_write_166 : decode cX9_write 166 = .ok (.putfield 57, 3) := by decide +kernel
theorem dX9_write_169 : decode cX9_write 169 = .ok (.goto 18, 3) := by decide +kernel
theorem dX9_write_172 : decode cX9_write 172 = .ok (.iload_n 1, 1) := by decide +kernel
theorem dX9_write_173 : decode cX9_write 173 = .ok (.ifCond .lt 9, 3) := by decide +kernel
theorem dX9_write_176 : decode cX9_write 176 = .ok (.iload_n 1, 1) := by decide +kernel
theorem dX9_write_177 : decode cX9_write 177 = .ok (.iload 5, 2) := by decide +kernel
theorem dX9_write_179 : decode cX9_write 179 = .ok (.if_icmp .le 8, 3) := by decide +kernel
theorem dX9_write_182 : decode cX9_write 182 = .ok (.aload_n 0, 1) := by decide +kernel
theorem dX9_write_183 : decode cX9_write 183 = .ok (.iconst 1, 1) := by decide +kernel
theorem dX9_write_184 : decode cX9_write 184 = .ok (.putfield 57, 3) := by decide +kernel
theorem dX9_write_187 : decode cX9_write 187 = .ok (.aload_n 0, 1) := by decide +kernel
theorem dX9_write_188 : decode cX9_write 188 = .ok (.getfield 57, 3) := by decide +kernel
theorem dX9_write_191 : decode cX9_write 191 = .ok (.ifCond .le 5, 3) := by decide +kernel
theorem dX9_write_194 : decode cX9_write 194 = .ok (.iconst 0, 1) := by decide +kernel
theorem dX9_write_195 : decode cX9_write 195 = .ok (.ireturn, 1) := by decide +kernel
theorem dX9_write_196 : decode cX9_write 196 = .ok (.aload_n 0, 1) := by decide +kernel
theorem dX9_write_197 : decode cX9_write 197 = .ok (.iload_n 3, 1) := by decide +kernel
theorem dX9_write_198 : decode cX9_write 198 = .ok (.lload 8, 2) := by decide +kernel
theorem dX9_write_200 : decode cX9_write 200 = .ok (.l2i, 1) := by decide +kernel
theorem dX9_write_201 : decode cX9_write 201 = .ok (.iload_n 1, 1) := by decide +kernel
theorem dX9_write_202 : decode cX9_write 202 = .ok (.iload_n 2, 1) := by decide +kernel
theorem dX9_write_203 : decode cX9_write 203 = .ok (.invokevirtual 131, 3) := by decide +kernel
theorem dX9_write_206 : decode cX9_write 206 = .ok (.lload 8, 2) := by decide +kernel
theorem dX9_write_208 : decode cX9_write 208 = .ok (.l2i, 1) := by decide +kernel
theorem dX9_write_209 : decode cX9_write 209 = .ok (.ireturn, 1) := by decide +kernel
set_option maxRecDepth 20000 in
theorem ggX9_cut_X9_chosenAt : GoodIn wsX9_cut wsX9_chosenAt := goodIn_r _ [9, 10, 11, 12, 13, 14, 15, 8, 16, 17, 18, 19, 20, 21, 22, 23, 24, 25, 26, 27, 28, 52, 53, 54, 55, 56, 57, 58, 59, 60, 61, 62, 63, 64, 65, 66, 67, 68, 69, 70, 71, 72, 73, 74, 75] (by decide +kernel) (by decide +kernel)
set_option maxRecDepth 20000 in
theorem gX9_cut_X9_chosenAt : GoodIn wsX9_cut (wsV RX9 125 RX9 yX9_chosenAt wsX9_chosenAt) := goodIn_app (goodIn_of _ (by decide +kernel)) ggX9_cut_X9_chosenAt
set_option maxRecDepth 20000 in
theorem ggX9_cut_X9_place : GoodIn wsX9_cut wsX9_place := goodIn_r _ [22] (by decide +kernel) (by decide +kernel)
set_option maxRecDepth 20000 in
theorem gX9_cut_X9_place : GoodIn wsX9_cut (va_wsS RX9 64 yX9_place wsX9_place) := goodIn_app (goodIn_of _ (by decide +kernel)) ggX9_cut_X9_place
set_option maxRecDepth 20000 in
theorem ggX9_cut_X9_change : GoodIn wsX9_cut wsX9_change := goodIn_r _ [32, 17, 33, 34, 35, 36, 37, 3, 38, 39, 40, 8, 41, 42, 43, 44, 45, 2, 46, 47, 19, 18, 20, 21, 22, 48, 49, 50, 51, 52, 53, 54, 55, 56, 57, 58, 59, 60, 61, 62, 63, 64, 65, 66, 67, 68, 69, 70, 71, 72, 73, 74, 75] (by decide +kernel) (by decide +kernel)
set_option maxRecDepth 20000 in
theorem gX9_cut_X9_change : GoodIn wsX9_cut (wsV RX9 131 RX9 yX9_change wsX9_change) := goodIn_app (goodIn_of _ (by decide +kernel)) ggX9_cut_X9_change
theorem dX9_cut_0 : decode cX9_cut 0 = .ok (.aload_n 0, 1) := by decide +kernel
theorem dX9_cut_1 : decode cX9_cut 1 = .ok (.invokevirtual 125, 3) := by decide +kernel
theorem dX9_cut_4 : decode cX9_cut 4 = .ok (.istore_n 2, 1) := by decide +kernel
theorem dX9_cut_5 : decode cX9_cut 5 = .ok (.aload_n 0, 1) := by decide +kernel
theorem dX9_cut_6 : decode cX9_cut 6 = .ok (.aload_n 0, 1) := by decide +kernel
theorem dX9_cut_7 : decode cX9_cut 7 = .ok (.getfield 107, 3) := by decide +kernel
theorem dX9_cut_10 : decode cX9_cut 10 = .ok (.iconst 1, 1) := by decide +kernel
theorem dX9_cut_11 : decode cX9_cut 11 = .ok (.if_icmp .eq 21, 3) := by decide +kernel
theorem dX9_cut_14 : decode cX9_cut 14 = .ok (.iload_n 2, 1) := by decide +kernel
theorem dX9_cut_15 : decode cX9_cut 15 = .ok (.ifCond .lt 17, 3) := by decide +kernel
theorem dX9_cut_18 : decode cX9_cut 18 = .ok (.aload_n 0, 1) := by decide +kernel
theorem dX9_cut_19 : decode cX9_cut 19 = .ok (.getfield 16, 3) := by decide +kernel
theorem dX9_cut_22 : decode cX9_cut 22 = .ok (.iconst 0, 1) := by decide +kernel
theorem dX9_cut_23 : decode cX9_cut 23 = .ok (.iload_n 2, 1) := by decide +kernel
theorem dX9_cut_24 : decode cX9_cut 24 = .ok (.invokestatic 64, 3) := by decide +kernel
theorem dX9_cut_27 : decode cX9_cut 27 = .ok (.iaload, 1) := by decide +kernel
theorem dX9_cut_28 : decode cX9_cut 28 = .ok (.iconst 2, 1) := by decide +kernel
theorem dX9_cut_29 : decode cX9_cut 29 = .ok (.if_icmp .ne 7, 3) := by decide +kernel
theorem dX9_cut_32 : decode cX9_cut 32 = .ok (.iconst 2, 1) := by decide +kernel
theorem dX9_cut_33 : decode cX9_cut 33 = .ok (.goto 26, 3) := by decide +kernel
theorem dX9_cut_36 : decode cX9_cut 36 = .ok (.iload_n 1, 1) := by decide +kernel
theorem dX9_cut_37 : decode cX9_cut 37 = .ok (.ifCond .lt 17, 3) := by decide +kernel
theorem dX9_cut_40 : decode cX9_cut 40 = .ok (.iload_n 1, 1) := by decide +kernel
theorem dX9_cut_41 : decode cX9_cut 41 = .ok (.aload_n 0, 1) := by decide +kernel
theorem dX9_cut_42 : decode cX9_cut 42 = .ok (.getfield 31, 3) := by decide +kernel
theorem dX9_cut_45 : decode cX9_cut 45 = .ok (.iconst 0, 1) := by decide +kernel
theorem dX9_cut_46 : decode cX9_cut 46 = .ok (.iload_n 2, 1) := by decide +kernel
theorem dX9_cut_47 : decode cX9_cut 47 = .ok (.invokestatic 64, 3) := by decide +kernel
theorem dX9_cut_50 : decode cX9_cut 50 = .ok (.iaload, 1) := by decide +kernel
theorem dX9_cut_51 : decode cX9_cut 51 = .ok (.if_icmp .le 7, 3) := by decide +kernel
theorem dX9_cut_54 : decode cX9_cut 54 = .ok (.iconst 1, 1) := by decide +kernel
theorem dX9_cut_55 : decode cX9_cut 55 = .ok (.goto 4, 3) := by decide +kernel
theorem dX9_cut_58 : decode cX9_cut 58 = .ok (.iconst 0, 1) := by decide +kernel
theorem dX9_cut_59 : decode cX9_cut 59 = .ok (.putfield 57, 3) := by decide +kernel
theorem dX9_cut_62 : decode cX9_cut 62 = .ok (.aload_n 0, 1) := by decide +kernel
theorem dX9_cut_63 : decode cX9_cut 63 = .ok (.getfield 57, 3) := by decide +kernel
theorem dX9_cut_66 : decode cX9_cut 66 = .ok (.ifCond .ne 11, 3) := by decide +kernel
theorem dX9_cut_69 : decode cX9_cut 69 = .ok (.aload_n 0, 1) := by decide +kernel
theorem dX9_cut_70 : decode cX9_cut 70 = .ok (.iload_n 2, 1) := by decide +kernel
theorem dX9_cut_71 : decode cX9_cut 71 = .ok (.iload_n 1, 1) := by decide +kernel
theorem dX9_cut_72 : decode cX9_cut 72 = .ok (.iconst 0, 1) := by decide +kernel
theorem dX9_cut_73 : decode cX9_cut 73 = .ok (.iconst 0, 1) := by decide +kernel
theorem dX9_cut_74 : decode cX9_cut 74 = .ok (.invokevirtual 131, 3) := by decide +kernel
theorem dX9_cut_77 : decode cX9_cut 77 = .ok (.return_, 1) := by decide +kernel
set_option maxRecDepth 20000 in
theorem ggX9_set_X9_chosenAt : GoodIn wsX9_set wsX9_chosenAt := goodIn_r _ [9, 10, 11, 12, 13, 14, 15, 8, 16, 17, 18, 19, 20, 21, 22, 23, 24, 25, 26, 27, 28, 29, 30, 31, 32, 33, 34, 35, 36, 37, 38, 39, 40, 41, 42, 43, 44, 45, 46, 47, 48, 49, 50, 51, 52] (by decide +kernel) (by decide +kernel)
set_option maxRecDepth 20000 in
theorem gX9_set_X9_chosenAt : GoodIn wsX9_set (wsV RX9 125 RX9 yX9_chosenAt wsX9_chosenAt) := goodIn_app (goodIn_of _ (by decide +kernel)) ggX9_set_X9_chosenAt
set_option maxRecDepth 20000 in
theorem ggX9_set_X9_place : GoodIn wsX9_set wsX9_place := goodIn_r _ [22] (by decide +kernel) (by decide +kernel)
set_option maxRecDepth 20000 in
theorem gX9_set_X9_place : GoodIn wsX9_set (va_wsS RX9 64 yX9_place wsX9_place) := goodIn_app (goodIn_of _ (by decide +kernel)) ggX9_set_X9_place
theorem dX9_set_0 : decode cX9_set 0 = .ok (.aload_n 0, 1) := by decide +kernel
theorem dX9_set_1 : decode cX9_set 1 = .ok (.invokevirtual 125, 3) := by decide +kernel
theorem dX9_set_4 : decode cX9_set 4 = .ok (.istore_n 3, 1) := by decide +kernel
theorem dX9_set_5 : decode cX9_set 5 = .ok (.aload_n 0, 1) := by decide +kernel
theorem dX9_set_6 : decode cX9_set 6 = .ok (.aload_n 0, 1) := by decide +kernel
theorem dX9_set_7 : decode cX9_set 7 = .ok (.getfield 107, 3) := by decide +kernel
theorem dX9_set_10 : decode cX9_set 10 = .ok (.iconst 1, 1) := by decide +kernel
theorem dX9_set_11 : decode cX9_set 11 = .ok (.if_icmp .eq 7, 3) := by decide +kernel
theorem dX9_set_14 : decode cX9_set 14 = .ok (.iload_n 3, 1) := by decide +kernel
theorem dX9_set_15 : decode cX9_set 15 = .ok (.ifCond .ge 7, 3) := by decide +kernel
theorem dX9_set_18 : decode cX9_set 18 = .ok (.iconst 2, 1) := by decide +kernel
theorem dX9_set_19 : decode cX9_set 19 = .ok (.goto 23, 3) := by decide +kernel
theorem dX9_set_22 : decode cX9_set 22 = .ok (.iload_n 1, 1) := by decide +kernel
theorem dX9_set_23 : decode cX9_set 23 = .ok (.ifCond .lt 14, 3) := by decide +kernel
theorem dX9_set_26 : decode cX9_set 26 = .ok (.iload_n 1, 1) := by decide +kernel
theorem dX9_set_27 : decode cX9_set 27 = .ok (.sipush 4095, 3) := by decide +kernel
theorem dX9_set_30 : decode cX9_set 30 = .ok (.if_icmp .gt 7, 3) := by decide +kernel
theorem dX9_set_33 : decode cX9_set 33 = .ok (.iload_n 2, 1) := by decide +kernel
theorem dX9_set_34 : decode cX9_set 34 = .ok (.ifCond .ge 7, 3) := by decide +kernel
theorem dX9_set_37 : decode cX9_set 37 = .ok (.iconst 1, 1) := by decide +kernel
theorem dX9_set_38 : decode cX9_set 38 = .ok (.goto 4, 3) := by decide +kernel
theorem dX9_set_41 : decode cX9_set 41 = .ok (.iconst 0, 1) := by decide +kernel
theorem dX9_set_42 : decode cX9_set 42 = .ok (.putfield 57, 3) := by decide +kernel
theorem dX9_set_45 : decode cX9_set 45 = .ok (.aload_n 0, 1) := by decide +kernel
theorem dX9_set_46 : decode cX9_set 46 = .ok (.getfield 57, 3) := by decide +kernel
theorem dX9_set_49 : decode cX9_set 49 = .ok (.ifCond .le 4, 3) := by decide +kernel
theorem dX9_set_52 : decode cX9_set 52 = .ok (.return_, 1) := by decide +kernel
theorem dX9_set_53 : decode cX9_set 53 = .ok (.aload_n 0, 1) := by decide +kernel
theorem dX9_set_54 : decode cX9_set 54 = .ok (.getfield 19, 3) := by decide +kernel
theorem dX9_set_57 : decode cX9_set 57 = .ok (.iconst 0, 1) := by decide +kernel
theorem dX9_set_58 : decode cX9_set 58 = .ok (.iload_n 3, 1) := by decide +kernel
theorem dX9_set_59 : decode cX9_set 59 = .ok (.invokestatic 64, 3) := by decide +kernel
theorem dX9_set_62 : decode cX9_set 62 = .ok (.iload_n 1, 1) := by decide +kernel
theorem dX9_set_63 : decode cX9_set 63 = .ok (.iastore, 1) := by decide +kernel
theorem dX9_set_64 : decode cX9_set 64 = .ok (.aload_n 0, 1) := by decide +kernel
theorem dX9_set_65 : decode cX9_set 65 = .ok (.getfield 22, 3) := by decide +kernel
theorem dX9_set_68 : decode cX9_set 68 = .ok (.iconst 0, 1) := by decide +kernel
theorem dX9_set_69 : decode cX9_set 69 = .ok (.iload_n 3, 1) := by decide +kernel
theorem dX9_set_70 : decode cX9_set 70 = .ok (.invokestatic 64, 3) := by decide +kernel
theorem dX9_set_73 : decode cX9_set 73 = .ok (.iload_n 2, 1) := by decide +kernel
theorem dX9_set_74 : decode cX9_set 74 = .ok (.iastore, 1) := by decide +kernel
theorem dX9_set_75 : decode cX9_set 75 = .ok (.return_, 1) := by decide +kernel
set_option maxRecDepth 20000 in
theorem ggX9_isBelow_X9_place : GoodIn wsX9_isBelow wsX9_place := goodIn_r _ [8] (by decide +kernel) (by decide +kernel)
set_option maxRecDepth 20000 in
theorem gX9_isBelow_X9_place : GoodIn wsX9_isBelow (va_wsS RX9 64 yX9_place wsX9_place) := goodIn_app (goodIn_of _ (by decide +kernel)) ggX9_isBelow_X9_place
theorem dX9_isBelow_0 : decode cX9_isBelow 0 = .ok (.iconst 0, 1) := by decide +kernel
theorem dX9_isBelow_1 : decode cX9_isBelow 1 = .ok (.iload_n 1, 1) := by decide +kernel
theorem dX9_isBelow_2 : decode cX9_isBelow 2 = .ok (.invokestatic 64, 3) := by decide +kernel
theorem dX9_isBelow_5 : decode cX9_isBelow 5 = .ok (.istore_n 2, 1) := by decide +kernel
theorem dX9_isBelow_6 : decode cX9_isBelow 6 = .ok (.aload_n 0, 1) := by decide +kernel
theorem dX9_isBelow_7 : decode cX9_isBelow 7 = .ok (.getfield 25, 3) := by decide +kernel
theorem dX9_isBelow_10 : decode cX9_isBelow 10 = .ok (.iload_n 2, 1) := by decide +kernel
theorem dX9_isBelow_11 : decode cX9_isBelow 11 = .ok (.iaload, 1) := by decide +kernel
theorem dX9_isBelow_12 : decode cX9_isBelow 12 = .ok (.aload_n 0, 1) := by decide +kernel
theorem dX9_isBelow_13 : decode cX9_isBelow 13 = .ok (.getfield 100, 3) := by decide +kernel
theorem dX9_isBelow_16 : decode cX9_isBelow 16 = .ok (.if_icmp .eq 36, 3) := by decide +kernel
theorem dX9_isBelow_19 : decode cX9_isBelow 19 = .ok (.aload_n 0, 1) := by decide +kernel
theorem dX9_isBelow_20 : decode cX9_isBelow 20 = .ok (.getfield 25, 3) := by decide +kernel
theorem dX9_isBelow_23 : decode cX9_isBelow 23 = .ok (.iload_n 2, 1) := by decide +kernel
theorem dX9_isBelow_24 : decode cX9_isBelow 24 = .ok (.iaload, 1) := by decide +kernel
theorem dX9_isBelow_25 : decode cX9_isBelow 25 = .ok (.aload_n 0, 1) := by decide +kernel
theorem dX9_isBelow_26 : decode cX9_isBelow 26 = .ok (.getfield 100, 3) := by decide +kernel
theorem dX9_isBelow_29 : decode cX9_isBelow 29 = .ok (.if_icmp .le 27, 3) := by decide +kernel
theorem dX9_isBelow_32 : decode cX9_isBelow 32 = .ok (.aload_n 0, 1) := by decide +kernel
theorem dX9_isBelow_33 : decode cX9_isBelow 33 = .ok (.getfield 35, 3) := by decide +kernel
theorem dX9_isBelow_36 : decode cX9_isBelow 36 = .ok (.sipush 150, 3) := by decide +kernel
theorem dX9_isBelow_39 : decode cX9_isBelow 39 = .ok (.iload_n 2, 1) := by decide +kernel
theorem dX9_isBelow_40 : decode cX9_isBelow 40 = .ok (.imul, 1) := by decide +kernel
theorem dX9_isBelow_41 : decode cX9_isBelow 41 = .ok (.aload_n 0, 1) := by decide +kernel
theorem dX9_isBelow_42 : decode cX9_isBelow 42 = .ok (.getfield 100, 3) := by decide +kernel
theorem dX9_isBelow_45 : decode cX9_isBelow 45 = .ok (.iadd, 1) := by decide +kernel
theorem dX9_isBelow_46 : decode cX9_isBelow 46 = .ok (.iaload, 1) := by decide +kernel
theorem dX9_isBelow_47 : decode cX9_isBelow 47 = .ok (.bipush 47, 2) := by decide +kernel
theorem dX9_isBelow_49 : decode cX9_isBelow 49 = .ok (.if_icmp .ne 7, 3) := by decide +kernel
theorem dX9_isBelow_52 : decode cX9_isBelow 52 = .ok (.iconst 1, 1) := by decide +kernel
theorem dX9_isBelow_53 : decode cX9_isBelow 53 = .ok (.goto 4, 3) := by decide +kernel
theorem dX9_isBelow_56 : decode cX9_isBelow 56 = .ok (.iconst 0, 1) := by decide +kernel
theorem dX9_isBelow_57 : decode cX9_isBelow 57 = .ok (.istore_n 3, 1) := by decide +kernel
theorem dX9_isBelow_58 : decode cX9_isBelow 58 = .ok (.iconst 0, 1) := by decide +kernel
theorem dX9_isBelow_59 : decode cX9_isBelow 59 = .ok (.istore 4, 2) := by decide +kernel
theorem dX9_isBelow_61 : decode cX9_isBelow 61 = .ok (.iload 4, 2) := by decide +kernel
theorem dX9_isBelow_63 : decode cX9_isBelow 63 = .ok (.aload_n 0, 1) := by decide +kernel
theorem dX9_isBelow_64 : decode cX9_isBelow 64 = .ok (.getfield 100, 3) := by decide +kernel
theorem dX9_isBelow_67 : decode cX9_isBelow 67 = .ok (.if_icmp .ge 42, 3) := by decide +kernel
theorem dX9_isBelow_70 : decode cX9_isBelow 70 = .ok (.iload_n 3, 1) := by decide +kernel
theorem dX9_isBelow_71 : decode cX9_isBelow 71 = .ok (.ifCond .eq 38, 3) := by decide +kernel
theorem dX9_isBelow_74 : decode cX9_isBelow 74 = .ok (.aload_n 0, 1) := by decide +kernel
theorem dX9_isBelow_75 : decode cX9_isBelow 75 = .ok (.getfield 35, 3) := by decide +kernel
theorem dX9_isBelow_78 : decode cX9_isBelow 78 = .ok (.sipush 150, 3) := by decide +kernel
theorem dX9_isBelow_81 : decode cX9_isBelow 81 = .ok (.iload_n 2, 1) := by decide +kernel
theorem dX9_isBelow_82 : decode cX9_isBelow 82 = .ok (.imul, 1) := by decide +kernel
theorem dX9_isBelow_83 : decode cX9_isBelow 83 = .ok (.iload 4, 2) := by decide +kernel
theorem dX9_isBelow_85 : decode cX9_isBelow 85 = .ok (.iadd, 1) := by decide +kernel
theorem dX9_isBelow_86 : decode cX9_isBelow 86 = .ok (.iaload, 1) := by decide +kernel
theorem dX9_isBelow_87 : decode cX9_isBelow 87 = .ok (.aload_n 0, 1) := by decide +kernel
theorem dX9_isBelow_88 : decode cX9_isBelow 88 = .ok (.getfield 54, 3) := by decide +kernel
theorem dX9_isBelow_91 : decode cX9_isBelow 91 = .ok (.iload 4, 2) := by decide +kernel
theorem dX9_isBelow_93 : decode cX9_isBelow 93 = .ok (.iaload, 1) := by decide +kernel
theorem dX9_isBelow_94 : decode cX9_isBelow 94 = .ok (.if_icmp .ne 7, 3) := by decide +kernel
theorem dX9_isBelow_97 : decode cX9_isBelow 97 = .ok (.iconst 1, 1) := by decide +kernel
theorem dX9_isBelow_98 : decode cX9_isBelow 98 = .ok (.goto 4, 3) := by decide +kernel
theorem dX9_isBelow_101 : decode cX9_isBelow 101 = .ok (.iconst 0, 1) := by decide +kernel
theorem dX9_isBelow_102 : decode cX9_isBelow 102 = .ok (.istore_n 3, 1) := by decide +kernel
theorem dX9_isBelow_103 : decode cX9_isBelow 103 = .ok (.iinc 4 1, 3) := by decide +kernel
theorem dX9_isBelow_106 : decode cX9_isBelow 106 = .ok (.goto (-45), 3) := by decide +kernel
theorem dX9_isBelow_109 : decode cX9_isBelow 109 = .ok (.iload_n 3, 1) := by decide +kernel
theorem dX9_isBelow_110 : decode cX9_isBelow 110 = .ok (.ireturn, 1) := by decide +kernel
set_option maxRecDepth 20000 in
theorem ggX9_remove_X9_chosenAt : GoodIn wsX9_remove wsX9_chosenAt := goodIn_r _ [9, 4, 10, 11, 12, 13, 14, 8, 15, 3, 16, 17, 18, 19, 20, 21, 22, 23, 24, 25, 26, 50, 51, 52, 53, 54, 55, 56, 57, 58, 59, 60, 61, 62, 63, 64, 65, 66, 67, 68, 69, 70, 71, 72, 73] (by decide +kernel) (by decide +kernel)
set_option maxRecDepth 20000 in
theorem gX9_remove_X9_chosenAt : GoodIn wsX9_remove (wsV RX9 125 RX9 yX9_chosenAt wsX9_chosenAt) := goodIn_app (goodIn_of _ (by decide +kernel)) ggX9_remove_X9_chosenAt
set_option maxRecDepth 20000 in
theorem ggX9_remove_X9_empty : GoodIn wsX9_remove wsX9_empty := goodIn_r _ [30, 3, 31, 50, 51, 52, 53, 54, 55, 56, 57, 58, 59, 60, 61, 62, 63, 64, 65, 66, 67, 68, 69, 70, 71, 72, 73] (by decide +kernel) (by decide +kernel)
set_option maxRecDepth 20000 in
theorem gX9_remove_X9_empty : GoodIn wsX9_remove (wsV RX9 68 RX9 yX9_empty wsX9_empty) := goodIn_app (goodIn_of _ (by decide +kernel)) ggX9_remove_X9_empty
set_option maxRecDepth 20000 in
theorem ggX9_remove_X9_isBelow : GoodIn wsX9_remove wsX9_isBelow := goodIn_r _ [35, 17, 11, 16, 10, 18, 19, 8, 20, 50, 51, 52, 53, 54, 55, 56, 57, 58, 59, 60, 61, 62, 63, 64, 65, 66, 67, 68, 69, 70, 71, 72, 73] (by decide +kernel) (by decide +kernel)
set_option maxRecDepth 20000 in
theorem gX9_remove_X9_isBelow : GoodIn wsX9_remove (wsV RX9 135 RX9 yX9_isBelow wsX9_isBelow) := goodIn_app (goodIn_of _ (by decide +kernel)) ggX9_remove_X9_isBelow
set_option maxRecDepth 20000 in
theorem ggX9_remove_X9_append : GoodIn wsX9_remove wsX9_append := goodIn_r _ [39, 3, 40, 41, 42, 17, 16, 43, 44, 31, 45, 18, 19, 8, 20, 50, 51, 52, 53, 54, 55, 56, 57, 58, 59, 60, 61, 62, 63, 64, 65, 66, 67, 68, 69, 70, 71, 72, 73] (by decide +kernel) (by decide +kernel)
set_option maxRecDepth 20000 in
theorem gX9_remove_X9_append : GoodIn wsX9_remove (wsV RX9 72 RX9 yX9_append wsX9_append) := goodIn_app (goodIn_of _ (by decide +kernel)) ggX9_remove_X9_append
set_option maxRecDepth 20000 in
theorem ggX9_remove_X9_copy : GoodIn wsX9_remove wsX9_copy := goodIn_r _ [49, 3, 27, 28, 29, 8, 30, 31, 36, 37, 38, 39, 40, 41, 42, 17, 16, 43, 44, 45, 18, 19, 20, 50, 51, 52, 53, 54, 55, 56, 57, 58, 59, 60, 61, 62, 63, 64, 65, 66, 67, 68, 69, 70, 71, 72, 73] (by decide +kernel) (by decide +kernel)
set_option maxRecDepth 20000 in
theorem gX9_remove_X9_copy : GoodIn wsX9_remove (wsV RX9 117 RX9 yX9_copy wsX9_copy) := goodIn_app (goodIn_of _ (by decide +kernel)) ggX9_remove_X9_copy
theorem dX9_remove_0 : decode cX9_remove 0 = .ok (.aload_n 0, 1) := by decide +kernel
theorem dX9_remove_1 : decode cX9_remove 1 = .ok (.aload_n 0, 1) := by decide +kernel
theorem dX9_remove_2 : decode cX9_remove 2 = .ok (.getfield 107, 3) := by decide +kernel
theorem dX9_remove_5 : decode cX9_remove 5 = .ok (.iconst 1, 1) := by decide +kernel
theorem dX9_remove_6 : decode cX9_remove 6 = .ok (.if_icmp .eq 10, 3) := by decide +kernel
theorem dX9_remove_9 : decode cX9_remove 9 = .ok (.aload_n 0, 1) := by decide +kernel
theorem dX9_remove_10 : decode cX9_remove 10 = .ok (.invokevirtual 125, 3) := by decide +kernel
theorem dX9_remove_13 : decode cX9_remove 13 = .ok (.ifCond .ge 7, 3) := by decide +kernel
theorem dX9_remove_16 : decode cX9_remove 16 = .ok (.iconst 1, 1) := by decide +kernel
theorem dX9_remove_17 : decode cX9_remove 17 = .ok (.goto 4, 3) := by decide +kernel
theorem dX9_remove_20 : decode cX9_remove 20 = .ok (.iconst 0, 1) := by decide +kernel
theorem dX9_remove_21 : decode cX9_remove 21 = .ok (.putfield 57, 3) := by decide +kernel
theorem dX9_remove_24 : decode cX9_remove 24 = .ok (.aload_n 0, 1) := by decide +kernel
theorem dX9_remove_25 : decode cX9_remove 25 = .ok (.getfield 57, 3) := by decide +kernel
theorem dX9_remove_28 : decode cX9_remove 28 = .ok (.ifCond .le 5, 3) := by decide +kernel
theorem dX9_remove_31 : decode cX9_remove 31 = .ok (.iconst 0, 1) := by decide +kernel
theorem dX9_remove_32 : decode cX9_remove 32 = .ok (.ireturn, 1) := by decide +kernel
theorem dX9_remove_33 : decode cX9_remove 33 = .ok (.aload_n 0, 1) := by decide +kernel
theorem dX9_remove_34 : decode cX9_remove 34 = .ok (.iconst 5, 1) := by decide +kernel
theorem dX9_remove_35 : decode cX9_remove 35 = .ok (.invokevirtual 68, 3) := by decide +kernel
theorem dX9_remove_38 : decode cX9_remove 38 = .ok (.iconst 0, 1) := by decide +kernel
theorem dX9_remove_39 : decode cX9_remove 39 = .ok (.istore_n 1, 1) := by decide +kernel
theorem dX9_remove_40 : decode cX9_remove 40 = .ok (.iload_n 1, 1) := by decide +kernel
theorem dX9_remove_41 : decode cX9_remove 41 = .ok (.aload_n 0, 1) := by decide +kernel
theorem dX9_remove_42 : decode cX9_remove 42 = .ok (.getfield 7, 3) := by decide +kernel
theorem dX9_remove_45 : decode cX9_remove 45 = .ok (.iconst 0, 1) := by decide +kernel
theorem dX9_remove_46 : decode cX9_remove 46 = .ok (.iaload, 1) := by decide +kernel
theorem dX9_remove_47 : decode cX9_remove 47 = .ok (.if_icmp .ge 24, 3) := by decide +kernel
theorem dX9_remove_50 : decode cX9_remove 50 = .ok (.aload_n 0, 1) := by decide +kernel
theorem dX9_remove_51 : decode cX9_remove 51 = .ok (.iload_n 1, 1) := by decide +kernel
theorem dX9_remove_52 : decode cX9_remove 52 = .ok (.invokevirtual 135, 3) := by decide +kernel
theorem dX9_remove_55 : decode cX9_remove 55 = .ok (.ifCond .ne 10, 3) := by decide +kernel
theorem dX9_remove_58 : decode cX9_remove 58 = .ok (.aload_n 0, 1) := by decide +kernel
theorem dX9_remove_59 : decode cX9_remove 59 = .ok (.iconst 0, 1) := by decide +kernel
theorem dX9_remove_60 : decode cX9_remove 60 = .ok (.iload_n 1, 1) := by decide +kernel
theorem dX9_remove_61 : decode cX9_remove 61 = .ok (.iconst 5, 1) := by decide +kernel
theorem dX9_remove_62 : decode cX9_remove 62 = .ok (.invokevirtual 72, 3) := by decide +kernel
theorem dX9_remove_65 : decode cX9_remove 65 = .ok (.iinc 1 1, 3) := by decide +kernel
theorem dX9_remove_68 : decode cX9_remove 68 = .ok (.goto (-28), 3) := by decide +kernel
theorem dX9_remove_71 : decode cX9_remove 71 = .ok (.aload_n 0, 1) := by decide +kernel
theorem dX9_remove_72 : decode cX9_remove 72 = .ok (.getfield 7, 3) := by decide +kernel
theorem dX9_remove_75 : decode cX9_remove 75 = .ok (.iconst 0, 1) := by decide +kernel
theorem dX9_remove_76 : decode cX9_remove 76 = .ok (.iaload, 1) := by decide +kernel
theorem dX9_remove_77 : decode cX9_remove 77 = .ok (.aload_n 0, 1) := by decide +kernel
theorem dX9_remove_78 : decode cX9_remove 78 = .ok (.getfield 7, 3) := by decide +kernel
theorem dX9_remove_81 : decode cX9_remove 81 = .ok (.iconst 5, 1) := by decide +kernel
theorem dX9_remove_82 : decode cX9_remove 82 = .ok (.iaload, 1) := by decide +kernel
theorem dX9_remove_83 : decode cX9_remove 83 = .ok (.isub, 1) := by decide +kernel
theorem dX9_remove_84 : decode cX9_remove 84 = .ok (.istore_n 1, 1) := by decide +kernel
theorem dX9_remove_85 : decode cX9_remove 85 = .ok (.aload_n 0, 1) := by decide +kernel
theorem dX9_remove_86 : decode cX9_remove 86 = .ok (.iconst 5, 1) := by decide +kernel
theorem dX9_remove_87 : decode cX9_remove 87 = .ok (.iconst 0, 1) := by decide +kernel
theorem dX9_remove_88 : decode cX9_remove 88 = .ok (.invokevirtual 117, 3) := by decide +kernel
theorem dX9_remove_91 : decode cX9_remove 91 = .ok (.aload_n 0, 1) := by decide +kernel
theorem dX9_remove_92 : decode cX9_remove 92 = .ok (.iconst 0, 1) := by decide +kernel
theorem dX9_remove_93 : decode cX9_remove 93 = .ok (.putfield 96, 3) := by decide +kernel
theorem dX9_remove_96 : decode cX9_remove 96 = .ok (.iload_n 1, 1) := by decide +kernel
theorem dX9_remove_97 : decode cX9_remove 97 = .ok (.ireturn, 1) := by decide +kernel
set_option maxRecDepth 20000 in
theorem ggX9_begin_X9_copy : GoodIn wsX9_begin wsX9_copy := goodIn_r _ [12, 13, 14, 15, 16, 11, 17, 18, 19, 20, 21, 22, 23, 24, 25, 26, 27, 28, 29, 30, 31, 32, 33, 52, 53, 54, 55, 56, 57, 58, 59, 60, 61, 62, 63, 64, 65, 66, 67, 68, 69, 70, 71, 72, 73, 74, 75] (by decide +kernel) (by decide +kernel)
set_option maxRecDepth 20000 in
theorem gX9_begin_X9_copy : GoodIn wsX9_begin (wsV RX9 117 RX9 yX9_copy wsX9_copy) := goodIn_app (goodIn_of _ (by decide +kernel)) ggX9_begin_X9_copy
set_option maxRecDepth 20000 in
theorem ggX9_begin_X9_join : GoodIn wsX9_begin wsX9_join := goodIn_r _ [37, 13, 14, 15, 16, 11, 17, 18, 38, 39, 40, 41, 27, 26, 31, 32, 33, 42, 43, 44, 45, 46, 47, 48, 49, 50, 51, 23, 24, 25, 28, 30, 29, 19, 20, 21, 22, 52, 53, 54, 55, 56, 57, 58, 59, 60, 61, 62, 63, 64, 65, 66, 67, 68, 69, 70, 71, 72, 73, 74, 75] (by decide +kernel) (by decide +kernel)
set_option maxRecDepth 20000 in
theorem gX9_begin_X9_join : GoodIn wsX9_begin (wsV RX9 147 RX9 yX9_join wsX9_join) := goodIn_app (goodIn_of _ (by decide +kernel)) ggX9_begin_X9_join
theorem dX9_begin_0 : decode cX9_begin 0 = .ok (.aload_n 0, 1) := by decide +kernel
theorem dX9_begin_1 : decode cX9_begin 1 = .ok (.aload_n 0, 1) := by decide +kernel
theorem dX9_begin_2 : decode cX9_begin 2 = .ok (.getfield 107, 3) := by decide +kernel
theorem dX9_begin_5 : decode cX9_begin 5 = .ok (.ifCond .ne 12, 3) := by decide +kernel
theorem dX9_begin_8 : decode cX9_begin 8 = .ok (.aload_n 0, 1) := by decide +kernel
theorem dX9_begin_9 : decode cX9_begin 9 = .ok (.getfield 138, 3) := by decide +kernel
theorem dX9_begin_12 : decode cX9_begin 12 = .ok (.bipush 40, 2) := by decide +kernel
theorem dX9_begin_14 : decode cX9_begin 14 = .ok (.if_icmp .ne 7, 3) := by decide +kernel
theorem dX9_begin_17 : decode cX9_begin 17 = .ok (.iconst 2, 1) := by decide +kernel
theorem dX9_begin_18 : decode cX9_begin 18 = .ok (.goto 34, 3) := by decide +kernel
theorem dX9_begin_21 : decode cX9_begin 21 = .ok (.iload_n 1, 1) := by decide +kernel
theorem dX9_begin_22 : decode cX9_begin 22 = .ok (.ifCond .lt 25, 3) := by decide +kernel
theorem dX9_begin_25 : decode cX9_begin 25 = .ok (.aload_n 0, 1) := by decide +kernel
theorem dX9_begin_26 : decode cX9_begin 26 = .ok (.getfield 138, 3) := by decide +kernel
theorem dX9_begin_29 : decode cX9_begin 29 = .ok (.ifCond .le 22, 3) := by decide +kernel
theorem dX9_begin_32 : decode cX9_begin 32 = .ok (.iload_n 1, 1) := by decide +kernel
theorem dX9_begin_33 : decode cX9_begin 33 = .ok (.aload_n 0, 1) := by decide +kernel
theorem dX9_begin_34 : decode cX9_begin 34 = .ok (.getfield 48, 3) := by decide +kernel
theorem dX9_begin_37 : decode cX9_begin 37 = .ok (.aload_n 0, 1) := by decide +kernel
theorem dX9_begin_38 : decode cX9_begin 38 = .ok (.getfield 138, 3) := by decide +kernel
theorem dX9_begin_41 : decode cX9_begin 41 = .ok (.iconst 1, 1) := by decide +kernel
theorem dX9_begin_42 : decode cX9_begin 42 = .ok (.isub, 1) := by decide +kernel
theorem dX9_begin_43 : decode cX9_begin 43 = .ok (.iaload, 1) := by decide +kernel
theorem dX9_begin_44 : decode cX9_begin 44 = .ok (.if_icmp .gt 7, 3) := by decide +kernel
theorem dX9_begin_47 : decode cX9_begin 47 = .ok (.iconst 1, 1) := by decide +kernel
theorem dX9_begin_48 : decode cX9_begin 48 = .ok (.goto 4, 3) := by decide +kernel
theorem dX9_begin_51 : decode cX9_begin 51 = .ok (.iconst 0, 1) := by decide +kernel
theorem dX9_begin_52 : decode cX9_begin 52 = .ok (.putfield 57, 3) := by decide +kernel
theorem dX9_begin_55 : decode cX9_begin 55 = .ok (.aload_n 0, 1) := by decide +kernel
theorem dX9_begin_56 : decode cX9_begin 56 = .ok (.getfield 57, 3) := by decide +kernel
theorem dX9_begin_59 : decode cX9_begin 59 = .ok (.ifCond .le 5, 3) := by decide +kernel
theorem dX9_begin_62 : decode cX9_begin 62 = .ok (.iconst 0, 1) := by decide +kernel
theorem dX9_begin_63 : decode cX9_begin 63 = .ok (.ireturn, 1) := by decide +kernel
theorem dX9_begin_64 : decode cX9_begin 64 = .ok (.aload_n 0, 1) := by decide +kernel
theorem dX9_begin_65 : decode cX9_begin 65 = .ok (.iconst 1, 1) := by decide +kernel
theorem dX9_begin_66 : decode cX9_begin 66 = .ok (.putfield 107, 3) := by decide +kernel
theorem dX9_begin_69 : decode cX9_begin 69 = .ok (.aload_n 0, 1) := by decide +kernel
theorem dX9_begin_70 : decode cX9_begin 70 = .ok (.iconst 0, 1) := by decide +kernel
theorem dX9_begin_71 : decode cX9_begin 71 = .ok (.putfield 141, 3) := by decide +kernel
theorem dX9_begin_74 : decode cX9_begin 74 = .ok (.aload_n 0, 1) := by decide +kernel
theorem dX9_begin_75 : decode cX9_begin 75 = .ok (.iload_n 1, 1) := by decide +kernel
theorem dX9_begin_76 : decode cX9_begin 76 = .ok (.putfield 144, 3) := by decide +kernel
theorem dX9_begin_79 : decode cX9_begin 79 = .ok (.aload_n 0, 1) := by decide +kernel
theorem dX9_begin_80 : decode cX9_begin 80 = .ok (.iconst 1, 1) := by decide +kernel
theorem dX9_begin_81 : decode cX9_begin 81 = .ok (.iconst 3, 1) := by decide +kernel
theorem dX9_begin_82 : decode cX9_begin 82 = .ok (.invokevirtual 117, 3) := by decide +kernel
theorem dX9_begin_85 : decode cX9_begin 85 = .ok (.aload_n 0, 1) := by decide +kernel
theorem dX9_begin_86 : decode cX9_begin 86 = .ok (.iconst 0, 1) := by decide +kernel
theorem dX9_begin_87 : decode cX9_begin 87 = .ok (.iconst 4, 1) := by decide +kernel
theorem dX9_begin_88 : decode cX9_begin 88 = .ok (.invokevirtual 117, 3) := by decide +kernel
theorem dX9_begin_91 : decode cX9_begin 91 = .ok (.aload_n 0, 1) := by decide +kernel
theorem dX9_begin_92 : decode cX9_begin 92 = .ok (.aload_n 0, 1) := by decide +kernel
theorem dX9_begin_93 : decode cX9_begin 93 = .ok (.iconst 3, 1) := by decide +kernel
theorem dX9_begin_94 : decode cX9_begin 94 = .ok (.iconst 4, 1) := by decide +kernel
theorem dX9_begin_95 : decode cX9_begin 95 = .ok (.iconst 0, 1) := by decide +kernel
theorem dX9_begin_96 : decode cX9_begin 96 = .ok (.iconst (-1), 1) := by decide +kernel
theorem dX9_begin_97 : decode cX9_begin 97 = .ok (.invokevirtual 147, 3) := by decide +kernel
theorem dX9_begin_100 : decode cX9_begin 100 = .ok (.putfield 150, 3) := by decide +kernel
theorem dX9_begin_103 : decode cX9_begin 103 = .ok (.iconst 2, 1) := by decide +kernel
theorem dX9_begin_104 : decode cX9_begin 104 = .ok (.aload_n 0, 1) := by decide +kernel
theorem dX9_begin_105 : decode cX9_begin 105 = .ok (.getfield 150, 3) := by decide +kernel
theorem dX9_begin_108 : decode cX9_begin 108 = .ok (.imul, 1) := by decide +kernel
theorem dX9_begin_109 : decode cX9_begin 109 = .ok (.iconst 3, 1) := by decide +kernel
theorem dX9_begin_110 : decode cX9_begin 110 = .ok (.iadd, 1) := by decide +kernel
theorem dX9_begin_111 : decode cX9_begin 111 = .ok (.ireturn, 1) := by decide +kernel
theorem dX9_updates_0 : decode cX9_updates 0 = .ok (.aload_n 0, 1) := by decide +kernel
theorem dX9_updates_1 : decode cX9_updates 1 = .ok (.getfield 141, 3) := by decide +kernel
theorem dX9_updates_4 : decode cX9_updates 4 = .ok (.iconst 1, 1) := by decide +kernel
theorem dX9_updates_5 : decode cX9_updates 5 = .ok (.if_icmp .ge 7, 3) := by decide +kernel
theorem dX9_updates_8 : decode cX9_updates 8 = .ok (.iconst 0, 1) := by decide +kernel
theorem dX9_updates_9 : decode cX9_updates 9 = .ok (.goto 33, 3) := by decide +kernel
theorem dX9_updates_12 : decode cX9_updates 12 = .ok (.aload_n 0, 1) := by decide +kernel
theorem dX9_updates_13 : decode cX9_updates 13 = .ok (.getfield 141, 3) := by decide +kernel
theorem dX9_updates_16 : decode cX9_updates 16 = .ok (.iconst 1, 1) := by decide +kernel
theorem dX9_updates_17 : decode cX9_updates 17 = .ok (.isub, 1) := by decide +kernel
theorem dX9_updates_18 : decode cX9_updates 18 = .ok (.iconst 2, 1) := by decide +kernel
theorem dX9_updates_19 : decode cX9_updates 19 = .ok (.idiv, 1) := by decide +kernel
theorem dX9_updates_20 : decode cX9_updates 20 = .ok (.aload_n 0, 1) := by decide +kernel
theorem dX9_updates_21 : decode cX9_updates 21 = .ok (.getfield 150, 3) := by decide +kernel
theorem dX9_updates_24 : decode cX9_updates 24 = .ok (.if_icmp .ge 14, 3) := by decide +kernel
theorem dX9_updates_27 : decode cX9_updates 27 = .ok (.aload_n 0, 1) := by decide +kernel
theorem dX9_updates_28 : decode cX9_updates 28 = .ok (.getfield 141, 3) := by decide +kernel
theorem dX9_updates_31 : decode cX9_updates 31 = .ok (.iconst 1, 1) := by decide +kernel
theorem dX9_updates_32 : decode cX9_updates 32 = .ok (.isub, 1) := by decide +kernel
theorem dX9_updates_33 : decode cX9_updates 33 = .ok (.iconst 2, 1) := by decide +kernel
theorem dX9_updates_34 : decode cX9_updates 34 = .ok (.idiv, 1) := by decide +kernel
theorem dX9_updates_35 : decode cX9_updates 35 = .ok (.goto 7, 3) := by decide +kernel
theorem dX9_updates_38 : decode cX9_updates 38 = .ok (.aload_n 0, 1) := by decide +kernel
theorem dX9_updates_39 : decode cX9_updates 39 = .ok (.getfield 150, 3) := by decide +kernel
theorem dX9_updates_42 : decode cX9_updates 42 = .ok (.ireturn, 1) := by decide +kernel
theorem dX9_increments_0 : decode cX9_increments 0 = .ok (.aload_n 0, 1) := by decide +kernel
theorem dX9_increments_1 : decode cX9_increments 1 = .ok (.getfield 141, 3) := by decide +kernel
theorem dX9_increments_4 : decode cX9_increments 4 = .ok (.iconst 2, 1) := by decide +kernel
theorem dX9_increments_5 : decode cX9_increments 5 = .ok (.idiv, 1) := by decide +kernel
theorem dX9_increments_6 : decode cX9_increments 6 = .ok (.aload_n 0, 1) := by decide +kernel
theorem dX9_increments_7 : decode cX9_increments 7 = .ok (.getfield 150, 3) := by decide +kernel
theorem dX9_increments_10 : decode cX9_increments 10 = .ok (.if_icmp .ge 12, 3) := by decide +kernel
theorem dX9_increments_13 : decode cX9_increments 13 = .ok (.aload_n 0, 1) := by decide +kernel
theorem dX9_increments_14 : decode cX9_increments 14 = .ok (.getfield 141, 3) := by decide +kernel
theorem dX9_increments_17 : decode cX9_increments 17 = .ok (.iconst 2, 1) := by decide +kernel
theorem dX9_increments_18 : decode cX9_increments 18 = .ok (.idiv, 1) := by decide +kernel
theorem dX9_increments_19 : decode cX9_increments 19 = .ok (.goto 7, 3) := by decide +kernel
theorem dX9_increments_22 : decode cX9_increments 22 = .ok (.aload_n 0, 1) := by decide +kernel
theorem dX9_increments_23 : decode cX9_increments 23 = .ok (.getfield 150, 3) := by decide +kernel
theorem dX9_increments_26 : decode cX9_increments 26 = .ok (.ireturn, 1) := by decide +kernel
set_option maxRecDepth 20000 in
theorem ggX9_mirror_X9_updates : GoodIn wsX9_mirror wsX9_updates := goodIn_r _ [5, 6, 7, 47, 48, 49, 50, 51, 52, 53, 54, 55, 56, 57, 58, 59, 60, 61, 62, 63, 64, 65, 66, 67, 68, 69, 70] (by decide +kernel) (by decide +kernel)
set_option maxRecDepth 20000 in
theorem gX9_mirror_X9_updates : GoodIn wsX9_mirror (wsV RX9 153 RX9 yX9_updates wsX9_updates) := goodIn_app (goodIn_of _ (by decide +kernel)) ggX9_mirror_X9_updates
set_option maxRecDepth 20000 in
theorem ggX9_mirror_X9_join : GoodIn wsX9_mirror wsX9_join := goodIn_r _ [11, 12, 13, 14, 15, 4, 16, 17, 18, 19, 20, 21, 22, 23, 24, 25, 26, 27, 28, 29, 30, 31, 32, 33, 34, 35, 36, 37, 38, 39, 40, 41, 42, 43, 44, 45, 46, 47, 48, 49, 50, 51, 52, 53, 54, 55, 56, 57, 58, 59, 60, 61, 62, 63, 64, 65, 66, 67, 68, 69, 70] (by decide +kernel) (by decide +kernel)
set_option maxRecDepth 20000 in
theorem gX9_mirror_X9_join : GoodIn wsX9_mirror (wsV RX9 147 RX9 yX9_join wsX9_join) := goodIn_app (goodIn_of _ (by decide +kernel)) ggX9_mirror_X9_join
theorem dX9_mirror_0 : decode cX9_mirror 0 = .ok (.aload_n 0, 1) := by decide +kernel
theorem dX9_mirror_1 : decode cX9_mirror 1 = .ok (.iconst 3, 1) := by decide +kernel
theorem dX9_mirror_2 : decode cX9_mirror 2 = .ok (.iconst 4, 1) := by decide +kernel
theorem dX9_mirror_3 : decode cX9_mirror 3 = .ok (.aload_n 0, 1) := by decide +kernel
theorem dX9_mirror_4 : decode cX9_mirror 4 = .ok (.invokevirtual 153, 3) := by decide +kernel
theorem dX9_mirror_7 : decode cX9_mirror 7 = .ok (.iconst 1, 1) := by decide +kernel
theorem dX9_mirror_8 : decode cX9_mirror 8 = .ok (.invokevirtual 147, 3) := by decide +kernel
theorem dX9_mirror_11 : decode cX9_mirror 11 = .ok (.pop, 1) := by decide +kernel
theorem dX9_mirror_12 : decode cX9_mirror 12 = .ok (.return_, 1) := by decide +kernel
set_option maxRecDepth 20000 in
theorem ggX9_step_X9_mirror : GoodIn wsX9_step wsX9_mirror := goodIn_r _ [13, 14, 15, 16, 12, 17, 4, 3, 18, 19, 20, 21, 22, 23, 24, 25, 26, 27, 28, 29, 30, 31, 32, 33, 34, 35, 36, 37, 38, 39, 40, 41, 42, 43, 44, 45, 46, 47, 48, 49, 50, 51, 52, 53, 54, 55, 56, 61, 62, 63, 64, 65, 66, 67, 68, 69, 70, 71, 72, 73, 74, 75, 76, 77, 78, 79, 80, 81, 82, 83, 84] (by decide +kernel) (by decide +kernel)
set_option maxRecDepth 20000 in
theorem gX9_step_X9_mirror : GoodIn wsX9_step (wsV RX9 156 RX9 yX9_mirror wsX9_mirror) := goodIn_app (goodIn_of _ (by decide +kernel)) ggX9_step_X9_mirror
set_option maxRecDepth 20000 in
theorem ggX9_step_X9_copy : GoodIn wsX9_step wsX9_copy := goodIn_r _ [60, 22, 23, 24, 25, 12, 26, 27, 53, 54, 55, 56, 47, 48, 49, 33, 32, 50, 52, 51, 34, 35, 36, 61, 62, 63, 64, 65, 66, 67, 68, 69, 70, 71, 72, 73, 74, 75, 76, 77, 78, 79, 80, 81, 82, 83, 84] (by decide +kernel) (by decide +kernel)
set_option maxRecDepth 20000 in
theorem gX9_step_X9_copy : GoodIn wsX9_step (wsV RX9 117 RX9 yX9_copy wsX9_copy) := goodIn_app (goodIn_of _ (by decide +kernel)) ggX9_step_X9_copy
theorem dX9_step_0 : decode cX9_step 0 = .ok (.aload_n 0, 1) := by decide +kernel
theorem dX9_step_1 : decode cX9_step 1 = .ok (.aload_n 0, 1) := by decide +kernel
theorem dX9_step_2 : decode cX9_step 2 = .ok (.getfield 107, 3) := by decide +kernel
theorem dX9_step_5 : decode cX9_step 5 = .ok (.iconst 1, 1) := by decide +kernel
theorem dX9_step_6 : decode cX9_step 6 = .ok (.if_icmp .eq 7, 3) := by decide +kernel
theorem dX9_step_9 : decode cX9_step 9 = .ok (.iconst 1, 1) := by decide +kernel
theorem dX9_step_10 : decode cX9_step 10 = .ok (.goto 19, 3) := by decide +kernel
theorem dX9_step_13 : decode cX9_step 13 = .ok (.iload_n 1, 1) := by decide +kernel
theorem dX9_step_14 : decode cX9_step 14 = .ok (.ifCond .lt 10, 3) := by decide +kernel
theorem dX9_step_17 : decode cX9_step 17 = .ok (.iload_n 1, 1) := by decide +kernel
theorem dX9_step_18 : decode cX9_step 18 = .ok (.sipush 200, 3) := by decide +kernel
theorem dX9_step_21 : decode cX9_step 21 = .ok (.if_icmp .le 7, 3) := by decide +kernel
theorem dX9_step_24 : decode cX9_step 24 = .ok (.iconst 2, 1) := by decide +kernel
theorem dX9_step_25 : decode cX9_step 25 = .ok (.goto 4, 3) := by decide +kernel
theorem dX9_step_28 : decode cX9_step 28 = .ok (.iconst 0, 1) := by decide +kernel
theorem dX9_step_29 : decode cX9_step 29 = .ok (.putfield 57, 3) := by decide +kernel
theorem dX9_step_32 : decode cX9_step 32 = .ok (.aload_n 0, 1) := by decide +kernel
theorem dX9_step_33 : decode cX9_step 33 = .ok (.getfield 57, 3) := by decide +kernel
theorem dX9_step_36 : decode cX9_step 36 = .ok (.ifCond .le 5, 3) := by decide +kernel
theorem dX9_step_39 : decode cX9_step 39 = .ok (.iconst 0, 1) := by decide +kernel
theorem dX9_step_40 : decode cX9_step 40 = .ok (.ireturn, 1) := by decide +kernel
theorem dX9_step_41 : decode cX9_step 41 = .ok (.iconst 2, 1) := by decide +kernel
theorem dX9_step_42 : decode cX9_step 42 = .ok (.aload_n 0, 1) := by decide +kernel
theorem dX9_step_43 : decode cX9_step 43 = .ok (.getfield 150, 3) := by decide +kernel
theorem dX9_step_46 : decode cX9_step 46 = .ok (.imul, 1) := by decide +kernel
theorem dX9_step_47 : decode cX9_step 47 = .ok (.iconst 3, 1) := by decide +kernel
theorem dX9_step_48 : decode cX9_step 48 = .ok (.iadd, 1) := by decide +kernel
theorem dX9_step_49 : decode cX9_step 49 = .ok (.aload_n 0, 1) := by decide +kernel
theorem dX9_step_50 : decode cX9_step 50 = .ok (.getfield 141, 3) := by decide +kernel
theorem dX9_step_53 : decode cX9_step 53 = .ok (.isub, 1) := by decide +kernel
theorem dX9_step_54 : decode cX9_step 54 = .ok (.istore_n 2, 1) := by decide +kernel
theorem dX9_step_55 : decode cX9_step 55 = .ok (.iload_n 1, 1) := by decide +kernel
theorem dX9_step_56 : decode cX9_step 56 = .ok (.iload_n 2, 1) := by decide +kernel
theorem dX9_step_57 : decode cX9_step 57 = .ok (.if_icmp .ge 7, 3) := by decide +kernel
theorem dX9_step_60 : decode cX9_step 60 = .ok (.iload_n 1, 1) := by decide +kernel
theorem dX9_step_61 : decode cX9_step 61 = .ok (.goto 4, 3) := by decide +kernel
theorem dX9_step_64 : decode cX9_step 64 = .ok (.iload_n 2, 1) := by decide +kernel
theorem dX9_step_65 : decode cX9_step 65 = .ok (.istore_n 3, 1) := by decide +kernel
theorem dX9_step_66 : decode cX9_step 66 = .ok (.aload_n 0, 1) := by decide +kernel
theorem dX9_step_67 : decode cX9_step 67 = .ok (.dup, 1) := by decide +kernel
theorem dX9_step_68 : decode cX9_step 68 = .ok (.getfield 141, 3) := by decide +kernel
theorem dX9_step_71 : decode cX9_step 71 = .ok (.iload_n 3, 1) := by decide +kernel
theorem dX9_step_72 : decode cX9_step 72 = .ok (.iadd, 1) := by decide +kernel
theorem dX9_step_73 : decode cX9_step 73 = .ok (.putfield 141, 3) := by decide +kernel
theorem dX9_step_76 : decode cX9_step 76 = .ok (.aload_n 0, 1) := by decide +kernel
theorem dX9_step_77 : decode cX9_step 77 = .ok (.invokevirtual 156, 3) := by decide +kernel
theorem dX9_step_80 : decode cX9_step 80 = .ok (.iload_n 3, 1) := by decide +kernel
theorem dX9_step_81 : decode cX9_step 81 = .ok (.iload_n 2, 1) := by decide +kernel
theorem dX9_step_82 : decode cX9_step 82 = .ok (.if_icmp .ne 61, 3) := by decide +kernel
theorem dX9_step_85 : decode cX9_step 85 = .ok (.aload_n 0, 1) := by decide +kernel
theorem dX9_step_86 : decode cX9_step 86 = .ok (.getfield 48, 3) := by decide +kernel
theorem dX9_step_89 : decode cX9_step 89 = .ok (.aload_n 0, 1) := by decide +kernel
theorem dX9_step_90 : decode cX9_step 90 = .ok (.getfield 138, 3) := by decide +kernel
theorem dX9_step_93 : decode cX9_step 93 = .ok (.aload_n 0, 1) := by decide +kernel
theorem dX9_step_94 : decode cX9_step 94 = .ok (.getfield 144, 3) := by decide +kernel
theorem dX9_step_97 : decode cX9_step 97 = .ok (.iastore, 1) := by decide +kernel
theorem dX9_step_98 : decode cX9_step 98 = .ok (.aload_n 0, 1) := by decide +kernel
theorem dX9_step_99 : decode cX9_step 99 = .ok (.getfield 51, 3) := by decide +kernel
theorem dX9_step_102 : decode cX9_step 102 = .ok (.aload_n 0, 1) := by decide +kernel
theorem dX9_step_103 : decode cX9_step 103 = .ok (.getfield 138, 3) := by decide +kernel
theorem dX9_step_106 : decode cX9_step 106 = .ok (.aload_n 0, 1) := by decide +kernel
theorem dX9_step_107 : decode cX9_step 107 = .ok (.getfield 150, 3) := by decide +kernel
theorem dX9_step_110 : decode cX9_step 110 = .ok (.iastore, 1) := by decide +kernel
theorem dX9_step_111 : decode cX9_step 111 = .ok (.aload_n 0, 1) := by decide +kernel
theorem dX9_step_112 : decode cX9_step 112 = .ok (.iconst 4, 1) := by decide +kernel
theorem dX9_step_113 : decode cX9_step 113 = .ok (.bipush 6, 2) := by decide +kernel
theorem dX9_step_115 : decode cX9_step 115 = .ok (.aload_n 0, 1) := by decide +kernel
theorem dX9_step_116 : decode cX9_step 116 = .ok (.getfield 138, 3) := by decide +kernel
theorem dX9_step_119 : decode cX9_step 119 = .ok (.iadd, 1) := by decide +kernel
theorem dX9_step_120 : decode cX9_step 120 = .ok (.invokevirtual 117, 3) := by decide +kernel
theorem dX9_step_123 : decode cX9_step 123 = .ok (.aload_n 0, 1) := by decide +kernel
theorem dX9_step_124 : decode cX9_step 124 = .ok (.dup, 1) := by decide +kernel
theorem dX9_step_125 : decode cX9_step 125 = .ok (.getfield 138, 3) := by decide +kernel
theorem dX9_step_128 : decode cX9_step 128 = .ok (.iconst 1, 1) := by decide +kernel
theorem dX9_step_129 : decode cX9_step 129 = .ok (.iadd, 1) := by decide +kernel
theorem dX9_step_130 : decode cX9_step 130 = .ok (.putfield 138, 3) := by decide +kernel
theorem dX9_step_133 : decode cX9_step 133 = .ok (.aload_n 0, 1) := by decide +kernel
theorem dX9_step_134 : decode cX9_step 134 = .ok (.iconst 0, 1) := by decide +kernel
theorem dX9_step_135 : decode cX9_step 135 = .ok (.putfield 107, 3) := by decide +kernel
theorem dX9_step_138 : decode cX9_step 138 = .ok (.aload_n 0, 1) := by decide +kernel
theorem dX9_step_139 : decode cX9_step 139 = .ok (.iconst 0, 1) := by decide +kernel
theorem dX9_step_140 : decode cX9_step 140 = .ok (.putfield 141, 3) := by decide +kernel
theorem dX9_step_143 : decode cX9_step 143 = .ok (.iload_n 3, 1) := by decide +kernel
theorem dX9_step_144 : decode cX9_step 144 = .ok (.ireturn, 1) := by decide +kernel
theorem dX9_crash_0 : decode cX9_crash 0 = .ok (.aload_n 0, 1) := by decide +kernel
theorem dX9_crash_1 : decode cX9_crash 1 = .ok (.aload_n 0, 1) := by decide +kernel
theorem dX9_crash_2 : decode cX9_crash 2 = .ok (.getfield 107, 3) := by decide +kernel
theorem dX9_crash_5 : decode cX9_crash 5 = .ok (.iconst 1, 1) := by decide +kernel
theorem dX9_crash_6 : decode cX9_crash 6 = .ok (.if_icmp .ne 7, 3) := by decide +kernel
theorem dX9_crash_9 : decode cX9_crash 9 = .ok (.iconst 0, 1) := by decide +kernel
theorem dX9_crash_10 : decode cX9_crash 10 = .ok (.goto 4, 3) := by decide +kernel
theorem dX9_crash_13 : decode cX9_crash 13 = .ok (.iconst 1, 1) := by decide +kernel
theorem dX9_crash_14 : decode cX9_crash 14 = .ok (.putfield 57, 3) := by decide +kernel
theorem dX9_crash_17 : decode cX9_crash 17 = .ok (.aload_n 0, 1) := by decide +kernel
theorem dX9_crash_18 : decode cX9_crash 18 = .ok (.getfield 57, 3) := by decide +kernel
theorem dX9_crash_21 : decode cX9_crash 21 = .ok (.ifCond .ne 8, 3) := by decide +kernel
theorem dX9_crash_24 : decode cX9_crash 24 = .ok (.aload_n 0, 1) := by decide +kernel
theorem dX9_crash_25 : decode cX9_crash 25 = .ok (.iconst 2, 1) := by decide +kernel
theorem dX9_crash_26 : decode cX9_crash 26 = .ok (.putfield 107, 3) := by decide +kernel
theorem dX9_crash_29 : decode cX9_crash 29 = .ok (.return_, 1) := by decide +kernel
set_option maxRecDepth 20000 in
theorem ggX9_regress_X9_mirror : GoodIn wsX9_regress wsX9_mirror := goodIn_r _ [8, 9, 10, 11, 7, 12, 3, 13, 14, 15, 16, 17, 18, 19, 20, 21, 22, 23, 24, 25, 26, 27, 28, 29, 30, 31, 32, 33, 34, 35, 36, 37, 38, 39, 40, 41, 42, 43, 44, 45, 46, 47, 48, 49, 50, 51, 52, 53, 54, 55, 56, 57, 58, 59, 60, 61, 62, 63, 64, 65, 66, 67, 68, 69, 70, 71, 72, 73, 74, 75, 76] (by decide +kernel) (by decide +kernel)
set_option maxRecDepth 20000 in
theorem gX9_regress_X9_mirror : GoodIn wsX9_regress (wsV RX9 156 RX9 yX9_mirror wsX9_mirror) := goodIn_app (goodIn_of _ (by decide +kernel)) ggX9_regress_X9_mirror
theorem dX9_regress_0 : decode cX9_regress 0 = .ok (.aload_n 0, 1) := by decide +kernel
theorem dX9_regress_1 : decode cX9_regress 1 = .ok (.aload_n 0, 1) := by decide +kernel
theorem dX9_regress_2 : decode cX9_regress 2 = .ok (.getfield 107, 3) := by decide +kernel
theorem dX9_regress_5 : decode cX9_regress 5 = .ok (.iconst 2, 1) := by decide +kernel
theorem dX9_regress_6 : decode cX9_regress 6 = .ok (.if_icmp .eq 7, 3) := by decide +kernel
theorem dX9_regress_9 : decode cX9_regress 9 = .ok (.iconst 1, 1) := by decide +kernel
theorem dX9_regress_10 : decode cX9_regress 10 = .ok (.goto 19, 3) := by decide +kernel
theorem dX9_regress_13 : decode cX9_regress 13 = .ok (.iload_n 1, 1) := by decide +kernel
theorem dX9_regress_14 : decode cX9_regress 14 = .ok (.ifCond .lt 10, 3) := by decide +kernel
theorem dX9_regress_17 : decode cX9_regress 17 = .ok (.iload_n 1, 1) := by decide +kernel
theorem dX9_regress_18 : decode cX9_regress 18 = .ok (.sipush 200, 3) := by decide +kernel
theorem dX9_regress_21 : decode cX9_regress 21 = .ok (.if_icmp .le 7, 3) := by decide +kernel
theorem dX9_regress_24 : decode cX9_regress 24 = .ok (.iconst 2, 1) := by decide +kernel
theorem dX9_regress_25 : decode cX9_regress 25 = .ok (.goto 4, 3) := by decide +kernel
theorem dX9_regress_28 : decode cX9_regress 28 = .ok (.iconst 0, 1) := by decide +kernel
theorem dX9_regress_29 : decode cX9_regress 29 = .ok (.putfield 57, 3) := by decide +kernel
theorem dX9_regress_32 : decode cX9_regress 32 = .ok (.aload_n 0, 1) := by decide +kernel
theorem dX9_regress_33 : decode cX9_regress 33 = .ok (.getfield 57, 3) := by decide +kernel
theorem dX9_regress_36 : decode cX9_regress 36 = .ok (.ifCond .le 5, 3) := by decide +kernel
theorem dX9_regress_39 : decode cX9_regress 39 = .ok (.iconst 0, 1) := by decide +kernel
theorem dX9_regress_40 : decode cX9_regress 40 = .ok (.ireturn, 1) := by decide +kernel
theorem dX9_regress_41 : decode cX9_regress 41 = .ok (.iload_n 1, 1) := by decide +kernel
theorem dX9_regress_42 : decode cX9_regress 42 = .ok (.aload_n 0, 1) := by decide +kernel
theorem dX9_regress_43 : decode cX9_regress 43 = .ok (.getfield 141, 3) := by decide +kernel
theorem dX9_regress_46 : decode cX9_regress 46 = .ok (.if_icmp .ge 7, 3) := by decide +kernel
theorem dX9_regress_49 : decode cX9_regress 49 = .ok (.iload_n 1, 1) := by decide +kernel
theorem dX9_regress_50 : decode cX9_regress 50 = .ok (.goto 7, 3) := by decide +kernel
theorem dX9_regress_53 : decode cX9_regress 53 = .ok (.aload_n 0, 1) := by decide +kernel
theorem dX9_regress_54 : decode cX9_regress 54 = .ok (.getfield 141, 3) := by decide +kernel
theorem dX9_regress_57 : decode cX9_regress 57 = .ok (.istore_n 2, 1) := by decide +kernel
theorem dX9_regress_58 : decode cX9_regress 58 = .ok (.aload_n 0, 1) := by decide +kernel
theorem dX9_regress_59 : decode cX9_regress 59 = .ok (.dup, 1) := by decide +kernel
theorem dX9_regress_60 : decode cX9_regress 60 = .ok (.getfield 141, 3) := by decide +kernel
theorem dX9_regress_63 : decode cX9_regress 63 = .ok (.iload_n 2, 1) := by decide +kernel
theorem dX9_regress_64 : decode cX9_regress 64 = .ok (.isub, 1) := by decide +kernel
theorem dX9_regress_65 : decode cX9_regress 65 = .ok (.putfield 141, 3) := by decide +kernel
theorem dX9_regress_68 : decode cX9_regress 68 = .ok (.aload_n 0, 1) := by decide +kernel
theorem dX9_regress_69 : decode cX9_regress 69 = .ok (.invokevirtual 156, 3) := by decide +kernel
theorem dX9_regress_72 : decode cX9_regress 72 = .ok (.aload_n 0, 1) := by decide +kernel
theorem dX9_regress_73 : decode cX9_regress 73 = .ok (.aload_n 0, 1) := by decide +kernel
theorem dX9_regress_74 : decode cX9_regress 74 = .ok (.getfield 141, 3) := by decide +kernel
theorem dX9_regress_77 : decode cX9_regress 77 = .ok (.ifCond .ne 7, 3) := by decide +kernel
theorem dX9_regress_80 : decode cX9_regress 80 = .ok (.iconst 0, 1) := by decide +kernel
theorem dX9_regress_81 : decode cX9_regress 81 = .ok (.goto 4, 3) := by decide +kernel
theorem dX9_regress_84 : decode cX9_regress 84 = .ok (.iconst 2, 1) := by decide +kernel
theorem dX9_regress_85 : decode cX9_regress 85 = .ok (.putfield 107, 3) := by decide +kernel
theorem dX9_regress_88 : decode cX9_regress 88 = .ok (.iload_n 2, 1) := by decide +kernel
theorem dX9_regress_89 : decode cX9_regress 89 = .ok (.ireturn, 1) := by decide +kernel
theorem dX9_latest_0 : decode cX9_latest 0 = .ok (.iconst (-1), 1) := by decide +kernel
theorem dX9_latest_1 : decode cX9_latest 1 = .ok (.istore_n 2, 1) := by decide +kernel
theorem dX9_latest_2 : decode cX9_latest 2 = .ok (.iconst 0, 1) := by decide +kernel
theorem dX9_latest_3 : decode cX9_latest 3 = .ok (.istore_n 3, 1) := by decide +kernel
theorem dX9_latest_4 : decode cX9_latest 4 = .ok (.iload_n 3, 1) := by decide +kernel
theorem dX9_latest_5 : decode cX9_latest 5 = .ok (.aload_n 0, 1) := by decide +kernel
theorem dX9_latest_6 : decode cX9_latest 6 = .ok (.getfield 138, 3) := by decide +kernel
theorem dX9_latest_9 : decode cX9_latest 9 = .ok (.if_icmp .ge 25, 3) := by decide +kernel
theorem dX9_latest_12 : decode cX9_latest 12 = .ok (.aload_n 0, 1) := by decide +kernel
theorem dX9_latest_13 : decode cX9_latest 13 = .ok (.getfield 48, 3) := by decide +kernel
theorem dX9_latest_16 : decode cX9_latest 16 = .ok (.iload_n 3, 1) := by decide +kernel
theorem dX9_latest_17 : decode cX9_latest 17 = .ok (.iaload, 1) := by decide +kernel
theorem dX9_latest_18 : decode cX9_latest 18 = .ok (.iload_n 1, 1) := by decide +kernel
theorem dX9_latest_19 : decode cX9_latest 19 = .ok (.if_icmp .gt 7, 3) := by decide +kernel
theorem dX9_latest_22 : decode cX9_latest 22 = .ok (.iload_n 3, 1) := by decide +kernel
theorem dX9_latest_23 : decode cX9_latest 23 = .ok (.goto 4, 3) := by decide +kernel
theorem dX9_latest_26 : decode cX9_latest 26 = .ok (.iload_n 2, 1) := by decide +kernel
theorem dX9_latest_27 : decode cX9_latest 27 = .ok (.istore_n 2, 1) := by decide +kernel
theorem dX9_latest_28 : decode cX9_latest 28 = .ok (.iinc 3 1, 3) := by decide +kernel
theorem dX9_latest_31 : decode cX9_latest 31 = .ok (.goto (-27), 3) := by decide +kernel
theorem dX9_latest_34 : decode cX9_latest 34 = .ok (.iload_n 2, 1) := by decide +kernel
theorem dX9_latest_35 : decode cX9_latest 35 = .ok (.ireturn, 1) := by decide +kernel
set_option maxRecDepth 20000 in
theorem ggX9_restore_X9_latest : GoodIn wsX9_restore wsX9_latest := goodIn_r _ [8, 9, 10, 35, 36, 37, 38, 39, 40, 41, 42, 43, 44, 45, 46, 47, 48, 49, 50, 51, 52, 53, 54, 55, 56, 57, 58] (by decide +kernel) (by decide +kernel)
set_option maxRecDepth 20000 in
theorem gX9_restore_X9_latest : GoodIn wsX9_restore (wsV RX9 159 RX9 yX9_latest wsX9_latest) := goodIn_app (goodIn_of _ (by decide +kernel)) ggX9_restore_X9_latest
set_option maxRecDepth 20000 in
theorem ggX9_restore_X9_copy : GoodIn wsX9_restore wsX9_copy := goodIn_r _ [14, 3, 15, 16, 17, 7, 18, 19, 20, 21, 22, 23, 24, 25, 26, 27, 28, 29, 30, 31, 32, 33, 34, 35, 36, 37, 38, 39, 40, 41, 42, 43, 44, 45, 46, 47, 48, 49, 50, 51, 52, 53, 54, 55, 56, 57, 58] (by decide +kernel) (by decide +kernel)
set_option maxRecDepth 20000 in
theorem gX9_restore_X9_copy : GoodIn wsX9_restore (wsV RX9 117 RX9 yX9_copy wsX9_copy) := goodIn_app (goodIn_of _ (by decide +kernel)) ggX9_restore_X9_copy
theorem dX9_restore_0 : decode cX9_restore 0 = .ok (.aload_n 0, 1) := by decide +kernel
theorem dX9_restore_1 : decode cX9_restore 1 = .ok (.iload_n 1, 1) := by decide +kernel
theorem dX9_restore_2 : decode cX9_restore 2 = .ok (.invokevirtual 159, 3) := by decide +kernel
theorem dX9_restore_5 : decode cX9_restore 5 = .ok (.istore_n 2, 1) := by decide +kernel
theorem dX9_restore_6 : decode cX9_restore 6 = .ok (.aload_n 0, 1) := by decide +kernel
theorem dX9_restore_7 : decode cX9_restore 7 = .ok (.aload_n 0, 1) := by decide +kernel
theorem dX9_restore_8 : decode cX9_restore 8 = .ok (.getfield 107, 3) := by decide +kernel
theorem dX9_restore_11 : decode cX9_restore 11 = .ok (.ifCond .ne 7, 3) := by decide +kernel
theorem dX9_restore_14 : decode cX9_restore 14 = .ok (.iload_n 2, 1) := by decide +kernel
theorem dX9_restore_15 : decode cX9_restore 15 = .ok (.ifCond .ge 7, 3) := by decide +kernel
theorem dX9_restore_18 : decode cX9_restore 18 = .ok (.iconst 1, 1) := by decide +kernel
theorem dX9_restore_19 : decode cX9_restore 19 = .ok (.goto 4, 3) := by decide +kernel
theorem dX9_restore_22 : decode cX9_restore 22 = .ok (.iconst 0, 1) := by decide +kernel
theorem dX9_restore_23 : decode cX9_restore 23 = .ok (.putfield 57, 3) := by decide +kernel
theorem dX9_restore_26 : decode cX9_restore 26 = .ok (.aload_n 0, 1) := by decide +kernel
theorem dX9_restore_27 : decode cX9_restore 27 = .ok (.getfield 57, 3) := by decide +kernel
theorem dX9_restore_30 : decode cX9_restore 30 = .ok (.ifCond .le 5, 3) := by decide +kernel
theorem dX9_restore_33 : decode cX9_restore 33 = .ok (.iconst 0, 1) := by decide +kernel
theorem dX9_restore_34 : decode cX9_restore 34 = .ok (.ireturn, 1) := by decide +kernel
theorem dX9_restore_35 : decode cX9_restore 35 = .ok (.aload_n 0, 1) := by decide +kernel
theorem dX9_restore_36 : decode cX9_restore 36 = .ok (.bipush 6, 2) := by decide +kernel
theorem dX9_restore_38 : decode cX9_restore 38 = .ok (.iload_n 2, 1) := by decide +kernel
theorem dX9_restore_39 : decode cX9_restore 39 = .ok (.iadd, 1) := by decide +kernel
theorem dX9_restore_40 : decode cX9_restore 40 = .ok (.iconst 2, 1) := by decide +kernel
theorem dX9_restore_41 : decode cX9_restore 41 = .ok (.invokevirtual 117, 3) := by decide +kernel
theorem dX9_restore_44 : decode cX9_restore 44 = .ok (.aload_n 0, 1) := by decide +kernel
theorem dX9_restore_45 : decode cX9_restore 45 = .ok (.getfield 7, 3) := by decide +kernel
theorem dX9_restore_48 : decode cX9_restore 48 = .ok (.iconst 2, 1) := by decide +kernel
theorem dX9_restore_49 : decode cX9_restore 49 = .ok (.iaload, 1) := by decide +kernel
theorem dX9_restore_50 : decode cX9_restore 50 = .ok (.ireturn, 1) := by decide +kernel
set_option maxRecDepth 20000 in
theorem ggX9_prune_X9_latest : GoodIn wsX9_prune wsX9_latest := goodIn_r _ [10, 3, 4, 36, 37, 38, 39, 40, 41, 42, 43, 44, 45, 46, 47, 48, 49, 50, 51, 52, 53, 54, 55, 56, 57, 58, 59] (by decide +kernel) (by decide +kernel)
set_option maxRecDepth 20000 in
theorem gX9_prune_X9_latest : GoodIn wsX9_prune (wsV RX9 159 RX9 yX9_latest wsX9_latest) := goodIn_app (goodIn_of _ (by decide +kernel)) ggX9_prune_X9_latest
set_option maxRecDepth 20000 in
theorem ggX9_prune_X9_copy : GoodIn wsX9_prune wsX9_copy := goodIn_r _ [14, 15, 16, 17, 18, 9, 19, 20, 21, 22, 23, 24, 25, 26, 27, 28, 29, 30, 31, 32, 33, 34, 35, 36, 37, 38, 39, 40, 41, 42, 43, 44, 45, 46, 47, 48, 49, 50, 51, 52, 53, 54, 55, 56, 57, 58, 59] (by decide +kernel) (by decide +kernel)
set_option maxRecDepth 20000 in
theorem gX9_prune_X9_copy : GoodIn wsX9_prune (wsV RX9 117 RX9 yX9_copy wsX9_copy) := goodIn_app (goodIn_of _ (by decide +kernel)) ggX9_prune_X9_copy
theorem dX9_prune_0 : decode cX9_prune 0 = .ok (.aload_n 0, 1) := by decide +kernel
theorem dX9_prune_1 : decode cX9_prune 1 = .ok (.aload_n 0, 1) := by decide +kernel
theorem dX9_prune_2 : decode cX9_prune 2 = .ok (.getfield 107, 3) := by decide +kernel
theorem dX9_prune_5 : decode cX9_prune 5 = .ok (.ifCond .eq 7, 3) := by decide +kernel
theorem dX9_prune_8 : decode cX9_prune 8 = .ok (.iconst 1, 1) := by decide +kernel
theorem dX9_prune_9 : decode cX9_prune 9 = .ok (.goto 4, 3) := by decide +kernel
theorem dX9_prune_12 : decode cX9_prune 12 = .ok (.iconst 0, 1) := by decide +kernel
theorem dX9_prune_13 : decode cX9_prune 13 = .ok (.putfield 57, 3) := by decide +kernel
theorem dX9_prune_16 : decode cX9_prune 16 = .ok (.aload_n 0, 1) := by decide +kernel
theorem dX9_prune_17 : decode cX9_prune 17 = .ok (.iload_n 1, 1) := by decide +kernel
theorem dX9_prune_18 : decode cX9_prune 18 = .ok (.invokevirtual 159, 3) := by decide +kernel
theorem dX9_prune_21 : decode cX9_prune 21 = .ok (.istore_n 2, 1) := by decide +kernel
theorem dX9_prune_22 : decode cX9_prune 22 = .ok (.aload_n 0, 1) := by decide +kernel
theorem dX9_prune_23 : decode cX9_prune 23 = .ok (.getfield 57, 3) := by decide +kernel
theorem dX9_prune_26 : decode cX9_prune 26 = .ok (.ifCond .gt 7, 3) := by decide +kernel
theorem dX9_prune_29 : decode cX9_prune 29 = .ok (.iload_n 2, 1) := by decide +kernel
theorem dX9_prune_30 : decode cX9_prune 30 = .ok (.ifCond .gt 5, 3) := by decide +kernel
theorem dX9_prune_33 : decode cX9_prune 33 = .ok (.iconst 0, 1) := by decide +kernel
theorem dX9_prune_34 : decode cX9_prune 34 = .ok (.ireturn, 1) := by decide +kernel
theorem dX9_prune_35 : decode cX9_prune 35 = .ok (.iload_n 2, 1) := by decide +kernel
theorem dX9_prune_36 : decode cX9_prune 36 = .ok (.istore_n 3, 1) := by decide +kernel
theorem dX9_prune_37 : decode cX9_prune 37 = .ok (.iload_n 3, 1) := by decide +kernel
theorem dX9_prune_38 : decode cX9_prune 38 = .ok (.aload_n 0, 1) := by decide +kernel
theorem dX9_prune_39 : decode cX9_prune 39 = .ok (.getfield 138, 3) := by decide +kernel
theorem dX9_prune_42 : decode cX9_prune 42 = .ok (.if_icmp .ge 51, 3) := by decide +kernel
theorem dX9_prune_45 : decode cX9_prune 45 = .ok (.aload_n 0, 1) := by decide +kernel
theorem dX9_prune_46 : decode cX9_prune 46 = .ok (.bipush 6, 2) := by decide +kernel
theorem dX9_prune_48 : decode cX9_prune 48 = .ok (.iload_n 3, 1) := by decide +kernel
theorem dX9_prune_49 : decode cX9_prune 49 = .ok (.iadd, 1) := by decide +kernel
theorem dX9_prune_50 : decode cX9_prune 50 = .ok (.bipush 6, 2) := by decide +kernel
theorem dX9_prune_52 : decode cX9_prune 52 = .ok (.iload_n 3, 1) := by decide +kernel
theorem dX9_prune_53 : decode cX9_prune 53 = .ok (.iadd, 1) := by decide +kernel
theorem dX9_prune_54 : decode cX9_prune 54 = .ok (.iload_n 2, 1) := by decide +kernel
theorem dX9_prune_55 : decode cX9_prune 55 = .ok (.isub, 1) := by decide +kernel
theorem dX9_prune_56 : decode cX9_prune 56 = .ok (.invokevirtual 117, 3) := by decide +kernel
theorem dX9_prune_59 : decode cX9_prune 59 = .ok (.aload_n 0, 1) := by decide +kernel
theorem dX9_prune_60 : decode cX9_prune 60 = .ok (.getfield 48, 3) := by decide +kernel
theorem dX9_prune_63 : decode cX9_prune 63 = .ok (.iload_n 3, 1) := by decide +kernel
theorem dX9_prune_64 : decode cX9_prune 64 = .ok (.iload_n 2, 1) := by decide +kernel
theorem dX9_prune_65 : decode cX9_prune 65 = .ok (.isub, 1) := by decide +kernel
theorem dX9_prune_66 : decode cX9_prune 66 = .ok (.aload_n 0, 1) := by decide +kernel
theorem dX9_prune_67 : decode cX9_prune 67 = .ok (.getfield 48, 3) := by decide +kernel
theorem dX9_prune_70 : decode cX9_prune 70 = .ok (.iload_n 3, 1) := by decide +kernel
theorem dX9_prune_71 : decode cX9_prune 71 = .ok (.iaload, 1) := by decide +kernel
theorem dX9_prune_72 : decode cX9_prune 72 = .ok (.iastore, 1) := by decide +kernel
theorem dX9_prune_73 : decode cX9_prune 73 = .ok (.aload_n 0, 1) := by decide +kernel
theorem dX9_prune_74 : decode cX9_prune 74 = .ok (.getfield 51, 3) := by decide +kernel
theorem dX9_prune_77 : decode cX9_prune 77 = .ok (.iload_n 3, 1) := by decide +kernel
theorem dX9_prune_78 : decode cX9_prune 78 = .ok (.iload_n 2, 1) := by decide +kernel
theorem dX9_prune_79 : decode cX9_prune 79 = .ok (.isub, 1) := by decide +kernel
theorem dX9_prune_80 : decode cX9_prune 80 = .ok (.aload_n 0, 1) := by decide +kernel
theorem dX9_prune_81 : decode cX9_prune 81 = .ok (.getfield 51, 3) := by decide +kernel
theorem dX9_prune_84 : decode cX9_prune 84 = .ok (.iload_n 3, 1) := by decide +kernel
theorem dX9_prune_85 : decode cX9_prune 85 = .ok (.iaload, 1) := by decide +kernel
theorem dX9_prune_86 : decode cX9_prune 86 = .ok (.iastore, 1) := by decide +kernel
theorem dX9_prune_87 : decode cX9_prune 87 = .ok (.iinc 3 1, 3) := by decide +kernel
theorem dX9_prune_90 : decode cX9_prune 90 = .ok (.goto (-53), 3) := by decide +kernel
theorem dX9_prune_93 : decode cX9_prune 93 = .ok (.aload_n 0, 1) := by decide +kernel
theorem dX9_prune_94 : decode cX9_prune 94 = .ok (.dup, 1) := by decide +kernel
theorem dX9_prune_95 : decode cX9_prune 95 = .ok (.getfield 138, 3) := by decide +kernel
theorem dX9_prune_98 : decode cX9_prune 98 = .ok (.iload_n 2, 1) := by decide +kernel
theorem dX9_prune_99 : decode cX9_prune 99 = .ok (.isub, 1) := by decide +kernel
theorem dX9_prune_100 : decode cX9_prune 100 = .ok (.putfield 138, 3) := by decide +kernel
theorem dX9_prune_103 : decode cX9_prune 103 = .ok (.iload_n 2, 1) := by decide +kernel
theorem dX9_prune_104 : decode cX9_prune 104 = .ok (.ireturn, 1) := by decide +kernel
set_option maxRecDepth 20000 in
theorem ggX9_differ_X9_join : GoodIn wsX9_differ wsX9_join := goodIn_r _ [6, 7, 8, 9, 10, 5, 11, 12, 13, 14, 15, 16, 17, 18, 19, 20, 21, 22, 23, 24, 25, 26, 27, 28, 29, 30, 31, 32, 33, 34, 35, 36, 37, 38, 39, 40, 41, 42, 43, 44, 45, 46, 47, 48, 49, 50, 51, 52, 53, 54, 55, 56, 57, 58, 59, 60, 61, 62, 63, 64, 65] (by decide +kernel) (by decide +kernel)
set_option maxRecDepth 20000 in
theorem gX9_differ_X9_join : GoodIn wsX9_differ (wsV RX9 147 RX9 yX9_join wsX9_join) := goodIn_app (goodIn_of _ (by decide +kernel)) ggX9_differ_X9_join
theorem dX9_differ_0 : decode cX9_differ 0 = .ok (.aload_n 0, 1) := by decide +kernel
theorem dX9_differ_1 : decode cX9_differ 1 = .ok (.iconst 0, 1) := by decide +kernel
theorem dX9_differ_2 : decode cX9_differ 2 = .ok (.putfield 57, 3) := by decide +kernel
theorem dX9_differ_5 : decode cX9_differ 5 = .ok (.aload_n 0, 1) := by decide +kernel
theorem dX9_differ_6 : decode cX9_differ 6 = .ok (.iconst 1, 1) := by decide +kernel
theorem dX9_differ_7 : decode cX9_differ 7 = .ok (.iconst 0, 1) := by decide +kernel
theorem dX9_differ_8 : decode cX9_differ 8 = .ok (.iconst 0, 1) := by decide +kernel
theorem dX9_differ_9 : decode cX9_differ 9 = .ok (.iconst (-1), 1) := by decide +kernel
theorem dX9_differ_10 : decode cX9_differ 10 = .ok (.invokevirtual 147, 3) := by decide +kernel
theorem dX9_differ_13 : decode cX9_differ 13 = .ok (.ireturn, 1) := by decide +kernel
theorem dX9_isEntry_0 : decode cX9_isEntry 0 = .ok (.iload_n 1, 1) := by decide +kernel
theorem dX9_isEntry_1 : decode cX9_isEntry 1 = .ok (.ifCond .lt 26, 3) := by decide +kernel
theorem dX9_isEntry_4 : decode cX9_isEntry 4 = .ok (.iload_n 1, 1) := by decide +kernel
theorem dX9_isEntry_5 : decode cX9_isEntry 5 = .ok (.iconst 3, 1) := by decide +kernel
theorem dX9_isEntry_6 : decode cX9_isEntry 6 = .ok (.if_icmp .ge 21, 3) := by decide +kernel
theorem dX9_isEntry_9 : decode cX9_isEntry 9 = .ok (.iload_n 2, 1) := by decide +kernel
theorem dX9_isEntry_10 : decode cX9_isEntry 10 = .ok (.ifCond .lt 17, 3) := by decide +kernel
theorem dX9_isEntry_13 : decode cX9_isEntry 13 = .ok (.iload_n 2, 1) := by decide +kernel
theorem dX9_isEntry_14 : decode cX9_isEntry 14 = .ok (.aload_n 0, 1) := by decide +kernel
theorem dX9_isEntry_15 : decode cX9_isEntry 15 = .ok (.getfield 7, 3) := by decide +kernel
theorem dX9_isEntry_18 : decode cX9_isEntry 18 = .ok (.iload_n 1, 1) := by decide +kernel
theorem dX9_isEntry_19 : decode cX9_isEntry 19 = .ok (.iaload, 1) := by decide +kernel
theorem dX9_isEntry_20 : decode cX9_isEntry 20 = .ok (.if_icmp .ge 7, 3) := by decide +kernel
theorem dX9_isEntry_23 : decode cX9_isEntry 23 = .ok (.iconst 1, 1) := by decide +kernel
theorem dX9_isEntry_24 : decode cX9_isEntry 24 = .ok (.goto 4, 3) := by decide +kernel
theorem dX9_isEntry_27 : decode cX9_isEntry 27 = .ok (.iconst 0, 1) := by decide +kernel
theorem dX9_isEntry_28 : decode cX9_isEntry 28 = .ok (.ireturn, 1) := by decide +kernel
set_option maxRecDepth 20000 in
theorem ggX9_entry_X9_isEntry : GoodIn wsX9_entry wsX9_isEntry := goodIn_r _ [11, 12, 16, 17, 18, 19, 20, 21, 22, 23, 24, 25, 26, 27, 28, 29, 30, 31, 32, 33, 34, 35, 36, 37, 38, 39] (by decide +kernel) (by decide +kernel)
set_option maxRecDepth 20000 in
theorem gX9_entry_X9_isEntry : GoodIn wsX9_entry (wsV RX9 163 RX9 yX9_isEntry wsX9_isEntry) := goodIn_app (goodIn_of _ (by decide +kernel)) ggX9_entry_X9_isEntry
set_option maxRecDepth 20000 in
theorem ggX9_entry_X9_place : GoodIn wsX9_entry wsX9_place := goodIn_r _ [15] (by decide +kernel) (by decide +kernel)
set_option maxRecDepth 20000 in
theorem gX9_entry_X9_place : GoodIn wsX9_entry (va_wsS RX9 64 yX9_place wsX9_place) := goodIn_app (goodIn_of _ (by decide +kernel)) ggX9_entry_X9_place
theorem dX9_entry_0 : decode cX9_entry 0 = .ok (.aload_n 0, 1) := by decide +kernel
theorem dX9_entry_1 : decode cX9_entry 1 = .ok (.iconst 0, 1) := by decide +kernel
theorem dX9_entry_2 : decode cX9_entry 2 = .ok (.putfield 57, 3) := by decide +kernel
theorem dX9_entry_5 : decode cX9_entry 5 = .ok (.aload_n 0, 1) := by decide +kernel
theorem dX9_entry_6 : decode cX9_entry 6 = .ok (.iload_n 1, 1) := by decide +kernel
theorem dX9_entry_7 : decode cX9_entry 7 = .ok (.iload_n 2, 1) := by decide +kernel
theorem dX9_entry_8 : decode cX9_entry 8 = .ok (.invokevirtual 163, 3) := by decide +kernel
theorem dX9_entry_11 : decode cX9_entry 11 = .ok (.ifCond .ne 5, 3) := by decide +kernel
theorem dX9_entry_14 : decode cX9_entry 14 = .ok (.iconst (-1), 1) := by decide +kernel
theorem dX9_entry_15 : decode cX9_entry 15 = .ok (.ireturn, 1) := by decide +kernel
theorem dX9_entry_16 : decode cX9_entry 16 = .ok (.iload_n 1, 1) := by decide +kernel
theorem dX9_entry_17 : decode cX9_entry 17 = .ok (.iload_n 2, 1) := by decide +kernel
theorem dX9_entry_18 : decode cX9_entry 18 = .ok (.invokestatic 64, 3) := by decide +kernel
theorem dX9_entry_21 : decode cX9_entry 21 = .ok (.istore 4, 2) := by decide +kernel
theorem dX9_entry_23 : decode cX9_entry 23 = .ok (.iload_n 3, 1) := by decide +kernel
theorem dX9_entry_24 : decode cX9_entry 24 = .ok (.tableswitch 76 0 4 #[36, 44, 52, 60, 68], 36) := by decide +kernel
theorem dX9_entry_60 : decode cX9_entry 60 = .ok (.aload_n 0, 1) := by decide +kernel
theorem dX9_entry_61 : decode cX9_entry 61 = .ok (.getfield 16, 3) := by decide +kernel
theorem dX9_entry_64 : decode cX9_entry 64 = .ok (.iload 4, 2) := by decide +kernel
theorem dX9_entry_66 : decode cX9_entry 66 = .ok (.iaload, 1) := by decide +kernel
theorem dX9_entry_67 : decode cX9_entry 67 = .ok (.ireturn, 1) := by decide +kernel
theorem dX9_entry_68 : decode cX9_entry 68 = .ok (.aload_n 0, 1) := by decide +kernel
theorem dX9_entry_69 : decode cX9_entry 69 = .ok (.getfield 19, 3) := by decide +kernel
theorem dX9_entry_72 : decode cX9_entry 72 = .ok (.iload 4, 2) := by decide +kernel
theorem dX9_entry_74 : decode cX9_entry 74 = .ok (.iaload, 1) := by decide +kernel
theorem dX9_entry_75 : decode cX9_entry 75 = .ok (.ireturn, 1) := by decide +kernel
theorem dX9_entry_76 : decode cX9_entry 76 = .ok (.aload_n 0, 1) := by decide +kernel
theorem dX9_entry_77 : decode cX9_entry 77 = .ok (.getfield 22, 3) := by decide +kernel
theorem dX9_entry_80 : decode cX9_entry 80 = .ok (.iload 4, 2) := by decide +kernel
theorem dX9_entry_82 : decode cX9_entry 82 = .ok (.iaload, 1) := by decide +kernel
theorem dX9_entry_83 : decode cX9_entry 83 = .ok (.ireturn, 1) := by decide +kernel
theorem dX9_entry_84 : decode cX9_entry 84 = .ok (.aload_n 0, 1) := by decide +kernel
theorem dX9_entry_85 : decode cX9_entry 85 = .ok (.getfield 31, 3) := by decide +kernel
theorem dX9_entry_88 : decode cX9_entry 88 = .ok (.iload 4, 2) := by decide +kernel
theorem dX9_entry_90 : decode cX9_entry 90 = .ok (.iaload, 1) := by decide +kernel
theorem dX9_entry_91 : decode cX9_entry 91 = .ok (.ireturn, 1) := by decide +kernel
theorem dX9_entry_92 : decode cX9_entry 92 = .ok (.aload_n 0, 1) := by decide +kernel
theorem dX9_entry_93 : decode cX9_entry 93 = .ok (.getfield 25, 3) := by decide +kernel
theorem dX9_entry_96 : decode cX9_entry 96 = .ok (.iload 4, 2) := by decide +kernel
theorem dX9_entry_98 : decode cX9_entry 98 = .ok (.iaload, 1) := by decide +kernel
theorem dX9_entry_99 : decode cX9_entry 99 = .ok (.ireturn, 1) := by decide +kernel
theorem dX9_entry_100 : decode cX9_entry 100 = .ok (.iconst (-1), 1) := by decide +kernel
theorem dX9_entry_101 : decode cX9_entry 101 = .ok (.ireturn, 1) := by decide +kernel
set_option maxRecDepth 20000 in
theorem ggX9_at_X9_isEntry : GoodIn wsX9_at wsX9_isEntry := goodIn_r _ [11, 12, 13, 14, 15, 16, 17, 18, 19, 20, 21, 22, 23, 24, 25, 26, 27, 28, 29, 30, 31, 32, 33, 34, 35, 36] (by decide +kernel) (by decide +kernel)
set_option maxRecDepth 20000 in
theorem gX9_at_X9_isEntry : GoodIn wsX9_at (wsV RX9 163 RX9 yX9_isEntry wsX9_isEntry) := goodIn_app (goodIn_of _ (by decide +kernel)) ggX9_at_X9_isEntry
theorem dX9_at_0 : decode cX9_at 0 = .ok (.aload_n 0, 1) := by decide +kernel
theorem dX9_at_1 : decode cX9_at 1 = .ok (.iconst 0, 1) := by decide +kernel
theorem dX9_at_2 : decode cX9_at 2 = .ok (.putfield 57, 3) := by decide +kernel
theorem dX9_at_5 : decode cX9_at 5 = .ok (.aload_n 0, 1) := by decide +kernel
theorem dX9_at_6 : decode cX9_at 6 = .ok (.iload_n 1, 1) := by decide +kernel
theorem dX9_at_7 : decode cX9_at 7 = .ok (.iload_n 2, 1) := by decide +kernel
theorem dX9_at_8 : decode cX9_at 8 = .ok (.invokevirtual 163, 3) := by decide +kernel
theorem dX9_at_11 : decode cX9_at 11 = .ok (.ifCond .eq 8, 3) := by decide +kernel
theorem dX9_at_14 : decode cX9_at 14 = .ok (.iload 4, 2) := by decide +kernel
theorem dX9_at_16 : decode cX9_at 16 = .ok (.ifCond .ge 5, 3) := by decide +kernel
theorem dX9_at_19 : decode cX9_at 19 = .ok (.iconst (-1), 1) := by decide +kernel
theorem dX9_at_20 : decode cX9_at 20 = .ok (.ireturn, 1) := by decide +kernel
theorem dX9_at_21 : decode cX9_at 21 = .ok (.bipush 120, 2) := by decide +kernel
theorem dX9_at_23 : decode cX9_at 23 = .ok (.iload_n 1, 1) := by decide +kernel
theorem dX9_at_24 : decode cX9_at 24 = .ok (.imul, 1) := by decide +kernel
theorem dX9_at_25 : decode cX9_at 25 = .ok (.iload_n 2, 1) := by decide +kernel
theorem dX9_at_26 : decode cX9_at 26 = .ok (.iadd, 1) := by decide +kernel
theorem dX9_at_27 : decode cX9_at 27 = .ok (.istore 5, 2) := by decide +kernel
theorem dX9_at_29 : decode cX9_at 29 = .ok (.iload_n 3, 1) := by decide +kernel
theorem dX9_at_30 : decode cX9_at 30 = .ok (.ifCond .eq 34, 3) := by decide +kernel
theorem dX9_at_33 : decode cX9_at 33 = .ok (.iload 4, 2) := by decide +kernel
theorem dX9_at_35 : decode cX9_at 35 = .ok (.aload_n 0, 1) := by decide +kernel
theorem dX9_at_36 : decode cX9_at 36 = .ok (.getfield 25, 3) := by decide +kernel
theorem dX9_at_39 : decode cX9_at 39 = .ok (.iload 5, 2) := by decide +kernel
theorem dX9_at_41 : decode cX9_at 41 = .ok (.iaload, 1) := by decide +kernel
theorem dX9_at_42 : decode cX9_at 42 = .ok (.if_icmp .ge 20, 3) := by decide +kernel
theorem dX9_at_45 : decode cX9_at 45 = .ok (.aload_n 0, 1) := by decide +kernel
