theorem dX1_hasContent_13 : decode cX1_hasContent 13 = .ok (.istore_n 2, 1) := by decide +kernel
theorem dX1_hasContent_14 : decode cX1_hasContent 14 = .ok (.iload_n 2, 1) := by decide +kernel
theorem dX1_hasContent_15 : decode cX1_hasContent 15 = .ok (.aload_n 0, 1) := by decide +kernel
theorem dX1_hasContent_16 : decode cX1_hasContent 16 = .ok (.getfield 23, 3) := by decide +kernel
theorem dX1_hasContent_19 : decode cX1_hasContent 19 = .ok (.arraylength, 1) := by decide +kernel
theorem dX1_hasContent_20 : decode cX1_hasContent 20 = .ok (.if_icmp .ge 23, 3) := by decide +kernel
theorem dX1_hasContent_23 : decode cX1_hasContent 23 = .ok (.aload_n 0, 1) := by decide +kernel
theorem dX1_hasContent_24 : decode cX1_hasContent 24 = .ok (.getfield 23, 3) := by decide +kernel
theorem dX1_hasContent_27 : decode cX1_hasContent 27 = .ok (.iload_n 2, 1) := by decide +kernel
theorem dX1_hasContent_28 : decode cX1_hasContent 28 = .ok (.baload, 1) := by decide +kernel
theorem dX1_hasContent_29 : decode cX1_hasContent 29 = .ok (.aload_n 1, 1) := by decide +kernel
theorem dX1_hasContent_30 : decode cX1_hasContent 30 = .ok (.iload_n 2, 1) := by decide +kernel
theorem dX1_hasContent_31 : decode cX1_hasContent 31 = .ok (.baload, 1) := by decide +kernel
theorem dX1_hasContent_32 : decode cX1_hasContent 32 = .ok (.if_icmp .eq 5, 3) := by decide +kernel
theorem dX1_hasContent_35 : decode cX1_hasContent 35 = .ok (.iconst 0, 1) := by decide +kernel
theorem dX1_hasContent_36 : decode cX1_hasContent 36 = .ok (.ireturn, 1) := by decide +kernel
theorem dX1_hasContent_37 : decode cX1_hasContent 37 = .ok (.iinc 2 1, 3) := by decide +kernel
theorem dX1_hasContent_40 : decode cX1_hasContent 40 = .ok (.goto (-26), 3) := by decide +kernel
theorem dX1_hasContent_43 : decode cX1_hasContent 43 = .ok (.iconst 1, 1) := by decide +kernel
theorem dX1_hasContent_44 : decode cX1_hasContent 44 = .ok (.ireturn, 1) := by decide +kernel
theorem dX2_init_0 : decode cX2_init 0 = .ok (.aload_n 0, 1) := by decide +kernel
theorem dX2_init_1 : decode cX2_init 1 = .ok (.invokespecial 3, 3) := by decide +kernel
theorem dX2_init_4 : decode cX2_init 4 = .ok (.aload_n 0, 1) := by decide +kernel
theorem dX2_init_5 : decode cX2_init 5 = .ok (.bipush 40, 2) := by decide +kernel
theorem dX2_init_7 : decode cX2_init 7 = .ok (.anewarray 11, 3) := by decide +kernel
theorem dX2_init_10 : decode cX2_init 10 = .ok (.putfield 13, 3) := by decide +kernel
theorem dX2_init_13 : decode cX2_init 13 = .ok (.aload_n 0, 1) := by decide +kernel
theorem dX2_init_14 : decode cX2_init 14 = .ok (.iconst 0, 1) := by decide +kernel
theorem dX2_init_15 : decode cX2_init 15 = .ok (.putfield 17, 3) := by decide +kernel
theorem dX2_init_18 : decode cX2_init 18 = .ok (.return_, 1) := by decide +kernel
theorem dX2_size_0 : decode cX2_size 0 = .ok (.aload_n 0, 1) := by decide +kernel
theorem dX2_size_1 : decode cX2_size 1 = .ok (.getfield 17, 3) := by decide +kernel
theorem dX2_size_4 : decode cX2_size 4 = .ok (.ireturn, 1) := by decide +kernel
theorem dX2_isFull_0 : decode cX2_isFull 0 = .ok (.aload_n 0, 1) := by decide +kernel
theorem dX2_isFull_1 : decode cX2_isFull 1 = .ok (.getfield 17, 3) := by decide +kernel
theorem dX2_isFull_4 : decode cX2_isFull 4 = .ok (.bipush 40, 2) := by decide +kernel
theorem dX2_isFull_6 : decode cX2_isFull 6 = .ok (.if_icmp .lt 7, 3) := by decide +kernel
theorem dX2_isFull_9 : decode cX2_isFull 9 = .ok (.iconst 1, 1) := by decide +kernel
theorem dX2_isFull_10 : decode cX2_isFull 10 = .ok (.goto 4, 3) := by decide +kernel
theorem dX2_isFull_13 : decode cX2_isFull 13 = .ok (.iconst 0, 1) := by decide +kernel
theorem dX2_isFull_14 : decode cX2_isFull 14 = .ok (.ireturn, 1) := by decide +kernel
theorem dX2_get_0 : decode cX2_get 0 = .ok (.iload_n 1, 1) := by decide +kernel
theorem dX2_get_1 : decode cX2_get 1 = .ok (.ifCond .lt 11, 3) := by decide +kernel
theorem dX2_get_4 : decode cX2_get 4 = .ok (.iload_n 1, 1) := by decide +kernel
theorem dX2_get_5 : decode cX2_get 5 = .ok (.aload_n 0, 1) := by decide +kernel
theorem dX2_get_6 : decode cX2_get 6 = .ok (.getfield 17, 3) := by decide +kernel
theorem dX2_get_9 : decode cX2_get 9 = .ok (.if_icmp .lt 7, 3) := by decide +kernel
theorem dX2_get_12 : decode cX2_get 12 = .ok (.aconst_null, 1) := by decide +kernel
theorem dX2_get_13 : decode cX2_get 13 = .ok (.goto 9, 3) := by decide +kernel
theorem dX2_get_16 : decode cX2_get 16 = .ok (.aload_n 0, 1) := by decide +kernel
theorem dX2_get_17 : decode cX2_get 17 = .ok (.getfield 13, 3) := by decide +kernel
theorem dX2_get_20 : decode cX2_get 20 = .ok (.iload_n 1, 1) := by decide +kernel
theorem dX2_get_21 : decode cX2_get 21 = .ok (.aaload, 1) := by decide +kernel
theorem dX2_get_22 : decode cX2_get 22 = .ok (.areturn, 1) := by decide +kernel
set_option maxRecDepth 20000 in
theorem ggX2_latestTime_X2_get : GoodIn wsX2_latestTime wsX2_get := goodIn_r _ [7, 1, 8, 9, 10] (by decide +kernel) (by decide +kernel)
set_option maxRecDepth 20000 in
theorem gX2_latestTime_X2_get : GoodIn wsX2_latestTime (wsV RX2 21 RX2 yX2_get wsX2_get) := goodIn_app (goodIn_of _ (by decide +kernel)) ggX2_latestTime_X2_get
theorem dX2_latestTime_0 : decode cX2_latestTime 0 = .ok (.aload_n 0, 1) := by decide +kernel
theorem dX2_latestTime_1 : decode cX2_latestTime 1 = .ok (.aload_n 0, 1) := by decide +kernel
theorem dX2_latestTime_2 : decode cX2_latestTime 2 = .ok (.getfield 17, 3) := by decide +kernel
theorem dX2_latestTime_5 : decode cX2_latestTime 5 = .ok (.iconst 1, 1) := by decide +kernel
theorem dX2_latestTime_6 : decode cX2_latestTime 6 = .ok (.isub, 1) := by decide +kernel
theorem dX2_latestTime_7 : decode cX2_latestTime 7 = .ok (.invokevirtual 21, 3) := by decide +kernel
theorem dX2_latestTime_10 : decode cX2_latestTime 10 = .ok (.astore_n 1, 1) := by decide +kernel
theorem dX2_latestTime_11 : decode cX2_latestTime 11 = .ok (.aload_n 1, 1) := by decide +kernel
theorem dX2_latestTime_12 : decode cX2_latestTime 12 = .ok (.ifnonnull 7, 3) := by decide +kernel
theorem dX2_latestTime_15 : decode cX2_latestTime 15 = .ok (.iconst (-1), 1) := by decide +kernel
theorem dX2_latestTime_16 : decode cX2_latestTime 16 = .ok (.goto 7, 3) := by decide +kernel
theorem dX2_latestTime_19 : decode cX2_latestTime 19 = .ok (.aload_n 1, 1) := by decide +kernel
theorem dX2_latestTime_20 : decode cX2_latestTime 20 = .ok (.getfield 25, 3) := by decide +kernel
theorem dX2_latestTime_23 : decode cX2_latestTime 23 = .ok (.ireturn, 1) := by decide +kernel
theorem dX2_add_0 : decode cX2_add 0 = .ok (.aload_n 0, 1) := by decide +kernel
theorem dX2_add_1 : decode cX2_add 1 = .ok (.getfield 17, 3) := by decide +kernel
theorem dX2_add_4 : decode cX2_add 4 = .ok (.bipush 40, 2) := by decide +kernel
theorem dX2_add_6 : decode cX2_add 6 = .ok (.if_icmp .ge 23, 3) := by decide +kernel
theorem dX2_add_9 : decode cX2_add 9 = .ok (.aload_n 0, 1) := by decide +kernel
theorem dX2_add_10 : decode cX2_add 10 = .ok (.getfield 13, 3) := by decide +kernel
theorem dX2_add_13 : decode cX2_add 13 = .ok (.aload_n 0, 1) := by decide +kernel
theorem dX2_add_14 : decode cX2_add 14 = .ok (.getfield 17, 3) := by decide +kernel
theorem dX2_add_17 : decode cX2_add 17 = .ok (.aload_n 1, 1) := by decide +kernel
theorem dX2_add_18 : decode cX2_add 18 = .ok (.aastore, 1) := by decide +kernel
theorem dX2_add_19 : decode cX2_add 19 = .ok (.aload_n 0, 1) := by decide +kernel
theorem dX2_add_20 : decode cX2_add 20 = .ok (.dup, 1) := by decide +kernel
theorem dX2_add_21 : decode cX2_add 21 = .ok (.getfield 17, 3) := by decide +kernel
theorem dX2_add_24 : decode cX2_add 24 = .ok (.iconst 1, 1) := by decide +kernel
theorem dX2_add_25 : decode cX2_add 25 = .ok (.iadd, 1) := by decide +kernel
theorem dX2_add_26 : decode cX2_add 26 = .ok (.putfield 17, 3) := by decide +kernel
theorem dX2_add_29 : decode cX2_add 29 = .ok (.return_, 1) := by decide +kernel
theorem dX2_findAsOf_0 : decode cX2_findAsOf 0 = .ok (.aload_n 0, 1) := by decide +kernel
theorem dX2_findAsOf_1 : decode cX2_findAsOf 1 = .ok (.getfield 17, 3) := by decide +kernel
theorem dX2_findAsOf_4 : decode cX2_findAsOf 4 = .ok (.iconst 1, 1) := by decide +kernel
theorem dX2_findAsOf_5 : decode cX2_findAsOf 5 = .ok (.isub, 1) := by decide +kernel
theorem dX2_findAsOf_6 : decode cX2_findAsOf 6 = .ok (.istore_n 2, 1) := by decide +kernel
theorem dX2_findAsOf_7 : decode cX2_findAsOf 7 = .ok (.iload_n 2, 1) := by decide +kernel
theorem dX2_findAsOf_8 : decode cX2_findAsOf 8 = .ok (.ifCond .lt 30, 3) := by decide +kernel
theorem dX2_findAsOf_11 : decode cX2_findAsOf 11 = .ok (.aload_n 0, 1) := by decide +kernel
theorem dX2_findAsOf_12 : decode cX2_findAsOf 12 = .ok (.getfield 13, 3) := by decide +kernel
theorem dX2_findAsOf_15 : decode cX2_findAsOf 15 = .ok (.iload_n 2, 1) := by decide +kernel
theorem dX2_findAsOf_16 : decode cX2_findAsOf 16 = .ok (.aaload, 1) := by decide +kernel
theorem dX2_findAsOf_17 : decode cX2_findAsOf 17 = .ok (.astore_n 3, 1) := by decide +kernel
theorem dX2_findAsOf_18 : decode cX2_findAsOf 18 = .ok (.aload_n 3, 1) := by decide +kernel
theorem dX2_findAsOf_19 : decode cX2_findAsOf 19 = .ok (.ifnull 13, 3) := by decide +kernel
theorem dX2_findAsOf_22 : decode cX2_findAsOf 22 = .ok (.aload_n 3, 1) := by decide +kernel
theorem dX2_findAsOf_23 : decode cX2_findAsOf 23 = .ok (.getfield 25, 3) := by decide +kernel
theorem dX2_findAsOf_26 : decode cX2_findAsOf 26 = .ok (.iload_n 1, 1) := by decide +kernel
theorem dX2_findAsOf_27 : decode cX2_findAsOf 27 = .ok (.if_icmp .gt 5, 3) := by decide +kernel
theorem dX2_findAsOf_30 : decode cX2_findAsOf 30 = .ok (.iload_n 2, 1) := by decide +kernel
theorem dX2_findAsOf_31 : decode cX2_findAsOf 31 = .ok (.ireturn, 1) := by decide +kernel
theorem dX2_findAsOf_32 : decode cX2_findAsOf 32 = .ok (.iinc 2 (-1), 3) := by decide +kernel
theorem dX2_findAsOf_35 : decode cX2_findAsOf 35 = .ok (.goto (-28), 3) := by decide +kernel
theorem dX2_findAsOf_38 : decode cX2_findAsOf 38 = .ok (.iconst (-1), 1) := by decide +kernel
theorem dX2_findAsOf_39 : decode cX2_findAsOf 39 = .ok (.ireturn, 1) := by decide +kernel
theorem dX2_forgetAheadOf_0 : decode cX2_forgetAheadOf 0 = .ok (.iload_n 1, 1) := by decide +kernel
theorem dX2_forgetAheadOf_1 : decode cX2_forgetAheadOf 1 = .ok (.ifCond .le 11, 3) := by decide +kernel
theorem dX2_forgetAheadOf_4 : decode cX2_forgetAheadOf 4 = .ok (.iload_n 1, 1) := by decide +kernel
theorem dX2_forgetAheadOf_5 : decode cX2_forgetAheadOf 5 = .ok (.aload_n 0, 1) := by decide +kernel
theorem dX2_forgetAheadOf_6 : decode cX2_forgetAheadOf 6 = .ok (.getfield 17, 3) := by decide +kernel
theorem dX2_forgetAheadOf_9 : decode cX2_forgetAheadOf 9 = .ok (.if_icmp .lt 5, 3) := by decide +kernel
theorem dX2_forgetAheadOf_12 : decode cX2_forgetAheadOf 12 = .ok (.iconst 0, 1) := by decide +kernel
theorem dX2_forgetAheadOf_13 : decode cX2_forgetAheadOf 13 = .ok (.ireturn, 1) := by decide +kernel
theorem dX2_forgetAheadOf_14 : decode cX2_forgetAheadOf 14 = .ok (.iload_n 1, 1) := by decide +kernel
theorem dX2_forgetAheadOf_15 : decode cX2_forgetAheadOf 15 = .ok (.istore_n 2, 1) := by decide +kernel
theorem dX2_forgetAheadOf_16 : decode cX2_forgetAheadOf 16 = .ok (.iload_n 2, 1) := by decide +kernel
theorem dX2_forgetAheadOf_17 : decode cX2_forgetAheadOf 17 = .ok (.aload_n 0, 1) := by decide +kernel
theorem dX2_forgetAheadOf_18 : decode cX2_forgetAheadOf 18 = .ok (.getfield 17, 3) := by decide +kernel
theorem dX2_forgetAheadOf_21 : decode cX2_forgetAheadOf 21 = .ok (.if_icmp .ge 23, 3) := by decide +kernel
theorem dX2_forgetAheadOf_24 : decode cX2_forgetAheadOf 24 = .ok (.aload_n 0, 1) := by decide +kernel
theorem dX2_forgetAheadOf_25 : decode cX2_forgetAheadOf 25 = .ok (.getfield 13, 3) := by decide +kernel
theorem dX2_forgetAheadOf_28 : decode cX2_forgetAheadOf 28 = .ok (.iload_n 2, 1) := by decide +kernel
theorem dX2_forgetAheadOf_29 : decode cX2_forgetAheadOf 29 = .ok (.iload_n 1, 1) := by decide +kernel
theorem dX2_forgetAheadOf_30 : decode cX2_forgetAheadOf 30 = .ok (.isub, 1) := by decide +kernel
theorem dX2_forgetAheadOf_31 : decode cX2_forgetAheadOf 31 = .ok (.aload_n 0, 1) := by decide +kernel
theorem dX2_forgetAheadOf_32 : decode cX2_forgetAheadOf 32 = .ok (.getfield 13, 3) := by decide +kernel
theorem dX2_forgetAheadOf_35 : decode cX2_forgetAheadOf 35 = .ok (.iload_n 2, 1) := by decide +kernel
theorem dX2_forgetAheadOf_36 : decode cX2_forgetAheadOf 36 = .ok (.aaload, 1) := by decide +kernel
theorem dX2_forgetAheadOf_37 : decode cX2_forgetAheadOf 37 = .ok (.aastore, 1) := by decide +kernel
theorem dX2_forgetAheadOf_38 : decode cX2_forgetAheadOf 38 = .ok (.iinc 2 1, 3) := by decide +kernel
theorem dX2_forgetAheadOf_41 : decode cX2_forgetAheadOf 41 = .ok (.goto (-25), 3) := by decide +kernel
theorem dX2_forgetAheadOf_44 : decode cX2_forgetAheadOf 44 = .ok (.aload_n 0, 1) := by decide +kernel
theorem dX2_forgetAheadOf_45 : decode cX2_forgetAheadOf 45 = .ok (.dup, 1) := by decide +kernel
theorem dX2_forgetAheadOf_46 : decode cX2_forgetAheadOf 46 = .ok (.getfield 17, 3) := by decide +kernel
theorem dX2_forgetAheadOf_49 : decode cX2_forgetAheadOf 49 = .ok (.iload_n 1, 1) := by decide +kernel
theorem dX2_forgetAheadOf_50 : decode cX2_forgetAheadOf 50 = .ok (.isub, 1) := by decide +kernel
theorem dX2_forgetAheadOf_51 : decode cX2_forgetAheadOf 51 = .ok (.putfield 17, 3) := by decide +kernel
theorem dX2_forgetAheadOf_54 : decode cX2_forgetAheadOf 54 = .ok (.iload_n 1, 1) := by decide +kernel
theorem dX2_forgetAheadOf_55 : decode cX2_forgetAheadOf 55 = .ok (.ireturn, 1) := by decide +kernel
theorem dX2_increments_0 : decode cX2_increments 0 = .ok (.iconst 0, 1) := by decide +kernel
theorem dX2_increments_1 : decode cX2_increments 1 = .ok (.istore_n 1, 1) := by decide +kernel
theorem dX2_increments_2 : decode cX2_increments 2 = .ok (.iconst 1, 1) := by decide +kernel
theorem dX2_increments_3 : decode cX2_increments 3 = .ok (.istore_n 2, 1) := by decide +kernel
theorem dX2_increments_4 : decode cX2_increments 4 = .ok (.iload_n 2, 1) := by decide +kernel
theorem dX2_increments_5 : decode cX2_increments 5 = .ok (.aload_n 0, 1) := by decide +kernel
theorem dX2_increments_6 : decode cX2_increments 6 = .ok (.getfield 17, 3) := by decide +kernel
theorem dX2_increments_9 : decode cX2_increments 9 = .ok (.if_icmp .ge 27, 3) := by decide +kernel
theorem dX2_increments_12 : decode cX2_increments 12 = .ok (.aload_n 0, 1) := by decide +kernel
theorem dX2_increments_13 : decode cX2_increments 13 = .ok (.getfield 13, 3) := by decide +kernel
theorem dX2_increments_16 : decode cX2_increments 16 = .ok (.iload_n 2, 1) := by decide +kernel
theorem dX2_increments_17 : decode cX2_increments 17 = .ok (.aaload, 1) := by decide +kernel
theorem dX2_increments_18 : decode cX2_increments 18 = .ok (.astore_n 3, 1) := by decide +kernel
theorem dX2_increments_19 : decode cX2_increments 19 = .ok (.aload_n 3, 1) := by decide +kernel
theorem dX2_increments_20 : decode cX2_increments 20 = .ok (.ifnull 10, 3) := by decide +kernel
theorem dX2_increments_23 : decode cX2_increments 23 = .ok (.iload_n 1, 1) := by decide +kernel
theorem dX2_increments_24 : decode cX2_increments 24 = .ok (.aload_n 3, 1) := by decide +kernel
theorem dX2_increments_25 : decode cX2_increments 25 = .ok (.getfield 28, 3) := by decide +kernel
theorem dX2_increments_28 : decode cX2_increments 28 = .ok (.iadd, 1) := by decide +kernel
theorem dX2_increments_29 : decode cX2_increments 29 = .ok (.istore_n 1, 1) := by decide +kernel
theorem dX2_increments_30 : decode cX2_increments 30 = .ok (.iinc 2 1, 3) := by decide +kernel
theorem dX2_increments_33 : decode cX2_increments 33 = .ok (.goto (-29), 3) := by decide +kernel
theorem dX2_increments_36 : decode cX2_increments 36 = .ok (.iload_n 1, 1) := by decide +kernel
theorem dX2_increments_37 : decode cX2_increments 37 = .ok (.ireturn, 1) := by decide +kernel
set_option maxRecDepth 20000 in
theorem ggX3_isPath_X3_isName : GoodIn wsX3_isPath wsX3_isName := goodIn_r _ [4] (by decide +kernel) (by decide +kernel)
set_option maxRecDepth 20000 in
theorem gX3_isPath_X3_isName : GoodIn wsX3_isPath (va_wsS RX3 11 yX3_isName wsX3_isName) := goodIn_app (goodIn_of _ (by decide +kernel)) ggX3_isPath_X3_isName
theorem dX3_isPath_0 : decode cX3_isPath 0 = .ok (.iconst 0, 1) := by decide +kernel
theorem dX3_isPath_1 : decode cX3_isPath 1 = .ok (.istore_n 1, 1) := by decide +kernel
theorem dX3_isPath_2 : decode cX3_isPath 2 = .ok (.iconst 0, 1) := by decide +kernel
theorem dX3_isPath_3 : decode cX3_isPath 3 = .ok (.istore_n 2, 1) := by decide +kernel
theorem dX3_isPath_4 : decode cX3_isPath 4 = .ok (.iconst 0, 1) := by decide +kernel
theorem dX3_isPath_5 : decode cX3_isPath 5 = .ok (.istore_n 3, 1) := by decide +kernel
theorem dX3_isPath_6 : decode cX3_isPath 6 = .ok (.iload_n 3, 1) := by decide +kernel
theorem dX3_isPath_7 : decode cX3_isPath 7 = .ok (.aload_n 0, 1) := by decide +kernel
theorem dX3_isPath_8 : decode cX3_isPath 8 = .ok (.arraylength, 1) := by decide +kernel
theorem dX3_isPath_9 : decode cX3_isPath 9 = .ok (.if_icmp .gt 41, 3) := by decide +kernel
theorem dX3_isPath_12 : decode cX3_isPath 12 = .ok (.iload_n 3, 1) := by decide +kernel
theorem dX3_isPath_13 : decode cX3_isPath 13 = .ok (.aload_n 0, 1) := by decide +kernel
theorem dX3_isPath_14 : decode cX3_isPath 14 = .ok (.arraylength, 1) := by decide +kernel
theorem dX3_isPath_15 : decode cX3_isPath 15 = .ok (.if_icmp .eq 11, 3) := by decide +kernel
theorem dX3_isPath_18 : decode cX3_isPath 18 = .ok (.aload_n 0, 1) := by decide +kernel
theorem dX3_isPath_19 : decode cX3_isPath 19 = .ok (.iload_n 3, 1) := by decide +kernel
theorem dX3_isPath_20 : decode cX3_isPath 20 = .ok (.baload, 1) := by decide +kernel
theorem dX3_isPath_21 : decode cX3_isPath 21 = .ok (.bipush 47, 2) := by decide +kernel
theorem dX3_isPath_23 : decode cX3_isPath 23 = .ok (.if_icmp .ne 21, 3) := by decide +kernel
theorem dX3_isPath_26 : decode cX3_isPath 26 = .ok (.aload_n 0, 1) := by decide +kernel
theorem dX3_isPath_27 : decode cX3_isPath 27 = .ok (.iload_n 2, 1) := by decide +kernel
theorem dX3_isPath_28 : decode cX3_isPath 28 = .ok (.iload_n 3, 1) := by decide +kernel
theorem dX3_isPath_29 : decode cX3_isPath 29 = .ok (.invokestatic 11, 3) := by decide +kernel
theorem dX3_isPath_32 : decode cX3_isPath 32 = .ok (.ifCond .ne 5, 3) := by decide +kernel
theorem dX3_isPath_35 : decode cX3_isPath 35 = .ok (.iconst 0, 1) := by decide +kernel
theorem dX3_isPath_36 : decode cX3_isPath 36 = .ok (.ireturn, 1) := by decide +kernel
theorem dX3_isPath_37 : decode cX3_isPath 37 = .ok (.iinc 1 1, 3) := by decide +kernel
theorem dX3_isPath_40 : decode cX3_isPath 40 = .ok (.iload_n 3, 1) := by decide +kernel
theorem dX3_isPath_41 : decode cX3_isPath 41 = .ok (.iconst 1, 1) := by decide +kernel
theorem dX3_isPath_42 : decode cX3_isPath 42 = .ok (.iadd, 1) := by decide +kernel
theorem dX3_isPath_43 : decode cX3_isPath 43 = .ok (.istore_n 2, 1) := by decide +kernel
theorem dX3_isPath_44 : decode cX3_isPath 44 = .ok (.iinc 3 1, 3) := by decide +kernel
theorem dX3_isPath_47 : decode cX3_isPath 47 = .ok (.goto (-41), 3) := by decide +kernel
theorem dX3_isPath_50 : decode cX3_isPath 50 = .ok (.iload_n 1, 1) := by decide +kernel
theorem dX3_isPath_51 : decode cX3_isPath 51 = .ok (.bipush 6, 2) := by decide +kernel
theorem dX3_isPath_53 : decode cX3_isPath 53 = .ok (.if_icmp .gt 7, 3) := by decide +kernel
theorem dX3_isPath_56 : decode cX3_isPath 56 = .ok (.iconst 1, 1) := by decide +kernel
theorem dX3_isPath_57 : decode cX3_isPath 57 = .ok (.goto 4, 3) := by decide +kernel
theorem dX3_isPath_60 : decode cX3_isPath 60 = .ok (.iconst 0, 1) := by decide +kernel
theorem dX3_isPath_61 : decode cX3_isPath 61 = .ok (.ireturn, 1) := by decide +kernel
theorem dX3_isName_0 : decode cX3_isName 0 = .ok (.iload_n 2, 1) := by decide +kernel
theorem dX3_isName_1 : decode cX3_isName 1 = .ok (.iload_n 1, 1) := by decide +kernel
theorem dX3_isName_2 : decode cX3_isName 2 = .ok (.isub, 1) := by decide +kernel
theorem dX3_isName_3 : decode cX3_isName 3 = .ok (.istore_n 3, 1) := by decide +kernel
theorem dX3_isName_4 : decode cX3_isName 4 = .ok (.iload_n 1, 1) := by decide +kernel
theorem dX3_isName_5 : decode cX3_isName 5 = .ok (.ifCond .lt 20, 3) := by decide +kernel
theorem dX3_isName_8 : decode cX3_isName 8 = .ok (.iload_n 2, 1) := by decide +kernel
theorem dX3_isName_9 : decode cX3_isName 9 = .ok (.aload_n 0, 1) := by decide +kernel
theorem dX3_isName_10 : decode cX3_isName 10 = .ok (.arraylength, 1) := by decide +kernel
theorem dX3_isName_11 : decode cX3_isName 11 = .ok (.if_icmp .gt 14, 3) := by decide +kernel
theorem dX3_isName_14 : decode cX3_isName 14 = .ok (.iload_n 3, 1) := by decide +kernel
theorem dX3_isName_15 : decode cX3_isName 15 = .ok (.iconst 1, 1) := by decide +kernel
theorem dX3_isName_16 : decode cX3_isName 16 = .ok (.if_icmp .lt 9, 3) := by decide +kernel
theorem dX3_isName_19 : decode cX3_isName 19 = .ok (.iload_n 3, 1) := by decide +kernel
theorem dX3_isName_20 : decode cX3_isName 20 = .ok (.bipush 24, 2) := by decide +kernel
theorem dX3_isName_22 : decode cX3_isName 22 = .ok (.if_icmp .le 5, 3) := by decide +kernel
theorem dX3_isName_25 : decode cX3_isName 25 = .ok (.iconst 0, 1) := by decide +kernel
theorem dX3_isName_26 : decode cX3_isName 26 = .ok (.ireturn, 1) := by decide +kernel
theorem dX3_isName_27 : decode cX3_isName 27 = .ok (.iconst 0, 1) := by decide +kernel
theorem dX3_isName_28 : decode cX3_isName 28 = .ok (.istore 4, 2) := by decide +kernel
theorem dX3_isName_30 : decode cX3_isName 30 = .ok (.iload_n 1, 1) := by decide +kernel
theorem dX3_isName_31 : decode cX3_isName 31 = .ok (.istore 5, 2) := by decide +kernel
theorem dX3_isName_33 : decode cX3_isName 33 = .ok (.iload 5, 2) := by decide +kernel
theorem dX3_isName_35 : decode cX3_isName 35 = .ok (.iload_n 2, 1) := by decide +kernel
theorem dX3_isName_36 : decode cX3_isName 36 = .ok (.if_icmp .ge 30, 3) := by decide +kernel
theorem dX3_isName_39 : decode cX3_isName 39 = .ok (.aload_n 0, 1) := by decide +kernel
theorem dX3_isName_40 : decode cX3_isName 40 = .ok (.iload 5, 2) := by decide +kernel
theorem dX3_isName_42 : decode cX3_isName 42 = .ok (.baload, 1) := by decide +kernel
theorem dX3_isName_43 : decode cX3_isName 43 = .ok (.ifCond .ne 5, 3) := by decide +kernel
theorem dX3_isName_46 : decode cX3_isName 46 = .ok (.iconst 0, 1) := by decide +kernel
theorem dX3_isName_47 : decode cX3_isName 47 = .ok (.ireturn, 1) := by decide +kernel
theorem dX3_isName_48 : decode cX3_isName 48 = .ok (.aload_n 0, 1) := by decide +kernel
theorem dX3_isName_49 : decode cX3_isName 49 = .ok (.iload 5, 2) := by decide +kernel
theorem dX3_isName_51 : decode cX3_isName 51 = .ok (.baload, 1) := by decide +kernel
theorem dX3_isName_52 : decode cX3_isName 52 = .ok (.bipush 46, 2) := by decide +kernel
theorem dX3_isName_54 : decode cX3_isName 54 = .ok (.if_icmp .ne 6, 3) := by decide +kernel
theorem dX3_isName_57 : decode cX3_isName 57 = .ok (.iinc 4 1, 3) := by decide +kernel
theorem dX3_isName_60 : decode cX3_isName 60 = .ok (.iinc 5 1, 3) := by decide +kernel
theorem dX3_isName_63 : decode cX3_isName 63 = .ok (.goto (-30), 3) := by decide +kernel
theorem dX3_isName_66 : decode cX3_isName 66 = .ok (.iload 4, 2) := by decide +kernel
theorem dX3_isName_68 : decode cX3_isName 68 = .ok (.iload_n 3, 1) := by decide +kernel
theorem dX3_isName_69 : decode cX3_isName 69 = .ok (.if_icmp .lt 8, 3) := by decide +kernel
theorem dX3_isName_72 : decode cX3_isName 72 = .ok (.iload_n 3, 1) := by decide +kernel
theorem dX3_isName_73 : decode cX3_isName 73 = .ok (.iconst 2, 1) := by decide +kernel
theorem dX3_isName_74 : decode cX3_isName 74 = .ok (.if_icmp .le 7, 3) := by decide +kernel
theorem dX3_isName_77 : decode cX3_isName 77 = .ok (.iconst 1, 1) := by decide +kernel
theorem dX3_isName_78 : decode cX3_isName 78 = .ok (.goto 4, 3) := by decide +kernel
theorem dX3_isName_81 : decode cX3_isName 81 = .ok (.iconst 0, 1) := by decide +kernel
theorem dX3_isName_82 : decode cX3_isName 82 = .ok (.ireturn, 1) := by decide +kernel
theorem dX3_lastSlash_0 : decode cX3_lastSlash 0 = .ok (.aload_n 0, 1) := by decide +kernel
theorem dX3_lastSlash_1 : decode cX3_lastSlash 1 = .ok (.arraylength, 1) := by decide +kernel
theorem dX3_lastSlash_2 : decode cX3_lastSlash 2 = .ok (.iconst 1, 1) := by decide +kernel
theorem dX3_lastSlash_3 : decode cX3_lastSlash 3 = .ok (.isub, 1) := by decide +kernel
theorem dX3_lastSlash_4 : decode cX3_lastSlash 4 = .ok (.istore_n 1, 1) := by decide +kernel
theorem dX3_lastSlash_5 : decode cX3_lastSlash 5 = .ok (.iload_n 1, 1) := by decide +kernel
theorem dX3_lastSlash_6 : decode cX3_lastSlash 6 = .ok (.ifCond .lt 19, 3) := by decide +kernel
theorem dX3_lastSlash_9 : decode cX3_lastSlash 9 = .ok (.aload_n 0, 1) := by decide +kernel
theorem dX3_lastSlash_10 : decode cX3_lastSlash 10 = .ok (.iload_n 1, 1) := by decide +kernel
theorem dX3_lastSlash_11 : decode cX3_lastSlash 11 = .ok (.baload, 1) := by decide +kernel
theorem dX3_lastSlash_12 : decode cX3_lastSlash 12 = .ok (.bipush 47, 2) := by decide +kernel
theorem dX3_lastSlash_14 : decode cX3_lastSlash 14 = .ok (.if_icmp .ne 5, 3) := by decide +kernel
theorem dX3_lastSlash_17 : decode cX3_lastSlash 17 = .ok (.iload_n 1, 1) := by decide +kernel
theorem dX3_lastSlash_18 : decode cX3_lastSlash 18 = .ok (.ireturn, 1) := by decide +kernel
theorem dX3_lastSlash_19 : decode cX3_lastSlash 19 = .ok (.iinc 1 (-1), 3) := by decide +kernel
theorem dX3_lastSlash_22 : decode cX3_lastSlash 22 = .ok (.goto (-17), 3) := by decide +kernel
theorem dX3_lastSlash_25 : decode cX3_lastSlash 25 = .ok (.iconst (-1), 1) := by decide +kernel
theorem dX3_lastSlash_26 : decode cX3_lastSlash 26 = .ok (.ireturn, 1) := by decide +kernel
theorem dX3_isBelow_0 : decode cX3_isBelow 0 = .ok (.aload_n 0, 1) := by decide +kernel
theorem dX3_isBelow_1 : decode cX3_isBelow 1 = .ok (.arraylength, 1) := by decide +kernel
theorem dX3_isBelow_2 : decode cX3_isBelow 2 = .ok (.aload_n 1, 1) := by decide +kernel
theorem dX3_isBelow_3 : decode cX3_isBelow 3 = .ok (.arraylength, 1) := by decide +kernel
theorem dX3_isBelow_4 : decode cX3_isBelow 4 = .ok (.if_icmp .le 12, 3) := by decide +kernel
theorem dX3_isBelow_7 : decode cX3_isBelow 7 = .ok (.aload_n 0, 1) := by decide +kernel
theorem dX3_isBelow_8 : decode cX3_isBelow 8 = .ok (.aload_n 1, 1) := by decide +kernel
theorem dX3_isBelow_9 : decode cX3_isBelow 9 = .ok (.arraylength, 1) := by decide +kernel
theorem dX3_isBelow_10 : decode cX3_isBelow 10 = .ok (.baload, 1) := by decide +kernel
theorem dX3_isBelow_11 : decode cX3_isBelow 11 = .ok (.bipush 47, 2) := by decide +kernel
theorem dX3_isBelow_13 : decode cX3_isBelow 13 = .ok (.if_icmp .eq 5, 3) := by decide +kernel
theorem dX3_isBelow_16 : decode cX3_isBelow 16 = .ok (.iconst 0, 1) := by decide +kernel
theorem dX3_isBelow_17 : decode cX3_isBelow 17 = .ok (.ireturn, 1) := by decide +kernel
theorem dX3_isBelow_18 : decode cX3_isBelow 18 = .ok (.iconst 0, 1) := by decide +kernel
theorem dX3_isBelow_19 : decode cX3_isBelow 19 = .ok (.istore_n 2, 1) := by decide +kernel
theorem dX3_isBelow_20 : decode cX3_isBelow 20 = .ok (.iload_n 2, 1) := by decide +kernel
theorem dX3_isBelow_21 : decode cX3_isBelow 21 = .ok (.aload_n 1, 1) := by decide +kernel
theorem dX3_isBelow_22 : decode cX3_isBelow 22 = .ok (.arraylength, 1) := by decide +kernel
theorem dX3_isBelow_23 : decode cX3_isBelow 23 = .ok (.if_icmp .ge 20, 3) := by decide +kernel
theorem dX3_isBelow_26 : decode cX3_isBelow 26 = .ok (.aload_n 0, 1) := by decide +kernel
theorem dX3_isBelow_27 : decode cX3_isBelow 27 = .ok (.iload_n 2, 1) := by decide +kernel
theorem dX3_isBelow_28 : decode cX3_isBelow 28 = .ok (.baload, 1) := by decide +kernel
theorem dX3_isBelow_29 : decode cX3_isBelow 29 = .ok (.aload_n 1, 1) := by decide +kernel
theorem dX3_isBelow_30 : decode cX3_isBelow 30 = .ok (.iload_n 2, 1) := by decide +kernel
theorem dX3_isBelow_31 : decode cX3_isBelow 31 = .ok (.baload, 1) := by decide +kernel
theorem dX3_isBelow_32 : decode cX3_isBelow 32 = .ok (.if_icmp .eq 5, 3) := by decide +kernel
theorem dX3_isBelow_35 : decode cX3_isBelow 35 = .ok (.iconst 0, 1) := by decide +kernel
theorem dX3_isBelow_36 : decode cX3_isBelow 36 = .ok (.ireturn, 1) := by decide +kernel
theorem dX3_isBelow_37 : decode cX3_isBelow 37 = .ok (.iinc 2 1, 3) := by decide +kernel
theorem dX3_isBelow_40 : decode cX3_isBelow 40 = .ok (.goto (-20), 3) := by decide +kernel
theorem dX3_isBelow_43 : decode cX3_isBelow 43 = .ok (.iconst 1, 1) := by decide +kernel
theorem dX3_isBelow_44 : decode cX3_isBelow 44 = .ok (.ireturn, 1) := by decide +kernel
theorem dX3_compare_0 : decode cX3_compare 0 = .ok (.iconst 0, 1) := by decide +kernel
theorem dX3_compare_1 : decode cX3_compare 1 = .ok (.istore_n 2, 1) := by decide +kernel
theorem dX3_compare_2 : decode cX3_compare 2 = .ok (.iload_n 2, 1) := by decide +kernel
theorem dX3_compare_3 : decode cX3_compare 3 = .ok (.aload_n 0, 1) := by decide +kernel
theorem dX3_compare_4 : decode cX3_compare 4 = .ok (.arraylength, 1) := by decide +kernel
theorem dX3_compare_5 : decode cX3_compare 5 = .ok (.if_icmp .ge 64, 3) := by decide +kernel
theorem dX3_compare_8 : decode cX3_compare 8 = .ok (.iload_n 2, 1) := by decide +kernel
theorem dX3_compare_9 : decode cX3_compare 9 = .ok (.aload_n 1, 1) := by decide +kernel
theorem dX3_compare_10 : decode cX3_compare 10 = .ok (.arraylength, 1) := by decide +kernel
theorem dX3_compare_11 : decode cX3_compare 11 = .ok (.if_icmp .ge 58, 3) := by decide +kernel
theorem dX3_compare_14 : decode cX3_compare 14 = .ok (.aload_n 0, 1) := by decide +kernel
theorem dX3_compare_15 : decode cX3_compare 15 = .ok (.iload_n 2, 1) := by decide +kernel
theorem dX3_compare_16 : decode cX3_compare 16 = .ok (.baload, 1) := by decide +kernel
theorem dX3_compare_17 : decode cX3_compare 17 = .ok (.aload_n 1, 1) := by decide +kernel
theorem dX3_compare_18 : decode cX3_compare 18 = .ok (.iload_n 2, 1) := by decide +kernel
theorem dX3_compare_19 : decode cX3_compare 19 = .ok (.baload, 1) := by decide +kernel
theorem dX3_compare_20 : decode cX3_compare 20 = .ok (.if_icmp .eq 43, 3) := by decide +kernel
theorem dX3_compare_23 : decode cX3_compare 23 = .ok (.aload_n 0, 1) := by decide +kernel
theorem dX3_compare_24 : decode cX3_compare 24 = .ok (.iload_n 2, 1) := by decide +kernel
theorem dX3_compare_25 : decode cX3_compare 25 = .ok (.baload, 1) := by decide +kernel
theorem dX3_compare_26 : decode cX3_compare 26 = .ok (.bipush 47, 2) := by decide +kernel
theorem dX3_compare_28 : decode cX3_compare 28 = .ok (.if_icmp .ne 7, 3) := by decide +kernel
theorem dX3_compare_31 : decode cX3_compare 31 = .ok (.iconst (-1), 1) := by decide +kernel
theorem dX3_compare_32 : decode cX3_compare 32 = .ok (.goto 30, 3) := by decide +kernel
theorem dX3_compare_35 : decode cX3_compare 35 = .ok (.aload_n 1, 1) := by decide +kernel
theorem dX3_compare_36 : decode cX3_compare 36 = .ok (.iload_n 2, 1) := by decide +kernel
theorem dX3_compare_37 : decode cX3_compare 37 = .ok (.baload, 1) := by decide +kernel
theorem dX3_compare_38 : decode cX3_compare 38 = .ok (.bipush 47, 2) := by decide +kernel
theorem dX3_compare_40 : decode cX3_compare 40 = .ok (.if_icmp .ne 7, 3) := by decide +kernel
theorem dX3_compare_43 : decode cX3_compare 43 = .ok (.iconst 1, 1) := by decide +kernel
theorem dX3_compare_44 : decode cX3_compare 44 = .ok (.goto 18, 3) := by decide +kernel
theorem dX3_compare_47 : decode cX3_compare 47 = .ok (.aload_n 0, 1) := by decide +kernel
theorem dX3_compare_48 : decode cX3_compare 48 = .ok (.iload_n 2, 1) := by decide +kernel
theorem dX3_compare_49 : decode cX3_compare 49 = .ok (.baload, 1) := by decide +kernel
theorem dX3_compare_50 : decode cX3_compare 50 = .ok (.sipush 255, 3) := by decide +kernel
theorem dX3_compare_53 : decode cX3_compare 53 = .ok (.iand, 1) := by decide +kernel
theorem dX3_compare_54 : decode cX3_compare 54 = .ok (.aload_n 1, 1) := by decide +kernel
theorem dX3_compare_55 : decode cX3_compare 55 = .ok (.iload_n 2, 1) := by decide +kernel
theorem dX3_compare_56 : decode cX3_compare 56 = .ok (.baload, 1) := by decide +kernel
theorem dX3_compare_57 : decode cX3_compare 57 = .ok (.sipush 255, 3) := by decide +kernel
theorem dX3_compare_60 : decode cX3_compare 60 = .ok (.iand, 1) := by decide +kernel
theorem dX3_compare_61 : decode cX3_compare 61 = .ok (.isub, 1) := by decide +kernel
theorem dX3_compare_62 : decode cX3_compare 62 = .ok (.ireturn, 1) := by decide +kernel
theorem dX3_compare_63 : decode cX3_compare 63 = .ok (.iinc 2 1, 3) := by decide +kernel
theorem dX3_compare_66 : decode cX3_compare 66 = .ok (.goto (-64), 3) := by decide +kernel
theorem dX3_compare_69 : decode cX3_compare 69 = .ok (.aload_n 0, 1) := by decide +kernel
theorem dX3_compare_70 : decode cX3_compare 70 = .ok (.arraylength, 1) := by decide +kernel
theorem dX3_compare_71 : decode cX3_compare 71 = .ok (.aload_n 1, 1) := by decide +kernel
theorem dX3_compare_72 : decode cX3_compare 72 = .ok (.arraylength, 1) := by decide +kernel
theorem dX3_compare_73 : decode cX3_compare 73 = .ok (.isub, 1) := by decide +kernel
theorem dX3_compare_74 : decode cX3_compare 74 = .ok (.ireturn, 1) := by decide +kernel
set_option maxRecDepth 20000 in
theorem ggX4_init_X6_init : GoodIn wsX4_init wsX6_init := goodIn_r _ [11, 12, 2, 3, 13, 14, 15, 23, 24] (by decide +kernel) (by decide +kernel)
set_option maxRecDepth 20000 in
theorem gX4_init_X6_init_n18 : GoodIn wsX4_init (wsX6_init) := ggX4_init_X6_init
set_option maxRecDepth 20000 in
theorem ggX4_init_X6_copyFrom : GoodIn wsX4_init wsX6_copyFrom := goodIn_r _ [19, 15, 14, 23, 24] (by decide +kernel) (by decide +kernel)
set_option maxRecDepth 20000 in
theorem gX4_init_X6_copyFrom : GoodIn wsX4_init (wsV RX4 23 RX6 yX6_copyFrom wsX6_copyFrom) := goodIn_app (goodIn_of _ (by decide +kernel)) ggX4_init_X6_copyFrom
theorem dX4_init_0 : decode cX4_init 0 = .ok (.aload_n 0, 1) := by decide +kernel
theorem dX4_init_1 : decode cX4_init 1 = .ok (.invokespecial 1, 3) := by decide +kernel
theorem dX4_init_4 : decode cX4_init 4 = .ok (.aload_n 0, 1) := by decide +kernel
theorem dX4_init_5 : decode cX4_init 5 = .ok (.iload_n 1, 1) := by decide +kernel
theorem dX4_init_6 : decode cX4_init 6 = .ok (.putfield 7, 3) := by decide +kernel
theorem dX4_init_9 : decode cX4_init 9 = .ok (.aload_n 0, 1) := by decide +kernel
theorem dX4_init_10 : decode cX4_init 10 = .ok (.iload_n 2, 1) := by decide +kernel
theorem dX4_init_11 : decode cX4_init 11 = .ok (.putfield 13, 3) := by decide +kernel
theorem dX4_init_14 : decode cX4_init 14 = .ok (.aload_n 0, 1) := by decide +kernel
theorem dX4_init_15 : decode cX4_init 15 = .ok (.new 16, 3) := by decide +kernel
theorem dX4_init_18 : decode cX4_init 18 = .ok (.dup, 1) := by decide +kernel
theorem dX4_init_19 : decode cX4_init 19 = .ok (.invokespecial 18, 3) := by decide +kernel
theorem dX4_init_22 : decode cX4_init 22 = .ok (.putfield 19, 3) := by decide +kernel
theorem dX4_init_25 : decode cX4_init 25 = .ok (.aload_n 0, 1) := by decide +kernel
theorem dX4_init_26 : decode cX4_init 26 = .ok (.getfield 19, 3) := by decide +kernel
theorem dX4_init_29 : decode cX4_init 29 = .ok (.aload_n 3, 1) := by decide +kernel
theorem dX4_init_30 : decode cX4_init 30 = .ok (.invokevirtual 23, 3) := by decide +kernel
theorem dX4_init_33 : decode cX4_init 33 = .ok (.return_, 1) := by decide +kernel
theorem dX5_init_0 : decode cX5_init 0 = .ok (.aload_n 0, 1) := by decide +kernel
theorem dX5_init_1 : decode cX5_init 1 = .ok (.invokespecial 3, 3) := by decide +kernel
theorem dX5_init_4 : decode cX5_init 4 = .ok (.aload_n 0, 1) := by decide +kernel
theorem dX5_init_5 : decode cX5_init 5 = .ok (.iconst 5, 1) := by decide +kernel
theorem dX5_init_6 : decode cX5_init 6 = .ok (.newarray .int, 2) := by decide +kernel
theorem dX5_init_8 : decode cX5_init 8 = .ok (.putfield 11, 3) := by decide +kernel
theorem dX5_init_11 : decode cX5_init 11 = .ok (.aload_n 0, 1) := by decide +kernel
theorem dX5_init_12 : decode cX5_init 12 = .ok (.sipush 400, 3) := by decide +kernel
theorem dX5_init_15 : decode cX5_init 15 = .ok (.newarray .byte, 2) := by decide +kernel
theorem dX5_init_17 : decode cX5_init 17 = .ok (.putfield 15, 3) := by decide +kernel
theorem dX5_init_20 : decode cX5_init 20 = .ok (.aload_n 0, 1) := by decide +kernel
theorem dX5_init_21 : decode cX5_init 21 = .ok (.iconst 0, 1) := by decide +kernel
theorem dX5_init_22 : decode cX5_init 22 = .ok (.putfield 19, 3) := by decide +kernel
theorem dX5_init_25 : decode cX5_init 25 = .ok (.return_, 1) := by decide +kernel
theorem dX5_size_0 : decode cX5_size 0 = .ok (.aload_n 0, 1) := by decide +kernel
theorem dX5_size_1 : decode cX5_size 1 = .ok (.getfield 19, 3) := by decide +kernel
theorem dX5_size_4 : decode cX5_size 4 = .ok (.ireturn, 1) := by decide +kernel
theorem dX5_makeReady_0 : decode cX5_makeReady 0 = .ok (.aload_n 0, 1) := by decide +kernel
theorem dX5_makeReady_1 : decode cX5_makeReady 1 = .ok (.getfield 11, 3) := by decide +kernel
theorem dX5_makeReady_4 : decode cX5_makeReady 4 = .ok (.iconst 0, 1) := by decide +kernel
theorem dX5_makeReady_5 : decode cX5_makeReady 5 = .ok (.iload_n 1, 1) := by decide +kernel
theorem dX5_makeReady_6 : decode cX5_makeReady 6 = .ok (.iastore, 1) := by decide +kernel
theorem dX5_makeReady_7 : decode cX5_makeReady 7 = .ok (.aload_n 0, 1) := by decide +kernel
theorem dX5_makeReady_8 : decode cX5_makeReady 8 = .ok (.getfield 11, 3) := by decide +kernel
theorem dX5_makeReady_11 : decode cX5_makeReady 11 = .ok (.iconst 1, 1) := by decide +kernel
theorem dX5_makeReady_12 : decode cX5_makeReady 12 = .ok (.iload_n 2, 1) := by decide +kernel
theorem dX5_makeReady_13 : decode cX5_makeReady 13 = .ok (.iastore, 1) := by decide +kernel
theorem dX5_makeReady_14 : decode cX5_makeReady 14 = .ok (.aload_n 0, 1) := by decide +kernel
theorem dX5_makeReady_15 : decode cX5_makeReady 15 = .ok (.getfield 11, 3) := by decide +kernel
theorem dX5_makeReady_18 : decode cX5_makeReady 18 = .ok (.iconst 2, 1) := by decide +kernel
theorem dX5_makeReady_19 : decode cX5_makeReady 19 = .ok (.iload_n 3, 1) := by decide +kernel
theorem dX5_makeReady_20 : decode cX5_makeReady 20 = .ok (.iastore, 1) := by decide +kernel
theorem dX5_makeReady_21 : decode cX5_makeReady 21 = .ok (.aload_n 0, 1) := by decide +kernel
theorem dX5_makeReady_22 : decode cX5_makeReady 22 = .ok (.getfield 11, 3) := by decide +kernel
theorem dX5_makeReady_25 : decode cX5_makeReady 25 = .ok (.iconst 3, 1) := by decide +kernel
theorem dX5_makeReady_26 : decode cX5_makeReady 26 = .ok (.iload 4, 2) := by decide +kernel
theorem dX5_makeReady_28 : decode cX5_makeReady 28 = .ok (.iastore, 1) := by decide +kernel
theorem dX5_makeReady_29 : decode cX5_makeReady 29 = .ok (.aload_n 0, 1) := by decide +kernel
theorem dX5_makeReady_30 : decode cX5_makeReady 30 = .ok (.getfield 11, 3) := by decide +kernel
theorem dX5_makeReady_33 : decode cX5_makeReady 33 = .ok (.iconst 4, 1) := by decide +kernel
theorem dX5_makeReady_34 : decode cX5_makeReady 34 = .ok (.iload 5, 2) := by decide +kernel
theorem dX5_makeReady_36 : decode cX5_makeReady 36 = .ok (.iastore, 1) := by decide +kernel
theorem dX5_makeReady_37 : decode cX5_makeReady 37 = .ok (.return_, 1) := by decide +kernel
set_option maxRecDepth 20000 in
theorem ggX5_append_X5_readyByte : GoodIn wsX5_append wsX5_readyByte := goodIn_r _ [8, 3, 13, 14, 15] (by decide +kernel) (by decide +kernel)
set_option maxRecDepth 20000 in
theorem gX5_append_X5_readyByte : GoodIn wsX5_append (wsV RX5 23 RX5 yX5_readyByte wsX5_readyByte) := goodIn_app (goodIn_of _ (by decide +kernel)) ggX5_append_X5_readyByte
set_option maxRecDepth 20000 in
theorem ggX5_append_J7_fill_53178 : GoodIn wsX5_append wsJ7_fill_53178 := goodIn_r _ [12] (by decide +kernel) (by decide +kernel)
set_option maxRecDepth 20000 in
theorem gX5_append_J7_fill_53178 : GoodIn wsX5_append (va_wsS RX5 27 yJ7_fill_53178 wsJ7_fill_53178) := goodIn_app (goodIn_of _ (by decide +kernel)) ggX5_append_J7_fill_53178
theorem dX5_append_0 : decode cX5_append 0 = .ok (.iload_n 1, 1) := by decide +kernel
theorem dX5_append_1 : decode cX5_append 1 = .ok (.ifCond .lt 21, 3) := by decide +kernel
theorem dX5_append_4 : decode cX5_append 4 = .ok (.iload_n 1, 1) := by decide +kernel
theorem dX5_append_5 : decode cX5_append 5 = .ok (.bipush 20, 2) := by decide +kernel
theorem dX5_append_7 : decode cX5_append 7 = .ok (.if_icmp .gt 15, 3) := by decide +kernel
theorem dX5_append_10 : decode cX5_append 10 = .ok (.aload_n 0, 1) := by decide +kernel
theorem dX5_append_11 : decode cX5_append 11 = .ok (.getfield 19, 3) := by decide +kernel
theorem dX5_append_14 : decode cX5_append 14 = .ok (.iload_n 1, 1) := by decide +kernel
theorem dX5_append_15 : decode cX5_append 15 = .ok (.iadd, 1) := by decide +kernel
theorem dX5_append_16 : decode cX5_append 16 = .ok (.sipush 400, 3) := by decide +kernel
theorem dX5_append_19 : decode cX5_append 19 = .ok (.if_icmp .le 5, 3) := by decide +kernel
theorem dX5_append_22 : decode cX5_append 22 = .ok (.iconst (-1), 1) := by decide +kernel
theorem dX5_append_23 : decode cX5_append 23 = .ok (.ireturn, 1) := by decide +kernel
theorem dX5_append_24 : decode cX5_append 24 = .ok (.iconst 0, 1) := by decide +kernel
theorem dX5_append_25 : decode cX5_append 25 = .ok (.istore_n 2, 1) := by decide +kernel
theorem dX5_append_26 : decode cX5_append 26 = .ok (.iload_n 2, 1) := by decide +kernel
theorem dX5_append_27 : decode cX5_append 27 = .ok (.iload_n 1, 1) := by decide +kernel
theorem dX5_append_28 : decode cX5_append 28 = .ok (.if_icmp .ge 25, 3) := by decide +kernel
theorem dX5_append_31 : decode cX5_append 31 = .ok (.aload_n 0, 1) := by decide +kernel
theorem dX5_append_32 : decode cX5_append 32 = .ok (.getfield 15, 3) := by decide +kernel
theorem dX5_append_35 : decode cX5_append 35 = .ok (.aload_n 0, 1) := by decide +kernel
theorem dX5_append_36 : decode cX5_append 36 = .ok (.getfield 19, 3) := by decide +kernel
theorem dX5_append_39 : decode cX5_append 39 = .ok (.iload_n 2, 1) := by decide +kernel
theorem dX5_append_40 : decode cX5_append 40 = .ok (.iadd, 1) := by decide +kernel
theorem dX5_append_41 : decode cX5_append 41 = .ok (.aload_n 0, 1) := by decide +kernel
theorem dX5_append_42 : decode cX5_append 42 = .ok (.iload_n 2, 1) := by decide +kernel
theorem dX5_append_43 : decode cX5_append 43 = .ok (.invokevirtual 23, 3) := by decide +kernel
theorem dX5_append_46 : decode cX5_append 46 = .ok (.bastore, 1) := by decide +kernel
theorem dX5_append_47 : decode cX5_append 47 = .ok (.iinc 2 1, 3) := by decide +kernel
theorem dX5_append_50 : decode cX5_append 50 = .ok (.goto (-24), 3) := by decide +kernel
theorem dX5_append_53 : decode cX5_append 53 = .ok (.aload_n 0, 1) := by decide +kernel
theorem dX5_append_54 : decode cX5_append 54 = .ok (.dup, 1) := by decide +kernel
theorem dX5_append_55 : decode cX5_append 55 = .ok (.getfield 19, 3) := by decide +kernel
theorem dX5_append_58 : decode cX5_append 58 = .ok (.iload_n 1, 1) := by decide +kernel
theorem dX5_append_59 : decode cX5_append 59 = .ok (.iadd, 1) := by decide +kernel
theorem dX5_append_60 : decode cX5_append 60 = .ok (.putfield 19, 3) := by decide +kernel
theorem dX5_append_63 : decode cX5_append 63 = .ok (.aload_n 0, 1) := by decide +kernel
theorem dX5_append_64 : decode cX5_append 64 = .ok (.getfield 11, 3) := by decide +kernel
theorem dX5_append_67 : decode cX5_append 67 = .ok (.iconst 0, 1) := by decide +kernel
theorem dX5_append_68 : decode cX5_append 68 = .ok (.invokestatic 27, 3) := by decide +kernel
theorem dX5_append_71 : decode cX5_append 71 = .ok (.aload_n 0, 1) := by decide +kernel
theorem dX5_append_72 : decode cX5_append 72 = .ok (.getfield 19, 3) := by decide +kernel
theorem dX5_append_75 : decode cX5_append 75 = .ok (.ireturn, 1) := by decide +kernel
set_option maxRecDepth 20000 in
theorem ggX5_take_J7_copyOf_9075b : GoodIn wsX5_take wsJ7_copyOf_9075b := goodIn_r _ [6, 7, 8, 9, 10, 11, 12, 13, 14, 15, 16, 17, 18, 19, 20, 21] (by decide +kernel) (by decide +kernel)
set_option maxRecDepth 20000 in
theorem gX5_take_J7_copyOf_9075b : GoodIn wsX5_take (va_wsS RX5 33 yJ7_copyOf_9075b wsJ7_copyOf_9075b) := goodIn_app (goodIn_of _ (by decide +kernel)) ggX5_take_J7_copyOf_9075b
theorem dX5_take_0 : decode cX5_take 0 = .ok (.aload_n 0, 1) := by decide +kernel
theorem dX5_take_1 : decode cX5_take 1 = .ok (.getfield 15, 3) := by decide +kernel
theorem dX5_take_4 : decode cX5_take 4 = .ok (.aload_n 0, 1) := by decide +kernel
theorem dX5_take_5 : decode cX5_take 5 = .ok (.getfield 19, 3) := by decide +kernel
theorem dX5_take_8 : decode cX5_take 8 = .ok (.invokestatic 33, 3) := by decide +kernel
theorem dX5_take_11 : decode cX5_take 11 = .ok (.astore_n 1, 1) := by decide +kernel
theorem dX5_take_12 : decode cX5_take 12 = .ok (.aload_n 0, 1) := by decide +kernel
theorem dX5_take_13 : decode cX5_take 13 = .ok (.iconst 0, 1) := by decide +kernel
theorem dX5_take_14 : decode cX5_take 14 = .ok (.putfield 19, 3) := by decide +kernel
theorem dX5_take_17 : decode cX5_take 17 = .ok (.aload_n 1, 1) := by decide +kernel
theorem dX5_take_18 : decode cX5_take 18 = .ok (.areturn, 1) := by decide +kernel
theorem dX5_readyByte_0 : decode cX5_readyByte 0 = .ok (.iload_n 1, 1) := by decide +kernel
theorem dX5_readyByte_1 : decode cX5_readyByte 1 = .ok (.iconst 2, 1) := by decide +kernel
theorem dX5_readyByte_2 : decode cX5_readyByte 2 = .ok (.ishr, 1) := by decide +kernel
theorem dX5_readyByte_3 : decode cX5_readyByte 3 = .ok (.istore_n 2, 1) := by decide +kernel
theorem dX5_readyByte_4 : decode cX5_readyByte 4 = .ok (.iload_n 2, 1) := by decide +kernel
theorem dX5_readyByte_5 : decode cX5_readyByte 5 = .ok (.ifCond .lt 8, 3) := by decide +kernel
theorem dX5_readyByte_8 : decode cX5_readyByte 8 = .ok (.iload_n 2, 1) := by decide +kernel
theorem dX5_readyByte_9 : decode cX5_readyByte 9 = .ok (.iconst 5, 1) := by decide +kernel
theorem dX5_readyByte_10 : decode cX5_readyByte 10 = .ok (.if_icmp .lt 5, 3) := by decide +kernel
theorem dX5_readyByte_13 : decode cX5_readyByte 13 = .ok (.iconst 0, 1) := by decide +kernel
theorem dX5_readyByte_14 : decode cX5_readyByte 14 = .ok (.ireturn, 1) := by decide +kernel
theorem dX5_readyByte_15 : decode cX5_readyByte 15 = .ok (.aload_n 0, 1) := by decide +kernel
theorem dX5_readyByte_16 : decode cX5_readyByte 16 = .ok (.getfield 11, 3) := by decide +kernel
theorem dX5_readyByte_19 : decode cX5_readyByte 19 = .ok (.iload_n 2, 1) := by decide +kernel
theorem dX5_readyByte_20 : decode cX5_readyByte 20 = .ok (.iaload, 1) := by decide +kernel
theorem dX5_readyByte_21 : decode cX5_readyByte 21 = .ok (.bipush 24, 2) := by decide +kernel
theorem dX5_readyByte_23 : decode cX5_readyByte 23 = .ok (.bipush 8, 2) := by decide +kernel
theorem dX5_readyByte_25 : decode cX5_readyByte 25 = .ok (.iload_n 1, 1) := by decide +kernel
theorem dX5_readyByte_26 : decode cX5_readyByte 26 = .ok (.iconst 3, 1) := by decide +kernel
theorem dX5_readyByte_27 : decode cX5_readyByte 27 = .ok (.iand, 1) := by decide +kernel
theorem dX5_readyByte_28 : decode cX5_readyByte 28 = .ok (.imul, 1) := by decide +kernel
theorem dX5_readyByte_29 : decode cX5_readyByte 29 = .ok (.isub, 1) := by decide +kernel
theorem dX5_readyByte_30 : decode cX5_readyByte 30 = .ok (.iushr, 1) := by decide +kernel
theorem dX5_readyByte_31 : decode cX5_readyByte 31 = .ok (.i2b, 1) := by decide +kernel
theorem dX5_readyByte_32 : decode cX5_readyByte 32 = .ok (.ireturn, 1) := by decide +kernel
theorem dX6_init_0 : decode cX6_init 0 = .ok (.aload_n 0, 1) := by decide +kernel
theorem dX6_init_1 : decode cX6_init 1 = .ok (.invokespecial 3, 3) := by decide +kernel
theorem dX6_init_4 : decode cX6_init 4 = .ok (.aload_n 0, 1) := by decide +kernel
theorem dX6_init_5 : decode cX6_init 5 = .ok (.bipush 120, 2) := by decide +kernel
theorem dX6_init_7 : decode cX6_init 7 = .ok (.anewarray 11, 3) := by decide +kernel
theorem dX6_init_10 : decode cX6_init 10 = .ok (.putfield 13, 3) := by decide +kernel
theorem dX6_init_13 : decode cX6_init 13 = .ok (.aload_n 0, 1) := by decide +kernel
theorem dX6_init_14 : decode cX6_init 14 = .ok (.iconst 0, 1) := by decide +kernel
theorem dX6_init_15 : decode cX6_init 15 = .ok (.putfield 17, 3) := by decide +kernel
theorem dX6_init_18 : decode cX6_init 18 = .ok (.return_, 1) := by decide +kernel
theorem dX6_size_0 : decode cX6_size 0 = .ok (.aload_n 0, 1) := by decide +kernel
theorem dX6_size_1 : decode cX6_size 1 = .ok (.getfield 17, 3) := by decide +kernel
theorem dX6_size_4 : decode cX6_size 4 = .ok (.ireturn, 1) := by decide +kernel
theorem dX6_get_0 : decode cX6_get 0 = .ok (.iload_n 1, 1) := by decide +kernel
theorem dX6_get_1 : decode cX6_get 1 = .ok (.ifCond .lt 11, 3) := by decide +kernel
theorem dX6_get_4 : decode cX6_get 4 = .ok (.iload_n 1, 1) := by decide +kernel
theorem dX6_get_5 : decode cX6_get 5 = .ok (.aload_n 0, 1) := by decide +kernel
theorem dX6_get_6 : decode cX6_get 6 = .ok (.getfield 17, 3) := by decide +kernel
theorem dX6_get_9 : decode cX6_get 9 = .ok (.if_icmp .lt 7, 3) := by decide +kernel
theorem dX6_get_12 : decode cX6_get 12 = .ok (.aconst_null, 1) := by decide +kernel
theorem dX6_get_13 : decode cX6_get 13 = .ok (.goto 9, 3) := by decide +kernel
theorem dX6_get_16 : decode cX6_get 16 = .ok (.aload_n 0, 1) := by decide +kernel
theorem dX6_get_17 : decode cX6_get 17 = .ok (.getfield 13, 3) := by decide +kernel
theorem dX6_get_20 : decode cX6_get 20 = .ok (.iload_n 1, 1) := by decide +kernel
theorem dX6_get_21 : decode cX6_get 21 = .ok (.aaload, 1) := by decide +kernel
theorem dX6_get_22 : decode cX6_get 22 = .ok (.areturn, 1) := by decide +kernel
set_option maxRecDepth 20000 in
theorem ggX6_find_X6_placeOf : GoodIn wsX6_find wsX6_placeOf := goodIn_r _ [5, 6, 7, 8, 9, 10, 4, 11, 12, 13, 14, 15, 16, 21, 22, 23, 24, 25, 26, 27] (by decide +kernel) (by decide +kernel)
set_option maxRecDepth 20000 in
theorem gX6_find_X6_placeOf : GoodIn wsX6_find (wsV RX6 21 RX6 yX6_placeOf wsX6_placeOf) := goodIn_app (goodIn_of _ (by decide +kernel)) ggX6_find_X6_placeOf
set_option maxRecDepth 20000 in
theorem ggX6_find_X6_isAt : GoodIn wsX6_find wsX6_isAt := goodIn_r _ [20, 7, 8, 9, 10, 4, 11, 6, 12, 13, 14, 15, 16, 23, 24, 25, 26, 27, 21, 22] (by decide +kernel) (by decide +kernel)
set_option maxRecDepth 20000 in
theorem gX6_find_X6_isAt : GoodIn wsX6_find (wsV RX6 25 RX6 yX6_isAt wsX6_isAt) := goodIn_app (goodIn_of _ (by decide +kernel)) ggX6_find_X6_isAt
theorem dX6_find_0 : decode cX6_find 0 = .ok (.aload_n 0, 1) := by decide +kernel
theorem dX6_find_1 : decode cX6_find 1 = .ok (.aload_n 1, 1) := by decide +kernel
theorem dX6_find_2 : decode cX6_find 2 = .ok (.invokevirtual 21, 3) := by decide +kernel
theorem dX6_find_5 : decode cX6_find 5 = .ok (.istore_n 2, 1) := by decide +kernel
theorem dX6_find_6 : decode cX6_find 6 = .ok (.aload_n 0, 1) := by decide +kernel
theorem dX6_find_7 : decode cX6_find 7 = .ok (.iload_n 2, 1) := by decide +kernel
theorem dX6_find_8 : decode cX6_find 8 = .ok (.aload_n 1, 1) := by decide +kernel
theorem dX6_find_9 : decode cX6_find 9 = .ok (.invokevirtual 25, 3) := by decide +kernel
theorem dX6_find_12 : decode cX6_find 12 = .ok (.ifCond .eq 7, 3) := by decide +kernel
theorem dX6_find_15 : decode cX6_find 15 = .ok (.iload_n 2, 1) := by decide +kernel
theorem dX6_find_16 : decode cX6_find 16 = .ok (.goto 4, 3) := by decide +kernel
theorem dX6_find_19 : decode cX6_find 19 = .ok (.iconst (-1), 1) := by decide +kernel
theorem dX6_find_20 : decode cX6_find 20 = .ok (.ireturn, 1) := by decide +kernel
set_option maxRecDepth 20000 in
theorem ggX6_isAt_X6_get : GoodIn wsX6_isAt wsX6_get := goodIn_r _ [6, 7, 8, 18, 19] (by decide +kernel) (by decide +kernel)
set_option maxRecDepth 20000 in
theorem gX6_isAt_X6_get : GoodIn wsX6_isAt (wsV RX6 29 RX6 yX6_get wsX6_get) := goodIn_app (goodIn_of _ (by decide +kernel)) ggX6_isAt_X6_get
set_option maxRecDepth 20000 in
theorem ggX6_isAt_X3_compare : GoodIn wsX6_isAt wsX3_compare := goodIn_r _ [12] (by decide +kernel) (by decide +kernel)
set_option maxRecDepth 20000 in
theorem gX6_isAt_X3_compare : GoodIn wsX6_isAt (va_wsS RX6 37 yX3_compare wsX3_compare) := goodIn_app (goodIn_of _ (by decide +kernel)) ggX6_isAt_X3_compare
theorem dX6_isAt_0 : decode cX6_isAt 0 = .ok (.aload_n 0, 1) := by decide +kernel
theorem dX6_isAt_1 : decode cX6_isAt 1 = .ok (.iload_n 1, 1) := by decide +kernel
theorem dX6_isAt_2 : decode cX6_isAt 2 = .ok (.invokevirtual 29, 3) := by decide +kernel
theorem dX6_isAt_5 : decode cX6_isAt 5 = .ok (.astore_n 3, 1) := by decide +kernel
theorem dX6_isAt_6 : decode cX6_isAt 6 = .ok (.aload_n 3, 1) := by decide +kernel
theorem dX6_isAt_7 : decode cX6_isAt 7 = .ok (.ifnull 18, 3) := by decide +kernel
theorem dX6_isAt_10 : decode cX6_isAt 10 = .ok (.aload_n 3, 1) := by decide +kernel
theorem dX6_isAt_11 : decode cX6_isAt 11 = .ok (.getfield 33, 3) := by decide +kernel
theorem dX6_isAt_14 : decode cX6_isAt 14 = .ok (.aload_n 2, 1) := by decide +kernel
theorem dX6_isAt_15 : decode cX6_isAt 15 = .ok (.invokestatic 37, 3) := by decide +kernel
theorem dX6_isAt_18 : decode cX6_isAt 18 = .ok (.ifCond .ne 7, 3) := by decide +kernel
theorem dX6_isAt_21 : decode cX6_isAt 21 = .ok (.iconst 1, 1) := by decide +kernel
theorem dX6_isAt_22 : decode cX6_isAt 22 = .ok (.goto 4, 3) := by decide +kernel
theorem dX6_isAt_25 : decode cX6_isAt 25 = .ok (.iconst 0, 1) := by decide +kernel
theorem dX6_isAt_26 : decode cX6_isAt 26 = .ok (.ireturn, 1) := by decide +kernel
set_option maxRecDepth 20000 in
theorem ggX6_placeOf_X6_get : GoodIn wsX6_placeOf wsX6_get := goodIn_r _ [7, 1, 8, 13, 14] (by decide +kernel) (by decide +kernel)
set_option maxRecDepth 20000 in
theorem gX6_placeOf_X6_get : GoodIn wsX6_placeOf (wsV RX6 29 RX6 yX6_get wsX6_get) := goodIn_app (goodIn_of _ (by decide +kernel)) ggX6_placeOf_X6_get
set_option maxRecDepth 20000 in
theorem ggX6_placeOf_X3_compare : GoodIn wsX6_placeOf wsX3_compare := goodIn_r _ [12] (by decide +kernel) (by decide +kernel)
set_option maxRecDepth 20000 in
theorem gX6_placeOf_X3_compare : GoodIn wsX6_placeOf (va_wsS RX6 37 yX3_compare wsX3_compare) := goodIn_app (goodIn_of _ (by decide +kernel)) ggX6_placeOf_X3_compare
theorem dX6_placeOf_0 : decode cX6_placeOf 0 = .ok (.iconst 0, 1) := by decide +kernel
theorem dX6_placeOf_1 : decode cX6_placeOf 1 = .ok (.istore_n 2, 1) := by decide +kernel
theorem dX6_placeOf_2 : decode cX6_placeOf 2 = .ok (.aload_n 0, 1) := by decide +kernel
theorem dX6_placeOf_3 : decode cX6_placeOf 3 = .ok (.getfield 17, 3) := by decide +kernel
theorem dX6_placeOf_6 : decode cX6_placeOf 6 = .ok (.istore_n 3, 1) := by decide +kernel
theorem dX6_placeOf_7 : decode cX6_placeOf 7 = .ok (.iconst 0, 1) := by decide +kernel
theorem dX6_placeOf_8 : decode cX6_placeOf 8 = .ok (.istore 4, 2) := by decide +kernel
theorem dX6_placeOf_10 : decode cX6_placeOf 10 = .ok (.iload 4, 2) := by decide +kernel
theorem dX6_placeOf_12 : decode cX6_placeOf 12 = .ok (.aload_n 0, 1) := by decide +kernel
theorem dX6_placeOf_13 : decode cX6_placeOf 13 = .ok (.getfield 17, 3) := by decide +kernel
theorem dX6_placeOf_16 : decode cX6_placeOf 16 = .ok (.if_icmp .ge 57, 3) := by decide +kernel
theorem dX6_placeOf_19 : decode cX6_placeOf 19 = .ok (.iload_n 2, 1) := by decide +kernel
theorem dX6_placeOf_20 : decode cX6_placeOf 20 = .ok (.iload_n 3, 1) := by decide +kernel
theorem dX6_placeOf_21 : decode cX6_placeOf 21 = .ok (.if_icmp .ge 52, 3) := by decide +kernel
theorem dX6_placeOf_24 : decode cX6_placeOf 24 = .ok (.iload_n 2, 1) := by decide +kernel
theorem dX6_placeOf_25 : decode cX6_placeOf 25 = .ok (.iload_n 3, 1) := by decide +kernel
theorem dX6_placeOf_26 : decode cX6_placeOf 26 = .ok (.iadd, 1) := by decide +kernel
theorem dX6_placeOf_27 : decode cX6_placeOf 27 = .ok (.iconst 1, 1) := by decide +kernel
theorem dX6_placeOf_28 : decode cX6_placeOf 28 = .ok (.iushr, 1) := by decide +kernel
theorem dX6_placeOf_29 : decode cX6_placeOf 29 = .ok (.istore 5, 2) := by decide +kernel
theorem dX6_placeOf_31 : decode cX6_placeOf 31 = .ok (.aload_n 0, 1) := by decide +kernel
theorem dX6_placeOf_32 : decode cX6_placeOf 32 = .ok (.iload 5, 2) := by decide +kernel
theorem dX6_placeOf_34 : decode cX6_placeOf 34 = .ok (.invokevirtual 29, 3) := by decide +kernel
theorem dX6_placeOf_37 : decode cX6_placeOf 37 = .ok (.astore 6, 2) := by decide +kernel
theorem dX6_placeOf_39 : decode cX6_placeOf 39 = .ok (.aload 6, 2) := by decide +kernel
theorem dX6_placeOf_41 : decode cX6_placeOf 41 = .ok (.ifnull 23, 3) := by decide +kernel
theorem dX6_placeOf_44 : decode cX6_placeOf 44 = .ok (.aload 6, 2) := by decide +kernel
theorem dX6_placeOf_46 : decode cX6_placeOf 46 = .ok (.getfield 33, 3) := by decide +kernel
theorem dX6_placeOf_49 : decode cX6_placeOf 49 = .ok (.aload_n 1, 1) := by decide +kernel
theorem dX6_placeOf_50 : decode cX6_placeOf 50 = .ok (.invokestatic 37, 3) := by decide +kernel
theorem dX6_placeOf_53 : decode cX6_placeOf 53 = .ok (.ifCond .ge 11, 3) := by decide +kernel
theorem dX6_placeOf_56 : decode cX6_placeOf 56 = .ok (.iload 5, 2) := by decide +kernel
theorem dX6_placeOf_58 : decode cX6_placeOf 58 = .ok (.iconst 1, 1) := by decide +kernel
theorem dX6_placeOf_59 : decode cX6_placeOf 59 = .ok (.iadd, 1) := by decide +kernel
theorem dX6_placeOf_60 : decode cX6_placeOf 60 = .ok (.istore_n 2, 1) := by decide +kernel
theorem dX6_placeOf_61 : decode cX6_placeOf 61 = .ok (.goto 6, 3) := by decide +kernel
theorem dX6_placeOf_64 : decode cX6_placeOf 64 = .ok (.iload 5, 2) := by decide +kernel
theorem dX6_placeOf_66 : decode cX6_placeOf 66 = .ok (.istore_n 3, 1) := by decide +kernel
theorem dX6_placeOf_67 : decode cX6_placeOf 67 = .ok (.iinc 4 1, 3) := by decide +kernel
theorem dX6_placeOf_70 : decode cX6_placeOf 70 = .ok (.goto (-60), 3) := by decide +kernel
theorem dX6_placeOf_73 : decode cX6_placeOf 73 = .ok (.iload_n 2, 1) := by decide +kernel
theorem dX6_placeOf_74 : decode cX6_placeOf 74 = .ok (.ireturn, 1) := by decide +kernel
theorem dX6_replace_0 : decode cX6_replace 0 = .ok (.iload_n 1, 1) := by decide +kernel
theorem dX6_replace_1 : decode cX6_replace 1 = .ok (.ifCond .lt 18, 3) := by decide +kernel
theorem dX6_replace_4 : decode cX6_replace 4 = .ok (.iload_n 1, 1) := by decide +kernel
theorem dX6_replace_5 : decode cX6_replace 5 = .ok (.aload_n 0, 1) := by decide +kernel
theorem dX6_replace_6 : decode cX6_replace 6 = .ok (.getfield 17, 3) := by decide +kernel
theorem dX6_replace_9 : decode cX6_replace 9 = .ok (.if_icmp .ge 10, 3) := by decide +kernel
theorem dX6_replace_12 : decode cX6_replace 12 = .ok (.aload_n 0, 1) := by decide +kernel
theorem dX6_replace_13 : decode cX6_replace 13 = .ok (.getfield 13, 3) := by decide +kernel
theorem dX6_replace_16 : decode cX6_replace 16 = .ok (.iload_n 1, 1) := by decide +kernel
theorem dX6_replace_17 : decode cX6_replace 17 = .ok (.aload_n 2, 1) := by decide +kernel
theorem dX6_replace_18 : decode cX6_replace 18 = .ok (.aastore, 1) := by decide +kernel
theorem dX6_replace_19 : decode cX6_replace 19 = .ok (.return_, 1) := by decide +kernel
set_option maxRecDepth 20000 in
theorem ggX6_put_X6_placeOf : GoodIn wsX6_put wsX6_placeOf := goodIn_r _ [6, 7, 1, 8, 9, 10, 5, 11, 12, 13, 14, 15, 16, 34, 35, 29, 30, 31, 32, 33] (by decide +kernel) (by decide +kernel)
set_option maxRecDepth 20000 in
theorem gX6_put_X6_placeOf : GoodIn wsX6_put (wsV RX6 21 RX6 yX6_placeOf wsX6_placeOf) := goodIn_app (goodIn_of _ (by decide +kernel)) ggX6_put_X6_placeOf
set_option maxRecDepth 20000 in
theorem ggX6_put_X6_isAt : GoodIn wsX6_put wsX6_isAt := goodIn_r _ [20, 1, 8, 9, 10, 5, 11, 7, 12, 13, 14, 15, 16, 29, 30, 31, 32, 33, 34, 35] (by decide +kernel) (by decide +kernel)
set_option maxRecDepth 20000 in
theorem gX6_put_X6_isAt : GoodIn wsX6_put (wsV RX6 25 RX6 yX6_isAt wsX6_isAt) := goodIn_app (goodIn_of _ (by decide +kernel)) ggX6_put_X6_isAt
set_option maxRecDepth 20000 in
theorem ggX6_put_X6_replace : GoodIn wsX6_put wsX6_replace := goodIn_r _ [24, 7, 12, 34, 35] (by decide +kernel) (by decide +kernel)
set_option maxRecDepth 20000 in
theorem gX6_put_X6_replace : GoodIn wsX6_put (wsV RX6 43 RX6 yX6_replace wsX6_replace) := goodIn_app (goodIn_of _ (by decide +kernel)) ggX6_put_X6_replace
set_option maxRecDepth 20000 in
theorem ggX6_put_X6_insert : GoodIn wsX6_put wsX6_insert := goodIn_r _ [28, 7, 12, 34, 35] (by decide +kernel) (by decide +kernel)
set_option maxRecDepth 20000 in
theorem gX6_put_X6_insert : GoodIn wsX6_put (wsV RX6 47 RX6 yX6_insert wsX6_insert) := goodIn_app (goodIn_of _ (by decide +kernel)) ggX6_put_X6_insert
theorem dX6_put_0 : decode cX6_put 0 = .ok (.aload_n 0, 1) := by decide +kernel
theorem dX6_put_1 : decode cX6_put 1 = .ok (.aload_n 1, 1) := by decide +kernel
theorem dX6_put_2 : decode cX6_put 2 = .ok (.getfield 33, 3) := by decide +kernel
theorem dX6_put_5 : decode cX6_put 5 = .ok (.invokevirtual 21, 3) := by decide +kernel
theorem dX6_put_8 : decode cX6_put 8 = .ok (.istore_n 2, 1) := by decide +kernel
theorem dX6_put_9 : decode cX6_put 9 = .ok (.aload_n 0, 1) := by decide +kernel
theorem dX6_put_10 : decode cX6_put 10 = .ok (.iload_n 2, 1) := by decide +kernel
theorem dX6_put_11 : decode cX6_put 11 = .ok (.aload_n 1, 1) := by decide +kernel
theorem dX6_put_12 : decode cX6_put 12 = .ok (.getfield 33, 3) := by decide +kernel
theorem dX6_put_15 : decode cX6_put 15 = .ok (.invokevirtual 25, 3) := by decide +kernel
theorem dX6_put_18 : decode cX6_put 18 = .ok (.ifCond .eq 12, 3) := by decide +kernel
theorem dX6_put_21 : decode cX6_put 21 = .ok (.aload_n 0, 1) := by decide +kernel
theorem dX6_put_22 : decode cX6_put 22 = .ok (.iload_n 2, 1) := by decide +kernel
theorem dX6_put_23 : decode cX6_put 23 = .ok (.aload_n 1, 1) := by decide +kernel
theorem dX6_put_24 : decode cX6_put 24 = .ok (.invokevirtual 43, 3) := by decide +kernel
theorem dX6_put_27 : decode cX6_put 27 = .ok (.goto 9, 3) := by decide +kernel
theorem dX6_put_30 : decode cX6_put 30 = .ok (.aload_n 0, 1) := by decide +kernel
theorem dX6_put_31 : decode cX6_put 31 = .ok (.iload_n 2, 1) := by decide +kernel
theorem dX6_put_32 : decode cX6_put 32 = .ok (.aload_n 1, 1) := by decide +kernel
theorem dX6_put_33 : decode cX6_put 33 = .ok (.invokevirtual 47, 3) := by decide +kernel
theorem dX6_put_36 : decode cX6_put 36 = .ok (.return_, 1) := by decide +kernel
theorem dX6_insert_0 : decode cX6_insert 0 = .ok (.iload_n 1, 1) := by decide +kernel
theorem dX6_insert_1 : decode cX6_insert 1 = .ok (.ifCond .lt 20, 3) := by decide +kernel
theorem dX6_insert_4 : decode cX6_insert 4 = .ok (.iload_n 1, 1) := by decide +kernel
theorem dX6_insert_5 : decode cX6_insert 5 = .ok (.aload_n 0, 1) := by decide +kernel
theorem dX6_insert_6 : decode cX6_insert 6 = .ok (.getfield 17, 3) := by decide +kernel
theorem dX6_insert_9 : decode cX6_insert 9 = .ok (.if_icmp .gt 12, 3) := by decide +kernel
theorem dX6_insert_12 : decode cX6_insert 12 = .ok (.aload_n 0, 1) := by decide +kernel
theorem dX6_insert_13 : decode cX6_insert 13 = .ok (.getfield 17, 3) := by decide +kernel
theorem dX6_insert_16 : decode cX6_insert 16 = .ok (.bipush 120, 2) := by decide +kernel
theorem dX6_insert_18 : decode cX6_insert 18 = .ok (.if_icmp .lt 4, 3) := by decide +kernel
theorem dX6_insert_21 : decode cX6_insert 21 = .ok (.return_, 1) := by decide +kernel
theorem dX6_insert_22 : decode cX6_insert 22 = .ok (.aload_n 0, 1) := by decide +kernel
theorem dX6_insert_23 : decode cX6_insert 23 = .ok (.getfield 17, 3) := by decide +kernel
theorem dX6_insert_26 : decode cX6_insert 26 = .ok (.istore_n 3, 1) := by decide +kernel
theorem dX6_insert_27 : decode cX6_insert 27 = .ok (.iload_n 3, 1) := by decide +kernel
theorem dX6_insert_28 : decode cX6_insert 28 = .ok (.iload_n 1, 1) := by decide +kernel
theorem dX6_insert_29 : decode cX6_insert 29 = .ok (.if_icmp .le 23, 3) := by decide +kernel
theorem dX6_insert_32 : decode cX6_insert 32 = .ok (.aload_n 0, 1) := by decide +kernel
theorem dX6_insert_33 : decode cX6_insert 33 = .ok (.getfield 13, 3) := by decide +kernel
theorem dX6_insert_36 : decode cX6_insert 36 = .ok (.iload_n 3, 1) := by decide +kernel
theorem dX6_insert_37 : decode cX6_insert 37 = .ok (.aload_n 0, 1) := by decide +kernel
theorem dX6_insert_38 : decode cX6_insert 38 = .ok (.getfield 13, 3) := by decide +kernel
theorem dX6_insert_41 : decode cX6_insert 41 = .ok (.iload_n 3, 1) := by decide +kernel
theorem dX6_insert_42 : decode cX6_insert 42 = .ok (.iconst 1, 1) := by decide +kernel
theorem dX6_insert_43 : decode cX6_insert 43 = .ok (.isub, 1) := by decide +kernel
theorem dX6_insert_44 : decode cX6_insert 44 = .ok (.aaload, 1) := by decide +kernel
theorem dX6_insert_45 : decode cX6_insert 45 = .ok (.aastore, 1) := by decide +kernel
theorem dX6_insert_46 : decode cX6_insert 46 = .ok (.iinc 3 (-1), 3) := by decide +kernel
theorem dX6_insert_49 : decode cX6_insert 49 = .ok (.goto (-22), 3) := by decide +kernel
theorem dX6_insert_52 : decode cX6_insert 52 = .ok (.aload_n 0, 1) := by decide +kernel
theorem dX6_insert_53 : decode cX6_insert 53 = .ok (.getfield 13, 3) := by decide +kernel
theorem dX6_insert_56 : decode cX6_insert 56 = .ok (.iload_n 1, 1) := by decide +kernel
theorem dX6_insert_57 : decode cX6_insert 57 = .ok (.aload_n 2, 1) := by decide +kernel
theorem dX6_insert_58 : decode cX6_insert 58 = .ok (.aastore, 1) := by decide +kernel
theorem dX6_insert_59 : decode cX6_insert 59 = .ok (.aload_n 0, 1) := by decide +kernel
theorem dX6_insert_60 : decode cX6_insert 60 = .ok (.dup, 1) := by decide +kernel
theorem dX6_insert_61 : decode cX6_insert 61 = .ok (.getfield 17, 3) := by decide +kernel
theorem dX6_insert_64 : decode cX6_insert 64 = .ok (.iconst 1, 1) := by decide +kernel
theorem dX6_insert_65 : decode cX6_insert 65 = .ok (.iadd, 1) := by decide +kernel
theorem dX6_insert_66 : decode cX6_insert 66 = .ok (.putfield 17, 3) := by decide +kernel
theorem dX6_insert_69 : decode cX6_insert 69 = .ok (.return_, 1) := by decide +kernel
theorem dX6_drop_0 : decode cX6_drop 0 = .ok (.iload_n 1, 1) := by decide +kernel
theorem dX6_drop_1 : decode cX6_drop 1 = .ok (.ifCond .lt 17, 3) := by decide +kernel
theorem dX6_drop_4 : decode cX6_drop 4 = .ok (.iload_n 2, 1) := by decide +kernel
theorem dX6_drop_5 : decode cX6_drop 5 = .ok (.ifCond .lt 13, 3) := by decide +kernel
theorem dX6_drop_8 : decode cX6_drop 8 = .ok (.iload_n 2, 1) := by decide +kernel
theorem dX6_drop_9 : decode cX6_drop 9 = .ok (.aload_n 0, 1) := by decide +kernel
theorem dX6_drop_10 : decode cX6_drop 10 = .ok (.getfield 17, 3) := by decide +kernel
theorem dX6_drop_13 : decode cX6_drop 13 = .ok (.iload_n 1, 1) := by decide +kernel
theorem dX6_drop_14 : decode cX6_drop 14 = .ok (.isub, 1) := by decide +kernel
theorem dX6_drop_15 : decode cX6_drop 15 = .ok (.if_icmp .le 4, 3) := by decide +kernel
theorem dX6_drop_18 : decode cX6_drop 18 = .ok (.return_, 1) := by decide +kernel
theorem dX6_drop_19 : decode cX6_drop 19 = .ok (.iload_n 1, 1) := by decide +kernel
theorem dX6_drop_20 : decode cX6_drop 20 = .ok (.iload_n 2, 1) := by decide +kernel
theorem dX6_drop_21 : decode cX6_drop 21 = .ok (.iadd, 1) := by decide +kernel
theorem dX6_drop_22 : decode cX6_drop 22 = .ok (.istore_n 3, 1) := by decide +kernel
theorem dX6_drop_23 : decode cX6_drop 23 = .ok (.iload_n 3, 1) := by decide +kernel
theorem dX6_drop_24 : decode cX6_drop 24 = .ok (.aload_n 0, 1) := by decide +kernel
theorem dX6_drop_25 : decode cX6_drop 25 = .ok (.getfield 17, 3) := by decide +kernel
theorem dX6_drop_28 : decode cX6_drop 28 = .ok (.if_icmp .ge 23, 3) := by decide +kernel
theorem dX6_drop_31 : decode cX6_drop 31 = .ok (.aload_n 0, 1) := by decide +kernel
theorem dX6_drop_32 : decode cX6_drop 32 = .ok (.getfield 13, 3) := by decide +kernel
theorem dX6_drop_35 : decode cX6_drop 35 = .ok (.iload_n 3, 1) := by decide +kernel
theorem dX6_drop_36 : decode cX6_drop 36 = .ok (.iload_n 2, 1) := by decide +kernel
theorem dX6_drop_37 : decode cX6_drop 37 = .ok (.isub, 1) := by decide +kernel
theorem dX6_drop_38 : decode cX6_drop 38 = .ok (.aload_n 0, 1) := by decide +kernel
theorem dX6_drop_39 : decode cX6_drop 39 = .ok (.getfield 13, 3) := by decide +kernel
theorem dX6_drop_42 : decode cX6_drop 42 = .ok (.iload_n 3, 1) := by decide +kernel
theorem dX6_drop_43 : decode cX6_drop 43 = .ok (.aaload, 1) := by decide +kernel
theorem dX6_drop_44 : decode cX6_drop 44 = .ok (.aastore, 1) := by decide +kernel
theorem dX6_drop_45 : decode cX6_drop 45 = .ok (.iinc 3 1, 3) := by decide +kernel
theorem dX6_drop_48 : decode cX6_drop 48 = .ok (.goto (-25), 3) := by decide +kernel
theorem dX6_drop_51 : decode cX6_drop 51 = .ok (.aload_n 0, 1) := by decide +kernel
theorem dX6_drop_52 : decode cX6_drop 52 = .ok (.dup, 1) := by decide +kernel
theorem dX6_drop_53 : decode cX6_drop 53 = .ok (.getfield 17, 3) := by decide +kernel
theorem dX6_drop_56 : decode cX6_drop 56 = .ok (.iload_n 2, 1) := by decide +kernel
theorem dX6_drop_57 : decode cX6_drop 57 = .ok (.isub, 1) := by decide +kernel
theorem dX6_drop_58 : decode cX6_drop 58 = .ok (.putfield 17, 3) := by decide +kernel
theorem dX6_drop_61 : decode cX6_drop 61 = .ok (.return_, 1) := by decide +kernel
set_option maxRecDepth 20000 in
theorem ggX6_countBelow_X6_get : GoodIn wsX6_countBelow wsX6_get := goodIn_r _ [8, 1, 2, 13, 14] (by decide +kernel) (by decide +kernel)
set_option maxRecDepth 20000 in
theorem gX6_countBelow_X6_get : GoodIn wsX6_countBelow (wsV RX6 29 RX6 yX6_get wsX6_get) := goodIn_app (goodIn_of _ (by decide +kernel)) ggX6_countBelow_X6_get
set_option maxRecDepth 20000 in
theorem ggX6_countBelow_X3_isBelow : GoodIn wsX6_countBelow wsX3_isBelow := goodIn_r _ [12] (by decide +kernel) (by decide +kernel)
set_option maxRecDepth 20000 in
theorem gX6_countBelow_X3_isBelow : GoodIn wsX6_countBelow (va_wsS RX6 50 yX3_isBelow wsX3_isBelow) := goodIn_app (goodIn_of _ (by decide +kernel)) ggX6_countBelow_X3_isBelow
theorem dX6_countBelow_0 : decode cX6_countBelow 0 = .ok (.aload_n 0, 1) := by decide +kernel
theorem dX6_countBelow_1 : decode cX6_countBelow 1 = .ok (.iload_n 1, 1) := by decide +kernel
theorem dX6_countBelow_2 : decode cX6_countBelow 2 = .ok (.invokevirtual 29, 3) := by decide +kernel
theorem dX6_countBelow_5 : decode cX6_countBelow 5 = .ok (.astore_n 2, 1) := by decide +kernel
theorem dX6_countBelow_6 : decode cX6_countBelow 6 = .ok (.aload_n 2, 1) := by decide +kernel
theorem dX6_countBelow_7 : decode cX6_countBelow 7 = .ok (.ifnonnull 5, 3) := by decide +kernel
theorem dX6_countBelow_10 : decode cX6_countBelow 10 = .ok (.iconst 0, 1) := by decide +kernel
theorem dX6_countBelow_11 : decode cX6_countBelow 11 = .ok (.ireturn, 1) := by decide +kernel
theorem dX6_countBelow_12 : decode cX6_countBelow 12 = .ok (.iconst 0, 1) := by decide +kernel
theorem dX6_countBelow_13 : decode cX6_countBelow 13 = .ok (.istore_n 3, 1) := by decide +kernel
theorem dX6_countBelow_14 : decode cX6_countBelow 14 = .ok (.iload_n 1, 1) := by decide +kernel
theorem dX6_countBelow_15 : decode cX6_countBelow 15 = .ok (.iconst 1, 1) := by decide +kernel
theorem dX6_countBelow_16 : decode cX6_countBelow 16 = .ok (.iadd, 1) := by decide +kernel
theorem dX6_countBelow_17 : decode cX6_countBelow 17 = .ok (.istore 4, 2) := by decide +kernel
theorem dX6_countBelow_19 : decode cX6_countBelow 19 = .ok (.iload 4, 2) := by decide +kernel
theorem dX6_countBelow_21 : decode cX6_countBelow 21 = .ok (.aload_n 0, 1) := by decide +kernel
theorem dX6_countBelow_22 : decode cX6_countBelow 22 = .ok (.getfield 17, 3) := by decide +kernel
theorem dX6_countBelow_25 : decode cX6_countBelow 25 = .ok (.if_icmp .ge 44, 3) := by decide +kernel
theorem dX6_countBelow_28 : decode cX6_countBelow 28 = .ok (.aload_n 0, 1) := by decide +kernel
theorem dX6_countBelow_29 : decode cX6_countBelow 29 = .ok (.getfield 13, 3) := by decide +kernel
theorem dX6_countBelow_32 : decode cX6_countBelow 32 = .ok (.iload 4, 2) := by decide +kernel
theorem dX6_countBelow_34 : decode cX6_countBelow 34 = .ok (.aaload, 1) := by decide +kernel
theorem dX6_countBelow_35 : decode cX6_countBelow 35 = .ok (.astore 5, 2) := by decide +kernel
theorem dX6_countBelow_37 : decode cX6_countBelow 37 = .ok (.aload 5, 2) := by decide +kernel
theorem dX6_countBelow_39 : decode cX6_countBelow 39 = .ok (.ifnull 30, 3) := by decide +kernel
theorem dX6_countBelow_42 : decode cX6_countBelow 42 = .ok (.aload 5, 2) := by decide +kernel
theorem dX6_countBelow_44 : decode cX6_countBelow 44 = .ok (.getfield 33, 3) := by decide +kernel
theorem dX6_countBelow_47 : decode cX6_countBelow 47 = .ok (.aload_n 2, 1) := by decide +kernel
theorem dX6_countBelow_48 : decode cX6_countBelow 48 = .ok (.getfield 33, 3) := by decide +kernel
theorem dX6_countBelow_51 : decode cX6_countBelow 51 = .ok (.invokestatic 50, 3) := by decide +kernel
theorem dX6_countBelow_54 : decode cX6_countBelow 54 = .ok (.ifCond .ne 6, 3) := by decide +kernel
theorem dX6_countBelow_57 : decode cX6_countBelow 57 = .ok (.goto 12, 3) := by decide +kernel
theorem dX6_countBelow_60 : decode cX6_countBelow 60 = .ok (.iinc 3 1, 3) := by decide +kernel
theorem dX6_countBelow_63 : decode cX6_countBelow 63 = .ok (.iinc 4 1, 3) := by decide +kernel
theorem dX6_countBelow_66 : decode cX6_countBelow 66 = .ok (.goto (-47), 3) := by decide +kernel
theorem dX6_countBelow_69 : decode cX6_countBelow 69 = .ok (.iload_n 3, 1) := by decide +kernel
theorem dX6_countBelow_70 : decode cX6_countBelow 70 = .ok (.ireturn, 1) := by decide +kernel
theorem dX6_contentBytes_0 : decode cX6_contentBytes 0 = .ok (.iconst 0, 1) := by decide +kernel
theorem dX6_contentBytes_1 : decode cX6_contentBytes 1 = .ok (.istore_n 1, 1) := by decide +kernel
theorem dX6_contentBytes_2 : decode cX6_contentBytes 2 = .ok (.iconst 0, 1) := by decide +kernel
theorem dX6_contentBytes_3 : decode cX6_contentBytes 3 = .ok (.istore_n 2, 1) := by decide +kernel
theorem dX6_contentBytes_4 : decode cX6_contentBytes 4 = .ok (.iload_n 2, 1) := by decide +kernel
theorem dX6_contentBytes_5 : decode cX6_contentBytes 5 = .ok (.aload_n 0, 1) := by decide +kernel
theorem dX6_contentBytes_6 : decode cX6_contentBytes 6 = .ok (.getfield 17, 3) := by decide +kernel
theorem dX6_contentBytes_9 : decode cX6_contentBytes 9 = .ok (.if_icmp .ge 28, 3) := by decide +kernel
theorem dX6_contentBytes_12 : decode cX6_contentBytes 12 = .ok (.aload_n 0, 1) := by decide +kernel
theorem dX6_contentBytes_13 : decode cX6_contentBytes 13 = .ok (.getfield 13, 3) := by decide +kernel
theorem dX6_contentBytes_16 : decode cX6_contentBytes 16 = .ok (.iload_n 2, 1) := by decide +kernel
theorem dX6_contentBytes_17 : decode cX6_contentBytes 17 = .ok (.aaload, 1) := by decide +kernel
theorem dX6_contentBytes_18 : decode cX6_contentBytes 18 = .ok (.astore_n 3, 1) := by decide +kernel
theorem dX6_contentBytes_19 : decode cX6_contentBytes 19 = .ok (.aload_n 3, 1) := by decide +kernel
theorem dX6_contentBytes_20 : decode cX6_contentBytes 20 = .ok (.ifnull 11, 3) := by decide +kernel
theorem dX6_contentBytes_23 : decode cX6_contentBytes 23 = .ok (.iload_n 1, 1) := by decide +kernel
theorem dX6_contentBytes_24 : decode cX6_contentBytes 24 = .ok (.aload_n 3, 1) := by decide +kernel
theorem dX6_contentBytes_25 : decode cX6_contentBytes 25 = .ok (.getfield 54, 3) := by decide +kernel
theorem dX6_contentBytes_28 : decode cX6_contentBytes 28 = .ok (.arraylength, 1) := by decide +kernel
theorem dX6_contentBytes_29 : decode cX6_contentBytes 29 = .ok (.iadd, 1) := by decide +kernel
theorem dX6_contentBytes_30 : decode cX6_contentBytes 30 = .ok (.istore_n 1, 1) := by decide +kernel
theorem dX6_contentBytes_31 : decode cX6_contentBytes 31 = .ok (.iinc 2 1, 3) := by decide +kernel
theorem dX6_contentBytes_34 : decode cX6_contentBytes 34 = .ok (.goto (-30), 3) := by decide +kernel
theorem dX6_contentBytes_37 : decode cX6_contentBytes 37 = .ok (.iload_n 1, 1) := by decide +kernel
theorem dX6_contentBytes_38 : decode cX6_contentBytes 38 = .ok (.ireturn, 1) := by decide +kernel
theorem dX6_copyFrom_0 : decode cX6_copyFrom 0 = .ok (.iconst 0, 1) := by decide +kernel
theorem dX6_copyFrom_1 : decode cX6_copyFrom 1 = .ok (.istore_n 2, 1) := by decide +kernel
theorem dX6_copyFrom_2 : decode cX6_copyFrom 2 = .ok (.iload_n 2, 1) := by decide +kernel
theorem dX6_copyFrom_3 : decode cX6_copyFrom 3 = .ok (.aload_n 1, 1) := by decide +kernel
theorem dX6_copyFrom_4 : decode cX6_copyFrom 4 = .ok (.getfield 17, 3) := by decide +kernel
theorem dX6_copyFrom_7 : decode cX6_copyFrom 7 = .ok (.if_icmp .ge 21, 3) := by decide +kernel
theorem dX6_copyFrom_10 : decode cX6_copyFrom 10 = .ok (.aload_n 0, 1) := by decide +kernel
theorem dX6_copyFrom_11 : decode cX6_copyFrom 11 = .ok (.getfield 13, 3) := by decide +kernel
theorem dX6_copyFrom_14 : decode cX6_copyFrom 14 = .ok (.iload_n 2, 1) := by decide +kernel
theorem dX6_copyFrom_15 : decode cX6_copyFrom 15 = .ok (.aload_n 1, 1) := by decide +kernel
theorem dX6_copyFrom_16 : decode cX6_copyFrom 16 = .ok (.getfield 13, 3) := by decide +kernel
theorem dX6_copyFrom_19 : decode cX6_copyFrom 19 = .ok (.iload_n 2, 1) := by decide +kernel
theorem dX6_copyFrom_20 : decode cX6_copyFrom 20 = .ok (.aaload, 1) := by decide +kernel
theorem dX6_copyFrom_21 : decode cX6_copyFrom 21 = .ok (.aastore, 1) := by decide +kernel
theorem dX6_copyFrom_22 : decode cX6_copyFrom 22 = .ok (.iinc 2 1, 3) := by decide +kernel
theorem dX6_copyFrom_25 : decode cX6_copyFrom 25 = .ok (.goto (-23), 3) := by decide +kernel
theorem dX6_copyFrom_28 : decode cX6_copyFrom 28 = .ok (.aload_n 0, 1) := by decide +kernel
theorem dX6_copyFrom_29 : decode cX6_copyFrom 29 = .ok (.aload_n 1, 1) := by decide +kernel
theorem dX6_copyFrom_30 : decode cX6_copyFrom 30 = .ok (.getfield 17, 3) := by decide +kernel
theorem dX6_copyFrom_33 : decode cX6_copyFrom 33 = .ok (.putfield 17, 3) := by decide +kernel
theorem dX6_copyFrom_36 : decode cX6_copyFrom 36 = .ok (.return_, 1) := by decide +kernel
set_option maxRecDepth 20000 in
theorem ggX7_init_X0_init : GoodIn wsX7_init wsX0_init := goodIn_r _ [11, 12, 2, 3, 13, 14, 15, 16, 17, 18, 19] (by decide +kernel) (by decide +kernel)
set_option maxRecDepth 20000 in
theorem gX7_init_X0_init_n9 : GoodIn wsX7_init (wsX0_init) := ggX7_init_X0_init
theorem dX7_init_0 : decode cX7_init 0 = .ok (.aload_n 0, 1) := by decide +kernel
theorem dX7_init_1 : decode cX7_init 1 = .ok (.invokespecial 1, 3) := by decide +kernel
theorem dX7_init_4 : decode cX7_init 4 = .ok (.aload_n 0, 1) := by decide +kernel
theorem dX7_init_5 : decode cX7_init 5 = .ok (.new 7, 3) := by decide +kernel
theorem dX7_init_8 : decode cX7_init 8 = .ok (.dup, 1) := by decide +kernel
theorem dX7_init_9 : decode cX7_init 9 = .ok (.invokespecial 9, 3) := by decide +kernel
theorem dX7_init_12 : decode cX7_init 12 = .ok (.putfield 10, 3) := by decide +kernel
theorem dX7_init_15 : decode cX7_init 15 = .ok (.aload_n 0, 1) := by decide +kernel
theorem dX7_init_16 : decode cX7_init 16 = .ok (.iconst 0, 1) := by decide +kernel
theorem dX7_init_17 : decode cX7_init 17 = .ok (.putfield 16, 3) := by decide +kernel
theorem dX7_init_20 : decode cX7_init 20 = .ok (.aload_n 0, 1) := by decide +kernel
theorem dX7_init_21 : decode cX7_init 21 = .ok (.iconst 0, 1) := by decide +kernel
theorem dX7_init_22 : decode cX7_init 22 = .ok (.putfield 20, 3) := by decide +kernel
theorem dX7_init_25 : decode cX7_init 25 = .ok (.return_, 1) := by decide +kernel
set_option maxRecDepth 20000 in
theorem ggX7_start_X0_find : GoodIn wsX7_start wsX0_find := goodIn_r _ [8, 9, 10, 11, 12, 13, 14, 15, 16, 17, 18, 19, 20, 21, 22, 7, 23, 24, 25, 26, 27, 28, 29, 30, 31, 32, 33, 34, 35, 36, 37, 38, 39, 40, 41, 42, 43, 44, 45, 46, 47, 51, 52, 53, 54, 55, 56, 57, 58, 59, 60] (by decide +kernel) (by decide +kernel)
set_option maxRecDepth 20000 in
theorem gX7_start_X0_find : GoodIn wsX7_start (wsV RX7 23 RX0 yX0_find wsX0_find) := goodIn_app (goodIn_of _ (by decide +kernel)) ggX7_start_X0_find
theorem dX7_start_0 : decode cX7_start 0 = .ok (.aload_n 0, 1) := by decide +kernel
theorem dX7_start_1 : decode cX7_start 1 = .ok (.getfield 10, 3) := by decide +kernel
theorem dX7_start_4 : decode cX7_start 4 = .ok (.aload_n 2, 1) := by decide +kernel
theorem dX7_start_5 : decode cX7_start 5 = .ok (.aload_n 3, 1) := by decide +kernel
theorem dX7_start_6 : decode cX7_start 6 = .ok (.invokevirtual 23, 3) := by decide +kernel
theorem dX7_start_9 : decode cX7_start 9 = .ok (.aload_n 0, 1) := by decide +kernel
theorem dX7_start_10 : decode cX7_start 10 = .ok (.iload_n 1, 1) := by decide +kernel
theorem dX7_start_11 : decode cX7_start 11 = .ok (.putfield 16, 3) := by decide +kernel
theorem dX7_start_14 : decode cX7_start 14 = .ok (.aload_n 0, 1) := by decide +kernel
theorem dX7_start_15 : decode cX7_start 15 = .ok (.iconst 0, 1) := by decide +kernel
theorem dX7_start_16 : decode cX7_start 16 = .ok (.putfield 20, 3) := by decide +kernel
theorem dX7_start_19 : decode cX7_start 19 = .ok (.return_, 1) := by decide +kernel
set_option maxRecDepth 20000 in
theorem ggX7_operations_X0_size : GoodIn wsX7_operations wsX0_size := goodIn_r _ [6, 7, 11, 12, 13] (by decide +kernel) (by decide +kernel)
set_option maxRecDepth 20000 in
theorem gX7_operations_X0_size : GoodIn wsX7_operations (wsV RX7 27 RX0 yX0_size wsX0_size) := goodIn_app (goodIn_of _ (by decide +kernel)) ggX7_operations_X0_size
theorem dX7_operations_0 : decode cX7_operations 0 = .ok (.iconst 3, 1) := by decide +kernel
theorem dX7_operations_1 : decode cX7_operations 1 = .ok (.iconst 2, 1) := by decide +kernel
theorem dX7_operations_2 : decode cX7_operations 2 = .ok (.aload_n 0, 1) := by decide +kernel
theorem dX7_operations_3 : decode cX7_operations 3 = .ok (.getfield 10, 3) := by decide +kernel
theorem dX7_operations_6 : decode cX7_operations 6 = .ok (.invokevirtual 27, 3) := by decide +kernel
theorem dX7_operations_9 : decode cX7_operations 9 = .ok (.imul, 1) := by decide +kernel
theorem dX7_operations_10 : decode cX7_operations 10 = .ok (.iadd, 1) := by decide +kernel
theorem dX7_operations_11 : decode cX7_operations 11 = .ok (.ireturn, 1) := by decide +kernel
set_option maxRecDepth 20000 in
theorem ggX7_increments_X0_size : GoodIn wsX7_increments wsX0_size := goodIn_r _ [11, 12, 16, 17, 18] (by decide +kernel) (by decide +kernel)
set_option maxRecDepth 20000 in
theorem gX7_increments_X0_size : GoodIn wsX7_increments (wsV RX7 27 RX0 yX0_size wsX0_size) := goodIn_app (goodIn_of _ (by decide +kernel)) ggX7_increments_X0_size
theorem dX7_increments_0 : decode cX7_increments 0 = .ok (.aload_n 0, 1) := by decide +kernel
theorem dX7_increments_1 : decode cX7_increments 1 = .ok (.getfield 10, 3) := by decide +kernel
theorem dX7_increments_4 : decode cX7_increments 4 = .ok (.invokevirtual 27, 3) := by decide +kernel
theorem dX7_increments_7 : decode cX7_increments 7 = .ok (.aload_n 0, 1) := by decide +kernel
theorem dX7_increments_8 : decode cX7_increments 8 = .ok (.getfield 20, 3) := by decide +kernel
theorem dX7_increments_11 : decode cX7_increments 11 = .ok (.iconst 2, 1) := by decide +kernel
theorem dX7_increments_12 : decode cX7_increments 12 = .ok (.idiv, 1) := by decide +kernel
theorem dX7_increments_13 : decode cX7_increments 13 = .ok (.invokestatic 31, 3) := by decide +kernel
theorem dX7_increments_16 : decode cX7_increments 16 = .ok (.ireturn, 1) := by decide +kernel
set_option maxRecDepth 20000 in
theorem ggX7_doNext_X7_isUpdate : GoodIn wsX7_doNext wsX7_isUpdate := goodIn_r _ [7, 2, 8, 9, 10, 11, 12, 13, 67, 68, 69, 70, 71, 72] (by decide +kernel) (by decide +kernel)
set_option maxRecDepth 20000 in
theorem gX7_doNext_X7_isUpdate : GoodIn wsX7_doNext (wsV RX7 37 RX7 yX7_isUpdate wsX7_isUpdate) := goodIn_app (goodIn_of _ (by decide +kernel)) ggX7_doNext_X7_isUpdate
set_option maxRecDepth 20000 in
theorem ggX7_doNext_X7_changeOf : GoodIn wsX7_doNext wsX7_changeOf := goodIn_r _ [16] (by decide +kernel) (by decide +kernel)
set_option maxRecDepth 20000 in
theorem gX7_doNext_X7_changeOf : GoodIn wsX7_doNext (va_wsS RX7 41 yX7_changeOf wsX7_changeOf) := goodIn_app (goodIn_of _ (by decide +kernel)) ggX7_doNext_X7_changeOf
set_option maxRecDepth 20000 in
theorem ggX7_doNext_X0_apply : GoodIn wsX7_doNext wsX0_apply := goodIn_r _ [20, 13, 21, 22, 23, 24, 11, 25, 26, 27, 28, 29, 30, 31, 32, 33, 34, 35, 36, 37, 38, 39, 40, 41, 42, 43, 44, 45, 46, 47, 48, 49, 50, 51, 52, 53, 54, 55, 56, 57, 58, 59, 60, 61, 62, 63, 64, 65, 66, 70, 71, 72, 73, 74, 75, 76, 77, 78, 79] (by decide +kernel) (by decide +kernel)
set_option maxRecDepth 20000 in
theorem gX7_doNext_X0_apply : GoodIn wsX7_doNext (wsV RX7 45 RX0 yX0_apply wsX0_apply) := goodIn_app (goodIn_of _ (by decide +kernel)) ggX7_doNext_X0_apply
theorem dX7_doNext_0 : decode cX7_doNext 0 = .ok (.aload_n 0, 1) := by decide +kernel
theorem dX7_doNext_1 : decode cX7_doNext 1 = .ok (.aload_n 0, 1) := by decide +kernel
theorem dX7_doNext_2 : decode cX7_doNext 2 = .ok (.getfield 20, 3) := by decide +kernel
theorem dX7_doNext_5 : decode cX7_doNext 5 = .ok (.invokevirtual 37, 3) := by decide +kernel
theorem dX7_doNext_8 : decode cX7_doNext 8 = .ok (.ifCond .eq 18, 3) := by decide +kernel
theorem dX7_doNext_11 : decode cX7_doNext 11 = .ok (.aload_n 0, 1) := by decide +kernel
theorem dX7_doNext_12 : decode cX7_doNext 12 = .ok (.getfield 10, 3) := by decide +kernel
theorem dX7_doNext_15 : decode cX7_doNext 15 = .ok (.aload_n 0, 1) := by decide +kernel
theorem dX7_doNext_16 : decode cX7_doNext 16 = .ok (.getfield 20, 3) := by decide +kernel
theorem dX7_doNext_19 : decode cX7_doNext 19 = .ok (.invokestatic 41, 3) := by decide +kernel
theorem dX7_doNext_22 : decode cX7_doNext 22 = .ok (.aload_n 1, 1) := by decide +kernel
theorem dX7_doNext_23 : decode cX7_doNext 23 = .ok (.invokevirtual 45, 3) := by decide +kernel
theorem dX7_doNext_26 : decode cX7_doNext 26 = .ok (.aload_n 0, 1) := by decide +kernel
theorem dX7_doNext_27 : decode cX7_doNext 27 = .ok (.dup, 1) := by decide +kernel
theorem dX7_doNext_28 : decode cX7_doNext 28 = .ok (.getfield 20, 3) := by decide +kernel
theorem dX7_doNext_31 : decode cX7_doNext 31 = .ok (.iconst 1, 1) := by decide +kernel
theorem dX7_doNext_32 : decode cX7_doNext 32 = .ok (.iadd, 1) := by decide +kernel
theorem dX7_doNext_33 : decode cX7_doNext 33 = .ok (.putfield 20, 3) := by decide +kernel
theorem dX7_doNext_36 : decode cX7_doNext 36 = .ok (.return_, 1) := by decide +kernel
set_option maxRecDepth 20000 in
theorem ggX7_takeBackLast_X7_isUpdate : GoodIn wsX7_takeBackLast wsX7_isUpdate := goodIn_r _ [7, 2, 8, 9, 10, 11, 12, 13, 67, 68, 69, 70, 71, 72] (by decide +kernel) (by decide +kernel)
set_option maxRecDepth 20000 in
theorem gX7_takeBackLast_X7_isUpdate : GoodIn wsX7_takeBackLast (wsV RX7 37 RX7 yX7_isUpdate wsX7_isUpdate) := goodIn_app (goodIn_of _ (by decide +kernel)) ggX7_takeBackLast_X7_isUpdate
set_option maxRecDepth 20000 in
theorem ggX7_takeBackLast_X7_changeOf : GoodIn wsX7_takeBackLast wsX7_changeOf := goodIn_r _ [16] (by decide +kernel) (by decide +kernel)
set_option maxRecDepth 20000 in
theorem gX7_takeBackLast_X7_changeOf : GoodIn wsX7_takeBackLast (va_wsS RX7 41 yX7_changeOf wsX7_changeOf) := goodIn_app (goodIn_of _ (by decide +kernel)) ggX7_takeBackLast_X7_changeOf
set_option maxRecDepth 20000 in
theorem ggX7_takeBackLast_X0_takeBack : GoodIn wsX7_takeBackLast wsX0_takeBack := goodIn_r _ [20, 13, 21, 22, 23, 24, 11, 25, 26, 27, 28, 29, 30, 31, 32, 33, 34, 35, 36, 37, 38, 39, 40, 41, 42, 43, 44, 45, 46, 47, 48, 49, 50, 51, 52, 53, 54, 55, 56, 57, 58, 59, 60, 61, 62, 63, 64, 65, 66, 70, 71, 72, 73, 74, 75, 76, 77, 78, 79] (by decide +kernel) (by decide +kernel)
set_option maxRecDepth 20000 in
theorem gX7_takeBackLast_X0_takeBack : GoodIn wsX7_takeBackLast (wsV RX7 49 RX0 yX0_takeBack wsX0_takeBack) := goodIn_app (goodIn_of _ (by decide +kernel)) ggX7_takeBackLast_X0_takeBack
theorem dX7_takeBackLast_0 : decode cX7_takeBackLast 0 = .ok (.aload_n 0, 1) := by decide +kernel
theorem dX7_takeBackLast_1 : decode cX7_takeBackLast 1 = .ok (.dup, 1) := by decide +kernel
theorem dX7_takeBackLast_2 : decode cX7_takeBackLast 2 = .ok (.getfield 20, 3) := by decide +kernel
theorem dX7_takeBackLast_5 : decode cX7_takeBackLast 5 = .ok (.iconst 1, 1) := by decide +kernel
theorem dX7_takeBackLast_6 : decode cX7_takeBackLast 6 = .ok (.isub, 1) := by decide +kernel
theorem dX7_takeBackLast_7 : decode cX7_takeBackLast 7 = .ok (.putfield 20, 3) := by decide +kernel
theorem dX7_takeBackLast_10 : decode cX7_takeBackLast 10 = .ok (.aload_n 0, 1) := by decide +kernel
theorem dX7_takeBackLast_11 : decode cX7_takeBackLast 11 = .ok (.aload_n 0, 1) := by decide +kernel
theorem dX7_takeBackLast_12 : decode cX7_takeBackLast 12 = .ok (.getfield 20, 3) := by decide +kernel
theorem dX7_takeBackLast_15 : decode cX7_takeBackLast 15 = .ok (.invokevirtual 37, 3) := by decide +kernel
theorem dX7_takeBackLast_18 : decode cX7_takeBackLast 18 = .ok (.ifCond .eq 18, 3) := by decide +kernel
theorem dX7_takeBackLast_21 : decode cX7_takeBackLast 21 = .ok (.aload_n 0, 1) := by decide +kernel
theorem dX7_takeBackLast_22 : decode cX7_takeBackLast 22 = .ok (.getfield 10, 3) := by decide +kernel
theorem dX7_takeBackLast_25 : decode cX7_takeBackLast 25 = .ok (.aload_n 0, 1) := by decide +kernel
theorem dX7_takeBackLast_26 : decode cX7_takeBackLast 26 = .ok (.getfield 20, 3) := by decide +kernel
theorem dX7_takeBackLast_29 : decode cX7_takeBackLast 29 = .ok (.invokestatic 41, 3) := by decide +kernel
theorem dX7_takeBackLast_32 : decode cX7_takeBackLast 32 = .ok (.aload_n 1, 1) := by decide +kernel
theorem dX7_takeBackLast_33 : decode cX7_takeBackLast 33 = .ok (.invokevirtual 49, 3) := by decide +kernel
theorem dX7_takeBackLast_36 : decode cX7_takeBackLast 36 = .ok (.return_, 1) := by decide +kernel
set_option maxRecDepth 20000 in
theorem ggX7_isUpdate_X0_size : GoodIn wsX7_isUpdate wsX0_size := goodIn_r _ [6, 7, 11, 12, 13] (by decide +kernel) (by decide +kernel)
set_option maxRecDepth 20000 in
theorem gX7_isUpdate_X0_size : GoodIn wsX7_isUpdate (wsV RX7 27 RX0 yX0_size wsX0_size) := goodIn_app (goodIn_of _ (by decide +kernel)) ggX7_isUpdate_X0_size
theorem dX7_isUpdate_0 : decode cX7_isUpdate 0 = .ok (.iload_n 1, 1) := by decide +kernel
theorem dX7_isUpdate_1 : decode cX7_isUpdate 1 = .ok (.iconst 2, 1) := by decide +kernel
theorem dX7_isUpdate_2 : decode cX7_isUpdate 2 = .ok (.if_icmp .lt 26, 3) := by decide +kernel
theorem dX7_isUpdate_5 : decode cX7_isUpdate 5 = .ok (.iload_n 1, 1) := by decide +kernel
theorem dX7_isUpdate_6 : decode cX7_isUpdate 6 = .ok (.iconst 2, 1) := by decide +kernel
theorem dX7_isUpdate_7 : decode cX7_isUpdate 7 = .ok (.aload_n 0, 1) := by decide +kernel
theorem dX7_isUpdate_8 : decode cX7_isUpdate 8 = .ok (.getfield 10, 3) := by decide +kernel
theorem dX7_isUpdate_11 : decode cX7_isUpdate 11 = .ok (.invokevirtual 27, 3) := by decide +kernel
theorem dX7_isUpdate_14 : decode cX7_isUpdate 14 = .ok (.imul, 1) := by decide +kernel
theorem dX7_isUpdate_15 : decode cX7_isUpdate 15 = .ok (.if_icmp .gt 13, 3) := by decide +kernel
theorem dX7_isUpdate_18 : decode cX7_isUpdate 18 = .ok (.iload_n 1, 1) := by decide +kernel
theorem dX7_isUpdate_19 : decode cX7_isUpdate 19 = .ok (.iconst 1, 1) := by decide +kernel
theorem dX7_isUpdate_20 : decode cX7_isUpdate 20 = .ok (.iand, 1) := by decide +kernel
theorem dX7_isUpdate_21 : decode cX7_isUpdate 21 = .ok (.ifCond .ne 7, 3) := by decide +kernel
theorem dX7_isUpdate_24 : decode cX7_isUpdate 24 = .ok (.iconst 1, 1) := by decide +kernel
theorem dX7_isUpdate_25 : decode cX7_isUpdate 25 = .ok (.goto 4, 3) := by decide +kernel
theorem dX7_isUpdate_28 : decode cX7_isUpdate 28 = .ok (.iconst 0, 1) := by decide +kernel
theorem dX7_isUpdate_29 : decode cX7_isUpdate 29 = .ok (.ireturn, 1) := by decide +kernel
theorem dX7_changeOf_0 : decode cX7_changeOf 0 = .ok (.iload_n 0, 1) := by decide +kernel
theorem dX7_changeOf_1 : decode cX7_changeOf 1 = .ok (.iconst 2, 1) := by decide +kernel
theorem dX7_changeOf_2 : decode cX7_changeOf 2 = .ok (.idiv, 1) := by decide +kernel
theorem dX7_changeOf_3 : decode cX7_changeOf 3 = .ok (.iconst 1, 1) := by decide +kernel
theorem dX7_changeOf_4 : decode cX7_changeOf 4 = .ok (.isub, 1) := by decide +kernel
theorem dX7_changeOf_5 : decode cX7_changeOf 5 = .ok (.ireturn, 1) := by decide +kernel
set_option maxRecDepth 20000 in
theorem ggX8_init_X5_init : GoodIn wsX8_init wsX5_init := goodIn_r _ [29, 30, 2, 3, 31, 32, 33, 34, 35, 62, 63, 64] (by decide +kernel) (by decide +kernel)
set_option maxRecDepth 20000 in
theorem gX8_init_X5_init_n9 : GoodIn wsX8_init (wsX5_init) := ggX8_init_X5_init
set_option maxRecDepth 20000 in
theorem ggX8_init_X6_init : GoodIn wsX8_init wsX6_init := goodIn_r _ [37, 38, 2, 3, 39, 40, 41, 74, 75] (by decide +kernel) (by decide +kernel)
set_option maxRecDepth 20000 in
theorem gX8_init_X6_init_n18 : GoodIn wsX8_init (wsX6_init) := ggX8_init_X6_init
set_option maxRecDepth 20000 in
theorem ggX8_init_X2_init : GoodIn wsX8_init wsX2_init := goodIn_r _ [43, 44, 2, 3, 45, 46, 47, 76, 77] (by decide +kernel) (by decide +kernel)
set_option maxRecDepth 20000 in
theorem gX8_init_X2_init_n31 : GoodIn wsX8_init (wsX2_init) := ggX8_init_X2_init
set_option maxRecDepth 20000 in
theorem ggX8_init_X7_init : GoodIn wsX8_init wsX7_init := goodIn_r _ [49, 50, 2, 3, 51, 23, 24, 52, 53, 54, 55, 56, 57, 58, 59, 60, 61, 81, 82, 83, 78, 79, 80] (by decide +kernel) (by decide +kernel)
set_option maxRecDepth 20000 in
theorem gX8_init_X7_init_n38 : GoodIn wsX8_init (wsX7_init) := ggX8_init_X7_init
set_option maxRecDepth 20000 in
theorem ggX8_init_X0_init : GoodIn wsX8_init wsX0_init := goodIn_r _ [56, 57, 2, 3, 58, 59, 60, 61, 81, 82, 83] (by decide +kernel) (by decide +kernel)
set_option maxRecDepth 20000 in
theorem gX8_init_X0_init_n45 : GoodIn wsX8_init (wsX0_init) := ggX8_init_X0_init
theorem dX8_init_0 : decode cX8_init 0 = .ok (.aload_n 0, 1) := by decide +kernel
theorem dX8_init_1 : decode cX8_init 1 = .ok (.invokespecial 1, 3) := by decide +kernel
theorem dX8_init_4 : decode cX8_init 4 = .ok (.aload_n 0, 1) := by decide +kernel
theorem dX8_init_5 : decode cX8_init 5 = .ok (.new 7, 3) := by decide +kernel
theorem dX8_init_8 : decode cX8_init 8 = .ok (.dup, 1) := by decide +kernel
theorem dX8_init_9 : decode cX8_init 9 = .ok (.invokespecial 9, 3) := by decide +kernel
theorem dX8_init_12 : decode cX8_init 12 = .ok (.putfield 10, 3) := by decide +kernel
theorem dX8_init_15 : decode cX8_init 15 = .ok (.aload_n 0, 1) := by decide +kernel
theorem dX8_init_16 : decode cX8_init 16 = .ok (.new 16, 3) := by decide +kernel
theorem dX8_init_19 : decode cX8_init 19 = .ok (.dup, 1) := by decide +kernel
theorem dX8_init_20 : decode cX8_init 20 = .ok (.invokespecial 18, 3) := by decide +kernel
theorem dX8_init_23 : decode cX8_init 23 = .ok (.putfield 19, 3) := by decide +kernel
theorem dX8_init_26 : decode cX8_init 26 = .ok (.aload_n 0, 1) := by decide +kernel
theorem dX8_init_27 : decode cX8_init 27 = .ok (.new 16, 3) := by decide +kernel
theorem dX8_init_30 : decode cX8_init 30 = .ok (.dup, 1) := by decide +kernel
theorem dX8_init_31 : decode cX8_init 31 = .ok (.invokespecial 18, 3) := by decide +kernel
theorem dX8_init_34 : decode cX8_init 34 = .ok (.putfield 23, 3) := by decide +kernel
theorem dX8_init_37 : decode cX8_init 37 = .ok (.aload_n 0, 1) := by decide +kernel
theorem dX8_init_38 : decode cX8_init 38 = .ok (.new 16, 3) := by decide +kernel
theorem dX8_init_41 : decode cX8_init 41 = .ok (.dup, 1) := by decide +kernel
theorem dX8_init_42 : decode cX8_init 42 = .ok (.invokespecial 18, 3) := by decide +kernel
theorem dX8_init_45 : decode cX8_init 45 = .ok (.putfield 26, 3) := by decide +kernel
theorem dX8_init_48 : decode cX8_init 48 = .ok (.aload_n 0, 1) := by decide +kernel
theorem dX8_init_49 : decode cX8_init 49 = .ok (.new 29, 3) := by decide +kernel
theorem dX8_init_52 : decode cX8_init 52 = .ok (.dup, 1) := by decide +kernel
theorem dX8_init_53 : decode cX8_init 53 = .ok (.invokespecial 31, 3) := by decide +kernel
theorem dX8_init_56 : decode cX8_init 56 = .ok (.putfield 32, 3) := by decide +kernel
theorem dX8_init_59 : decode cX8_init 59 = .ok (.aload_n 0, 1) := by decide +kernel
theorem dX8_init_60 : decode cX8_init 60 = .ok (.new 36, 3) := by decide +kernel
theorem dX8_init_63 : decode cX8_init 63 = .ok (.dup, 1) := by decide +kernel
theorem dX8_init_64 : decode cX8_init 64 = .ok (.invokespecial 38, 3) := by decide +kernel
theorem dX8_init_67 : decode cX8_init 67 = .ok (.putfield 39, 3) := by decide +kernel
theorem dX8_init_70 : decode cX8_init 70 = .ok (.aload_n 0, 1) := by decide +kernel
theorem dX8_init_71 : decode cX8_init 71 = .ok (.new 43, 3) := by decide +kernel
theorem dX8_init_74 : decode cX8_init 74 = .ok (.dup, 1) := by decide +kernel
theorem dX8_init_75 : decode cX8_init 75 = .ok (.invokespecial 45, 3) := by decide +kernel
theorem dX8_init_78 : decode cX8_init 78 = .ok (.putfield 46, 3) := by decide +kernel
theorem dX8_init_81 : decode cX8_init 81 = .ok (.aload_n 0, 1) := by decide +kernel
theorem dX8_init_82 : decode cX8_init 82 = .ok (.iconst (-1), 1) := by decide +kernel
theorem dX8_init_83 : decode cX8_init 83 = .ok (.putfield 50, 3) := by decide +kernel
theorem dX8_init_86 : decode cX8_init 86 = .ok (.aload_n 0, 1) := by decide +kernel
theorem dX8_init_87 : decode cX8_init 87 = .ok (.iconst 0, 1) := by decide +kernel
theorem dX8_init_88 : decode cX8_init 88 = .ok (.putfield 54, 3) := by decide +kernel
theorem dX8_init_91 : decode cX8_init 91 = .ok (.return_, 1) := by decide +kernel
set_option maxRecDepth 20000 in
theorem ggX8_feed_X5_makeReady : GoodIn wsX8_feed wsX5_makeReady := goodIn_r _ [6, 7, 17, 18, 19] (by decide +kernel) (by decide +kernel)
set_option maxRecDepth 20000 in
theorem gX8_feed_X5_makeReady : GoodIn wsX8_feed (wsV RX8 57 RX5 yX5_makeReady wsX5_makeReady) := goodIn_app (goodIn_of _ (by decide +kernel)) ggX8_feed_X5_makeReady
theorem dX8_feed_0 : decode cX8_feed 0 = .ok (.aload_n 0, 1) := by decide +kernel
theorem dX8_feed_1 : decode cX8_feed 1 = .ok (.getfield 10, 3) := by decide +kernel
theorem dX8_feed_4 : decode cX8_feed 4 = .ok (.iload_n 1, 1) := by decide +kernel
theorem dX8_feed_5 : decode cX8_feed 5 = .ok (.iload_n 2, 1) := by decide +kernel
theorem dX8_feed_6 : decode cX8_feed 6 = .ok (.iload_n 3, 1) := by decide +kernel
theorem dX8_feed_7 : decode cX8_feed 7 = .ok (.iload 4, 2) := by decide +kernel
theorem dX8_feed_9 : decode cX8_feed 9 = .ok (.iload 5, 2) := by decide +kernel
theorem dX8_feed_11 : decode cX8_feed 11 = .ok (.invokevirtual 57, 3) := by decide +kernel
theorem dX8_feed_14 : decode cX8_feed 14 = .ok (.return_, 1) := by decide +kernel
set_option maxRecDepth 20000 in
theorem ggX8_end_X5_append : GoodIn wsX8_end wsX5_append := goodIn_r _ [6, 7, 8, 9, 10, 11, 12, 5, 13, 14, 15, 16, 17, 27, 28, 29] (by decide +kernel) (by decide +kernel)
set_option maxRecDepth 20000 in
theorem gX8_end_X5_append : GoodIn wsX8_end (wsV RX8 61 RX5 yX5_append wsX5_append) := goodIn_app (goodIn_of _ (by decide +kernel)) ggX8_end_X5_append
theorem dX8_end_0 : decode cX8_end 0 = .ok (.aload_n 0, 1) := by decide +kernel
theorem dX8_end_1 : decode cX8_end 1 = .ok (.getfield 10, 3) := by decide +kernel
theorem dX8_end_4 : decode cX8_end 4 = .ok (.iload_n 1, 1) := by decide +kernel
theorem dX8_end_5 : decode cX8_end 5 = .ok (.invokevirtual 61, 3) := by decide +kernel
theorem dX8_end_8 : decode cX8_end 8 = .ok (.ireturn, 1) := by decide +kernel
set_option maxRecDepth 20000 in
theorem ggX8_make_X5_take : GoodIn wsX8_make wsX5_take := goodIn_r _ [17, 18, 19, 20, 21, 22, 23, 24, 25, 26, 27, 28, 29, 11, 30, 31, 32, 33, 34, 35, 36, 37, 129, 130, 131] (by decide +kernel) (by decide +kernel)
