theorem dX9_init_83 : decode cX9_init 83 = .ok (.ldc 38, 2) := by decide +kernel
theorem dX9_init_85 : decode cX9_init 85 = .ok (.newarray .int, 2) := by decide +kernel
theorem dX9_init_87 : decode cX9_init 87 = .ok (.putfield 39, 3) := by decide +kernel
theorem dX9_init_90 : decode cX9_init 90 = .ok (.aload_n 0, 1) := by decide +kernel
theorem dX9_init_91 : decode cX9_init 91 = .ok (.bipush 20, 2) := by decide +kernel
theorem dX9_init_93 : decode cX9_init 93 = .ok (.newarray .int, 2) := by decide +kernel
theorem dX9_init_95 : decode cX9_init 95 = .ok (.putfield 42, 3) := by decide +kernel
theorem dX9_init_98 : decode cX9_init 98 = .ok (.aload_n 0, 1) := by decide +kernel
theorem dX9_init_99 : decode cX9_init 99 = .ok (.sipush 400, 3) := by decide +kernel
theorem dX9_init_102 : decode cX9_init 102 = .ok (.newarray .int, 2) := by decide +kernel
theorem dX9_init_104 : decode cX9_init 104 = .ok (.putfield 45, 3) := by decide +kernel
theorem dX9_init_107 : decode cX9_init 107 = .ok (.aload_n 0, 1) := by decide +kernel
theorem dX9_init_108 : decode cX9_init 108 = .ok (.bipush 40, 2) := by decide +kernel
theorem dX9_init_110 : decode cX9_init 110 = .ok (.newarray .int, 2) := by decide +kernel
theorem dX9_init_112 : decode cX9_init 112 = .ok (.putfield 48, 3) := by decide +kernel
theorem dX9_init_115 : decode cX9_init 115 = .ok (.aload_n 0, 1) := by decide +kernel
theorem dX9_init_116 : decode cX9_init 116 = .ok (.bipush 40, 2) := by decide +kernel
theorem dX9_init_118 : decode cX9_init 118 = .ok (.newarray .int, 2) := by decide +kernel
theorem dX9_init_120 : decode cX9_init 120 = .ok (.putfield 51, 3) := by decide +kernel
theorem dX9_init_123 : decode cX9_init 123 = .ok (.aload_n 0, 1) := by decide +kernel
theorem dX9_init_124 : decode cX9_init 124 = .ok (.sipush 150, 3) := by decide +kernel
theorem dX9_init_127 : decode cX9_init 127 = .ok (.newarray .int, 2) := by decide +kernel
theorem dX9_init_129 : decode cX9_init 129 = .ok (.putfield 54, 3) := by decide +kernel
theorem dX9_init_132 : decode cX9_init 132 = .ok (.return_, 1) := by decide +kernel
theorem dX9_thrown_0 : decode cX9_thrown 0 = .ok (.aload_n 0, 1) := by decide +kernel
theorem dX9_thrown_1 : decode cX9_thrown 1 = .ok (.getfield 57, 3) := by decide +kernel
theorem dX9_thrown_4 : decode cX9_thrown 4 = .ok (.ireturn, 1) := by decide +kernel
theorem dX9_feed_0 : decode cX9_feed 0 = .ok (.aload_n 0, 1) := by decide +kernel
theorem dX9_feed_1 : decode cX9_feed 1 = .ok (.iconst 0, 1) := by decide +kernel
theorem dX9_feed_2 : decode cX9_feed 2 = .ok (.putfield 57, 3) := by decide +kernel
theorem dX9_feed_5 : decode cX9_feed 5 = .ok (.iconst 0, 1) := by decide +kernel
theorem dX9_feed_6 : decode cX9_feed 6 = .ok (.istore 6, 2) := by decide +kernel
theorem dX9_feed_8 : decode cX9_feed 8 = .ok (.iload 6, 2) := by decide +kernel
theorem dX9_feed_10 : decode cX9_feed 10 = .ok (.iconst 4, 1) := by decide +kernel
theorem dX9_feed_11 : decode cX9_feed 11 = .ok (.if_icmp .ge 107, 3) := by decide +kernel
theorem dX9_feed_14 : decode cX9_feed 14 = .ok (.bipush 24, 2) := by decide +kernel
theorem dX9_feed_16 : decode cX9_feed 16 = .ok (.bipush 8, 2) := by decide +kernel
theorem dX9_feed_18 : decode cX9_feed 18 = .ok (.iload 6, 2) := by decide +kernel
theorem dX9_feed_20 : decode cX9_feed 20 = .ok (.imul, 1) := by decide +kernel
theorem dX9_feed_21 : decode cX9_feed 21 = .ok (.isub, 1) := by decide +kernel
theorem dX9_feed_22 : decode cX9_feed 22 = .ok (.istore 7, 2) := by decide +kernel
theorem dX9_feed_24 : decode cX9_feed 24 = .ok (.aload_n 0, 1) := by decide +kernel
theorem dX9_feed_25 : decode cX9_feed 25 = .ok (.getfield 42, 3) := by decide +kernel
theorem dX9_feed_28 : decode cX9_feed 28 = .ok (.iload 6, 2) := by decide +kernel
theorem dX9_feed_30 : decode cX9_feed 30 = .ok (.iload_n 1, 1) := by decide +kernel
theorem dX9_feed_31 : decode cX9_feed 31 = .ok (.iload 7, 2) := by decide +kernel
theorem dX9_feed_33 : decode cX9_feed 33 = .ok (.ishr, 1) := by decide +kernel
theorem dX9_feed_34 : decode cX9_feed 34 = .ok (.sipush 255, 3) := by decide +kernel
theorem dX9_feed_37 : decode cX9_feed 37 = .ok (.iand, 1) := by decide +kernel
theorem dX9_feed_38 : decode cX9_feed 38 = .ok (.iastore, 1) := by decide +kernel
theorem dX9_feed_39 : decode cX9_feed 39 = .ok (.aload_n 0, 1) := by decide +kernel
theorem dX9_feed_40 : decode cX9_feed 40 = .ok (.getfield 42, 3) := by decide +kernel
theorem dX9_feed_43 : decode cX9_feed 43 = .ok (.iconst 4, 1) := by decide +kernel
theorem dX9_feed_44 : decode cX9_feed 44 = .ok (.iload 6, 2) := by decide +kernel
theorem dX9_feed_46 : decode cX9_feed 46 = .ok (.iadd, 1) := by decide +kernel
theorem dX9_feed_47 : decode cX9_feed 47 = .ok (.iload_n 2, 1) := by decide +kernel
theorem dX9_feed_48 : decode cX9_feed 48 = .ok (.iload 7, 2) := by decide +kernel
theorem dX9_feed_50 : decode cX9_feed 50 = .ok (.ishr, 1) := by decide +kernel
theorem dX9_feed_51 : decode cX9_feed 51 = .ok (.sipush 255, 3) := by decide +kernel
theorem dX9_feed_54 : decode cX9_feed 54 = .ok (.iand, 1) := by decide +kernel
theorem dX9_feed_55 : decode cX9_feed 55 = .ok (.iastore, 1) := by decide +kernel
theorem dX9_feed_56 : decode cX9_feed 56 = .ok (.aload_n 0, 1) := by decide +kernel
theorem dX9_feed_57 : decode cX9_feed 57 = .ok (.getfield 42, 3) := by decide +kernel
theorem dX9_feed_60 : decode cX9_feed 60 = .ok (.bipush 8, 2) := by decide +kernel
theorem dX9_feed_62 : decode cX9_feed 62 = .ok (.iload 6, 2) := by decide +kernel
theorem dX9_feed_64 : decode cX9_feed 64 = .ok (.iadd, 1) := by decide +kernel
theorem dX9_feed_65 : decode cX9_feed 65 = .ok (.iload_n 3, 1) := by decide +kernel
theorem dX9_feed_66 : decode cX9_feed 66 = .ok (.iload 7, 2) := by decide +kernel
theorem dX9_feed_68 : decode cX9_feed 68 = .ok (.ishr, 1) := by decide +kernel
theorem dX9_feed_69 : decode cX9_feed 69 = .ok (.sipush 255, 3) := by decide +kernel
theorem dX9_feed_72 : decode cX9_feed 72 = .ok (.iand, 1) := by decide +kernel
theorem dX9_feed_73 : decode cX9_feed 73 = .ok (.iastore, 1) := by decide +kernel
theorem dX9_feed_74 : decode cX9_feed 74 = .ok (.aload_n 0, 1) := by decide +kernel
theorem dX9_feed_75 : decode cX9_feed 75 = .ok (.getfield 42, 3) := by decide +kernel
theorem dX9_feed_78 : decode cX9_feed 78 = .ok (.bipush 12, 2) := by decide +kernel
theorem dX9_feed_80 : decode cX9_feed 80 = .ok (.iload 6, 2) := by decide +kernel
theorem dX9_feed_82 : decode cX9_feed 82 = .ok (.iadd, 1) := by decide +kernel
theorem dX9_feed_83 : decode cX9_feed 83 = .ok (.iload 4, 2) := by decide +kernel
theorem dX9_feed_85 : decode cX9_feed 85 = .ok (.iload 7, 2) := by decide +kernel
theorem dX9_feed_87 : decode cX9_feed 87 = .ok (.ishr, 1) := by decide +kernel
theorem dX9_feed_88 : decode cX9_feed 88 = .ok (.sipush 255, 3) := by decide +kernel
theorem dX9_feed_91 : decode cX9_feed 91 = .ok (.iand, 1) := by decide +kernel
theorem dX9_feed_92 : decode cX9_feed 92 = .ok (.iastore, 1) := by decide +kernel
theorem dX9_feed_93 : decode cX9_feed 93 = .ok (.aload_n 0, 1) := by decide +kernel
theorem dX9_feed_94 : decode cX9_feed 94 = .ok (.getfield 42, 3) := by decide +kernel
theorem dX9_feed_97 : decode cX9_feed 97 = .ok (.bipush 16, 2) := by decide +kernel
theorem dX9_feed_99 : decode cX9_feed 99 = .ok (.iload 6, 2) := by decide +kernel
theorem dX9_feed_101 : decode cX9_feed 101 = .ok (.iadd, 1) := by decide +kernel
theorem dX9_feed_102 : decode cX9_feed 102 = .ok (.iload 5, 2) := by decide +kernel
theorem dX9_feed_104 : decode cX9_feed 104 = .ok (.iload 7, 2) := by decide +kernel
theorem dX9_feed_106 : decode cX9_feed 106 = .ok (.ishr, 1) := by decide +kernel
theorem dX9_feed_107 : decode cX9_feed 107 = .ok (.sipush 255, 3) := by decide +kernel
theorem dX9_feed_110 : decode cX9_feed 110 = .ok (.iand, 1) := by decide +kernel
theorem dX9_feed_111 : decode cX9_feed 111 = .ok (.iastore, 1) := by decide +kernel
theorem dX9_feed_112 : decode cX9_feed 112 = .ok (.iinc 6 1, 3) := by decide +kernel
theorem dX9_feed_115 : decode cX9_feed 115 = .ok (.goto (-107), 3) := by decide +kernel
theorem dX9_feed_118 : decode cX9_feed 118 = .ok (.return_, 1) := by decide +kernel
theorem dX9_end_0 : decode cX9_end 0 = .ok (.aload_n 0, 1) := by decide +kernel
theorem dX9_end_1 : decode cX9_end 1 = .ok (.iconst 0, 1) := by decide +kernel
theorem dX9_end_2 : decode cX9_end 2 = .ok (.putfield 57, 3) := by decide +kernel
theorem dX9_end_5 : decode cX9_end 5 = .ok (.iload_n 1, 1) := by decide +kernel
theorem dX9_end_6 : decode cX9_end 6 = .ok (.ifCond .lt 21, 3) := by decide +kernel
theorem dX9_end_9 : decode cX9_end 9 = .ok (.iload_n 1, 1) := by decide +kernel
theorem dX9_end_10 : decode cX9_end 10 = .ok (.bipush 20, 2) := by decide +kernel
theorem dX9_end_12 : decode cX9_end 12 = .ok (.if_icmp .gt 15, 3) := by decide +kernel
theorem dX9_end_15 : decode cX9_end 15 = .ok (.aload_n 0, 1) := by decide +kernel
theorem dX9_end_16 : decode cX9_end 16 = .ok (.getfield 61, 3) := by decide +kernel
theorem dX9_end_19 : decode cX9_end 19 = .ok (.iload_n 1, 1) := by decide +kernel
theorem dX9_end_20 : decode cX9_end 20 = .ok (.iadd, 1) := by decide +kernel
theorem dX9_end_21 : decode cX9_end 21 = .ok (.sipush 400, 3) := by decide +kernel
theorem dX9_end_24 : decode cX9_end 24 = .ok (.if_icmp .le 5, 3) := by decide +kernel
theorem dX9_end_27 : decode cX9_end 27 = .ok (.iconst (-1), 1) := by decide +kernel
theorem dX9_end_28 : decode cX9_end 28 = .ok (.ireturn, 1) := by decide +kernel
theorem dX9_end_29 : decode cX9_end 29 = .ok (.iconst 0, 1) := by decide +kernel
theorem dX9_end_30 : decode cX9_end 30 = .ok (.istore_n 2, 1) := by decide +kernel
theorem dX9_end_31 : decode cX9_end 31 = .ok (.iload_n 2, 1) := by decide +kernel
theorem dX9_end_32 : decode cX9_end 32 = .ok (.iload_n 1, 1) := by decide +kernel
theorem dX9_end_33 : decode cX9_end 33 = .ok (.if_icmp .ge 26, 3) := by decide +kernel
theorem dX9_end_36 : decode cX9_end 36 = .ok (.aload_n 0, 1) := by decide +kernel
theorem dX9_end_37 : decode cX9_end 37 = .ok (.getfield 45, 3) := by decide +kernel
theorem dX9_end_40 : decode cX9_end 40 = .ok (.aload_n 0, 1) := by decide +kernel
theorem dX9_end_41 : decode cX9_end 41 = .ok (.getfield 61, 3) := by decide +kernel
theorem dX9_end_44 : decode cX9_end 44 = .ok (.iload_n 2, 1) := by decide +kernel
theorem dX9_end_45 : decode cX9_end 45 = .ok (.iadd, 1) := by decide +kernel
theorem dX9_end_46 : decode cX9_end 46 = .ok (.aload_n 0, 1) := by decide +kernel
theorem dX9_end_47 : decode cX9_end 47 = .ok (.getfield 42, 3) := by decide +kernel
theorem dX9_end_50 : decode cX9_end 50 = .ok (.iload_n 2, 1) := by decide +kernel
theorem dX9_end_51 : decode cX9_end 51 = .ok (.iaload, 1) := by decide +kernel
theorem dX9_end_52 : decode cX9_end 52 = .ok (.iastore, 1) := by decide +kernel
theorem dX9_end_53 : decode cX9_end 53 = .ok (.iinc 2 1, 3) := by decide +kernel
theorem dX9_end_56 : decode cX9_end 56 = .ok (.goto (-25), 3) := by decide +kernel
theorem dX9_end_59 : decode cX9_end 59 = .ok (.aload_n 0, 1) := by decide +kernel
theorem dX9_end_60 : decode cX9_end 60 = .ok (.dup, 1) := by decide +kernel
theorem dX9_end_61 : decode cX9_end 61 = .ok (.getfield 61, 3) := by decide +kernel
theorem dX9_end_64 : decode cX9_end 64 = .ok (.iload_n 1, 1) := by decide +kernel
theorem dX9_end_65 : decode cX9_end 65 = .ok (.iadd, 1) := by decide +kernel
theorem dX9_end_66 : decode cX9_end 66 = .ok (.putfield 61, 3) := by decide +kernel
theorem dX9_end_69 : decode cX9_end 69 = .ok (.iconst 0, 1) := by decide +kernel
theorem dX9_end_70 : decode cX9_end 70 = .ok (.istore_n 2, 1) := by decide +kernel
theorem dX9_end_71 : decode cX9_end 71 = .ok (.iload_n 2, 1) := by decide +kernel
theorem dX9_end_72 : decode cX9_end 72 = .ok (.bipush 20, 2) := by decide +kernel
theorem dX9_end_74 : decode cX9_end 74 = .ok (.if_icmp .ge 16, 3) := by decide +kernel
theorem dX9_end_77 : decode cX9_end 77 = .ok (.aload_n 0, 1) := by decide +kernel
theorem dX9_end_78 : decode cX9_end 78 = .ok (.getfield 42, 3) := by decide +kernel
theorem dX9_end_81 : decode cX9_end 81 = .ok (.iload_n 2, 1) := by decide +kernel
theorem dX9_end_82 : decode cX9_end 82 = .ok (.iconst 0, 1) := by decide +kernel
theorem dX9_end_83 : decode cX9_end 83 = .ok (.iastore, 1) := by decide +kernel
theorem dX9_end_84 : decode cX9_end 84 = .ok (.iinc 2 1, 3) := by decide +kernel
theorem dX9_end_87 : decode cX9_end 87 = .ok (.goto (-16), 3) := by decide +kernel
theorem dX9_end_90 : decode cX9_end 90 = .ok (.aload_n 0, 1) := by decide +kernel
theorem dX9_end_91 : decode cX9_end 91 = .ok (.getfield 61, 3) := by decide +kernel
theorem dX9_end_94 : decode cX9_end 94 = .ok (.ireturn, 1) := by decide +kernel
theorem dX9_place_0 : decode cX9_place 0 = .ok (.bipush 120, 2) := by decide +kernel
theorem dX9_place_2 : decode cX9_place 2 = .ok (.iload_n 0, 1) := by decide +kernel
theorem dX9_place_3 : decode cX9_place 3 = .ok (.imul, 1) := by decide +kernel
theorem dX9_place_4 : decode cX9_place 4 = .ok (.iload_n 1, 1) := by decide +kernel
theorem dX9_place_5 : decode cX9_place 5 = .ok (.iadd, 1) := by decide +kernel
theorem dX9_place_6 : decode cX9_place 6 = .ok (.ireturn, 1) := by decide +kernel
set_option maxRecDepth 20000 in
theorem ggX9_append_X9_place : GoodIn wsX9_append wsX9_place := goodIn_r _ [14] (by decide +kernel) (by decide +kernel)
set_option maxRecDepth 20000 in
theorem gX9_append_X9_place : GoodIn wsX9_append (va_wsS RX9 64 yX9_place wsX9_place) := goodIn_app (goodIn_of _ (by decide +kernel)) ggX9_append_X9_place
theorem dX9_append_0 : decode cX9_append 0 = .ok (.iload_n 1, 1) := by decide +kernel
theorem dX9_append_1 : decode cX9_append 1 = .ok (.iload_n 2, 1) := by decide +kernel
theorem dX9_append_2 : decode cX9_append 2 = .ok (.invokestatic 64, 3) := by decide +kernel
theorem dX9_append_5 : decode cX9_append 5 = .ok (.istore 4, 2) := by decide +kernel
theorem dX9_append_7 : decode cX9_append 7 = .ok (.iload_n 3, 1) := by decide +kernel
theorem dX9_append_8 : decode cX9_append 8 = .ok (.aload_n 0, 1) := by decide +kernel
theorem dX9_append_9 : decode cX9_append 9 = .ok (.getfield 7, 3) := by decide +kernel
theorem dX9_append_12 : decode cX9_append 12 = .ok (.iload_n 3, 1) := by decide +kernel
theorem dX9_append_13 : decode cX9_append 13 = .ok (.iaload, 1) := by decide +kernel
theorem dX9_append_14 : decode cX9_append 14 = .ok (.invokestatic 64, 3) := by decide +kernel
theorem dX9_append_17 : decode cX9_append 17 = .ok (.istore 5, 2) := by decide +kernel
theorem dX9_append_19 : decode cX9_append 19 = .ok (.aload_n 0, 1) := by decide +kernel
theorem dX9_append_20 : decode cX9_append 20 = .ok (.getfield 16, 3) := by decide +kernel
theorem dX9_append_23 : decode cX9_append 23 = .ok (.iload 5, 2) := by decide +kernel
theorem dX9_append_25 : decode cX9_append 25 = .ok (.aload_n 0, 1) := by decide +kernel
theorem dX9_append_26 : decode cX9_append 26 = .ok (.getfield 16, 3) := by decide +kernel
theorem dX9_append_29 : decode cX9_append 29 = .ok (.iload 4, 2) := by decide +kernel
theorem dX9_append_31 : decode cX9_append 31 = .ok (.iaload, 1) := by decide +kernel
theorem dX9_append_32 : decode cX9_append 32 = .ok (.iastore, 1) := by decide +kernel
theorem dX9_append_33 : decode cX9_append 33 = .ok (.aload_n 0, 1) := by decide +kernel
theorem dX9_append_34 : decode cX9_append 34 = .ok (.getfield 19, 3) := by decide +kernel
theorem dX9_append_37 : decode cX9_append 37 = .ok (.iload 5, 2) := by decide +kernel
theorem dX9_append_39 : decode cX9_append 39 = .ok (.aload_n 0, 1) := by decide +kernel
theorem dX9_append_40 : decode cX9_append 40 = .ok (.getfield 19, 3) := by decide +kernel
theorem dX9_append_43 : decode cX9_append 43 = .ok (.iload 4, 2) := by decide +kernel
theorem dX9_append_45 : decode cX9_append 45 = .ok (.iaload, 1) := by decide +kernel
theorem dX9_append_46 : decode cX9_append 46 = .ok (.iastore, 1) := by decide +kernel
theorem dX9_append_47 : decode cX9_append 47 = .ok (.aload_n 0, 1) := by decide +kernel
theorem dX9_append_48 : decode cX9_append 48 = .ok (.getfield 22, 3) := by decide +kernel
theorem dX9_append_51 : decode cX9_append 51 = .ok (.iload 5, 2) := by decide +kernel
theorem dX9_append_53 : decode cX9_append 53 = .ok (.aload_n 0, 1) := by decide +kernel
theorem dX9_append_54 : decode cX9_append 54 = .ok (.getfield 22, 3) := by decide +kernel
theorem dX9_append_57 : decode cX9_append 57 = .ok (.iload 4, 2) := by decide +kernel
theorem dX9_append_59 : decode cX9_append 59 = .ok (.iaload, 1) := by decide +kernel
theorem dX9_append_60 : decode cX9_append 60 = .ok (.iastore, 1) := by decide +kernel
theorem dX9_append_61 : decode cX9_append 61 = .ok (.aload_n 0, 1) := by decide +kernel
theorem dX9_append_62 : decode cX9_append 62 = .ok (.getfield 25, 3) := by decide +kernel
theorem dX9_append_65 : decode cX9_append 65 = .ok (.iload 5, 2) := by decide +kernel
theorem dX9_append_67 : decode cX9_append 67 = .ok (.aload_n 0, 1) := by decide +kernel
theorem dX9_append_68 : decode cX9_append 68 = .ok (.getfield 25, 3) := by decide +kernel
theorem dX9_append_71 : decode cX9_append 71 = .ok (.iload 4, 2) := by decide +kernel
theorem dX9_append_73 : decode cX9_append 73 = .ok (.iaload, 1) := by decide +kernel
theorem dX9_append_74 : decode cX9_append 74 = .ok (.iastore, 1) := by decide +kernel
theorem dX9_append_75 : decode cX9_append 75 = .ok (.iconst 0, 1) := by decide +kernel
theorem dX9_append_76 : decode cX9_append 76 = .ok (.istore 6, 2) := by decide +kernel
theorem dX9_append_78 : decode cX9_append 78 = .ok (.iload 6, 2) := by decide +kernel
theorem dX9_append_80 : decode cX9_append 80 = .ok (.aload_n 0, 1) := by decide +kernel
theorem dX9_append_81 : decode cX9_append 81 = .ok (.getfield 25, 3) := by decide +kernel
theorem dX9_append_84 : decode cX9_append 84 = .ok (.iload 4, 2) := by decide +kernel
theorem dX9_append_86 : decode cX9_append 86 = .ok (.iaload, 1) := by decide +kernel
theorem dX9_append_87 : decode cX9_append 87 = .ok (.if_icmp .ge 37, 3) := by decide +kernel
theorem dX9_append_90 : decode cX9_append 90 = .ok (.aload_n 0, 1) := by decide +kernel
theorem dX9_append_91 : decode cX9_append 91 = .ok (.getfield 35, 3) := by decide +kernel
theorem dX9_append_94 : decode cX9_append 94 = .ok (.sipush 150, 3) := by decide +kernel
theorem dX9_append_97 : decode cX9_append 97 = .ok (.iload 5, 2) := by decide +kernel
theorem dX9_append_99 : decode cX9_append 99 = .ok (.imul, 1) := by decide +kernel
theorem dX9_append_100 : decode cX9_append 100 = .ok (.iload 6, 2) := by decide +kernel
theorem dX9_append_102 : decode cX9_append 102 = .ok (.iadd, 1) := by decide +kernel
theorem dX9_append_103 : decode cX9_append 103 = .ok (.aload_n 0, 1) := by decide +kernel
theorem dX9_append_104 : decode cX9_append 104 = .ok (.getfield 35, 3) := by decide +kernel
theorem dX9_append_107 : decode cX9_append 107 = .ok (.sipush 150, 3) := by decide +kernel
theorem dX9_append_110 : decode cX9_append 110 = .ok (.iload 4, 2) := by decide +kernel
theorem dX9_append_112 : decode cX9_append 112 = .ok (.imul, 1) := by decide +kernel
theorem dX9_append_113 : decode cX9_append 113 = .ok (.iload 6, 2) := by decide +kernel
theorem dX9_append_115 : decode cX9_append 115 = .ok (.iadd, 1) := by decide +kernel
theorem dX9_append_116 : decode cX9_append 116 = .ok (.iaload, 1) := by decide +kernel
theorem dX9_append_117 : decode cX9_append 117 = .ok (.iastore, 1) := by decide +kernel
theorem dX9_append_118 : decode cX9_append 118 = .ok (.iinc 6 1, 3) := by decide +kernel
theorem dX9_append_121 : decode cX9_append 121 = .ok (.goto (-43), 3) := by decide +kernel
theorem dX9_append_124 : decode cX9_append 124 = .ok (.aload_n 0, 1) := by decide +kernel
theorem dX9_append_125 : decode cX9_append 125 = .ok (.getfield 31, 3) := by decide +kernel
theorem dX9_append_128 : decode cX9_append 128 = .ok (.iload 5, 2) := by decide +kernel
theorem dX9_append_130 : decode cX9_append 130 = .ok (.aload_n 0, 1) := by decide +kernel
theorem dX9_append_131 : decode cX9_append 131 = .ok (.getfield 31, 3) := by decide +kernel
theorem dX9_append_134 : decode cX9_append 134 = .ok (.iload 4, 2) := by decide +kernel
theorem dX9_append_136 : decode cX9_append 136 = .ok (.iaload, 1) := by decide +kernel
theorem dX9_append_137 : decode cX9_append 137 = .ok (.iastore, 1) := by decide +kernel
theorem dX9_append_138 : decode cX9_append 138 = .ok (.aload_n 0, 1) := by decide +kernel
theorem dX9_append_139 : decode cX9_append 139 = .ok (.getfield 28, 3) := by decide +kernel
theorem dX9_append_142 : decode cX9_append 142 = .ok (.iload 5, 2) := by decide +kernel
theorem dX9_append_144 : decode cX9_append 144 = .ok (.aload_n 0, 1) := by decide +kernel
theorem dX9_append_145 : decode cX9_append 145 = .ok (.getfield 13, 3) := by decide +kernel
theorem dX9_append_148 : decode cX9_append 148 = .ok (.iload_n 3, 1) := by decide +kernel
theorem dX9_append_149 : decode cX9_append 149 = .ok (.iaload, 1) := by decide +kernel
theorem dX9_append_150 : decode cX9_append 150 = .ok (.iastore, 1) := by decide +kernel
theorem dX9_append_151 : decode cX9_append 151 = .ok (.iconst 0, 1) := by decide +kernel
theorem dX9_append_152 : decode cX9_append 152 = .ok (.istore 6, 2) := by decide +kernel
theorem dX9_append_154 : decode cX9_append 154 = .ok (.iload 6, 2) := by decide +kernel
theorem dX9_append_156 : decode cX9_append 156 = .ok (.aload_n 0, 1) := by decide +kernel
theorem dX9_append_157 : decode cX9_append 157 = .ok (.getfield 31, 3) := by decide +kernel
theorem dX9_append_160 : decode cX9_append 160 = .ok (.iload 4, 2) := by decide +kernel
theorem dX9_append_162 : decode cX9_append 162 = .ok (.iaload, 1) := by decide +kernel
theorem dX9_append_163 : decode cX9_append 163 = .ok (.if_icmp .ge 50, 3) := by decide +kernel
theorem dX9_append_166 : decode cX9_append 166 = .ok (.aload_n 0, 1) := by decide +kernel
theorem dX9_append_167 : decode cX9_append 167 = .ok (.getfield 39, 3) := by decide +kernel
theorem dX9_append_170 : decode cX9_append 170 = .ok (.sipush 8000, 3) := by decide +kernel
theorem dX9_append_173 : decode cX9_append 173 = .ok (.iload_n 3, 1) := by decide +kernel
theorem dX9_append_174 : decode cX9_append 174 = .ok (.imul, 1) := by decide +kernel
theorem dX9_append_175 : decode cX9_append 175 = .ok (.aload_n 0, 1) := by decide +kernel
theorem dX9_append_176 : decode cX9_append 176 = .ok (.getfield 13, 3) := by decide +kernel
theorem dX9_append_179 : decode cX9_append 179 = .ok (.iload_n 3, 1) := by decide +kernel
theorem dX9_append_180 : decode cX9_append 180 = .ok (.iaload, 1) := by decide +kernel
theorem dX9_append_181 : decode cX9_append 181 = .ok (.iadd, 1) := by decide +kernel
theorem dX9_append_182 : decode cX9_append 182 = .ok (.iload 6, 2) := by decide +kernel
theorem dX9_append_184 : decode cX9_append 184 = .ok (.iadd, 1) := by decide +kernel
theorem dX9_append_185 : decode cX9_append 185 = .ok (.aload_n 0, 1) := by decide +kernel
theorem dX9_append_186 : decode cX9_append 186 = .ok (.getfield 39, 3) := by decide +kernel
theorem dX9_append_189 : decode cX9_append 189 = .ok (.sipush 8000, 3) := by decide +kernel
theorem dX9_append_192 : decode cX9_append 192 = .ok (.iload_n 1, 1) := by decide +kernel
theorem dX9_append_193 : decode cX9_append 193 = .ok (.imul, 1) := by decide +kernel
theorem dX9_append_194 : decode cX9_append 194 = .ok (.aload_n 0, 1) := by decide +kernel
theorem dX9_append_195 : decode cX9_append 195 = .ok (.getfield 28, 3) := by decide +kernel
theorem dX9_append_198 : decode cX9_append 198 = .ok (.iload 4, 2) := by decide +kernel
theorem dX9_append_200 : decode cX9_append 200 = .ok (.iaload, 1) := by decide +kernel
theorem dX9_append_201 : decode cX9_append 201 = .ok (.iadd, 1) := by decide +kernel
theorem dX9_append_202 : decode cX9_append 202 = .ok (.iload 6, 2) := by decide +kernel
theorem dX9_append_204 : decode cX9_append 204 = .ok (.iadd, 1) := by decide +kernel
theorem dX9_append_205 : decode cX9_append 205 = .ok (.iaload, 1) := by decide +kernel
theorem dX9_append_206 : decode cX9_append 206 = .ok (.iastore, 1) := by decide +kernel
theorem dX9_append_207 : decode cX9_append 207 = .ok (.iinc 6 1, 3) := by decide +kernel
theorem dX9_append_210 : decode cX9_append 210 = .ok (.goto (-56), 3) := by decide +kernel
theorem dX9_append_213 : decode cX9_append 213 = .ok (.aload_n 0, 1) := by decide +kernel
theorem dX9_append_214 : decode cX9_append 214 = .ok (.getfield 13, 3) := by decide +kernel
theorem dX9_append_217 : decode cX9_append 217 = .ok (.iload_n 3, 1) := by decide +kernel
theorem dX9_append_218 : decode cX9_append 218 = .ok (.dup2, 1) := by decide +kernel
theorem dX9_append_219 : decode cX9_append 219 = .ok (.iaload, 1) := by decide +kernel
theorem dX9_append_220 : decode cX9_append 220 = .ok (.aload_n 0, 1) := by decide +kernel
theorem dX9_append_221 : decode cX9_append 221 = .ok (.getfield 31, 3) := by decide +kernel
theorem dX9_append_224 : decode cX9_append 224 = .ok (.iload 4, 2) := by decide +kernel
theorem dX9_append_226 : decode cX9_append 226 = .ok (.iaload, 1) := by decide +kernel
theorem dX9_append_227 : decode cX9_append 227 = .ok (.iadd, 1) := by decide +kernel
theorem dX9_append_228 : decode cX9_append 228 = .ok (.iastore, 1) := by decide +kernel
theorem dX9_append_229 : decode cX9_append 229 = .ok (.aload_n 0, 1) := by decide +kernel
theorem dX9_append_230 : decode cX9_append 230 = .ok (.getfield 7, 3) := by decide +kernel
theorem dX9_append_233 : decode cX9_append 233 = .ok (.iload_n 3, 1) := by decide +kernel
theorem dX9_append_234 : decode cX9_append 234 = .ok (.dup2, 1) := by decide +kernel
theorem dX9_append_235 : decode cX9_append 235 = .ok (.iaload, 1) := by decide +kernel
theorem dX9_append_236 : decode cX9_append 236 = .ok (.iconst 1, 1) := by decide +kernel
theorem dX9_append_237 : decode cX9_append 237 = .ok (.iadd, 1) := by decide +kernel
theorem dX9_append_238 : decode cX9_append 238 = .ok (.iastore, 1) := by decide +kernel
theorem dX9_append_239 : decode cX9_append 239 = .ok (.return_, 1) := by decide +kernel
theorem dX9_empty_0 : decode cX9_empty 0 = .ok (.aload_n 0, 1) := by decide +kernel
theorem dX9_empty_1 : decode cX9_empty 1 = .ok (.getfield 7, 3) := by decide +kernel
theorem dX9_empty_4 : decode cX9_empty 4 = .ok (.iload_n 1, 1) := by decide +kernel
theorem dX9_empty_5 : decode cX9_empty 5 = .ok (.iconst 0, 1) := by decide +kernel
theorem dX9_empty_6 : decode cX9_empty 6 = .ok (.iastore, 1) := by decide +kernel
theorem dX9_empty_7 : decode cX9_empty 7 = .ok (.aload_n 0, 1) := by decide +kernel
theorem dX9_empty_8 : decode cX9_empty 8 = .ok (.getfield 13, 3) := by decide +kernel
theorem dX9_empty_11 : decode cX9_empty 11 = .ok (.iload_n 1, 1) := by decide +kernel
theorem dX9_empty_12 : decode cX9_empty 12 = .ok (.iconst 0, 1) := by decide +kernel
theorem dX9_empty_13 : decode cX9_empty 13 = .ok (.iastore, 1) := by decide +kernel
theorem dX9_empty_14 : decode cX9_empty 14 = .ok (.return_, 1) := by decide +kernel
set_option maxRecDepth 20000 in
theorem ggX9_copy_X9_empty : GoodIn wsX9_copy wsX9_empty := goodIn_r _ [6, 1, 7, 23, 24, 25, 26, 27, 28, 29, 30, 31, 32, 33, 34, 35, 36, 37, 38, 39, 40, 41, 42, 43, 44, 45, 46] (by decide +kernel) (by decide +kernel)
set_option maxRecDepth 20000 in
theorem gX9_copy_X9_empty : GoodIn wsX9_copy (wsV RX9 68 RX9 yX9_empty wsX9_empty) := goodIn_app (goodIn_of _ (by decide +kernel)) ggX9_copy_X9_empty
set_option maxRecDepth 20000 in
theorem ggX9_copy_X9_append : GoodIn wsX9_copy wsX9_append := goodIn_r _ [11, 1, 12, 13, 14, 15, 16, 17, 18, 7, 19, 20, 21, 5, 22, 23, 24, 25, 26, 27, 28, 29, 30, 31, 32, 33, 34, 35, 36, 37, 38, 39, 40, 41, 42, 43, 44, 45, 46] (by decide +kernel) (by decide +kernel)
set_option maxRecDepth 20000 in
theorem gX9_copy_X9_append : GoodIn wsX9_copy (wsV RX9 72 RX9 yX9_append wsX9_append) := goodIn_app (goodIn_of _ (by decide +kernel)) ggX9_copy_X9_append
theorem dX9_copy_0 : decode cX9_copy 0 = .ok (.aload_n 0, 1) := by decide +kernel
theorem dX9_copy_1 : decode cX9_copy 1 = .ok (.iload_n 2, 1) := by decide +kernel
theorem dX9_copy_2 : decode cX9_copy 2 = .ok (.invokevirtual 68, 3) := by decide +kernel
theorem dX9_copy_5 : decode cX9_copy 5 = .ok (.iconst 0, 1) := by decide +kernel
theorem dX9_copy_6 : decode cX9_copy 6 = .ok (.istore_n 3, 1) := by decide +kernel
theorem dX9_copy_7 : decode cX9_copy 7 = .ok (.iload_n 3, 1) := by decide +kernel
theorem dX9_copy_8 : decode cX9_copy 8 = .ok (.aload_n 0, 1) := by decide +kernel
theorem dX9_copy_9 : decode cX9_copy 9 = .ok (.getfield 7, 3) := by decide +kernel
theorem dX9_copy_12 : decode cX9_copy 12 = .ok (.iload_n 1, 1) := by decide +kernel
theorem dX9_copy_13 : decode cX9_copy 13 = .ok (.iaload, 1) := by decide +kernel
theorem dX9_copy_14 : decode cX9_copy 14 = .ok (.if_icmp .ge 16, 3) := by decide +kernel
theorem dX9_copy_17 : decode cX9_copy 17 = .ok (.aload_n 0, 1) := by decide +kernel
theorem dX9_copy_18 : decode cX9_copy 18 = .ok (.iload_n 1, 1) := by decide +kernel
theorem dX9_copy_19 : decode cX9_copy 19 = .ok (.iload_n 3, 1) := by decide +kernel
theorem dX9_copy_20 : decode cX9_copy 20 = .ok (.iload_n 2, 1) := by decide +kernel
theorem dX9_copy_21 : decode cX9_copy 21 = .ok (.invokevirtual 72, 3) := by decide +kernel
theorem dX9_copy_24 : decode cX9_copy 24 = .ok (.iinc 3 1, 3) := by decide +kernel
theorem dX9_copy_27 : decode cX9_copy 27 = .ok (.goto (-20), 3) := by decide +kernel
theorem dX9_copy_30 : decode cX9_copy 30 = .ok (.return_, 1) := by decide +kernel
theorem dX9_rank_0 : decode cX9_rank 0 = .ok (.iload_n 3, 1) := by decide +kernel
theorem dX9_rank_1 : decode cX9_rank 1 = .ok (.iload_n 2, 1) := by decide +kernel
theorem dX9_rank_2 : decode cX9_rank 2 = .ok (.if_icmp .lt 7, 3) := by decide +kernel
theorem dX9_rank_5 : decode cX9_rank 5 = .ok (.iconst (-1), 1) := by decide +kernel
theorem dX9_rank_6 : decode cX9_rank 6 = .ok (.goto 24, 3) := by decide +kernel
theorem dX9_rank_9 : decode cX9_rank 9 = .ok (.aload_n 0, 1) := by decide +kernel
theorem dX9_rank_10 : decode cX9_rank 10 = .ok (.iload_n 1, 1) := by decide +kernel
theorem dX9_rank_11 : decode cX9_rank 11 = .ok (.iload_n 3, 1) := by decide +kernel
theorem dX9_rank_12 : decode cX9_rank 12 = .ok (.iadd, 1) := by decide +kernel
theorem dX9_rank_13 : decode cX9_rank 13 = .ok (.iaload, 1) := by decide +kernel
theorem dX9_rank_14 : decode cX9_rank 14 = .ok (.bipush 47, 2) := by decide +kernel
theorem dX9_rank_16 : decode cX9_rank 16 = .ok (.if_icmp .ne 7, 3) := by decide +kernel
theorem dX9_rank_19 : decode cX9_rank 19 = .ok (.iconst 0, 1) := by decide +kernel
theorem dX9_rank_20 : decode cX9_rank 20 = .ok (.goto 10, 3) := by decide +kernel
theorem dX9_rank_23 : decode cX9_rank 23 = .ok (.aload_n 0, 1) := by decide +kernel
theorem dX9_rank_24 : decode cX9_rank 24 = .ok (.iload_n 1, 1) := by decide +kernel
theorem dX9_rank_25 : decode cX9_rank 25 = .ok (.iload_n 3, 1) := by decide +kernel
theorem dX9_rank_26 : decode cX9_rank 26 = .ok (.iadd, 1) := by decide +kernel
theorem dX9_rank_27 : decode cX9_rank 27 = .ok (.iaload, 1) := by decide +kernel
theorem dX9_rank_28 : decode cX9_rank 28 = .ok (.iconst 1, 1) := by decide +kernel
theorem dX9_rank_29 : decode cX9_rank 29 = .ok (.iadd, 1) := by decide +kernel
theorem dX9_rank_30 : decode cX9_rank 30 = .ok (.ireturn, 1) := by decide +kernel
set_option maxRecDepth 20000 in
theorem ggX9_order_X9_rank : GoodIn wsX9_order wsX9_rank := goodIn_r _ [4] (by decide +kernel) (by decide +kernel)
set_option maxRecDepth 20000 in
theorem gX9_order_X9_rank : GoodIn wsX9_order (va_wsS RX9 76 yX9_rank wsX9_rank) := goodIn_app (goodIn_of _ (by decide +kernel)) ggX9_order_X9_rank
theorem dX9_order_0 : decode cX9_order 0 = .ok (.iconst 0, 1) := by decide +kernel
theorem dX9_order_1 : decode cX9_order 1 = .ok (.istore 6, 2) := by decide +kernel
theorem dX9_order_3 : decode cX9_order 3 = .ok (.iload 6, 2) := by decide +kernel
theorem dX9_order_5 : decode cX9_order 5 = .ok (.iload_n 2, 1) := by decide +kernel
theorem dX9_order_6 : decode cX9_order 6 = .ok (.if_icmp .ge 32, 3) := by decide +kernel
theorem dX9_order_9 : decode cX9_order 9 = .ok (.iload 6, 2) := by decide +kernel
theorem dX9_order_11 : decode cX9_order 11 = .ok (.iload 5, 2) := by decide +kernel
theorem dX9_order_13 : decode cX9_order 13 = .ok (.if_icmp .ge 25, 3) := by decide +kernel
theorem dX9_order_16 : decode cX9_order 16 = .ok (.aload_n 0, 1) := by decide +kernel
theorem dX9_order_17 : decode cX9_order 17 = .ok (.iload_n 1, 1) := by decide +kernel
theorem dX9_order_18 : decode cX9_order 18 = .ok (.iload 6, 2) := by decide +kernel
theorem dX9_order_20 : decode cX9_order 20 = .ok (.iadd, 1) := by decide +kernel
theorem dX9_order_21 : decode cX9_order 21 = .ok (.iaload, 1) := by decide +kernel
theorem dX9_order_22 : decode cX9_order 22 = .ok (.aload_n 3, 1) := by decide +kernel
theorem dX9_order_23 : decode cX9_order 23 = .ok (.iload 4, 2) := by decide +kernel
theorem dX9_order_25 : decode cX9_order 25 = .ok (.iload 6, 2) := by decide +kernel
theorem dX9_order_27 : decode cX9_order 27 = .ok (.iadd, 1) := by decide +kernel
theorem dX9_order_28 : decode cX9_order 28 = .ok (.iaload, 1) := by decide +kernel
theorem dX9_order_29 : decode cX9_order 29 = .ok (.if_icmp .ne 9, 3) := by decide +kernel
theorem dX9_order_32 : decode cX9_order 32 = .ok (.iinc 6 1, 3) := by decide +kernel
theorem dX9_order_35 : decode cX9_order 35 = .ok (.goto (-32), 3) := by decide +kernel
theorem dX9_order_38 : decode cX9_order 38 = .ok (.aload_n 0, 1) := by decide +kernel
theorem dX9_order_39 : decode cX9_order 39 = .ok (.iload_n 1, 1) := by decide +kernel
theorem dX9_order_40 : decode cX9_order 40 = .ok (.iload_n 2, 1) := by decide +kernel
theorem dX9_order_41 : decode cX9_order 41 = .ok (.iload 6, 2) := by decide +kernel
theorem dX9_order_43 : decode cX9_order 43 = .ok (.invokestatic 76, 3) := by decide +kernel
theorem dX9_order_46 : decode cX9_order 46 = .ok (.aload_n 3, 1) := by decide +kernel
theorem dX9_order_47 : decode cX9_order 47 = .ok (.iload 4, 2) := by decide +kernel
theorem dX9_order_49 : decode cX9_order 49 = .ok (.iload 5, 2) := by decide +kernel
theorem dX9_order_51 : decode cX9_order 51 = .ok (.iload 6, 2) := by decide +kernel
theorem dX9_order_53 : decode cX9_order 53 = .ok (.invokestatic 76, 3) := by decide +kernel
theorem dX9_order_56 : decode cX9_order 56 = .ok (.isub, 1) := by decide +kernel
theorem dX9_order_57 : decode cX9_order 57 = .ok (.ireturn, 1) := by decide +kernel
set_option maxRecDepth 20000 in
theorem ggX9_orderOf_X9_place : GoodIn wsX9_orderOf wsX9_place := goodIn_r _ [6] (by decide +kernel) (by decide +kernel)
set_option maxRecDepth 20000 in
theorem gX9_orderOf_X9_place : GoodIn wsX9_orderOf (va_wsS RX9 64 yX9_place wsX9_place) := goodIn_app (goodIn_of _ (by decide +kernel)) ggX9_orderOf_X9_place
set_option maxRecDepth 20000 in
theorem ggX9_orderOf_X9_order : GoodIn wsX9_orderOf wsX9_order := goodIn_r _ [9, 10, 11, 5, 12] (by decide +kernel) (by decide +kernel)
set_option maxRecDepth 20000 in
theorem gX9_orderOf_X9_order : GoodIn wsX9_orderOf (va_wsS RX9 80 yX9_order wsX9_order) := goodIn_app (goodIn_of _ (by decide +kernel)) ggX9_orderOf_X9_order
theorem dX9_orderOf_0 : decode cX9_orderOf 0 = .ok (.aload_n 0, 1) := by decide +kernel
theorem dX9_orderOf_1 : decode cX9_orderOf 1 = .ok (.getfield 35, 3) := by decide +kernel
theorem dX9_orderOf_4 : decode cX9_orderOf 4 = .ok (.sipush 150, 3) := by decide +kernel
theorem dX9_orderOf_7 : decode cX9_orderOf 7 = .ok (.iload_n 1, 1) := by decide +kernel
theorem dX9_orderOf_8 : decode cX9_orderOf 8 = .ok (.iload_n 2, 1) := by decide +kernel
theorem dX9_orderOf_9 : decode cX9_orderOf 9 = .ok (.invokestatic 64, 3) := by decide +kernel
theorem dX9_orderOf_12 : decode cX9_orderOf 12 = .ok (.imul, 1) := by decide +kernel
theorem dX9_orderOf_13 : decode cX9_orderOf 13 = .ok (.aload_n 0, 1) := by decide +kernel
theorem dX9_orderOf_14 : decode cX9_orderOf 14 = .ok (.getfield 25, 3) := by decide +kernel
theorem dX9_orderOf_17 : decode cX9_orderOf 17 = .ok (.iload_n 1, 1) := by decide +kernel
theorem dX9_orderOf_18 : decode cX9_orderOf 18 = .ok (.iload_n 2, 1) := by decide +kernel
theorem dX9_orderOf_19 : decode cX9_orderOf 19 = .ok (.invokestatic 64, 3) := by decide +kernel
theorem dX9_orderOf_22 : decode cX9_orderOf 22 = .ok (.iaload, 1) := by decide +kernel
theorem dX9_orderOf_23 : decode cX9_orderOf 23 = .ok (.aload_n 0, 1) := by decide +kernel
theorem dX9_orderOf_24 : decode cX9_orderOf 24 = .ok (.getfield 35, 3) := by decide +kernel
theorem dX9_orderOf_27 : decode cX9_orderOf 27 = .ok (.sipush 150, 3) := by decide +kernel
theorem dX9_orderOf_30 : decode cX9_orderOf 30 = .ok (.iload_n 3, 1) := by decide +kernel
theorem dX9_orderOf_31 : decode cX9_orderOf 31 = .ok (.iload 4, 2) := by decide +kernel
theorem dX9_orderOf_33 : decode cX9_orderOf 33 = .ok (.invokestatic 64, 3) := by decide +kernel
theorem dX9_orderOf_36 : decode cX9_orderOf 36 = .ok (.imul, 1) := by decide +kernel
theorem dX9_orderOf_37 : decode cX9_orderOf 37 = .ok (.aload_n 0, 1) := by decide +kernel
theorem dX9_orderOf_38 : decode cX9_orderOf 38 = .ok (.getfield 25, 3) := by decide +kernel
theorem dX9_orderOf_41 : decode cX9_orderOf 41 = .ok (.iload_n 3, 1) := by decide +kernel
theorem dX9_orderOf_42 : decode cX9_orderOf 42 = .ok (.iload 4, 2) := by decide +kernel
theorem dX9_orderOf_44 : decode cX9_orderOf 44 = .ok (.invokestatic 64, 3) := by decide +kernel
theorem dX9_orderOf_47 : decode cX9_orderOf 47 = .ok (.iaload, 1) := by decide +kernel
theorem dX9_orderOf_48 : decode cX9_orderOf 48 = .ok (.invokestatic 80, 3) := by decide +kernel
theorem dX9_orderOf_51 : decode cX9_orderOf 51 = .ok (.ireturn, 1) := by decide +kernel
set_option maxRecDepth 20000 in
theorem ggX9_find_X9_place : GoodIn wsX9_find wsX9_place := goodIn_r _ [7] (by decide +kernel) (by decide +kernel)
set_option maxRecDepth 20000 in
theorem gX9_find_X9_place : GoodIn wsX9_find (va_wsS RX9 64 yX9_place wsX9_place) := goodIn_app (goodIn_of _ (by decide +kernel)) ggX9_find_X9_place
set_option maxRecDepth 20000 in
theorem ggX9_find_X9_order : GoodIn wsX9_find wsX9_order := goodIn_r _ [10, 11, 12, 6, 13] (by decide +kernel) (by decide +kernel)
set_option maxRecDepth 20000 in
theorem gX9_find_X9_order : GoodIn wsX9_find (va_wsS RX9 80 yX9_order wsX9_order) := goodIn_app (goodIn_of _ (by decide +kernel)) ggX9_find_X9_order
theorem dX9_find_0 : decode cX9_find 0 = .ok (.iconst (-1), 1) := by decide +kernel
theorem dX9_find_1 : decode cX9_find 1 = .ok (.istore 4, 2) := by decide +kernel
theorem dX9_find_3 : decode cX9_find 3 = .ok (.iconst 0, 1) := by decide +kernel
theorem dX9_find_4 : decode cX9_find 4 = .ok (.istore 5, 2) := by decide +kernel
theorem dX9_find_6 : decode cX9_find 6 = .ok (.iload 5, 2) := by decide +kernel
theorem dX9_find_8 : decode cX9_find 8 = .ok (.aload_n 0, 1) := by decide +kernel
theorem dX9_find_9 : decode cX9_find 9 = .ok (.getfield 7, 3) := by decide +kernel
theorem dX9_find_12 : decode cX9_find 12 = .ok (.iload_n 1, 1) := by decide +kernel
theorem dX9_find_13 : decode cX9_find 13 = .ok (.iaload, 1) := by decide +kernel
theorem dX9_find_14 : decode cX9_find 14 = .ok (.if_icmp .ge 52, 3) := by decide +kernel
theorem dX9_find_17 : decode cX9_find 17 = .ok (.aload_n 0, 1) := by decide +kernel
theorem dX9_find_18 : decode cX9_find 18 = .ok (.getfield 35, 3) := by decide +kernel
theorem dX9_find_21 : decode cX9_find 21 = .ok (.sipush 150, 3) := by decide +kernel
theorem dX9_find_24 : decode cX9_find 24 = .ok (.iload_n 1, 1) := by decide +kernel
theorem dX9_find_25 : decode cX9_find 25 = .ok (.iload 5, 2) := by decide +kernel
theorem dX9_find_27 : decode cX9_find 27 = .ok (.invokestatic 64, 3) := by decide +kernel
theorem dX9_find_30 : decode cX9_find 30 = .ok (.imul, 1) := by decide +kernel
theorem dX9_find_31 : decode cX9_find 31 = .ok (.aload_n 0, 1) := by decide +kernel
theorem dX9_find_32 : decode cX9_find 32 = .ok (.getfield 25, 3) := by decide +kernel
theorem dX9_find_35 : decode cX9_find 35 = .ok (.iload_n 1, 1) := by decide +kernel
theorem dX9_find_36 : decode cX9_find 36 = .ok (.iload 5, 2) := by decide +kernel
theorem dX9_find_38 : decode cX9_find 38 = .ok (.invokestatic 64, 3) := by decide +kernel
theorem dX9_find_41 : decode cX9_find 41 = .ok (.iaload, 1) := by decide +kernel
theorem dX9_find_42 : decode cX9_find 42 = .ok (.aload_n 2, 1) := by decide +kernel
theorem dX9_find_43 : decode cX9_find 43 = .ok (.iconst 0, 1) := by decide +kernel
theorem dX9_find_44 : decode cX9_find 44 = .ok (.iload_n 3, 1) := by decide +kernel
theorem dX9_find_45 : decode cX9_find 45 = .ok (.invokestatic 80, 3) := by decide +kernel
theorem dX9_find_48 : decode cX9_find 48 = .ok (.ifCond .ne 8, 3) := by decide +kernel
theorem dX9_find_51 : decode cX9_find 51 = .ok (.iload 5, 2) := by decide +kernel
theorem dX9_find_53 : decode cX9_find 53 = .ok (.goto 5, 3) := by decide +kernel
theorem dX9_find_56 : decode cX9_find 56 = .ok (.iload 4, 2) := by decide +kernel
theorem dX9_find_58 : decode cX9_find 58 = .ok (.istore 4, 2) := by decide +kernel
theorem dX9_find_60 : decode cX9_find 60 = .ok (.iinc 5 1, 3) := by decide +kernel
theorem dX9_find_63 : decode cX9_find 63 = .ok (.goto (-57), 3) := by decide +kernel
theorem dX9_find_66 : decode cX9_find 66 = .ok (.iload 4, 2) := by decide +kernel
theorem dX9_find_68 : decode cX9_find 68 = .ok (.ireturn, 1) := by decide +kernel
set_option maxRecDepth 20000 in
theorem ggX9_isSame_X9_place : GoodIn wsX9_isSame wsX9_place := goodIn_r _ [10] (by decide +kernel) (by decide +kernel)
set_option maxRecDepth 20000 in
theorem gX9_isSame_X9_place : GoodIn wsX9_isSame (va_wsS RX9 64 yX9_place wsX9_place) := goodIn_app (goodIn_of _ (by decide +kernel)) ggX9_isSame_X9_place
theorem dX9_isSame_0 : decode cX9_isSame 0 = .ok (.iload_n 1, 1) := by decide +kernel
theorem dX9_isSame_1 : decode cX9_isSame 1 = .ok (.iload_n 2, 1) := by decide +kernel
theorem dX9_isSame_2 : decode cX9_isSame 2 = .ok (.invokestatic 64, 3) := by decide +kernel
theorem dX9_isSame_5 : decode cX9_isSame 5 = .ok (.istore 5, 2) := by decide +kernel
theorem dX9_isSame_7 : decode cX9_isSame 7 = .ok (.iload_n 3, 1) := by decide +kernel
theorem dX9_isSame_8 : decode cX9_isSame 8 = .ok (.iload 4, 2) := by decide +kernel
theorem dX9_isSame_10 : decode cX9_isSame 10 = .ok (.invokestatic 64, 3) := by decide +kernel
theorem dX9_isSame_13 : decode cX9_isSame 13 = .ok (.istore 6, 2) := by decide +kernel
theorem dX9_isSame_15 : decode cX9_isSame 15 = .ok (.aload_n 0, 1) := by decide +kernel
theorem dX9_isSame_16 : decode cX9_isSame 16 = .ok (.getfield 16, 3) := by decide +kernel
theorem dX9_isSame_19 : decode cX9_isSame 19 = .ok (.iload 5, 2) := by decide +kernel
theorem dX9_isSame_21 : decode cX9_isSame 21 = .ok (.iaload, 1) := by decide +kernel
theorem dX9_isSame_22 : decode cX9_isSame 22 = .ok (.aload_n 0, 1) := by decide +kernel
theorem dX9_isSame_23 : decode cX9_isSame 23 = .ok (.getfield 16, 3) := by decide +kernel
theorem dX9_isSame_26 : decode cX9_isSame 26 = .ok (.iload 6, 2) := by decide +kernel
theorem dX9_isSame_28 : decode cX9_isSame 28 = .ok (.iaload, 1) := by decide +kernel
theorem dX9_isSame_29 : decode cX9_isSame 29 = .ok (.if_icmp .ne 58, 3) := by decide +kernel
theorem dX9_isSame_32 : decode cX9_isSame 32 = .ok (.aload_n 0, 1) := by decide +kernel
theorem dX9_isSame_33 : decode cX9_isSame 33 = .ok (.getfield 19, 3) := by decide +kernel
theorem dX9_isSame_36 : decode cX9_isSame 36 = .ok (.iload 5, 2) := by decide +kernel
theorem dX9_isSame_38 : decode cX9_isSame 38 = .ok (.iaload, 1) := by decide +kernel
theorem dX9_isSame_39 : decode cX9_isSame 39 = .ok (.aload_n 0, 1) := by decide +kernel
theorem dX9_isSame_40 : decode cX9_isSame 40 = .ok (.getfield 19, 3) := by decide +kernel
theorem dX9_isSame_43 : decode cX9_isSame 43 = .ok (.iload 6, 2) := by decide +kernel
theorem dX9_isSame_45 : decode cX9_isSame 45 = .ok (.iaload, 1) := by decide +kernel
theorem dX9_isSame_46 : decode cX9_isSame 46 = .ok (.if_icmp .ne 41, 3) := by decide +kernel
theorem dX9_isSame_49 : decode cX9_isSame 49 = .ok (.aload_n 0, 1) := by decide +kernel
theorem dX9_isSame_50 : decode cX9_isSame 50 = .ok (.getfield 22, 3) := by decide +kernel
theorem dX9_isSame_53 : decode cX9_isSame 53 = .ok (.iload 5, 2) := by decide +kernel
theorem dX9_isSame_55 : decode cX9_isSame 55 = .ok (.iaload, 1) := by decide +kernel
theorem dX9_isSame_56 : decode cX9_isSame 56 = .ok (.aload_n 0, 1) := by decide +kernel
theorem dX9_isSame_57 : decode cX9_isSame 57 = .ok (.getfield 22, 3) := by decide +kernel
theorem dX9_isSame_60 : decode cX9_isSame 60 = .ok (.iload 6, 2) := by decide +kernel
theorem dX9_isSame_62 : decode cX9_isSame 62 = .ok (.iaload, 1) := by decide +kernel
theorem dX9_isSame_63 : decode cX9_isSame 63 = .ok (.if_icmp .ne 24, 3) := by decide +kernel
theorem dX9_isSame_66 : decode cX9_isSame 66 = .ok (.aload_n 0, 1) := by decide +kernel
theorem dX9_isSame_67 : decode cX9_isSame 67 = .ok (.getfield 31, 3) := by decide +kernel
theorem dX9_isSame_70 : decode cX9_isSame 70 = .ok (.iload 5, 2) := by decide +kernel
theorem dX9_isSame_72 : decode cX9_isSame 72 = .ok (.iaload, 1) := by decide +kernel
theorem dX9_isSame_73 : decode cX9_isSame 73 = .ok (.aload_n 0, 1) := by decide +kernel
theorem dX9_isSame_74 : decode cX9_isSame 74 = .ok (.getfield 31, 3) := by decide +kernel
theorem dX9_isSame_77 : decode cX9_isSame 77 = .ok (.iload 6, 2) := by decide +kernel
theorem dX9_isSame_79 : decode cX9_isSame 79 = .ok (.iaload, 1) := by decide +kernel
theorem dX9_isSame_80 : decode cX9_isSame 80 = .ok (.if_icmp .ne 7, 3) := by decide +kernel
theorem dX9_isSame_83 : decode cX9_isSame 83 = .ok (.iconst 1, 1) := by decide +kernel
theorem dX9_isSame_84 : decode cX9_isSame 84 = .ok (.goto 4, 3) := by decide +kernel
theorem dX9_isSame_87 : decode cX9_isSame 87 = .ok (.iconst 0, 1) := by decide +kernel
theorem dX9_isSame_88 : decode cX9_isSame 88 = .ok (.istore 7, 2) := by decide +kernel
theorem dX9_isSame_90 : decode cX9_isSame 90 = .ok (.iconst 0, 1) := by decide +kernel
theorem dX9_isSame_91 : decode cX9_isSame 91 = .ok (.istore 8, 2) := by decide +kernel
theorem dX9_isSame_93 : decode cX9_isSame 93 = .ok (.iload 8, 2) := by decide +kernel
theorem dX9_isSame_95 : decode cX9_isSame 95 = .ok (.aload_n 0, 1) := by decide +kernel
theorem dX9_isSame_96 : decode cX9_isSame 96 = .ok (.getfield 31, 3) := by decide +kernel
theorem dX9_isSame_99 : decode cX9_isSame 99 = .ok (.iload 5, 2) := by decide +kernel
theorem dX9_isSame_101 : decode cX9_isSame 101 = .ok (.iaload, 1) := by decide +kernel
theorem dX9_isSame_102 : decode cX9_isSame 102 = .ok (.if_icmp .ge 66, 3) := by decide +kernel
theorem dX9_isSame_105 : decode cX9_isSame 105 = .ok (.iload 7, 2) := by decide +kernel
theorem dX9_isSame_107 : decode cX9_isSame 107 = .ok (.ifCond .eq 61, 3) := by decide +kernel
theorem dX9_isSame_110 : decode cX9_isSame 110 = .ok (.aload_n 0, 1) := by decide +kernel
theorem dX9_isSame_111 : decode cX9_isSame 111 = .ok (.getfield 39, 3) := by decide +kernel
theorem dX9_isSame_114 : decode cX9_isSame 114 = .ok (.sipush 8000, 3) := by decide +kernel
theorem dX9_isSame_117 : decode cX9_isSame 117 = .ok (.iload_n 1, 1) := by decide +kernel
theorem dX9_isSame_118 : decode cX9_isSame 118 = .ok (.imul, 1) := by decide +kernel
theorem dX9_isSame_119 : decode cX9_isSame 119 = .ok (.aload_n 0, 1) := by decide +kernel
theorem dX9_isSame_120 : decode cX9_isSame 120 = .ok (.getfield 28, 3) := by decide +kernel
theorem dX9_isSame_123 : decode cX9_isSame 123 = .ok (.iload 5, 2) := by decide +kernel
theorem dX9_isSame_125 : decode cX9_isSame 125 = .ok (.iaload, 1) := by decide +kernel
theorem dX9_isSame_126 : decode cX9_isSame 126 = .ok (.iadd, 1) := by decide +kernel
theorem dX9_isSame_127 : decode cX9_isSame 127 = .ok (.iload 8, 2) := by decide +kernel
theorem dX9_isSame_129 : decode cX9_isSame 129 = .ok (.iadd, 1) := by decide +kernel
theorem dX9_isSame_130 : decode cX9_isSame 130 = .ok (.iaload, 1) := by decide +kernel
theorem dX9_isSame_131 : decode cX9_isSame 131 = .ok (.aload_n 0, 1) := by decide +kernel
theorem dX9_isSame_132 : decode cX9_isSame 132 = .ok (.getfield 39, 3) := by decide +kernel
theorem dX9_isSame_135 : decode cX9_isSame 135 = .ok (.sipush 8000, 3) := by decide +kernel
theorem dX9_isSame_138 : decode cX9_isSame 138 = .ok (.iload_n 3, 1) := by decide +kernel
theorem dX9_isSame_139 : decode cX9_isSame 139 = .ok (.imul, 1) := by decide +kernel
theorem dX9_isSame_140 : decode cX9_isSame 140 = .ok (.aload_n 0, 1) := by decide +kernel
theorem dX9_isSame_141 : decode cX9_isSame 141 = .ok (.getfield 28, 3) := by decide +kernel
theorem dX9_isSame_144 : decode cX9_isSame 144 = .ok (.iload 6, 2) := by decide +kernel
theorem dX9_isSame_146 : decode cX9_isSame 146 = .ok (.iaload, 1) := by decide +kernel
theorem dX9_isSame_147 : decode cX9_isSame 147 = .ok (.iadd, 1) := by decide +kernel
theorem dX9_isSame_148 : decode cX9_isSame 148 = .ok (.iload 8, 2) := by decide +kernel
theorem dX9_isSame_150 : decode cX9_isSame 150 = .ok (.iadd, 1) := by decide +kernel
theorem dX9_isSame_151 : decode cX9_isSame 151 = .ok (.iaload, 1) := by decide +kernel
theorem dX9_isSame_152 : decode cX9_isSame 152 = .ok (.if_icmp .ne 7, 3) := by decide +kernel
theorem dX9_isSame_155 : decode cX9_isSame 155 = .ok (.iconst 1, 1) := by decide +kernel
theorem dX9_isSame_156 : decode cX9_isSame 156 = .ok (.goto 4, 3) := by decide +kernel
theorem dX9_isSame_159 : decode cX9_isSame 159 = .ok (.iconst 0, 1) := by decide +kernel
theorem dX9_isSame_160 : decode cX9_isSame 160 = .ok (.istore 7, 2) := by decide +kernel
theorem dX9_isSame_162 : decode cX9_isSame 162 = .ok (.iinc 8 1, 3) := by decide +kernel
theorem dX9_isSame_165 : decode cX9_isSame 165 = .ok (.goto (-72), 3) := by decide +kernel
theorem dX9_isSame_168 : decode cX9_isSame 168 = .ok (.iload 7, 2) := by decide +kernel
theorem dX9_isSame_170 : decode cX9_isSame 170 = .ok (.ireturn, 1) := by decide +kernel
set_option maxRecDepth 20000 in
theorem ggX9_join_X9_empty : GoodIn wsX9_join wsX9_empty := goodIn_r _ [6, 1, 7, 37, 38, 39, 40, 41, 42, 43, 44, 45, 46, 47, 48, 49, 50, 51, 52, 53, 54, 55, 56, 57, 58, 59, 60] (by decide +kernel) (by decide +kernel)
set_option maxRecDepth 20000 in
theorem gX9_join_X9_empty : GoodIn wsX9_join (wsV RX9 68 RX9 yX9_empty wsX9_empty) := goodIn_app (goodIn_of _ (by decide +kernel)) ggX9_join_X9_empty
set_option maxRecDepth 20000 in
theorem ggX9_join_X9_orderOf : GoodIn wsX9_join wsX9_orderOf := goodIn_r _ [11, 12, 13, 14, 15, 5, 16, 17, 18, 19, 20, 21, 22, 37, 38, 39, 40, 41, 42, 43, 44, 45, 46, 47, 48, 49, 50, 51, 52, 53, 54, 55, 56, 57, 58, 59, 60] (by decide +kernel) (by decide +kernel)
set_option maxRecDepth 20000 in
theorem gX9_join_X9_orderOf : GoodIn wsX9_join (wsV RX9 84 RX9 yX9_orderOf wsX9_orderOf) := goodIn_app (goodIn_of _ (by decide +kernel)) ggX9_join_X9_orderOf
set_option maxRecDepth 20000 in
theorem ggX9_join_X9_isSame : GoodIn wsX9_join wsX9_isSame := goodIn_r _ [26, 27, 28, 29, 30, 31, 32, 14, 15, 5, 16, 37, 38, 39, 40, 41, 42, 43, 44, 45, 46, 47, 48, 49, 50, 51, 52, 53, 54, 55, 56, 57, 58, 59, 60] (by decide +kernel) (by decide +kernel)
set_option maxRecDepth 20000 in
theorem gX9_join_X9_isSame : GoodIn wsX9_join (wsV RX9 88 RX9 yX9_isSame wsX9_isSame) := goodIn_app (goodIn_of _ (by decide +kernel)) ggX9_join_X9_isSame
set_option maxRecDepth 20000 in
theorem ggX9_join_X9_append : GoodIn wsX9_join wsX9_append := goodIn_r _ [36, 1, 27, 28, 29, 13, 12, 30, 32, 7, 31, 14, 15, 5, 16, 37, 38, 39, 40, 41, 42, 43, 44, 45, 46, 47, 48, 49, 50, 51, 52, 53, 54, 55, 56, 57, 58, 59, 60] (by decide +kernel) (by decide +kernel)
set_option maxRecDepth 20000 in
theorem gX9_join_X9_append : GoodIn wsX9_join (wsV RX9 72 RX9 yX9_append wsX9_append) := goodIn_app (goodIn_of _ (by decide +kernel)) ggX9_join_X9_append
theorem dX9_join_0 : decode cX9_join 0 = .ok (.iload 4, 2) := by decide +kernel
theorem dX9_join_2 : decode cX9_join 2 = .ok (.ifCond .lt 9, 3) := by decide +kernel
theorem dX9_join_5 : decode cX9_join 5 = .ok (.aload_n 0, 1) := by decide +kernel
theorem dX9_join_6 : decode cX9_join 6 = .ok (.iload 4, 2) := by decide +kernel
theorem dX9_join_8 : decode cX9_join 8 = .ok (.invokevirtual 68, 3) := by decide +kernel
theorem dX9_join_11 : decode cX9_join 11 = .ok (.iconst 0, 1) := by decide +kernel
theorem dX9_join_12 : decode cX9_join 12 = .ok (.istore 5, 2) := by decide +kernel
theorem dX9_join_14 : decode cX9_join 14 = .ok (.iconst 0, 1) := by decide +kernel
theorem dX9_join_15 : decode cX9_join 15 = .ok (.istore 6, 2) := by decide +kernel
theorem dX9_join_17 : decode cX9_join 17 = .ok (.iconst 0, 1) := by decide +kernel
theorem dX9_join_18 : decode cX9_join 18 = .ok (.istore 7, 2) := by decide +kernel
theorem dX9_join_20 : decode cX9_join 20 = .ok (.iload 5, 2) := by decide +kernel
theorem dX9_join_22 : decode cX9_join 22 = .ok (.aload_n 0, 1) := by decide +kernel
theorem dX9_join_23 : decode cX9_join 23 = .ok (.getfield 7, 3) := by decide +kernel
theorem dX9_join_26 : decode cX9_join 26 = .ok (.iload_n 1, 1) := by decide +kernel
theorem dX9_join_27 : decode cX9_join 27 = .ok (.iaload, 1) := by decide +kernel
theorem dX9_join_28 : decode cX9_join 28 = .ok (.if_icmp .lt 14, 3) := by decide +kernel
theorem dX9_join_31 : decode cX9_join 31 = .ok (.iload 6, 2) := by decide +kernel
theorem dX9_join_33 : decode cX9_join 33 = .ok (.aload_n 0, 1) := by decide +kernel
theorem dX9_join_34 : decode cX9_join 34 = .ok (.getfield 7, 3) := by decide +kernel
theorem dX9_join_37 : decode cX9_join 37 = .ok (.iload_n 2, 1) := by decide +kernel
theorem dX9_join_38 : decode cX9_join 38 = .ok (.iaload, 1) := by decide +kernel
theorem dX9_join_39 : decode cX9_join 39 = .ok (.if_icmp .ge 184, 3) := by decide +kernel
theorem dX9_join_42 : decode cX9_join 42 = .ok (.iload 5, 2) := by decide +kernel
theorem dX9_join_44 : decode cX9_join 44 = .ok (.aload_n 0, 1) := by decide +kernel
theorem dX9_join_45 : decode cX9_join 45 = .ok (.getfield 7, 3) := by decide +kernel
theorem dX9_join_48 : decode cX9_join 48 = .ok (.iload_n 1, 1) := by decide +kernel
theorem dX9_join_49 : decode cX9_join 49 = .ok (.iaload, 1) := by decide +kernel
theorem dX9_join_50 : decode cX9_join 50 = .ok (.if_icmp .ne 7, 3) := by decide +kernel
theorem dX9_join_53 : decode cX9_join 53 = .ok (.iconst 1, 1) := by decide +kernel
theorem dX9_join_54 : decode cX9_join 54 = .ok (.goto 28, 3) := by decide +kernel
theorem dX9_join_57 : decode cX9_join 57 = .ok (.iload 6, 2) := by decide +kernel
theorem dX9_join_59 : decode cX9_join 59 = .ok (.aload_n 0, 1) := by decide +kernel
theorem dX9_join_60 : decode cX9_join 60 = .ok (.getfield 7, 3) := by decide +kernel
theorem dX9_join_63 : decode cX9_join 63 = .ok (.iload_n 2, 1) := by decide +kernel
theorem dX9_join_64 : decode cX9_join 64 = .ok (.iaload, 1) := by decide +kernel
theorem dX9_join_65 : decode cX9_join 65 = .ok (.if_icmp .ne 7, 3) := by decide +kernel
theorem dX9_join_68 : decode cX9_join 68 = .ok (.iconst (-1), 1) := by decide +kernel
theorem dX9_join_69 : decode cX9_join 69 = .ok (.goto 13, 3) := by decide +kernel
theorem dX9_join_72 : decode cX9_join 72 = .ok (.aload_n 0, 1) := by decide +kernel
theorem dX9_join_73 : decode cX9_join 73 = .ok (.iload_n 1, 1) := by decide +kernel
theorem dX9_join_74 : decode cX9_join 74 = .ok (.iload 5, 2) := by decide +kernel
theorem dX9_join_76 : decode cX9_join 76 = .ok (.iload_n 2, 1) := by decide +kernel
theorem dX9_join_77 : decode cX9_join 77 = .ok (.iload 6, 2) := by decide +kernel
theorem dX9_join_79 : decode cX9_join 79 = .ok (.invokevirtual 84, 3) := by decide +kernel
theorem dX9_join_82 : decode cX9_join 82 = .ok (.istore 8, 2) := by decide +kernel
theorem dX9_join_84 : decode cX9_join 84 = .ok (.iload 8, 2) := by decide +kernel
theorem dX9_join_86 : decode cX9_join 86 = .ok (.ifCond .ne 16, 3) := by decide +kernel
theorem dX9_join_89 : decode cX9_join 89 = .ok (.aload_n 0, 1) := by decide +kernel
theorem dX9_join_90 : decode cX9_join 90 = .ok (.iload_n 1, 1) := by decide +kernel
theorem dX9_join_91 : decode cX9_join 91 = .ok (.iload 5, 2) := by decide +kernel
theorem dX9_join_93 : decode cX9_join 93 = .ok (.iload_n 2, 1) := by decide +kernel
theorem dX9_join_94 : decode cX9_join 94 = .ok (.iload 6, 2) := by decide +kernel
theorem dX9_join_96 : decode cX9_join 96 = .ok (.invokevirtual 88, 3) := by decide +kernel
theorem dX9_join_99 : decode cX9_join 99 = .ok (.ifCond .ne 7, 3) := by decide +kernel
theorem dX9_join_102 : decode cX9_join 102 = .ok (.iconst 1, 1) := by decide +kernel
theorem dX9_join_103 : decode cX9_join 103 = .ok (.goto 4, 3) := by decide +kernel
theorem dX9_join_106 : decode cX9_join 106 = .ok (.iconst 0, 1) := by decide +kernel
theorem dX9_join_107 : decode cX9_join 107 = .ok (.istore 9, 2) := by decide +kernel
theorem dX9_join_109 : decode cX9_join 109 = .ok (.iload 9, 2) := by decide +kernel
theorem dX9_join_111 : decode cX9_join 111 = .ok (.ifCond .eq 13, 3) := by decide +kernel
theorem dX9_join_114 : decode cX9_join 114 = .ok (.iload 7, 2) := by decide +kernel
theorem dX9_join_116 : decode cX9_join 116 = .ok (.iload_n 3, 1) := by decide +kernel
theorem dX9_join_117 : decode cX9_join 117 = .ok (.if_icmp .ge 7, 3) := by decide +kernel
theorem dX9_join_120 : decode cX9_join 120 = .ok (.iconst 1, 1) := by decide +kernel
theorem dX9_join_121 : decode cX9_join 121 = .ok (.goto 4, 3) := by decide +kernel
theorem dX9_join_124 : decode cX9_join 124 = .ok (.iconst 0, 1) := by decide +kernel
theorem dX9_join_125 : decode cX9_join 125 = .ok (.istore 10, 2) := by decide +kernel
theorem dX9_join_127 : decode cX9_join 127 = .ok (.iload 4, 2) := by decide +kernel
theorem dX9_join_129 : decode cX9_join 129 = .ok (.ifCond .lt 22, 3) := by decide +kernel
theorem dX9_join_132 : decode cX9_join 132 = .ok (.iload 10, 2) := by decide +kernel
theorem dX9_join_134 : decode cX9_join 134 = .ok (.ifCond .eq 17, 3) := by decide +kernel
theorem dX9_join_137 : decode cX9_join 137 = .ok (.iload 8, 2) := by decide +kernel
theorem dX9_join_139 : decode cX9_join 139 = .ok (.ifCond .lt 12, 3) := by decide +kernel
theorem dX9_join_142 : decode cX9_join 142 = .ok (.aload_n 0, 1) := by decide +kernel
theorem dX9_join_143 : decode cX9_join 143 = .ok (.iload_n 2, 1) := by decide +kernel
theorem dX9_join_144 : decode cX9_join 144 = .ok (.iload 6, 2) := by decide +kernel
theorem dX9_join_146 : decode cX9_join 146 = .ok (.iload 4, 2) := by decide +kernel
theorem dX9_join_148 : decode cX9_join 148 = .ok (.invokevirtual 72, 3) := by decide +kernel
theorem dX9_join_151 : decode cX9_join 151 = .ok (.iload 4, 2) := by decide +kernel
theorem dX9_join_153 : decode cX9_join 153 = .ok (.ifCond .lt 22, 3) := by decide +kernel
theorem dX9_join_156 : decode cX9_join 156 = .ok (.iload 10, 2) := by decide +kernel
theorem dX9_join_158 : decode cX9_join 158 = .ok (.ifCond .ne 17, 3) := by decide +kernel
theorem dX9_join_161 : decode cX9_join 161 = .ok (.iload 8, 2) := by decide +kernel
theorem dX9_join_163 : decode cX9_join 163 = .ok (.ifCond .gt 12, 3) := by decide +kernel
theorem dX9_join_166 : decode cX9_join 166 = .ok (.aload_n 0, 1) := by decide +kernel
theorem dX9_join_167 : decode cX9_join 167 = .ok (.iload_n 1, 1) := by decide +kernel
theorem dX9_join_168 : decode cX9_join 168 = .ok (.iload 5, 2) := by decide +kernel
theorem dX9_join_170 : decode cX9_join 170 = .ok (.iload 4, 2) := by decide +kernel
theorem dX9_join_172 : decode cX9_join 172 = .ok (.invokevirtual 72, 3) := by decide +kernel
theorem dX9_join_175 : decode cX9_join 175 = .ok (.iload 7, 2) := by decide +kernel
theorem dX9_join_177 : decode cX9_join 177 = .ok (.iload 9, 2) := by decide +kernel
theorem dX9_join_179 : decode cX9_join 179 = .ok (.ifCond .eq 7, 3) := by decide +kernel
theorem dX9_join_182 : decode cX9_join 182 = .ok (.iconst 1, 1) := by decide +kernel
theorem dX9_join_183 : decode cX9_join 183 = .ok (.goto 4, 3) := by decide +kernel
theorem dX9_join_186 : decode cX9_join 186 = .ok (.iconst 0, 1) := by decide +kernel
theorem dX9_join_187 : decode cX9_join 187 = .ok (.iadd, 1) := by decide +kernel
theorem dX9_join_188 : decode cX9_join 188 = .ok (.istore 7, 2) := by decide +kernel
theorem dX9_join_190 : decode cX9_join 190 = .ok (.iload 5, 2) := by decide +kernel
theorem dX9_join_192 : decode cX9_join 192 = .ok (.iload 8, 2) := by decide +kernel
theorem dX9_join_194 : decode cX9_join 194 = .ok (.ifCond .gt 7, 3) := by decide +kernel
theorem dX9_join_197 : decode cX9_join 197 = .ok (.iconst 1, 1) := by decide +kernel
theorem dX9_join_198 : decode cX9_join 198 = .ok (.goto 4, 3) := by decide +kernel
theorem dX9_join_201 : decode cX9_join 201 = .ok (.iconst 0, 1) := by decide +kernel
theorem dX9_join_202 : decode cX9_join 202 = .ok (.iadd, 1) := by decide +kernel
theorem dX9_join_203 : decode cX9_join 203 = .ok (.istore 5, 2) := by decide +kernel
theorem dX9_join_205 : decode cX9_join 205 = .ok (.iload 6, 2) := by decide +kernel
theorem dX9_join_207 : decode cX9_join 207 = .ok (.iload 8, 2) := by decide +kernel
theorem dX9_join_209 : decode cX9_join 209 = .ok (.ifCond .lt 7, 3) := by decide +kernel
theorem dX9_join_212 : decode cX9_join 212 = .ok (.iconst 1, 1) := by decide +kernel
theorem dX9_join_213 : decode cX9_join 213 = .ok (.goto 4, 3) := by decide +kernel
theorem dX9_join_216 : decode cX9_join 216 = .ok (.iconst 0, 1) := by decide +kernel
theorem dX9_join_217 : decode cX9_join 217 = .ok (.iadd, 1) := by decide +kernel
theorem dX9_join_218 : decode cX9_join 218 = .ok (.istore 6, 2) := by decide +kernel
theorem dX9_join_220 : decode cX9_join 220 = .ok (.goto (-200), 3) := by decide +kernel
theorem dX9_join_223 : decode cX9_join 223 = .ok (.iload 7, 2) := by decide +kernel
theorem dX9_join_225 : decode cX9_join 225 = .ok (.ireturn, 1) := by decide +kernel
theorem dX9_isName_0 : decode cX9_isName 0 = .ok (.iload_n 2, 1) := by decide +kernel
theorem dX9_isName_1 : decode cX9_isName 1 = .ok (.iconst 1, 1) := by decide +kernel
theorem dX9_isName_2 : decode cX9_isName 2 = .ok (.if_icmp .lt 9, 3) := by decide +kernel
theorem dX9_isName_5 : decode cX9_isName 5 = .ok (.iload_n 2, 1) := by decide +kernel
theorem dX9_isName_6 : decode cX9_isName 6 = .ok (.bipush 24, 2) := by decide +kernel
theorem dX9_isName_8 : decode cX9_isName 8 = .ok (.if_icmp .le 5, 3) := by decide +kernel
theorem dX9_isName_11 : decode cX9_isName 11 = .ok (.iconst 0, 1) := by decide +kernel
theorem dX9_isName_12 : decode cX9_isName 12 = .ok (.ireturn, 1) := by decide +kernel
theorem dX9_isName_13 : decode cX9_isName 13 = .ok (.aload_n 0, 1) := by decide +kernel
theorem dX9_isName_14 : decode cX9_isName 14 = .ok (.iload_n 1, 1) := by decide +kernel
theorem dX9_isName_15 : decode cX9_isName 15 = .ok (.iaload, 1) := by decide +kernel
theorem dX9_isName_16 : decode cX9_isName 16 = .ok (.bipush 46, 2) := by decide +kernel
theorem dX9_isName_18 : decode cX9_isName 18 = .ok (.if_icmp .ne 27, 3) := by decide +kernel
theorem dX9_isName_21 : decode cX9_isName 21 = .ok (.iload_n 2, 1) := by decide +kernel
theorem dX9_isName_22 : decode cX9_isName 22 = .ok (.iconst 1, 1) := by decide +kernel
theorem dX9_isName_23 : decode cX9_isName 23 = .ok (.if_icmp .eq 18, 3) := by decide +kernel
theorem dX9_isName_26 : decode cX9_isName 26 = .ok (.iload_n 2, 1) := by decide +kernel
theorem dX9_isName_27 : decode cX9_isName 27 = .ok (.iconst 2, 1) := by decide +kernel
theorem dX9_isName_28 : decode cX9_isName 28 = .ok (.if_icmp .ne 17, 3) := by decide +kernel
theorem dX9_isName_31 : decode cX9_isName 31 = .ok (.aload_n 0, 1) := by decide +kernel
theorem dX9_isName_32 : decode cX9_isName 32 = .ok (.iload_n 1, 1) := by decide +kernel
theorem dX9_isName_33 : decode cX9_isName 33 = .ok (.iconst 1, 1) := by decide +kernel
theorem dX9_isName_34 : decode cX9_isName 34 = .ok (.iadd, 1) := by decide +kernel
theorem dX9_isName_35 : decode cX9_isName 35 = .ok (.iaload, 1) := by decide +kernel
theorem dX9_isName_36 : decode cX9_isName 36 = .ok (.bipush 46, 2) := by decide +kernel
theorem dX9_isName_38 : decode cX9_isName 38 = .ok (.if_icmp .ne 7, 3) := by decide +kernel
theorem dX9_isName_41 : decode cX9_isName 41 = .ok (.iconst 1, 1) := by decide +kernel
theorem dX9_isName_42 : decode cX9_isName 42 = .ok (.goto 4, 3) := by decide +kernel
theorem dX9_isName_45 : decode cX9_isName 45 = .ok (.iconst 0, 1) := by decide +kernel
theorem dX9_isName_46 : decode cX9_isName 46 = .ok (.istore_n 3, 1) := by decide +kernel
theorem dX9_isName_47 : decode cX9_isName 47 = .ok (.iconst 0, 1) := by decide +kernel
theorem dX9_isName_48 : decode cX9_isName 48 = .ok (.istore 4, 2) := by decide +kernel
theorem dX9_isName_50 : decode cX9_isName 50 = .ok (.iconst 0, 1) := by decide +kernel
theorem dX9_isName_51 : decode cX9_isName 51 = .ok (.istore 5, 2) := by decide +kernel
theorem dX9_isName_53 : decode cX9_isName 53 = .ok (.iload 5, 2) := by decide +kernel
theorem dX9_isName_55 : decode cX9_isName 55 = .ok (.iload_n 2, 1) := by decide +kernel
theorem dX9_isName_56 : decode cX9_isName 56 = .ok (.if_icmp .ge 30, 3) := by decide +kernel
theorem dX9_isName_59 : decode cX9_isName 59 = .ok (.iload 4, 2) := by decide +kernel
theorem dX9_isName_61 : decode cX9_isName 61 = .ok (.ifCond .ne 12, 3) := by decide +kernel
theorem dX9_isName_64 : decode cX9_isName 64 = .ok (.aload_n 0, 1) := by decide +kernel
theorem dX9_isName_65 : decode cX9_isName 65 = .ok (.iload_n 1, 1) := by decide +kernel
theorem dX9_isName_66 : decode cX9_isName 66 = .ok (.iload 5, 2) := by decide +kernel
theorem dX9_isName_68 : decode cX9_isName 68 = .ok (.iadd, 1) := by decide +kernel
theorem dX9_isName_69 : decode cX9_isName 69 = .ok (.iaload, 1) := by decide +kernel
theorem dX9_isName_70 : decode cX9_isName 70 = .ok (.ifCond .ne 7, 3) := by decide +kernel
theorem dX9_isName_73 : decode cX9_isName 73 = .ok (.iconst 1, 1) := by decide +kernel
theorem dX9_isName_74 : decode cX9_isName 74 = .ok (.goto 4, 3) := by decide +kernel
theorem dX9_isName_77 : decode cX9_isName 77 = .ok (.iconst 0, 1) := by decide +kernel
theorem dX9_isName_78 : decode cX9_isName 78 = .ok (.istore 4, 2) := by decide +kernel
theorem dX9_isName_80 : decode cX9_isName 80 = .ok (.iinc 5 1, 3) := by decide +kernel
theorem dX9_isName_83 : decode cX9_isName 83 = .ok (.goto (-30), 3) := by decide +kernel
theorem dX9_isName_86 : decode cX9_isName 86 = .ok (.iload_n 3, 1) := by decide +kernel
theorem dX9_isName_87 : decode cX9_isName 87 = .ok (.ifCond .ne 12, 3) := by decide +kernel
theorem dX9_isName_90 : decode cX9_isName 90 = .ok (.iload 4, 2) := by decide +kernel
theorem dX9_isName_92 : decode cX9_isName 92 = .ok (.ifCond .ne 7, 3) := by decide +kernel
theorem dX9_isName_95 : decode cX9_isName 95 = .ok (.iconst 1, 1) := by decide +kernel
theorem dX9_isName_96 : decode cX9_isName 96 = .ok (.goto 4, 3) := by decide +kernel
theorem dX9_isName_99 : decode cX9_isName 99 = .ok (.iconst 0, 1) := by decide +kernel
theorem dX9_isName_100 : decode cX9_isName 100 = .ok (.ireturn, 1) := by decide +kernel
set_option maxRecDepth 20000 in
theorem ggX9_isPath_X9_isName : GoodIn wsX9_isPath wsX9_isName := goodIn_r _ [5] (by decide +kernel) (by decide +kernel)
set_option maxRecDepth 20000 in
theorem gX9_isPath_X9_isName : GoodIn wsX9_isPath (va_wsS RX9 92 yX9_isName wsX9_isName) := goodIn_app (goodIn_of _ (by decide +kernel)) ggX9_isPath_X9_isName
theorem dX9_isPath_0 : decode cX9_isPath 0 = .ok (.iconst 0, 1) := by decide +kernel
theorem dX9_isPath_1 : decode cX9_isPath 1 = .ok (.istore_n 2, 1) := by decide +kernel
theorem dX9_isPath_2 : decode cX9_isPath 2 = .ok (.iconst 0, 1) := by decide +kernel
theorem dX9_isPath_3 : decode cX9_isPath 3 = .ok (.istore_n 3, 1) := by decide +kernel
theorem dX9_isPath_4 : decode cX9_isPath 4 = .ok (.iconst 1, 1) := by decide +kernel
theorem dX9_isPath_5 : decode cX9_isPath 5 = .ok (.istore 4, 2) := by decide +kernel
theorem dX9_isPath_7 : decode cX9_isPath 7 = .ok (.iconst 0, 1) := by decide +kernel
theorem dX9_isPath_8 : decode cX9_isPath 8 = .ok (.istore 5, 2) := by decide +kernel
theorem dX9_isPath_10 : decode cX9_isPath 10 = .ok (.iload 5, 2) := by decide +kernel
theorem dX9_isPath_12 : decode cX9_isPath 12 = .ok (.iload_n 1, 1) := by decide +kernel
theorem dX9_isPath_13 : decode cX9_isPath 13 = .ok (.if_icmp .gt 57, 3) := by decide +kernel
theorem dX9_isPath_16 : decode cX9_isPath 16 = .ok (.iload 4, 2) := by decide +kernel
theorem dX9_isPath_18 : decode cX9_isPath 18 = .ok (.ifCond .eq 52, 3) := by decide +kernel
theorem dX9_isPath_21 : decode cX9_isPath 21 = .ok (.iload 5, 2) := by decide +kernel
theorem dX9_isPath_23 : decode cX9_isPath 23 = .ok (.iload_n 1, 1) := by decide +kernel
theorem dX9_isPath_24 : decode cX9_isPath 24 = .ok (.if_icmp .ge 18, 3) := by decide +kernel
theorem dX9_isPath_27 : decode cX9_isPath 27 = .ok (.aload_n 0, 1) := by decide +kernel
theorem dX9_isPath_28 : decode cX9_isPath 28 = .ok (.getfield 45, 3) := by decide +kernel
theorem dX9_isPath_31 : decode cX9_isPath 31 = .ok (.iload 5, 2) := by decide +kernel
theorem dX9_isPath_33 : decode cX9_isPath 33 = .ok (.iaload, 1) := by decide +kernel
theorem dX9_isPath_34 : decode cX9_isPath 34 = .ok (.bipush 47, 2) := by decide +kernel
theorem dX9_isPath_36 : decode cX9_isPath 36 = .ok (.if_icmp .eq 6, 3) := by decide +kernel
theorem dX9_isPath_39 : decode cX9_isPath 39 = .ok (.goto 25, 3) := by decide +kernel
theorem dX9_isPath_42 : decode cX9_isPath 42 = .ok (.aload_n 0, 1) := by decide +kernel
theorem dX9_isPath_43 : decode cX9_isPath 43 = .ok (.getfield 45, 3) := by decide +kernel
theorem dX9_isPath_46 : decode cX9_isPath 46 = .ok (.iload_n 3, 1) := by decide +kernel
theorem dX9_isPath_47 : decode cX9_isPath 47 = .ok (.iload 5, 2) := by decide +kernel
theorem dX9_isPath_49 : decode cX9_isPath 49 = .ok (.iload_n 3, 1) := by decide +kernel
theorem dX9_isPath_50 : decode cX9_isPath 50 = .ok (.isub, 1) := by decide +kernel
theorem dX9_isPath_51 : decode cX9_isPath 51 = .ok (.invokestatic 92, 3) := by decide +kernel
theorem dX9_isPath_54 : decode cX9_isPath 54 = .ok (.istore 4, 2) := by decide +kernel
theorem dX9_isPath_56 : decode cX9_isPath 56 = .ok (.iinc 2 1, 3) := by decide +kernel
theorem dX9_isPath_59 : decode cX9_isPath 59 = .ok (.iload 5, 2) := by decide +kernel
theorem dX9_isPath_61 : decode cX9_isPath 61 = .ok (.iconst 1, 1) := by decide +kernel
theorem dX9_isPath_62 : decode cX9_isPath 62 = .ok (.iadd, 1) := by decide +kernel
theorem dX9_isPath_63 : decode cX9_isPath 63 = .ok (.istore_n 3, 1) := by decide +kernel
theorem dX9_isPath_64 : decode cX9_isPath 64 = .ok (.iinc 5 1, 3) := by decide +kernel
theorem dX9_isPath_67 : decode cX9_isPath 67 = .ok (.goto (-57), 3) := by decide +kernel
theorem dX9_isPath_70 : decode cX9_isPath 70 = .ok (.iload 4, 2) := by decide +kernel
theorem dX9_isPath_72 : decode cX9_isPath 72 = .ok (.ifCond .eq 13, 3) := by decide +kernel
theorem dX9_isPath_75 : decode cX9_isPath 75 = .ok (.iload_n 2, 1) := by decide +kernel
theorem dX9_isPath_76 : decode cX9_isPath 76 = .ok (.bipush 6, 2) := by decide +kernel
theorem dX9_isPath_78 : decode cX9_isPath 78 = .ok (.if_icmp .gt 7, 3) := by decide +kernel
theorem dX9_isPath_81 : decode cX9_isPath 81 = .ok (.iconst 1, 1) := by decide +kernel
theorem dX9_isPath_82 : decode cX9_isPath 82 = .ok (.goto 4, 3) := by decide +kernel
theorem dX9_isPath_85 : decode cX9_isPath 85 = .ok (.iconst 0, 1) := by decide +kernel
theorem dX9_isPath_86 : decode cX9_isPath 86 = .ok (.ireturn, 1) := by decide +kernel
theorem dX9_chooseTape_0 : decode cX9_chooseTape 0 = .ok (.aload_n 0, 1) := by decide +kernel
theorem dX9_chooseTape_1 : decode cX9_chooseTape 1 = .ok (.iconst 1, 1) := by decide +kernel
theorem dX9_chooseTape_2 : decode cX9_chooseTape 2 = .ok (.putfield 96, 3) := by decide +kernel
theorem dX9_chooseTape_5 : decode cX9_chooseTape 5 = .ok (.aload_n 0, 1) := by decide +kernel
theorem dX9_chooseTape_6 : decode cX9_chooseTape 6 = .ok (.iload_n 1, 1) := by decide +kernel
theorem dX9_chooseTape_7 : decode cX9_chooseTape 7 = .ok (.putfield 100, 3) := by decide +kernel
theorem dX9_chooseTape_10 : decode cX9_chooseTape 10 = .ok (.iconst 0, 1) := by decide +kernel
theorem dX9_chooseTape_11 : decode cX9_chooseTape 11 = .ok (.istore_n 2, 1) := by decide +kernel
theorem dX9_chooseTape_12 : decode cX9_chooseTape 12 = .ok (.iload_n 2, 1) := by decide +kernel
theorem dX9_chooseTape_13 : decode cX9_chooseTape 13 = .ok (.iload_n 1, 1) := by decide +kernel
theorem dX9_chooseTape_14 : decode cX9_chooseTape 14 = .ok (.if_icmp .ge 21, 3) := by decide +kernel
theorem dX9_chooseTape_17 : decode cX9_chooseTape 17 = .ok (.aload_n 0, 1) := by decide +kernel
theorem dX9_chooseTape_18 : decode cX9_chooseTape 18 = .ok (.getfield 54, 3) := by decide +kernel
theorem dX9_chooseTape_21 : decode cX9_chooseTape 21 = .ok (.iload_n 2, 1) := by decide +kernel
theorem dX9_chooseTape_22 : decode cX9_chooseTape 22 = .ok (.aload_n 0, 1) := by decide +kernel
theorem dX9_chooseTape_23 : decode cX9_chooseTape 23 = .ok (.getfield 45, 3) := by decide +kernel
theorem dX9_chooseTape_26 : decode cX9_chooseTape 26 = .ok (.iload_n 2, 1) := by decide +kernel
theorem dX9_chooseTape_27 : decode cX9_chooseTape 27 = .ok (.iaload, 1) := by decide +kernel
theorem dX9_chooseTape_28 : decode cX9_chooseTape 28 = .ok (.iastore, 1) := by decide +kernel
theorem dX9_chooseTape_29 : decode cX9_chooseTape 29 = .ok (.iinc 2 1, 3) := by decide +kernel
theorem dX9_chooseTape_32 : decode cX9_chooseTape 32 = .ok (.goto (-20), 3) := by decide +kernel
theorem dX9_chooseTape_35 : decode cX9_chooseTape 35 = .ok (.return_, 1) := by decide +kernel
set_option maxRecDepth 20000 in
theorem ggX9_hasDirectory_X9_find : GoodIn wsX9_hasDirectory wsX9_find := goodIn_r _ [7, 8, 9, 10, 11, 12, 6, 13, 14, 15, 16, 17, 18, 19, 20, 21, 22, 23, 24, 25, 26, 27, 28, 29, 30, 31, 32, 33, 34, 35, 36, 37, 38, 39, 40, 41, 42, 43] (by decide +kernel) (by decide +kernel)
set_option maxRecDepth 20000 in
theorem gX9_hasDirectory_X9_find : GoodIn wsX9_hasDirectory (wsV RX9 103 RX9 yX9_find wsX9_find) := goodIn_app (goodIn_of _ (by decide +kernel)) ggX9_hasDirectory_X9_find
set_option maxRecDepth 20000 in
theorem ggX9_hasDirectory_X9_place : GoodIn wsX9_hasDirectory wsX9_place := goodIn_r _ [13] (by decide +kernel) (by decide +kernel)
set_option maxRecDepth 20000 in
theorem gX9_hasDirectory_X9_place : GoodIn wsX9_hasDirectory (va_wsS RX9 64 yX9_place wsX9_place) := goodIn_app (goodIn_of _ (by decide +kernel)) ggX9_hasDirectory_X9_place
theorem dX9_hasDirectory_0 : decode cX9_hasDirectory 0 = .ok (.iload_n 1, 1) := by decide +kernel
theorem dX9_hasDirectory_1 : decode cX9_hasDirectory 1 = .ok (.iconst 1, 1) := by decide +kernel
theorem dX9_hasDirectory_2 : decode cX9_hasDirectory 2 = .ok (.isub, 1) := by decide +kernel
theorem dX9_hasDirectory_3 : decode cX9_hasDirectory 3 = .ok (.istore_n 2, 1) := by decide +kernel
theorem dX9_hasDirectory_4 : decode cX9_hasDirectory 4 = .ok (.iload_n 2, 1) := by decide +kernel
theorem dX9_hasDirectory_5 : decode cX9_hasDirectory 5 = .ok (.ifCond .lt 20, 3) := by decide +kernel
theorem dX9_hasDirectory_8 : decode cX9_hasDirectory 8 = .ok (.aload_n 0, 1) := by decide +kernel
theorem dX9_hasDirectory_9 : decode cX9_hasDirectory 9 = .ok (.getfield 45, 3) := by decide +kernel
theorem dX9_hasDirectory_12 : decode cX9_hasDirectory 12 = .ok (.iload_n 2, 1) := by decide +kernel
theorem dX9_hasDirectory_13 : decode cX9_hasDirectory 13 = .ok (.iaload, 1) := by decide +kernel
theorem dX9_hasDirectory_14 : decode cX9_hasDirectory 14 = .ok (.bipush 47, 2) := by decide +kernel
theorem dX9_hasDirectory_16 : decode cX9_hasDirectory 16 = .ok (.if_icmp .eq 9, 3) := by decide +kernel
theorem dX9_hasDirectory_19 : decode cX9_hasDirectory 19 = .ok (.iinc 2 (-1), 3) := by decide +kernel
theorem dX9_hasDirectory_22 : decode cX9_hasDirectory 22 = .ok (.goto (-18), 3) := by decide +kernel
theorem dX9_hasDirectory_25 : decode cX9_hasDirectory 25 = .ok (.iload_n 2, 1) := by decide +kernel
theorem dX9_hasDirectory_26 : decode cX9_hasDirectory 26 = .ok (.ifCond .ge 5, 3) := by decide +kernel
theorem dX9_hasDirectory_29 : decode cX9_hasDirectory 29 = .ok (.iconst 1, 1) := by decide +kernel
theorem dX9_hasDirectory_30 : decode cX9_hasDirectory 30 = .ok (.ireturn, 1) := by decide +kernel
theorem dX9_hasDirectory_31 : decode cX9_hasDirectory 31 = .ok (.aload_n 0, 1) := by decide +kernel
theorem dX9_hasDirectory_32 : decode cX9_hasDirectory 32 = .ok (.iconst 0, 1) := by decide +kernel
theorem dX9_hasDirectory_33 : decode cX9_hasDirectory 33 = .ok (.aload_n 0, 1) := by decide +kernel
theorem dX9_hasDirectory_34 : decode cX9_hasDirectory 34 = .ok (.getfield 45, 3) := by decide +kernel
theorem dX9_hasDirectory_37 : decode cX9_hasDirectory 37 = .ok (.iload_n 2, 1) := by decide +kernel
theorem dX9_hasDirectory_38 : decode cX9_hasDirectory 38 = .ok (.invokevirtual 103, 3) := by decide +kernel
theorem dX9_hasDirectory_41 : decode cX9_hasDirectory 41 = .ok (.istore_n 3, 1) := by decide +kernel
theorem dX9_hasDirectory_42 : decode cX9_hasDirectory 42 = .ok (.iload_n 3, 1) := by decide +kernel
theorem dX9_hasDirectory_43 : decode cX9_hasDirectory 43 = .ok (.ifCond .lt 21, 3) := by decide +kernel
theorem dX9_hasDirectory_46 : decode cX9_hasDirectory 46 = .ok (.aload_n 0, 1) := by decide +kernel
theorem dX9_hasDirectory_47 : decode cX9_hasDirectory 47 = .ok (.getfield 16, 3) := by decide +kernel
theorem dX9_hasDirectory_50 : decode cX9_hasDirectory 50 = .ok (.iconst 0, 1) := by decide +kernel
theorem dX9_hasDirectory_51 : decode cX9_hasDirectory 51 = .ok (.iload_n 3, 1) := by decide +kernel
theorem dX9_hasDirectory_52 : decode cX9_hasDirectory 52 = .ok (.invokestatic 64, 3) := by decide +kernel
theorem dX9_hasDirectory_55 : decode cX9_hasDirectory 55 = .ok (.iaload, 1) := by decide +kernel
theorem dX9_hasDirectory_56 : decode cX9_hasDirectory 56 = .ok (.iconst 2, 1) := by decide +kernel
theorem dX9_hasDirectory_57 : decode cX9_hasDirectory 57 = .ok (.if_icmp .ne 7, 3) := by decide +kernel
theorem dX9_hasDirectory_60 : decode cX9_hasDirectory 60 = .ok (.iconst 1, 1) := by decide +kernel
theorem dX9_hasDirectory_61 : decode cX9_hasDirectory 61 = .ok (.goto 4, 3) := by decide +kernel
theorem dX9_hasDirectory_64 : decode cX9_hasDirectory 64 = .ok (.iconst 0, 1) := by decide +kernel
theorem dX9_hasDirectory_65 : decode cX9_hasDirectory 65 = .ok (.ireturn, 1) := by decide +kernel
set_option maxRecDepth 20000 in
theorem ggX9_make_X9_isPath : GoodIn wsX9_make wsX9_isPath := goodIn_r _ [18, 4, 19, 20, 17, 21, 59, 60, 61, 62, 63, 64, 65, 66, 67, 68, 69, 70, 71, 72, 73, 74, 75, 76, 77, 78, 79, 80, 81, 82] (by decide +kernel) (by decide +kernel)
set_option maxRecDepth 20000 in
theorem gX9_make_X9_isPath : GoodIn wsX9_make (wsV RX9 110 RX9 yX9_isPath wsX9_isPath) := goodIn_app (goodIn_of _ (by decide +kernel)) ggX9_make_X9_isPath
set_option maxRecDepth 20000 in
theorem ggX9_make_X9_find : GoodIn wsX9_make wsX9_find := goodIn_r _ [25, 5, 6, 7, 26, 27, 17, 28, 29, 30, 31, 32, 33, 34, 59, 60, 61, 62, 63, 64, 65, 66, 67, 68, 69, 70, 71, 72, 73, 74, 75, 76, 77, 78, 79, 80, 81, 82] (by decide +kernel) (by decide +kernel)
set_option maxRecDepth 20000 in
theorem gX9_make_X9_find : GoodIn wsX9_make (wsV RX9 103 RX9 yX9_find wsX9_find) := goodIn_app (goodIn_of _ (by decide +kernel)) ggX9_make_X9_find
set_option maxRecDepth 20000 in
theorem ggX9_make_X9_hasDirectory : GoodIn wsX9_make wsX9_hasDirectory := goodIn_r _ [38, 4, 8, 22, 23, 24, 17, 25, 5, 6, 7, 26, 27, 28, 29, 30, 31, 32, 33, 34, 59, 60, 61, 62, 63, 64, 65, 66, 67, 68, 69, 70, 71, 72, 73, 74, 75, 76, 77, 78, 79, 80, 81, 82] (by decide +kernel) (by decide +kernel)
set_option maxRecDepth 20000 in
theorem gX9_make_X9_hasDirectory : GoodIn wsX9_make (wsV RX9 114 RX9 yX9_hasDirectory wsX9_hasDirectory) := goodIn_app (goodIn_of _ (by decide +kernel)) ggX9_make_X9_hasDirectory
set_option maxRecDepth 20000 in
theorem ggX9_make_X9_empty : GoodIn wsX9_make wsX9_empty := goodIn_r _ [42, 5, 13, 59, 60, 61, 62, 63, 64, 65, 66, 67, 68, 69, 70, 71, 72, 73, 74, 75, 76, 77, 78, 79, 80, 81, 82] (by decide +kernel) (by decide +kernel)
set_option maxRecDepth 20000 in
theorem gX9_make_X9_empty : GoodIn wsX9_make (wsV RX9 68 RX9 yX9_empty wsX9_empty) := goodIn_app (goodIn_of _ (by decide +kernel)) ggX9_make_X9_empty
set_option maxRecDepth 20000 in
theorem ggX9_make_X9_place : GoodIn wsX9_make wsX9_place := goodIn_r _ [28] (by decide +kernel) (by decide +kernel)
set_option maxRecDepth 20000 in
theorem gX9_make_X9_place : GoodIn wsX9_make (va_wsS RX9 64 yX9_place wsX9_place) := goodIn_app (goodIn_of _ (by decide +kernel)) ggX9_make_X9_place
set_option maxRecDepth 20000 in
theorem ggX9_make_X9_order : GoodIn wsX9_make wsX9_order := goodIn_r _ [31, 32, 33, 17, 34] (by decide +kernel) (by decide +kernel)
set_option maxRecDepth 20000 in
theorem gX9_make_X9_order : GoodIn wsX9_make (va_wsS RX9 80 yX9_order wsX9_order) := goodIn_app (goodIn_of _ (by decide +kernel)) ggX9_make_X9_order
set_option maxRecDepth 20000 in
theorem ggX9_make_X9_append : GoodIn wsX9_make wsX9_append := goodIn_r _ [46, 5, 8, 9, 10, 7, 6, 11, 12, 13, 47, 26, 27, 17, 28, 59, 60, 61, 62, 63, 64, 65, 66, 67, 68, 69, 70, 71, 72, 73, 74, 75, 76, 77, 78, 79, 80, 81, 82] (by decide +kernel) (by decide +kernel)
set_option maxRecDepth 20000 in
theorem gX9_make_X9_append : GoodIn wsX9_make (wsV RX9 72 RX9 yX9_append wsX9_append) := goodIn_app (goodIn_of _ (by decide +kernel)) ggX9_make_X9_append
set_option maxRecDepth 20000 in
theorem ggX9_make_X9_copy : GoodIn wsX9_make wsX9_copy := goodIn_r _ [51, 5, 39, 40, 41, 17, 42, 13, 43, 44, 45, 46, 8, 9, 10, 7, 6, 11, 12, 47, 26, 27, 28, 59, 60, 61, 62, 63, 64, 65, 66, 67, 68, 69, 70, 71, 72, 73, 74, 75, 76, 77, 78, 79, 80, 81, 82] (by decide +kernel) (by decide +kernel)
set_option maxRecDepth 20000 in
theorem gX9_make_X9_copy : GoodIn wsX9_make (wsV RX9 117 RX9 yX9_copy wsX9_copy) := goodIn_app (goodIn_of _ (by decide +kernel)) ggX9_make_X9_copy
set_option maxRecDepth 20000 in
theorem ggX9_make_X9_chooseTape : GoodIn wsX9_make wsX9_chooseTape := goodIn_r _ [55, 56, 57, 58, 4, 59, 60, 61, 62, 63, 64, 65, 66, 67, 68, 69, 70, 71, 72, 73, 74, 75, 76, 77, 78, 79, 80, 81, 82] (by decide +kernel) (by decide +kernel)
set_option maxRecDepth 20000 in
theorem gX9_make_X9_chooseTape : GoodIn wsX9_make (wsV RX9 121 RX9 yX9_chooseTape wsX9_chooseTape) := goodIn_app (goodIn_of _ (by decide +kernel)) ggX9_make_X9_chooseTape
theorem dX9_make_0 : decode cX9_make 0 = .ok (.aload_n 0, 1) := by decide +kernel
theorem dX9_make_1 : decode cX9_make 1 = .ok (.aload_n 0, 1) := by decide +kernel
theorem dX9_make_2 : decode cX9_make 2 = .ok (.getfield 107, 3) := by decide +kernel
theorem dX9_make_5 : decode cX9_make 5 = .ok (.iconst 1, 1) := by decide +kernel
theorem dX9_make_6 : decode cX9_make 6 = .ok (.if_icmp .ne 7, 3) := by decide +kernel
theorem dX9_make_9 : decode cX9_make 9 = .ok (.iconst 2, 1) := by decide +kernel
theorem dX9_make_10 : decode cX9_make 10 = .ok (.goto 4, 3) := by decide +kernel
theorem dX9_make_13 : decode cX9_make 13 = .ok (.iconst 0, 1) := by decide +kernel
theorem dX9_make_14 : decode cX9_make 14 = .ok (.putfield 57, 3) := by decide +kernel
theorem dX9_make_17 : decode cX9_make 17 = .ok (.aload_n 0, 1) := by decide +kernel
theorem dX9_make_18 : decode cX9_make 18 = .ok (.getfield 57, 3) := by decide +kernel
theorem dX9_make_21 : decode cX9_make 21 = .ok (.ifCond .le 5, 3) := by decide +kernel
theorem dX9_make_24 : decode cX9_make 24 = .ok (.iconst 0, 1) := by decide +kernel
theorem dX9_make_25 : decode cX9_make 25 = .ok (.ireturn, 1) := by decide +kernel
theorem dX9_make_26 : decode cX9_make 26 = .ok (.aload_n 0, 1) := by decide +kernel
theorem dX9_make_27 : decode cX9_make 27 = .ok (.getfield 61, 3) := by decide +kernel
theorem dX9_make_30 : decode cX9_make 30 = .ok (.istore 4, 2) := by decide +kernel
theorem dX9_make_32 : decode cX9_make 32 = .ok (.aload_n 0, 1) := by decide +kernel
theorem dX9_make_33 : decode cX9_make 33 = .ok (.iconst 0, 1) := by decide +kernel
theorem dX9_make_34 : decode cX9_make 34 = .ok (.putfield 61, 3) := by decide +kernel
theorem dX9_make_37 : decode cX9_make 37 = .ok (.iload_n 1, 1) := by decide +kernel
theorem dX9_make_38 : decode cX9_make 38 = .ok (.iconst 1, 1) := by decide +kernel
theorem dX9_make_39 : decode cX9_make 39 = .ok (.if_icmp .lt 36, 3) := by decide +kernel
theorem dX9_make_42 : decode cX9_make 42 = .ok (.iload_n 1, 1) := by decide +kernel
theorem dX9_make_43 : decode cX9_make 43 = .ok (.iconst 3, 1) := by decide +kernel
theorem dX9_make_44 : decode cX9_make 44 = .ok (.if_icmp .gt 31, 3) := by decide +kernel
theorem dX9_make_47 : decode cX9_make 47 = .ok (.iload_n 2, 1) := by decide +kernel
theorem dX9_make_48 : decode cX9_make 48 = .ok (.ifCond .lt 27, 3) := by decide +kernel
theorem dX9_make_51 : decode cX9_make 51 = .ok (.iload_n 2, 1) := by decide +kernel
theorem dX9_make_52 : decode cX9_make 52 = .ok (.sipush 4096, 3) := by decide +kernel
theorem dX9_make_55 : decode cX9_make 55 = .ok (.if_icmp .ge 20, 3) := by decide +kernel
theorem dX9_make_58 : decode cX9_make 58 = .ok (.iload_n 3, 1) := by decide +kernel
theorem dX9_make_59 : decode cX9_make 59 = .ok (.ifCond .lt 16, 3) := by decide +kernel
theorem dX9_make_62 : decode cX9_make 62 = .ok (.aload_n 0, 1) := by decide +kernel
theorem dX9_make_63 : decode cX9_make 63 = .ok (.iload 4, 2) := by decide +kernel
theorem dX9_make_65 : decode cX9_make 65 = .ok (.invokevirtual 110, 3) := by decide +kernel
theorem dX9_make_68 : decode cX9_make 68 = .ok (.ifCond .eq 7, 3) := by decide +kernel
theorem dX9_make_71 : decode cX9_make 71 = .ok (.iconst 1, 1) := by decide +kernel
theorem dX9_make_72 : decode cX9_make 72 = .ok (.goto 4, 3) := by decide +kernel
theorem dX9_make_75 : decode cX9_make 75 = .ok (.iconst 0, 1) := by decide +kernel
theorem dX9_make_76 : decode cX9_make 76 = .ok (.istore 5, 2) := by decide +kernel
theorem dX9_make_78 : decode cX9_make 78 = .ok (.aload_n 0, 1) := by decide +kernel
theorem dX9_make_79 : decode cX9_make 79 = .ok (.iload 5, 2) := by decide +kernel
theorem dX9_make_81 : decode cX9_make 81 = .ok (.ifCond .ne 7, 3) := by decide +kernel
theorem dX9_make_84 : decode cX9_make 84 = .ok (.iconst 1, 1) := by decide +kernel
theorem dX9_make_85 : decode cX9_make 85 = .ok (.goto 42, 3) := by decide +kernel
theorem dX9_make_88 : decode cX9_make 88 = .ok (.aload_n 0, 1) := by decide +kernel
theorem dX9_make_89 : decode cX9_make 89 = .ok (.iconst 0, 1) := by decide +kernel
theorem dX9_make_90 : decode cX9_make 90 = .ok (.aload_n 0, 1) := by decide +kernel
theorem dX9_make_91 : decode cX9_make 91 = .ok (.getfield 45, 3) := by decide +kernel
theorem dX9_make_94 : decode cX9_make 94 = .ok (.iload 4, 2) := by decide +kernel
theorem dX9_make_96 : decode cX9_make 96 = .ok (.invokevirtual 103, 3) := by decide +kernel
theorem dX9_make_99 : decode cX9_make 99 = .ok (.ifCond .ge 23, 3) := by decide +kernel
theorem dX9_make_102 : decode cX9_make 102 = .ok (.aload_n 0, 1) := by decide +kernel
theorem dX9_make_103 : decode cX9_make 103 = .ok (.iload 4, 2) := by decide +kernel
theorem dX9_make_105 : decode cX9_make 105 = .ok (.invokevirtual 114, 3) := by decide +kernel
theorem dX9_make_108 : decode cX9_make 108 = .ok (.ifCond .eq 14, 3) := by decide +kernel
theorem dX9_make_111 : decode cX9_make 111 = .ok (.aload_n 0, 1) := by decide +kernel
theorem dX9_make_112 : decode cX9_make 112 = .ok (.getfield 7, 3) := by decide +kernel
theorem dX9_make_115 : decode cX9_make 115 = .ok (.iconst 0, 1) := by decide +kernel
theorem dX9_make_116 : decode cX9_make 116 = .ok (.iaload, 1) := by decide +kernel
theorem dX9_make_117 : decode cX9_make 117 = .ok (.bipush 60, 2) := by decide +kernel
theorem dX9_make_119 : decode cX9_make 119 = .ok (.if_icmp .ne 7, 3) := by decide +kernel
theorem dX9_make_122 : decode cX9_make 122 = .ok (.iconst 2, 1) := by decide +kernel
theorem dX9_make_123 : decode cX9_make 123 = .ok (.goto 4, 3) := by decide +kernel
theorem dX9_make_126 : decode cX9_make 126 = .ok (.iconst 0, 1) := by decide +kernel
theorem dX9_make_127 : decode cX9_make 127 = .ok (.putfield 57, 3) := by decide +kernel
theorem dX9_make_130 : decode cX9_make 130 = .ok (.aload_n 0, 1) := by decide +kernel
theorem dX9_make_131 : decode cX9_make 131 = .ok (.getfield 57, 3) := by decide +kernel
theorem dX9_make_134 : decode cX9_make 134 = .ok (.ifCond .le 5, 3) := by decide +kernel
theorem dX9_make_137 : decode cX9_make 137 = .ok (.iconst 0, 1) := by decide +kernel
theorem dX9_make_138 : decode cX9_make 138 = .ok (.ireturn, 1) := by decide +kernel
theorem dX9_make_139 : decode cX9_make 139 = .ok (.aload_n 0, 1) := by decide +kernel
theorem dX9_make_140 : decode cX9_make 140 = .ok (.iconst 5, 1) := by decide +kernel
theorem dX9_make_141 : decode cX9_make 141 = .ok (.invokevirtual 68, 3) := by decide +kernel
theorem dX9_make_144 : decode cX9_make 144 = .ok (.iconst 0, 1) := by decide +kernel
theorem dX9_make_145 : decode cX9_make 145 = .ok (.istore 6, 2) := by decide +kernel
theorem dX9_make_147 : decode cX9_make 147 = .ok (.iload 6, 2) := by decide +kernel
theorem dX9_make_149 : decode cX9_make 149 = .ok (.aload_n 0, 1) := by decide +kernel
theorem dX9_make_150 : decode cX9_make 150 = .ok (.getfield 7, 3) := by decide +kernel
theorem dX9_make_153 : decode cX9_make 153 = .ok (.iconst 0, 1) := by decide +kernel
theorem dX9_make_154 : decode cX9_make 154 = .ok (.iaload, 1) := by decide +kernel
theorem dX9_make_155 : decode cX9_make 155 = .ok (.if_icmp .ge 55, 3) := by decide +kernel
theorem dX9_make_158 : decode cX9_make 158 = .ok (.aload_n 0, 1) := by decide +kernel
theorem dX9_make_159 : decode cX9_make 159 = .ok (.getfield 35, 3) := by decide +kernel
theorem dX9_make_162 : decode cX9_make 162 = .ok (.sipush 150, 3) := by decide +kernel
theorem dX9_make_165 : decode cX9_make 165 = .ok (.iconst 0, 1) := by decide +kernel
theorem dX9_make_166 : decode cX9_make 166 = .ok (.iload 6, 2) := by decide +kernel
theorem dX9_make_168 : decode cX9_make 168 = .ok (.invokestatic 64, 3) := by decide +kernel
theorem dX9_make_171 : decode cX9_make 171 = .ok (.imul, 1) := by decide +kernel
theorem dX9_make_172 : decode cX9_make 172 = .ok (.aload_n 0, 1) := by decide +kernel
theorem dX9_make_173 : decode cX9_make 173 = .ok (.getfield 25, 3) := by decide +kernel
theorem dX9_make_176 : decode cX9_make 176 = .ok (.iconst 0, 1) := by decide +kernel
theorem dX9_make_177 : decode cX9_make 177 = .ok (.iload 6, 2) := by decide +kernel
theorem dX9_make_179 : decode cX9_make 179 = .ok (.invokestatic 64, 3) := by decide +kernel
theorem dX9_make_182 : decode cX9_make 182 = .ok (.iaload, 1) := by decide +kernel
theorem dX9_make_183 : decode cX9_make 183 = .ok (.aload_n 0, 1) := by decide +kernel
theorem dX9_make_184 : decode cX9_make 184 = .ok (.getfield 45, 3) := by decide +kernel
theorem dX9_make_187 : decode cX9_make 187 = .ok (.iconst 0, 1) := by decide +kernel
theorem dX9_make_188 : decode cX9_make 188 = .ok (.iload 4, 2) := by decide +kernel
theorem dX9_make_190 : decode cX9_make 190 = .ok (.invokestatic 80, 3) := by decide +kernel
theorem dX9_make_193 : decode cX9_make 193 = .ok (.ifCond .ge 17, 3) := by decide +kernel
theorem dX9_make_196 : decode cX9_make 196 = .ok (.aload_n 0, 1) := by decide +kernel
theorem dX9_make_197 : decode cX9_make 197 = .ok (.iconst 0, 1) := by decide +kernel
theorem dX9_make_198 : decode cX9_make 198 = .ok (.iload 6, 2) := by decide +kernel
theorem dX9_make_200 : decode cX9_make 200 = .ok (.iconst 5, 1) := by decide +kernel
theorem dX9_make_201 : decode cX9_make 201 = .ok (.invokevirtual 72, 3) := by decide +kernel
theorem dX9_make_204 : decode cX9_make 204 = .ok (.iinc 6 1, 3) := by decide +kernel
theorem dX9_make_207 : decode cX9_make 207 = .ok (.goto (-60), 3) := by decide +kernel
theorem dX9_make_210 : decode cX9_make 210 = .ok (.iconst 5, 1) := by decide +kernel
theorem dX9_make_211 : decode cX9_make 211 = .ok (.aload_n 0, 1) := by decide +kernel
theorem dX9_make_212 : decode cX9_make 212 = .ok (.getfield 7, 3) := by decide +kernel
theorem dX9_make_215 : decode cX9_make 215 = .ok (.iconst 5, 1) := by decide +kernel
theorem dX9_make_216 : decode cX9_make 216 = .ok (.iaload, 1) := by decide +kernel
theorem dX9_make_217 : decode cX9_make 217 = .ok (.invokestatic 64, 3) := by decide +kernel
theorem dX9_make_220 : decode cX9_make 220 = .ok (.istore 7, 2) := by decide +kernel
theorem dX9_make_222 : decode cX9_make 222 = .ok (.aload_n 0, 1) := by decide +kernel
theorem dX9_make_223 : decode cX9_make 223 = .ok (.getfield 16, 3) := by decide +kernel
theorem dX9_make_226 : decode cX9_make 226 = .ok (.iload 7, 2) := by decide +kernel
theorem dX9_make_228 : decode cX9_make 228 = .ok (.iload_n 1, 1) := by decide +kernel
theorem dX9_make_229 : decode cX9_make 229 = .ok (.iastore, 1) := by decide +kernel
theorem dX9_make_230 : decode cX9_make 230 = .ok (.aload_n 0, 1) := by decide +kernel
theorem dX9_make_231 : decode cX9_make 231 = .ok (.getfield 19, 3) := by decide +kernel
theorem dX9_make_234 : decode cX9_make 234 = .ok (.iload 7, 2) := by decide +kernel
theorem dX9_make_236 : decode cX9_make 236 = .ok (.iload_n 2, 1) := by decide +kernel
theorem dX9_make_237 : decode cX9_make 237 = .ok (.iastore, 1) := by decide +kernel
theorem dX9_make_238 : decode cX9_make 238 = .ok (.aload_n 0, 1) := by decide +kernel
theorem dX9_make_239 : decode cX9_make 239 = .ok (.getfield 22, 3) := by decide +kernel
theorem dX9_make_242 : decode cX9_make 242 = .ok (.iload 7, 2) := by decide +kernel
theorem dX9_make_244 : decode cX9_make 244 = .ok (.iload_n 3, 1) := by decide +kernel
theorem dX9_make_245 : decode cX9_make 245 = .ok (.iastore, 1) := by decide +kernel
theorem dX9_make_246 : decode cX9_make 246 = .ok (.aload_n 0, 1) := by decide +kernel
theorem dX9_make_247 : decode cX9_make 247 = .ok (.getfield 25, 3) := by decide +kernel
theorem dX9_make_250 : decode cX9_make 250 = .ok (.iload 7, 2) := by decide +kernel
theorem dX9_make_252 : decode cX9_make 252 = .ok (.iload 4, 2) := by decide +kernel
theorem dX9_make_254 : decode cX9_make 254 = .ok (.iastore, 1) := by decide +kernel
theorem dX9_make_255 : decode cX9_make 255 = .ok (.iconst 0, 1) := by decide +kernel
theorem dX9_make_256 : decode cX9_make 256 = .ok (.istore 8, 2) := by decide +kernel
theorem dX9_make_258 : decode cX9_make 258 = .ok (.iload 8, 2) := by decide +kernel
theorem dX9_make_260 : decode cX9_make 260 = .ok (.iload 4, 2) := by decide +kernel
theorem dX9_make_262 : decode cX9_make 262 = .ok (.if_icmp .ge 30, 3) := by decide +kernel
theorem dX9_make_265 : decode cX9_make 265 = .ok (.aload_n 0, 1) := by decide +kernel
theorem dX9_make_266 : decode cX9_make 266 = .ok (.getfield 35, 3) := by decide +kernel
theorem dX9_make_269 : decode cX9_make 269 = .ok (.sipush 150, 3) := by decide +kernel
theorem dX9_make_272 : decode cX9_make 272 = .ok (.iload 7, 2) := by decide +kernel
theorem dX9_make_274 : decode cX9_make 274 = .ok (.imul, 1) := by decide +kernel
theorem dX9_make_275 : decode cX9_make 275 = .ok (.iload 8, 2) := by decide +kernel
theorem dX9_make_277 : decode cX9_make 277 = .ok (.iadd, 1) := by decide +kernel
theorem dX9_make_278 : decode cX9_make 278 = .ok (.aload_n 0, 1) := by decide +kernel
theorem dX9_make_279 : decode cX9_make 279 = .ok (.getfield 45, 3) := by decide +kernel
theorem dX9_make_282 : decode cX9_make 282 = .ok (.iload 8, 2) := by decide +kernel
theorem dX9_make_284 : decode cX9_make 284 = .ok (.iaload, 1) := by decide +kernel
theorem dX9_make_285 : decode cX9_make 285 = .ok (.iastore, 1) := by decide +kernel
theorem dX9_make_286 : decode cX9_make 286 = .ok (.iinc 8 1, 3) := by decide +kernel
theorem dX9_make_289 : decode cX9_make 289 = .ok (.goto (-31), 3) := by decide +kernel
theorem dX9_make_292 : decode cX9_make 292 = .ok (.aload_n 0, 1) := by decide +kernel
theorem dX9_make_293 : decode cX9_make 293 = .ok (.getfield 31, 3) := by decide +kernel
theorem dX9_make_296 : decode cX9_make 296 = .ok (.iload 7, 2) := by decide +kernel
theorem dX9_make_298 : decode cX9_make 298 = .ok (.iconst 0, 1) := by decide +kernel
theorem dX9_make_299 : decode cX9_make 299 = .ok (.iastore, 1) := by decide +kernel
theorem dX9_make_300 : decode cX9_make 300 = .ok (.aload_n 0, 1) := by decide +kernel
theorem dX9_make_301 : decode cX9_make 301 = .ok (.getfield 28, 3) := by decide +kernel
theorem dX9_make_304 : decode cX9_make 304 = .ok (.iload 7, 2) := by decide +kernel
theorem dX9_make_306 : decode cX9_make 306 = .ok (.aload_n 0, 1) := by decide +kernel
theorem dX9_make_307 : decode cX9_make 307 = .ok (.getfield 13, 3) := by decide +kernel
theorem dX9_make_310 : decode cX9_make 310 = .ok (.iconst 5, 1) := by decide +kernel
theorem dX9_make_311 : decode cX9_make 311 = .ok (.iaload, 1) := by decide +kernel
theorem dX9_make_312 : decode cX9_make 312 = .ok (.iastore, 1) := by decide +kernel
theorem dX9_make_313 : decode cX9_make 313 = .ok (.aload_n 0, 1) := by decide +kernel
theorem dX9_make_314 : decode cX9_make 314 = .ok (.getfield 7, 3) := by decide +kernel
theorem dX9_make_317 : decode cX9_make 317 = .ok (.iconst 5, 1) := by decide +kernel
theorem dX9_make_318 : decode cX9_make 318 = .ok (.dup2, 1) := by decide +kernel
theorem dX9_make_319 : decode cX9_make 319 = .ok (.iaload, 1) := by decide +kernel
theorem dX9_make_320 : decode cX9_make 320 = .ok (.iconst 1, 1) := by decide +kernel
theorem dX9_make_321 : decode cX9_make 321 = .ok (.iadd, 1) := by decide +kernel
