theorem dX9_at_46 : decode cX9_at 46 = .ok (.getfield 35, 3) := by decide +kernel
theorem dX9_at_49 : decode cX9_at 49 = .ok (.sipush 150, 3) := by decide +kernel
theorem dX9_at_52 : decode cX9_at 52 = .ok (.iload 5, 2) := by decide +kernel
theorem dX9_at_54 : decode cX9_at 54 = .ok (.imul, 1) := by decide +kernel
theorem dX9_at_55 : decode cX9_at 55 = .ok (.iload 4, 2) := by decide +kernel
theorem dX9_at_57 : decode cX9_at 57 = .ok (.iadd, 1) := by decide +kernel
theorem dX9_at_58 : decode cX9_at 58 = .ok (.iaload, 1) := by decide +kernel
theorem dX9_at_59 : decode cX9_at 59 = .ok (.goto 4, 3) := by decide +kernel
theorem dX9_at_62 : decode cX9_at 62 = .ok (.iconst (-1), 1) := by decide +kernel
theorem dX9_at_63 : decode cX9_at 63 = .ok (.ireturn, 1) := by decide +kernel
theorem dX9_at_64 : decode cX9_at 64 = .ok (.iload 4, 2) := by decide +kernel
theorem dX9_at_66 : decode cX9_at 66 = .ok (.aload_n 0, 1) := by decide +kernel
theorem dX9_at_67 : decode cX9_at 67 = .ok (.getfield 31, 3) := by decide +kernel
theorem dX9_at_70 : decode cX9_at 70 = .ok (.iload 5, 2) := by decide +kernel
theorem dX9_at_72 : decode cX9_at 72 = .ok (.iaload, 1) := by decide +kernel
theorem dX9_at_73 : decode cX9_at 73 = .ok (.if_icmp .ge 27, 3) := by decide +kernel
theorem dX9_at_76 : decode cX9_at 76 = .ok (.aload_n 0, 1) := by decide +kernel
theorem dX9_at_77 : decode cX9_at 77 = .ok (.getfield 39, 3) := by decide +kernel
theorem dX9_at_80 : decode cX9_at 80 = .ok (.sipush 8000, 3) := by decide +kernel
theorem dX9_at_83 : decode cX9_at 83 = .ok (.iload_n 1, 1) := by decide +kernel
theorem dX9_at_84 : decode cX9_at 84 = .ok (.imul, 1) := by decide +kernel
theorem dX9_at_85 : decode cX9_at 85 = .ok (.aload_n 0, 1) := by decide +kernel
theorem dX9_at_86 : decode cX9_at 86 = .ok (.getfield 28, 3) := by decide +kernel
theorem dX9_at_89 : decode cX9_at 89 = .ok (.iload 5, 2) := by decide +kernel
theorem dX9_at_91 : decode cX9_at 91 = .ok (.iaload, 1) := by decide +kernel
theorem dX9_at_92 : decode cX9_at 92 = .ok (.iadd, 1) := by decide +kernel
theorem dX9_at_93 : decode cX9_at 93 = .ok (.iload 4, 2) := by decide +kernel
theorem dX9_at_95 : decode cX9_at 95 = .ok (.iadd, 1) := by decide +kernel
theorem dX9_at_96 : decode cX9_at 96 = .ok (.iaload, 1) := by decide +kernel
theorem dX9_at_97 : decode cX9_at 97 = .ok (.goto 4, 3) := by decide +kernel
theorem dX9_at_100 : decode cX9_at 100 = .ok (.iconst (-1), 1) := by decide +kernel
theorem dX9_at_101 : decode cX9_at 101 = .ok (.ireturn, 1) := by decide +kernel
set_option maxRecDepth 20000 in
theorem ggX9_about_X9_increments : GoodIn wsX9_about wsX9_increments := goodIn_r _ [13, 4, 14, 15, 16, 17, 18, 19, 20, 21, 22, 23, 24, 25, 26, 27, 28, 29, 30, 31, 32, 33, 34, 35, 36, 37, 38] (by decide +kernel) (by decide +kernel)
set_option maxRecDepth 20000 in
theorem gX9_about_X9_increments : GoodIn wsX9_about (wsV RX9 167 RX9 yX9_increments wsX9_increments) := goodIn_app (goodIn_of _ (by decide +kernel)) ggX9_about_X9_increments
theorem dX9_about_0 : decode cX9_about 0 = .ok (.aload_n 0, 1) := by decide +kernel
theorem dX9_about_1 : decode cX9_about 1 = .ok (.iconst 0, 1) := by decide +kernel
theorem dX9_about_2 : decode cX9_about 2 = .ok (.putfield 57, 3) := by decide +kernel
theorem dX9_about_5 : decode cX9_about 5 = .ok (.iload_n 1, 1) := by decide +kernel
theorem dX9_about_6 : decode cX9_about 6 = .ok (.tableswitch 141 0 8 #[50, 55, 60, 65, 72, 79, 86, 93, 136], 50) := by decide +kernel
theorem dX9_about_56 : decode cX9_about 56 = .ok (.aload_n 0, 1) := by decide +kernel
theorem dX9_about_57 : decode cX9_about 57 = .ok (.getfield 107, 3) := by decide +kernel
theorem dX9_about_60 : decode cX9_about 60 = .ok (.ireturn, 1) := by decide +kernel
theorem dX9_about_61 : decode cX9_about 61 = .ok (.aload_n 0, 1) := by decide +kernel
theorem dX9_about_62 : decode cX9_about 62 = .ok (.getfield 138, 3) := by decide +kernel
theorem dX9_about_65 : decode cX9_about 65 = .ok (.ireturn, 1) := by decide +kernel
theorem dX9_about_66 : decode cX9_about 66 = .ok (.aload_n 0, 1) := by decide +kernel
theorem dX9_about_67 : decode cX9_about 67 = .ok (.getfield 141, 3) := by decide +kernel
theorem dX9_about_70 : decode cX9_about 70 = .ok (.ireturn, 1) := by decide +kernel
theorem dX9_about_71 : decode cX9_about 71 = .ok (.aload_n 0, 1) := by decide +kernel
theorem dX9_about_72 : decode cX9_about 72 = .ok (.getfield 7, 3) := by decide +kernel
theorem dX9_about_75 : decode cX9_about 75 = .ok (.iconst 0, 1) := by decide +kernel
theorem dX9_about_76 : decode cX9_about 76 = .ok (.iaload, 1) := by decide +kernel
theorem dX9_about_77 : decode cX9_about 77 = .ok (.ireturn, 1) := by decide +kernel
theorem dX9_about_78 : decode cX9_about 78 = .ok (.aload_n 0, 1) := by decide +kernel
theorem dX9_about_79 : decode cX9_about 79 = .ok (.getfield 7, 3) := by decide +kernel
theorem dX9_about_82 : decode cX9_about 82 = .ok (.iconst 1, 1) := by decide +kernel
theorem dX9_about_83 : decode cX9_about 83 = .ok (.iaload, 1) := by decide +kernel
theorem dX9_about_84 : decode cX9_about 84 = .ok (.ireturn, 1) := by decide +kernel
theorem dX9_about_85 : decode cX9_about 85 = .ok (.aload_n 0, 1) := by decide +kernel
theorem dX9_about_86 : decode cX9_about 86 = .ok (.getfield 7, 3) := by decide +kernel
theorem dX9_about_89 : decode cX9_about 89 = .ok (.iconst 2, 1) := by decide +kernel
theorem dX9_about_90 : decode cX9_about 90 = .ok (.iaload, 1) := by decide +kernel
theorem dX9_about_91 : decode cX9_about 91 = .ok (.ireturn, 1) := by decide +kernel
theorem dX9_about_92 : decode cX9_about 92 = .ok (.aload_n 0, 1) := by decide +kernel
theorem dX9_about_93 : decode cX9_about 93 = .ok (.getfield 13, 3) := by decide +kernel
theorem dX9_about_96 : decode cX9_about 96 = .ok (.iconst 0, 1) := by decide +kernel
theorem dX9_about_97 : decode cX9_about 97 = .ok (.iaload, 1) := by decide +kernel
theorem dX9_about_98 : decode cX9_about 98 = .ok (.ireturn, 1) := by decide +kernel
theorem dX9_about_99 : decode cX9_about 99 = .ok (.aload_n 0, 1) := by decide +kernel
theorem dX9_about_100 : decode cX9_about 100 = .ok (.getfield 107, 3) := by decide +kernel
theorem dX9_about_103 : decode cX9_about 103 = .ok (.ifCond .ne 7, 3) := by decide +kernel
theorem dX9_about_106 : decode cX9_about 106 = .ok (.iconst 0, 1) := by decide +kernel
theorem dX9_about_107 : decode cX9_about 107 = .ok (.goto 7, 3) := by decide +kernel
theorem dX9_about_110 : decode cX9_about 110 = .ok (.aload_n 0, 1) := by decide +kernel
theorem dX9_about_111 : decode cX9_about 111 = .ok (.invokevirtual 167, 3) := by decide +kernel
theorem dX9_about_114 : decode cX9_about 114 = .ok (.istore_n 2, 1) := by decide +kernel
theorem dX9_about_115 : decode cX9_about 115 = .ok (.iconst 1, 1) := by decide +kernel
theorem dX9_about_116 : decode cX9_about 116 = .ok (.istore_n 3, 1) := by decide +kernel
theorem dX9_about_117 : decode cX9_about 117 = .ok (.iload_n 3, 1) := by decide +kernel
theorem dX9_about_118 : decode cX9_about 118 = .ok (.aload_n 0, 1) := by decide +kernel
theorem dX9_about_119 : decode cX9_about 119 = .ok (.getfield 138, 3) := by decide +kernel
theorem dX9_about_122 : decode cX9_about 122 = .ok (.if_icmp .ge 18, 3) := by decide +kernel
theorem dX9_about_125 : decode cX9_about 125 = .ok (.iload_n 2, 1) := by decide +kernel
theorem dX9_about_126 : decode cX9_about 126 = .ok (.aload_n 0, 1) := by decide +kernel
theorem dX9_about_127 : decode cX9_about 127 = .ok (.getfield 51, 3) := by decide +kernel
theorem dX9_about_130 : decode cX9_about 130 = .ok (.iload_n 3, 1) := by decide +kernel
theorem dX9_about_131 : decode cX9_about 131 = .ok (.iaload, 1) := by decide +kernel
theorem dX9_about_132 : decode cX9_about 132 = .ok (.iadd, 1) := by decide +kernel
theorem dX9_about_133 : decode cX9_about 133 = .ok (.istore_n 2, 1) := by decide +kernel
theorem dX9_about_134 : decode cX9_about 134 = .ok (.iinc 3 1, 3) := by decide +kernel
theorem dX9_about_137 : decode cX9_about 137 = .ok (.goto (-20), 3) := by decide +kernel
theorem dX9_about_140 : decode cX9_about 140 = .ok (.iload_n 2, 1) := by decide +kernel
theorem dX9_about_141 : decode cX9_about 141 = .ok (.ireturn, 1) := by decide +kernel
theorem dX9_about_142 : decode cX9_about 142 = .ok (.aload_n 0, 1) := by decide +kernel
theorem dX9_about_143 : decode cX9_about 143 = .ok (.getfield 61, 3) := by decide +kernel
theorem dX9_about_146 : decode cX9_about 146 = .ok (.ireturn, 1) := by decide +kernel
theorem dX9_about_147 : decode cX9_about 147 = .ok (.iconst (-1), 1) := by decide +kernel
theorem dX9_about_148 : decode cX9_about 148 = .ok (.ireturn, 1) := by decide +kernel
theorem dX9_session_0 : decode cX9_session 0 = .ok (.aload_n 0, 1) := by decide +kernel
theorem dX9_session_1 : decode cX9_session 1 = .ok (.iconst 0, 1) := by decide +kernel
theorem dX9_session_2 : decode cX9_session 2 = .ok (.putfield 57, 3) := by decide +kernel
theorem dX9_session_5 : decode cX9_session 5 = .ok (.iload_n 1, 1) := by decide +kernel
theorem dX9_session_6 : decode cX9_session 6 = .ok (.ifCond .lt 11, 3) := by decide +kernel
theorem dX9_session_9 : decode cX9_session 9 = .ok (.iload_n 1, 1) := by decide +kernel
theorem dX9_session_10 : decode cX9_session 10 = .ok (.aload_n 0, 1) := by decide +kernel
theorem dX9_session_11 : decode cX9_session 11 = .ok (.getfield 138, 3) := by decide +kernel
theorem dX9_session_14 : decode cX9_session 14 = .ok (.if_icmp .lt 5, 3) := by decide +kernel
theorem dX9_session_17 : decode cX9_session 17 = .ok (.iconst (-1), 1) := by decide +kernel
theorem dX9_session_18 : decode cX9_session 18 = .ok (.ireturn, 1) := by decide +kernel
theorem dX9_session_19 : decode cX9_session 19 = .ok (.iload_n 2, 1) := by decide +kernel
theorem dX9_session_20 : decode cX9_session 20 = .ok (.ifCond .ne 12, 3) := by decide +kernel
theorem dX9_session_23 : decode cX9_session 23 = .ok (.aload_n 0, 1) := by decide +kernel
theorem dX9_session_24 : decode cX9_session 24 = .ok (.getfield 48, 3) := by decide +kernel
theorem dX9_session_27 : decode cX9_session 27 = .ok (.iload_n 1, 1) := by decide +kernel
theorem dX9_session_28 : decode cX9_session 28 = .ok (.iaload, 1) := by decide +kernel
theorem dX9_session_29 : decode cX9_session 29 = .ok (.goto 22, 3) := by decide +kernel
theorem dX9_session_32 : decode cX9_session 32 = .ok (.iload_n 2, 1) := by decide +kernel
theorem dX9_session_33 : decode cX9_session 33 = .ok (.iconst 1, 1) := by decide +kernel
theorem dX9_session_34 : decode cX9_session 34 = .ok (.if_icmp .ne 16, 3) := by decide +kernel
theorem dX9_session_37 : decode cX9_session 37 = .ok (.iload_n 1, 1) := by decide +kernel
theorem dX9_session_38 : decode cX9_session 38 = .ok (.ifCond .le 12, 3) := by decide +kernel
theorem dX9_session_41 : decode cX9_session 41 = .ok (.aload_n 0, 1) := by decide +kernel
theorem dX9_session_42 : decode cX9_session 42 = .ok (.getfield 51, 3) := by decide +kernel
theorem dX9_session_45 : decode cX9_session 45 = .ok (.iload_n 1, 1) := by decide +kernel
theorem dX9_session_46 : decode cX9_session 46 = .ok (.iaload, 1) := by decide +kernel
theorem dX9_session_47 : decode cX9_session 47 = .ok (.goto 4, 3) := by decide +kernel
theorem dX9_session_50 : decode cX9_session 50 = .ok (.iconst (-1), 1) := by decide +kernel
theorem dX9_session_51 : decode cX9_session 51 = .ok (.ireturn, 1) := by decide +kernel
theorem dJ9_max_7cf53_0 : decode cJ9_max_7cf53 0 = .ok (.iload_n 0, 1) := by decide +kernel
theorem dJ9_max_7cf53_1 : decode cJ9_max_7cf53 1 = .ok (.iload_n 1, 1) := by decide +kernel
theorem dJ9_max_7cf53_2 : decode cJ9_max_7cf53 2 = .ok (.if_icmp .lt 7, 3) := by decide +kernel
theorem dJ9_max_7cf53_5 : decode cJ9_max_7cf53 5 = .ok (.iload_n 0, 1) := by decide +kernel
theorem dJ9_max_7cf53_6 : decode cJ9_max_7cf53 6 = .ok (.goto 4, 3) := by decide +kernel
theorem dJ9_max_7cf53_9 : decode cJ9_max_7cf53 9 = .ok (.iload_n 1, 1) := by decide +kernel
theorem dJ9_max_7cf53_10 : decode cJ9_max_7cf53 10 = .ok (.ireturn, 1) := by decide +kernel
theorem dJ9_max_f86c9_0 : decode cJ9_max_f86c9 0 = .ok (.lload_n 0, 1) := by decide +kernel
theorem dJ9_max_f86c9_1 : decode cJ9_max_f86c9 1 = .ok (.lload_n 2, 1) := by decide +kernel
theorem dJ9_max_f86c9_2 : decode cJ9_max_f86c9 2 = .ok (.lcmp, 1) := by decide +kernel
theorem dJ9_max_f86c9_3 : decode cJ9_max_f86c9 3 = .ok (.ifCond .lt 7, 3) := by decide +kernel
theorem dJ9_max_f86c9_6 : decode cJ9_max_f86c9 6 = .ok (.lload_n 0, 1) := by decide +kernel
theorem dJ9_max_f86c9_7 : decode cJ9_max_f86c9 7 = .ok (.goto 4, 3) := by decide +kernel
theorem dJ9_max_f86c9_10 : decode cJ9_max_f86c9 10 = .ok (.lload_n 2, 1) := by decide +kernel
theorem dJ9_max_f86c9_11 : decode cJ9_max_f86c9 11 = .ok (.lreturn, 1) := by decide +kernel
theorem dJ9_min_7cf53_0 : decode cJ9_min_7cf53 0 = .ok (.iload_n 0, 1) := by decide +kernel
theorem dJ9_min_7cf53_1 : decode cJ9_min_7cf53 1 = .ok (.iload_n 1, 1) := by decide +kernel
theorem dJ9_min_7cf53_2 : decode cJ9_min_7cf53 2 = .ok (.if_icmp .gt 7, 3) := by decide +kernel
theorem dJ9_min_7cf53_5 : decode cJ9_min_7cf53 5 = .ok (.iload_n 0, 1) := by decide +kernel
theorem dJ9_min_7cf53_6 : decode cJ9_min_7cf53 6 = .ok (.goto 4, 3) := by decide +kernel
theorem dJ9_min_7cf53_9 : decode cJ9_min_7cf53 9 = .ok (.iload_n 1, 1) := by decide +kernel
theorem dJ9_min_7cf53_10 : decode cJ9_min_7cf53 10 = .ok (.ireturn, 1) := by decide +kernel
theorem dJ7_fill_53178_0 : decode cJ7_fill_53178 0 = .ok (.iconst 0, 1) := by decide +kernel
theorem dJ7_fill_53178_1 : decode cJ7_fill_53178 1 = .ok (.istore_n 2, 1) := by decide +kernel
theorem dJ7_fill_53178_2 : decode cJ7_fill_53178 2 = .ok (.aload_n 0, 1) := by decide +kernel
theorem dJ7_fill_53178_3 : decode cJ7_fill_53178 3 = .ok (.arraylength, 1) := by decide +kernel
theorem dJ7_fill_53178_4 : decode cJ7_fill_53178 4 = .ok (.istore_n 3, 1) := by decide +kernel
theorem dJ7_fill_53178_5 : decode cJ7_fill_53178 5 = .ok (.iload_n 2, 1) := by decide +kernel
theorem dJ7_fill_53178_6 : decode cJ7_fill_53178 6 = .ok (.iload_n 3, 1) := by decide +kernel
theorem dJ7_fill_53178_7 : decode cJ7_fill_53178 7 = .ok (.if_icmp .ge 13, 3) := by decide +kernel
theorem dJ7_fill_53178_10 : decode cJ7_fill_53178 10 = .ok (.aload_n 0, 1) := by decide +kernel
theorem dJ7_fill_53178_11 : decode cJ7_fill_53178 11 = .ok (.iload_n 2, 1) := by decide +kernel
theorem dJ7_fill_53178_12 : decode cJ7_fill_53178 12 = .ok (.iload_n 1, 1) := by decide +kernel
theorem dJ7_fill_53178_13 : decode cJ7_fill_53178 13 = .ok (.iastore, 1) := by decide +kernel
theorem dJ7_fill_53178_14 : decode cJ7_fill_53178 14 = .ok (.iinc 2 1, 3) := by decide +kernel
theorem dJ7_fill_53178_17 : decode cJ7_fill_53178 17 = .ok (.goto (-12), 3) := by decide +kernel
theorem dJ7_fill_53178_20 : decode cJ7_fill_53178 20 = .ok (.return_, 1) := by decide +kernel
theorem dJ7_copyOf_9075b_0 : decode cJ7_copyOf_9075b 0 = .ok (.iload_n 1, 1) := by decide +kernel
theorem dJ7_copyOf_9075b_1 : decode cJ7_copyOf_9075b 1 = .ok (.aload_n 0, 1) := by decide +kernel
theorem dJ7_copyOf_9075b_2 : decode cJ7_copyOf_9075b 2 = .ok (.arraylength, 1) := by decide +kernel
theorem dJ7_copyOf_9075b_3 : decode cJ7_copyOf_9075b 3 = .ok (.if_icmp .ne 11, 3) := by decide +kernel
theorem dJ7_copyOf_9075b_6 : decode cJ7_copyOf_9075b 6 = .ok (.aload_n 0, 1) := by decide +kernel
theorem dJ7_copyOf_9075b_7 : decode cJ7_copyOf_9075b 7 = .ok (.invokevirtual 310, 3) := by decide +kernel
theorem dJ7_copyOf_9075b_10 : decode cJ7_copyOf_9075b 10 = .ok (.checkcast 311, 3) := by decide +kernel
theorem dJ7_copyOf_9075b_13 : decode cJ7_copyOf_9075b 13 = .ok (.areturn, 1) := by decide +kernel
theorem dJ7_copyOf_9075b_14 : decode cJ7_copyOf_9075b 14 = .ok (.iload_n 1, 1) := by decide +kernel
theorem dJ7_copyOf_9075b_15 : decode cJ7_copyOf_9075b 15 = .ok (.newarray .byte, 2) := by decide +kernel
theorem dJ7_copyOf_9075b_17 : decode cJ7_copyOf_9075b 17 = .ok (.astore_n 2, 1) := by decide +kernel
theorem dJ7_copyOf_9075b_18 : decode cJ7_copyOf_9075b 18 = .ok (.aload_n 0, 1) := by decide +kernel
theorem dJ7_copyOf_9075b_19 : decode cJ7_copyOf_9075b 19 = .ok (.iconst 0, 1) := by decide +kernel
theorem dJ7_copyOf_9075b_20 : decode cJ7_copyOf_9075b 20 = .ok (.aload_n 2, 1) := by decide +kernel
theorem dJ7_copyOf_9075b_21 : decode cJ7_copyOf_9075b 21 = .ok (.iconst 0, 1) := by decide +kernel
theorem dJ7_copyOf_9075b_22 : decode cJ7_copyOf_9075b 22 = .ok (.aload_n 0, 1) := by decide +kernel
theorem dJ7_copyOf_9075b_23 : decode cJ7_copyOf_9075b 23 = .ok (.arraylength, 1) := by decide +kernel
theorem dJ7_copyOf_9075b_24 : decode cJ7_copyOf_9075b 24 = .ok (.iload_n 1, 1) := by decide +kernel
theorem dJ7_copyOf_9075b_25 : decode cJ7_copyOf_9075b 25 = .ok (.invokestatic 304, 3) := by decide +kernel
theorem dJ7_copyOf_9075b_28 : decode cJ7_copyOf_9075b 28 = .ok (.invokestatic 150, 3) := by decide +kernel
theorem dJ7_copyOf_9075b_31 : decode cJ7_copyOf_9075b 31 = .ok (.aload_n 2, 1) := by decide +kernel
theorem dJ7_copyOf_9075b_32 : decode cJ7_copyOf_9075b 32 = .ok (.areturn, 1) := by decide +kernel
set_option maxRecDepth 20000 in
theorem ggL_make_X8_make : GoodIn wsL_make wsX8_make := goodIn_ca (goodIn_ca (goodIn_r _ [7, 8, 9, 10, 11, 12, 13, 14, 15, 16, 17, 18, 19, 20, 21, 22, 23, 24, 25, 26, 27, 28, 29, 30, 31, 32, 33, 34, 35, 36, 37, 38, 39, 40, 41, 42, 43, 44, 45, 46, 6, 47, 48, 49, 50, 51, 52, 53, 54, 55, 56, 57, 58, 59, 60, 61, 62, 63, 64, 65, 66, 67, 68, 69, 70, 71, 72, 73, 74, 75, 76, 77, 78, 79, 80, 81, 82, 83, 84, 85, 86, 87, 88, 89, 90, 91, 92, 93, 94, 95, 96, 97, 98, 99, 100, 101, 102, 103, 104, 105, 106, 107, 108, 109, 110, 111, 112, 113, 114, 115, 116, 117, 118, 119, 120, 121, 122, 123, 124, 125, 126, 127, 128, 129, 130, 131, 132, 133, 134, 135, 136, 137, 138, 139] (by decide +kernel) (by decide +kernel)) (goodIn_sub (fun _ h => List.mem_cons_of_mem _ (List.mem_append_left _ (List.mem_append_right _ h))) (by decide +kernel))) (goodIn_sub (fun _ h => List.mem_cons_of_mem _ (List.mem_append_right _ h)) (by decide +kernel))
set_option maxRecDepth 20000 in
theorem gL_make_X8_make : GoodIn wsL_make (wsV RL 7 RX8 yX8_make wsX8_make) := goodIn_app (goodIn_of _ (by decide +kernel)) ggL_make_X8_make
theorem dL_make_0 : decode cL_make 0 = .ok (.aload 4, 2) := by decide +kernel
theorem dL_make_2 : decode cL_make 2 = .ok (.iconst 0, 1) := by decide +kernel
theorem dL_make_3 : decode cL_make 3 = .ok (.aload_n 0, 1) := by decide +kernel
theorem dL_make_4 : decode cL_make 4 = .ok (.iload_n 1, 1) := by decide +kernel
theorem dL_make_5 : decode cL_make 5 = .ok (.iload_n 2, 1) := by decide +kernel
theorem dL_make_6 : decode cL_make 6 = .ok (.iload_n 3, 1) := by decide +kernel
theorem dL_make_7 : decode cL_make 7 = .ok (.invokevirtual 7, 3) := by decide +kernel
theorem dL_make_10 : decode cL_make 10 = .ok (.i2l, 1) := by decide +kernel
theorem dL_make_11 : decode cL_make 11 = .ok (.lastore, 1) := by decide +kernel
theorem dL_make_12 : decode cL_make 12 = .ok (.goto 11, 3) := by decide +kernel
theorem dL_make_15 : decode cL_make 15 = .ok (.astore 5, 2) := by decide +kernel
theorem dL_make_17 : decode cL_make 17 = .ok (.iconst 1, 1) := by decide +kernel
theorem dL_make_18 : decode cL_make 18 = .ok (.ireturn, 1) := by decide +kernel
theorem dL_make_19 : decode cL_make 19 = .ok (.astore 5, 2) := by decide +kernel
theorem dL_make_21 : decode cL_make 21 = .ok (.iconst 2, 1) := by decide +kernel
theorem dL_make_22 : decode cL_make 22 = .ok (.ireturn, 1) := by decide +kernel
theorem dL_make_23 : decode cL_make 23 = .ok (.iconst 0, 1) := by decide +kernel
theorem dL_make_24 : decode cL_make 24 = .ok (.ireturn, 1) := by decide +kernel
set_option maxRecDepth 20000 in
theorem ggL_write_X8_write : GoodIn wsL_write wsX8_write := goodIn_ca (goodIn_ca (goodIn_r _ [7, 8, 9, 10, 11, 12, 13, 14, 15, 16, 17, 18, 19, 20, 21, 22, 23, 24, 25, 26, 27, 28, 29, 30, 31, 32, 33, 34, 35, 36, 37, 38, 39, 40, 41, 42, 43, 44, 45, 46, 47, 48, 49, 50, 51, 52, 53, 54, 55, 56, 6, 57, 58, 59, 60, 61, 62, 63, 64, 65, 66, 67, 68, 69, 70, 71, 72, 73, 74, 75, 76, 77, 78, 79, 80, 81, 82, 83, 84, 85, 86, 87, 88, 89, 90, 91, 92, 93, 94, 95, 96, 97, 98, 99, 100, 101, 102, 103, 104, 105, 106, 107, 108, 109, 110] (by decide +kernel) (by decide +kernel)) (goodIn_sub (fun _ h => List.mem_cons_of_mem _ (List.mem_append_left _ (List.mem_append_right _ h))) (by decide +kernel))) (goodIn_sub (fun _ h => List.mem_cons_of_mem _ (List.mem_append_right _ h)) (by decide +kernel))
set_option maxRecDepth 20000 in
theorem gL_write_X8_write : GoodIn wsL_write (wsV RL 17 RX8 yX8_write wsX8_write) := goodIn_app (goodIn_of _ (by decide +kernel)) ggL_write_X8_write
theorem dL_write_0 : decode cL_write 0 = .ok (.aload_n 2, 1) := by decide +kernel
theorem dL_write_1 : decode cL_write 1 = .ok (.iconst 0, 1) := by decide +kernel
theorem dL_write_2 : decode cL_write 2 = .ok (.aload_n 0, 1) := by decide +kernel
theorem dL_write_3 : decode cL_write 3 = .ok (.iload_n 1, 1) := by decide +kernel
theorem dL_write_4 : decode cL_write 4 = .ok (.invokevirtual 17, 3) := by decide +kernel
theorem dL_write_7 : decode cL_write 7 = .ok (.i2l, 1) := by decide +kernel
theorem dL_write_8 : decode cL_write 8 = .ok (.lastore, 1) := by decide +kernel
theorem dL_write_9 : decode cL_write 9 = .ok (.goto 9, 3) := by decide +kernel
theorem dL_write_12 : decode cL_write 12 = .ok (.astore_n 3, 1) := by decide +kernel
theorem dL_write_13 : decode cL_write 13 = .ok (.iconst 1, 1) := by decide +kernel
theorem dL_write_14 : decode cL_write 14 = .ok (.ireturn, 1) := by decide +kernel
theorem dL_write_15 : decode cL_write 15 = .ok (.astore_n 3, 1) := by decide +kernel
theorem dL_write_16 : decode cL_write 16 = .ok (.iconst 2, 1) := by decide +kernel
theorem dL_write_17 : decode cL_write 17 = .ok (.ireturn, 1) := by decide +kernel
theorem dL_write_18 : decode cL_write 18 = .ok (.iconst 0, 1) := by decide +kernel
theorem dL_write_19 : decode cL_write 19 = .ok (.ireturn, 1) := by decide +kernel
set_option maxRecDepth 20000 in
theorem ggL_cut_X8_cut : GoodIn wsL_cut wsX8_cut := goodIn_ca (goodIn_ca (goodIn_r _ [7, 8, 9, 10, 11, 12, 13, 14, 15, 16, 17, 18, 19, 20, 21, 22, 23, 24, 25, 26, 27, 28, 29, 30, 31, 32, 33, 34, 35, 36, 37, 38, 39, 40, 41, 42, 43, 44, 45, 46, 47, 48, 49, 50, 51, 52, 53, 54, 55, 56, 57, 58, 59, 60, 61, 62, 63, 64, 65, 66, 67, 68, 69, 70, 71, 72, 73, 74, 75, 76, 77, 78, 79, 80] (by decide +kernel) (by decide +kernel)) (goodIn_sub (fun _ h => List.mem_cons_of_mem _ (List.mem_append_left _ (List.mem_append_right _ h))) (by decide +kernel))) (goodIn_sub (fun _ h => List.mem_cons_of_mem _ (List.mem_append_right _ h)) (by decide +kernel))
set_option maxRecDepth 20000 in
theorem gL_cut_X8_cut : GoodIn wsL_cut (wsV RL 21 RX8 yX8_cut wsX8_cut) := goodIn_app (goodIn_of _ (by decide +kernel)) ggL_cut_X8_cut
theorem dL_cut_0 : decode cL_cut 0 = .ok (.aload_n 0, 1) := by decide +kernel
theorem dL_cut_1 : decode cL_cut 1 = .ok (.iload_n 1, 1) := by decide +kernel
theorem dL_cut_2 : decode cL_cut 2 = .ok (.invokevirtual 21, 3) := by decide +kernel
theorem dL_cut_5 : decode cL_cut 5 = .ok (.goto 9, 3) := by decide +kernel
theorem dL_cut_8 : decode cL_cut 8 = .ok (.astore_n 2, 1) := by decide +kernel
theorem dL_cut_9 : decode cL_cut 9 = .ok (.iconst 1, 1) := by decide +kernel
theorem dL_cut_10 : decode cL_cut 10 = .ok (.ireturn, 1) := by decide +kernel
theorem dL_cut_11 : decode cL_cut 11 = .ok (.astore_n 2, 1) := by decide +kernel
theorem dL_cut_12 : decode cL_cut 12 = .ok (.iconst 2, 1) := by decide +kernel
theorem dL_cut_13 : decode cL_cut 13 = .ok (.ireturn, 1) := by decide +kernel
theorem dL_cut_14 : decode cL_cut 14 = .ok (.iconst 0, 1) := by decide +kernel
theorem dL_cut_15 : decode cL_cut 15 = .ok (.ireturn, 1) := by decide +kernel
set_option maxRecDepth 20000 in
theorem ggL_set_X8_set : GoodIn wsL_set wsX8_set := goodIn_ca (goodIn_ca (goodIn_r _ [7, 8, 9, 10, 11, 12, 13, 14, 15, 16, 17, 18, 19, 20, 21, 22, 23, 6, 24, 25, 26, 27, 28, 29, 30, 31, 32, 33, 34, 35, 36, 37, 38, 39, 40, 41, 42, 43, 44, 45, 46, 47, 48, 49, 50, 51, 52, 53, 54, 55, 56, 57, 58, 59, 60, 61, 62, 63, 64, 65] (by decide +kernel) (by decide +kernel)) (goodIn_sub (fun _ h => List.mem_cons_of_mem _ (List.mem_append_left _ (List.mem_append_right _ h))) (by decide +kernel))) (goodIn_sub (fun _ h => List.mem_cons_of_mem _ (List.mem_append_right _ h)) (by decide +kernel))
set_option maxRecDepth 20000 in
theorem gL_set_X8_set : GoodIn wsL_set (wsV RL 25 RX8 yX8_set wsX8_set) := goodIn_app (goodIn_of _ (by decide +kernel)) ggL_set_X8_set
theorem dL_set_0 : decode cL_set 0 = .ok (.aload_n 0, 1) := by decide +kernel
theorem dL_set_1 : decode cL_set 1 = .ok (.iload_n 1, 1) := by decide +kernel
theorem dL_set_2 : decode cL_set 2 = .ok (.iload_n 2, 1) := by decide +kernel
theorem dL_set_3 : decode cL_set 3 = .ok (.invokevirtual 25, 3) := by decide +kernel
theorem dL_set_6 : decode cL_set 6 = .ok (.goto 9, 3) := by decide +kernel
theorem dL_set_9 : decode cL_set 9 = .ok (.astore_n 3, 1) := by decide +kernel
theorem dL_set_10 : decode cL_set 10 = .ok (.iconst 1, 1) := by decide +kernel
theorem dL_set_11 : decode cL_set 11 = .ok (.ireturn, 1) := by decide +kernel
theorem dL_set_12 : decode cL_set 12 = .ok (.astore_n 3, 1) := by decide +kernel
theorem dL_set_13 : decode cL_set 13 = .ok (.iconst 2, 1) := by decide +kernel
theorem dL_set_14 : decode cL_set 14 = .ok (.ireturn, 1) := by decide +kernel
theorem dL_set_15 : decode cL_set 15 = .ok (.iconst 0, 1) := by decide +kernel
theorem dL_set_16 : decode cL_set 16 = .ok (.ireturn, 1) := by decide +kernel
set_option maxRecDepth 20000 in
theorem ggL_remove_X8_remove : GoodIn wsL_remove wsX8_remove := goodIn_ca (goodIn_r _ [6, 7, 8, 9, 10, 11, 12, 13, 14, 15, 16, 17, 18, 19, 20, 21, 22, 23, 24, 25, 26, 27, 28, 29, 30, 31, 32, 33, 34, 35, 36, 37, 38, 39, 40, 41, 42, 43, 44, 45, 46, 47, 48] (by decide +kernel) (by decide +kernel)) (goodIn_sub (fun _ h => List.mem_cons_of_mem _ (List.mem_append_right _ h)) (by decide +kernel))
set_option maxRecDepth 20000 in
theorem gL_remove_X8_remove : GoodIn wsL_remove (wsV RL 29 RX8 yX8_remove wsX8_remove) := goodIn_app (goodIn_of _ (by decide +kernel)) ggL_remove_X8_remove
theorem dL_remove_0 : decode cL_remove 0 = .ok (.aload_n 1, 1) := by decide +kernel
theorem dL_remove_1 : decode cL_remove 1 = .ok (.iconst 0, 1) := by decide +kernel
theorem dL_remove_2 : decode cL_remove 2 = .ok (.aload_n 0, 1) := by decide +kernel
theorem dL_remove_3 : decode cL_remove 3 = .ok (.invokevirtual 29, 3) := by decide +kernel
theorem dL_remove_6 : decode cL_remove 6 = .ok (.i2l, 1) := by decide +kernel
theorem dL_remove_7 : decode cL_remove 7 = .ok (.lastore, 1) := by decide +kernel
theorem dL_remove_8 : decode cL_remove 8 = .ok (.goto 6, 3) := by decide +kernel
theorem dL_remove_11 : decode cL_remove 11 = .ok (.astore_n 2, 1) := by decide +kernel
theorem dL_remove_12 : decode cL_remove 12 = .ok (.iconst 1, 1) := by decide +kernel
theorem dL_remove_13 : decode cL_remove 13 = .ok (.ireturn, 1) := by decide +kernel
theorem dL_remove_14 : decode cL_remove 14 = .ok (.iconst 0, 1) := by decide +kernel
theorem dL_remove_15 : decode cL_remove 15 = .ok (.ireturn, 1) := by decide +kernel
set_option maxRecDepth 20000 in
theorem ggL_begin_X8_begin : GoodIn wsL_begin wsX8_begin := goodIn_ca (goodIn_ca (goodIn_r _ [7, 8, 9, 10, 11, 12, 13, 14, 15, 16, 17, 18, 19, 20, 21, 22, 23, 24, 6, 25, 26, 27, 28, 29, 30, 31, 32, 33, 34, 35, 36, 37, 38, 39, 40, 41, 42, 43, 44, 45, 46, 47, 48, 49, 50, 51, 52, 53, 54, 55, 56, 57, 58, 59, 60, 61, 62, 63, 64, 65, 66, 67, 68, 69, 70, 71, 72, 73, 74, 75, 76, 77, 78, 79, 80, 81, 82, 83, 84, 85, 86, 87, 88, 89, 90, 91, 92, 93, 94, 95, 96, 97, 98, 99, 100, 101, 102, 103, 104, 105, 106, 107, 108, 109, 110, 111, 112, 113, 114, 115, 116, 117, 118, 119, 120, 121, 122] (by decide +kernel) (by decide +kernel)) (goodIn_sub (fun _ h => List.mem_cons_of_mem _ (List.mem_append_left _ (List.mem_append_right _ h))) (by decide +kernel))) (goodIn_sub (fun _ h => List.mem_cons_of_mem _ (List.mem_append_right _ h)) (by decide +kernel))
set_option maxRecDepth 20000 in
theorem gL_begin_X8_begin : GoodIn wsL_begin (wsV RL 33 RX8 yX8_begin wsX8_begin) := goodIn_app (goodIn_of _ (by decide +kernel)) ggL_begin_X8_begin
theorem dL_begin_0 : decode cL_begin 0 = .ok (.aload_n 2, 1) := by decide +kernel
theorem dL_begin_1 : decode cL_begin 1 = .ok (.iconst 0, 1) := by decide +kernel
theorem dL_begin_2 : decode cL_begin 2 = .ok (.aload_n 0, 1) := by decide +kernel
theorem dL_begin_3 : decode cL_begin 3 = .ok (.iload_n 1, 1) := by decide +kernel
theorem dL_begin_4 : decode cL_begin 4 = .ok (.invokevirtual 33, 3) := by decide +kernel
theorem dL_begin_7 : decode cL_begin 7 = .ok (.i2l, 1) := by decide +kernel
theorem dL_begin_8 : decode cL_begin 8 = .ok (.lastore, 1) := by decide +kernel
theorem dL_begin_9 : decode cL_begin 9 = .ok (.goto 9, 3) := by decide +kernel
theorem dL_begin_12 : decode cL_begin 12 = .ok (.astore_n 3, 1) := by decide +kernel
theorem dL_begin_13 : decode cL_begin 13 = .ok (.iconst 1, 1) := by decide +kernel
theorem dL_begin_14 : decode cL_begin 14 = .ok (.ireturn, 1) := by decide +kernel
theorem dL_begin_15 : decode cL_begin 15 = .ok (.astore_n 3, 1) := by decide +kernel
theorem dL_begin_16 : decode cL_begin 16 = .ok (.iconst 2, 1) := by decide +kernel
theorem dL_begin_17 : decode cL_begin 17 = .ok (.ireturn, 1) := by decide +kernel
theorem dL_begin_18 : decode cL_begin 18 = .ok (.iconst 0, 1) := by decide +kernel
theorem dL_begin_19 : decode cL_begin 19 = .ok (.ireturn, 1) := by decide +kernel
set_option maxRecDepth 20000 in
theorem ggL_step_X8_step : GoodIn wsL_step wsX8_step := goodIn_ca (goodIn_ca (goodIn_r _ [7, 8, 9, 10, 11, 12, 13, 14, 15, 16, 17, 18, 19, 20, 21, 6, 22, 23, 24, 25, 26, 27, 28, 29, 30, 31, 32, 33, 34, 35, 36, 37, 38, 39, 40, 41, 42, 43, 44, 45, 46, 47, 48, 49, 50, 51, 52, 53, 54, 55, 56, 57, 58, 59, 60, 61, 62, 63, 64, 65, 66, 67, 68, 69, 70, 71, 72, 73, 74, 75, 76, 77, 78, 79, 80, 81, 82, 83, 84, 85, 86, 87, 88, 89, 90, 91, 92, 93, 94, 95, 96, 97, 98, 99, 100, 101, 102, 103, 104, 105, 106, 107, 108, 109, 110, 111, 112, 113, 114, 115, 116, 117, 118, 119, 120, 121, 122, 123, 124, 125, 126, 127, 128, 129, 130, 131, 132, 133, 134, 135, 136, 137, 138, 139, 140, 141, 142, 143, 144, 145, 146, 147, 148, 149, 150, 151, 152, 153, 154, 155, 156, 157, 158, 159, 160] (by decide +kernel) (by decide +kernel)) (goodIn_sub (fun _ h => List.mem_cons_of_mem _ (List.mem_append_left _ (List.mem_append_right _ h))) (by decide +kernel))) (goodIn_sub (fun _ h => List.mem_cons_of_mem _ (List.mem_append_right _ h)) (by decide +kernel))
set_option maxRecDepth 20000 in
theorem gL_step_X8_step : GoodIn wsL_step (wsV RL 36 RX8 yX8_step wsX8_step) := goodIn_app (goodIn_of _ (by decide +kernel)) ggL_step_X8_step
theorem dL_step_0 : decode cL_step 0 = .ok (.aload_n 2, 1) := by decide +kernel
theorem dL_step_1 : decode cL_step 1 = .ok (.iconst 0, 1) := by decide +kernel
theorem dL_step_2 : decode cL_step 2 = .ok (.aload_n 0, 1) := by decide +kernel
theorem dL_step_3 : decode cL_step 3 = .ok (.iload_n 1, 1) := by decide +kernel
theorem dL_step_4 : decode cL_step 4 = .ok (.invokevirtual 36, 3) := by decide +kernel
theorem dL_step_7 : decode cL_step 7 = .ok (.i2l, 1) := by decide +kernel
theorem dL_step_8 : decode cL_step 8 = .ok (.lastore, 1) := by decide +kernel
theorem dL_step_9 : decode cL_step 9 = .ok (.goto 9, 3) := by decide +kernel
theorem dL_step_12 : decode cL_step 12 = .ok (.astore_n 3, 1) := by decide +kernel
theorem dL_step_13 : decode cL_step 13 = .ok (.iconst 1, 1) := by decide +kernel
theorem dL_step_14 : decode cL_step 14 = .ok (.ireturn, 1) := by decide +kernel
theorem dL_step_15 : decode cL_step 15 = .ok (.astore_n 3, 1) := by decide +kernel
theorem dL_step_16 : decode cL_step 16 = .ok (.iconst 2, 1) := by decide +kernel
theorem dL_step_17 : decode cL_step 17 = .ok (.ireturn, 1) := by decide +kernel
theorem dL_step_18 : decode cL_step 18 = .ok (.iconst 0, 1) := by decide +kernel
theorem dL_step_19 : decode cL_step 19 = .ok (.ireturn, 1) := by decide +kernel
set_option maxRecDepth 20000 in
theorem ggL_crash_X8_crash : GoodIn wsL_crash wsX8_crash := goodIn_ca (goodIn_r _ [6, 7, 8, 9, 10, 11, 12, 13, 14, 15, 16, 17, 18] (by decide +kernel) (by decide +kernel)) (goodIn_sub (fun _ h => List.mem_cons_of_mem _ (List.mem_append_right _ h)) (by decide +kernel))
set_option maxRecDepth 20000 in
theorem gL_crash_X8_crash : GoodIn wsL_crash (wsV RL 39 RX8 yX8_crash wsX8_crash) := goodIn_app (goodIn_of _ (by decide +kernel)) ggL_crash_X8_crash
theorem dL_crash_0 : decode cL_crash 0 = .ok (.aload_n 0, 1) := by decide +kernel
theorem dL_crash_1 : decode cL_crash 1 = .ok (.invokevirtual 39, 3) := by decide +kernel
theorem dL_crash_4 : decode cL_crash 4 = .ok (.goto 6, 3) := by decide +kernel
theorem dL_crash_7 : decode cL_crash 7 = .ok (.astore_n 1, 1) := by decide +kernel
theorem dL_crash_8 : decode cL_crash 8 = .ok (.iconst 1, 1) := by decide +kernel
theorem dL_crash_9 : decode cL_crash 9 = .ok (.ireturn, 1) := by decide +kernel
theorem dL_crash_10 : decode cL_crash 10 = .ok (.iconst 0, 1) := by decide +kernel
theorem dL_crash_11 : decode cL_crash 11 = .ok (.ireturn, 1) := by decide +kernel
set_option maxRecDepth 20000 in
theorem ggL_regress_X8_regress : GoodIn wsL_regress wsX8_regress := goodIn_ca (goodIn_ca (goodIn_r _ [7, 8, 9, 10, 11, 12, 13, 14, 15, 16, 17, 18, 19, 20, 21, 6, 22, 23, 24, 25, 26, 27, 28, 29, 30, 31, 32, 33, 34, 35, 36, 37, 38, 39, 40, 41, 42, 43, 44, 45, 46, 47, 48, 49, 50, 51, 52, 53, 54, 55, 56, 57, 58, 59, 60, 61, 62, 63, 64, 65, 66, 67, 68, 69, 70, 71, 72, 73, 74, 75, 76, 77, 78, 79, 80, 81, 82, 83, 84, 85, 86, 87, 88, 89, 90, 91, 92, 93, 94, 95, 96, 97, 98, 99, 100, 101, 102, 103, 104, 105, 106, 107, 108, 109, 110, 111, 112, 113, 114] (by decide +kernel) (by decide +kernel)) (goodIn_sub (fun _ h => List.mem_cons_of_mem _ (List.mem_append_left _ (List.mem_append_right _ h))) (by decide +kernel))) (goodIn_sub (fun _ h => List.mem_cons_of_mem _ (List.mem_append_right _ h)) (by decide +kernel))
set_option maxRecDepth 20000 in
theorem gL_regress_X8_regress : GoodIn wsL_regress (wsV RL 42 RX8 yX8_regress wsX8_regress) := goodIn_app (goodIn_of _ (by decide +kernel)) ggL_regress_X8_regress
theorem dL_regress_0 : decode cL_regress 0 = .ok (.aload_n 2, 1) := by decide +kernel
theorem dL_regress_1 : decode cL_regress 1 = .ok (.iconst 0, 1) := by decide +kernel
theorem dL_regress_2 : decode cL_regress 2 = .ok (.aload_n 0, 1) := by decide +kernel
theorem dL_regress_3 : decode cL_regress 3 = .ok (.iload_n 1, 1) := by decide +kernel
theorem dL_regress_4 : decode cL_regress 4 = .ok (.invokevirtual 42, 3) := by decide +kernel
theorem dL_regress_7 : decode cL_regress 7 = .ok (.i2l, 1) := by decide +kernel
theorem dL_regress_8 : decode cL_regress 8 = .ok (.lastore, 1) := by decide +kernel
theorem dL_regress_9 : decode cL_regress 9 = .ok (.goto 9, 3) := by decide +kernel
theorem dL_regress_12 : decode cL_regress 12 = .ok (.astore_n 3, 1) := by decide +kernel
theorem dL_regress_13 : decode cL_regress 13 = .ok (.iconst 1, 1) := by decide +kernel
theorem dL_regress_14 : decode cL_regress 14 = .ok (.ireturn, 1) := by decide +kernel
theorem dL_regress_15 : decode cL_regress 15 = .ok (.astore_n 3, 1) := by decide +kernel
theorem dL_regress_16 : decode cL_regress 16 = .ok (.iconst 2, 1) := by decide +kernel
theorem dL_regress_17 : decode cL_regress 17 = .ok (.ireturn, 1) := by decide +kernel
theorem dL_regress_18 : decode cL_regress 18 = .ok (.iconst 0, 1) := by decide +kernel
theorem dL_regress_19 : decode cL_regress 19 = .ok (.ireturn, 1) := by decide +kernel
set_option maxRecDepth 20000 in
theorem ggL_restore_X8_restore : GoodIn wsL_restore wsX8_restore := goodIn_ca (goodIn_r _ [6, 7, 8, 9, 10, 11, 12, 13, 14, 15, 16, 17, 18, 19, 20, 21, 22, 23, 24, 25, 26, 27, 28, 29, 30, 31, 32, 33, 34, 35, 36, 37, 38, 39, 40, 41, 42, 43, 44, 45, 46, 47, 48, 49, 50, 51] (by decide +kernel) (by decide +kernel)) (goodIn_sub (fun _ h => List.mem_cons_of_mem _ (List.mem_append_right _ h)) (by decide +kernel))
set_option maxRecDepth 20000 in
theorem gL_restore_X8_restore : GoodIn wsL_restore (wsV RL 45 RX8 yX8_restore wsX8_restore) := goodIn_app (goodIn_of _ (by decide +kernel)) ggL_restore_X8_restore
theorem dL_restore_0 : decode cL_restore 0 = .ok (.aload_n 2, 1) := by decide +kernel
theorem dL_restore_1 : decode cL_restore 1 = .ok (.iconst 0, 1) := by decide +kernel
theorem dL_restore_2 : decode cL_restore 2 = .ok (.aload_n 0, 1) := by decide +kernel
theorem dL_restore_3 : decode cL_restore 3 = .ok (.iload_n 1, 1) := by decide +kernel
theorem dL_restore_4 : decode cL_restore 4 = .ok (.invokevirtual 45, 3) := by decide +kernel
theorem dL_restore_7 : decode cL_restore 7 = .ok (.i2l, 1) := by decide +kernel
theorem dL_restore_8 : decode cL_restore 8 = .ok (.lastore, 1) := by decide +kernel
theorem dL_restore_9 : decode cL_restore 9 = .ok (.goto 6, 3) := by decide +kernel
theorem dL_restore_12 : decode cL_restore 12 = .ok (.astore_n 3, 1) := by decide +kernel
theorem dL_restore_13 : decode cL_restore 13 = .ok (.iconst 1, 1) := by decide +kernel
theorem dL_restore_14 : decode cL_restore 14 = .ok (.ireturn, 1) := by decide +kernel
theorem dL_restore_15 : decode cL_restore 15 = .ok (.iconst 0, 1) := by decide +kernel
theorem dL_restore_16 : decode cL_restore 16 = .ok (.ireturn, 1) := by decide +kernel
set_option maxRecDepth 20000 in
theorem ggL_prune_X8_prune : GoodIn wsL_prune wsX8_prune := goodIn_ca (goodIn_r _ [6, 7, 8, 9, 10, 11, 12, 13, 14, 15, 16, 17, 18, 19, 20, 21, 22, 23, 24, 25, 26, 27, 28, 29, 30, 31, 32, 33, 34, 35, 36] (by decide +kernel) (by decide +kernel)) (goodIn_sub (fun _ h => List.mem_cons_of_mem _ (List.mem_append_right _ h)) (by decide +kernel))
set_option maxRecDepth 20000 in
theorem gL_prune_X8_prune : GoodIn wsL_prune (wsV RL 48 RX8 yX8_prune wsX8_prune) := goodIn_app (goodIn_of _ (by decide +kernel)) ggL_prune_X8_prune
theorem dL_prune_0 : decode cL_prune 0 = .ok (.aload_n 2, 1) := by decide +kernel
theorem dL_prune_1 : decode cL_prune 1 = .ok (.iconst 0, 1) := by decide +kernel
theorem dL_prune_2 : decode cL_prune 2 = .ok (.aload_n 0, 1) := by decide +kernel
theorem dL_prune_3 : decode cL_prune 3 = .ok (.iload_n 1, 1) := by decide +kernel
theorem dL_prune_4 : decode cL_prune 4 = .ok (.invokevirtual 48, 3) := by decide +kernel
theorem dL_prune_7 : decode cL_prune 7 = .ok (.i2l, 1) := by decide +kernel
theorem dL_prune_8 : decode cL_prune 8 = .ok (.lastore, 1) := by decide +kernel
theorem dL_prune_9 : decode cL_prune 9 = .ok (.goto 6, 3) := by decide +kernel
theorem dL_prune_12 : decode cL_prune 12 = .ok (.astore_n 3, 1) := by decide +kernel
theorem dL_prune_13 : decode cL_prune 13 = .ok (.iconst 1, 1) := by decide +kernel
theorem dL_prune_14 : decode cL_prune 14 = .ok (.ireturn, 1) := by decide +kernel
theorem dL_prune_15 : decode cL_prune 15 = .ok (.iconst 0, 1) := by decide +kernel
theorem dL_prune_16 : decode cL_prune 16 = .ok (.ireturn, 1) := by decide +kernel
theorem dL_law_0 : decode cL_law 0 = .ok (.new 8, 3) := by decide +kernel
theorem dL_law_3 : decode cL_law 3 = .ok (.dup, 1) := by decide +kernel
theorem dL_law_4 : decode cL_law 4 = .ok (.invokespecial 51, 3) := by decide +kernel
theorem dL_law_7 : decode cL_law 7 = .ok (.astore_n 1, 1) := by decide +kernel
theorem dL_law_8 : decode cL_law 8 = .ok (.new 52, 3) := by decide +kernel
theorem dL_law_11 : decode cL_law 11 = .ok (.dup, 1) := by decide +kernel
theorem dL_law_12 : decode cL_law 12 = .ok (.invokespecial 54, 3) := by decide +kernel
theorem dL_law_15 : decode cL_law 15 = .ok (.astore_n 2, 1) := by decide +kernel
theorem dL_law_16 : decode cL_law 16 = .ok (.iconst 1, 1) := by decide +kernel
theorem dL_law_17 : decode cL_law 17 = .ok (.newarray .long, 2) := by decide +kernel
theorem dL_law_19 : decode cL_law 19 = .ok (.astore_n 3, 1) := by decide +kernel
theorem dL_law_20 : decode cL_law 20 = .ok (.iconst 0, 1) := by decide +kernel
theorem dL_law_21 : decode cL_law 21 = .ok (.istore 4, 2) := by decide +kernel
theorem dL_law_23 : decode cL_law 23 = .ok (.iload 4, 2) := by decide +kernel
theorem dL_law_25 : decode cL_law 25 = .ok (.aload_n 0, 1) := by decide +kernel
theorem dL_law_26 : decode cL_law 26 = .ok (.arraylength, 1) := by decide +kernel
theorem dL_law_27 : decode cL_law 27 = .ok (.bipush 6, 2) := by decide +kernel
theorem dL_law_29 : decode cL_law 29 = .ok (.isub, 1) := by decide +kernel
theorem dL_law_30 : decode cL_law 30 = .ok (.if_icmp .gt 986, 3) := by decide +kernel
theorem dL_law_33 : decode cL_law 33 = .ok (.aload_n 0, 1) := by decide +kernel
theorem dL_law_34 : decode cL_law 34 = .ok (.iload 4, 2) := by decide +kernel
theorem dL_law_36 : decode cL_law 36 = .ok (.iaload, 1) := by decide +kernel
theorem dL_law_37 : decode cL_law 37 = .ok (.bipush 31, 2) := by decide +kernel
theorem dL_law_39 : decode cL_law 39 = .ok (.iand, 1) := by decide +kernel
theorem dL_law_40 : decode cL_law 40 = .ok (.tableswitch 970 0 18 #[92, 163, 188, 268, 281, 337, 373, 421, 465, 521, 577, 601, 657, 713, 769, 782, 831, 908, 933], 92) := by decide +kernel
theorem dL_law_132 : decode cL_law 132 = .ok (.aload_n 1, 1) := by decide +kernel
theorem dL_law_133 : decode cL_law 133 = .ok (.aload_n 0, 1) := by decide +kernel
theorem dL_law_134 : decode cL_law 134 = .ok (.iload 4, 2) := by decide +kernel
theorem dL_law_136 : decode cL_law 136 = .ok (.iconst 1, 1) := by decide +kernel
theorem dL_law_137 : decode cL_law 137 = .ok (.iadd, 1) := by decide +kernel
theorem dL_law_138 : decode cL_law 138 = .ok (.iaload, 1) := by decide +kernel
theorem dL_law_139 : decode cL_law 139 = .ok (.aload_n 0, 1) := by decide +kernel
theorem dL_law_140 : decode cL_law 140 = .ok (.iload 4, 2) := by decide +kernel
theorem dL_law_142 : decode cL_law 142 = .ok (.iconst 2, 1) := by decide +kernel
theorem dL_law_143 : decode cL_law 143 = .ok (.iadd, 1) := by decide +kernel
theorem dL_law_144 : decode cL_law 144 = .ok (.iaload, 1) := by decide +kernel
theorem dL_law_145 : decode cL_law 145 = .ok (.aload_n 0, 1) := by decide +kernel
theorem dL_law_146 : decode cL_law 146 = .ok (.iload 4, 2) := by decide +kernel
theorem dL_law_148 : decode cL_law 148 = .ok (.iconst 3, 1) := by decide +kernel
theorem dL_law_149 : decode cL_law 149 = .ok (.iadd, 1) := by decide +kernel
theorem dL_law_150 : decode cL_law 150 = .ok (.iaload, 1) := by decide +kernel
theorem dL_law_151 : decode cL_law 151 = .ok (.aload_n 0, 1) := by decide +kernel
theorem dL_law_152 : decode cL_law 152 = .ok (.iload 4, 2) := by decide +kernel
theorem dL_law_154 : decode cL_law 154 = .ok (.iconst 4, 1) := by decide +kernel
theorem dL_law_155 : decode cL_law 155 = .ok (.iadd, 1) := by decide +kernel
theorem dL_law_156 : decode cL_law 156 = .ok (.iaload, 1) := by decide +kernel
theorem dL_law_157 : decode cL_law 157 = .ok (.aload_n 0, 1) := by decide +kernel
theorem dL_law_158 : decode cL_law 158 = .ok (.iload 4, 2) := by decide +kernel
theorem dL_law_160 : decode cL_law 160 = .ok (.iconst 5, 1) := by decide +kernel
theorem dL_law_161 : decode cL_law 161 = .ok (.iadd, 1) := by decide +kernel
theorem dL_law_162 : decode cL_law 162 = .ok (.iaload, 1) := by decide +kernel
theorem dL_law_163 : decode cL_law 163 = .ok (.invokevirtual 55, 3) := by decide +kernel
theorem dL_law_166 : decode cL_law 166 = .ok (.aload_n 2, 1) := by decide +kernel
theorem dL_law_167 : decode cL_law 167 = .ok (.aload_n 0, 1) := by decide +kernel
theorem dL_law_168 : decode cL_law 168 = .ok (.iload 4, 2) := by decide +kernel
theorem dL_law_170 : decode cL_law 170 = .ok (.iconst 1, 1) := by decide +kernel
theorem dL_law_171 : decode cL_law 171 = .ok (.iadd, 1) := by decide +kernel
theorem dL_law_172 : decode cL_law 172 = .ok (.iaload, 1) := by decide +kernel
theorem dL_law_173 : decode cL_law 173 = .ok (.aload_n 0, 1) := by decide +kernel
theorem dL_law_174 : decode cL_law 174 = .ok (.iload 4, 2) := by decide +kernel
theorem dL_law_176 : decode cL_law 176 = .ok (.iconst 2, 1) := by decide +kernel
theorem dL_law_177 : decode cL_law 177 = .ok (.iadd, 1) := by decide +kernel
theorem dL_law_178 : decode cL_law 178 = .ok (.iaload, 1) := by decide +kernel
theorem dL_law_179 : decode cL_law 179 = .ok (.aload_n 0, 1) := by decide +kernel
theorem dL_law_180 : decode cL_law 180 = .ok (.iload 4, 2) := by decide +kernel
theorem dL_law_182 : decode cL_law 182 = .ok (.iconst 3, 1) := by decide +kernel
theorem dL_law_183 : decode cL_law 183 = .ok (.iadd, 1) := by decide +kernel
theorem dL_law_184 : decode cL_law 184 = .ok (.iaload, 1) := by decide +kernel
theorem dL_law_185 : decode cL_law 185 = .ok (.aload_n 0, 1) := by decide +kernel
theorem dL_law_186 : decode cL_law 186 = .ok (.iload 4, 2) := by decide +kernel
theorem dL_law_188 : decode cL_law 188 = .ok (.iconst 4, 1) := by decide +kernel
theorem dL_law_189 : decode cL_law 189 = .ok (.iadd, 1) := by decide +kernel
theorem dL_law_190 : decode cL_law 190 = .ok (.iaload, 1) := by decide +kernel
theorem dL_law_191 : decode cL_law 191 = .ok (.aload_n 0, 1) := by decide +kernel
theorem dL_law_192 : decode cL_law 192 = .ok (.iload 4, 2) := by decide +kernel
theorem dL_law_194 : decode cL_law 194 = .ok (.iconst 5, 1) := by decide +kernel
theorem dL_law_195 : decode cL_law 195 = .ok (.iadd, 1) := by decide +kernel
theorem dL_law_196 : decode cL_law 196 = .ok (.iaload, 1) := by decide +kernel
theorem dL_law_197 : decode cL_law 197 = .ok (.invokevirtual 59, 3) := by decide +kernel
theorem dL_law_200 : decode cL_law 200 = .ok (.goto 810, 3) := by decide +kernel
theorem dL_law_203 : decode cL_law 203 = .ok (.aload_n 1, 1) := by decide +kernel
theorem dL_law_204 : decode cL_law 204 = .ok (.aload_n 0, 1) := by decide +kernel
theorem dL_law_205 : decode cL_law 205 = .ok (.iload 4, 2) := by decide +kernel
theorem dL_law_207 : decode cL_law 207 = .ok (.iconst 1, 1) := by decide +kernel
theorem dL_law_208 : decode cL_law 208 = .ok (.iadd, 1) := by decide +kernel
theorem dL_law_209 : decode cL_law 209 = .ok (.iaload, 1) := by decide +kernel
theorem dL_law_210 : decode cL_law 210 = .ok (.invokevirtual 60, 3) := by decide +kernel
theorem dL_law_213 : decode cL_law 213 = .ok (.aload_n 2, 1) := by decide +kernel
theorem dL_law_214 : decode cL_law 214 = .ok (.aload_n 0, 1) := by decide +kernel
theorem dL_law_215 : decode cL_law 215 = .ok (.iload 4, 2) := by decide +kernel
theorem dL_law_217 : decode cL_law 217 = .ok (.iconst 1, 1) := by decide +kernel
theorem dL_law_218 : decode cL_law 218 = .ok (.iadd, 1) := by decide +kernel
theorem dL_law_219 : decode cL_law 219 = .ok (.iaload, 1) := by decide +kernel
theorem dL_law_220 : decode cL_law 220 = .ok (.invokevirtual 63, 3) := by decide +kernel
theorem dL_law_223 : decode cL_law 223 = .ok (.if_icmp .eq 787, 3) := by decide +kernel
theorem dL_law_226 : decode cL_law 226 = .ok (.iconst 0, 1) := by decide +kernel
theorem dL_law_227 : decode cL_law 227 = .ok (.ireturn, 1) := by decide +kernel
theorem dL_law_228 : decode cL_law 228 = .ok (.aload_n 1, 1) := by decide +kernel
theorem dL_law_229 : decode cL_law 229 = .ok (.aload_n 0, 1) := by decide +kernel
theorem dL_law_230 : decode cL_law 230 = .ok (.iload 4, 2) := by decide +kernel
theorem dL_law_232 : decode cL_law 232 = .ok (.iconst 1, 1) := by decide +kernel
theorem dL_law_233 : decode cL_law 233 = .ok (.iadd, 1) := by decide +kernel
theorem dL_law_234 : decode cL_law 234 = .ok (.iaload, 1) := by decide +kernel
theorem dL_law_235 : decode cL_law 235 = .ok (.aload_n 0, 1) := by decide +kernel
theorem dL_law_236 : decode cL_law 236 = .ok (.iload 4, 2) := by decide +kernel
theorem dL_law_238 : decode cL_law 238 = .ok (.iconst 2, 1) := by decide +kernel
theorem dL_law_239 : decode cL_law 239 = .ok (.iadd, 1) := by decide +kernel
theorem dL_law_240 : decode cL_law 240 = .ok (.iaload, 1) := by decide +kernel
theorem dL_law_241 : decode cL_law 241 = .ok (.aload_n 0, 1) := by decide +kernel
theorem dL_law_242 : decode cL_law 242 = .ok (.iload 4, 2) := by decide +kernel
theorem dL_law_244 : decode cL_law 244 = .ok (.iconst 3, 1) := by decide +kernel
theorem dL_law_245 : decode cL_law 245 = .ok (.iadd, 1) := by decide +kernel
theorem dL_law_246 : decode cL_law 246 = .ok (.iaload, 1) := by decide +kernel
theorem dL_law_247 : decode cL_law 247 = .ok (.aload_n 3, 1) := by decide +kernel
theorem dL_law_248 : decode cL_law 248 = .ok (.invokestatic 64, 3) := by decide +kernel
theorem dL_law_251 : decode cL_law 251 = .ok (.istore 5, 2) := by decide +kernel
theorem dL_law_253 : decode cL_law 253 = .ok (.aload_n 2, 1) := by decide +kernel
theorem dL_law_254 : decode cL_law 254 = .ok (.aload_n 0, 1) := by decide +kernel
theorem dL_law_255 : decode cL_law 255 = .ok (.iload 4, 2) := by decide +kernel
theorem dL_law_257 : decode cL_law 257 = .ok (.iconst 1, 1) := by decide +kernel
theorem dL_law_258 : decode cL_law 258 = .ok (.iadd, 1) := by decide +kernel
theorem dL_law_259 : decode cL_law 259 = .ok (.iaload, 1) := by decide +kernel
theorem dL_law_260 : decode cL_law 260 = .ok (.aload_n 0, 1) := by decide +kernel
theorem dL_law_261 : decode cL_law 261 = .ok (.iload 4, 2) := by decide +kernel
theorem dL_law_263 : decode cL_law 263 = .ok (.iconst 2, 1) := by decide +kernel
theorem dL_law_264 : decode cL_law 264 = .ok (.iadd, 1) := by decide +kernel
theorem dL_law_265 : decode cL_law 265 = .ok (.iaload, 1) := by decide +kernel
theorem dL_law_266 : decode cL_law 266 = .ok (.aload_n 0, 1) := by decide +kernel
theorem dL_law_267 : decode cL_law 267 = .ok (.iload 4, 2) := by decide +kernel
theorem dL_law_269 : decode cL_law 269 = .ok (.iconst 3, 1) := by decide +kernel
theorem dL_law_270 : decode cL_law 270 = .ok (.iadd, 1) := by decide +kernel
theorem dL_law_271 : decode cL_law 271 = .ok (.iaload, 1) := by decide +kernel
theorem dL_law_272 : decode cL_law 272 = .ok (.invokevirtual 69, 3) := by decide +kernel
theorem dL_law_275 : decode cL_law 275 = .ok (.istore 6, 2) := by decide +kernel
theorem dL_law_277 : decode cL_law 277 = .ok (.aload_n 2, 1) := by decide +kernel
theorem dL_law_278 : decode cL_law 278 = .ok (.invokevirtual 70, 3) := by decide +kernel
theorem dL_law_281 : decode cL_law 281 = .ok (.iload 5, 2) := by decide +kernel
theorem dL_law_283 : decode cL_law 283 = .ok (.if_icmp .eq 5, 3) := by decide +kernel
theorem dL_law_286 : decode cL_law 286 = .ok (.iconst 0, 1) := by decide +kernel
theorem dL_law_287 : decode cL_law 287 = .ok (.ireturn, 1) := by decide +kernel
theorem dL_law_288 : decode cL_law 288 = .ok (.iload 5, 2) := by decide +kernel
theorem dL_law_290 : decode cL_law 290 = .ok (.ifCond .ne 15, 3) := by decide +kernel
theorem dL_law_293 : decode cL_law 293 = .ok (.aload_n 3, 1) := by decide +kernel
theorem dL_law_294 : decode cL_law 294 = .ok (.iconst 0, 1) := by decide +kernel
theorem dL_law_295 : decode cL_law 295 = .ok (.laload, 1) := by decide +kernel
theorem dL_law_296 : decode cL_law 296 = .ok (.iload 6, 2) := by decide +kernel
theorem dL_law_298 : decode cL_law 298 = .ok (.i2l, 1) := by decide +kernel
theorem dL_law_299 : decode cL_law 299 = .ok (.lcmp, 1) := by decide +kernel
theorem dL_law_300 : decode cL_law 300 = .ok (.ifCond .eq 5, 3) := by decide +kernel
theorem dL_law_303 : decode cL_law 303 = .ok (.iconst 0, 1) := by decide +kernel
theorem dL_law_304 : decode cL_law 304 = .ok (.ireturn, 1) := by decide +kernel
theorem dL_law_305 : decode cL_law 305 = .ok (.goto 705, 3) := by decide +kernel
theorem dL_law_308 : decode cL_law 308 = .ok (.aload_n 1, 1) := by decide +kernel
theorem dL_law_309 : decode cL_law 309 = .ok (.invokevirtual 73, 3) := by decide +kernel
theorem dL_law_312 : decode cL_law 312 = .ok (.aload_n 2, 1) := by decide +kernel
theorem dL_law_313 : decode cL_law 313 = .ok (.invokevirtual 76, 3) := by decide +kernel
theorem dL_law_316 : decode cL_law 316 = .ok (.if_icmp .eq 694, 3) := by decide +kernel
theorem dL_law_319 : decode cL_law 319 = .ok (.iconst 0, 1) := by decide +kernel
theorem dL_law_320 : decode cL_law 320 = .ok (.ireturn, 1) := by decide +kernel
theorem dL_law_321 : decode cL_law 321 = .ok (.aload_n 1, 1) := by decide +kernel
theorem dL_law_322 : decode cL_law 322 = .ok (.aload_n 0, 1) := by decide +kernel
theorem dL_law_323 : decode cL_law 323 = .ok (.iload 4, 2) := by decide +kernel
theorem dL_law_325 : decode cL_law 325 = .ok (.iconst 1, 1) := by decide +kernel
theorem dL_law_326 : decode cL_law 326 = .ok (.iadd, 1) := by decide +kernel
theorem dL_law_327 : decode cL_law 327 = .ok (.iaload, 1) := by decide +kernel
theorem dL_law_328 : decode cL_law 328 = .ok (.aload_n 3, 1) := by decide +kernel
theorem dL_law_329 : decode cL_law 329 = .ok (.invokestatic 77, 3) := by decide +kernel
theorem dL_law_332 : decode cL_law 332 = .ok (.istore 5, 2) := by decide +kernel
theorem dL_law_334 : decode cL_law 334 = .ok (.aload_n 2, 1) := by decide +kernel
theorem dL_law_335 : decode cL_law 335 = .ok (.aload_n 0, 1) := by decide +kernel
theorem dL_law_336 : decode cL_law 336 = .ok (.iload 4, 2) := by decide +kernel
theorem dL_law_338 : decode cL_law 338 = .ok (.iconst 1, 1) := by decide +kernel
theorem dL_law_339 : decode cL_law 339 = .ok (.iadd, 1) := by decide +kernel
theorem dL_law_340 : decode cL_law 340 = .ok (.iaload, 1) := by decide +kernel
theorem dL_law_341 : decode cL_law 341 = .ok (.invokevirtual 80, 3) := by decide +kernel
theorem dL_law_344 : decode cL_law 344 = .ok (.istore 6, 2) := by decide +kernel
theorem dL_law_346 : decode cL_law 346 = .ok (.aload_n 2, 1) := by decide +kernel
theorem dL_law_347 : decode cL_law 347 = .ok (.invokevirtual 70, 3) := by decide +kernel
theorem dL_law_350 : decode cL_law 350 = .ok (.iload 5, 2) := by decide +kernel
theorem dL_law_352 : decode cL_law 352 = .ok (.if_icmp .eq 5, 3) := by decide +kernel
theorem dL_law_355 : decode cL_law 355 = .ok (.iconst 0, 1) := by decide +kernel
theorem dL_law_356 : decode cL_law 356 = .ok (.ireturn, 1) := by decide +kernel
theorem dL_law_357 : decode cL_law 357 = .ok (.iload 5, 2) := by decide +kernel
theorem dL_law_359 : decode cL_law 359 = .ok (.ifCond .ne 15, 3) := by decide +kernel
theorem dL_law_362 : decode cL_law 362 = .ok (.aload_n 3, 1) := by decide +kernel
theorem dL_law_363 : decode cL_law 363 = .ok (.iconst 0, 1) := by decide +kernel
theorem dL_law_364 : decode cL_law 364 = .ok (.laload, 1) := by decide +kernel
theorem dL_law_365 : decode cL_law 365 = .ok (.iload 6, 2) := by decide +kernel
theorem dL_law_367 : decode cL_law 367 = .ok (.i2l, 1) := by decide +kernel
theorem dL_law_368 : decode cL_law 368 = .ok (.lcmp, 1) := by decide +kernel
theorem dL_law_369 : decode cL_law 369 = .ok (.ifCond .eq 5, 3) := by decide +kernel
theorem dL_law_372 : decode cL_law 372 = .ok (.iconst 0, 1) := by decide +kernel
theorem dL_law_373 : decode cL_law 373 = .ok (.ireturn, 1) := by decide +kernel
theorem dL_law_374 : decode cL_law 374 = .ok (.goto 636, 3) := by decide +kernel
theorem dL_law_377 : decode cL_law 377 = .ok (.aload_n 1, 1) := by decide +kernel
theorem dL_law_378 : decode cL_law 378 = .ok (.aload_n 0, 1) := by decide +kernel
theorem dL_law_379 : decode cL_law 379 = .ok (.iload 4, 2) := by decide +kernel
theorem dL_law_381 : decode cL_law 381 = .ok (.iconst 1, 1) := by decide +kernel
theorem dL_law_382 : decode cL_law 382 = .ok (.iadd, 1) := by decide +kernel
theorem dL_law_383 : decode cL_law 383 = .ok (.iaload, 1) := by decide +kernel
theorem dL_law_384 : decode cL_law 384 = .ok (.invokestatic 81, 3) := by decide +kernel
theorem dL_law_387 : decode cL_law 387 = .ok (.istore 5, 2) := by decide +kernel
theorem dL_law_389 : decode cL_law 389 = .ok (.aload_n 2, 1) := by decide +kernel
theorem dL_law_390 : decode cL_law 390 = .ok (.aload_n 0, 1) := by decide +kernel
theorem dL_law_391 : decode cL_law 391 = .ok (.iload 4, 2) := by decide +kernel
theorem dL_law_393 : decode cL_law 393 = .ok (.iconst 1, 1) := by decide +kernel
theorem dL_law_394 : decode cL_law 394 = .ok (.iadd, 1) := by decide +kernel
theorem dL_law_395 : decode cL_law 395 = .ok (.iaload, 1) := by decide +kernel
theorem dL_law_396 : decode cL_law 396 = .ok (.invokevirtual 84, 3) := by decide +kernel
theorem dL_law_399 : decode cL_law 399 = .ok (.aload_n 2, 1) := by decide +kernel
theorem dL_law_400 : decode cL_law 400 = .ok (.invokevirtual 70, 3) := by decide +kernel
theorem dL_law_403 : decode cL_law 403 = .ok (.iload 5, 2) := by decide +kernel
theorem dL_law_405 : decode cL_law 405 = .ok (.if_icmp .eq 5, 3) := by decide +kernel
theorem dL_law_408 : decode cL_law 408 = .ok (.iconst 0, 1) := by decide +kernel
theorem dL_law_409 : decode cL_law 409 = .ok (.ireturn, 1) := by decide +kernel
theorem dL_law_410 : decode cL_law 410 = .ok (.goto 600, 3) := by decide +kernel
theorem dL_law_413 : decode cL_law 413 = .ok (.aload_n 1, 1) := by decide +kernel
theorem dL_law_414 : decode cL_law 414 = .ok (.aload_n 0, 1) := by decide +kernel
theorem dL_law_415 : decode cL_law 415 = .ok (.iload 4, 2) := by decide +kernel
theorem dL_law_417 : decode cL_law 417 = .ok (.iconst 1, 1) := by decide +kernel
theorem dL_law_418 : decode cL_law 418 = .ok (.iadd, 1) := by decide +kernel
theorem dL_law_419 : decode cL_law 419 = .ok (.iaload, 1) := by decide +kernel
theorem dL_law_420 : decode cL_law 420 = .ok (.aload_n 0, 1) := by decide +kernel
theorem dL_law_421 : decode cL_law 421 = .ok (.iload 4, 2) := by decide +kernel
theorem dL_law_423 : decode cL_law 423 = .ok (.iconst 2, 1) := by decide +kernel
theorem dL_law_424 : decode cL_law 424 = .ok (.iadd, 1) := by decide +kernel
theorem dL_law_425 : decode cL_law 425 = .ok (.iaload, 1) := by decide +kernel
theorem dL_law_426 : decode cL_law 426 = .ok (.invokestatic 85, 3) := by decide +kernel
theorem dL_law_429 : decode cL_law 429 = .ok (.istore 5, 2) := by decide +kernel
theorem dL_law_431 : decode cL_law 431 = .ok (.aload_n 2, 1) := by decide +kernel
theorem dL_law_432 : decode cL_law 432 = .ok (.aload_n 0, 1) := by decide +kernel
theorem dL_law_433 : decode cL_law 433 = .ok (.iload 4, 2) := by decide +kernel
theorem dL_law_435 : decode cL_law 435 = .ok (.iconst 1, 1) := by decide +kernel
theorem dL_law_436 : decode cL_law 436 = .ok (.iadd, 1) := by decide +kernel
theorem dL_law_437 : decode cL_law 437 = .ok (.iaload, 1) := by decide +kernel
theorem dL_law_438 : decode cL_law 438 = .ok (.aload_n 0, 1) := by decide +kernel
theorem dL_law_439 : decode cL_law 439 = .ok (.iload 4, 2) := by decide +kernel
theorem dL_law_441 : decode cL_law 441 = .ok (.iconst 2, 1) := by decide +kernel
theorem dL_law_442 : decode cL_law 442 = .ok (.iadd, 1) := by decide +kernel
theorem dL_law_443 : decode cL_law 443 = .ok (.iaload, 1) := by decide +kernel
theorem dL_law_444 : decode cL_law 444 = .ok (.invokevirtual 88, 3) := by decide +kernel
theorem dL_law_447 : decode cL_law 447 = .ok (.aload_n 2, 1) := by decide +kernel
theorem dL_law_448 : decode cL_law 448 = .ok (.invokevirtual 70, 3) := by decide +kernel
theorem dL_law_451 : decode cL_law 451 = .ok (.iload 5, 2) := by decide +kernel
theorem dL_law_453 : decode cL_law 453 = .ok (.if_icmp .eq 5, 3) := by decide +kernel
theorem dL_law_456 : decode cL_law 456 = .ok (.iconst 0, 1) := by decide +kernel
theorem dL_law_457 : decode cL_law 457 = .ok (.ireturn, 1) := by decide +kernel
theorem dL_law_458 : decode cL_law 458 = .ok (.goto 552, 3) := by decide +kernel
theorem dL_law_461 : decode cL_law 461 = .ok (.aload_n 1, 1) := by decide +kernel
theorem dL_law_462 : decode cL_law 462 = .ok (.aload_n 3, 1) := by decide +kernel
theorem dL_law_463 : decode cL_law 463 = .ok (.invokestatic 89, 3) := by decide +kernel
theorem dL_law_466 : decode cL_law 466 = .ok (.istore 5, 2) := by decide +kernel
theorem dL_law_468 : decode cL_law 468 = .ok (.aload_n 2, 1) := by decide +kernel
theorem dL_law_469 : decode cL_law 469 = .ok (.invokevirtual 92, 3) := by decide +kernel
theorem dL_law_472 : decode cL_law 472 = .ok (.istore 6, 2) := by decide +kernel
theorem dL_law_474 : decode cL_law 474 = .ok (.aload_n 2, 1) := by decide +kernel
theorem dL_law_475 : decode cL_law 475 = .ok (.invokevirtual 70, 3) := by decide +kernel
theorem dL_law_478 : decode cL_law 478 = .ok (.iload 5, 2) := by decide +kernel
theorem dL_law_480 : decode cL_law 480 = .ok (.if_icmp .eq 5, 3) := by decide +kernel
theorem dL_law_483 : decode cL_law 483 = .ok (.iconst 0, 1) := by decide +kernel
theorem dL_law_484 : decode cL_law 484 = .ok (.ireturn, 1) := by decide +kernel
theorem dL_law_485 : decode cL_law 485 = .ok (.iload 5, 2) := by decide +kernel
theorem dL_law_487 : decode cL_law 487 = .ok (.ifCond .ne 15, 3) := by decide +kernel
theorem dL_law_490 : decode cL_law 490 = .ok (.aload_n 3, 1) := by decide +kernel
theorem dL_law_491 : decode cL_law 491 = .ok (.iconst 0, 1) := by decide +kernel
theorem dL_law_492 : decode cL_law 492 = .ok (.laload, 1) := by decide +kernel
theorem dL_law_493 : decode cL_law 493 = .ok (.iload 6, 2) := by decide +kernel
theorem dL_law_495 : decode cL_law 495 = .ok (.i2l, 1) := by decide +kernel
theorem dL_law_496 : decode cL_law 496 = .ok (.lcmp, 1) := by decide +kernel
theorem dL_law_497 : decode cL_law 497 = .ok (.ifCond .eq 5, 3) := by decide +kernel
theorem dL_law_500 : decode cL_law 500 = .ok (.iconst 0, 1) := by decide +kernel
theorem dL_law_501 : decode cL_law 501 = .ok (.ireturn, 1) := by decide +kernel
theorem dL_law_502 : decode cL_law 502 = .ok (.goto 508, 3) := by decide +kernel
theorem dL_law_505 : decode cL_law 505 = .ok (.aload_n 1, 1) := by decide +kernel
theorem dL_law_506 : decode cL_law 506 = .ok (.aload_n 0, 1) := by decide +kernel
theorem dL_law_507 : decode cL_law 507 = .ok (.iload 4, 2) := by decide +kernel
theorem dL_law_509 : decode cL_law 509 = .ok (.iconst 1, 1) := by decide +kernel
theorem dL_law_510 : decode cL_law 510 = .ok (.iadd, 1) := by decide +kernel
theorem dL_law_511 : decode cL_law 511 = .ok (.iaload, 1) := by decide +kernel
theorem dL_law_512 : decode cL_law 512 = .ok (.aload_n 3, 1) := by decide +kernel
theorem dL_law_513 : decode cL_law 513 = .ok (.invokestatic 93, 3) := by decide +kernel
theorem dL_law_516 : decode cL_law 516 = .ok (.istore 5, 2) := by decide +kernel
theorem dL_law_518 : decode cL_law 518 = .ok (.aload_n 2, 1) := by decide +kernel
theorem dL_law_519 : decode cL_law 519 = .ok (.aload_n 0, 1) := by decide +kernel
theorem dL_law_520 : decode cL_law 520 = .ok (.iload 4, 2) := by decide +kernel
theorem dL_law_522 : decode cL_law 522 = .ok (.iconst 1, 1) := by decide +kernel
theorem dL_law_523 : decode cL_law 523 = .ok (.iadd, 1) := by decide +kernel
theorem dL_law_524 : decode cL_law 524 = .ok (.iaload, 1) := by decide +kernel
theorem dL_law_525 : decode cL_law 525 = .ok (.invokevirtual 95, 3) := by decide +kernel
theorem dL_law_528 : decode cL_law 528 = .ok (.istore 6, 2) := by decide +kernel
theorem dL_law_530 : decode cL_law 530 = .ok (.aload_n 2, 1) := by decide +kernel
theorem dL_law_531 : decode cL_law 531 = .ok (.invokevirtual 70, 3) := by decide +kernel
theorem dL_law_534 : decode cL_law 534 = .ok (.iload 5, 2) := by decide +kernel
theorem dL_law_536 : decode cL_law 536 = .ok (.if_icmp .eq 5, 3) := by decide +kernel
theorem dL_law_539 : decode cL_law 539 = .ok (.iconst 0, 1) := by decide +kernel
theorem dL_law_540 : decode cL_law 540 = .ok (.ireturn, 1) := by decide +kernel
theorem dL_law_541 : decode cL_law 541 = .ok (.iload 5, 2) := by decide +kernel
theorem dL_law_543 : decode cL_law 543 = .ok (.ifCond .ne 15, 3) := by decide +kernel
theorem dL_law_546 : decode cL_law 546 = .ok (.aload_n 3, 1) := by decide +kernel
theorem dL_law_547 : decode cL_law 547 = .ok (.iconst 0, 1) := by decide +kernel
theorem dL_law_548 : decode cL_law 548 = .ok (.laload, 1) := by decide +kernel
theorem dL_law_549 : decode cL_law 549 = .ok (.iload 6, 2) := by decide +kernel
theorem dL_law_551 : decode cL_law 551 = .ok (.i2l, 1) := by decide +kernel
theorem dL_law_552 : decode cL_law 552 = .ok (.lcmp, 1) := by decide +kernel
theorem dL_law_553 : decode cL_law 553 = .ok (.ifCond .eq 5, 3) := by decide +kernel
theorem dL_law_556 : decode cL_law 556 = .ok (.iconst 0, 1) := by decide +kernel
theorem dL_law_557 : decode cL_law 557 = .ok (.ireturn, 1) := by decide +kernel
theorem dL_law_558 : decode cL_law 558 = .ok (.goto 452, 3) := by decide +kernel
theorem dL_law_561 : decode cL_law 561 = .ok (.aload_n 1, 1) := by decide +kernel
theorem dL_law_562 : decode cL_law 562 = .ok (.aload_n 0, 1) := by decide +kernel
theorem dL_law_563 : decode cL_law 563 = .ok (.iload 4, 2) := by decide +kernel
theorem dL_law_565 : decode cL_law 565 = .ok (.iconst 1, 1) := by decide +kernel
theorem dL_law_566 : decode cL_law 566 = .ok (.iadd, 1) := by decide +kernel
theorem dL_law_567 : decode cL_law 567 = .ok (.iaload, 1) := by decide +kernel
theorem dL_law_568 : decode cL_law 568 = .ok (.aload_n 3, 1) := by decide +kernel
theorem dL_law_569 : decode cL_law 569 = .ok (.invokestatic 96, 3) := by decide +kernel
theorem dL_law_572 : decode cL_law 572 = .ok (.istore 5, 2) := by decide +kernel
theorem dL_law_574 : decode cL_law 574 = .ok (.aload_n 2, 1) := by decide +kernel
theorem dL_law_575 : decode cL_law 575 = .ok (.aload_n 0, 1) := by decide +kernel
theorem dL_law_576 : decode cL_law 576 = .ok (.iload 4, 2) := by decide +kernel
theorem dL_law_578 : decode cL_law 578 = .ok (.iconst 1, 1) := by decide +kernel
theorem dL_law_579 : decode cL_law 579 = .ok (.iadd, 1) := by decide +kernel
theorem dL_law_580 : decode cL_law 580 = .ok (.iaload, 1) := by decide +kernel
theorem dL_law_581 : decode cL_law 581 = .ok (.invokevirtual 98, 3) := by decide +kernel
theorem dL_law_584 : decode cL_law 584 = .ok (.istore 6, 2) := by decide +kernel
theorem dL_law_586 : decode cL_law 586 = .ok (.aload_n 2, 1) := by decide +kernel
theorem dL_law_587 : decode cL_law 587 = .ok (.invokevirtual 70, 3) := by decide +kernel
theorem dL_law_590 : decode cL_law 590 = .ok (.iload 5, 2) := by decide +kernel
theorem dL_law_592 : decode cL_law 592 = .ok (.if_icmp .eq 5, 3) := by decide +kernel
theorem dL_law_595 : decode cL_law 595 = .ok (.iconst 0, 1) := by decide +kernel
theorem dL_law_596 : decode cL_law 596 = .ok (.ireturn, 1) := by decide +kernel
theorem dL_law_597 : decode cL_law 597 = .ok (.iload 5, 2) := by decide +kernel
theorem dL_law_599 : decode cL_law 599 = .ok (.ifCond .ne 15, 3) := by decide +kernel
theorem dL_law_602 : decode cL_law 602 = .ok (.aload_n 3, 1) := by decide +kernel
theorem dL_law_603 : decode cL_law 603 = .ok (.iconst 0, 1) := by decide +kernel
theorem dL_law_604 : decode cL_law 604 = .ok (.laload, 1) := by decide +kernel
theorem dL_law_605 : decode cL_law 605 = .ok (.iload 6, 2) := by decide +kernel
theorem dL_law_607 : decode cL_law 607 = .ok (.i2l, 1) := by decide +kernel
theorem dL_law_608 : decode cL_law 608 = .ok (.lcmp, 1) := by decide +kernel
theorem dL_law_609 : decode cL_law 609 = .ok (.ifCond .eq 5, 3) := by decide +kernel
theorem dL_law_612 : decode cL_law 612 = .ok (.iconst 0, 1) := by decide +kernel
theorem dL_law_613 : decode cL_law 613 = .ok (.ireturn, 1) := by decide +kernel
theorem dL_law_614 : decode cL_law 614 = .ok (.goto 396, 3) := by decide +kernel
theorem dL_law_617 : decode cL_law 617 = .ok (.aload_n 1, 1) := by decide +kernel
theorem dL_law_618 : decode cL_law 618 = .ok (.invokestatic 99, 3) := by decide +kernel
theorem dL_law_621 : decode cL_law 621 = .ok (.istore 5, 2) := by decide +kernel
theorem dL_law_623 : decode cL_law 623 = .ok (.aload_n 2, 1) := by decide +kernel
theorem dL_law_624 : decode cL_law 624 = .ok (.invokevirtual 102, 3) := by decide +kernel
theorem dL_law_627 : decode cL_law 627 = .ok (.aload_n 2, 1) := by decide +kernel
theorem dL_law_628 : decode cL_law 628 = .ok (.invokevirtual 70, 3) := by decide +kernel
theorem dL_law_631 : decode cL_law 631 = .ok (.iload 5, 2) := by decide +kernel
theorem dL_law_633 : decode cL_law 633 = .ok (.if_icmp .eq 5, 3) := by decide +kernel
theorem dL_law_636 : decode cL_law 636 = .ok (.iconst 0, 1) := by decide +kernel
theorem dL_law_637 : decode cL_law 637 = .ok (.ireturn, 1) := by decide +kernel
theorem dL_law_638 : decode cL_law 638 = .ok (.goto 372, 3) := by decide +kernel
theorem dL_law_641 : decode cL_law 641 = .ok (.aload_n 1, 1) := by decide +kernel
theorem dL_law_642 : decode cL_law 642 = .ok (.aload_n 0, 1) := by decide +kernel
theorem dL_law_643 : decode cL_law 643 = .ok (.iload 4, 2) := by decide +kernel
theorem dL_law_645 : decode cL_law 645 = .ok (.iconst 1, 1) := by decide +kernel
theorem dL_law_646 : decode cL_law 646 = .ok (.iadd, 1) := by decide +kernel
theorem dL_law_647 : decode cL_law 647 = .ok (.iaload, 1) := by decide +kernel
theorem dL_law_648 : decode cL_law 648 = .ok (.aload_n 3, 1) := by decide +kernel
theorem dL_law_649 : decode cL_law 649 = .ok (.invokestatic 103, 3) := by decide +kernel
theorem dL_law_652 : decode cL_law 652 = .ok (.istore 5, 2) := by decide +kernel
theorem dL_law_654 : decode cL_law 654 = .ok (.aload_n 2, 1) := by decide +kernel
theorem dL_law_655 : decode cL_law 655 = .ok (.aload_n 0, 1) := by decide +kernel
theorem dL_law_656 : decode cL_law 656 = .ok (.iload 4, 2) := by decide +kernel
theorem dL_law_658 : decode cL_law 658 = .ok (.iconst 1, 1) := by decide +kernel
theorem dL_law_659 : decode cL_law 659 = .ok (.iadd, 1) := by decide +kernel
theorem dL_law_660 : decode cL_law 660 = .ok (.iaload, 1) := by decide +kernel
theorem dL_law_661 : decode cL_law 661 = .ok (.invokevirtual 105, 3) := by decide +kernel
theorem dL_law_664 : decode cL_law 664 = .ok (.istore 6, 2) := by decide +kernel
theorem dL_law_666 : decode cL_law 666 = .ok (.aload_n 2, 1) := by decide +kernel
theorem dL_law_667 : decode cL_law 667 = .ok (.invokevirtual 70, 3) := by decide +kernel
theorem dL_law_670 : decode cL_law 670 = .ok (.iload 5, 2) := by decide +kernel
theorem dL_law_672 : decode cL_law 672 = .ok (.if_icmp .eq 5, 3) := by decide +kernel
theorem dL_law_675 : decode cL_law 675 = .ok (.iconst 0, 1) := by decide +kernel
theorem dL_law_676 : decode cL_law 676 = .ok (.ireturn, 1) := by decide +kernel
theorem dL_law_677 : decode cL_law 677 = .ok (.iload 5, 2) := by decide +kernel
theorem dL_law_679 : decode cL_law 679 = .ok (.ifCond .ne 15, 3) := by decide +kernel
theorem dL_law_682 : decode cL_law 682 = .ok (.aload_n 3, 1) := by decide +kernel
theorem dL_law_683 : decode cL_law 683 = .ok (.iconst 0, 1) := by decide +kernel
theorem dL_law_684 : decode cL_law 684 = .ok (.laload, 1) := by decide +kernel
theorem dL_law_685 : decode cL_law 685 = .ok (.iload 6, 2) := by decide +kernel
theorem dL_law_687 : decode cL_law 687 = .ok (.i2l, 1) := by decide +kernel
theorem dL_law_688 : decode cL_law 688 = .ok (.lcmp, 1) := by decide +kernel
theorem dL_law_689 : decode cL_law 689 = .ok (.ifCond .eq 5, 3) := by decide +kernel
theorem dL_law_692 : decode cL_law 692 = .ok (.iconst 0, 1) := by decide +kernel
theorem dL_law_693 : decode cL_law 693 = .ok (.ireturn, 1) := by decide +kernel
theorem dL_law_694 : decode cL_law 694 = .ok (.goto 316, 3) := by decide +kernel
theorem dL_law_697 : decode cL_law 697 = .ok (.aload_n 1, 1) := by decide +kernel
theorem dL_law_698 : decode cL_law 698 = .ok (.aload_n 0, 1) := by decide +kernel
theorem dL_law_699 : decode cL_law 699 = .ok (.iload 4, 2) := by decide +kernel
theorem dL_law_701 : decode cL_law 701 = .ok (.iconst 1, 1) := by decide +kernel
theorem dL_law_702 : decode cL_law 702 = .ok (.iadd, 1) := by decide +kernel
theorem dL_law_703 : decode cL_law 703 = .ok (.iaload, 1) := by decide +kernel
theorem dL_law_704 : decode cL_law 704 = .ok (.aload_n 3, 1) := by decide +kernel
theorem dL_law_705 : decode cL_law 705 = .ok (.invokestatic 106, 3) := by decide +kernel
theorem dL_law_708 : decode cL_law 708 = .ok (.istore 5, 2) := by decide +kernel
theorem dL_law_710 : decode cL_law 710 = .ok (.aload_n 2, 1) := by decide +kernel
theorem dL_law_711 : decode cL_law 711 = .ok (.aload_n 0, 1) := by decide +kernel
theorem dL_law_712 : decode cL_law 712 = .ok (.iload 4, 2) := by decide +kernel
theorem dL_law_714 : decode cL_law 714 = .ok (.iconst 1, 1) := by decide +kernel
theorem dL_law_715 : decode cL_law 715 = .ok (.iadd, 1) := by decide +kernel
theorem dL_law_716 : decode cL_law 716 = .ok (.iaload, 1) := by decide +kernel
theorem dL_law_717 : decode cL_law 717 = .ok (.invokevirtual 108, 3) := by decide +kernel
theorem dL_law_720 : decode cL_law 720 = .ok (.istore 6, 2) := by decide +kernel
theorem dL_law_722 : decode cL_law 722 = .ok (.aload_n 2, 1) := by decide +kernel
theorem dL_law_723 : decode cL_law 723 = .ok (.invokevirtual 70, 3) := by decide +kernel
theorem dL_law_726 : decode cL_law 726 = .ok (.iload 5, 2) := by decide +kernel
theorem dL_law_728 : decode cL_law 728 = .ok (.if_icmp .eq 5, 3) := by decide +kernel
theorem dL_law_731 : decode cL_law 731 = .ok (.iconst 0, 1) := by decide +kernel
theorem dL_law_732 : decode cL_law 732 = .ok (.ireturn, 1) := by decide +kernel
theorem dL_law_733 : decode cL_law 733 = .ok (.iload 5, 2) := by decide +kernel
theorem dL_law_735 : decode cL_law 735 = .ok (.ifCond .ne 15, 3) := by decide +kernel
theorem dL_law_738 : decode cL_law 738 = .ok (.aload_n 3, 1) := by decide +kernel
theorem dL_law_739 : decode cL_law 739 = .ok (.iconst 0, 1) := by decide +kernel
theorem dL_law_740 : decode cL_law 740 = .ok (.laload, 1) := by decide +kernel
theorem dL_law_741 : decode cL_law 741 = .ok (.iload 6, 2) := by decide +kernel
theorem dL_law_743 : decode cL_law 743 = .ok (.i2l, 1) := by decide +kernel
theorem dL_law_744 : decode cL_law 744 = .ok (.lcmp, 1) := by decide +kernel
theorem dL_law_745 : decode cL_law 745 = .ok (.ifCond .eq 5, 3) := by decide +kernel
theorem dL_law_748 : decode cL_law 748 = .ok (.iconst 0, 1) := by decide +kernel
theorem dL_law_749 : decode cL_law 749 = .ok (.ireturn, 1) := by decide +kernel
theorem dL_law_750 : decode cL_law 750 = .ok (.goto 260, 3) := by decide +kernel
theorem dL_law_753 : decode cL_law 753 = .ok (.aload_n 1, 1) := by decide +kernel
theorem dL_law_754 : decode cL_law 754 = .ok (.aload_n 0, 1) := by decide +kernel
theorem dL_law_755 : decode cL_law 755 = .ok (.iload 4, 2) := by decide +kernel
theorem dL_law_757 : decode cL_law 757 = .ok (.iconst 1, 1) := by decide +kernel
theorem dL_law_758 : decode cL_law 758 = .ok (.iadd, 1) := by decide +kernel
theorem dL_law_759 : decode cL_law 759 = .ok (.iaload, 1) := by decide +kernel
theorem dL_law_760 : decode cL_law 760 = .ok (.aload_n 3, 1) := by decide +kernel
theorem dL_law_761 : decode cL_law 761 = .ok (.invokestatic 109, 3) := by decide +kernel
theorem dL_law_764 : decode cL_law 764 = .ok (.istore 5, 2) := by decide +kernel
theorem dL_law_766 : decode cL_law 766 = .ok (.aload_n 2, 1) := by decide +kernel
theorem dL_law_767 : decode cL_law 767 = .ok (.aload_n 0, 1) := by decide +kernel
theorem dL_law_768 : decode cL_law 768 = .ok (.iload 4, 2) := by decide +kernel
theorem dL_law_770 : decode cL_law 770 = .ok (.iconst 1, 1) := by decide +kernel
theorem dL_law_771 : decode cL_law 771 = .ok (.iadd, 1) := by decide +kernel
theorem dL_law_772 : decode cL_law 772 = .ok (.iaload, 1) := by decide +kernel
theorem dL_law_773 : decode cL_law 773 = .ok (.invokevirtual 111, 3) := by decide +kernel
theorem dL_law_776 : decode cL_law 776 = .ok (.istore 6, 2) := by decide +kernel
theorem dL_law_778 : decode cL_law 778 = .ok (.aload_n 2, 1) := by decide +kernel
theorem dL_law_779 : decode cL_law 779 = .ok (.invokevirtual 70, 3) := by decide +kernel
theorem dL_law_782 : decode cL_law 782 = .ok (.iload 5, 2) := by decide +kernel
theorem dL_law_784 : decode cL_law 784 = .ok (.if_icmp .eq 5, 3) := by decide +kernel
theorem dL_law_787 : decode cL_law 787 = .ok (.iconst 0, 1) := by decide +kernel
theorem dL_law_788 : decode cL_law 788 = .ok (.ireturn, 1) := by decide +kernel
theorem dL_law_789 : decode cL_law 789 = .ok (.iload 5, 2) := by decide +kernel
theorem dL_law_791 : decode cL_law 791 = .ok (.ifCond .ne 15, 3) := by decide +kernel
theorem dL_law_794 : decode cL_law 794 = .ok (.aload_n 3, 1) := by decide +kernel
theorem dL_law_795 : decode cL_law 795 = .ok (.iconst 0, 1) := by decide +kernel
theorem dL_law_796 : decode cL_law 796 = .ok (.laload, 1) := by decide +kernel
theorem dL_law_797 : decode cL_law 797 = .ok (.iload 6, 2) := by decide +kernel
theorem dL_law_799 : decode cL_law 799 = .ok (.i2l, 1) := by decide +kernel
theorem dL_law_800 : decode cL_law 800 = .ok (.lcmp, 1) := by decide +kernel
theorem dL_law_801 : decode cL_law 801 = .ok (.ifCond .eq 5, 3) := by decide +kernel
theorem dL_law_804 : decode cL_law 804 = .ok (.iconst 0, 1) := by decide +kernel
theorem dL_law_805 : decode cL_law 805 = .ok (.ireturn, 1) := by decide +kernel
theorem dL_law_806 : decode cL_law 806 = .ok (.goto 204, 3) := by decide +kernel
theorem dL_law_809 : decode cL_law 809 = .ok (.aload_n 1, 1) := by decide +kernel
theorem dL_law_810 : decode cL_law 810 = .ok (.invokevirtual 112, 3) := by decide +kernel
theorem dL_law_813 : decode cL_law 813 = .ok (.aload_n 2, 1) := by decide +kernel
theorem dL_law_814 : decode cL_law 814 = .ok (.invokevirtual 115, 3) := by decide +kernel
theorem dL_law_817 : decode cL_law 817 = .ok (.if_icmp .eq 193, 3) := by decide +kernel
theorem dL_law_820 : decode cL_law 820 = .ok (.iconst 0, 1) := by decide +kernel
theorem dL_law_821 : decode cL_law 821 = .ok (.ireturn, 1) := by decide +kernel
theorem dL_law_822 : decode cL_law 822 = .ok (.aload_n 1, 1) := by decide +kernel
theorem dL_law_823 : decode cL_law 823 = .ok (.aload_n 0, 1) := by decide +kernel
theorem dL_law_824 : decode cL_law 824 = .ok (.iload 4, 2) := by decide +kernel
theorem dL_law_826 : decode cL_law 826 = .ok (.iconst 1, 1) := by decide +kernel
theorem dL_law_827 : decode cL_law 827 = .ok (.iadd, 1) := by decide +kernel
theorem dL_law_828 : decode cL_law 828 = .ok (.iaload, 1) := by decide +kernel
theorem dL_law_829 : decode cL_law 829 = .ok (.aload_n 0, 1) := by decide +kernel
theorem dL_law_830 : decode cL_law 830 = .ok (.iload 4, 2) := by decide +kernel
theorem dL_law_832 : decode cL_law 832 = .ok (.iconst 2, 1) := by decide +kernel
theorem dL_law_833 : decode cL_law 833 = .ok (.iadd, 1) := by decide +kernel
theorem dL_law_834 : decode cL_law 834 = .ok (.iaload, 1) := by decide +kernel
theorem dL_law_835 : decode cL_law 835 = .ok (.aload_n 0, 1) := by decide +kernel
theorem dL_law_836 : decode cL_law 836 = .ok (.iload 4, 2) := by decide +kernel
theorem dL_law_838 : decode cL_law 838 = .ok (.iconst 3, 1) := by decide +kernel
theorem dL_law_839 : decode cL_law 839 = .ok (.iadd, 1) := by decide +kernel
theorem dL_law_840 : decode cL_law 840 = .ok (.iaload, 1) := by decide +kernel
theorem dL_law_841 : decode cL_law 841 = .ok (.invokevirtual 116, 3) := by decide +kernel
theorem dL_law_844 : decode cL_law 844 = .ok (.aload_n 2, 1) := by decide +kernel
theorem dL_law_845 : decode cL_law 845 = .ok (.aload_n 0, 1) := by decide +kernel
theorem dL_law_846 : decode cL_law 846 = .ok (.iload 4, 2) := by decide +kernel
theorem dL_law_848 : decode cL_law 848 = .ok (.iconst 1, 1) := by decide +kernel
theorem dL_law_849 : decode cL_law 849 = .ok (.iadd, 1) := by decide +kernel
theorem dL_law_850 : decode cL_law 850 = .ok (.iaload, 1) := by decide +kernel
theorem dL_law_851 : decode cL_law 851 = .ok (.aload_n 0, 1) := by decide +kernel
theorem dL_law_852 : decode cL_law 852 = .ok (.iload 4, 2) := by decide +kernel
theorem dL_law_854 : decode cL_law 854 = .ok (.iconst 2, 1) := by decide +kernel
theorem dL_law_855 : decode cL_law 855 = .ok (.iadd, 1) := by decide +kernel
theorem dL_law_856 : decode cL_law 856 = .ok (.iaload, 1) := by decide +kernel
theorem dL_law_857 : decode cL_law 857 = .ok (.aload_n 0, 1) := by decide +kernel
theorem dL_law_858 : decode cL_law 858 = .ok (.iload 4, 2) := by decide +kernel
theorem dL_law_860 : decode cL_law 860 = .ok (.iconst 3, 1) := by decide +kernel
theorem dL_law_861 : decode cL_law 861 = .ok (.iadd, 1) := by decide +kernel
theorem dL_law_862 : decode cL_law 862 = .ok (.iaload, 1) := by decide +kernel
theorem dL_law_863 : decode cL_law 863 = .ok (.invokevirtual 119, 3) := by decide +kernel
theorem dL_law_866 : decode cL_law 866 = .ok (.if_icmp .eq 144, 3) := by decide +kernel
theorem dL_law_869 : decode cL_law 869 = .ok (.iconst 0, 1) := by decide +kernel
theorem dL_law_870 : decode cL_law 870 = .ok (.ireturn, 1) := by decide +kernel
theorem dL_law_871 : decode cL_law 871 = .ok (.aload_n 1, 1) := by decide +kernel
theorem dL_law_872 : decode cL_law 872 = .ok (.aload_n 0, 1) := by decide +kernel
theorem dL_law_873 : decode cL_law 873 = .ok (.iload 4, 2) := by decide +kernel
theorem dL_law_875 : decode cL_law 875 = .ok (.iconst 1, 1) := by decide +kernel
theorem dL_law_876 : decode cL_law 876 = .ok (.iadd, 1) := by decide +kernel
theorem dL_law_877 : decode cL_law 877 = .ok (.iaload, 1) := by decide +kernel
theorem dL_law_878 : decode cL_law 878 = .ok (.aload_n 0, 1) := by decide +kernel
theorem dL_law_879 : decode cL_law 879 = .ok (.iload 4, 2) := by decide +kernel
theorem dL_law_881 : decode cL_law 881 = .ok (.iconst 2, 1) := by decide +kernel
theorem dL_law_882 : decode cL_law 882 = .ok (.iadd, 1) := by decide +kernel
theorem dL_law_883 : decode cL_law 883 = .ok (.iaload, 1) := by decide +kernel
theorem dL_law_884 : decode cL_law 884 = .ok (.aload_n 0, 1) := by decide +kernel
theorem dL_law_885 : decode cL_law 885 = .ok (.iload 4, 2) := by decide +kernel
theorem dL_law_887 : decode cL_law 887 = .ok (.iconst 3, 1) := by decide +kernel
theorem dL_law_888 : decode cL_law 888 = .ok (.iadd, 1) := by decide +kernel
theorem dL_law_889 : decode cL_law 889 = .ok (.iaload, 1) := by decide +kernel
theorem dL_law_890 : decode cL_law 890 = .ok (.ifCond .eq 7, 3) := by decide +kernel
theorem dL_law_893 : decode cL_law 893 = .ok (.iconst 1, 1) := by decide +kernel
theorem dL_law_894 : decode cL_law 894 = .ok (.goto 4, 3) := by decide +kernel
theorem dL_law_897 : decode cL_law 897 = .ok (.iconst 0, 1) := by decide +kernel
theorem dL_law_898 : decode cL_law 898 = .ok (.aload_n 0, 1) := by decide +kernel
theorem dL_law_899 : decode cL_law 899 = .ok (.iload 4, 2) := by decide +kernel
theorem dL_law_901 : decode cL_law 901 = .ok (.iconst 4, 1) := by decide +kernel
theorem dL_law_902 : decode cL_law 902 = .ok (.iadd, 1) := by decide +kernel
theorem dL_law_903 : decode cL_law 903 = .ok (.iaload, 1) := by decide +kernel
theorem dL_law_904 : decode cL_law 904 = .ok (.invokevirtual 120, 3) := by decide +kernel
theorem dL_law_907 : decode cL_law 907 = .ok (.aload_n 2, 1) := by decide +kernel
theorem dL_law_908 : decode cL_law 908 = .ok (.aload_n 0, 1) := by decide +kernel
theorem dL_law_909 : decode cL_law 909 = .ok (.iload 4, 2) := by decide +kernel
theorem dL_law_911 : decode cL_law 911 = .ok (.iconst 1, 1) := by decide +kernel
theorem dL_law_912 : decode cL_law 912 = .ok (.iadd, 1) := by decide +kernel
theorem dL_law_913 : decode cL_law 913 = .ok (.iaload, 1) := by decide +kernel
theorem dL_law_914 : decode cL_law 914 = .ok (.aload_n 0, 1) := by decide +kernel
theorem dL_law_915 : decode cL_law 915 = .ok (.iload 4, 2) := by decide +kernel
theorem dL_law_917 : decode cL_law 917 = .ok (.iconst 2, 1) := by decide +kernel
theorem dL_law_918 : decode cL_law 918 = .ok (.iadd, 1) := by decide +kernel
theorem dL_law_919 : decode cL_law 919 = .ok (.iaload, 1) := by decide +kernel
theorem dL_law_920 : decode cL_law 920 = .ok (.aload_n 0, 1) := by decide +kernel
theorem dL_law_921 : decode cL_law 921 = .ok (.iload 4, 2) := by decide +kernel
theorem dL_law_923 : decode cL_law 923 = .ok (.iconst 3, 1) := by decide +kernel
theorem dL_law_924 : decode cL_law 924 = .ok (.iadd, 1) := by decide +kernel
theorem dL_law_925 : decode cL_law 925 = .ok (.iaload, 1) := by decide +kernel
theorem dL_law_926 : decode cL_law 926 = .ok (.ifCond .eq 7, 3) := by decide +kernel
theorem dL_law_929 : decode cL_law 929 = .ok (.iconst 1, 1) := by decide +kernel
theorem dL_law_930 : decode cL_law 930 = .ok (.goto 4, 3) := by decide +kernel
theorem dL_law_933 : decode cL_law 933 = .ok (.iconst 0, 1) := by decide +kernel
theorem dL_law_934 : decode cL_law 934 = .ok (.aload_n 0, 1) := by decide +kernel
theorem dL_law_935 : decode cL_law 935 = .ok (.iload 4, 2) := by decide +kernel
theorem dL_law_937 : decode cL_law 937 = .ok (.iconst 4, 1) := by decide +kernel
theorem dL_law_938 : decode cL_law 938 = .ok (.iadd, 1) := by decide +kernel
theorem dL_law_939 : decode cL_law 939 = .ok (.iaload, 1) := by decide +kernel
theorem dL_law_940 : decode cL_law 940 = .ok (.invokevirtual 124, 3) := by decide +kernel
theorem dL_law_943 : decode cL_law 943 = .ok (.if_icmp .eq 67, 3) := by decide +kernel
theorem dL_law_946 : decode cL_law 946 = .ok (.iconst 0, 1) := by decide +kernel
theorem dL_law_947 : decode cL_law 947 = .ok (.ireturn, 1) := by decide +kernel
theorem dL_law_948 : decode cL_law 948 = .ok (.aload_n 1, 1) := by decide +kernel
theorem dL_law_949 : decode cL_law 949 = .ok (.aload_n 0, 1) := by decide +kernel
theorem dL_law_950 : decode cL_law 950 = .ok (.iload 4, 2) := by decide +kernel
theorem dL_law_952 : decode cL_law 952 = .ok (.iconst 1, 1) := by decide +kernel
theorem dL_law_953 : decode cL_law 953 = .ok (.iadd, 1) := by decide +kernel
theorem dL_law_954 : decode cL_law 954 = .ok (.iaload, 1) := by decide +kernel
theorem dL_law_955 : decode cL_law 955 = .ok (.invokevirtual 125, 3) := by decide +kernel
theorem dL_law_958 : decode cL_law 958 = .ok (.aload_n 2, 1) := by decide +kernel
theorem dL_law_959 : decode cL_law 959 = .ok (.aload_n 0, 1) := by decide +kernel
theorem dL_law_960 : decode cL_law 960 = .ok (.iload 4, 2) := by decide +kernel
theorem dL_law_962 : decode cL_law 962 = .ok (.iconst 1, 1) := by decide +kernel
theorem dL_law_963 : decode cL_law 963 = .ok (.iadd, 1) := by decide +kernel
theorem dL_law_964 : decode cL_law 964 = .ok (.iaload, 1) := by decide +kernel
theorem dL_law_965 : decode cL_law 965 = .ok (.invokevirtual 128, 3) := by decide +kernel
theorem dL_law_968 : decode cL_law 968 = .ok (.if_icmp .eq 42, 3) := by decide +kernel
theorem dL_law_971 : decode cL_law 971 = .ok (.iconst 0, 1) := by decide +kernel
theorem dL_law_972 : decode cL_law 972 = .ok (.ireturn, 1) := by decide +kernel
theorem dL_law_973 : decode cL_law 973 = .ok (.aload_n 1, 1) := by decide +kernel
theorem dL_law_974 : decode cL_law 974 = .ok (.aload_n 0, 1) := by decide +kernel
theorem dL_law_975 : decode cL_law 975 = .ok (.iload 4, 2) := by decide +kernel
theorem dL_law_977 : decode cL_law 977 = .ok (.iconst 1, 1) := by decide +kernel
theorem dL_law_978 : decode cL_law 978 = .ok (.iadd, 1) := by decide +kernel
theorem dL_law_979 : decode cL_law 979 = .ok (.iaload, 1) := by decide +kernel
theorem dL_law_980 : decode cL_law 980 = .ok (.aload_n 0, 1) := by decide +kernel
theorem dL_law_981 : decode cL_law 981 = .ok (.iload 4, 2) := by decide +kernel
theorem dL_law_983 : decode cL_law 983 = .ok (.iconst 2, 1) := by decide +kernel
theorem dL_law_984 : decode cL_law 984 = .ok (.iadd, 1) := by decide +kernel
theorem dL_law_985 : decode cL_law 985 = .ok (.iaload, 1) := by decide +kernel
theorem dL_law_986 : decode cL_law 986 = .ok (.invokevirtual 129, 3) := by decide +kernel
theorem dL_law_989 : decode cL_law 989 = .ok (.aload_n 2, 1) := by decide +kernel
theorem dL_law_990 : decode cL_law 990 = .ok (.aload_n 0, 1) := by decide +kernel
theorem dL_law_991 : decode cL_law 991 = .ok (.iload 4, 2) := by decide +kernel
theorem dL_law_993 : decode cL_law 993 = .ok (.iconst 1, 1) := by decide +kernel
theorem dL_law_994 : decode cL_law 994 = .ok (.iadd, 1) := by decide +kernel
theorem dL_law_995 : decode cL_law 995 = .ok (.iaload, 1) := by decide +kernel
theorem dL_law_996 : decode cL_law 996 = .ok (.aload_n 0, 1) := by decide +kernel
theorem dL_law_997 : decode cL_law 997 = .ok (.iload 4, 2) := by decide +kernel
theorem dL_law_999 : decode cL_law 999 = .ok (.iconst 2, 1) := by decide +kernel
theorem dL_law_1000 : decode cL_law 1000 = .ok (.iadd, 1) := by decide +kernel
theorem dL_law_1001 : decode cL_law 1001 = .ok (.iaload, 1) := by decide +kernel
theorem dL_law_1002 : decode cL_law 1002 = .ok (.invokevirtual 133, 3) := by decide +kernel
theorem dL_law_1005 : decode cL_law 1005 = .ok (.if_icmp .eq 5, 3) := by decide +kernel
theorem dL_law_1008 : decode cL_law 1008 = .ok (.iconst 0, 1) := by decide +kernel
theorem dL_law_1009 : decode cL_law 1009 = .ok (.ireturn, 1) := by decide +kernel
theorem dL_law_1010 : decode cL_law 1010 = .ok (.iinc 4 6, 3) := by decide +kernel
theorem dL_law_1013 : decode cL_law 1013 = .ok (.goto (-990), 3) := by decide +kernel
theorem dL_law_1016 : decode cL_law 1016 = .ok (.iconst 1, 1) := by decide +kernel
theorem dL_law_1017 : decode cL_law 1017 = .ok (.ireturn, 1) := by decide +kernel
abbrev vwCl : List vw_C := [(RX0, TX0, 3), (RX1, TX1, 5), (RX2, TX2, 2), (RX4, TX4, 3), (RX5, TX5, 3), (RX6, TX6, 2), (RX7, TX7, 3), (RX8, TX8, 9), (RX9, TX9, 24)]
