theorem dX6_init_0 : decode cX6_init 0 = .ok (.aload_n 0, 1) := by decide +kernel
theorem dX6_init_1 : decode cX6_init 1 = .ok (.invokespecial 1, 3) := by decide +kernel
theorem dX6_init_4 : decode cX6_init 4 = .ok (.aload_n 0, 1) := by decide +kernel
theorem dX6_init_5 : decode cX6_init 5 = .ok (.new 7, 3) := by decide +kernel
theorem dX6_init_8 : decode cX6_init 8 = .ok (.dup, 1) := by decide +kernel
theorem dX6_init_9 : decode cX6_init 9 = .ok (.invokespecial 9, 3) := by decide +kernel
theorem dX6_init_12 : decode cX6_init 12 = .ok (.putfield 10, 3) := by decide +kernel
theorem dX6_init_15 : decode cX6_init 15 = .ok (.aload_n 0, 1) := by decide +kernel
theorem dX6_init_16 : decode cX6_init 16 = .ok (.new 7, 3) := by decide +kernel
theorem dX6_init_19 : decode cX6_init 19 = .ok (.dup, 1) := by decide +kernel
theorem dX6_init_20 : decode cX6_init 20 = .ok (.invokespecial 9, 3) := by decide +kernel
theorem dX6_init_23 : decode cX6_init 23 = .ok (.putfield 16, 3) := by decide +kernel
theorem dX6_init_26 : decode cX6_init 26 = .ok (.aload_n 0, 1) := by decide +kernel
theorem dX6_init_27 : decode cX6_init 27 = .ok (.iconst 0, 1) := by decide +kernel
theorem dX6_init_28 : decode cX6_init 28 = .ok (.putfield 19, 3) := by decide +kernel
theorem dX6_init_31 : decode cX6_init 31 = .ok (.aload_n 0, 1) := by decide +kernel
theorem dX6_init_32 : decode cX6_init 32 = .ok (.new 23, 3) := by decide +kernel
theorem dX6_init_35 : decode cX6_init 35 = .ok (.dup, 1) := by decide +kernel
theorem dX6_init_36 : decode cX6_init 36 = .ok (.invokespecial 25, 3) := by decide +kernel
theorem dX6_init_39 : decode cX6_init 39 = .ok (.putfield 26, 3) := by decide +kernel
theorem dX6_init_42 : decode cX6_init 42 = .ok (.aload_n 0, 1) := by decide +kernel
theorem dX6_init_43 : decode cX6_init 43 = .ok (.new 30, 3) := by decide +kernel
theorem dX6_init_46 : decode cX6_init 46 = .ok (.dup, 1) := by decide +kernel
theorem dX6_init_47 : decode cX6_init 47 = .ok (.invokespecial 32, 3) := by decide +kernel
theorem dX6_init_50 : decode cX6_init 50 = .ok (.putfield 33, 3) := by decide +kernel
theorem dX6_init_53 : decode cX6_init 53 = .ok (.aload_n 0, 1) := by decide +kernel
theorem dX6_init_54 : decode cX6_init 54 = .ok (.new 37, 3) := by decide +kernel
theorem dX6_init_57 : decode cX6_init 57 = .ok (.dup, 1) := by decide +kernel
theorem dX6_init_58 : decode cX6_init 58 = .ok (.invokespecial 39, 3) := by decide +kernel
theorem dX6_init_61 : decode cX6_init 61 = .ok (.putfield 40, 3) := by decide +kernel
theorem dX6_init_64 : decode cX6_init 64 = .ok (.aload_n 0, 1) := by decide +kernel
theorem dX6_init_65 : decode cX6_init 65 = .ok (.bipush 32, 2) := by decide +kernel
theorem dX6_init_67 : decode cX6_init 67 = .ok (.newarray .int, 2) := by decide +kernel
theorem dX6_init_69 : decode cX6_init 69 = .ok (.putfield 44, 3) := by decide +kernel
theorem dX6_init_72 : decode cX6_init 72 = .ok (.aload_n 0, 1) := by decide +kernel
theorem dX6_init_73 : decode cX6_init 73 = .ok (.iconst 4, 1) := by decide +kernel
theorem dX6_init_74 : decode cX6_init 74 = .ok (.anewarray 48, 3) := by decide +kernel
theorem dX6_init_77 : decode cX6_init 77 = .ok (.dup, 1) := by decide +kernel
theorem dX6_init_78 : decode cX6_init 78 = .ok (.iconst 0, 1) := by decide +kernel
theorem dX6_init_79 : decode cX6_init 79 = .ok (.new 48, 3) := by decide +kernel
theorem dX6_init_82 : decode cX6_init 82 = .ok (.dup, 1) := by decide +kernel
theorem dX6_init_83 : decode cX6_init 83 = .ok (.invokespecial 50, 3) := by decide +kernel
theorem dX6_init_86 : decode cX6_init 86 = .ok (.aastore, 1) := by decide +kernel
theorem dX6_init_87 : decode cX6_init 87 = .ok (.dup, 1) := by decide +kernel
theorem dX6_init_88 : decode cX6_init 88 = .ok (.iconst 1, 1) := by decide +kernel
theorem dX6_init_89 : decode cX6_init 89 = .ok (.new 48, 3) := by decide +kernel
theorem dX6_init_92 : decode cX6_init 92 = .ok (.dup, 1) := by decide +kernel
theorem dX6_init_93 : decode cX6_init 93 = .ok (.invokespecial 50, 3) := by decide +kernel
theorem dX6_init_96 : decode cX6_init 96 = .ok (.aastore, 1) := by decide +kernel
theorem dX6_init_97 : decode cX6_init 97 = .ok (.dup, 1) := by decide +kernel
theorem dX6_init_98 : decode cX6_init 98 = .ok (.iconst 2, 1) := by decide +kernel
theorem dX6_init_99 : decode cX6_init 99 = .ok (.new 48, 3) := by decide +kernel
theorem dX6_init_102 : decode cX6_init 102 = .ok (.dup, 1) := by decide +kernel
theorem dX6_init_103 : decode cX6_init 103 = .ok (.invokespecial 50, 3) := by decide +kernel
theorem dX6_init_106 : decode cX6_init 106 = .ok (.aastore, 1) := by decide +kernel
theorem dX6_init_107 : decode cX6_init 107 = .ok (.dup, 1) := by decide +kernel
theorem dX6_init_108 : decode cX6_init 108 = .ok (.iconst 3, 1) := by decide +kernel
theorem dX6_init_109 : decode cX6_init 109 = .ok (.new 48, 3) := by decide +kernel
theorem dX6_init_112 : decode cX6_init 112 = .ok (.dup, 1) := by decide +kernel
theorem dX6_init_113 : decode cX6_init 113 = .ok (.invokespecial 50, 3) := by decide +kernel
theorem dX6_init_116 : decode cX6_init 116 = .ok (.aastore, 1) := by decide +kernel
theorem dX6_init_117 : decode cX6_init 117 = .ok (.putfield 51, 3) := by decide +kernel
theorem dX6_init_120 : decode cX6_init 120 = .ok (.aload_n 0, 1) := by decide +kernel
theorem dX6_init_121 : decode cX6_init 121 = .ok (.bipush 10, 2) := by decide +kernel
theorem dX6_init_123 : decode cX6_init 123 = .ok (.newarray .int, 2) := by decide +kernel
theorem dX6_init_125 : decode cX6_init 125 = .ok (.putfield 55, 3) := by decide +kernel
theorem dX6_init_128 : decode cX6_init 128 = .ok (.aload_n 0, 1) := by decide +kernel
theorem dX6_init_129 : decode cX6_init 129 = .ok (.new 58, 3) := by decide +kernel
theorem dX6_init_132 : decode cX6_init 132 = .ok (.dup, 1) := by decide +kernel
theorem dX6_init_133 : decode cX6_init 133 = .ok (.invokespecial 60, 3) := by decide +kernel
theorem dX6_init_136 : decode cX6_init 136 = .ok (.putfield 61, 3) := by decide +kernel
theorem dX6_init_139 : decode cX6_init 139 = .ok (.aload_n 0, 1) := by decide +kernel
theorem dX6_init_140 : decode cX6_init 140 = .ok (.iconst 1, 1) := by decide +kernel
theorem dX6_init_141 : decode cX6_init 141 = .ok (.newarray .int, 2) := by decide +kernel
theorem dX6_init_143 : decode cX6_init 143 = .ok (.putfield 65, 3) := by decide +kernel
theorem dX6_init_146 : decode cX6_init 146 = .ok (.return_, 1) := by decide +kernel
theorem dX6_grave_0 : decode cX6_grave 0 = .ok (.iload_n 1, 1) := by decide +kernel
theorem dX6_grave_1 : decode cX6_grave 1 = .ok (.ifCond .lt 26, 3) := by decide +kernel
theorem dX6_grave_4 : decode cX6_grave 4 = .ok (.iload_n 1, 1) := by decide +kernel
theorem dX6_grave_5 : decode cX6_grave 5 = .ok (.iconst 5, 1) := by decide +kernel
theorem dX6_grave_6 : decode cX6_grave 6 = .ok (.if_icmp .gt 21, 3) := by decide +kernel
theorem dX6_grave_9 : decode cX6_grave 9 = .ok (.iload_n 2, 1) := by decide +kernel
theorem dX6_grave_10 : decode cX6_grave 10 = .ok (.i2l, 1) := by decide +kernel
theorem dX6_grave_11 : decode cX6_grave 11 = .ok (.invokestatic 68, 3) := by decide +kernel
theorem dX6_grave_14 : decode cX6_grave 14 = .ok (.ifCond .eq 13, 3) := by decide +kernel
theorem dX6_grave_17 : decode cX6_grave 17 = .ok (.iload_n 3, 1) := by decide +kernel
theorem dX6_grave_18 : decode cX6_grave 18 = .ok (.ifCond .lt 9, 3) := by decide +kernel
theorem dX6_grave_21 : decode cX6_grave 21 = .ok (.iload_n 3, 1) := by decide +kernel
theorem dX6_grave_22 : decode cX6_grave 22 = .ok (.bipush 89, 2) := by decide +kernel
theorem dX6_grave_24 : decode cX6_grave 24 = .ok (.if_icmp .le 5, 3) := by decide +kernel
theorem dX6_grave_27 : decode cX6_grave 27 = .ok (.iconst (-1), 1) := by decide +kernel
theorem dX6_grave_28 : decode cX6_grave 28 = .ok (.ireturn, 1) := by decide +kernel
theorem dX6_grave_29 : decode cX6_grave 29 = .ok (.aload_n 0, 1) := by decide +kernel
theorem dX6_grave_30 : decode cX6_grave 30 = .ok (.getfield 10, 3) := by decide +kernel
theorem dX6_grave_33 : decode cX6_grave 33 = .ok (.getfield 72, 3) := by decide +kernel
theorem dX6_grave_36 : decode cX6_grave 36 = .ok (.getfield 75, 3) := by decide +kernel
theorem dX6_grave_39 : decode cX6_grave 39 = .ok (.bipush 10, 2) := by decide +kernel
theorem dX6_grave_41 : decode cX6_grave 41 = .ok (.if_icmp .lt 6, 3) := by decide +kernel
theorem dX6_grave_44 : decode cX6_grave 44 = .ok (.bipush (-3), 2) := by decide +kernel
theorem dX6_grave_46 : decode cX6_grave 46 = .ok (.ireturn, 1) := by decide +kernel
theorem dX6_grave_47 : decode cX6_grave 47 = .ok (.aload_n 0, 1) := by decide +kernel
theorem dX6_grave_48 : decode cX6_grave 48 = .ok (.getfield 10, 3) := by decide +kernel
theorem dX6_grave_51 : decode cX6_grave 51 = .ok (.getfield 72, 3) := by decide +kernel
theorem dX6_grave_54 : decode cX6_grave 54 = .ok (.iload_n 1, 1) := by decide +kernel
theorem dX6_grave_55 : decode cX6_grave 55 = .ok (.iload_n 2, 1) := by decide +kernel
theorem dX6_grave_56 : decode cX6_grave 56 = .ok (.iload_n 3, 1) := by decide +kernel
theorem dX6_grave_57 : decode cX6_grave 57 = .ok (.invokevirtual 79, 3) := by decide +kernel
theorem dX6_grave_60 : decode cX6_grave 60 = .ok (.aload_n 0, 1) := by decide +kernel
theorem dX6_grave_61 : decode cX6_grave 61 = .ok (.getfield 10, 3) := by decide +kernel
theorem dX6_grave_64 : decode cX6_grave 64 = .ok (.getfield 72, 3) := by decide +kernel
theorem dX6_grave_67 : decode cX6_grave 67 = .ok (.getfield 75, 3) := by decide +kernel
theorem dX6_grave_70 : decode cX6_grave 70 = .ok (.iconst 1, 1) := by decide +kernel
theorem dX6_grave_71 : decode cX6_grave 71 = .ok (.isub, 1) := by decide +kernel
theorem dX6_grave_72 : decode cX6_grave 72 = .ok (.ireturn, 1) := by decide +kernel
theorem dX6_out_0 : decode cX6_out 0 = .ok (.aload_n 0, 1) := by decide +kernel
theorem dX6_out_1 : decode cX6_out 1 = .ok (.getfield 10, 3) := by decide +kernel
theorem dX6_out_4 : decode cX6_out 4 = .ok (.getfield 72, 3) := by decide +kernel
theorem dX6_out_7 : decode cX6_out 7 = .ok (.getfield 75, 3) := by decide +kernel
theorem dX6_out_10 : decode cX6_out 10 = .ok (.ifCond .ne 6, 3) := by decide +kernel
theorem dX6_out_13 : decode cX6_out 13 = .ok (.bipush (-4), 2) := by decide +kernel
theorem dX6_out_15 : decode cX6_out 15 = .ok (.ireturn, 1) := by decide +kernel
theorem dX6_out_16 : decode cX6_out 16 = .ok (.aload_n 0, 1) := by decide +kernel
theorem dX6_out_17 : decode cX6_out 17 = .ok (.getfield 10, 3) := by decide +kernel
theorem dX6_out_20 : decode cX6_out 20 = .ok (.getfield 72, 3) := by decide +kernel
theorem dX6_out_23 : decode cX6_out 23 = .ok (.dup, 1) := by decide +kernel
theorem dX6_out_24 : decode cX6_out 24 = .ok (.getfield 75, 3) := by decide +kernel
theorem dX6_out_27 : decode cX6_out 27 = .ok (.iconst 1, 1) := by decide +kernel
theorem dX6_out_28 : decode cX6_out 28 = .ok (.isub, 1) := by decide +kernel
theorem dX6_out_29 : decode cX6_out 29 = .ok (.putfield 75, 3) := by decide +kernel
theorem dX6_out_32 : decode cX6_out 32 = .ok (.aload_n 0, 1) := by decide +kernel
theorem dX6_out_33 : decode cX6_out 33 = .ok (.getfield 10, 3) := by decide +kernel
theorem dX6_out_36 : decode cX6_out 36 = .ok (.iconst 0, 1) := by decide +kernel
theorem dX6_out_37 : decode cX6_out 37 = .ok (.putfield 83, 3) := by decide +kernel
theorem dX6_out_40 : decode cX6_out 40 = .ok (.aload_n 0, 1) := by decide +kernel
theorem dX6_out_41 : decode cX6_out 41 = .ok (.getfield 10, 3) := by decide +kernel
theorem dX6_out_44 : decode cX6_out 44 = .ok (.getfield 72, 3) := by decide +kernel
theorem dX6_out_47 : decode cX6_out 47 = .ok (.getfield 75, 3) := by decide +kernel
theorem dX6_out_50 : decode cX6_out 50 = .ok (.ireturn, 1) := by decide +kernel
theorem dX6_reader_0 : decode cX6_reader 0 = .ok (.iload_n 1, 1) := by decide +kernel
theorem dX6_reader_1 : decode cX6_reader 1 = .ok (.ifCond .lt 9, 3) := by decide +kernel
theorem dX6_reader_4 : decode cX6_reader 4 = .ok (.iload_n 1, 1) := by decide +kernel
theorem dX6_reader_5 : decode cX6_reader 5 = .ok (.bipush 9, 2) := by decide +kernel
theorem dX6_reader_7 : decode cX6_reader 7 = .ok (.if_icmp .le 5, 3) := by decide +kernel
theorem dX6_reader_10 : decode cX6_reader 10 = .ok (.iconst (-1), 1) := by decide +kernel
theorem dX6_reader_11 : decode cX6_reader 11 = .ok (.ireturn, 1) := by decide +kernel
theorem dX6_reader_12 : decode cX6_reader 12 = .ok (.aload_n 0, 1) := by decide +kernel
theorem dX6_reader_13 : decode cX6_reader 13 = .ok (.getfield 10, 3) := by decide +kernel
theorem dX6_reader_16 : decode cX6_reader 16 = .ok (.getfield 86, 3) := by decide +kernel
theorem dX6_reader_19 : decode cX6_reader 19 = .ok (.iconst 4, 1) := by decide +kernel
theorem dX6_reader_20 : decode cX6_reader 20 = .ok (.if_icmp .lt 6, 3) := by decide +kernel
theorem dX6_reader_23 : decode cX6_reader 23 = .ok (.bipush (-3), 2) := by decide +kernel
theorem dX6_reader_25 : decode cX6_reader 25 = .ok (.ireturn, 1) := by decide +kernel
theorem dX6_reader_26 : decode cX6_reader 26 = .ok (.aload_n 0, 1) := by decide +kernel
theorem dX6_reader_27 : decode cX6_reader 27 = .ok (.getfield 10, 3) := by decide +kernel
theorem dX6_reader_30 : decode cX6_reader 30 = .ok (.getfield 89, 3) := by decide +kernel
theorem dX6_reader_33 : decode cX6_reader 33 = .ok (.aload_n 0, 1) := by decide +kernel
theorem dX6_reader_34 : decode cX6_reader 34 = .ok (.getfield 10, 3) := by decide +kernel
theorem dX6_reader_37 : decode cX6_reader 37 = .ok (.getfield 86, 3) := by decide +kernel
theorem dX6_reader_40 : decode cX6_reader 40 = .ok (.iload_n 1, 1) := by decide +kernel
theorem dX6_reader_41 : decode cX6_reader 41 = .ok (.iastore, 1) := by decide +kernel
theorem dX6_reader_42 : decode cX6_reader 42 = .ok (.aload_n 0, 1) := by decide +kernel
theorem dX6_reader_43 : decode cX6_reader 43 = .ok (.getfield 10, 3) := by decide +kernel
theorem dX6_reader_46 : decode cX6_reader 46 = .ok (.dup, 1) := by decide +kernel
theorem dX6_reader_47 : decode cX6_reader 47 = .ok (.getfield 86, 3) := by decide +kernel
theorem dX6_reader_50 : decode cX6_reader 50 = .ok (.iconst 1, 1) := by decide +kernel
theorem dX6_reader_51 : decode cX6_reader 51 = .ok (.iadd, 1) := by decide +kernel
theorem dX6_reader_52 : decode cX6_reader 52 = .ok (.putfield 86, 3) := by decide +kernel
theorem dX6_reader_55 : decode cX6_reader 55 = .ok (.aload_n 0, 1) := by decide +kernel
theorem dX6_reader_56 : decode cX6_reader 56 = .ok (.getfield 10, 3) := by decide +kernel
theorem dX6_reader_59 : decode cX6_reader 59 = .ok (.getfield 86, 3) := by decide +kernel
theorem dX6_reader_62 : decode cX6_reader 62 = .ok (.iconst 1, 1) := by decide +kernel
theorem dX6_reader_63 : decode cX6_reader 63 = .ok (.isub, 1) := by decide +kernel
theorem dX6_reader_64 : decode cX6_reader 64 = .ok (.ireturn, 1) := by decide +kernel
theorem dX6_news_0 : decode cX6_news 0 = .ok (.iload_n 1, 1) := by decide +kernel
theorem dX6_news_1 : decode cX6_news 1 = .ok (.ifCond .lt 18, 3) := by decide +kernel
theorem dX6_news_4 : decode cX6_news 4 = .ok (.iload_n 1, 1) := by decide +kernel
theorem dX6_news_5 : decode cX6_news 5 = .ok (.bipush 99, 2) := by decide +kernel
theorem dX6_news_7 : decode cX6_news 7 = .ok (.if_icmp .gt 12, 3) := by decide +kernel
theorem dX6_news_10 : decode cX6_news 10 = .ok (.iload_n 3, 1) := by decide +kernel
theorem dX6_news_11 : decode cX6_news 11 = .ok (.ifCond .lt 8, 3) := by decide +kernel
theorem dX6_news_14 : decode cX6_news 14 = .ok (.iload_n 3, 1) := by decide +kernel
theorem dX6_news_15 : decode cX6_news 15 = .ok (.iconst 1, 1) := by decide +kernel
theorem dX6_news_16 : decode cX6_news 16 = .ok (.if_icmp .le 5, 3) := by decide +kernel
theorem dX6_news_19 : decode cX6_news 19 = .ok (.iconst (-1), 1) := by decide +kernel
theorem dX6_news_20 : decode cX6_news 20 = .ok (.ireturn, 1) := by decide +kernel
theorem dX6_news_21 : decode cX6_news 21 = .ok (.aload_n 0, 1) := by decide +kernel
theorem dX6_news_22 : decode cX6_news 22 = .ok (.iload_n 2, 1) := by decide +kernel
theorem dX6_news_23 : decode cX6_news 23 = .ok (.invokevirtual 92, 3) := by decide +kernel
theorem dX6_news_26 : decode cX6_news 26 = .ok (.ifCond .eq 18, 3) := by decide +kernel
theorem dX6_news_29 : decode cX6_news 29 = .ok (.aload_n 0, 1) := by decide +kernel
theorem dX6_news_30 : decode cX6_news 30 = .ok (.getfield 10, 3) := by decide +kernel
theorem dX6_news_33 : decode cX6_news 33 = .ok (.getfield 96, 3) := by decide +kernel
theorem dX6_news_36 : decode cX6_news 36 = .ok (.iload_n 2, 1) := by decide +kernel
theorem dX6_news_37 : decode cX6_news 37 = .ok (.iload_n 1, 1) := by decide +kernel
theorem dX6_news_38 : decode cX6_news 38 = .ok (.invokevirtual 99, 3) := by decide +kernel
theorem dX6_news_41 : decode cX6_news 41 = .ok (.ifCond .ne 5, 3) := by decide +kernel
theorem dX6_news_44 : decode cX6_news 44 = .ok (.iconst (-1), 1) := by decide +kernel
theorem dX6_news_45 : decode cX6_news 45 = .ok (.ireturn, 1) := by decide +kernel
theorem dX6_news_46 : decode cX6_news 46 = .ok (.aload_n 0, 1) := by decide +kernel
theorem dX6_news_47 : decode cX6_news 47 = .ok (.getfield 10, 3) := by decide +kernel
theorem dX6_news_50 : decode cX6_news 50 = .ok (.getfield 96, 3) := by decide +kernel
theorem dX6_news_53 : decode cX6_news 53 = .ok (.getfield 103, 3) := by decide +kernel
theorem dX6_news_56 : decode cX6_news 56 = .ok (.bipush 12, 2) := by decide +kernel
theorem dX6_news_58 : decode cX6_news 58 = .ok (.if_icmp .lt 6, 3) := by decide +kernel
theorem dX6_news_61 : decode cX6_news 61 = .ok (.bipush (-3), 2) := by decide +kernel
theorem dX6_news_63 : decode cX6_news 63 = .ok (.ireturn, 1) := by decide +kernel
theorem dX6_news_64 : decode cX6_news 64 = .ok (.aload_n 0, 1) := by decide +kernel
theorem dX6_news_65 : decode cX6_news 65 = .ok (.getfield 10, 3) := by decide +kernel
theorem dX6_news_68 : decode cX6_news 68 = .ok (.getfield 96, 3) := by decide +kernel
theorem dX6_news_71 : decode cX6_news 71 = .ok (.iload_n 1, 1) := by decide +kernel
theorem dX6_news_72 : decode cX6_news 72 = .ok (.iload_n 2, 1) := by decide +kernel
theorem dX6_news_73 : decode cX6_news 73 = .ok (.iconst 0, 1) := by decide +kernel
theorem dX6_news_74 : decode cX6_news 74 = .ok (.iload_n 3, 1) := by decide +kernel
theorem dX6_news_75 : decode cX6_news 75 = .ok (.invokevirtual 104, 3) := by decide +kernel
theorem dX6_news_78 : decode cX6_news 78 = .ok (.aload_n 0, 1) := by decide +kernel
theorem dX6_news_79 : decode cX6_news 79 = .ok (.getfield 10, 3) := by decide +kernel
theorem dX6_news_82 : decode cX6_news 82 = .ok (.getfield 96, 3) := by decide +kernel
theorem dX6_news_85 : decode cX6_news 85 = .ok (.getfield 103, 3) := by decide +kernel
theorem dX6_news_88 : decode cX6_news 88 = .ok (.iconst 1, 1) := by decide +kernel
theorem dX6_news_89 : decode cX6_news 89 = .ok (.isub, 1) := by decide +kernel
theorem dX6_news_90 : decode cX6_news 90 = .ok (.ireturn, 1) := by decide +kernel
theorem dX6_bar_0 : decode cX6_bar 0 = .ok (.aload_n 0, 1) := by decide +kernel
theorem dX6_bar_1 : decode cX6_bar 1 = .ok (.iload_n 1, 1) := by decide +kernel
theorem dX6_bar_2 : decode cX6_bar 2 = .ok (.i2l, 1) := by decide +kernel
theorem dX6_bar_3 : decode cX6_bar 3 = .ok (.invokevirtual 107, 3) := by decide +kernel
theorem dX6_bar_6 : decode cX6_bar 6 = .ok (.ifCond .eq 14, 3) := by decide +kernel
theorem dX6_bar_9 : decode cX6_bar 9 = .ok (.iload_n 2, 1) := by decide +kernel
theorem dX6_bar_10 : decode cX6_bar 10 = .ok (.ifCond .lt 10, 3) := by decide +kernel
theorem dX6_bar_13 : decode cX6_bar 13 = .ok (.iload_n 2, 1) := by decide +kernel
theorem dX6_bar_14 : decode cX6_bar 14 = .ok (.sipush 1024, 3) := by decide +kernel
theorem dX6_bar_17 : decode cX6_bar 17 = .ok (.if_icmp .lt 5, 3) := by decide +kernel
theorem dX6_bar_20 : decode cX6_bar 20 = .ok (.iconst (-1), 1) := by decide +kernel
theorem dX6_bar_21 : decode cX6_bar 21 = .ok (.ireturn, 1) := by decide +kernel
theorem dX6_bar_22 : decode cX6_bar 22 = .ok (.aload_n 0, 1) := by decide +kernel
theorem dX6_bar_23 : decode cX6_bar 23 = .ok (.getfield 10, 3) := by decide +kernel
theorem dX6_bar_26 : decode cX6_bar 26 = .ok (.getfield 96, 3) := by decide +kernel
theorem dX6_bar_29 : decode cX6_bar 29 = .ok (.getfield 110, 3) := by decide +kernel
theorem dX6_bar_32 : decode cX6_bar 32 = .ok (.iload_n 1, 1) := by decide +kernel
theorem dX6_bar_33 : decode cX6_bar 33 = .ok (.iaload, 1) := by decide +kernel
theorem dX6_bar_34 : decode cX6_bar 34 = .ok (.istore_n 3, 1) := by decide +kernel
theorem dX6_bar_35 : decode cX6_bar 35 = .ok (.aload_n 0, 1) := by decide +kernel
theorem dX6_bar_36 : decode cX6_bar 36 = .ok (.getfield 10, 3) := by decide +kernel
theorem dX6_bar_39 : decode cX6_bar 39 = .ok (.getfield 96, 3) := by decide +kernel
theorem dX6_bar_42 : decode cX6_bar 42 = .ok (.getfield 110, 3) := by decide +kernel
theorem dX6_bar_45 : decode cX6_bar 45 = .ok (.iload_n 1, 1) := by decide +kernel
theorem dX6_bar_46 : decode cX6_bar 46 = .ok (.iload_n 2, 1) := by decide +kernel
theorem dX6_bar_47 : decode cX6_bar 47 = .ok (.iastore, 1) := by decide +kernel
theorem dX6_bar_48 : decode cX6_bar 48 = .ok (.iload_n 3, 1) := by decide +kernel
theorem dX6_bar_49 : decode cX6_bar 49 = .ok (.ireturn, 1) := by decide +kernel
theorem dX6_wind_0 : decode cX6_wind 0 = .ok (.iload_n 1, 1) := by decide +kernel
theorem dX6_wind_1 : decode cX6_wind 1 = .ok (.invokestatic 113, 3) := by decide +kernel
theorem dX6_wind_4 : decode cX6_wind 4 = .ok (.ifCond .ne 5, 3) := by decide +kernel
theorem dX6_wind_7 : decode cX6_wind 7 = .ok (.iconst (-1), 1) := by decide +kernel
theorem dX6_wind_8 : decode cX6_wind 8 = .ok (.ireturn, 1) := by decide +kernel
theorem dX6_wind_9 : decode cX6_wind 9 = .ok (.aload_n 0, 1) := by decide +kernel
theorem dX6_wind_10 : decode cX6_wind 10 = .ok (.getfield 10, 3) := by decide +kernel
theorem dX6_wind_13 : decode cX6_wind 13 = .ok (.getfield 116, 3) := by decide +kernel
theorem dX6_wind_16 : decode cX6_wind 16 = .ok (.istore_n 2, 1) := by decide +kernel
theorem dX6_wind_17 : decode cX6_wind 17 = .ok (.aload_n 0, 1) := by decide +kernel
theorem dX6_wind_18 : decode cX6_wind 18 = .ok (.getfield 10, 3) := by decide +kernel
theorem dX6_wind_21 : decode cX6_wind 21 = .ok (.iload_n 1, 1) := by decide +kernel
theorem dX6_wind_22 : decode cX6_wind 22 = .ok (.putfield 116, 3) := by decide +kernel
theorem dX6_wind_25 : decode cX6_wind 25 = .ok (.iload_n 2, 1) := by decide +kernel
theorem dX6_wind_26 : decode cX6_wind 26 = .ok (.ireturn, 1) := by decide +kernel
theorem dX6_weight_0 : decode cX6_weight 0 = .ok (.iload_n 1, 1) := by decide +kernel
theorem dX6_weight_1 : decode cX6_weight 1 = .ok (.invokestatic 113, 3) := by decide +kernel
theorem dX6_weight_4 : decode cX6_weight 4 = .ok (.ifCond .eq 13, 3) := by decide +kernel
theorem dX6_weight_7 : decode cX6_weight 7 = .ok (.iload_n 2, 1) := by decide +kernel
theorem dX6_weight_8 : decode cX6_weight 8 = .ok (.ifCond .lt 9, 3) := by decide +kernel
theorem dX6_weight_11 : decode cX6_weight 11 = .ok (.iload_n 2, 1) := by decide +kernel
theorem dX6_weight_12 : decode cX6_weight 12 = .ok (.bipush 9, 2) := by decide +kernel
theorem dX6_weight_14 : decode cX6_weight 14 = .ok (.if_icmp .le 5, 3) := by decide +kernel
theorem dX6_weight_17 : decode cX6_weight 17 = .ok (.iconst (-1), 1) := by decide +kernel
theorem dX6_weight_18 : decode cX6_weight 18 = .ok (.ireturn, 1) := by decide +kernel
theorem dX6_weight_19 : decode cX6_weight 19 = .ok (.aload_n 0, 1) := by decide +kernel
theorem dX6_weight_20 : decode cX6_weight 20 = .ok (.getfield 10, 3) := by decide +kernel
theorem dX6_weight_23 : decode cX6_weight 23 = .ok (.getfield 119, 3) := by decide +kernel
theorem dX6_weight_26 : decode cX6_weight 26 = .ok (.iload_n 1, 1) := by decide +kernel
theorem dX6_weight_27 : decode cX6_weight 27 = .ok (.iaload, 1) := by decide +kernel
theorem dX6_weight_28 : decode cX6_weight 28 = .ok (.istore_n 3, 1) := by decide +kernel
theorem dX6_weight_29 : decode cX6_weight 29 = .ok (.aload_n 0, 1) := by decide +kernel
theorem dX6_weight_30 : decode cX6_weight 30 = .ok (.getfield 10, 3) := by decide +kernel
theorem dX6_weight_33 : decode cX6_weight 33 = .ok (.getfield 119, 3) := by decide +kernel
theorem dX6_weight_36 : decode cX6_weight 36 = .ok (.iload_n 1, 1) := by decide +kernel
theorem dX6_weight_37 : decode cX6_weight 37 = .ok (.iload_n 2, 1) := by decide +kernel
theorem dX6_weight_38 : decode cX6_weight 38 = .ok (.iastore, 1) := by decide +kernel
theorem dX6_weight_39 : decode cX6_weight 39 = .ok (.iload_n 3, 1) := by decide +kernel
theorem dX6_weight_40 : decode cX6_weight 40 = .ok (.ireturn, 1) := by decide +kernel
theorem dX6_now_0 : decode cX6_now 0 = .ok (.iload_n 1, 1) := by decide +kernel
theorem dX6_now_1 : decode cX6_now 1 = .ok (.ifCond .lt 9, 3) := by decide +kernel
theorem dX6_now_4 : decode cX6_now 4 = .ok (.iload_n 1, 1) := by decide +kernel
theorem dX6_now_5 : decode cX6_now 5 = .ok (.bipush 99, 2) := by decide +kernel
theorem dX6_now_7 : decode cX6_now 7 = .ok (.if_icmp .le 5, 3) := by decide +kernel
theorem dX6_now_10 : decode cX6_now 10 = .ok (.iconst (-1), 1) := by decide +kernel
theorem dX6_now_11 : decode cX6_now 11 = .ok (.ireturn, 1) := by decide +kernel
theorem dX6_now_12 : decode cX6_now 12 = .ok (.aload_n 0, 1) := by decide +kernel
theorem dX6_now_13 : decode cX6_now 13 = .ok (.getfield 10, 3) := by decide +kernel
theorem dX6_now_16 : decode cX6_now 16 = .ok (.getfield 122, 3) := by decide +kernel
theorem dX6_now_19 : decode cX6_now 19 = .ok (.istore_n 2, 1) := by decide +kernel
theorem dX6_now_20 : decode cX6_now 20 = .ok (.aload_n 0, 1) := by decide +kernel
theorem dX6_now_21 : decode cX6_now 21 = .ok (.getfield 10, 3) := by decide +kernel
theorem dX6_now_24 : decode cX6_now 24 = .ok (.iload_n 1, 1) := by decide +kernel
theorem dX6_now_25 : decode cX6_now 25 = .ok (.putfield 122, 3) := by decide +kernel
theorem dX6_now_28 : decode cX6_now 28 = .ok (.iload_n 2, 1) := by decide +kernel
theorem dX6_now_29 : decode cX6_now 29 = .ok (.ireturn, 1) := by decide +kernel
theorem dX6_told_0 : decode cX6_told 0 = .ok (.aload_n 0, 1) := by decide +kernel
theorem dX6_told_1 : decode cX6_told 1 = .ok (.iload_n 1, 1) := by decide +kernel
theorem dX6_told_2 : decode cX6_told 2 = .ok (.invokevirtual 125, 3) := by decide +kernel
theorem dX6_told_5 : decode cX6_told 5 = .ok (.ifCond .ne 5, 3) := by decide +kernel
theorem dX6_told_8 : decode cX6_told 8 = .ok (.iconst (-1), 1) := by decide +kernel
theorem dX6_told_9 : decode cX6_told 9 = .ok (.ireturn, 1) := by decide +kernel
theorem dX6_told_10 : decode cX6_told 10 = .ok (.iload_n 2, 1) := by decide +kernel
theorem dX6_told_11 : decode cX6_told 11 = .ok (.tableswitch 145 0 7 #[45, 58, 71, 84, 97, 106, 115, 128], 45) := by decide +kernel
theorem dX6_told_56 : decode cX6_told 56 = .ok (.aload_n 0, 1) := by decide +kernel
theorem dX6_told_57 : decode cX6_told 57 = .ok (.getfield 10, 3) := by decide +kernel
theorem dX6_told_60 : decode cX6_told 60 = .ok (.getfield 72, 3) := by decide +kernel
theorem dX6_told_63 : decode cX6_told 63 = .ok (.getfield 128, 3) := by decide +kernel
theorem dX6_told_66 : decode cX6_told 66 = .ok (.iload_n 1, 1) := by decide +kernel
theorem dX6_told_67 : decode cX6_told 67 = .ok (.iaload, 1) := by decide +kernel
theorem dX6_told_68 : decode cX6_told 68 = .ok (.ireturn, 1) := by decide +kernel
theorem dX6_told_69 : decode cX6_told 69 = .ok (.aload_n 0, 1) := by decide +kernel
theorem dX6_told_70 : decode cX6_told 70 = .ok (.getfield 10, 3) := by decide +kernel
theorem dX6_told_73 : decode cX6_told 73 = .ok (.getfield 72, 3) := by decide +kernel
theorem dX6_told_76 : decode cX6_told 76 = .ok (.getfield 131, 3) := by decide +kernel
theorem dX6_told_79 : decode cX6_told 79 = .ok (.iload_n 1, 1) := by decide +kernel
theorem dX6_told_80 : decode cX6_told 80 = .ok (.iaload, 1) := by decide +kernel
theorem dX6_told_81 : decode cX6_told 81 = .ok (.ireturn, 1) := by decide +kernel
theorem dX6_told_82 : decode cX6_told 82 = .ok (.aload_n 0, 1) := by decide +kernel
theorem dX6_told_83 : decode cX6_told 83 = .ok (.getfield 10, 3) := by decide +kernel
theorem dX6_told_86 : decode cX6_told 86 = .ok (.getfield 72, 3) := by decide +kernel
theorem dX6_told_89 : decode cX6_told 89 = .ok (.getfield 134, 3) := by decide +kernel
theorem dX6_told_92 : decode cX6_told 92 = .ok (.iload_n 1, 1) := by decide +kernel
theorem dX6_told_93 : decode cX6_told 93 = .ok (.iaload, 1) := by decide +kernel
theorem dX6_told_94 : decode cX6_told 94 = .ok (.ireturn, 1) := by decide +kernel
theorem dX6_told_95 : decode cX6_told 95 = .ok (.aload_n 0, 1) := by decide +kernel
theorem dX6_told_96 : decode cX6_told 96 = .ok (.getfield 10, 3) := by decide +kernel
theorem dX6_told_99 : decode cX6_told 99 = .ok (.getfield 72, 3) := by decide +kernel
theorem dX6_told_102 : decode cX6_told 102 = .ok (.getfield 137, 3) := by decide +kernel
theorem dX6_told_105 : decode cX6_told 105 = .ok (.iload_n 1, 1) := by decide +kernel
theorem dX6_told_106 : decode cX6_told 106 = .ok (.iaload, 1) := by decide +kernel
theorem dX6_told_107 : decode cX6_told 107 = .ok (.ireturn, 1) := by decide +kernel
theorem dX6_told_108 : decode cX6_told 108 = .ok (.aload_n 0, 1) := by decide +kernel
theorem dX6_told_109 : decode cX6_told 109 = .ok (.getfield 10, 3) := by decide +kernel
theorem dX6_told_112 : decode cX6_told 112 = .ok (.iload_n 1, 1) := by decide +kernel
theorem dX6_told_113 : decode cX6_told 113 = .ok (.invokevirtual 140, 3) := by decide +kernel
theorem dX6_told_116 : decode cX6_told 116 = .ok (.ireturn, 1) := by decide +kernel
theorem dX6_told_117 : decode cX6_told 117 = .ok (.aload_n 0, 1) := by decide +kernel
theorem dX6_told_118 : decode cX6_told 118 = .ok (.getfield 10, 3) := by decide +kernel
theorem dX6_told_121 : decode cX6_told 121 = .ok (.iload_n 1, 1) := by decide +kernel
theorem dX6_told_122 : decode cX6_told 122 = .ok (.invokevirtual 144, 3) := by decide +kernel
theorem dX6_told_125 : decode cX6_told 125 = .ok (.ireturn, 1) := by decide +kernel
theorem dX6_told_126 : decode cX6_told 126 = .ok (.aload_n 0, 1) := by decide +kernel
theorem dX6_told_127 : decode cX6_told 127 = .ok (.getfield 10, 3) := by decide +kernel
theorem dX6_told_130 : decode cX6_told 130 = .ok (.getfield 72, 3) := by decide +kernel
theorem dX6_told_133 : decode cX6_told 133 = .ok (.getfield 147, 3) := by decide +kernel
theorem dX6_told_136 : decode cX6_told 136 = .ok (.iload_n 1, 1) := by decide +kernel
theorem dX6_told_137 : decode cX6_told 137 = .ok (.iaload, 1) := by decide +kernel
theorem dX6_told_138 : decode cX6_told 138 = .ok (.ireturn, 1) := by decide +kernel
theorem dX6_told_139 : decode cX6_told 139 = .ok (.aload_n 0, 1) := by decide +kernel
theorem dX6_told_140 : decode cX6_told 140 = .ok (.getfield 10, 3) := by decide +kernel
theorem dX6_told_143 : decode cX6_told 143 = .ok (.iload_n 1, 1) := by decide +kernel
theorem dX6_told_144 : decode cX6_told 144 = .ok (.invokevirtual 150, 3) := by decide +kernel
theorem dX6_told_147 : decode cX6_told 147 = .ok (.ifCond .eq 7, 3) := by decide +kernel
theorem dX6_told_150 : decode cX6_told 150 = .ok (.iconst 1, 1) := by decide +kernel
theorem dX6_told_151 : decode cX6_told 151 = .ok (.goto 4, 3) := by decide +kernel
theorem dX6_told_154 : decode cX6_told 154 = .ok (.iconst 0, 1) := by decide +kernel
theorem dX6_told_155 : decode cX6_told 155 = .ok (.ireturn, 1) := by decide +kernel
theorem dX6_told_156 : decode cX6_told 156 = .ok (.iconst (-1), 1) := by decide +kernel
theorem dX6_told_157 : decode cX6_told 157 = .ok (.ireturn, 1) := by decide +kernel
theorem dX6_of_0 : decode cX6_of 0 = .ok (.aload_n 0, 1) := by decide +kernel
theorem dX6_of_1 : decode cX6_of 1 = .ok (.iload_n 1, 1) := by decide +kernel
theorem dX6_of_2 : decode cX6_of 2 = .ok (.i2l, 1) := by decide +kernel
theorem dX6_of_3 : decode cX6_of 3 = .ok (.invokevirtual 107, 3) := by decide +kernel
theorem dX6_of_6 : decode cX6_of 6 = .ok (.ifCond .ne 5, 3) := by decide +kernel
theorem dX6_of_9 : decode cX6_of 9 = .ok (.iconst (-1), 1) := by decide +kernel
theorem dX6_of_10 : decode cX6_of 10 = .ok (.ireturn, 1) := by decide +kernel
theorem dX6_of_11 : decode cX6_of 11 = .ok (.iload_n 2, 1) := by decide +kernel
theorem dX6_of_12 : decode cX6_of 12 = .ok (.tableswitch 110 0 5 #[40, 53, 66, 79, 92, 101], 40) := by decide +kernel
theorem dX6_of_52 : decode cX6_of 52 = .ok (.aload_n 0, 1) := by decide +kernel
theorem dX6_of_53 : decode cX6_of 53 = .ok (.getfield 10, 3) := by decide +kernel
theorem dX6_of_56 : decode cX6_of 56 = .ok (.getfield 96, 3) := by decide +kernel
theorem dX6_of_59 : decode cX6_of 59 = .ok (.getfield 153, 3) := by decide +kernel
theorem dX6_of_62 : decode cX6_of 62 = .ok (.iload_n 1, 1) := by decide +kernel
theorem dX6_of_63 : decode cX6_of 63 = .ok (.iaload, 1) := by decide +kernel
theorem dX6_of_64 : decode cX6_of 64 = .ok (.ireturn, 1) := by decide +kernel
theorem dX6_of_65 : decode cX6_of 65 = .ok (.aload_n 0, 1) := by decide +kernel
theorem dX6_of_66 : decode cX6_of 66 = .ok (.getfield 10, 3) := by decide +kernel
theorem dX6_of_69 : decode cX6_of 69 = .ok (.getfield 96, 3) := by decide +kernel
theorem dX6_of_72 : decode cX6_of 72 = .ok (.getfield 154, 3) := by decide +kernel
theorem dX6_of_75 : decode cX6_of 75 = .ok (.iload_n 1, 1) := by decide +kernel
theorem dX6_of_76 : decode cX6_of 76 = .ok (.iaload, 1) := by decide +kernel
theorem dX6_of_77 : decode cX6_of 77 = .ok (.ireturn, 1) := by decide +kernel
theorem dX6_of_78 : decode cX6_of 78 = .ok (.aload_n 0, 1) := by decide +kernel
theorem dX6_of_79 : decode cX6_of 79 = .ok (.getfield 10, 3) := by decide +kernel
theorem dX6_of_82 : decode cX6_of 82 = .ok (.getfield 96, 3) := by decide +kernel
theorem dX6_of_85 : decode cX6_of 85 = .ok (.getfield 110, 3) := by decide +kernel
theorem dX6_of_88 : decode cX6_of 88 = .ok (.iload_n 1, 1) := by decide +kernel
theorem dX6_of_89 : decode cX6_of 89 = .ok (.iaload, 1) := by decide +kernel
theorem dX6_of_90 : decode cX6_of 90 = .ok (.ireturn, 1) := by decide +kernel
theorem dX6_of_91 : decode cX6_of 91 = .ok (.aload_n 0, 1) := by decide +kernel
theorem dX6_of_92 : decode cX6_of 92 = .ok (.getfield 10, 3) := by decide +kernel
theorem dX6_of_95 : decode cX6_of 95 = .ok (.getfield 96, 3) := by decide +kernel
theorem dX6_of_98 : decode cX6_of 98 = .ok (.getfield 157, 3) := by decide +kernel
theorem dX6_of_101 : decode cX6_of 101 = .ok (.iload_n 1, 1) := by decide +kernel
theorem dX6_of_102 : decode cX6_of 102 = .ok (.iaload, 1) := by decide +kernel
theorem dX6_of_103 : decode cX6_of 103 = .ok (.ireturn, 1) := by decide +kernel
theorem dX6_of_104 : decode cX6_of 104 = .ok (.aload_n 0, 1) := by decide +kernel
theorem dX6_of_105 : decode cX6_of 105 = .ok (.getfield 10, 3) := by decide +kernel
theorem dX6_of_108 : decode cX6_of 108 = .ok (.iload_n 1, 1) := by decide +kernel
theorem dX6_of_109 : decode cX6_of 109 = .ok (.invokevirtual 160, 3) := by decide +kernel
theorem dX6_of_112 : decode cX6_of 112 = .ok (.ireturn, 1) := by decide +kernel
theorem dX6_of_113 : decode cX6_of 113 = .ok (.aload_n 0, 1) := by decide +kernel
theorem dX6_of_114 : decode cX6_of 114 = .ok (.getfield 10, 3) := by decide +kernel
theorem dX6_of_117 : decode cX6_of 117 = .ok (.iload_n 1, 1) := by decide +kernel
theorem dX6_of_118 : decode cX6_of 118 = .ok (.invokevirtual 163, 3) := by decide +kernel
theorem dX6_of_121 : decode cX6_of 121 = .ok (.ireturn, 1) := by decide +kernel
theorem dX6_of_122 : decode cX6_of 122 = .ok (.iconst (-1), 1) := by decide +kernel
theorem dX6_of_123 : decode cX6_of 123 = .ok (.ireturn, 1) := by decide +kernel
theorem dX6_type_0 : decode cX6_type 0 = .ok (.iload_n 1, 1) := by decide +kernel
theorem dX6_type_1 : decode cX6_type 1 = .ok (.bipush 32, 2) := by decide +kernel
theorem dX6_type_3 : decode cX6_type 3 = .ok (.if_icmp .lt 9, 3) := by decide +kernel
theorem dX6_type_6 : decode cX6_type 6 = .ok (.iload_n 1, 1) := by decide +kernel
theorem dX6_type_7 : decode cX6_type 7 = .ok (.bipush 126, 2) := by decide +kernel
theorem dX6_type_9 : decode cX6_type 9 = .ok (.if_icmp .le 5, 3) := by decide +kernel
theorem dX6_type_12 : decode cX6_type 12 = .ok (.iconst (-1), 1) := by decide +kernel
theorem dX6_type_13 : decode cX6_type 13 = .ok (.ireturn, 1) := by decide +kernel
theorem dX6_type_14 : decode cX6_type 14 = .ok (.aload_n 0, 1) := by decide +kernel
theorem dX6_type_15 : decode cX6_type 15 = .ok (.getfield 26, 3) := by decide +kernel
theorem dX6_type_18 : decode cX6_type 18 = .ok (.getfield 166, 3) := by decide +kernel
theorem dX6_type_21 : decode cX6_type 21 = .ok (.sipush 160, 3) := by decide +kernel
theorem dX6_type_24 : decode cX6_type 24 = .ok (.if_icmp .lt 6, 3) := by decide +kernel
theorem dX6_type_27 : decode cX6_type 27 = .ok (.bipush (-3), 2) := by decide +kernel
theorem dX6_type_29 : decode cX6_type 29 = .ok (.ireturn, 1) := by decide +kernel
theorem dX6_type_30 : decode cX6_type 30 = .ok (.aload_n 0, 1) := by decide +kernel
theorem dX6_type_31 : decode cX6_type 31 = .ok (.getfield 26, 3) := by decide +kernel
theorem dX6_type_34 : decode cX6_type 34 = .ok (.iload_n 1, 1) := by decide +kernel
theorem dX6_type_35 : decode cX6_type 35 = .ok (.invokevirtual 167, 3) := by decide +kernel
theorem dX6_type_38 : decode cX6_type 38 = .ok (.aload_n 0, 1) := by decide +kernel
theorem dX6_type_39 : decode cX6_type 39 = .ok (.getfield 26, 3) := by decide +kernel
theorem dX6_type_42 : decode cX6_type 42 = .ok (.getfield 166, 3) := by decide +kernel
theorem dX6_type_45 : decode cX6_type 45 = .ok (.ireturn, 1) := by decide +kernel
theorem dX6_yard_0 : decode cX6_yard 0 = .ok (.aload_n 0, 1) := by decide +kernel
theorem dX6_yard_1 : decode cX6_yard 1 = .ok (.getfield 26, 3) := by decide +kernel
theorem dX6_yard_4 : decode cX6_yard 4 = .ok (.aload_n 0, 1) := by decide +kernel
theorem dX6_yard_5 : decode cX6_yard 5 = .ok (.getfield 33, 3) := by decide +kernel
theorem dX6_yard_8 : decode cX6_yard 8 = .ok (.invokevirtual 170, 3) := by decide +kernel
theorem dX6_yard_11 : decode cX6_yard 11 = .ok (.istore_n 1, 1) := by decide +kernel
theorem dX6_yard_12 : decode cX6_yard 12 = .ok (.aload_n 0, 1) := by decide +kernel
theorem dX6_yard_13 : decode cX6_yard 13 = .ok (.getfield 26, 3) := by decide +kernel
theorem dX6_yard_16 : decode cX6_yard 16 = .ok (.iconst 0, 1) := by decide +kernel
theorem dX6_yard_17 : decode cX6_yard 17 = .ok (.putfield 166, 3) := by decide +kernel
theorem dX6_yard_20 : decode cX6_yard 20 = .ok (.iload_n 1, 1) := by decide +kernel
theorem dX6_yard_21 : decode cX6_yard 21 = .ok (.ifCond .ne 11, 3) := by decide +kernel
theorem dX6_yard_24 : decode cX6_yard 24 = .ok (.aload_n 0, 1) := by decide +kernel
theorem dX6_yard_25 : decode cX6_yard 25 = .ok (.getfield 26, 3) := by decide +kernel
theorem dX6_yard_28 : decode cX6_yard 28 = .ok (.invokevirtual 174, 3) := by decide +kernel
theorem dX6_yard_31 : decode cX6_yard 31 = .ok (.ireturn, 1) := by decide +kernel
theorem dX6_yard_32 : decode cX6_yard 32 = .ok (.aload_n 0, 1) := by decide +kernel
theorem dX6_yard_33 : decode cX6_yard 33 = .ok (.getfield 10, 3) := by decide +kernel
theorem dX6_yard_36 : decode cX6_yard 36 = .ok (.getfield 72, 3) := by decide +kernel
theorem dX6_yard_39 : decode cX6_yard 39 = .ok (.aload_n 0, 1) := by decide +kernel
theorem dX6_yard_40 : decode cX6_yard 40 = .ok (.getfield 33, 3) := by decide +kernel
theorem dX6_yard_43 : decode cX6_yard 43 = .ok (.invokevirtual 178, 3) := by decide +kernel
theorem dX6_yard_46 : decode cX6_yard 46 = .ok (.aload_n 0, 1) := by decide +kernel
theorem dX6_yard_47 : decode cX6_yard 47 = .ok (.getfield 10, 3) := by decide +kernel
theorem dX6_yard_50 : decode cX6_yard 50 = .ok (.iconst 0, 1) := by decide +kernel
theorem dX6_yard_51 : decode cX6_yard 51 = .ok (.putfield 83, 3) := by decide +kernel
theorem dX6_yard_54 : decode cX6_yard 54 = .ok (.aload_n 0, 1) := by decide +kernel
theorem dX6_yard_55 : decode cX6_yard 55 = .ok (.getfield 10, 3) := by decide +kernel
theorem dX6_yard_58 : decode cX6_yard 58 = .ok (.getfield 72, 3) := by decide +kernel
theorem dX6_yard_61 : decode cX6_yard 61 = .ok (.getfield 75, 3) := by decide +kernel
theorem dX6_yard_64 : decode cX6_yard 64 = .ok (.ireturn, 1) := by decide +kernel
theorem dX6_paper_0 : decode cX6_paper 0 = .ok (.aload_n 0, 1) := by decide +kernel
theorem dX6_paper_1 : decode cX6_paper 1 = .ok (.getfield 26, 3) := by decide +kernel
theorem dX6_paper_4 : decode cX6_paper 4 = .ok (.aload_n 0, 1) := by decide +kernel
theorem dX6_paper_5 : decode cX6_paper 5 = .ok (.getfield 40, 3) := by decide +kernel
theorem dX6_paper_8 : decode cX6_paper 8 = .ok (.invokevirtual 182, 3) := by decide +kernel
theorem dX6_paper_11 : decode cX6_paper 11 = .ok (.istore_n 1, 1) := by decide +kernel
theorem dX6_paper_12 : decode cX6_paper 12 = .ok (.aload_n 0, 1) := by decide +kernel
theorem dX6_paper_13 : decode cX6_paper 13 = .ok (.getfield 26, 3) := by decide +kernel
theorem dX6_paper_16 : decode cX6_paper 16 = .ok (.iconst 0, 1) := by decide +kernel
theorem dX6_paper_17 : decode cX6_paper 17 = .ok (.putfield 166, 3) := by decide +kernel
theorem dX6_paper_20 : decode cX6_paper 20 = .ok (.iload_n 1, 1) := by decide +kernel
theorem dX6_paper_21 : decode cX6_paper 21 = .ok (.ifCond .ne 11, 3) := by decide +kernel
theorem dX6_paper_24 : decode cX6_paper 24 = .ok (.aload_n 0, 1) := by decide +kernel
theorem dX6_paper_25 : decode cX6_paper 25 = .ok (.getfield 26, 3) := by decide +kernel
theorem dX6_paper_28 : decode cX6_paper 28 = .ok (.invokevirtual 174, 3) := by decide +kernel
theorem dX6_paper_31 : decode cX6_paper 31 = .ok (.ireturn, 1) := by decide +kernel
theorem dX6_paper_32 : decode cX6_paper 32 = .ok (.aload_n 0, 1) := by decide +kernel
theorem dX6_paper_33 : decode cX6_paper 33 = .ok (.getfield 10, 3) := by decide +kernel
theorem dX6_paper_36 : decode cX6_paper 36 = .ok (.getfield 96, 3) := by decide +kernel
theorem dX6_paper_39 : decode cX6_paper 39 = .ok (.aload_n 0, 1) := by decide +kernel
theorem dX6_paper_40 : decode cX6_paper 40 = .ok (.getfield 40, 3) := by decide +kernel
theorem dX6_paper_43 : decode cX6_paper 43 = .ok (.invokevirtual 186, 3) := by decide +kernel
theorem dX6_paper_46 : decode cX6_paper 46 = .ok (.aload_n 0, 1) := by decide +kernel
theorem dX6_paper_47 : decode cX6_paper 47 = .ok (.getfield 10, 3) := by decide +kernel
theorem dX6_paper_50 : decode cX6_paper 50 = .ok (.getfield 72, 3) := by decide +kernel
theorem dX6_paper_53 : decode cX6_paper 53 = .ok (.invokevirtual 189, 3) := by decide +kernel
theorem dX6_paper_56 : decode cX6_paper 56 = .ok (.aload_n 0, 1) := by decide +kernel
theorem dX6_paper_57 : decode cX6_paper 57 = .ok (.getfield 10, 3) := by decide +kernel
theorem dX6_paper_60 : decode cX6_paper 60 = .ok (.iconst 0, 1) := by decide +kernel
theorem dX6_paper_61 : decode cX6_paper 61 = .ok (.putfield 83, 3) := by decide +kernel
theorem dX6_paper_64 : decode cX6_paper 64 = .ok (.aload_n 0, 1) := by decide +kernel
theorem dX6_paper_65 : decode cX6_paper 65 = .ok (.getfield 10, 3) := by decide +kernel
theorem dX6_paper_68 : decode cX6_paper 68 = .ok (.getfield 96, 3) := by decide +kernel
theorem dX6_paper_71 : decode cX6_paper 71 = .ok (.getfield 103, 3) := by decide +kernel
theorem dX6_paper_74 : decode cX6_paper 74 = .ok (.ireturn, 1) := by decide +kernel
theorem dX6_day_0 : decode cX6_day 0 = .ok (.aload_n 0, 1) := by decide +kernel
theorem dX6_day_1 : decode cX6_day 1 = .ok (.getfield 26, 3) := by decide +kernel
theorem dX6_day_4 : decode cX6_day 4 = .ok (.aload_n 0, 1) := by decide +kernel
theorem dX6_day_5 : decode cX6_day 5 = .ok (.getfield 44, 3) := by decide +kernel
theorem dX6_day_8 : decode cX6_day 8 = .ok (.aload_n 0, 1) := by decide +kernel
theorem dX6_day_9 : decode cX6_day 9 = .ok (.getfield 10, 3) := by decide +kernel
theorem dX6_day_12 : decode cX6_day 12 = .ok (.getfield 86, 3) := by decide +kernel
theorem dX6_day_15 : decode cX6_day 15 = .ok (.aload_n 0, 1) := by decide +kernel
theorem dX6_day_16 : decode cX6_day 16 = .ok (.getfield 10, 3) := by decide +kernel
theorem dX6_day_19 : decode cX6_day 19 = .ok (.getfield 96, 3) := by decide +kernel
theorem dX6_day_22 : decode cX6_day 22 = .ok (.getfield 103, 3) := by decide +kernel
theorem dX6_day_25 : decode cX6_day 25 = .ok (.invokevirtual 192, 3) := by decide +kernel
theorem dX6_day_28 : decode cX6_day 28 = .ok (.istore_n 1, 1) := by decide +kernel
theorem dX6_day_29 : decode cX6_day 29 = .ok (.aload_n 0, 1) := by decide +kernel
theorem dX6_day_30 : decode cX6_day 30 = .ok (.getfield 26, 3) := by decide +kernel
theorem dX6_day_33 : decode cX6_day 33 = .ok (.iconst 0, 1) := by decide +kernel
theorem dX6_day_34 : decode cX6_day 34 = .ok (.putfield 166, 3) := by decide +kernel
theorem dX6_day_37 : decode cX6_day 37 = .ok (.iload_n 1, 1) := by decide +kernel
theorem dX6_day_38 : decode cX6_day 38 = .ok (.ifCond .ge 11, 3) := by decide +kernel
theorem dX6_day_41 : decode cX6_day 41 = .ok (.aload_n 0, 1) := by decide +kernel
theorem dX6_day_42 : decode cX6_day 42 = .ok (.getfield 26, 3) := by decide +kernel
theorem dX6_day_45 : decode cX6_day 45 = .ok (.invokevirtual 174, 3) := by decide +kernel
theorem dX6_day_48 : decode cX6_day 48 = .ok (.ireturn, 1) := by decide +kernel
theorem dX6_day_49 : decode cX6_day 49 = .ok (.iconst 0, 1) := by decide +kernel
theorem dX6_day_50 : decode cX6_day 50 = .ok (.istore_n 2, 1) := by decide +kernel
theorem dX6_day_51 : decode cX6_day 51 = .ok (.iconst 0, 1) := by decide +kernel
theorem dX6_day_52 : decode cX6_day 52 = .ok (.istore_n 3, 1) := by decide +kernel
theorem dX6_day_53 : decode cX6_day 53 = .ok (.iload_n 3, 1) := by decide +kernel
theorem dX6_day_54 : decode cX6_day 54 = .ok (.iload_n 1, 1) := by decide +kernel
theorem dX6_day_55 : decode cX6_day 55 = .ok (.if_icmp .ge 64, 3) := by decide +kernel
theorem dX6_day_58 : decode cX6_day 58 = .ok (.iload_n 3, 1) := by decide +kernel
theorem dX6_day_59 : decode cX6_day 59 = .ok (.bipush 32, 2) := by decide +kernel
theorem dX6_day_61 : decode cX6_day 61 = .ok (.if_icmp .ge 58, 3) := by decide +kernel
theorem dX6_day_64 : decode cX6_day 64 = .ok (.aload_n 0, 1) := by decide +kernel
theorem dX6_day_65 : decode cX6_day 65 = .ok (.getfield 10, 3) := by decide +kernel
theorem dX6_day_68 : decode cX6_day 68 = .ok (.getfield 196, 3) := by decide +kernel
theorem dX6_day_71 : decode cX6_day 71 = .ok (.sipush 9999, 3) := by decide +kernel
theorem dX6_day_74 : decode cX6_day 74 = .ok (.if_icmp .ge 45, 3) := by decide +kernel
theorem dX6_day_77 : decode cX6_day 77 = .ok (.aload_n 0, 1) := by decide +kernel
theorem dX6_day_78 : decode cX6_day 78 = .ok (.getfield 44, 3) := by decide +kernel
theorem dX6_day_81 : decode cX6_day 81 = .ok (.iload_n 3, 1) := by decide +kernel
theorem dX6_day_82 : decode cX6_day 82 = .ok (.iaload, 1) := by decide +kernel
theorem dX6_day_83 : decode cX6_day 83 = .ok (.istore 4, 2) := by decide +kernel
theorem dX6_day_85 : decode cX6_day 85 = .ok (.aload_n 0, 1) := by decide +kernel
theorem dX6_day_86 : decode cX6_day 86 = .ok (.getfield 10, 3) := by decide +kernel
theorem dX6_day_89 : decode cX6_day 89 = .ok (.iload 4, 2) := by decide +kernel
theorem dX6_day_91 : decode cX6_day 91 = .ok (.invokestatic 199, 3) := by decide +kernel
theorem dX6_day_94 : decode cX6_day 94 = .ok (.iload 4, 2) := by decide +kernel
theorem dX6_day_96 : decode cX6_day 96 = .ok (.invokestatic 202, 3) := by decide +kernel
theorem dX6_day_99 : decode cX6_day 99 = .ok (.iload 4, 2) := by decide +kernel
theorem dX6_day_101 : decode cX6_day 101 = .ok (.invokestatic 205, 3) := by decide +kernel
theorem dX6_day_104 : decode cX6_day 104 = .ok (.invokevirtual 208, 3) := by decide +kernel
theorem dX6_day_107 : decode cX6_day 107 = .ok (.ifCond .eq 6, 3) := by decide +kernel
theorem dX6_day_110 : decode cX6_day 110 = .ok (.iinc 2 1, 3) := by decide +kernel
theorem dX6_day_113 : decode cX6_day 113 = .ok (.iinc 3 1, 3) := by decide +kernel
theorem dX6_day_116 : decode cX6_day 116 = .ok (.goto (-63), 3) := by decide +kernel
theorem dX6_day_119 : decode cX6_day 119 = .ok (.iload_n 2, 1) := by decide +kernel
theorem dX6_day_120 : decode cX6_day 120 = .ok (.ireturn, 1) := by decide +kernel
theorem dX6_count_0 : decode cX6_count 0 = .ok (.iload_n 1, 1) := by decide +kernel
theorem dX6_count_1 : decode cX6_count 1 = .ok (.tableswitch 144 0 9 #[55, 66, 77, 85, 93, 101, 109, 117, 125, 133], 55) := by decide +kernel
theorem dX6_count_56 : decode cX6_count 56 = .ok (.aload_n 0, 1) := by decide +kernel
theorem dX6_count_57 : decode cX6_count 57 = .ok (.getfield 10, 3) := by decide +kernel
theorem dX6_count_60 : decode cX6_count 60 = .ok (.getfield 72, 3) := by decide +kernel
theorem dX6_count_63 : decode cX6_count 63 = .ok (.getfield 75, 3) := by decide +kernel
theorem dX6_count_66 : decode cX6_count 66 = .ok (.ireturn, 1) := by decide +kernel
theorem dX6_count_67 : decode cX6_count 67 = .ok (.aload_n 0, 1) := by decide +kernel
theorem dX6_count_68 : decode cX6_count 68 = .ok (.getfield 10, 3) := by decide +kernel
theorem dX6_count_71 : decode cX6_count 71 = .ok (.getfield 96, 3) := by decide +kernel
theorem dX6_count_74 : decode cX6_count 74 = .ok (.getfield 103, 3) := by decide +kernel
theorem dX6_count_77 : decode cX6_count 77 = .ok (.ireturn, 1) := by decide +kernel
theorem dX6_count_78 : decode cX6_count 78 = .ok (.aload_n 0, 1) := by decide +kernel
theorem dX6_count_79 : decode cX6_count 79 = .ok (.getfield 10, 3) := by decide +kernel
theorem dX6_count_82 : decode cX6_count 82 = .ok (.getfield 86, 3) := by decide +kernel
theorem dX6_count_85 : decode cX6_count 85 = .ok (.ireturn, 1) := by decide +kernel
theorem dX6_count_86 : decode cX6_count 86 = .ok (.aload_n 0, 1) := by decide +kernel
theorem dX6_count_87 : decode cX6_count 87 = .ok (.getfield 10, 3) := by decide +kernel
theorem dX6_count_90 : decode cX6_count 90 = .ok (.getfield 196, 3) := by decide +kernel
theorem dX6_count_93 : decode cX6_count 93 = .ok (.ireturn, 1) := by decide +kernel
theorem dX6_count_94 : decode cX6_count 94 = .ok (.aload_n 0, 1) := by decide +kernel
theorem dX6_count_95 : decode cX6_count 95 = .ok (.getfield 10, 3) := by decide +kernel
theorem dX6_count_98 : decode cX6_count 98 = .ok (.invokevirtual 212, 3) := by decide +kernel
theorem dX6_count_101 : decode cX6_count 101 = .ok (.ireturn, 1) := by decide +kernel
theorem dX6_count_102 : decode cX6_count 102 = .ok (.aload_n 0, 1) := by decide +kernel
theorem dX6_count_103 : decode cX6_count 103 = .ok (.getfield 10, 3) := by decide +kernel
theorem dX6_count_106 : decode cX6_count 106 = .ok (.invokevirtual 215, 3) := by decide +kernel
theorem dX6_count_109 : decode cX6_count 109 = .ok (.ireturn, 1) := by decide +kernel
theorem dX6_count_110 : decode cX6_count 110 = .ok (.aload_n 0, 1) := by decide +kernel
theorem dX6_count_111 : decode cX6_count 111 = .ok (.getfield 10, 3) := by decide +kernel
theorem dX6_count_114 : decode cX6_count 114 = .ok (.invokevirtual 218, 3) := by decide +kernel
theorem dX6_count_117 : decode cX6_count 117 = .ok (.ireturn, 1) := by decide +kernel
theorem dX6_count_118 : decode cX6_count 118 = .ok (.aload_n 0, 1) := by decide +kernel
theorem dX6_count_119 : decode cX6_count 119 = .ok (.getfield 10, 3) := by decide +kernel
theorem dX6_count_122 : decode cX6_count 122 = .ok (.getfield 83, 3) := by decide +kernel
theorem dX6_count_125 : decode cX6_count 125 = .ok (.ireturn, 1) := by decide +kernel
theorem dX6_count_126 : decode cX6_count 126 = .ok (.aload_n 0, 1) := by decide +kernel
theorem dX6_count_127 : decode cX6_count 127 = .ok (.getfield 10, 3) := by decide +kernel
theorem dX6_count_130 : decode cX6_count 130 = .ok (.getfield 116, 3) := by decide +kernel
theorem dX6_count_133 : decode cX6_count 133 = .ok (.ireturn, 1) := by decide +kernel
theorem dX6_count_134 : decode cX6_count 134 = .ok (.aload_n 0, 1) := by decide +kernel
theorem dX6_count_135 : decode cX6_count 135 = .ok (.getfield 10, 3) := by decide +kernel
theorem dX6_count_138 : decode cX6_count 138 = .ok (.getfield 72, 3) := by decide +kernel
theorem dX6_count_141 : decode cX6_count 141 = .ok (.invokevirtual 221, 3) := by decide +kernel
theorem dX6_count_144 : decode cX6_count 144 = .ok (.ireturn, 1) := by decide +kernel
theorem dX6_count_145 : decode cX6_count 145 = .ok (.iconst (-1), 1) := by decide +kernel
theorem dX6_count_146 : decode cX6_count 146 = .ok (.ireturn, 1) := by decide +kernel
theorem dX6_hears_0 : decode cX6_hears 0 = .ok (.aload_n 0, 1) := by decide +kernel
theorem dX6_hears_1 : decode cX6_hears 1 = .ok (.iload_n 1, 1) := by decide +kernel
theorem dX6_hears_2 : decode cX6_hears 2 = .ok (.i2l, 1) := by decide +kernel
theorem dX6_hears_3 : decode cX6_hears 3 = .ok (.invokevirtual 224, 3) := by decide +kernel
theorem dX6_hears_6 : decode cX6_hears 6 = .ok (.ifCond .eq 11, 3) := by decide +kernel
theorem dX6_hears_9 : decode cX6_hears 9 = .ok (.iload_n 2, 1) := by decide +kernel
theorem dX6_hears_10 : decode cX6_hears 10 = .ok (.i2l, 1) := by decide +kernel
theorem dX6_hears_11 : decode cX6_hears 11 = .ok (.invokestatic 68, 3) := by decide +kernel
theorem dX6_hears_14 : decode cX6_hears 14 = .ok (.ifCond .ne 5, 3) := by decide +kernel
theorem dX6_hears_17 : decode cX6_hears 17 = .ok (.iconst (-1), 1) := by decide +kernel
theorem dX6_hears_18 : decode cX6_hears 18 = .ok (.ireturn, 1) := by decide +kernel
theorem dX6_hears_19 : decode cX6_hears 19 = .ok (.aload_n 0, 1) := by decide +kernel
theorem dX6_hears_20 : decode cX6_hears 20 = .ok (.getfield 10, 3) := by decide +kernel
theorem dX6_hears_23 : decode cX6_hears 23 = .ok (.iload_n 1, 1) := by decide +kernel
theorem dX6_hears_24 : decode cX6_hears 24 = .ok (.iload_n 2, 1) := by decide +kernel
theorem dX6_hears_25 : decode cX6_hears 25 = .ok (.aload_n 0, 1) := by decide +kernel
theorem dX6_hears_26 : decode cX6_hears 26 = .ok (.getfield 10, 3) := by decide +kernel
theorem dX6_hears_29 : decode cX6_hears 29 = .ok (.getfield 116, 3) := by decide +kernel
theorem dX6_hears_32 : decode cX6_hears 32 = .ok (.invokevirtual 227, 3) := by decide +kernel
theorem dX6_hears_35 : decode cX6_hears 35 = .ok (.ireturn, 1) := by decide +kernel
theorem dX6_wronged_0 : decode cX6_wronged 0 = .ok (.aload_n 0, 1) := by decide +kernel
theorem dX6_wronged_1 : decode cX6_wronged 1 = .ok (.iload_n 1, 1) := by decide +kernel
theorem dX6_wronged_2 : decode cX6_wronged 2 = .ok (.i2l, 1) := by decide +kernel
theorem dX6_wronged_3 : decode cX6_wronged 3 = .ok (.iload_n 2, 1) := by decide +kernel
theorem dX6_wronged_4 : decode cX6_wronged 4 = .ok (.i2l, 1) := by decide +kernel
theorem dX6_wronged_5 : decode cX6_wronged 5 = .ok (.iload_n 3, 1) := by decide +kernel
theorem dX6_wronged_6 : decode cX6_wronged 6 = .ok (.i2l, 1) := by decide +kernel
theorem dX6_wronged_7 : decode cX6_wronged 7 = .ok (.invokevirtual 231, 3) := by decide +kernel
theorem dX6_wronged_10 : decode cX6_wronged 10 = .ok (.ifCond .ne 5, 3) := by decide +kernel
theorem dX6_wronged_13 : decode cX6_wronged 13 = .ok (.iconst (-1), 1) := by decide +kernel
theorem dX6_wronged_14 : decode cX6_wronged 14 = .ok (.ireturn, 1) := by decide +kernel
theorem dX6_wronged_15 : decode cX6_wronged 15 = .ok (.aload_n 0, 1) := by decide +kernel
theorem dX6_wronged_16 : decode cX6_wronged 16 = .ok (.getfield 10, 3) := by decide +kernel
theorem dX6_wronged_19 : decode cX6_wronged 19 = .ok (.aload_n 0, 1) := by decide +kernel
theorem dX6_wronged_20 : decode cX6_wronged 20 = .ok (.getfield 10, 3) := by decide +kernel
theorem dX6_wronged_23 : decode cX6_wronged 23 = .ok (.iload_n 1, 1) := by decide +kernel
theorem dX6_wronged_24 : decode cX6_wronged 24 = .ok (.iload_n 2, 1) := by decide +kernel
theorem dX6_wronged_25 : decode cX6_wronged 25 = .ok (.aload_n 0, 1) := by decide +kernel
theorem dX6_wronged_26 : decode cX6_wronged 26 = .ok (.getfield 10, 3) := by decide +kernel
theorem dX6_wronged_29 : decode cX6_wronged 29 = .ok (.getfield 116, 3) := by decide +kernel
theorem dX6_wronged_32 : decode cX6_wronged 32 = .ok (.invokevirtual 227, 3) := by decide +kernel
theorem dX6_wronged_35 : decode cX6_wronged 35 = .ok (.iload_n 3, 1) := by decide +kernel
theorem dX6_wronged_36 : decode cX6_wronged 36 = .ok (.aload_n 0, 1) := by decide +kernel
theorem dX6_wronged_37 : decode cX6_wronged 37 = .ok (.getfield 10, 3) := by decide +kernel
theorem dX6_wronged_40 : decode cX6_wronged 40 = .ok (.getfield 72, 3) := by decide +kernel
theorem dX6_wronged_43 : decode cX6_wronged 43 = .ok (.getfield 137, 3) := by decide +kernel
theorem dX6_wronged_46 : decode cX6_wronged 46 = .ok (.invokevirtual 235, 3) := by decide +kernel
theorem dX6_wronged_49 : decode cX6_wronged 49 = .ok (.ireturn, 1) := by decide +kernel
theorem dX6_read_0 : decode cX6_read 0 = .ok (.aload_n 0, 1) := by decide +kernel
theorem dX6_read_1 : decode cX6_read 1 = .ok (.iload_n 1, 1) := by decide +kernel
theorem dX6_read_2 : decode cX6_read 2 = .ok (.i2l, 1) := by decide +kernel
theorem dX6_read_3 : decode cX6_read 3 = .ok (.iload_n 2, 1) := by decide +kernel
theorem dX6_read_4 : decode cX6_read 4 = .ok (.i2l, 1) := by decide +kernel
theorem dX6_read_5 : decode cX6_read 5 = .ok (.iload_n 3, 1) := by decide +kernel
theorem dX6_read_6 : decode cX6_read 6 = .ok (.i2l, 1) := by decide +kernel
theorem dX6_read_7 : decode cX6_read 7 = .ok (.invokevirtual 231, 3) := by decide +kernel
theorem dX6_read_10 : decode cX6_read 10 = .ok (.ifCond .ne 5, 3) := by decide +kernel
theorem dX6_read_13 : decode cX6_read 13 = .ok (.iconst (-1), 1) := by decide +kernel
theorem dX6_read_14 : decode cX6_read 14 = .ok (.ireturn, 1) := by decide +kernel
theorem dX6_read_15 : decode cX6_read 15 = .ok (.aload_n 0, 1) := by decide +kernel
theorem dX6_read_16 : decode cX6_read 16 = .ok (.getfield 10, 3) := by decide +kernel
theorem dX6_read_19 : decode cX6_read 19 = .ok (.getfield 196, 3) := by decide +kernel
theorem dX6_read_22 : decode cX6_read 22 = .ok (.sipush 9999, 3) := by decide +kernel
theorem dX6_read_25 : decode cX6_read 25 = .ok (.if_icmp .lt 6, 3) := by decide +kernel
theorem dX6_read_28 : decode cX6_read 28 = .ok (.bipush (-3), 2) := by decide +kernel
theorem dX6_read_30 : decode cX6_read 30 = .ok (.ireturn, 1) := by decide +kernel
theorem dX6_read_31 : decode cX6_read 31 = .ok (.aload_n 0, 1) := by decide +kernel
theorem dX6_read_32 : decode cX6_read 32 = .ok (.getfield 10, 3) := by decide +kernel
theorem dX6_read_35 : decode cX6_read 35 = .ok (.iload_n 1, 1) := by decide +kernel
theorem dX6_read_36 : decode cX6_read 36 = .ok (.iload_n 2, 1) := by decide +kernel
theorem dX6_read_37 : decode cX6_read 37 = .ok (.iload_n 3, 1) := by decide +kernel
theorem dX6_read_38 : decode cX6_read 38 = .ok (.invokevirtual 208, 3) := by decide +kernel
theorem dX6_read_41 : decode cX6_read 41 = .ok (.pop, 1) := by decide +kernel
theorem dX6_read_42 : decode cX6_read 42 = .ok (.aload_n 0, 1) := by decide +kernel
theorem dX6_read_43 : decode cX6_read 43 = .ok (.getfield 10, 3) := by decide +kernel
theorem dX6_read_46 : decode cX6_read 46 = .ok (.iload_n 1, 1) := by decide +kernel
theorem dX6_read_47 : decode cX6_read 47 = .ok (.iload_n 2, 1) := by decide +kernel
theorem dX6_read_48 : decode cX6_read 48 = .ok (.aload_n 0, 1) := by decide +kernel
theorem dX6_read_49 : decode cX6_read 49 = .ok (.getfield 10, 3) := by decide +kernel
theorem dX6_read_52 : decode cX6_read 52 = .ok (.getfield 116, 3) := by decide +kernel
theorem dX6_read_55 : decode cX6_read 55 = .ok (.invokevirtual 227, 3) := by decide +kernel
theorem dX6_read_58 : decode cX6_read 58 = .ok (.ireturn, 1) := by decide +kernel
theorem dX6_undo_0 : decode cX6_undo 0 = .ok (.aload_n 0, 1) := by decide +kernel
theorem dX6_undo_1 : decode cX6_undo 1 = .ok (.getfield 10, 3) := by decide +kernel
theorem dX6_undo_4 : decode cX6_undo 4 = .ok (.getfield 83, 3) := by decide +kernel
theorem dX6_undo_7 : decode cX6_undo 7 = .ok (.ifCond .ne 6, 3) := by decide +kernel
theorem dX6_undo_10 : decode cX6_undo 10 = .ok (.bipush (-4), 2) := by decide +kernel
theorem dX6_undo_12 : decode cX6_undo 12 = .ok (.ireturn, 1) := by decide +kernel
theorem dX6_undo_13 : decode cX6_undo 13 = .ok (.aload_n 0, 1) := by decide +kernel
theorem dX6_undo_14 : decode cX6_undo 14 = .ok (.getfield 10, 3) := by decide +kernel
theorem dX6_undo_17 : decode cX6_undo 17 = .ok (.invokevirtual 239, 3) := by decide +kernel
theorem dX6_undo_20 : decode cX6_undo 20 = .ok (.aload_n 0, 1) := by decide +kernel
theorem dX6_undo_21 : decode cX6_undo 21 = .ok (.getfield 10, 3) := by decide +kernel
theorem dX6_undo_24 : decode cX6_undo 24 = .ok (.getfield 83, 3) := by decide +kernel
theorem dX6_undo_27 : decode cX6_undo 27 = .ok (.ireturn, 1) := by decide +kernel
theorem dX6_lots_0 : decode cX6_lots 0 = .ok (.iload_n 1, 1) := by decide +kernel
theorem dX6_lots_1 : decode cX6_lots 1 = .ok (.iconst 1, 1) := by decide +kernel
theorem dX6_lots_2 : decode cX6_lots 2 = .ok (.if_icmp .lt 9, 3) := by decide +kernel
theorem dX6_lots_5 : decode cX6_lots 5 = .ok (.iload_n 1, 1) := by decide +kernel
theorem dX6_lots_6 : decode cX6_lots 6 = .ok (.bipush 30, 2) := by decide +kernel
theorem dX6_lots_8 : decode cX6_lots 8 = .ok (.if_icmp .le 5, 3) := by decide +kernel
theorem dX6_lots_11 : decode cX6_lots 11 = .ok (.iconst (-1), 1) := by decide +kernel
theorem dX6_lots_12 : decode cX6_lots 12 = .ok (.ireturn, 1) := by decide +kernel
theorem dX6_lots_13 : decode cX6_lots 13 = .ok (.aload_n 0, 1) := by decide +kernel
theorem dX6_lots_14 : decode cX6_lots 14 = .ok (.getfield 10, 3) := by decide +kernel
theorem dX6_lots_17 : decode cX6_lots 17 = .ok (.getfield 86, 3) := by decide +kernel
theorem dX6_lots_20 : decode cX6_lots 20 = .ok (.ifCond .eq 16, 3) := by decide +kernel
theorem dX6_lots_23 : decode cX6_lots 23 = .ok (.aload_n 0, 1) := by decide +kernel
theorem dX6_lots_24 : decode cX6_lots 24 = .ok (.getfield 10, 3) := by decide +kernel
theorem dX6_lots_27 : decode cX6_lots 27 = .ok (.getfield 96, 3) := by decide +kernel
theorem dX6_lots_30 : decode cX6_lots 30 = .ok (.getfield 103, 3) := by decide +kernel
theorem dX6_lots_33 : decode cX6_lots 33 = .ok (.ifCond .ne 6, 3) := by decide +kernel
theorem dX6_lots_36 : decode cX6_lots 36 = .ok (.bipush (-2), 2) := by decide +kernel
theorem dX6_lots_38 : decode cX6_lots 38 = .ok (.ireturn, 1) := by decide +kernel
theorem dX6_lots_39 : decode cX6_lots 39 = .ok (.aload_n 0, 1) := by decide +kernel
theorem dX6_lots_40 : decode cX6_lots 40 = .ok (.getfield 10, 3) := by decide +kernel
theorem dX6_lots_43 : decode cX6_lots 43 = .ok (.getfield 196, 3) := by decide +kernel
theorem dX6_lots_46 : decode cX6_lots 46 = .ok (.iload_n 1, 1) := by decide +kernel
theorem dX6_lots_47 : decode cX6_lots 47 = .ok (.iadd, 1) := by decide +kernel
theorem dX6_lots_48 : decode cX6_lots 48 = .ok (.sipush 9999, 3) := by decide +kernel
theorem dX6_lots_51 : decode cX6_lots 51 = .ok (.if_icmp .le 6, 3) := by decide +kernel
theorem dX6_lots_54 : decode cX6_lots 54 = .ok (.bipush (-3), 2) := by decide +kernel
theorem dX6_lots_56 : decode cX6_lots 56 = .ok (.ireturn, 1) := by decide +kernel
theorem dX6_lots_57 : decode cX6_lots 57 = .ok (.iconst 0, 1) := by decide +kernel
theorem dX6_lots_58 : decode cX6_lots 58 = .ok (.istore_n 2, 1) := by decide +kernel
theorem dX6_lots_59 : decode cX6_lots 59 = .ok (.iconst 0, 1) := by decide +kernel
theorem dX6_lots_60 : decode cX6_lots 60 = .ok (.istore_n 3, 1) := by decide +kernel
theorem dX6_lots_61 : decode cX6_lots 61 = .ok (.iload_n 3, 1) := by decide +kernel
theorem dX6_lots_62 : decode cX6_lots 62 = .ok (.iload_n 1, 1) := by decide +kernel
theorem dX6_lots_63 : decode cX6_lots 63 = .ok (.if_icmp .ge 85, 3) := by decide +kernel
theorem dX6_lots_66 : decode cX6_lots 66 = .ok (.aload_n 0, 1) := by decide +kernel
theorem dX6_lots_67 : decode cX6_lots 67 = .ok (.getfield 10, 3) := by decide +kernel
theorem dX6_lots_70 : decode cX6_lots 70 = .ok (.aload_n 0, 1) := by decide +kernel
theorem dX6_lots_71 : decode cX6_lots 71 = .ok (.getfield 10, 3) := by decide +kernel
theorem dX6_lots_74 : decode cX6_lots 74 = .ok (.iconst 5, 1) := by decide +kernel
theorem dX6_lots_75 : decode cX6_lots 75 = .ok (.invokevirtual 242, 3) := by decide +kernel
theorem dX6_lots_78 : decode cX6_lots 78 = .ok (.putfield 116, 3) := by decide +kernel
theorem dX6_lots_81 : decode cX6_lots 81 = .ok (.aload_n 0, 1) := by decide +kernel
theorem dX6_lots_82 : decode cX6_lots 82 = .ok (.getfield 10, 3) := by decide +kernel
theorem dX6_lots_85 : decode cX6_lots 85 = .ok (.aload_n 0, 1) := by decide +kernel
theorem dX6_lots_86 : decode cX6_lots 86 = .ok (.getfield 10, 3) := by decide +kernel
theorem dX6_lots_89 : decode cX6_lots 89 = .ok (.getfield 86, 3) := by decide +kernel
theorem dX6_lots_92 : decode cX6_lots 92 = .ok (.invokevirtual 242, 3) := by decide +kernel
theorem dX6_lots_95 : decode cX6_lots 95 = .ok (.istore 4, 2) := by decide +kernel
theorem dX6_lots_97 : decode cX6_lots 97 = .ok (.aload_n 0, 1) := by decide +kernel
theorem dX6_lots_98 : decode cX6_lots 98 = .ok (.getfield 10, 3) := by decide +kernel
theorem dX6_lots_101 : decode cX6_lots 101 = .ok (.bipush 36, 2) := by decide +kernel
theorem dX6_lots_103 : decode cX6_lots 103 = .ok (.invokevirtual 242, 3) := by decide +kernel
theorem dX6_lots_106 : decode cX6_lots 106 = .ok (.istore 5, 2) := by decide +kernel
theorem dX6_lots_108 : decode cX6_lots 108 = .ok (.aload_n 0, 1) := by decide +kernel
theorem dX6_lots_109 : decode cX6_lots 109 = .ok (.getfield 10, 3) := by decide +kernel
theorem dX6_lots_112 : decode cX6_lots 112 = .ok (.iload 4, 2) := by decide +kernel
theorem dX6_lots_114 : decode cX6_lots 114 = .ok (.iload 5, 2) := by decide +kernel
theorem dX6_lots_116 : decode cX6_lots 116 = .ok (.aload_n 0, 1) := by decide +kernel
theorem dX6_lots_117 : decode cX6_lots 117 = .ok (.getfield 10, 3) := by decide +kernel
theorem dX6_lots_120 : decode cX6_lots 120 = .ok (.aload_n 0, 1) := by decide +kernel
theorem dX6_lots_121 : decode cX6_lots 121 = .ok (.getfield 10, 3) := by decide +kernel
theorem dX6_lots_124 : decode cX6_lots 124 = .ok (.getfield 96, 3) := by decide +kernel
theorem dX6_lots_127 : decode cX6_lots 127 = .ok (.getfield 103, 3) := by decide +kernel
theorem dX6_lots_130 : decode cX6_lots 130 = .ok (.invokevirtual 242, 3) := by decide +kernel
theorem dX6_lots_133 : decode cX6_lots 133 = .ok (.invokevirtual 208, 3) := by decide +kernel
theorem dX6_lots_136 : decode cX6_lots 136 = .ok (.ifCond .eq 6, 3) := by decide +kernel
theorem dX6_lots_139 : decode cX6_lots 139 = .ok (.iinc 2 1, 3) := by decide +kernel
theorem dX6_lots_142 : decode cX6_lots 142 = .ok (.iinc 3 1, 3) := by decide +kernel
theorem dX6_lots_145 : decode cX6_lots 145 = .ok (.goto (-84), 3) := by decide +kernel
theorem dX6_lots_148 : decode cX6_lots 148 = .ok (.iload_n 2, 1) := by decide +kernel
theorem dX6_lots_149 : decode cX6_lots 149 = .ok (.ireturn, 1) := by decide +kernel
theorem dX6_seed_0 : decode cX6_seed 0 = .ok (.iload_n 1, 1) := by decide +kernel
theorem dX6_seed_1 : decode cX6_seed 1 = .ok (.ifCond .ge 5, 3) := by decide +kernel
theorem dX6_seed_4 : decode cX6_seed 4 = .ok (.iconst (-1), 1) := by decide +kernel
theorem dX6_seed_5 : decode cX6_seed 5 = .ok (.ireturn, 1) := by decide +kernel
theorem dX6_seed_6 : decode cX6_seed 6 = .ok (.aload_n 0, 1) := by decide +kernel
theorem dX6_seed_7 : decode cX6_seed 7 = .ok (.getfield 10, 3) := by decide +kernel
theorem dX6_seed_10 : decode cX6_seed 10 = .ok (.getfield 245, 3) := by decide +kernel
theorem dX6_seed_13 : decode cX6_seed 13 = .ok (.istore_n 2, 1) := by decide +kernel
theorem dX6_seed_14 : decode cX6_seed 14 = .ok (.aload_n 0, 1) := by decide +kernel
theorem dX6_seed_15 : decode cX6_seed 15 = .ok (.getfield 10, 3) := by decide +kernel
theorem dX6_seed_18 : decode cX6_seed 18 = .ok (.iload_n 1, 1) := by decide +kernel
theorem dX6_seed_19 : decode cX6_seed 19 = .ok (.putfield 245, 3) := by decide +kernel
theorem dX6_seed_22 : decode cX6_seed 22 = .ok (.iload_n 2, 1) := by decide +kernel
theorem dX6_seed_23 : decode cX6_seed 23 = .ok (.ireturn, 1) := by decide +kernel
theorem dX6_stand_0 : decode cX6_stand 0 = .ok (.aload_n 0, 1) := by decide +kernel
theorem dX6_stand_1 : decode cX6_stand 1 = .ok (.iload_n 1, 1) := by decide +kernel
theorem dX6_stand_2 : decode cX6_stand 2 = .ok (.i2l, 1) := by decide +kernel
theorem dX6_stand_3 : decode cX6_stand 3 = .ok (.invokevirtual 224, 3) := by decide +kernel
theorem dX6_stand_6 : decode cX6_stand 6 = .ok (.ifCond .eq 12, 3) := by decide +kernel
theorem dX6_stand_9 : decode cX6_stand 9 = .ok (.aload_n 0, 1) := by decide +kernel
theorem dX6_stand_10 : decode cX6_stand 10 = .ok (.iload_n 2, 1) := by decide +kernel
theorem dX6_stand_11 : decode cX6_stand 11 = .ok (.i2l, 1) := by decide +kernel
theorem dX6_stand_12 : decode cX6_stand 12 = .ok (.invokevirtual 107, 3) := by decide +kernel
theorem dX6_stand_15 : decode cX6_stand 15 = .ok (.ifCond .ne 5, 3) := by decide +kernel
theorem dX6_stand_18 : decode cX6_stand 18 = .ok (.iconst (-1), 1) := by decide +kernel
theorem dX6_stand_19 : decode cX6_stand 19 = .ok (.ireturn, 1) := by decide +kernel
theorem dX6_stand_20 : decode cX6_stand 20 = .ok (.aload_n 0, 1) := by decide +kernel
theorem dX6_stand_21 : decode cX6_stand 21 = .ok (.getfield 10, 3) := by decide +kernel
theorem dX6_stand_24 : decode cX6_stand 24 = .ok (.iload_n 2, 1) := by decide +kernel
theorem dX6_stand_25 : decode cX6_stand 25 = .ok (.invokevirtual 248, 3) := by decide +kernel
theorem dX6_stand_28 : decode cX6_stand 28 = .ok (.istore_n 3, 1) := by decide +kernel
theorem dX6_stand_29 : decode cX6_stand 29 = .ok (.bipush (-4), 2) := by decide +kernel
theorem dX6_stand_31 : decode cX6_stand 31 = .ok (.istore 4, 2) := by decide +kernel
theorem dX6_stand_33 : decode cX6_stand 33 = .ok (.iconst 0, 1) := by decide +kernel
theorem dX6_stand_34 : decode cX6_stand 34 = .ok (.istore 5, 2) := by decide +kernel
theorem dX6_stand_36 : decode cX6_stand 36 = .ok (.iconst 0, 1) := by decide +kernel
theorem dX6_stand_37 : decode cX6_stand 37 = .ok (.istore 6, 2) := by decide +kernel
theorem dX6_stand_39 : decode cX6_stand 39 = .ok (.iload 6, 2) := by decide +kernel
theorem dX6_stand_41 : decode cX6_stand 41 = .ok (.bipush 36, 2) := by decide +kernel
theorem dX6_stand_43 : decode cX6_stand 43 = .ok (.if_icmp .ge 75, 3) := by decide +kernel
theorem dX6_stand_46 : decode cX6_stand 46 = .ok (.aload_n 0, 1) := by decide +kernel
theorem dX6_stand_47 : decode cX6_stand 47 = .ok (.getfield 10, 3) := by decide +kernel
theorem dX6_stand_50 : decode cX6_stand 50 = .ok (.iload_n 1, 1) := by decide +kernel
theorem dX6_stand_51 : decode cX6_stand 51 = .ok (.iload 6, 2) := by decide +kernel
theorem dX6_stand_53 : decode cX6_stand 53 = .ok (.aload_n 0, 1) := by decide +kernel
theorem dX6_stand_54 : decode cX6_stand 54 = .ok (.getfield 10, 3) := by decide +kernel
theorem dX6_stand_57 : decode cX6_stand 57 = .ok (.getfield 116, 3) := by decide +kernel
theorem dX6_stand_60 : decode cX6_stand 60 = .ok (.invokevirtual 227, 3) := by decide +kernel
theorem dX6_stand_63 : decode cX6_stand 63 = .ok (.istore 7, 2) := by decide +kernel
theorem dX6_stand_65 : decode cX6_stand 65 = .ok (.iload 7, 2) := by decide +kernel
theorem dX6_stand_67 : decode cX6_stand 67 = .ok (.iload_n 3, 1) := by decide +kernel
theorem dX6_stand_68 : decode cX6_stand 68 = .ok (.iand, 1) := by decide +kernel
theorem dX6_stand_69 : decode cX6_stand 69 = .ok (.invokestatic 251, 3) := by decide +kernel
theorem dX6_stand_72 : decode cX6_stand 72 = .ok (.istore 8, 2) := by decide +kernel
theorem dX6_stand_74 : decode cX6_stand 74 = .ok (.iload 8, 2) := by decide +kernel
theorem dX6_stand_76 : decode cX6_stand 76 = .ok (.iload 5, 2) := by decide +kernel
theorem dX6_stand_78 : decode cX6_stand 78 = .ok (.if_icmp .le 34, 3) := by decide +kernel
theorem dX6_stand_81 : decode cX6_stand 81 = .ok (.aload_n 0, 1) := by decide +kernel
theorem dX6_stand_82 : decode cX6_stand 82 = .ok (.getfield 10, 3) := by decide +kernel
theorem dX6_stand_85 : decode cX6_stand 85 = .ok (.iload 7, 2) := by decide +kernel
theorem dX6_stand_87 : decode cX6_stand 87 = .ok (.iload_n 2, 1) := by decide +kernel
theorem dX6_stand_88 : decode cX6_stand 88 = .ok (.aload_n 0, 1) := by decide +kernel
theorem dX6_stand_89 : decode cX6_stand 89 = .ok (.getfield 10, 3) := by decide +kernel
theorem dX6_stand_92 : decode cX6_stand 92 = .ok (.getfield 72, 3) := by decide +kernel
theorem dX6_stand_95 : decode cX6_stand 95 = .ok (.getfield 137, 3) := by decide +kernel
theorem dX6_stand_98 : decode cX6_stand 98 = .ok (.invokevirtual 235, 3) := by decide +kernel
theorem dX6_stand_101 : decode cX6_stand 101 = .ok (.ifCond .ne 11, 3) := by decide +kernel
theorem dX6_stand_104 : decode cX6_stand 104 = .ok (.iload 8, 2) := by decide +kernel
theorem dX6_stand_106 : decode cX6_stand 106 = .ok (.istore 5, 2) := by decide +kernel
theorem dX6_stand_108 : decode cX6_stand 108 = .ok (.iload 6, 2) := by decide +kernel
theorem dX6_stand_110 : decode cX6_stand 110 = .ok (.istore 4, 2) := by decide +kernel
theorem dX6_stand_112 : decode cX6_stand 112 = .ok (.iinc 6 1, 3) := by decide +kernel
theorem dX6_stand_115 : decode cX6_stand 115 = .ok (.goto (-76), 3) := by decide +kernel
theorem dX6_stand_118 : decode cX6_stand 118 = .ok (.iload 4, 2) := by decide +kernel
theorem dX6_stand_120 : decode cX6_stand 120 = .ok (.ireturn, 1) := by decide +kernel
theorem dX6_cover_0 : decode cX6_cover 0 = .ok (.aload_n 0, 1) := by decide +kernel
theorem dX6_cover_1 : decode cX6_cover 1 = .ok (.iload_n 1, 1) := by decide +kernel
theorem dX6_cover_2 : decode cX6_cover 2 = .ok (.i2l, 1) := by decide +kernel
theorem dX6_cover_3 : decode cX6_cover 3 = .ok (.invokevirtual 224, 3) := by decide +kernel
theorem dX6_cover_6 : decode cX6_cover 6 = .ok (.ifCond .eq 22, 3) := by decide +kernel
theorem dX6_cover_9 : decode cX6_cover 9 = .ok (.aload_n 0, 1) := by decide +kernel
theorem dX6_cover_10 : decode cX6_cover 10 = .ok (.iload_n 2, 1) := by decide +kernel
theorem dX6_cover_11 : decode cX6_cover 11 = .ok (.i2l, 1) := by decide +kernel
theorem dX6_cover_12 : decode cX6_cover 12 = .ok (.invokevirtual 107, 3) := by decide +kernel
theorem dX6_cover_15 : decode cX6_cover 15 = .ok (.ifCond .eq 13, 3) := by decide +kernel
theorem dX6_cover_18 : decode cX6_cover 18 = .ok (.iload_n 3, 1) := by decide +kernel
theorem dX6_cover_19 : decode cX6_cover 19 = .ok (.iconst (-1), 1) := by decide +kernel
theorem dX6_cover_20 : decode cX6_cover 20 = .ok (.if_icmp .lt 8, 3) := by decide +kernel
theorem dX6_cover_23 : decode cX6_cover 23 = .ok (.iload_n 3, 1) := by decide +kernel
theorem dX6_cover_24 : decode cX6_cover 24 = .ok (.iconst 3, 1) := by decide +kernel
theorem dX6_cover_25 : decode cX6_cover 25 = .ok (.if_icmp .lt 5, 3) := by decide +kernel
theorem dX6_cover_28 : decode cX6_cover 28 = .ok (.iconst (-1), 1) := by decide +kernel
theorem dX6_cover_29 : decode cX6_cover 29 = .ok (.ireturn, 1) := by decide +kernel
theorem dX6_cover_30 : decode cX6_cover 30 = .ok (.aload_n 0, 1) := by decide +kernel
theorem dX6_cover_31 : decode cX6_cover 31 = .ok (.getfield 10, 3) := by decide +kernel
theorem dX6_cover_34 : decode cX6_cover 34 = .ok (.iload_n 2, 1) := by decide +kernel
theorem dX6_cover_35 : decode cX6_cover 35 = .ok (.invokevirtual 248, 3) := by decide +kernel
theorem dX6_cover_38 : decode cX6_cover 38 = .ok (.istore 4, 2) := by decide +kernel
theorem dX6_cover_40 : decode cX6_cover 40 = .ok (.aload_n 0, 1) := by decide +kernel
theorem dX6_cover_41 : decode cX6_cover 41 = .ok (.getfield 61, 3) := by decide +kernel
theorem dX6_cover_44 : decode cX6_cover 44 = .ok (.invokevirtual 256, 3) := by decide +kernel
theorem dX6_cover_47 : decode cX6_cover 47 = .ok (.iconst 0, 1) := by decide +kernel
theorem dX6_cover_48 : decode cX6_cover 48 = .ok (.istore 5, 2) := by decide +kernel
theorem dX6_cover_50 : decode cX6_cover 50 = .ok (.iload 5, 2) := by decide +kernel
theorem dX6_cover_52 : decode cX6_cover 52 = .ok (.bipush 36, 2) := by decide +kernel
theorem dX6_cover_54 : decode cX6_cover 54 = .ok (.if_icmp .ge 73, 3) := by decide +kernel
theorem dX6_cover_57 : decode cX6_cover 57 = .ok (.aload_n 0, 1) := by decide +kernel
theorem dX6_cover_58 : decode cX6_cover 58 = .ok (.getfield 10, 3) := by decide +kernel
theorem dX6_cover_61 : decode cX6_cover 61 = .ok (.iload_n 1, 1) := by decide +kernel
theorem dX6_cover_62 : decode cX6_cover 62 = .ok (.iload 5, 2) := by decide +kernel
theorem dX6_cover_64 : decode cX6_cover 64 = .ok (.aload_n 0, 1) := by decide +kernel
theorem dX6_cover_65 : decode cX6_cover 65 = .ok (.getfield 10, 3) := by decide +kernel
theorem dX6_cover_68 : decode cX6_cover 68 = .ok (.getfield 116, 3) := by decide +kernel
theorem dX6_cover_71 : decode cX6_cover 71 = .ok (.invokevirtual 227, 3) := by decide +kernel
theorem dX6_cover_74 : decode cX6_cover 74 = .ok (.istore 6, 2) := by decide +kernel
theorem dX6_cover_76 : decode cX6_cover 76 = .ok (.iload 6, 2) := by decide +kernel
theorem dX6_cover_78 : decode cX6_cover 78 = .ok (.iload 4, 2) := by decide +kernel
theorem dX6_cover_80 : decode cX6_cover 80 = .ok (.iand, 1) := by decide +kernel
theorem dX6_cover_81 : decode cX6_cover 81 = .ok (.ifCond .ne 6, 3) := by decide +kernel
theorem dX6_cover_84 : decode cX6_cover 84 = .ok (.goto 37, 3) := by decide +kernel
theorem dX6_cover_87 : decode cX6_cover 87 = .ok (.aload_n 0, 1) := by decide +kernel
theorem dX6_cover_88 : decode cX6_cover 88 = .ok (.getfield 10, 3) := by decide +kernel
theorem dX6_cover_91 : decode cX6_cover 91 = .ok (.iload 6, 2) := by decide +kernel
theorem dX6_cover_93 : decode cX6_cover 93 = .ok (.iload_n 2, 1) := by decide +kernel
theorem dX6_cover_94 : decode cX6_cover 94 = .ok (.aload_n 0, 1) := by decide +kernel
theorem dX6_cover_95 : decode cX6_cover 95 = .ok (.getfield 10, 3) := by decide +kernel
theorem dX6_cover_98 : decode cX6_cover 98 = .ok (.getfield 72, 3) := by decide +kernel
theorem dX6_cover_101 : decode cX6_cover 101 = .ok (.getfield 137, 3) := by decide +kernel
theorem dX6_cover_104 : decode cX6_cover 104 = .ok (.invokevirtual 235, 3) := by decide +kernel
theorem dX6_cover_107 : decode cX6_cover 107 = .ok (.ifCond .ne 14, 3) := by decide +kernel
theorem dX6_cover_110 : decode cX6_cover 110 = .ok (.aload_n 0, 1) := by decide +kernel
theorem dX6_cover_111 : decode cX6_cover 111 = .ok (.getfield 61, 3) := by decide +kernel
theorem dX6_cover_114 : decode cX6_cover 114 = .ok (.iload 5, 2) := by decide +kernel
theorem dX6_cover_116 : decode cX6_cover 116 = .ok (.iload 6, 2) := by decide +kernel
theorem dX6_cover_118 : decode cX6_cover 118 = .ok (.invokevirtual 259, 3) := by decide +kernel
theorem dX6_cover_121 : decode cX6_cover 121 = .ok (.iinc 5 1, 3) := by decide +kernel
theorem dX6_cover_124 : decode cX6_cover 124 = .ok (.goto (-74), 3) := by decide +kernel
theorem dX6_cover_127 : decode cX6_cover 127 = .ok (.aload_n 0, 1) := by decide +kernel
theorem dX6_cover_128 : decode cX6_cover 128 = .ok (.getfield 61, 3) := by decide +kernel
theorem dX6_cover_131 : decode cX6_cover 131 = .ok (.iload 4, 2) := by decide +kernel
theorem dX6_cover_133 : decode cX6_cover 133 = .ok (.invokevirtual 262, 3) := by decide +kernel
theorem dX6_cover_136 : decode cX6_cover 136 = .ok (.ifCond .ne 6, 3) := by decide +kernel
theorem dX6_cover_139 : decode cX6_cover 139 = .ok (.bipush (-4), 2) := by decide +kernel
theorem dX6_cover_141 : decode cX6_cover 141 = .ok (.ireturn, 1) := by decide +kernel
theorem dX6_cover_142 : decode cX6_cover 142 = .ok (.iload_n 3, 1) := by decide +kernel
theorem dX6_cover_143 : decode cX6_cover 143 = .ok (.iconst (-1), 1) := by decide +kernel
theorem dX6_cover_144 : decode cX6_cover 144 = .ok (.if_icmp .ne 11, 3) := by decide +kernel
theorem dX6_cover_147 : decode cX6_cover 147 = .ok (.aload_n 0, 1) := by decide +kernel
theorem dX6_cover_148 : decode cX6_cover 148 = .ok (.getfield 61, 3) := by decide +kernel
theorem dX6_cover_151 : decode cX6_cover 151 = .ok (.getfield 265, 3) := by decide +kernel
theorem dX6_cover_154 : decode cX6_cover 154 = .ok (.ireturn, 1) := by decide +kernel
theorem dX6_cover_155 : decode cX6_cover 155 = .ok (.iload_n 3, 1) := by decide +kernel
theorem dX6_cover_156 : decode cX6_cover 156 = .ok (.aload_n 0, 1) := by decide +kernel
theorem dX6_cover_157 : decode cX6_cover 157 = .ok (.getfield 61, 3) := by decide +kernel
theorem dX6_cover_160 : decode cX6_cover 160 = .ok (.getfield 265, 3) := by decide +kernel
theorem dX6_cover_163 : decode cX6_cover 163 = .ok (.if_icmp .ge 15, 3) := by decide +kernel
theorem dX6_cover_166 : decode cX6_cover 166 = .ok (.aload_n 0, 1) := by decide +kernel
theorem dX6_cover_167 : decode cX6_cover 167 = .ok (.getfield 61, 3) := by decide +kernel
theorem dX6_cover_170 : decode cX6_cover 170 = .ok (.getfield 268, 3) := by decide +kernel
theorem dX6_cover_173 : decode cX6_cover 173 = .ok (.iload_n 3, 1) := by decide +kernel
theorem dX6_cover_174 : decode cX6_cover 174 = .ok (.iaload, 1) := by decide +kernel
theorem dX6_cover_175 : decode cX6_cover 175 = .ok (.goto 5, 3) := by decide +kernel
theorem dX6_cover_178 : decode cX6_cover 178 = .ok (.bipush (-4), 2) := by decide +kernel
theorem dX6_cover_180 : decode cX6_cover 180 = .ok (.ireturn, 1) := by decide +kernel
theorem dX6_orders_0 : decode cX6_orders 0 = .ok (.iload_n 1, 1) := by decide +kernel
theorem dX6_orders_1 : decode cX6_orders 1 = .ok (.iconst (-1), 1) := by decide +kernel
theorem dX6_orders_2 : decode cX6_orders 2 = .ok (.if_icmp .lt 9, 3) := by decide +kernel
theorem dX6_orders_5 : decode cX6_orders 5 = .ok (.iload_n 1, 1) := by decide +kernel
theorem dX6_orders_6 : decode cX6_orders 6 = .ok (.bipush 12, 2) := by decide +kernel
theorem dX6_orders_8 : decode cX6_orders 8 = .ok (.if_icmp .lt 5, 3) := by decide +kernel
theorem dX6_orders_11 : decode cX6_orders 11 = .ok (.iconst (-1), 1) := by decide +kernel
theorem dX6_orders_12 : decode cX6_orders 12 = .ok (.ireturn, 1) := by decide +kernel
theorem dX6_orders_13 : decode cX6_orders 13 = .ok (.iload_n 1, 1) := by decide +kernel
theorem dX6_orders_14 : decode cX6_orders 14 = .ok (.iconst (-1), 1) := by decide +kernel
theorem dX6_orders_15 : decode cX6_orders 15 = .ok (.if_icmp .ne 34, 3) := by decide +kernel
theorem dX6_orders_18 : decode cX6_orders 18 = .ok (.aload_n 0, 1) := by decide +kernel
theorem dX6_orders_19 : decode cX6_orders 19 = .ok (.getfield 10, 3) := by decide +kernel
theorem dX6_orders_22 : decode cX6_orders 22 = .ok (.getfield 96, 3) := by decide +kernel
theorem dX6_orders_25 : decode cX6_orders 25 = .ok (.getfield 271, 3) := by decide +kernel
theorem dX6_orders_28 : decode cX6_orders 28 = .ok (.ifCond .le 16, 3) := by decide +kernel
theorem dX6_orders_31 : decode cX6_orders 31 = .ok (.aload_n 0, 1) := by decide +kernel
theorem dX6_orders_32 : decode cX6_orders 32 = .ok (.getfield 10, 3) := by decide +kernel
theorem dX6_orders_35 : decode cX6_orders 35 = .ok (.getfield 96, 3) := by decide +kernel
theorem dX6_orders_38 : decode cX6_orders 38 = .ok (.getfield 271, 3) := by decide +kernel
theorem dX6_orders_41 : decode cX6_orders 41 = .ok (.goto 7, 3) := by decide +kernel
theorem dX6_orders_44 : decode cX6_orders 44 = .ok (.aload_n 0, 1) := by decide +kernel
theorem dX6_orders_45 : decode cX6_orders 45 = .ok (.invokevirtual 274, 3) := by decide +kernel
theorem dX6_orders_48 : decode cX6_orders 48 = .ok (.ireturn, 1) := by decide +kernel
theorem dX6_orders_49 : decode cX6_orders 49 = .ok (.iload_n 1, 1) := by decide +kernel
theorem dX6_orders_50 : decode cX6_orders 50 = .ok (.aload_n 0, 1) := by decide +kernel
theorem dX6_orders_51 : decode cX6_orders 51 = .ok (.getfield 10, 3) := by decide +kernel
theorem dX6_orders_54 : decode cX6_orders 54 = .ok (.getfield 96, 3) := by decide +kernel
theorem dX6_orders_57 : decode cX6_orders 57 = .ok (.getfield 103, 3) := by decide +kernel
theorem dX6_orders_60 : decode cX6_orders 60 = .ok (.if_icmp .ge 17, 3) := by decide +kernel
theorem dX6_orders_63 : decode cX6_orders 63 = .ok (.aload_n 0, 1) := by decide +kernel
theorem dX6_orders_64 : decode cX6_orders 64 = .ok (.getfield 10, 3) := by decide +kernel
theorem dX6_orders_67 : decode cX6_orders 67 = .ok (.getfield 96, 3) := by decide +kernel
theorem dX6_orders_70 : decode cX6_orders 70 = .ok (.iload_n 1, 1) := by decide +kernel
theorem dX6_orders_71 : decode cX6_orders 71 = .ok (.invokevirtual 277, 3) := by decide +kernel
theorem dX6_orders_74 : decode cX6_orders 74 = .ok (.goto 5, 3) := by decide +kernel
theorem dX6_orders_77 : decode cX6_orders 77 = .ok (.bipush (-4), 2) := by decide +kernel
theorem dX6_orders_79 : decode cX6_orders 79 = .ok (.ireturn, 1) := by decide +kernel
theorem dX6_years_0 : decode cX6_years 0 = .ok (.iload_n 1, 1) := by decide +kernel
theorem dX6_years_1 : decode cX6_years 1 = .ok (.iconst 1, 1) := by decide +kernel
theorem dX6_years_2 : decode cX6_years 2 = .ok (.if_icmp .lt 18, 3) := by decide +kernel
theorem dX6_years_5 : decode cX6_years 5 = .ok (.iload_n 1, 1) := by decide +kernel
theorem dX6_years_6 : decode cX6_years 6 = .ok (.bipush 30, 2) := by decide +kernel
theorem dX6_years_8 : decode cX6_years 8 = .ok (.if_icmp .gt 12, 3) := by decide +kernel
theorem dX6_years_11 : decode cX6_years 11 = .ok (.iload_n 2, 1) := by decide +kernel
theorem dX6_years_12 : decode cX6_years 12 = .ok (.ifCond .lt 8, 3) := by decide +kernel
theorem dX6_years_15 : decode cX6_years 15 = .ok (.iload_n 2, 1) := by decide +kernel
theorem dX6_years_16 : decode cX6_years 16 = .ok (.iconst 1, 1) := by decide +kernel
theorem dX6_years_17 : decode cX6_years 17 = .ok (.if_icmp .le 5, 3) := by decide +kernel
theorem dX6_years_20 : decode cX6_years 20 = .ok (.iconst (-1), 1) := by decide +kernel
theorem dX6_years_21 : decode cX6_years 21 = .ok (.ireturn, 1) := by decide +kernel
theorem dX6_years_22 : decode cX6_years 22 = .ok (.iload_n 2, 1) := by decide +kernel
theorem dX6_years_23 : decode cX6_years 23 = .ok (.ifCond .ne 17, 3) := by decide +kernel
theorem dX6_years_26 : decode cX6_years 26 = .ok (.aload_n 0, 1) := by decide +kernel
theorem dX6_years_27 : decode cX6_years 27 = .ok (.getfield 10, 3) := by decide +kernel
theorem dX6_years_30 : decode cX6_years 30 = .ok (.invokevirtual 212, 3) := by decide +kernel
theorem dX6_years_33 : decode cX6_years 33 = .ok (.iload_n 1, 1) := by decide +kernel
theorem dX6_years_34 : decode cX6_years 34 = .ok (.iadd, 1) := by decide +kernel
theorem dX6_years_35 : decode cX6_years 35 = .ok (.iconst 1, 1) := by decide +kernel
theorem dX6_years_36 : decode cX6_years 36 = .ok (.isub, 1) := by decide +kernel
theorem dX6_years_37 : decode cX6_years 37 = .ok (.iload_n 1, 1) := by decide +kernel
theorem dX6_years_38 : decode cX6_years 38 = .ok (.idiv, 1) := by decide +kernel
theorem dX6_years_39 : decode cX6_years 39 = .ok (.ireturn, 1) := by decide +kernel
theorem dX6_years_40 : decode cX6_years 40 = .ok (.aload_n 0, 1) := by decide +kernel
theorem dX6_years_41 : decode cX6_years 41 = .ok (.getfield 10, 3) := by decide +kernel
theorem dX6_years_44 : decode cX6_years 44 = .ok (.iload_n 1, 1) := by decide +kernel
theorem dX6_years_45 : decode cX6_years 45 = .ok (.invokevirtual 280, 3) := by decide +kernel
theorem dX6_years_48 : decode cX6_years 48 = .ok (.ireturn, 1) := by decide +kernel
theorem dX6_chance_0 : decode cX6_chance 0 = .ok (.aload_n 0, 1) := by decide +kernel
theorem dX6_chance_1 : decode cX6_chance 1 = .ok (.iload_n 1, 1) := by decide +kernel
theorem dX6_chance_2 : decode cX6_chance 2 = .ok (.i2l, 1) := by decide +kernel
theorem dX6_chance_3 : decode cX6_chance 3 = .ok (.invokevirtual 224, 3) := by decide +kernel
theorem dX6_chance_6 : decode cX6_chance 6 = .ok (.ifCond .eq 30, 3) := by decide +kernel
theorem dX6_chance_9 : decode cX6_chance 9 = .ok (.iload_n 2, 1) := by decide +kernel
theorem dX6_chance_10 : decode cX6_chance 10 = .ok (.i2l, 1) := by decide +kernel
theorem dX6_chance_11 : decode cX6_chance 11 = .ok (.invokestatic 68, 3) := by decide +kernel
theorem dX6_chance_14 : decode cX6_chance 14 = .ok (.ifCond .eq 22, 3) := by decide +kernel
theorem dX6_chance_17 : decode cX6_chance 17 = .ok (.aload_n 0, 1) := by decide +kernel
theorem dX6_chance_18 : decode cX6_chance 18 = .ok (.iload_n 3, 1) := by decide +kernel
theorem dX6_chance_19 : decode cX6_chance 19 = .ok (.invokevirtual 283, 3) := by decide +kernel
theorem dX6_chance_22 : decode cX6_chance 22 = .ok (.ifCond .eq 14, 3) := by decide +kernel
theorem dX6_chance_25 : decode cX6_chance 25 = .ok (.iload 4, 2) := by decide +kernel
theorem dX6_chance_27 : decode cX6_chance 27 = .ok (.ifCond .lt 9, 3) := by decide +kernel
theorem dX6_chance_30 : decode cX6_chance 30 = .ok (.iload 4, 2) := by decide +kernel
theorem dX6_chance_32 : decode cX6_chance 32 = .ok (.iconst 1, 1) := by decide +kernel
theorem dX6_chance_33 : decode cX6_chance 33 = .ok (.if_icmp .le 5, 3) := by decide +kernel
theorem dX6_chance_36 : decode cX6_chance 36 = .ok (.iconst (-1), 1) := by decide +kernel
theorem dX6_chance_37 : decode cX6_chance 37 = .ok (.ireturn, 1) := by decide +kernel
theorem dX6_chance_38 : decode cX6_chance 38 = .ok (.aload_n 0, 1) := by decide +kernel
theorem dX6_chance_39 : decode cX6_chance 39 = .ok (.getfield 10, 3) := by decide +kernel
theorem dX6_chance_42 : decode cX6_chance 42 = .ok (.invokevirtual 286, 3) := by decide +kernel
theorem dX6_chance_45 : decode cX6_chance 45 = .ok (.istore 5, 2) := by decide +kernel
theorem dX6_chance_47 : decode cX6_chance 47 = .ok (.iload 5, 2) := by decide +kernel
theorem dX6_chance_49 : decode cX6_chance 49 = .ok (.ifCond .ne 6, 3) := by decide +kernel
theorem dX6_chance_52 : decode cX6_chance 52 = .ok (.bipush (-2), 2) := by decide +kernel
theorem dX6_chance_54 : decode cX6_chance 54 = .ok (.ireturn, 1) := by decide +kernel
theorem dX6_chance_55 : decode cX6_chance 55 = .ok (.aload_n 0, 1) := by decide +kernel
theorem dX6_chance_56 : decode cX6_chance 56 = .ok (.getfield 10, 3) := by decide +kernel
theorem dX6_chance_59 : decode cX6_chance 59 = .ok (.iload_n 1, 1) := by decide +kernel
theorem dX6_chance_60 : decode cX6_chance 60 = .ok (.iload_n 2, 1) := by decide +kernel
theorem dX6_chance_61 : decode cX6_chance 61 = .ok (.iload_n 3, 1) := by decide +kernel
theorem dX6_chance_62 : decode cX6_chance 62 = .ok (.invokevirtual 289, 3) := by decide +kernel
theorem dX6_chance_65 : decode cX6_chance 65 = .ok (.istore 6, 2) := by decide +kernel
theorem dX6_chance_67 : decode cX6_chance 67 = .ok (.iload 4, 2) := by decide +kernel
theorem dX6_chance_69 : decode cX6_chance 69 = .ok (.ifCond .ne 13, 3) := by decide +kernel
theorem dX6_chance_72 : decode cX6_chance 72 = .ok (.iload 6, 2) := by decide +kernel
theorem dX6_chance_74 : decode cX6_chance 74 = .ok (.iload 5, 2) := by decide +kernel
theorem dX6_chance_76 : decode cX6_chance 76 = .ok (.invokestatic 292, 3) := by decide +kernel
theorem dX6_chance_79 : decode cX6_chance 79 = .ok (.goto 10, 3) := by decide +kernel
theorem dX6_chance_82 : decode cX6_chance 82 = .ok (.iload 5, 2) := by decide +kernel
theorem dX6_chance_84 : decode cX6_chance 84 = .ok (.iload 6, 2) := by decide +kernel
theorem dX6_chance_86 : decode cX6_chance 86 = .ok (.invokestatic 292, 3) := by decide +kernel
theorem dX6_chance_89 : decode cX6_chance 89 = .ok (.ireturn, 1) := by decide +kernel
theorem dX6_likeliest_0 : decode cX6_likeliest 0 = .ok (.aload_n 0, 1) := by decide +kernel
theorem dX6_likeliest_1 : decode cX6_likeliest 1 = .ok (.iload_n 1, 1) := by decide +kernel
theorem dX6_likeliest_2 : decode cX6_likeliest 2 = .ok (.i2l, 1) := by decide +kernel
theorem dX6_likeliest_3 : decode cX6_likeliest 3 = .ok (.invokevirtual 224, 3) := by decide +kernel
theorem dX6_likeliest_6 : decode cX6_likeliest 6 = .ok (.ifCond .eq 11, 3) := by decide +kernel
theorem dX6_likeliest_9 : decode cX6_likeliest 9 = .ok (.aload_n 0, 1) := by decide +kernel
theorem dX6_likeliest_10 : decode cX6_likeliest 10 = .ok (.iload_n 2, 1) := by decide +kernel
theorem dX6_likeliest_11 : decode cX6_likeliest 11 = .ok (.invokevirtual 283, 3) := by decide +kernel
theorem dX6_likeliest_14 : decode cX6_likeliest 14 = .ok (.ifCond .ne 5, 3) := by decide +kernel
theorem dX6_likeliest_17 : decode cX6_likeliest 17 = .ok (.iconst (-1), 1) := by decide +kernel
theorem dX6_likeliest_18 : decode cX6_likeliest 18 = .ok (.ireturn, 1) := by decide +kernel
theorem dX6_likeliest_19 : decode cX6_likeliest 19 = .ok (.aload_n 0, 1) := by decide +kernel
theorem dX6_likeliest_20 : decode cX6_likeliest 20 = .ok (.getfield 10, 3) := by decide +kernel
theorem dX6_likeliest_23 : decode cX6_likeliest 23 = .ok (.invokevirtual 286, 3) := by decide +kernel
theorem dX6_likeliest_26 : decode cX6_likeliest 26 = .ok (.ifCond .ne 6, 3) := by decide +kernel
theorem dX6_likeliest_29 : decode cX6_likeliest 29 = .ok (.bipush (-2), 2) := by decide +kernel
theorem dX6_likeliest_31 : decode cX6_likeliest 31 = .ok (.ireturn, 1) := by decide +kernel
theorem dX6_likeliest_32 : decode cX6_likeliest 32 = .ok (.iconst 0, 1) := by decide +kernel
theorem dX6_likeliest_33 : decode cX6_likeliest 33 = .ok (.istore_n 3, 1) := by decide +kernel
theorem dX6_likeliest_34 : decode cX6_likeliest 34 = .ok (.iconst 0, 1) := by decide +kernel
theorem dX6_likeliest_35 : decode cX6_likeliest 35 = .ok (.istore 4, 2) := by decide +kernel
theorem dX6_likeliest_37 : decode cX6_likeliest 37 = .ok (.iconst 0, 1) := by decide +kernel
theorem dX6_likeliest_38 : decode cX6_likeliest 38 = .ok (.istore 5, 2) := by decide +kernel
theorem dX6_likeliest_40 : decode cX6_likeliest 40 = .ok (.iload 5, 2) := by decide +kernel
theorem dX6_likeliest_42 : decode cX6_likeliest 42 = .ok (.bipush 36, 2) := by decide +kernel
theorem dX6_likeliest_44 : decode cX6_likeliest 44 = .ok (.if_icmp .ge 36, 3) := by decide +kernel
theorem dX6_likeliest_47 : decode cX6_likeliest 47 = .ok (.aload_n 0, 1) := by decide +kernel
theorem dX6_likeliest_48 : decode cX6_likeliest 48 = .ok (.getfield 10, 3) := by decide +kernel
theorem dX6_likeliest_51 : decode cX6_likeliest 51 = .ok (.iload_n 1, 1) := by decide +kernel
theorem dX6_likeliest_52 : decode cX6_likeliest 52 = .ok (.iload 5, 2) := by decide +kernel
theorem dX6_likeliest_54 : decode cX6_likeliest 54 = .ok (.iload_n 2, 1) := by decide +kernel
theorem dX6_likeliest_55 : decode cX6_likeliest 55 = .ok (.invokevirtual 289, 3) := by decide +kernel
theorem dX6_likeliest_58 : decode cX6_likeliest 58 = .ok (.istore 6, 2) := by decide +kernel
theorem dX6_likeliest_60 : decode cX6_likeliest 60 = .ok (.iload 6, 2) := by decide +kernel
theorem dX6_likeliest_62 : decode cX6_likeliest 62 = .ok (.iload 4, 2) := by decide +kernel
theorem dX6_likeliest_64 : decode cX6_likeliest 64 = .ok (.if_icmp .le 10, 3) := by decide +kernel
theorem dX6_likeliest_67 : decode cX6_likeliest 67 = .ok (.iload 6, 2) := by decide +kernel
theorem dX6_likeliest_69 : decode cX6_likeliest 69 = .ok (.istore 4, 2) := by decide +kernel
theorem dX6_likeliest_71 : decode cX6_likeliest 71 = .ok (.iload 5, 2) := by decide +kernel
theorem dX6_likeliest_73 : decode cX6_likeliest 73 = .ok (.istore_n 3, 1) := by decide +kernel
theorem dX6_likeliest_74 : decode cX6_likeliest 74 = .ok (.iinc 5 1, 3) := by decide +kernel
theorem dX6_likeliest_77 : decode cX6_likeliest 77 = .ok (.goto (-37), 3) := by decide +kernel
theorem dX6_likeliest_80 : decode cX6_likeliest 80 = .ok (.iload_n 3, 1) := by decide +kernel
theorem dX6_likeliest_81 : decode cX6_likeliest 81 = .ok (.ireturn, 1) := by decide +kernel
theorem dX6_more_0 : decode cX6_more 0 = .ok (.aload_n 0, 1) := by decide +kernel
theorem dX6_more_1 : decode cX6_more 1 = .ok (.iload_n 1, 1) := by decide +kernel
theorem dX6_more_2 : decode cX6_more 2 = .ok (.invokevirtual 125, 3) := by decide +kernel
theorem dX6_more_5 : decode cX6_more 5 = .ok (.ifCond .eq 11, 3) := by decide +kernel
theorem dX6_more_8 : decode cX6_more 8 = .ok (.aload_n 0, 1) := by decide +kernel
theorem dX6_more_9 : decode cX6_more 9 = .ok (.iload_n 2, 1) := by decide +kernel
theorem dX6_more_10 : decode cX6_more 10 = .ok (.invokevirtual 125, 3) := by decide +kernel
theorem dX6_more_13 : decode cX6_more 13 = .ok (.ifCond .ne 5, 3) := by decide +kernel
theorem dX6_more_16 : decode cX6_more 16 = .ok (.iconst (-1), 1) := by decide +kernel
theorem dX6_more_17 : decode cX6_more 17 = .ok (.ireturn, 1) := by decide +kernel
theorem dX6_more_18 : decode cX6_more 18 = .ok (.aload_n 0, 1) := by decide +kernel
theorem dX6_more_19 : decode cX6_more 19 = .ok (.getfield 10, 3) := by decide +kernel
theorem dX6_more_22 : decode cX6_more 22 = .ok (.getfield 72, 3) := by decide +kernel
theorem dX6_more_25 : decode cX6_more 25 = .ok (.getfield 137, 3) := by decide +kernel
theorem dX6_more_28 : decode cX6_more 28 = .ok (.iload_n 1, 1) := by decide +kernel
theorem dX6_more_29 : decode cX6_more 29 = .ok (.iaload, 1) := by decide +kernel
theorem dX6_more_30 : decode cX6_more 30 = .ok (.aload_n 0, 1) := by decide +kernel
theorem dX6_more_31 : decode cX6_more 31 = .ok (.getfield 10, 3) := by decide +kernel
theorem dX6_more_34 : decode cX6_more 34 = .ok (.getfield 72, 3) := by decide +kernel
theorem dX6_more_37 : decode cX6_more 37 = .ok (.getfield 137, 3) := by decide +kernel
theorem dX6_more_40 : decode cX6_more 40 = .ok (.iload_n 2, 1) := by decide +kernel
theorem dX6_more_41 : decode cX6_more 41 = .ok (.iaload, 1) := by decide +kernel
theorem dX6_more_42 : decode cX6_more 42 = .ok (.iconst (-1), 1) := by decide +kernel
theorem dX6_more_43 : decode cX6_more 43 = .ok (.ixor, 1) := by decide +kernel
theorem dX6_more_44 : decode cX6_more 44 = .ok (.iand, 1) := by decide +kernel
theorem dX6_more_45 : decode cX6_more 45 = .ok (.ireturn, 1) := by decide +kernel
theorem dX6_sooner_0 : decode cX6_sooner 0 = .ok (.aload_n 0, 1) := by decide +kernel
theorem dX6_sooner_1 : decode cX6_sooner 1 = .ok (.iload_n 1, 1) := by decide +kernel
theorem dX6_sooner_2 : decode cX6_sooner 2 = .ok (.invokevirtual 125, 3) := by decide +kernel
theorem dX6_sooner_5 : decode cX6_sooner 5 = .ok (.ifCond .eq 12, 3) := by decide +kernel
theorem dX6_sooner_8 : decode cX6_sooner 8 = .ok (.iload_n 2, 1) := by decide +kernel
theorem dX6_sooner_9 : decode cX6_sooner 9 = .ok (.ifCond .lt 8, 3) := by decide +kernel
theorem dX6_sooner_12 : decode cX6_sooner 12 = .ok (.iload_n 2, 1) := by decide +kernel
theorem dX6_sooner_13 : decode cX6_sooner 13 = .ok (.iconst 1, 1) := by decide +kernel
theorem dX6_sooner_14 : decode cX6_sooner 14 = .ok (.if_icmp .le 5, 3) := by decide +kernel
theorem dX6_sooner_17 : decode cX6_sooner 17 = .ok (.iconst (-1), 1) := by decide +kernel
theorem dX6_sooner_18 : decode cX6_sooner 18 = .ok (.ireturn, 1) := by decide +kernel
theorem dX6_sooner_19 : decode cX6_sooner 19 = .ok (.iconst 0, 1) := by decide +kernel
theorem dX6_sooner_20 : decode cX6_sooner 20 = .ok (.istore_n 3, 1) := by decide +kernel
theorem dX6_sooner_21 : decode cX6_sooner 21 = .ok (.iconst 0, 1) := by decide +kernel
theorem dX6_sooner_22 : decode cX6_sooner 22 = .ok (.istore 4, 2) := by decide +kernel
theorem dX6_sooner_24 : decode cX6_sooner 24 = .ok (.iload 4, 2) := by decide +kernel
theorem dX6_sooner_26 : decode cX6_sooner 26 = .ok (.aload_n 0, 1) := by decide +kernel
theorem dX6_sooner_27 : decode cX6_sooner 27 = .ok (.getfield 10, 3) := by decide +kernel
theorem dX6_sooner_30 : decode cX6_sooner 30 = .ok (.getfield 96, 3) := by decide +kernel
theorem dX6_sooner_33 : decode cX6_sooner 33 = .ok (.getfield 103, 3) := by decide +kernel
theorem dX6_sooner_36 : decode cX6_sooner 36 = .ok (.if_icmp .ge 68, 3) := by decide +kernel
theorem dX6_sooner_39 : decode cX6_sooner 39 = .ok (.iconst 0, 1) := by decide +kernel
theorem dX6_sooner_40 : decode cX6_sooner 40 = .ok (.istore 5, 2) := by decide +kernel
theorem dX6_sooner_42 : decode cX6_sooner 42 = .ok (.iload 5, 2) := by decide +kernel
theorem dX6_sooner_44 : decode cX6_sooner 44 = .ok (.aload_n 0, 1) := by decide +kernel
theorem dX6_sooner_45 : decode cX6_sooner 45 = .ok (.getfield 10, 3) := by decide +kernel
theorem dX6_sooner_48 : decode cX6_sooner 48 = .ok (.getfield 96, 3) := by decide +kernel
theorem dX6_sooner_51 : decode cX6_sooner 51 = .ok (.getfield 103, 3) := by decide +kernel
theorem dX6_sooner_54 : decode cX6_sooner 54 = .ok (.if_icmp .ge 44, 3) := by decide +kernel
theorem dX6_sooner_57 : decode cX6_sooner 57 = .ok (.aload_n 0, 1) := by decide +kernel
theorem dX6_sooner_58 : decode cX6_sooner 58 = .ok (.getfield 10, 3) := by decide +kernel
theorem dX6_sooner_61 : decode cX6_sooner 61 = .ok (.iload_n 1, 1) := by decide +kernel
theorem dX6_sooner_62 : decode cX6_sooner 62 = .ok (.iload 4, 2) := by decide +kernel
theorem dX6_sooner_64 : decode cX6_sooner 64 = .ok (.iload 5, 2) := by decide +kernel
theorem dX6_sooner_66 : decode cX6_sooner 66 = .ok (.invokevirtual 296, 3) := by decide +kernel
theorem dX6_sooner_69 : decode cX6_sooner 69 = .ok (.ifCond .ne 6, 3) := by decide +kernel
theorem dX6_sooner_72 : decode cX6_sooner 72 = .ok (.goto 20, 3) := by decide +kernel
theorem dX6_sooner_75 : decode cX6_sooner 75 = .ok (.iload_n 2, 1) := by decide +kernel
theorem dX6_sooner_76 : decode cX6_sooner 76 = .ok (.iconst 1, 1) := by decide +kernel
theorem dX6_sooner_77 : decode cX6_sooner 77 = .ok (.if_icmp .ne 12, 3) := by decide +kernel
theorem dX6_sooner_80 : decode cX6_sooner 80 = .ok (.bipush 100, 2) := by decide +kernel
theorem dX6_sooner_82 : decode cX6_sooner 82 = .ok (.iload 4, 2) := by decide +kernel
theorem dX6_sooner_84 : decode cX6_sooner 84 = .ok (.imul, 1) := by decide +kernel
theorem dX6_sooner_85 : decode cX6_sooner 85 = .ok (.iload 5, 2) := by decide +kernel
theorem dX6_sooner_87 : decode cX6_sooner 87 = .ok (.iadd, 1) := by decide +kernel
theorem dX6_sooner_88 : decode cX6_sooner 88 = .ok (.ireturn, 1) := by decide +kernel
theorem dX6_sooner_89 : decode cX6_sooner 89 = .ok (.iinc 3 1, 3) := by decide +kernel
theorem dX6_sooner_92 : decode cX6_sooner 92 = .ok (.iinc 5 1, 3) := by decide +kernel
theorem dX6_sooner_95 : decode cX6_sooner 95 = .ok (.goto (-53), 3) := by decide +kernel
theorem dX6_sooner_98 : decode cX6_sooner 98 = .ok (.iinc 4 1, 3) := by decide +kernel
theorem dX6_sooner_101 : decode cX6_sooner 101 = .ok (.goto (-77), 3) := by decide +kernel
theorem dX6_sooner_104 : decode cX6_sooner 104 = .ok (.iload_n 2, 1) := by decide +kernel
theorem dX6_sooner_105 : decode cX6_sooner 105 = .ok (.iconst 1, 1) := by decide +kernel
theorem dX6_sooner_106 : decode cX6_sooner 106 = .ok (.if_icmp .ne 8, 3) := by decide +kernel
theorem dX6_sooner_109 : decode cX6_sooner 109 = .ok (.bipush (-4), 2) := by decide +kernel
theorem dX6_sooner_111 : decode cX6_sooner 111 = .ok (.goto 4, 3) := by decide +kernel
theorem dX6_sooner_114 : decode cX6_sooner 114 = .ok (.iload_n 3, 1) := by decide +kernel
theorem dX6_sooner_115 : decode cX6_sooner 115 = .ok (.ireturn, 1) := by decide +kernel
theorem dX6_hidden_0 : decode cX6_hidden 0 = .ok (.aload_n 0, 1) := by decide +kernel
theorem dX6_hidden_1 : decode cX6_hidden 1 = .ok (.iload_n 1, 1) := by decide +kernel
theorem dX6_hidden_2 : decode cX6_hidden 2 = .ok (.i2l, 1) := by decide +kernel
theorem dX6_hidden_3 : decode cX6_hidden 3 = .ok (.invokevirtual 224, 3) := by decide +kernel
theorem dX6_hidden_6 : decode cX6_hidden 6 = .ok (.ifCond .eq 11, 3) := by decide +kernel
theorem dX6_hidden_9 : decode cX6_hidden 9 = .ok (.aload_n 0, 1) := by decide +kernel
theorem dX6_hidden_10 : decode cX6_hidden 10 = .ok (.iload_n 2, 1) := by decide +kernel
theorem dX6_hidden_11 : decode cX6_hidden 11 = .ok (.invokevirtual 283, 3) := by decide +kernel
theorem dX6_hidden_14 : decode cX6_hidden 14 = .ok (.ifCond .ne 7, 3) := by decide +kernel
theorem dX6_hidden_17 : decode cX6_hidden 17 = .ok (.ldc2_w 299, 3) := by decide +kernel
theorem dX6_hidden_20 : decode cX6_hidden 20 = .ok (.lreturn, 1) := by decide +kernel
theorem dX6_hidden_21 : decode cX6_hidden 21 = .ok (.lconst 0, 1) := by decide +kernel
theorem dX6_hidden_22 : decode cX6_hidden 22 = .ok (.lstore_n 3, 1) := by decide +kernel
theorem dX6_hidden_23 : decode cX6_hidden 23 = .ok (.iconst 0, 1) := by decide +kernel
theorem dX6_hidden_24 : decode cX6_hidden 24 = .ok (.istore 5, 2) := by decide +kernel
theorem dX6_hidden_26 : decode cX6_hidden 26 = .ok (.iload 5, 2) := by decide +kernel
theorem dX6_hidden_28 : decode cX6_hidden 28 = .ok (.bipush 36, 2) := by decide +kernel
theorem dX6_hidden_30 : decode cX6_hidden 30 = .ok (.if_icmp .ge 38, 3) := by decide +kernel
theorem dX6_hidden_33 : decode cX6_hidden 33 = .ok (.aload_n 0, 1) := by decide +kernel
theorem dX6_hidden_34 : decode cX6_hidden 34 = .ok (.getfield 10, 3) := by decide +kernel
theorem dX6_hidden_37 : decode cX6_hidden 37 = .ok (.iload_n 1, 1) := by decide +kernel
theorem dX6_hidden_38 : decode cX6_hidden 38 = .ok (.iload 5, 2) := by decide +kernel
theorem dX6_hidden_40 : decode cX6_hidden 40 = .ok (.aload_n 0, 1) := by decide +kernel
theorem dX6_hidden_41 : decode cX6_hidden 41 = .ok (.getfield 10, 3) := by decide +kernel
theorem dX6_hidden_44 : decode cX6_hidden 44 = .ok (.getfield 116, 3) := by decide +kernel
theorem dX6_hidden_47 : decode cX6_hidden 47 = .ok (.invokevirtual 227, 3) := by decide +kernel
theorem dX6_hidden_50 : decode cX6_hidden 50 = .ok (.iload_n 2, 1) := by decide +kernel
theorem dX6_hidden_51 : decode cX6_hidden 51 = .ok (.iand, 1) := by decide +kernel
theorem dX6_hidden_52 : decode cX6_hidden 52 = .ok (.ifCond .ne 10, 3) := by decide +kernel
theorem dX6_hidden_55 : decode cX6_hidden 55 = .ok (.lload_n 3, 1) := by decide +kernel
theorem dX6_hidden_56 : decode cX6_hidden 56 = .ok (.lconst 1, 1) := by decide +kernel
theorem dX6_hidden_57 : decode cX6_hidden 57 = .ok (.iload 5, 2) := by decide +kernel
theorem dX6_hidden_59 : decode cX6_hidden 59 = .ok (.lshl, 1) := by decide +kernel
theorem dX6_hidden_60 : decode cX6_hidden 60 = .ok (.lor, 1) := by decide +kernel
theorem dX6_hidden_61 : decode cX6_hidden 61 = .ok (.lstore_n 3, 1) := by decide +kernel
theorem dX6_hidden_62 : decode cX6_hidden 62 = .ok (.iinc 5 1, 3) := by decide +kernel
theorem dX6_hidden_65 : decode cX6_hidden 65 = .ok (.goto (-39), 3) := by decide +kernel
theorem dX6_hidden_68 : decode cX6_hidden 68 = .ok (.lload_n 3, 1) := by decide +kernel
theorem dX6_hidden_69 : decode cX6_hidden 69 = .ok (.lreturn, 1) := by decide +kernel
theorem dX6_alone_0 : decode cX6_alone 0 = .ok (.aload_n 0, 1) := by decide +kernel
theorem dX6_alone_1 : decode cX6_alone 1 = .ok (.iload_n 1, 1) := by decide +kernel
theorem dX6_alone_2 : decode cX6_alone 2 = .ok (.i2l, 1) := by decide +kernel
theorem dX6_alone_3 : decode cX6_alone 3 = .ok (.invokevirtual 224, 3) := by decide +kernel
theorem dX6_alone_6 : decode cX6_alone 6 = .ok (.ifCond .eq 11, 3) := by decide +kernel
theorem dX6_alone_9 : decode cX6_alone 9 = .ok (.aload_n 0, 1) := by decide +kernel
theorem dX6_alone_10 : decode cX6_alone 10 = .ok (.iload_n 2, 1) := by decide +kernel
theorem dX6_alone_11 : decode cX6_alone 11 = .ok (.invokevirtual 125, 3) := by decide +kernel
theorem dX6_alone_14 : decode cX6_alone 14 = .ok (.ifCond .ne 5, 3) := by decide +kernel
theorem dX6_alone_17 : decode cX6_alone 17 = .ok (.iconst (-1), 1) := by decide +kernel
theorem dX6_alone_18 : decode cX6_alone 18 = .ok (.ireturn, 1) := by decide +kernel
theorem dX6_alone_19 : decode cX6_alone 19 = .ok (.iconst 0, 1) := by decide +kernel
theorem dX6_alone_20 : decode cX6_alone 20 = .ok (.istore_n 3, 1) := by decide +kernel
theorem dX6_alone_21 : decode cX6_alone 21 = .ok (.iload_n 3, 1) := by decide +kernel
theorem dX6_alone_22 : decode cX6_alone 22 = .ok (.bipush 36, 2) := by decide +kernel
theorem dX6_alone_24 : decode cX6_alone 24 = .ok (.if_icmp .ge 33, 3) := by decide +kernel
theorem dX6_alone_27 : decode cX6_alone 27 = .ok (.aload_n 0, 1) := by decide +kernel
theorem dX6_alone_28 : decode cX6_alone 28 = .ok (.getfield 10, 3) := by decide +kernel
theorem dX6_alone_31 : decode cX6_alone 31 = .ok (.iload_n 1, 1) := by decide +kernel
theorem dX6_alone_32 : decode cX6_alone 32 = .ok (.iload_n 3, 1) := by decide +kernel
theorem dX6_alone_33 : decode cX6_alone 33 = .ok (.aload_n 0, 1) := by decide +kernel
theorem dX6_alone_34 : decode cX6_alone 34 = .ok (.getfield 10, 3) := by decide +kernel
theorem dX6_alone_37 : decode cX6_alone 37 = .ok (.getfield 116, 3) := by decide +kernel
theorem dX6_alone_40 : decode cX6_alone 40 = .ok (.invokevirtual 227, 3) := by decide +kernel
theorem dX6_alone_43 : decode cX6_alone 43 = .ok (.iconst 1, 1) := by decide +kernel
theorem dX6_alone_44 : decode cX6_alone 44 = .ok (.iload_n 2, 1) := by decide +kernel
theorem dX6_alone_45 : decode cX6_alone 45 = .ok (.ishl, 1) := by decide +kernel
theorem dX6_alone_46 : decode cX6_alone 46 = .ok (.if_icmp .ne 5, 3) := by decide +kernel
theorem dX6_alone_49 : decode cX6_alone 49 = .ok (.iload_n 3, 1) := by decide +kernel
theorem dX6_alone_50 : decode cX6_alone 50 = .ok (.ireturn, 1) := by decide +kernel
theorem dX6_alone_51 : decode cX6_alone 51 = .ok (.iinc 3 1, 3) := by decide +kernel
theorem dX6_alone_54 : decode cX6_alone 54 = .ok (.goto (-33), 3) := by decide +kernel
theorem dX6_alone_57 : decode cX6_alone 57 = .ok (.bipush (-4), 2) := by decide +kernel
theorem dX6_alone_59 : decode cX6_alone 59 = .ok (.ireturn, 1) := by decide +kernel
theorem dX6_image_0 : decode cX6_image 0 = .ok (.aload_n 0, 1) := by decide +kernel
theorem dX6_image_1 : decode cX6_image 1 = .ok (.getfield 16, 3) := by decide +kernel
theorem dX6_image_4 : decode cX6_image 4 = .ok (.aload_n 0, 1) := by decide +kernel
theorem dX6_image_5 : decode cX6_image 5 = .ok (.getfield 10, 3) := by decide +kernel
theorem dX6_image_8 : decode cX6_image 8 = .ok (.invokevirtual 301, 3) := by decide +kernel
theorem dX6_image_11 : decode cX6_image 11 = .ok (.aload_n 0, 1) := by decide +kernel
theorem dX6_image_12 : decode cX6_image 12 = .ok (.iconst 1, 1) := by decide +kernel
theorem dX6_image_13 : decode cX6_image 13 = .ok (.putfield 19, 3) := by decide +kernel
theorem dX6_image_16 : decode cX6_image 16 = .ok (.iconst 1, 1) := by decide +kernel
theorem dX6_image_17 : decode cX6_image 17 = .ok (.ireturn, 1) := by decide +kernel
theorem dX6_restore_0 : decode cX6_restore 0 = .ok (.aload_n 0, 1) := by decide +kernel
theorem dX6_restore_1 : decode cX6_restore 1 = .ok (.getfield 19, 3) := by decide +kernel
theorem dX6_restore_4 : decode cX6_restore 4 = .ok (.ifCond .ne 6, 3) := by decide +kernel
theorem dX6_restore_7 : decode cX6_restore 7 = .ok (.bipush (-4), 2) := by decide +kernel
theorem dX6_restore_9 : decode cX6_restore 9 = .ok (.ireturn, 1) := by decide +kernel
theorem dX6_restore_10 : decode cX6_restore 10 = .ok (.aload_n 0, 1) := by decide +kernel
theorem dX6_restore_11 : decode cX6_restore 11 = .ok (.getfield 10, 3) := by decide +kernel
theorem dX6_restore_14 : decode cX6_restore 14 = .ok (.aload_n 0, 1) := by decide +kernel
theorem dX6_restore_15 : decode cX6_restore 15 = .ok (.getfield 16, 3) := by decide +kernel
theorem dX6_restore_18 : decode cX6_restore 18 = .ok (.invokevirtual 301, 3) := by decide +kernel
theorem dX6_restore_21 : decode cX6_restore 21 = .ok (.iconst 1, 1) := by decide +kernel
theorem dX6_restore_22 : decode cX6_restore 22 = .ok (.ireturn, 1) := by decide +kernel
theorem dX6_which_0 : decode cX6_which 0 = .ok (.aload_n 0, 1) := by decide +kernel
theorem dX6_which_1 : decode cX6_which 1 = .ok (.iload_n 1, 1) := by decide +kernel
theorem dX6_which_2 : decode cX6_which 2 = .ok (.invokevirtual 92, 3) := by decide +kernel
theorem dX6_which_5 : decode cX6_which 5 = .ok (.ifCond .ne 5, 3) := by decide +kernel
theorem dX6_which_8 : decode cX6_which 8 = .ok (.iconst (-1), 1) := by decide +kernel
theorem dX6_which_9 : decode cX6_which 9 = .ok (.ireturn, 1) := by decide +kernel
theorem dX6_which_10 : decode cX6_which 10 = .ok (.aload_n 0, 1) := by decide +kernel
theorem dX6_which_11 : decode cX6_which 11 = .ok (.iload_n 2, 1) := by decide +kernel
theorem dX6_which_12 : decode cX6_which 12 = .ok (.iload_n 3, 1) := by decide +kernel
theorem dX6_which_13 : decode cX6_which 13 = .ok (.iload 4, 2) := by decide +kernel
theorem dX6_which_15 : decode cX6_which 15 = .ok (.iload 5, 2) := by decide +kernel
theorem dX6_which_17 : decode cX6_which 17 = .ok (.invokevirtual 304, 3) := by decide +kernel
theorem dX6_which_20 : decode cX6_which 20 = .ok (.istore 6, 2) := by decide +kernel
theorem dX6_which_22 : decode cX6_which 22 = .ok (.iload 6, 2) := by decide +kernel
theorem dX6_which_24 : decode cX6_which 24 = .ok (.ifCond .eq 6, 3) := by decide +kernel
theorem dX6_which_27 : decode cX6_which 27 = .ok (.iload 6, 2) := by decide +kernel
theorem dX6_which_29 : decode cX6_which 29 = .ok (.ireturn, 1) := by decide +kernel
theorem dX6_which_30 : decode cX6_which 30 = .ok (.aload_n 0, 1) := by decide +kernel
theorem dX6_which_31 : decode cX6_which 31 = .ok (.getfield 51, 3) := by decide +kernel
theorem dX6_which_34 : decode cX6_which 34 = .ok (.iload_n 2, 1) := by decide +kernel
theorem dX6_which_35 : decode cX6_which 35 = .ok (.aaload, 1) := by decide +kernel
theorem dX6_which_36 : decode cX6_which 36 = .ok (.getfield 308, 3) := by decide +kernel
theorem dX6_which_39 : decode cX6_which 39 = .ok (.astore 7, 2) := by decide +kernel
theorem dX6_which_41 : decode cX6_which 41 = .ok (.aload_n 0, 1) := by decide +kernel
theorem dX6_which_42 : decode cX6_which 42 = .ok (.getfield 55, 3) := by decide +kernel
theorem dX6_which_45 : decode cX6_which 45 = .ok (.iconst 0, 1) := by decide +kernel
theorem dX6_which_46 : decode cX6_which 46 = .ok (.invokestatic 312, 3) := by decide +kernel
theorem dX6_which_49 : decode cX6_which 49 = .ok (.iconst 0, 1) := by decide +kernel
theorem dX6_which_50 : decode cX6_which 50 = .ok (.istore 8, 2) := by decide +kernel
theorem dX6_which_52 : decode cX6_which 52 = .ok (.iload 8, 2) := by decide +kernel
theorem dX6_which_54 : decode cX6_which 54 = .ok (.iload 5, 2) := by decide +kernel
theorem dX6_which_56 : decode cX6_which 56 = .ok (.if_icmp .ge 65, 3) := by decide +kernel
theorem dX6_which_59 : decode cX6_which 59 = .ok (.iload 4, 2) := by decide +kernel
theorem dX6_which_61 : decode cX6_which 61 = .ok (.iconst 3, 1) := by decide +kernel
theorem dX6_which_62 : decode cX6_which 62 = .ok (.iload 8, 2) := by decide +kernel
theorem dX6_which_64 : decode cX6_which 64 = .ok (.imul, 1) := by decide +kernel
theorem dX6_which_65 : decode cX6_which 65 = .ok (.iadd, 1) := by decide +kernel
theorem dX6_which_66 : decode cX6_which 66 = .ok (.istore 9, 2) := by decide +kernel
theorem dX6_which_68 : decode cX6_which 68 = .ok (.aload_n 0, 1) := by decide +kernel
theorem dX6_which_69 : decode cX6_which 69 = .ok (.getfield 10, 3) := by decide +kernel
theorem dX6_which_72 : decode cX6_which 72 = .ok (.aload 7, 2) := by decide +kernel
theorem dX6_which_74 : decode cX6_which 74 = .ok (.iload 9, 2) := by decide +kernel
theorem dX6_which_76 : decode cX6_which 76 = .ok (.laload, 1) := by decide +kernel
theorem dX6_which_77 : decode cX6_which 77 = .ok (.l2i, 1) := by decide +kernel
theorem dX6_which_78 : decode cX6_which 78 = .ok (.aload 7, 2) := by decide +kernel
theorem dX6_which_80 : decode cX6_which 80 = .ok (.iload 9, 2) := by decide +kernel
theorem dX6_which_82 : decode cX6_which 82 = .ok (.iconst 1, 1) := by decide +kernel
theorem dX6_which_83 : decode cX6_which 83 = .ok (.iadd, 1) := by decide +kernel
theorem dX6_which_84 : decode cX6_which 84 = .ok (.laload, 1) := by decide +kernel
theorem dX6_which_85 : decode cX6_which 85 = .ok (.l2i, 1) := by decide +kernel
theorem dX6_which_86 : decode cX6_which 86 = .ok (.aload_n 0, 1) := by decide +kernel
theorem dX6_which_87 : decode cX6_which 87 = .ok (.getfield 10, 3) := by decide +kernel
theorem dX6_which_90 : decode cX6_which 90 = .ok (.getfield 116, 3) := by decide +kernel
theorem dX6_which_93 : decode cX6_which 93 = .ok (.invokevirtual 227, 3) := by decide +kernel
theorem dX6_which_96 : decode cX6_which 96 = .ok (.istore 10, 2) := by decide +kernel
theorem dX6_which_98 : decode cX6_which 98 = .ok (.iload 10, 2) := by decide +kernel
theorem dX6_which_100 : decode cX6_which 100 = .ok (.aload 7, 2) := by decide +kernel
theorem dX6_which_102 : decode cX6_which 102 = .ok (.iload 9, 2) := by decide +kernel
theorem dX6_which_104 : decode cX6_which 104 = .ok (.iconst 2, 1) := by decide +kernel
theorem dX6_which_105 : decode cX6_which 105 = .ok (.iadd, 1) := by decide +kernel
theorem dX6_which_106 : decode cX6_which 106 = .ok (.laload, 1) := by decide +kernel
theorem dX6_which_107 : decode cX6_which 107 = .ok (.l2i, 1) := by decide +kernel
theorem dX6_which_108 : decode cX6_which 108 = .ok (.aload_n 0, 1) := by decide +kernel
theorem dX6_which_109 : decode cX6_which 109 = .ok (.getfield 55, 3) := by decide +kernel
theorem dX6_which_112 : decode cX6_which 112 = .ok (.invokestatic 318, 3) := by decide +kernel
theorem dX6_which_115 : decode cX6_which 115 = .ok (.iinc 8 1, 3) := by decide +kernel
theorem dX6_which_118 : decode cX6_which 118 = .ok (.goto (-66), 3) := by decide +kernel
theorem dX6_which_121 : decode cX6_which 121 = .ok (.iconst 0, 1) := by decide +kernel
theorem dX6_which_122 : decode cX6_which 122 = .ok (.istore 8, 2) := by decide +kernel
theorem dX6_which_124 : decode cX6_which 124 = .ok (.iconst 0, 1) := by decide +kernel
theorem dX6_which_125 : decode cX6_which 125 = .ok (.istore 9, 2) := by decide +kernel
theorem dX6_which_127 : decode cX6_which 127 = .ok (.iload 9, 2) := by decide +kernel
theorem dX6_which_129 : decode cX6_which 129 = .ok (.aload_n 0, 1) := by decide +kernel
theorem dX6_which_130 : decode cX6_which 130 = .ok (.getfield 10, 3) := by decide +kernel
theorem dX6_which_133 : decode cX6_which 133 = .ok (.getfield 72, 3) := by decide +kernel
theorem dX6_which_136 : decode cX6_which 136 = .ok (.getfield 75, 3) := by decide +kernel
theorem dX6_which_139 : decode cX6_which 139 = .ok (.if_icmp .ge 29, 3) := by decide +kernel
theorem dX6_which_142 : decode cX6_which 142 = .ok (.aload_n 0, 1) := by decide +kernel
theorem dX6_which_143 : decode cX6_which 143 = .ok (.getfield 55, 3) := by decide +kernel
theorem dX6_which_146 : decode cX6_which 146 = .ok (.iload 9, 2) := by decide +kernel
theorem dX6_which_148 : decode cX6_which 148 = .ok (.iaload, 1) := by decide +kernel
theorem dX6_which_149 : decode cX6_which 149 = .ok (.iload_n 1, 1) := by decide +kernel
theorem dX6_which_150 : decode cX6_which 150 = .ok (.if_icmp .ne 12, 3) := by decide +kernel
theorem dX6_which_153 : decode cX6_which 153 = .ok (.iload 8, 2) := by decide +kernel
theorem dX6_which_155 : decode cX6_which 155 = .ok (.iconst 1, 1) := by decide +kernel
theorem dX6_which_156 : decode cX6_which 156 = .ok (.iload 9, 2) := by decide +kernel
theorem dX6_which_158 : decode cX6_which 158 = .ok (.ishl, 1) := by decide +kernel
theorem dX6_which_159 : decode cX6_which 159 = .ok (.ior, 1) := by decide +kernel
theorem dX6_which_160 : decode cX6_which 160 = .ok (.istore 8, 2) := by decide +kernel
theorem dX6_which_162 : decode cX6_which 162 = .ok (.iinc 9 1, 3) := by decide +kernel
theorem dX6_which_165 : decode cX6_which 165 = .ok (.goto (-38), 3) := by decide +kernel
theorem dX6_which_168 : decode cX6_which 168 = .ok (.iload 8, 2) := by decide +kernel
theorem dX6_which_170 : decode cX6_which 170 = .ok (.ireturn, 1) := by decide +kernel
theorem dX6_judged_0 : decode cX6_judged 0 = .ok (.aload_n 0, 1) := by decide +kernel
theorem dX6_judged_1 : decode cX6_judged 1 = .ok (.iload_n 1, 1) := by decide +kernel
theorem dX6_judged_2 : decode cX6_judged 2 = .ok (.iload_n 2, 1) := by decide +kernel
theorem dX6_judged_3 : decode cX6_judged 3 = .ok (.iload_n 3, 1) := by decide +kernel
theorem dX6_judged_4 : decode cX6_judged 4 = .ok (.iload 4, 2) := by decide +kernel
theorem dX6_judged_6 : decode cX6_judged 6 = .ok (.invokevirtual 304, 3) := by decide +kernel
theorem dX6_judged_9 : decode cX6_judged 9 = .ok (.istore 5, 2) := by decide +kernel
theorem dX6_judged_11 : decode cX6_judged 11 = .ok (.iload 5, 2) := by decide +kernel
theorem dX6_judged_13 : decode cX6_judged 13 = .ok (.ifCond .eq 6, 3) := by decide +kernel
theorem dX6_judged_16 : decode cX6_judged 16 = .ok (.iload 5, 2) := by decide +kernel
theorem dX6_judged_18 : decode cX6_judged 18 = .ok (.ireturn, 1) := by decide +kernel
theorem dX6_judged_19 : decode cX6_judged 19 = .ok (.aload_n 0, 1) := by decide +kernel
theorem dX6_judged_20 : decode cX6_judged 20 = .ok (.getfield 51, 3) := by decide +kernel
theorem dX6_judged_23 : decode cX6_judged 23 = .ok (.iload_n 1, 1) := by decide +kernel
theorem dX6_judged_24 : decode cX6_judged 24 = .ok (.aaload, 1) := by decide +kernel
theorem dX6_judged_25 : decode cX6_judged 25 = .ok (.getfield 308, 3) := by decide +kernel
theorem dX6_judged_28 : decode cX6_judged 28 = .ok (.astore 6, 2) := by decide +kernel
theorem dX6_judged_30 : decode cX6_judged 30 = .ok (.aload_n 0, 1) := by decide +kernel
theorem dX6_judged_31 : decode cX6_judged 31 = .ok (.getfield 10, 3) := by decide +kernel
theorem dX6_judged_34 : decode cX6_judged 34 = .ok (.getfield 72, 3) := by decide +kernel
theorem dX6_judged_37 : decode cX6_judged 37 = .ok (.getfield 137, 3) := by decide +kernel
theorem dX6_judged_40 : decode cX6_judged 40 = .ok (.iconst 0, 1) := by decide +kernel
theorem dX6_judged_41 : decode cX6_judged 41 = .ok (.aload_n 0, 1) := by decide +kernel
theorem dX6_judged_42 : decode cX6_judged 42 = .ok (.getfield 55, 3) := by decide +kernel
theorem dX6_judged_45 : decode cX6_judged 45 = .ok (.iconst 0, 1) := by decide +kernel
theorem dX6_judged_46 : decode cX6_judged 46 = .ok (.bipush 10, 2) := by decide +kernel
theorem dX6_judged_48 : decode cX6_judged 48 = .ok (.invokestatic 322, 3) := by decide +kernel
theorem dX6_judged_51 : decode cX6_judged 51 = .ok (.iconst 0, 1) := by decide +kernel
theorem dX6_judged_52 : decode cX6_judged 52 = .ok (.istore 7, 2) := by decide +kernel
theorem dX6_judged_54 : decode cX6_judged 54 = .ok (.iload 7, 2) := by decide +kernel
theorem dX6_judged_56 : decode cX6_judged 56 = .ok (.iload 4, 2) := by decide +kernel
theorem dX6_judged_58 : decode cX6_judged 58 = .ok (.if_icmp .ge 89, 3) := by decide +kernel
theorem dX6_judged_61 : decode cX6_judged 61 = .ok (.iload_n 3, 1) := by decide +kernel
theorem dX6_judged_62 : decode cX6_judged 62 = .ok (.iconst 3, 1) := by decide +kernel
theorem dX6_judged_63 : decode cX6_judged 63 = .ok (.iload 7, 2) := by decide +kernel
theorem dX6_judged_65 : decode cX6_judged 65 = .ok (.imul, 1) := by decide +kernel
theorem dX6_judged_66 : decode cX6_judged 66 = .ok (.iadd, 1) := by decide +kernel
theorem dX6_judged_67 : decode cX6_judged 67 = .ok (.istore 8, 2) := by decide +kernel
theorem dX6_judged_69 : decode cX6_judged 69 = .ok (.aload 6, 2) := by decide +kernel
theorem dX6_judged_71 : decode cX6_judged 71 = .ok (.iload 8, 2) := by decide +kernel
theorem dX6_judged_73 : decode cX6_judged 73 = .ok (.iconst 2, 1) := by decide +kernel
theorem dX6_judged_74 : decode cX6_judged 74 = .ok (.iadd, 1) := by decide +kernel
theorem dX6_judged_75 : decode cX6_judged 75 = .ok (.laload, 1) := by decide +kernel
theorem dX6_judged_76 : decode cX6_judged 76 = .ok (.l2i, 1) := by decide +kernel
theorem dX6_judged_77 : decode cX6_judged 77 = .ok (.istore 9, 2) := by decide +kernel
theorem dX6_judged_79 : decode cX6_judged 79 = .ok (.aload_n 0, 1) := by decide +kernel
theorem dX6_judged_80 : decode cX6_judged 80 = .ok (.getfield 10, 3) := by decide +kernel
theorem dX6_judged_83 : decode cX6_judged 83 = .ok (.aload 6, 2) := by decide +kernel
theorem dX6_judged_85 : decode cX6_judged 85 = .ok (.iload 8, 2) := by decide +kernel
theorem dX6_judged_87 : decode cX6_judged 87 = .ok (.laload, 1) := by decide +kernel
theorem dX6_judged_88 : decode cX6_judged 88 = .ok (.l2i, 1) := by decide +kernel
theorem dX6_judged_89 : decode cX6_judged 89 = .ok (.aload 6, 2) := by decide +kernel
theorem dX6_judged_91 : decode cX6_judged 91 = .ok (.iload 8, 2) := by decide +kernel
theorem dX6_judged_93 : decode cX6_judged 93 = .ok (.iconst 1, 1) := by decide +kernel
theorem dX6_judged_94 : decode cX6_judged 94 = .ok (.iadd, 1) := by decide +kernel
theorem dX6_judged_95 : decode cX6_judged 95 = .ok (.laload, 1) := by decide +kernel
theorem dX6_judged_96 : decode cX6_judged 96 = .ok (.l2i, 1) := by decide +kernel
theorem dX6_judged_97 : decode cX6_judged 97 = .ok (.aload_n 0, 1) := by decide +kernel
theorem dX6_judged_98 : decode cX6_judged 98 = .ok (.getfield 10, 3) := by decide +kernel
theorem dX6_judged_101 : decode cX6_judged 101 = .ok (.getfield 116, 3) := by decide +kernel
theorem dX6_judged_104 : decode cX6_judged 104 = .ok (.invokevirtual 227, 3) := by decide +kernel
theorem dX6_judged_107 : decode cX6_judged 107 = .ok (.istore 10, 2) := by decide +kernel
theorem dX6_judged_109 : decode cX6_judged 109 = .ok (.aload_n 0, 1) := by decide +kernel
theorem dX6_judged_110 : decode cX6_judged 110 = .ok (.getfield 10, 3) := by decide +kernel
theorem dX6_judged_113 : decode cX6_judged 113 = .ok (.iload 10, 2) := by decide +kernel
theorem dX6_judged_115 : decode cX6_judged 115 = .ok (.iload 9, 2) := by decide +kernel
theorem dX6_judged_117 : decode cX6_judged 117 = .ok (.aload_n 0, 1) := by decide +kernel
theorem dX6_judged_118 : decode cX6_judged 118 = .ok (.getfield 55, 3) := by decide +kernel
theorem dX6_judged_121 : decode cX6_judged 121 = .ok (.invokevirtual 235, 3) := by decide +kernel
theorem dX6_judged_124 : decode cX6_judged 124 = .ok (.ifCond .eq 6, 3) := by decide +kernel
theorem dX6_judged_127 : decode cX6_judged 127 = .ok (.iload 7, 2) := by decide +kernel
theorem dX6_judged_129 : decode cX6_judged 129 = .ok (.ireturn, 1) := by decide +kernel
theorem dX6_judged_130 : decode cX6_judged 130 = .ok (.iload 10, 2) := by decide +kernel
theorem dX6_judged_132 : decode cX6_judged 132 = .ok (.iload 9, 2) := by decide +kernel
theorem dX6_judged_134 : decode cX6_judged 134 = .ok (.aload_n 0, 1) := by decide +kernel
theorem dX6_judged_135 : decode cX6_judged 135 = .ok (.getfield 55, 3) := by decide +kernel
theorem dX6_judged_138 : decode cX6_judged 138 = .ok (.invokestatic 318, 3) := by decide +kernel
theorem dX6_judged_141 : decode cX6_judged 141 = .ok (.iinc 7 1, 3) := by decide +kernel
theorem dX6_judged_144 : decode cX6_judged 144 = .ok (.goto (-90), 3) := by decide +kernel
theorem dX6_judged_147 : decode cX6_judged 147 = .ok (.bipush (-4), 2) := by decide +kernel
theorem dX6_judged_149 : decode cX6_judged 149 = .ok (.ireturn, 1) := by decide +kernel
theorem dX6_film_0 : decode cX6_film 0 = .ok (.aload_n 0, 1) := by decide +kernel
theorem dX6_film_1 : decode cX6_film 1 = .ok (.iload_n 1, 1) := by decide +kernel
theorem dX6_film_2 : decode cX6_film 2 = .ok (.iload_n 2, 1) := by decide +kernel
theorem dX6_film_3 : decode cX6_film 3 = .ok (.iload_n 3, 1) := by decide +kernel
theorem dX6_film_4 : decode cX6_film 4 = .ok (.aload_n 0, 1) := by decide +kernel
theorem dX6_film_5 : decode cX6_film 5 = .ok (.getfield 10, 3) := by decide +kernel
theorem dX6_film_8 : decode cX6_film 8 = .ok (.getfield 72, 3) := by decide +kernel
theorem dX6_film_11 : decode cX6_film 11 = .ok (.getfield 75, 3) := by decide +kernel
theorem dX6_film_14 : decode cX6_film 14 = .ok (.invokevirtual 328, 3) := by decide +kernel
theorem dX6_film_17 : decode cX6_film 17 = .ok (.istore 4, 2) := by decide +kernel
theorem dX6_film_19 : decode cX6_film 19 = .ok (.iload 4, 2) := by decide +kernel
theorem dX6_film_21 : decode cX6_film 21 = .ok (.ifCond .eq 6, 3) := by decide +kernel
theorem dX6_film_24 : decode cX6_film 24 = .ok (.iload 4, 2) := by decide +kernel
theorem dX6_film_26 : decode cX6_film 26 = .ok (.ireturn, 1) := by decide +kernel
theorem dX6_film_27 : decode cX6_film 27 = .ok (.iconst 0, 1) := by decide +kernel
theorem dX6_film_28 : decode cX6_film 28 = .ok (.istore 5, 2) := by decide +kernel
theorem dX6_film_30 : decode cX6_film 30 = .ok (.iload 5, 2) := by decide +kernel
theorem dX6_film_32 : decode cX6_film 32 = .ok (.aload_n 0, 1) := by decide +kernel
theorem dX6_film_33 : decode cX6_film 33 = .ok (.getfield 10, 3) := by decide +kernel
theorem dX6_film_36 : decode cX6_film 36 = .ok (.getfield 72, 3) := by decide +kernel
theorem dX6_film_39 : decode cX6_film 39 = .ok (.getfield 75, 3) := by decide +kernel
theorem dX6_film_42 : decode cX6_film 42 = .ok (.if_icmp .ge 32, 3) := by decide +kernel
theorem dX6_film_45 : decode cX6_film 45 = .ok (.aload_n 0, 1) := by decide +kernel
theorem dX6_film_46 : decode cX6_film 46 = .ok (.getfield 51, 3) := by decide +kernel
theorem dX6_film_49 : decode cX6_film 49 = .ok (.iload_n 1, 1) := by decide +kernel
theorem dX6_film_50 : decode cX6_film 50 = .ok (.aaload, 1) := by decide +kernel
theorem dX6_film_51 : decode cX6_film 51 = .ok (.iload_n 3, 1) := by decide +kernel
theorem dX6_film_52 : decode cX6_film 52 = .ok (.iload 5, 2) := by decide +kernel
theorem dX6_film_54 : decode cX6_film 54 = .ok (.iadd, 1) := by decide +kernel
theorem dX6_film_55 : decode cX6_film 55 = .ok (.aload_n 0, 1) := by decide +kernel
theorem dX6_film_56 : decode cX6_film 56 = .ok (.getfield 10, 3) := by decide +kernel
theorem dX6_film_59 : decode cX6_film 59 = .ok (.iload 5, 2) := by decide +kernel
theorem dX6_film_61 : decode cX6_film 61 = .ok (.invokevirtual 144, 3) := by decide +kernel
theorem dX6_film_64 : decode cX6_film 64 = .ok (.i2l, 1) := by decide +kernel
theorem dX6_film_65 : decode cX6_film 65 = .ok (.invokevirtual 331, 3) := by decide +kernel
theorem dX6_film_68 : decode cX6_film 68 = .ok (.iinc 5 1, 3) := by decide +kernel
theorem dX6_film_71 : decode cX6_film 71 = .ok (.goto (-41), 3) := by decide +kernel
theorem dX6_film_74 : decode cX6_film 74 = .ok (.aload_n 0, 1) := by decide +kernel
theorem dX6_film_75 : decode cX6_film 75 = .ok (.getfield 10, 3) := by decide +kernel
theorem dX6_film_78 : decode cX6_film 78 = .ok (.getfield 72, 3) := by decide +kernel
theorem dX6_film_81 : decode cX6_film 81 = .ok (.getfield 75, 3) := by decide +kernel
theorem dX6_film_84 : decode cX6_film 84 = .ok (.ireturn, 1) := by decide +kernel
theorem dX6_sheet_0 : decode cX6_sheet 0 = .ok (.iload_n 1, 1) := by decide +kernel
theorem dX6_sheet_1 : decode cX6_sheet 1 = .ok (.invokestatic 335, 3) := by decide +kernel
theorem dX6_sheet_4 : decode cX6_sheet 4 = .ok (.ifCond .eq 16, 3) := by decide +kernel
theorem dX6_sheet_7 : decode cX6_sheet 7 = .ok (.iload_n 2, 1) := by decide +kernel
theorem dX6_sheet_8 : decode cX6_sheet 8 = .ok (.invokestatic 338, 3) := by decide +kernel
theorem dX6_sheet_11 : decode cX6_sheet 11 = .ok (.ifCond .eq 9, 3) := by decide +kernel
theorem dX6_sheet_14 : decode cX6_sheet 14 = .ok (.iload_n 3, 1) := by decide +kernel
theorem dX6_sheet_15 : decode cX6_sheet 15 = .ok (.bipush 36, 2) := by decide +kernel
theorem dX6_sheet_17 : decode cX6_sheet 17 = .ok (.if_icmp .le 5, 3) := by decide +kernel
theorem dX6_sheet_20 : decode cX6_sheet 20 = .ok (.iconst (-1), 1) := by decide +kernel
theorem dX6_sheet_21 : decode cX6_sheet 21 = .ok (.ireturn, 1) := by decide +kernel
theorem dX6_sheet_22 : decode cX6_sheet 22 = .ok (.iload_n 3, 1) := by decide +kernel
theorem dX6_sheet_23 : decode cX6_sheet 23 = .ok (.ifCond .ge 6, 3) := by decide +kernel
theorem dX6_sheet_26 : decode cX6_sheet 26 = .ok (.bipush (-14), 2) := by decide +kernel
theorem dX6_sheet_28 : decode cX6_sheet 28 = .ok (.ireturn, 1) := by decide +kernel
theorem dX6_sheet_29 : decode cX6_sheet 29 = .ok (.aload_n 0, 1) := by decide +kernel
theorem dX6_sheet_30 : decode cX6_sheet 30 = .ok (.getfield 51, 3) := by decide +kernel
theorem dX6_sheet_33 : decode cX6_sheet 33 = .ok (.iload_n 1, 1) := by decide +kernel
theorem dX6_sheet_34 : decode cX6_sheet 34 = .ok (.aaload, 1) := by decide +kernel
theorem dX6_sheet_35 : decode cX6_sheet 35 = .ok (.iload_n 2, 1) := by decide +kernel
theorem dX6_sheet_36 : decode cX6_sheet 36 = .ok (.iload_n 3, 1) := by decide +kernel
theorem dX6_sheet_37 : decode cX6_sheet 37 = .ok (.invokevirtual 341, 3) := by decide +kernel
theorem dX6_sheet_40 : decode cX6_sheet 40 = .ok (.iload_n 3, 1) := by decide +kernel
theorem dX6_sheet_41 : decode cX6_sheet 41 = .ok (.ireturn, 1) := by decide +kernel
theorem dX6_drop_0 : decode cX6_drop 0 = .ok (.iload_n 1, 1) := by decide +kernel
theorem dX6_drop_1 : decode cX6_drop 1 = .ok (.invokestatic 335, 3) := by decide +kernel
theorem dX6_drop_4 : decode cX6_drop 4 = .ok (.ifCond .ne 5, 3) := by decide +kernel
theorem dX6_drop_7 : decode cX6_drop 7 = .ok (.iconst (-1), 1) := by decide +kernel
theorem dX6_drop_8 : decode cX6_drop 8 = .ok (.ireturn, 1) := by decide +kernel
theorem dX6_drop_9 : decode cX6_drop 9 = .ok (.aload_n 0, 1) := by decide +kernel
theorem dX6_drop_10 : decode cX6_drop 10 = .ok (.getfield 51, 3) := by decide +kernel
theorem dX6_drop_13 : decode cX6_drop 13 = .ok (.iload_n 1, 1) := by decide +kernel
theorem dX6_drop_14 : decode cX6_drop 14 = .ok (.aaload, 1) := by decide +kernel
theorem dX6_drop_15 : decode cX6_drop 15 = .ok (.getfield 344, 3) := by decide +kernel
theorem dX6_drop_18 : decode cX6_drop 18 = .ok (.ifCond .ne 6, 3) := by decide +kernel
theorem dX6_drop_21 : decode cX6_drop 21 = .ok (.bipush (-11), 2) := by decide +kernel
theorem dX6_drop_23 : decode cX6_drop 23 = .ok (.ireturn, 1) := by decide +kernel
theorem dX6_drop_24 : decode cX6_drop 24 = .ok (.aload_n 0, 1) := by decide +kernel
theorem dX6_drop_25 : decode cX6_drop 25 = .ok (.getfield 51, 3) := by decide +kernel
theorem dX6_drop_28 : decode cX6_drop 28 = .ok (.iload_n 1, 1) := by decide +kernel
theorem dX6_drop_29 : decode cX6_drop 29 = .ok (.aaload, 1) := by decide +kernel
theorem dX6_drop_30 : decode cX6_drop 30 = .ok (.iconst 0, 1) := by decide +kernel
theorem dX6_drop_31 : decode cX6_drop 31 = .ok (.putfield 344, 3) := by decide +kernel
theorem dX6_drop_34 : decode cX6_drop 34 = .ok (.aload_n 0, 1) := by decide +kernel
theorem dX6_drop_35 : decode cX6_drop 35 = .ok (.getfield 51, 3) := by decide +kernel
theorem dX6_drop_38 : decode cX6_drop 38 = .ok (.iload_n 1, 1) := by decide +kernel
theorem dX6_drop_39 : decode cX6_drop 39 = .ok (.aaload, 1) := by decide +kernel
theorem dX6_drop_40 : decode cX6_drop 40 = .ok (.getfield 347, 3) := by decide +kernel
theorem dX6_drop_43 : decode cX6_drop 43 = .ok (.ireturn, 1) := by decide +kernel
theorem dX6_item_0 : decode cX6_item 0 = .ok (.aload_n 0, 1) := by decide +kernel
theorem dX6_item_1 : decode cX6_item 1 = .ok (.iload_n 1, 1) := by decide +kernel
theorem dX6_item_2 : decode cX6_item 2 = .ok (.iload_n 2, 1) := by decide +kernel
theorem dX6_item_3 : decode cX6_item 3 = .ok (.iload_n 3, 1) := by decide +kernel
theorem dX6_item_4 : decode cX6_item 4 = .ok (.iconst 1, 1) := by decide +kernel
theorem dX6_item_5 : decode cX6_item 5 = .ok (.invokevirtual 328, 3) := by decide +kernel
theorem dX6_item_8 : decode cX6_item 8 = .ok (.istore 6, 2) := by decide +kernel
theorem dX6_item_10 : decode cX6_item 10 = .ok (.iload 6, 2) := by decide +kernel
theorem dX6_item_12 : decode cX6_item 12 = .ok (.ifCond .eq 6, 3) := by decide +kernel
theorem dX6_item_15 : decode cX6_item 15 = .ok (.iload 6, 2) := by decide +kernel
theorem dX6_item_17 : decode cX6_item 17 = .ok (.ireturn, 1) := by decide +kernel
theorem dX6_item_18 : decode cX6_item 18 = .ok (.aload_n 0, 1) := by decide +kernel
theorem dX6_item_19 : decode cX6_item 19 = .ok (.getfield 51, 3) := by decide +kernel
theorem dX6_item_22 : decode cX6_item 22 = .ok (.iload_n 1, 1) := by decide +kernel
theorem dX6_item_23 : decode cX6_item 23 = .ok (.aaload, 1) := by decide +kernel
theorem dX6_item_24 : decode cX6_item 24 = .ok (.iload_n 3, 1) := by decide +kernel
theorem dX6_item_25 : decode cX6_item 25 = .ok (.lload 4, 2) := by decide +kernel
theorem dX6_item_27 : decode cX6_item 27 = .ok (.invokevirtual 331, 3) := by decide +kernel
theorem dX6_item_30 : decode cX6_item 30 = .ok (.iconst 1, 1) := by decide +kernel
theorem dX6_item_31 : decode cX6_item 31 = .ok (.ireturn, 1) := by decide +kernel
theorem dX6_copy_0 : decode cX6_copy 0 = .ok (.iload_n 1, 1) := by decide +kernel
theorem dX6_copy_1 : decode cX6_copy 1 = .ok (.invokestatic 335, 3) := by decide +kernel
theorem dX6_copy_4 : decode cX6_copy 4 = .ok (.ifCond .eq 10, 3) := by decide +kernel
theorem dX6_copy_7 : decode cX6_copy 7 = .ok (.iload_n 3, 1) := by decide +kernel
theorem dX6_copy_8 : decode cX6_copy 8 = .ok (.invokestatic 335, 3) := by decide +kernel
theorem dX6_copy_11 : decode cX6_copy 11 = .ok (.ifCond .ne 5, 3) := by decide +kernel
theorem dX6_copy_14 : decode cX6_copy 14 = .ok (.iconst (-1), 1) := by decide +kernel
theorem dX6_copy_15 : decode cX6_copy 15 = .ok (.ireturn, 1) := by decide +kernel
theorem dX6_copy_16 : decode cX6_copy 16 = .ok (.aload_n 0, 1) := by decide +kernel
theorem dX6_copy_17 : decode cX6_copy 17 = .ok (.getfield 51, 3) := by decide +kernel
theorem dX6_copy_20 : decode cX6_copy 20 = .ok (.iload_n 1, 1) := by decide +kernel
theorem dX6_copy_21 : decode cX6_copy 21 = .ok (.aaload, 1) := by decide +kernel
theorem dX6_copy_22 : decode cX6_copy 22 = .ok (.astore 6, 2) := by decide +kernel
theorem dX6_copy_24 : decode cX6_copy 24 = .ok (.aload_n 0, 1) := by decide +kernel
theorem dX6_copy_25 : decode cX6_copy 25 = .ok (.getfield 51, 3) := by decide +kernel
theorem dX6_copy_28 : decode cX6_copy 28 = .ok (.iload_n 3, 1) := by decide +kernel
theorem dX6_copy_29 : decode cX6_copy 29 = .ok (.aaload, 1) := by decide +kernel
theorem dX6_copy_30 : decode cX6_copy 30 = .ok (.astore 7, 2) := by decide +kernel
theorem dX6_copy_32 : decode cX6_copy 32 = .ok (.aload 6, 2) := by decide +kernel
theorem dX6_copy_34 : decode cX6_copy 34 = .ok (.getfield 344, 3) := by decide +kernel
theorem dX6_copy_37 : decode cX6_copy 37 = .ok (.ifCond .eq 11, 3) := by decide +kernel
theorem dX6_copy_40 : decode cX6_copy 40 = .ok (.aload 7, 2) := by decide +kernel
theorem dX6_copy_42 : decode cX6_copy 42 = .ok (.getfield 344, 3) := by decide +kernel
theorem dX6_copy_45 : decode cX6_copy 45 = .ok (.ifCond .ne 6, 3) := by decide +kernel
theorem dX6_copy_48 : decode cX6_copy 48 = .ok (.bipush (-11), 2) := by decide +kernel
theorem dX6_copy_50 : decode cX6_copy 50 = .ok (.ireturn, 1) := by decide +kernel
theorem dX6_copy_51 : decode cX6_copy 51 = .ok (.aload 6, 2) := by decide +kernel
theorem dX6_copy_53 : decode cX6_copy 53 = .ok (.getfield 348, 3) := by decide +kernel
theorem dX6_copy_56 : decode cX6_copy 56 = .ok (.aload 7, 2) := by decide +kernel
theorem dX6_copy_58 : decode cX6_copy 58 = .ok (.getfield 348, 3) := by decide +kernel
theorem dX6_copy_61 : decode cX6_copy 61 = .ok (.if_icmp .eq 6, 3) := by decide +kernel
theorem dX6_copy_64 : decode cX6_copy 64 = .ok (.bipush (-12), 2) := by decide +kernel
theorem dX6_copy_66 : decode cX6_copy 66 = .ok (.ireturn, 1) := by decide +kernel
theorem dX6_copy_67 : decode cX6_copy 67 = .ok (.aload 6, 2) := by decide +kernel
theorem dX6_copy_69 : decode cX6_copy 69 = .ok (.iload_n 2, 1) := by decide +kernel
theorem dX6_copy_70 : decode cX6_copy 70 = .ok (.iload 5, 2) := by decide +kernel
theorem dX6_copy_72 : decode cX6_copy 72 = .ok (.invokevirtual 351, 3) := by decide +kernel
theorem dX6_copy_75 : decode cX6_copy 75 = .ok (.ifCond .eq 15, 3) := by decide +kernel
theorem dX6_copy_78 : decode cX6_copy 78 = .ok (.aload 7, 2) := by decide +kernel
theorem dX6_copy_80 : decode cX6_copy 80 = .ok (.iload 4, 2) := by decide +kernel
theorem dX6_copy_82 : decode cX6_copy 82 = .ok (.iload 5, 2) := by decide +kernel
theorem dX6_copy_84 : decode cX6_copy 84 = .ok (.invokevirtual 351, 3) := by decide +kernel
theorem dX6_copy_87 : decode cX6_copy 87 = .ok (.ifCond .ne 6, 3) := by decide +kernel
theorem dX6_copy_90 : decode cX6_copy 90 = .ok (.bipush (-13), 2) := by decide +kernel
theorem dX6_copy_92 : decode cX6_copy 92 = .ok (.ireturn, 1) := by decide +kernel
theorem dX6_copy_93 : decode cX6_copy 93 = .ok (.aload 6, 2) := by decide +kernel
theorem dX6_copy_95 : decode cX6_copy 95 = .ok (.getfield 308, 3) := by decide +kernel
theorem dX6_copy_98 : decode cX6_copy 98 = .ok (.iload_n 2, 1) := by decide +kernel
theorem dX6_copy_99 : decode cX6_copy 99 = .ok (.aload 7, 2) := by decide +kernel
theorem dX6_copy_101 : decode cX6_copy 101 = .ok (.getfield 308, 3) := by decide +kernel
theorem dX6_copy_104 : decode cX6_copy 104 = .ok (.iload 4, 2) := by decide +kernel
theorem dX6_copy_106 : decode cX6_copy 106 = .ok (.iload 5, 2) := by decide +kernel
theorem dX6_copy_108 : decode cX6_copy 108 = .ok (.invokestatic 322, 3) := by decide +kernel
theorem dX6_copy_111 : decode cX6_copy 111 = .ok (.iload 5, 2) := by decide +kernel
theorem dX6_copy_113 : decode cX6_copy 113 = .ok (.ireturn, 1) := by decide +kernel
theorem dX6_has_0 : decode cX6_has 0 = .ok (.iload_n 0, 1) := by decide +kernel
theorem dX6_has_1 : decode cX6_has 1 = .ok (.iload_n 1, 1) := by decide +kernel
theorem dX6_has_2 : decode cX6_has 2 = .ok (.ishr, 1) := by decide +kernel
theorem dX6_has_3 : decode cX6_has 3 = .ok (.iconst 1, 1) := by decide +kernel
theorem dX6_has_4 : decode cX6_has 4 = .ok (.iand, 1) := by decide +kernel
theorem dX6_has_5 : decode cX6_has 5 = .ok (.ifCond .eq 7, 3) := by decide +kernel
theorem dX6_has_8 : decode cX6_has 8 = .ok (.iconst 1, 1) := by decide +kernel
theorem dX6_has_9 : decode cX6_has 9 = .ok (.goto 4, 3) := by decide +kernel
theorem dX6_has_12 : decode cX6_has 12 = .ok (.iconst 0, 1) := by decide +kernel
theorem dX6_has_13 : decode cX6_has 13 = .ok (.ireturn, 1) := by decide +kernel
theorem dX6_isPlace_0 : decode cX6_isPlace 0 = .ok (.lload_n 0, 1) := by decide +kernel
theorem dX6_isPlace_1 : decode cX6_isPlace 1 = .ok (.lconst 0, 1) := by decide +kernel
theorem dX6_isPlace_2 : decode cX6_isPlace 2 = .ok (.lcmp, 1) := by decide +kernel
theorem dX6_isPlace_3 : decode cX6_isPlace 3 = .ok (.ifCond .lt 15, 3) := by decide +kernel
theorem dX6_isPlace_6 : decode cX6_isPlace 6 = .ok (.lload_n 0, 1) := by decide +kernel
theorem dX6_isPlace_7 : decode cX6_isPlace 7 = .ok (.ldc2_w 353, 3) := by decide +kernel
theorem dX6_isPlace_10 : decode cX6_isPlace 10 = .ok (.lcmp, 1) := by decide +kernel
theorem dX6_isPlace_11 : decode cX6_isPlace 11 = .ok (.ifCond .ge 7, 3) := by decide +kernel
theorem dX6_isPlace_14 : decode cX6_isPlace 14 = .ok (.iconst 1, 1) := by decide +kernel
theorem dX6_isPlace_15 : decode cX6_isPlace 15 = .ok (.goto 4, 3) := by decide +kernel
theorem dX6_isPlace_18 : decode cX6_isPlace 18 = .ok (.iconst 0, 1) := by decide +kernel
theorem dX6_isPlace_19 : decode cX6_isPlace 19 = .ok (.ireturn, 1) := by decide +kernel
theorem dX6_isWind_0 : decode cX6_isWind 0 = .ok (.iload_n 0, 1) := by decide +kernel
theorem dX6_isWind_1 : decode cX6_isWind 1 = .ok (.ifCond .lt 12, 3) := by decide +kernel
theorem dX6_isWind_4 : decode cX6_isWind 4 = .ok (.iload_n 0, 1) := by decide +kernel
theorem dX6_isWind_5 : decode cX6_isWind 5 = .ok (.iconst 5, 1) := by decide +kernel
theorem dX6_isWind_6 : decode cX6_isWind 6 = .ok (.if_icmp .ge 7, 3) := by decide +kernel
theorem dX6_isWind_9 : decode cX6_isWind 9 = .ok (.iconst 1, 1) := by decide +kernel
theorem dX6_isWind_10 : decode cX6_isWind 10 = .ok (.goto 4, 3) := by decide +kernel
theorem dX6_isWind_13 : decode cX6_isWind 13 = .ok (.iconst 0, 1) := by decide +kernel
theorem dX6_isWind_14 : decode cX6_isWind 14 = .ok (.ireturn, 1) := by decide +kernel
theorem dX6_isSheet_0 : decode cX6_isSheet 0 = .ok (.iload_n 0, 1) := by decide +kernel
theorem dX6_isSheet_1 : decode cX6_isSheet 1 = .ok (.ifCond .lt 12, 3) := by decide +kernel
theorem dX6_isSheet_4 : decode cX6_isSheet 4 = .ok (.iload_n 0, 1) := by decide +kernel
theorem dX6_isSheet_5 : decode cX6_isSheet 5 = .ok (.iconst 4, 1) := by decide +kernel
theorem dX6_isSheet_6 : decode cX6_isSheet 6 = .ok (.if_icmp .ge 7, 3) := by decide +kernel
theorem dX6_isSheet_9 : decode cX6_isSheet 9 = .ok (.iconst 1, 1) := by decide +kernel
theorem dX6_isSheet_10 : decode cX6_isSheet 10 = .ok (.goto 4, 3) := by decide +kernel
theorem dX6_isSheet_13 : decode cX6_isSheet 13 = .ok (.iconst 0, 1) := by decide +kernel
theorem dX6_isSheet_14 : decode cX6_isSheet 14 = .ok (.ireturn, 1) := by decide +kernel
theorem dX6_isLane_0 : decode cX6_isLane 0 = .ok (.iload_n 0, 1) := by decide +kernel
theorem dX6_isLane_1 : decode cX6_isLane 1 = .ok (.ifCond .lt 12, 3) := by decide +kernel
theorem dX6_isLane_4 : decode cX6_isLane 4 = .ok (.iload_n 0, 1) := by decide +kernel
theorem dX6_isLane_5 : decode cX6_isLane 5 = .ok (.iconst 4, 1) := by decide +kernel
theorem dX6_isLane_6 : decode cX6_isLane 6 = .ok (.if_icmp .ge 7, 3) := by decide +kernel
theorem dX6_isLane_9 : decode cX6_isLane 9 = .ok (.iconst 1, 1) := by decide +kernel
theorem dX6_isLane_10 : decode cX6_isLane 10 = .ok (.goto 4, 3) := by decide +kernel
theorem dX6_isLane_13 : decode cX6_isLane 13 = .ok (.iconst 0, 1) := by decide +kernel
theorem dX6_isLane_14 : decode cX6_isLane 14 = .ok (.ireturn, 1) := by decide +kernel
theorem dX6_isGrave_0 : decode cX6_isGrave 0 = .ok (.iload_n 1, 1) := by decide +kernel
theorem dX6_isGrave_1 : decode cX6_isGrave 1 = .ok (.ifCond .lt 21, 3) := by decide +kernel
theorem dX6_isGrave_4 : decode cX6_isGrave 4 = .ok (.iload_n 1, 1) := by decide +kernel
theorem dX6_isGrave_5 : decode cX6_isGrave 5 = .ok (.aload_n 0, 1) := by decide +kernel
theorem dX6_isGrave_6 : decode cX6_isGrave 6 = .ok (.getfield 10, 3) := by decide +kernel
theorem dX6_isGrave_9 : decode cX6_isGrave 9 = .ok (.getfield 72, 3) := by decide +kernel
theorem dX6_isGrave_12 : decode cX6_isGrave 12 = .ok (.getfield 75, 3) := by decide +kernel
theorem dX6_isGrave_15 : decode cX6_isGrave 15 = .ok (.if_icmp .ge 7, 3) := by decide +kernel
theorem dX6_isGrave_18 : decode cX6_isGrave 18 = .ok (.iconst 1, 1) := by decide +kernel
theorem dX6_isGrave_19 : decode cX6_isGrave 19 = .ok (.goto 4, 3) := by decide +kernel
theorem dX6_isGrave_22 : decode cX6_isGrave 22 = .ok (.iconst 0, 1) := by decide +kernel
theorem dX6_isGrave_23 : decode cX6_isGrave 23 = .ok (.ireturn, 1) := by decide +kernel
theorem dX6_isReader_0 : decode cX6_isReader 0 = .ok (.lload_n 1, 1) := by decide +kernel
theorem dX6_isReader_1 : decode cX6_isReader 1 = .ok (.lconst 0, 1) := by decide +kernel
theorem dX6_isReader_2 : decode cX6_isReader 2 = .ok (.lcmp, 1) := by decide +kernel
theorem dX6_isReader_3 : decode cX6_isReader 3 = .ok (.ifCond .lt 20, 3) := by decide +kernel
theorem dX6_isReader_6 : decode cX6_isReader 6 = .ok (.lload_n 1, 1) := by decide +kernel
theorem dX6_isReader_7 : decode cX6_isReader 7 = .ok (.aload_n 0, 1) := by decide +kernel
theorem dX6_isReader_8 : decode cX6_isReader 8 = .ok (.getfield 10, 3) := by decide +kernel
theorem dX6_isReader_11 : decode cX6_isReader 11 = .ok (.getfield 86, 3) := by decide +kernel
theorem dX6_isReader_14 : decode cX6_isReader 14 = .ok (.i2l, 1) := by decide +kernel
theorem dX6_isReader_15 : decode cX6_isReader 15 = .ok (.lcmp, 1) := by decide +kernel
theorem dX6_isReader_16 : decode cX6_isReader 16 = .ok (.ifCond .ge 7, 3) := by decide +kernel
theorem dX6_isReader_19 : decode cX6_isReader 19 = .ok (.iconst 1, 1) := by decide +kernel
theorem dX6_isReader_20 : decode cX6_isReader 20 = .ok (.goto 4, 3) := by decide +kernel
theorem dX6_isReader_23 : decode cX6_isReader 23 = .ok (.iconst 0, 1) := by decide +kernel
theorem dX6_isReader_24 : decode cX6_isReader 24 = .ok (.ireturn, 1) := by decide +kernel
theorem dX6_isNews_0 : decode cX6_isNews 0 = .ok (.lload_n 1, 1) := by decide +kernel
theorem dX6_isNews_1 : decode cX6_isNews 1 = .ok (.lconst 0, 1) := by decide +kernel
theorem dX6_isNews_2 : decode cX6_isNews 2 = .ok (.lcmp, 1) := by decide +kernel
theorem dX6_isNews_3 : decode cX6_isNews 3 = .ok (.ifCond .lt 23, 3) := by decide +kernel
theorem dX6_isNews_6 : decode cX6_isNews 6 = .ok (.lload_n 1, 1) := by decide +kernel
theorem dX6_isNews_7 : decode cX6_isNews 7 = .ok (.aload_n 0, 1) := by decide +kernel
theorem dX6_isNews_8 : decode cX6_isNews 8 = .ok (.getfield 10, 3) := by decide +kernel
theorem dX6_isNews_11 : decode cX6_isNews 11 = .ok (.getfield 96, 3) := by decide +kernel
theorem dX6_isNews_14 : decode cX6_isNews 14 = .ok (.getfield 103, 3) := by decide +kernel
theorem dX6_isNews_17 : decode cX6_isNews 17 = .ok (.i2l, 1) := by decide +kernel
theorem dX6_isNews_18 : decode cX6_isNews 18 = .ok (.lcmp, 1) := by decide +kernel
theorem dX6_isNews_19 : decode cX6_isNews 19 = .ok (.ifCond .ge 7, 3) := by decide +kernel
theorem dX6_isNews_22 : decode cX6_isNews 22 = .ok (.iconst 1, 1) := by decide +kernel
theorem dX6_isNews_23 : decode cX6_isNews 23 = .ok (.goto 4, 3) := by decide +kernel
theorem dX6_isNews_26 : decode cX6_isNews 26 = .ok (.iconst 0, 1) := by decide +kernel
theorem dX6_isNews_27 : decode cX6_isNews 27 = .ok (.ireturn, 1) := by decide +kernel
theorem dX6_isGraveSet_0 : decode cX6_isGraveSet 0 = .ok (.iload_n 1, 1) := by decide +kernel
theorem dX6_isGraveSet_1 : decode cX6_isGraveSet 1 = .ok (.ifCond .lt 23, 3) := by decide +kernel
theorem dX6_isGraveSet_4 : decode cX6_isGraveSet 4 = .ok (.iload_n 1, 1) := by decide +kernel
theorem dX6_isGraveSet_5 : decode cX6_isGraveSet 5 = .ok (.iconst 1, 1) := by decide +kernel
theorem dX6_isGraveSet_6 : decode cX6_isGraveSet 6 = .ok (.aload_n 0, 1) := by decide +kernel
theorem dX6_isGraveSet_7 : decode cX6_isGraveSet 7 = .ok (.getfield 10, 3) := by decide +kernel
theorem dX6_isGraveSet_10 : decode cX6_isGraveSet 10 = .ok (.getfield 72, 3) := by decide +kernel
theorem dX6_isGraveSet_13 : decode cX6_isGraveSet 13 = .ok (.getfield 75, 3) := by decide +kernel
theorem dX6_isGraveSet_16 : decode cX6_isGraveSet 16 = .ok (.ishl, 1) := by decide +kernel
theorem dX6_isGraveSet_17 : decode cX6_isGraveSet 17 = .ok (.if_icmp .ge 7, 3) := by decide +kernel
theorem dX6_isGraveSet_20 : decode cX6_isGraveSet 20 = .ok (.iconst 1, 1) := by decide +kernel
theorem dX6_isGraveSet_21 : decode cX6_isGraveSet 21 = .ok (.goto 4, 3) := by decide +kernel
theorem dX6_isGraveSet_24 : decode cX6_isGraveSet 24 = .ok (.iconst 0, 1) := by decide +kernel
theorem dX6_isGraveSet_25 : decode cX6_isGraveSet 25 = .ok (.ireturn, 1) := by decide +kernel
theorem dX6_isNewsSet_0 : decode cX6_isNewsSet 0 = .ok (.iload_n 1, 1) := by decide +kernel
theorem dX6_isNewsSet_1 : decode cX6_isNewsSet 1 = .ok (.ifCond .lt 23, 3) := by decide +kernel
theorem dX6_isNewsSet_4 : decode cX6_isNewsSet 4 = .ok (.iload_n 1, 1) := by decide +kernel
theorem dX6_isNewsSet_5 : decode cX6_isNewsSet 5 = .ok (.iconst 1, 1) := by decide +kernel
theorem dX6_isNewsSet_6 : decode cX6_isNewsSet 6 = .ok (.aload_n 0, 1) := by decide +kernel
theorem dX6_isNewsSet_7 : decode cX6_isNewsSet 7 = .ok (.getfield 10, 3) := by decide +kernel
theorem dX6_isNewsSet_10 : decode cX6_isNewsSet 10 = .ok (.getfield 96, 3) := by decide +kernel
theorem dX6_isNewsSet_13 : decode cX6_isNewsSet 13 = .ok (.getfield 103, 3) := by decide +kernel
theorem dX6_isNewsSet_16 : decode cX6_isNewsSet 16 = .ok (.ishl, 1) := by decide +kernel
theorem dX6_isNewsSet_17 : decode cX6_isNewsSet 17 = .ok (.if_icmp .ge 7, 3) := by decide +kernel
theorem dX6_isNewsSet_20 : decode cX6_isNewsSet 20 = .ok (.iconst 1, 1) := by decide +kernel
theorem dX6_isNewsSet_21 : decode cX6_isNewsSet 21 = .ok (.goto 4, 3) := by decide +kernel
theorem dX6_isNewsSet_24 : decode cX6_isNewsSet 24 = .ok (.iconst 0, 1) := by decide +kernel
theorem dX6_isNewsSet_25 : decode cX6_isNewsSet 25 = .ok (.ireturn, 1) := by decide +kernel
theorem dX6_isReading_0 : decode cX6_isReading 0 = .ok (.aload_n 0, 1) := by decide +kernel
theorem dX6_isReading_1 : decode cX6_isReading 1 = .ok (.lload_n 1, 1) := by decide +kernel
theorem dX6_isReading_2 : decode cX6_isReading 2 = .ok (.invokevirtual 224, 3) := by decide +kernel
theorem dX6_isReading_5 : decode cX6_isReading 5 = .ok (.ifCond .eq 23, 3) := by decide +kernel
theorem dX6_isReading_8 : decode cX6_isReading 8 = .ok (.lload_n 3, 1) := by decide +kernel
theorem dX6_isReading_9 : decode cX6_isReading 9 = .ok (.invokestatic 68, 3) := by decide +kernel
theorem dX6_isReading_12 : decode cX6_isReading 12 = .ok (.ifCond .eq 16, 3) := by decide +kernel
theorem dX6_isReading_15 : decode cX6_isReading 15 = .ok (.aload_n 0, 1) := by decide +kernel
theorem dX6_isReading_16 : decode cX6_isReading 16 = .ok (.lload 5, 2) := by decide +kernel
theorem dX6_isReading_18 : decode cX6_isReading 18 = .ok (.invokevirtual 107, 3) := by decide +kernel
theorem dX6_isReading_21 : decode cX6_isReading 21 = .ok (.ifCond .eq 7, 3) := by decide +kernel
theorem dX6_isReading_24 : decode cX6_isReading 24 = .ok (.iconst 1, 1) := by decide +kernel
theorem dX6_isReading_25 : decode cX6_isReading 25 = .ok (.goto 4, 3) := by decide +kernel
theorem dX6_isReading_28 : decode cX6_isReading 28 = .ok (.iconst 0, 1) := by decide +kernel
theorem dX6_isReading_29 : decode cX6_isReading 29 = .ok (.ireturn, 1) := by decide +kernel
theorem dX6_refusalOfItems_0 : decode cX6_refusalOfItems 0 = .ok (.iload_n 1, 1) := by decide +kernel
theorem dX6_refusalOfItems_1 : decode cX6_refusalOfItems 1 = .ok (.invokestatic 335, 3) := by decide +kernel
theorem dX6_refusalOfItems_4 : decode cX6_refusalOfItems 4 = .ok (.ifCond .eq 10, 3) := by decide +kernel
theorem dX6_refusalOfItems_7 : decode cX6_refusalOfItems 7 = .ok (.iload_n 2, 1) := by decide +kernel
theorem dX6_refusalOfItems_8 : decode cX6_refusalOfItems 8 = .ok (.invokestatic 338, 3) := by decide +kernel
theorem dX6_refusalOfItems_11 : decode cX6_refusalOfItems 11 = .ok (.ifCond .ne 5, 3) := by decide +kernel
theorem dX6_refusalOfItems_14 : decode cX6_refusalOfItems 14 = .ok (.iconst (-1), 1) := by decide +kernel
theorem dX6_refusalOfItems_15 : decode cX6_refusalOfItems 15 = .ok (.ireturn, 1) := by decide +kernel
theorem dX6_refusalOfItems_16 : decode cX6_refusalOfItems 16 = .ok (.aload_n 0, 1) := by decide +kernel
theorem dX6_refusalOfItems_17 : decode cX6_refusalOfItems 17 = .ok (.getfield 51, 3) := by decide +kernel
theorem dX6_refusalOfItems_20 : decode cX6_refusalOfItems 20 = .ok (.iload_n 1, 1) := by decide +kernel
theorem dX6_refusalOfItems_21 : decode cX6_refusalOfItems 21 = .ok (.aaload, 1) := by decide +kernel
theorem dX6_refusalOfItems_22 : decode cX6_refusalOfItems 22 = .ok (.getfield 344, 3) := by decide +kernel
theorem dX6_refusalOfItems_25 : decode cX6_refusalOfItems 25 = .ok (.ifCond .ne 6, 3) := by decide +kernel
theorem dX6_refusalOfItems_28 : decode cX6_refusalOfItems 28 = .ok (.bipush (-11), 2) := by decide +kernel
theorem dX6_refusalOfItems_30 : decode cX6_refusalOfItems 30 = .ok (.ireturn, 1) := by decide +kernel
theorem dX6_refusalOfItems_31 : decode cX6_refusalOfItems 31 = .ok (.aload_n 0, 1) := by decide +kernel
theorem dX6_refusalOfItems_32 : decode cX6_refusalOfItems 32 = .ok (.getfield 51, 3) := by decide +kernel
theorem dX6_refusalOfItems_35 : decode cX6_refusalOfItems 35 = .ok (.iload_n 1, 1) := by decide +kernel
theorem dX6_refusalOfItems_36 : decode cX6_refusalOfItems 36 = .ok (.aaload, 1) := by decide +kernel
theorem dX6_refusalOfItems_37 : decode cX6_refusalOfItems 37 = .ok (.getfield 348, 3) := by decide +kernel
theorem dX6_refusalOfItems_40 : decode cX6_refusalOfItems 40 = .ok (.iload_n 2, 1) := by decide +kernel
theorem dX6_refusalOfItems_41 : decode cX6_refusalOfItems 41 = .ok (.if_icmp .eq 6, 3) := by decide +kernel
theorem dX6_refusalOfItems_44 : decode cX6_refusalOfItems 44 = .ok (.bipush (-12), 2) := by decide +kernel
theorem dX6_refusalOfItems_46 : decode cX6_refusalOfItems 46 = .ok (.ireturn, 1) := by decide +kernel
theorem dX6_refusalOfItems_47 : decode cX6_refusalOfItems 47 = .ok (.aload_n 0, 1) := by decide +kernel
theorem dX6_refusalOfItems_48 : decode cX6_refusalOfItems 48 = .ok (.getfield 51, 3) := by decide +kernel
theorem dX6_refusalOfItems_51 : decode cX6_refusalOfItems 51 = .ok (.iload_n 1, 1) := by decide +kernel
theorem dX6_refusalOfItems_52 : decode cX6_refusalOfItems 52 = .ok (.aaload, 1) := by decide +kernel
theorem dX6_refusalOfItems_53 : decode cX6_refusalOfItems 53 = .ok (.iload_n 3, 1) := by decide +kernel
theorem dX6_refusalOfItems_54 : decode cX6_refusalOfItems 54 = .ok (.iload 4, 2) := by decide +kernel
theorem dX6_refusalOfItems_56 : decode cX6_refusalOfItems 56 = .ok (.invokevirtual 351, 3) := by decide +kernel
theorem dX6_refusalOfItems_59 : decode cX6_refusalOfItems 59 = .ok (.ifCond .eq 7, 3) := by decide +kernel
theorem dX6_refusalOfItems_62 : decode cX6_refusalOfItems 62 = .ok (.iconst 0, 1) := by decide +kernel
theorem dX6_refusalOfItems_63 : decode cX6_refusalOfItems 63 = .ok (.goto 5, 3) := by decide +kernel
theorem dX6_refusalOfItems_66 : decode cX6_refusalOfItems 66 = .ok (.bipush (-13), 2) := by decide +kernel
theorem dX6_refusalOfItems_68 : decode cX6_refusalOfItems 68 = .ok (.ireturn, 1) := by decide +kernel
theorem dX6_refusalOfReadings_0 : decode cX6_refusalOfReadings 0 = .ok (.iload 4, 2) := by decide +kernel
theorem dX6_refusalOfReadings_2 : decode cX6_refusalOfReadings 2 = .ok (.iconst 1, 1) := by decide +kernel
theorem dX6_refusalOfReadings_3 : decode cX6_refusalOfReadings 3 = .ok (.if_icmp .lt 10, 3) := by decide +kernel
theorem dX6_refusalOfReadings_6 : decode cX6_refusalOfReadings 6 = .ok (.iload 4, 2) := by decide +kernel
theorem dX6_refusalOfReadings_8 : decode cX6_refusalOfReadings 8 = .ok (.bipush 12, 2) := by decide +kernel
theorem dX6_refusalOfReadings_10 : decode cX6_refusalOfReadings 10 = .ok (.if_icmp .le 5, 3) := by decide +kernel
theorem dX6_refusalOfReadings_13 : decode cX6_refusalOfReadings 13 = .ok (.iconst (-1), 1) := by decide +kernel
theorem dX6_refusalOfReadings_14 : decode cX6_refusalOfReadings 14 = .ok (.ireturn, 1) := by decide +kernel
theorem dX6_refusalOfReadings_15 : decode cX6_refusalOfReadings 15 = .ok (.aload_n 0, 1) := by decide +kernel
theorem dX6_refusalOfReadings_16 : decode cX6_refusalOfReadings 16 = .ok (.iload_n 1, 1) := by decide +kernel
theorem dX6_refusalOfReadings_17 : decode cX6_refusalOfReadings 17 = .ok (.iload_n 2, 1) := by decide +kernel
theorem dX6_refusalOfReadings_18 : decode cX6_refusalOfReadings 18 = .ok (.iload_n 3, 1) := by decide +kernel
theorem dX6_refusalOfReadings_19 : decode cX6_refusalOfReadings 19 = .ok (.iconst 3, 1) := by decide +kernel
theorem dX6_refusalOfReadings_20 : decode cX6_refusalOfReadings 20 = .ok (.iload 4, 2) := by decide +kernel
theorem dX6_refusalOfReadings_22 : decode cX6_refusalOfReadings 22 = .ok (.imul, 1) := by decide +kernel
theorem dX6_refusalOfReadings_23 : decode cX6_refusalOfReadings 23 = .ok (.invokevirtual 328, 3) := by decide +kernel
theorem dX6_refusalOfReadings_26 : decode cX6_refusalOfReadings 26 = .ok (.istore 5, 2) := by decide +kernel
theorem dX6_refusalOfReadings_28 : decode cX6_refusalOfReadings 28 = .ok (.iload 5, 2) := by decide +kernel
theorem dX6_refusalOfReadings_30 : decode cX6_refusalOfReadings 30 = .ok (.ifCond .eq 6, 3) := by decide +kernel
theorem dX6_refusalOfReadings_33 : decode cX6_refusalOfReadings 33 = .ok (.iload 5, 2) := by decide +kernel
theorem dX6_refusalOfReadings_35 : decode cX6_refusalOfReadings 35 = .ok (.ireturn, 1) := by decide +kernel
theorem dX6_refusalOfReadings_36 : decode cX6_refusalOfReadings 36 = .ok (.aload_n 0, 1) := by decide +kernel
theorem dX6_refusalOfReadings_37 : decode cX6_refusalOfReadings 37 = .ok (.getfield 51, 3) := by decide +kernel
theorem dX6_refusalOfReadings_40 : decode cX6_refusalOfReadings 40 = .ok (.iload_n 1, 1) := by decide +kernel
theorem dX6_refusalOfReadings_41 : decode cX6_refusalOfReadings 41 = .ok (.aaload, 1) := by decide +kernel
theorem dX6_refusalOfReadings_42 : decode cX6_refusalOfReadings 42 = .ok (.getfield 308, 3) := by decide +kernel
theorem dX6_refusalOfReadings_45 : decode cX6_refusalOfReadings 45 = .ok (.astore 6, 2) := by decide +kernel
theorem dX6_refusalOfReadings_47 : decode cX6_refusalOfReadings 47 = .ok (.iload_n 3, 1) := by decide +kernel
theorem dX6_refusalOfReadings_48 : decode cX6_refusalOfReadings 48 = .ok (.istore 7, 2) := by decide +kernel
theorem dX6_refusalOfReadings_50 : decode cX6_refusalOfReadings 50 = .ok (.iload 7, 2) := by decide +kernel
theorem dX6_refusalOfReadings_52 : decode cX6_refusalOfReadings 52 = .ok (.iload_n 3, 1) := by decide +kernel
theorem dX6_refusalOfReadings_53 : decode cX6_refusalOfReadings 53 = .ok (.iconst 3, 1) := by decide +kernel
theorem dX6_refusalOfReadings_54 : decode cX6_refusalOfReadings 54 = .ok (.iload 4, 2) := by decide +kernel
theorem dX6_refusalOfReadings_56 : decode cX6_refusalOfReadings 56 = .ok (.imul, 1) := by decide +kernel
theorem dX6_refusalOfReadings_57 : decode cX6_refusalOfReadings 57 = .ok (.iadd, 1) := by decide +kernel
theorem dX6_refusalOfReadings_58 : decode cX6_refusalOfReadings 58 = .ok (.if_icmp .ge 38, 3) := by decide +kernel
theorem dX6_refusalOfReadings_61 : decode cX6_refusalOfReadings 61 = .ok (.aload_n 0, 1) := by decide +kernel
theorem dX6_refusalOfReadings_62 : decode cX6_refusalOfReadings 62 = .ok (.aload 6, 2) := by decide +kernel
theorem dX6_refusalOfReadings_64 : decode cX6_refusalOfReadings 64 = .ok (.iload 7, 2) := by decide +kernel
theorem dX6_refusalOfReadings_66 : decode cX6_refusalOfReadings 66 = .ok (.laload, 1) := by decide +kernel
theorem dX6_refusalOfReadings_67 : decode cX6_refusalOfReadings 67 = .ok (.aload 6, 2) := by decide +kernel
theorem dX6_refusalOfReadings_69 : decode cX6_refusalOfReadings 69 = .ok (.iload 7, 2) := by decide +kernel
theorem dX6_refusalOfReadings_71 : decode cX6_refusalOfReadings 71 = .ok (.iconst 1, 1) := by decide +kernel
theorem dX6_refusalOfReadings_72 : decode cX6_refusalOfReadings 72 = .ok (.iadd, 1) := by decide +kernel
theorem dX6_refusalOfReadings_73 : decode cX6_refusalOfReadings 73 = .ok (.laload, 1) := by decide +kernel
theorem dX6_refusalOfReadings_74 : decode cX6_refusalOfReadings 74 = .ok (.aload 6, 2) := by decide +kernel
theorem dX6_refusalOfReadings_76 : decode cX6_refusalOfReadings 76 = .ok (.iload 7, 2) := by decide +kernel
theorem dX6_refusalOfReadings_78 : decode cX6_refusalOfReadings 78 = .ok (.iconst 2, 1) := by decide +kernel
theorem dX6_refusalOfReadings_79 : decode cX6_refusalOfReadings 79 = .ok (.iadd, 1) := by decide +kernel
theorem dX6_refusalOfReadings_80 : decode cX6_refusalOfReadings 80 = .ok (.laload, 1) := by decide +kernel
theorem dX6_refusalOfReadings_81 : decode cX6_refusalOfReadings 81 = .ok (.invokevirtual 231, 3) := by decide +kernel
theorem dX6_refusalOfReadings_84 : decode cX6_refusalOfReadings 84 = .ok (.ifCond .ne 6, 3) := by decide +kernel
theorem dX6_refusalOfReadings_87 : decode cX6_refusalOfReadings 87 = .ok (.bipush (-2), 2) := by decide +kernel
theorem dX6_refusalOfReadings_89 : decode cX6_refusalOfReadings 89 = .ok (.ireturn, 1) := by decide +kernel
theorem dX6_refusalOfReadings_90 : decode cX6_refusalOfReadings 90 = .ok (.iinc 7 3, 3) := by decide +kernel
theorem dX6_refusalOfReadings_93 : decode cX6_refusalOfReadings 93 = .ok (.goto (-43), 3) := by decide +kernel
theorem dX6_refusalOfReadings_96 : decode cX6_refusalOfReadings 96 = .ok (.iconst 0, 1) := by decide +kernel
theorem dX6_refusalOfReadings_97 : decode cX6_refusalOfReadings 97 = .ok (.ireturn, 1) := by decide +kernel
theorem dX6_noteHeard_0 : decode cX6_noteHeard 0 = .ok (.iconst 0, 1) := by decide +kernel
theorem dX6_noteHeard_1 : decode cX6_noteHeard 1 = .ok (.istore_n 3, 1) := by decide +kernel
theorem dX6_noteHeard_2 : decode cX6_noteHeard 2 = .ok (.iload_n 3, 1) := by decide +kernel
theorem dX6_noteHeard_3 : decode cX6_noteHeard 3 = .ok (.aload_n 2, 1) := by decide +kernel
theorem dX6_noteHeard_4 : decode cX6_noteHeard 4 = .ok (.arraylength, 1) := by decide +kernel
theorem dX6_noteHeard_5 : decode cX6_noteHeard 5 = .ok (.if_icmp .ge 26, 3) := by decide +kernel
theorem dX6_noteHeard_8 : decode cX6_noteHeard 8 = .ok (.iload_n 0, 1) := by decide +kernel
theorem dX6_noteHeard_9 : decode cX6_noteHeard 9 = .ok (.iload_n 3, 1) := by decide +kernel
theorem dX6_noteHeard_10 : decode cX6_noteHeard 10 = .ok (.invokestatic 355, 3) := by decide +kernel
theorem dX6_noteHeard_13 : decode cX6_noteHeard 13 = .ok (.ifCond .eq 12, 3) := by decide +kernel
theorem dX6_noteHeard_16 : decode cX6_noteHeard 16 = .ok (.aload_n 2, 1) := by decide +kernel
theorem dX6_noteHeard_17 : decode cX6_noteHeard 17 = .ok (.iload_n 3, 1) := by decide +kernel
theorem dX6_noteHeard_18 : decode cX6_noteHeard 18 = .ok (.dup2, 1) := by decide +kernel
theorem dX6_noteHeard_19 : decode cX6_noteHeard 19 = .ok (.iaload, 1) := by decide +kernel
theorem dX6_noteHeard_20 : decode cX6_noteHeard 20 = .ok (.iconst 1, 1) := by decide +kernel
theorem dX6_noteHeard_21 : decode cX6_noteHeard 21 = .ok (.iload_n 1, 1) := by decide +kernel
theorem dX6_noteHeard_22 : decode cX6_noteHeard 22 = .ok (.ishl, 1) := by decide +kernel
theorem dX6_noteHeard_23 : decode cX6_noteHeard 23 = .ok (.ior, 1) := by decide +kernel
theorem dX6_noteHeard_24 : decode cX6_noteHeard 24 = .ok (.iastore, 1) := by decide +kernel
theorem dX6_noteHeard_25 : decode cX6_noteHeard 25 = .ok (.iinc 3 1, 3) := by decide +kernel
theorem dX6_noteHeard_28 : decode cX6_noteHeard 28 = .ok (.goto (-26), 3) := by decide +kernel
theorem dX6_noteHeard_31 : decode cX6_noteHeard 31 = .ok (.return_, 1) := by decide +kernel
theorem dX6_countOrders_0 : decode cX6_countOrders 0 = .ok (.iconst 1, 1) := by decide +kernel
theorem dX6_countOrders_1 : decode cX6_countOrders 1 = .ok (.aload_n 0, 1) := by decide +kernel
theorem dX6_countOrders_2 : decode cX6_countOrders 2 = .ok (.getfield 10, 3) := by decide +kernel
theorem dX6_countOrders_5 : decode cX6_countOrders 5 = .ok (.getfield 96, 3) := by decide +kernel
theorem dX6_countOrders_8 : decode cX6_countOrders 8 = .ok (.getfield 103, 3) := by decide +kernel
theorem dX6_countOrders_11 : decode cX6_countOrders 11 = .ok (.ishl, 1) := by decide +kernel
theorem dX6_countOrders_12 : decode cX6_countOrders 12 = .ok (.istore_n 1, 1) := by decide +kernel
theorem dX6_countOrders_13 : decode cX6_countOrders 13 = .ok (.aload_n 0, 1) := by decide +kernel
theorem dX6_countOrders_14 : decode cX6_countOrders 14 = .ok (.getfield 65, 3) := by decide +kernel
theorem dX6_countOrders_17 : decode cX6_countOrders 17 = .ok (.arraylength, 1) := by decide +kernel
theorem dX6_countOrders_18 : decode cX6_countOrders 18 = .ok (.iload_n 1, 1) := by decide +kernel
theorem dX6_countOrders_19 : decode cX6_countOrders 19 = .ok (.if_icmp .ge 10, 3) := by decide +kernel
theorem dX6_countOrders_22 : decode cX6_countOrders 22 = .ok (.aload_n 0, 1) := by decide +kernel
theorem dX6_countOrders_23 : decode cX6_countOrders 23 = .ok (.iload_n 1, 1) := by decide +kernel
theorem dX6_countOrders_24 : decode cX6_countOrders 24 = .ok (.newarray .int, 2) := by decide +kernel
theorem dX6_countOrders_26 : decode cX6_countOrders 26 = .ok (.putfield 65, 3) := by decide +kernel
theorem dX6_countOrders_29 : decode cX6_countOrders 29 = .ok (.aload_n 0, 1) := by decide +kernel
theorem dX6_countOrders_30 : decode cX6_countOrders 30 = .ok (.getfield 10, 3) := by decide +kernel
theorem dX6_countOrders_33 : decode cX6_countOrders 33 = .ok (.getfield 96, 3) := by decide +kernel
theorem dX6_countOrders_36 : decode cX6_countOrders 36 = .ok (.aload_n 0, 1) := by decide +kernel
theorem dX6_countOrders_37 : decode cX6_countOrders 37 = .ok (.getfield 10, 3) := by decide +kernel
theorem dX6_countOrders_40 : decode cX6_countOrders 40 = .ok (.getfield 96, 3) := by decide +kernel
theorem dX6_countOrders_43 : decode cX6_countOrders 43 = .ok (.aload_n 0, 1) := by decide +kernel
theorem dX6_countOrders_44 : decode cX6_countOrders 44 = .ok (.getfield 65, 3) := by decide +kernel
theorem dX6_countOrders_47 : decode cX6_countOrders 47 = .ok (.invokevirtual 358, 3) := by decide +kernel
theorem dX6_countOrders_50 : decode cX6_countOrders 50 = .ok (.putfield 271, 3) := by decide +kernel
theorem dX6_countOrders_53 : decode cX6_countOrders 53 = .ok (.aload_n 0, 1) := by decide +kernel
theorem dX6_countOrders_54 : decode cX6_countOrders 54 = .ok (.getfield 10, 3) := by decide +kernel
theorem dX6_countOrders_57 : decode cX6_countOrders 57 = .ok (.getfield 96, 3) := by decide +kernel
theorem dX6_countOrders_60 : decode cX6_countOrders 60 = .ok (.getfield 271, 3) := by decide +kernel
theorem dX6_countOrders_63 : decode cX6_countOrders 63 = .ok (.ireturn, 1) := by decide +kernel
theorem dX6_inLowestTerms_0 : decode cX6_inLowestTerms 0 = .ok (.iload_n 0, 1) := by decide +kernel
theorem dX6_inLowestTerms_1 : decode cX6_inLowestTerms 1 = .ok (.iload_n 1, 1) := by decide +kernel
theorem dX6_inLowestTerms_2 : decode cX6_inLowestTerms 2 = .ok (.invokestatic 362, 3) := by decide +kernel
theorem dX6_inLowestTerms_5 : decode cX6_inLowestTerms 5 = .ok (.istore_n 2, 1) := by decide +kernel
theorem dX6_inLowestTerms_6 : decode cX6_inLowestTerms 6 = .ok (.iload_n 2, 1) := by decide +kernel
theorem dX6_inLowestTerms_7 : decode cX6_inLowestTerms 7 = .ok (.iconst 1, 1) := by decide +kernel
theorem dX6_inLowestTerms_8 : decode cX6_inLowestTerms 8 = .ok (.if_icmp .le 25, 3) := by decide +kernel
theorem dX6_inLowestTerms_11 : decode cX6_inLowestTerms 11 = .ok (.iload_n 0, 1) := by decide +kernel
theorem dX6_inLowestTerms_12 : decode cX6_inLowestTerms 12 = .ok (.iload_n 2, 1) := by decide +kernel
theorem dX6_inLowestTerms_13 : decode cX6_inLowestTerms 13 = .ok (.irem, 1) := by decide +kernel
theorem dX6_inLowestTerms_14 : decode cX6_inLowestTerms 14 = .ok (.ifCond .ne 13, 3) := by decide +kernel
theorem dX6_inLowestTerms_17 : decode cX6_inLowestTerms 17 = .ok (.iload_n 1, 1) := by decide +kernel
theorem dX6_inLowestTerms_18 : decode cX6_inLowestTerms 18 = .ok (.iload_n 2, 1) := by decide +kernel
theorem dX6_inLowestTerms_19 : decode cX6_inLowestTerms 19 = .ok (.irem, 1) := by decide +kernel
theorem dX6_inLowestTerms_20 : decode cX6_inLowestTerms 20 = .ok (.ifCond .ne 7, 3) := by decide +kernel
theorem dX6_inLowestTerms_23 : decode cX6_inLowestTerms 23 = .ok (.iload_n 0, 1) := by decide +kernel
theorem dX6_inLowestTerms_24 : decode cX6_inLowestTerms 24 = .ok (.iload_n 2, 1) := by decide +kernel
theorem dX6_inLowestTerms_25 : decode cX6_inLowestTerms 25 = .ok (.idiv, 1) := by decide +kernel
theorem dX6_inLowestTerms_26 : decode cX6_inLowestTerms 26 = .ok (.ireturn, 1) := by decide +kernel
theorem dX6_inLowestTerms_27 : decode cX6_inLowestTerms 27 = .ok (.iinc 2 (-1), 3) := by decide +kernel
theorem dX6_inLowestTerms_30 : decode cX6_inLowestTerms 30 = .ok (.goto (-24), 3) := by decide +kernel
theorem dX6_inLowestTerms_33 : decode cX6_inLowestTerms 33 = .ok (.iload_n 0, 1) := by decide +kernel
theorem dX6_inLowestTerms_34 : decode cX6_inLowestTerms 34 = .ok (.ireturn, 1) := by decide +kernel
