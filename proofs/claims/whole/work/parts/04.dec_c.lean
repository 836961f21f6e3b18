theorem dX7_init_0 : decode cX7_init 0 = .ok (.aload_n 0, 1) := by decide +kernel
theorem dX7_init_1 : decode cX7_init 1 = .ok (.invokespecial 1, 3) := by decide +kernel
theorem dX7_init_4 : decode cX7_init 4 = .ok (.aload_n 0, 1) := by decide +kernel
theorem dX7_init_5 : decode cX7_init 5 = .ok (.bipush 10, 2) := by decide +kernel
theorem dX7_init_7 : decode cX7_init 7 = .ok (.newarray .int, 2) := by decide +kernel
theorem dX7_init_9 : decode cX7_init 9 = .ok (.putfield 7, 3) := by decide +kernel
theorem dX7_init_12 : decode cX7_init 12 = .ok (.aload_n 0, 1) := by decide +kernel
theorem dX7_init_13 : decode cX7_init 13 = .ok (.bipush 10, 2) := by decide +kernel
theorem dX7_init_15 : decode cX7_init 15 = .ok (.newarray .int, 2) := by decide +kernel
theorem dX7_init_17 : decode cX7_init 17 = .ok (.putfield 13, 3) := by decide +kernel
theorem dX7_init_20 : decode cX7_init 20 = .ok (.aload_n 0, 1) := by decide +kernel
theorem dX7_init_21 : decode cX7_init 21 = .ok (.bipush 10, 2) := by decide +kernel
theorem dX7_init_23 : decode cX7_init 23 = .ok (.newarray .int, 2) := by decide +kernel
theorem dX7_init_25 : decode cX7_init 25 = .ok (.putfield 16, 3) := by decide +kernel
theorem dX7_init_28 : decode cX7_init 28 = .ok (.aload_n 0, 1) := by decide +kernel
theorem dX7_init_29 : decode cX7_init 29 = .ok (.bipush 12, 2) := by decide +kernel
theorem dX7_init_31 : decode cX7_init 31 = .ok (.newarray .int, 2) := by decide +kernel
theorem dX7_init_33 : decode cX7_init 33 = .ok (.putfield 19, 3) := by decide +kernel
theorem dX7_init_36 : decode cX7_init 36 = .ok (.aload_n 0, 1) := by decide +kernel
theorem dX7_init_37 : decode cX7_init 37 = .ok (.bipush 12, 2) := by decide +kernel
theorem dX7_init_39 : decode cX7_init 39 = .ok (.newarray .int, 2) := by decide +kernel
theorem dX7_init_41 : decode cX7_init 41 = .ok (.putfield 22, 3) := by decide +kernel
theorem dX7_init_44 : decode cX7_init 44 = .ok (.aload_n 0, 1) := by decide +kernel
theorem dX7_init_45 : decode cX7_init 45 = .ok (.bipush 12, 2) := by decide +kernel
theorem dX7_init_47 : decode cX7_init 47 = .ok (.newarray .int, 2) := by decide +kernel
theorem dX7_init_49 : decode cX7_init 49 = .ok (.putfield 25, 3) := by decide +kernel
theorem dX7_init_52 : decode cX7_init 52 = .ok (.aload_n 0, 1) := by decide +kernel
theorem dX7_init_53 : decode cX7_init 53 = .ok (.iconst 4, 1) := by decide +kernel
theorem dX7_init_54 : decode cX7_init 54 = .ok (.newarray .int, 2) := by decide +kernel
theorem dX7_init_56 : decode cX7_init 56 = .ok (.putfield 28, 3) := by decide +kernel
theorem dX7_init_59 : decode cX7_init 59 = .ok (.aload_n 0, 1) := by decide +kernel
theorem dX7_init_60 : decode cX7_init 60 = .ok (.iconst 5, 1) := by decide +kernel
theorem dX7_init_61 : decode cX7_init 61 = .ok (.newarray .int, 2) := by decide +kernel
theorem dX7_init_63 : decode cX7_init 63 = .ok (.putfield 31, 3) := by decide +kernel
theorem dX7_init_66 : decode cX7_init 66 = .ok (.aload_n 0, 1) := by decide +kernel
theorem dX7_init_67 : decode cX7_init 67 = .ok (.iconst 1, 1) := by decide +kernel
theorem dX7_init_68 : decode cX7_init 68 = .ok (.putfield 34, 3) := by decide +kernel
theorem dX7_init_71 : decode cX7_init 71 = .ok (.aload_n 0, 1) := by decide +kernel
theorem dX7_init_72 : decode cX7_init 72 = .ok (.sipush 141, 3) := by decide +kernel
theorem dX7_init_75 : decode cX7_init 75 = .ok (.newarray .int, 2) := by decide +kernel
theorem dX7_init_77 : decode cX7_init 77 = .ok (.putfield 38, 3) := by decide +kernel
theorem dX7_init_80 : decode cX7_init 80 = .ok (.aload_n 0, 1) := by decide +kernel
theorem dX7_init_81 : decode cX7_init 81 = .ok (.sipush 1410, 3) := by decide +kernel
theorem dX7_init_84 : decode cX7_init 84 = .ok (.newarray .int, 2) := by decide +kernel
theorem dX7_init_86 : decode cX7_init 86 = .ok (.putfield 41, 3) := by decide +kernel
theorem dX7_init_89 : decode cX7_init 89 = .ok (.aload_n 0, 1) := by decide +kernel
theorem dX7_init_90 : decode cX7_init 90 = .ok (.sipush 160, 3) := by decide +kernel
theorem dX7_init_93 : decode cX7_init 93 = .ok (.newarray .int, 2) := by decide +kernel
theorem dX7_init_95 : decode cX7_init 95 = .ok (.putfield 44, 3) := by decide +kernel
theorem dX7_init_98 : decode cX7_init 98 = .ok (.aload_n 0, 1) := by decide +kernel
theorem dX7_init_99 : decode cX7_init 99 = .ok (.sipush 128, 3) := by decide +kernel
theorem dX7_init_102 : decode cX7_init 102 = .ok (.newarray .int, 2) := by decide +kernel
theorem dX7_init_104 : decode cX7_init 104 = .ok (.putfield 47, 3) := by decide +kernel
theorem dX7_init_107 : decode cX7_init 107 = .ok (.aload_n 0, 1) := by decide +kernel
theorem dX7_init_108 : decode cX7_init 108 = .ok (.bipush 36, 2) := by decide +kernel
theorem dX7_init_110 : decode cX7_init 110 = .ok (.newarray .int, 2) := by decide +kernel
theorem dX7_init_112 : decode cX7_init 112 = .ok (.putfield 50, 3) := by decide +kernel
theorem dX7_init_115 : decode cX7_init 115 = .ok (.aload_n 0, 1) := by decide +kernel
theorem dX7_init_116 : decode cX7_init 116 = .ok (.iconst 3, 1) := by decide +kernel
theorem dX7_init_117 : decode cX7_init 117 = .ok (.newarray .int, 2) := by decide +kernel
theorem dX7_init_119 : decode cX7_init 119 = .ok (.putfield 53, 3) := by decide +kernel
theorem dX7_init_122 : decode cX7_init 122 = .ok (.aload_n 0, 1) := by decide +kernel
theorem dX7_init_123 : decode cX7_init 123 = .ok (.sipush 4096, 3) := by decide +kernel
theorem dX7_init_126 : decode cX7_init 126 = .ok (.newarray .int, 2) := by decide +kernel
theorem dX7_init_128 : decode cX7_init 128 = .ok (.putfield 56, 3) := by decide +kernel
theorem dX7_init_131 : decode cX7_init 131 = .ok (.aload_n 0, 1) := by decide +kernel
theorem dX7_init_132 : decode cX7_init 132 = .ok (.sipush 1650, 3) := by decide +kernel
theorem dX7_init_135 : decode cX7_init 135 = .ok (.newarray .int, 2) := by decide +kernel
theorem dX7_init_137 : decode cX7_init 137 = .ok (.putfield 59, 3) := by decide +kernel
theorem dX7_init_140 : decode cX7_init 140 = .ok (.aload_n 0, 1) := by decide +kernel
theorem dX7_init_141 : decode cX7_init 141 = .ok (.iconst 4, 1) := by decide +kernel
theorem dX7_init_142 : decode cX7_init 142 = .ok (.newarray .int, 2) := by decide +kernel
theorem dX7_init_144 : decode cX7_init 144 = .ok (.putfield 62, 3) := by decide +kernel
theorem dX7_init_147 : decode cX7_init 147 = .ok (.aload_n 0, 1) := by decide +kernel
theorem dX7_init_148 : decode cX7_init 148 = .ok (.iconst 4, 1) := by decide +kernel
theorem dX7_init_149 : decode cX7_init 149 = .ok (.newarray .int, 2) := by decide +kernel
theorem dX7_init_151 : decode cX7_init 151 = .ok (.putfield 65, 3) := by decide +kernel
theorem dX7_init_154 : decode cX7_init 154 = .ok (.aload_n 0, 1) := by decide +kernel
theorem dX7_init_155 : decode cX7_init 155 = .ok (.sipush 144, 3) := by decide +kernel
theorem dX7_init_158 : decode cX7_init 158 = .ok (.newarray .long, 2) := by decide +kernel
theorem dX7_init_160 : decode cX7_init 160 = .ok (.putfield 68, 3) := by decide +kernel
theorem dX7_init_163 : decode cX7_init 163 = .ok (.aload_n 0, 1) := by decide +kernel
theorem dX7_init_164 : decode cX7_init 164 = .ok (.sipush 141, 3) := by decide +kernel
theorem dX7_init_167 : decode cX7_init 167 = .ok (.newarray .int, 2) := by decide +kernel
theorem dX7_init_169 : decode cX7_init 169 = .ok (.putfield 72, 3) := by decide +kernel
theorem dX7_init_172 : decode cX7_init 172 = .ok (.aload_n 0, 1) := by decide +kernel
theorem dX7_init_173 : decode cX7_init 173 = .ok (.bipush 36, 2) := by decide +kernel
theorem dX7_init_175 : decode cX7_init 175 = .ok (.newarray .long, 2) := by decide +kernel
theorem dX7_init_177 : decode cX7_init 177 = .ok (.putfield 75, 3) := by decide +kernel
theorem dX7_init_180 : decode cX7_init 180 = .ok (.iconst 0, 1) := by decide +kernel
theorem dX7_init_181 : decode cX7_init 181 = .ok (.istore_n 1, 1) := by decide +kernel
theorem dX7_init_182 : decode cX7_init 182 = .ok (.iload_n 1, 1) := by decide +kernel
theorem dX7_init_183 : decode cX7_init 183 = .ok (.iconst 4, 1) := by decide +kernel
theorem dX7_init_184 : decode cX7_init 184 = .ok (.if_icmp .ge 16, 3) := by decide +kernel
theorem dX7_init_187 : decode cX7_init 187 = .ok (.aload_n 0, 1) := by decide +kernel
theorem dX7_init_188 : decode cX7_init 188 = .ok (.getfield 62, 3) := by decide +kernel
theorem dX7_init_191 : decode cX7_init 191 = .ok (.iload_n 1, 1) := by decide +kernel
theorem dX7_init_192 : decode cX7_init 192 = .ok (.iconst (-1), 1) := by decide +kernel
theorem dX7_init_193 : decode cX7_init 193 = .ok (.iastore, 1) := by decide +kernel
theorem dX7_init_194 : decode cX7_init 194 = .ok (.iinc 1 1, 3) := by decide +kernel
theorem dX7_init_197 : decode cX7_init 197 = .ok (.goto (-15), 3) := by decide +kernel
theorem dX7_init_200 : decode cX7_init 200 = .ok (.iconst 0, 1) := by decide +kernel
theorem dX7_init_201 : decode cX7_init 201 = .ok (.istore_n 1, 1) := by decide +kernel
theorem dX7_init_202 : decode cX7_init 202 = .ok (.iload_n 1, 1) := by decide +kernel
theorem dX7_init_203 : decode cX7_init 203 = .ok (.iconst 5, 1) := by decide +kernel
theorem dX7_init_204 : decode cX7_init 204 = .ok (.if_icmp .ge 16, 3) := by decide +kernel
theorem dX7_init_207 : decode cX7_init 207 = .ok (.aload_n 0, 1) := by decide +kernel
theorem dX7_init_208 : decode cX7_init 208 = .ok (.getfield 31, 3) := by decide +kernel
theorem dX7_init_211 : decode cX7_init 211 = .ok (.iload_n 1, 1) := by decide +kernel
theorem dX7_init_212 : decode cX7_init 212 = .ok (.iconst 1, 1) := by decide +kernel
theorem dX7_init_213 : decode cX7_init 213 = .ok (.iastore, 1) := by decide +kernel
theorem dX7_init_214 : decode cX7_init 214 = .ok (.iinc 1 1, 3) := by decide +kernel
theorem dX7_init_217 : decode cX7_init 217 = .ok (.goto (-15), 3) := by decide +kernel
theorem dX7_init_220 : decode cX7_init 220 = .ok (.return_, 1) := by decide +kernel
theorem dX7_in_0 : decode cX7_in 0 = .ok (.lload_n 0, 1) := by decide +kernel
theorem dX7_in_1 : decode cX7_in 1 = .ok (.lload_n 2, 1) := by decide +kernel
theorem dX7_in_2 : decode cX7_in 2 = .ok (.lcmp, 1) := by decide +kernel
theorem dX7_in_3 : decode cX7_in 3 = .ok (.ifCond .lt 14, 3) := by decide +kernel
theorem dX7_in_6 : decode cX7_in 6 = .ok (.lload_n 0, 1) := by decide +kernel
theorem dX7_in_7 : decode cX7_in 7 = .ok (.lload 4, 2) := by decide +kernel
theorem dX7_in_9 : decode cX7_in 9 = .ok (.lcmp, 1) := by decide +kernel
theorem dX7_in_10 : decode cX7_in 10 = .ok (.ifCond .gt 7, 3) := by decide +kernel
theorem dX7_in_13 : decode cX7_in 13 = .ok (.iconst 1, 1) := by decide +kernel
theorem dX7_in_14 : decode cX7_in 14 = .ok (.goto 4, 3) := by decide +kernel
theorem dX7_in_17 : decode cX7_in 17 = .ok (.iconst 0, 1) := by decide +kernel
theorem dX7_in_18 : decode cX7_in 18 = .ok (.ireturn, 1) := by decide +kernel
theorem dX7_has_0 : decode cX7_has 0 = .ok (.iload_n 0, 1) := by decide +kernel
theorem dX7_has_1 : decode cX7_has 1 = .ok (.iload_n 1, 1) := by decide +kernel
theorem dX7_has_2 : decode cX7_has 2 = .ok (.ishr, 1) := by decide +kernel
theorem dX7_has_3 : decode cX7_has 3 = .ok (.iconst 1, 1) := by decide +kernel
theorem dX7_has_4 : decode cX7_has 4 = .ok (.iand, 1) := by decide +kernel
theorem dX7_has_5 : decode cX7_has 5 = .ok (.iconst 1, 1) := by decide +kernel
theorem dX7_has_6 : decode cX7_has 6 = .ok (.if_icmp .ne 7, 3) := by decide +kernel
theorem dX7_has_9 : decode cX7_has 9 = .ok (.iconst 1, 1) := by decide +kernel
theorem dX7_has_10 : decode cX7_has 10 = .ok (.goto 4, 3) := by decide +kernel
theorem dX7_has_13 : decode cX7_has 13 = .ok (.iconst 0, 1) := by decide +kernel
theorem dX7_has_14 : decode cX7_has 14 = .ok (.ireturn, 1) := by decide +kernel
theorem dX7_ones_0 : decode cX7_ones 0 = .ok (.iconst 0, 1) := by decide +kernel
theorem dX7_ones_1 : decode cX7_ones 1 = .ok (.istore_n 1, 1) := by decide +kernel
theorem dX7_ones_2 : decode cX7_ones 2 = .ok (.iload_n 0, 1) := by decide +kernel
theorem dX7_ones_3 : decode cX7_ones 3 = .ok (.istore_n 2, 1) := by decide +kernel
theorem dX7_ones_4 : decode cX7_ones 4 = .ok (.iload_n 2, 1) := by decide +kernel
theorem dX7_ones_5 : decode cX7_ones 5 = .ok (.ifCond .eq 15, 3) := by decide +kernel
theorem dX7_ones_8 : decode cX7_ones 8 = .ok (.iinc 1 1, 3) := by decide +kernel
theorem dX7_ones_11 : decode cX7_ones 11 = .ok (.iload_n 2, 1) := by decide +kernel
theorem dX7_ones_12 : decode cX7_ones 12 = .ok (.iload_n 2, 1) := by decide +kernel
theorem dX7_ones_13 : decode cX7_ones 13 = .ok (.iconst 1, 1) := by decide +kernel
theorem dX7_ones_14 : decode cX7_ones 14 = .ok (.isub, 1) := by decide +kernel
theorem dX7_ones_15 : decode cX7_ones 15 = .ok (.iand, 1) := by decide +kernel
theorem dX7_ones_16 : decode cX7_ones 16 = .ok (.istore_n 2, 1) := by decide +kernel
theorem dX7_ones_17 : decode cX7_ones 17 = .ok (.goto (-13), 3) := by decide +kernel
theorem dX7_ones_20 : decode cX7_ones 20 = .ok (.iload_n 1, 1) := by decide +kernel
theorem dX7_ones_21 : decode cX7_ones 21 = .ok (.ireturn, 1) := by decide +kernel
theorem dX7_isGrave_0 : decode cX7_isGrave 0 = .ok (.iload_n 1, 1) := by decide +kernel
theorem dX7_isGrave_1 : decode cX7_isGrave 1 = .ok (.i2l, 1) := by decide +kernel
theorem dX7_isGrave_2 : decode cX7_isGrave 2 = .ok (.lconst 0, 1) := by decide +kernel
theorem dX7_isGrave_3 : decode cX7_isGrave 3 = .ok (.aload_n 0, 1) := by decide +kernel
theorem dX7_isGrave_4 : decode cX7_isGrave 4 = .ok (.getfield 78, 3) := by decide +kernel
theorem dX7_isGrave_7 : decode cX7_isGrave 7 = .ok (.iconst 1, 1) := by decide +kernel
theorem dX7_isGrave_8 : decode cX7_isGrave 8 = .ok (.isub, 1) := by decide +kernel
theorem dX7_isGrave_9 : decode cX7_isGrave 9 = .ok (.i2l, 1) := by decide +kernel
theorem dX7_isGrave_10 : decode cX7_isGrave 10 = .ok (.invokestatic 81, 3) := by decide +kernel
theorem dX7_isGrave_13 : decode cX7_isGrave 13 = .ok (.ireturn, 1) := by decide +kernel
theorem dX7_isNews_0 : decode cX7_isNews 0 = .ok (.lload_n 1, 1) := by decide +kernel
theorem dX7_isNews_1 : decode cX7_isNews 1 = .ok (.lconst 0, 1) := by decide +kernel
theorem dX7_isNews_2 : decode cX7_isNews 2 = .ok (.aload_n 0, 1) := by decide +kernel
theorem dX7_isNews_3 : decode cX7_isNews 3 = .ok (.getfield 85, 3) := by decide +kernel
theorem dX7_isNews_6 : decode cX7_isNews 6 = .ok (.iconst 1, 1) := by decide +kernel
theorem dX7_isNews_7 : decode cX7_isNews 7 = .ok (.isub, 1) := by decide +kernel
theorem dX7_isNews_8 : decode cX7_isNews 8 = .ok (.i2l, 1) := by decide +kernel
theorem dX7_isNews_9 : decode cX7_isNews 9 = .ok (.invokestatic 81, 3) := by decide +kernel
theorem dX7_isNews_12 : decode cX7_isNews 12 = .ok (.ireturn, 1) := by decide +kernel
theorem dX7_isReader_0 : decode cX7_isReader 0 = .ok (.lload_n 1, 1) := by decide +kernel
theorem dX7_isReader_1 : decode cX7_isReader 1 = .ok (.lconst 0, 1) := by decide +kernel
theorem dX7_isReader_2 : decode cX7_isReader 2 = .ok (.aload_n 0, 1) := by decide +kernel
theorem dX7_isReader_3 : decode cX7_isReader 3 = .ok (.getfield 88, 3) := by decide +kernel
theorem dX7_isReader_6 : decode cX7_isReader 6 = .ok (.iconst 1, 1) := by decide +kernel
theorem dX7_isReader_7 : decode cX7_isReader 7 = .ok (.isub, 1) := by decide +kernel
theorem dX7_isReader_8 : decode cX7_isReader 8 = .ok (.i2l, 1) := by decide +kernel
theorem dX7_isReader_9 : decode cX7_isReader 9 = .ok (.invokestatic 81, 3) := by decide +kernel
theorem dX7_isReader_12 : decode cX7_isReader 12 = .ok (.ireturn, 1) := by decide +kernel
theorem dX7_isPlace_0 : decode cX7_isPlace 0 = .ok (.lload_n 0, 1) := by decide +kernel
theorem dX7_isPlace_1 : decode cX7_isPlace 1 = .ok (.lconst 0, 1) := by decide +kernel
theorem dX7_isPlace_2 : decode cX7_isPlace 2 = .ok (.ldc2_w 91, 3) := by decide +kernel
theorem dX7_isPlace_5 : decode cX7_isPlace 5 = .ok (.invokestatic 81, 3) := by decide +kernel
theorem dX7_isPlace_8 : decode cX7_isPlace 8 = .ok (.ireturn, 1) := by decide +kernel
theorem dX7_areGraves_0 : decode cX7_areGraves 0 = .ok (.iload_n 1, 1) := by decide +kernel
theorem dX7_areGraves_1 : decode cX7_areGraves 1 = .ok (.i2l, 1) := by decide +kernel
theorem dX7_areGraves_2 : decode cX7_areGraves 2 = .ok (.lconst 0, 1) := by decide +kernel
theorem dX7_areGraves_3 : decode cX7_areGraves 3 = .ok (.iconst 1, 1) := by decide +kernel
theorem dX7_areGraves_4 : decode cX7_areGraves 4 = .ok (.aload_n 0, 1) := by decide +kernel
theorem dX7_areGraves_5 : decode cX7_areGraves 5 = .ok (.getfield 78, 3) := by decide +kernel
theorem dX7_areGraves_8 : decode cX7_areGraves 8 = .ok (.ishl, 1) := by decide +kernel
theorem dX7_areGraves_9 : decode cX7_areGraves 9 = .ok (.iconst 1, 1) := by decide +kernel
theorem dX7_areGraves_10 : decode cX7_areGraves 10 = .ok (.isub, 1) := by decide +kernel
theorem dX7_areGraves_11 : decode cX7_areGraves 11 = .ok (.i2l, 1) := by decide +kernel
theorem dX7_areGraves_12 : decode cX7_areGraves 12 = .ok (.invokestatic 81, 3) := by decide +kernel
theorem dX7_areGraves_15 : decode cX7_areGraves 15 = .ok (.ireturn, 1) := by decide +kernel
theorem dX7_addGrave_0 : decode cX7_addGrave 0 = .ok (.aload_n 0, 1) := by decide +kernel
theorem dX7_addGrave_1 : decode cX7_addGrave 1 = .ok (.getfield 7, 3) := by decide +kernel
theorem dX7_addGrave_4 : decode cX7_addGrave 4 = .ok (.aload_n 0, 1) := by decide +kernel
theorem dX7_addGrave_5 : decode cX7_addGrave 5 = .ok (.getfield 78, 3) := by decide +kernel
theorem dX7_addGrave_8 : decode cX7_addGrave 8 = .ok (.iload_n 1, 1) := by decide +kernel
theorem dX7_addGrave_9 : decode cX7_addGrave 9 = .ok (.iastore, 1) := by decide +kernel
theorem dX7_addGrave_10 : decode cX7_addGrave 10 = .ok (.aload_n 0, 1) := by decide +kernel
theorem dX7_addGrave_11 : decode cX7_addGrave 11 = .ok (.getfield 13, 3) := by decide +kernel
theorem dX7_addGrave_14 : decode cX7_addGrave 14 = .ok (.aload_n 0, 1) := by decide +kernel
theorem dX7_addGrave_15 : decode cX7_addGrave 15 = .ok (.getfield 78, 3) := by decide +kernel
theorem dX7_addGrave_18 : decode cX7_addGrave 18 = .ok (.iload_n 2, 1) := by decide +kernel
theorem dX7_addGrave_19 : decode cX7_addGrave 19 = .ok (.iastore, 1) := by decide +kernel
theorem dX7_addGrave_20 : decode cX7_addGrave 20 = .ok (.aload_n 0, 1) := by decide +kernel
theorem dX7_addGrave_21 : decode cX7_addGrave 21 = .ok (.getfield 16, 3) := by decide +kernel
theorem dX7_addGrave_24 : decode cX7_addGrave 24 = .ok (.aload_n 0, 1) := by decide +kernel
theorem dX7_addGrave_25 : decode cX7_addGrave 25 = .ok (.getfield 78, 3) := by decide +kernel
theorem dX7_addGrave_28 : decode cX7_addGrave 28 = .ok (.iload_n 3, 1) := by decide +kernel
theorem dX7_addGrave_29 : decode cX7_addGrave 29 = .ok (.iastore, 1) := by decide +kernel
theorem dX7_addGrave_30 : decode cX7_addGrave 30 = .ok (.aload_n 0, 1) := by decide +kernel
theorem dX7_addGrave_31 : decode cX7_addGrave 31 = .ok (.getfield 38, 3) := by decide +kernel
theorem dX7_addGrave_34 : decode cX7_addGrave 34 = .ok (.iconst 0, 1) := by decide +kernel
theorem dX7_addGrave_35 : decode cX7_addGrave 35 = .ok (.aload_n 0, 1) := by decide +kernel
theorem dX7_addGrave_36 : decode cX7_addGrave 36 = .ok (.getfield 78, 3) := by decide +kernel
theorem dX7_addGrave_39 : decode cX7_addGrave 39 = .ok (.iadd, 1) := by decide +kernel
theorem dX7_addGrave_40 : decode cX7_addGrave 40 = .ok (.iconst 0, 1) := by decide +kernel
theorem dX7_addGrave_41 : decode cX7_addGrave 41 = .ok (.iastore, 1) := by decide +kernel
theorem dX7_addGrave_42 : decode cX7_addGrave 42 = .ok (.aload_n 0, 1) := by decide +kernel
theorem dX7_addGrave_43 : decode cX7_addGrave 43 = .ok (.getfield 38, 3) := by decide +kernel
theorem dX7_addGrave_46 : decode cX7_addGrave 46 = .ok (.bipush 10, 2) := by decide +kernel
theorem dX7_addGrave_48 : decode cX7_addGrave 48 = .ok (.aload_n 0, 1) := by decide +kernel
theorem dX7_addGrave_49 : decode cX7_addGrave 49 = .ok (.getfield 78, 3) := by decide +kernel
theorem dX7_addGrave_52 : decode cX7_addGrave 52 = .ok (.iadd, 1) := by decide +kernel
theorem dX7_addGrave_53 : decode cX7_addGrave 53 = .ok (.iconst 0, 1) := by decide +kernel
theorem dX7_addGrave_54 : decode cX7_addGrave 54 = .ok (.iastore, 1) := by decide +kernel
theorem dX7_addGrave_55 : decode cX7_addGrave 55 = .ok (.aload_n 0, 1) := by decide +kernel
theorem dX7_addGrave_56 : decode cX7_addGrave 56 = .ok (.dup, 1) := by decide +kernel
theorem dX7_addGrave_57 : decode cX7_addGrave 57 = .ok (.getfield 78, 3) := by decide +kernel
theorem dX7_addGrave_60 : decode cX7_addGrave 60 = .ok (.iconst 1, 1) := by decide +kernel
theorem dX7_addGrave_61 : decode cX7_addGrave 61 = .ok (.iadd, 1) := by decide +kernel
theorem dX7_addGrave_62 : decode cX7_addGrave 62 = .ok (.putfield 78, 3) := by decide +kernel
theorem dX7_addGrave_65 : decode cX7_addGrave 65 = .ok (.return_, 1) := by decide +kernel
theorem dX7_grave_0 : decode cX7_grave 0 = .ok (.iload_n 1, 1) := by decide +kernel
theorem dX7_grave_1 : decode cX7_grave 1 = .ok (.i2l, 1) := by decide +kernel
theorem dX7_grave_2 : decode cX7_grave 2 = .ok (.lconst 0, 1) := by decide +kernel
theorem dX7_grave_3 : decode cX7_grave 3 = .ok (.ldc2_w 93, 3) := by decide +kernel
theorem dX7_grave_6 : decode cX7_grave 6 = .ok (.invokestatic 81, 3) := by decide +kernel
theorem dX7_grave_9 : decode cX7_grave 9 = .ok (.ifCond .eq 23, 3) := by decide +kernel
theorem dX7_grave_12 : decode cX7_grave 12 = .ok (.iload_n 2, 1) := by decide +kernel
theorem dX7_grave_13 : decode cX7_grave 13 = .ok (.i2l, 1) := by decide +kernel
theorem dX7_grave_14 : decode cX7_grave 14 = .ok (.invokestatic 95, 3) := by decide +kernel
theorem dX7_grave_17 : decode cX7_grave 17 = .ok (.ifCond .eq 15, 3) := by decide +kernel
theorem dX7_grave_20 : decode cX7_grave 20 = .ok (.iload_n 3, 1) := by decide +kernel
theorem dX7_grave_21 : decode cX7_grave 21 = .ok (.i2l, 1) := by decide +kernel
theorem dX7_grave_22 : decode cX7_grave 22 = .ok (.lconst 0, 1) := by decide +kernel
theorem dX7_grave_23 : decode cX7_grave 23 = .ok (.ldc2_w 99, 3) := by decide +kernel
theorem dX7_grave_26 : decode cX7_grave 26 = .ok (.invokestatic 81, 3) := by decide +kernel
theorem dX7_grave_29 : decode cX7_grave 29 = .ok (.ifCond .ne 5, 3) := by decide +kernel
theorem dX7_grave_32 : decode cX7_grave 32 = .ok (.iconst (-1), 1) := by decide +kernel
theorem dX7_grave_33 : decode cX7_grave 33 = .ok (.ireturn, 1) := by decide +kernel
theorem dX7_grave_34 : decode cX7_grave 34 = .ok (.aload_n 0, 1) := by decide +kernel
theorem dX7_grave_35 : decode cX7_grave 35 = .ok (.getfield 78, 3) := by decide +kernel
theorem dX7_grave_38 : decode cX7_grave 38 = .ok (.bipush 10, 2) := by decide +kernel
theorem dX7_grave_40 : decode cX7_grave 40 = .ok (.if_icmp .ne 6, 3) := by decide +kernel
theorem dX7_grave_43 : decode cX7_grave 43 = .ok (.bipush (-3), 2) := by decide +kernel
theorem dX7_grave_45 : decode cX7_grave 45 = .ok (.ireturn, 1) := by decide +kernel
theorem dX7_grave_46 : decode cX7_grave 46 = .ok (.aload_n 0, 1) := by decide +kernel
theorem dX7_grave_47 : decode cX7_grave 47 = .ok (.iload_n 1, 1) := by decide +kernel
theorem dX7_grave_48 : decode cX7_grave 48 = .ok (.iload_n 2, 1) := by decide +kernel
theorem dX7_grave_49 : decode cX7_grave 49 = .ok (.iload_n 3, 1) := by decide +kernel
theorem dX7_grave_50 : decode cX7_grave 50 = .ok (.invokevirtual 101, 3) := by decide +kernel
theorem dX7_grave_53 : decode cX7_grave 53 = .ok (.aload_n 0, 1) := by decide +kernel
theorem dX7_grave_54 : decode cX7_grave 54 = .ok (.getfield 78, 3) := by decide +kernel
theorem dX7_grave_57 : decode cX7_grave 57 = .ok (.iconst 1, 1) := by decide +kernel
theorem dX7_grave_58 : decode cX7_grave 58 = .ok (.isub, 1) := by decide +kernel
theorem dX7_grave_59 : decode cX7_grave 59 = .ok (.ireturn, 1) := by decide +kernel
theorem dX7_out_0 : decode cX7_out 0 = .ok (.aload_n 0, 1) := by decide +kernel
theorem dX7_out_1 : decode cX7_out 1 = .ok (.getfield 78, 3) := by decide +kernel
theorem dX7_out_4 : decode cX7_out 4 = .ok (.ifCond .ne 6, 3) := by decide +kernel
theorem dX7_out_7 : decode cX7_out 7 = .ok (.bipush (-4), 2) := by decide +kernel
theorem dX7_out_9 : decode cX7_out 9 = .ok (.ireturn, 1) := by decide +kernel
theorem dX7_out_10 : decode cX7_out 10 = .ok (.aload_n 0, 1) := by decide +kernel
theorem dX7_out_11 : decode cX7_out 11 = .ok (.dup, 1) := by decide +kernel
theorem dX7_out_12 : decode cX7_out 12 = .ok (.getfield 78, 3) := by decide +kernel
theorem dX7_out_15 : decode cX7_out 15 = .ok (.iconst 1, 1) := by decide +kernel
theorem dX7_out_16 : decode cX7_out 16 = .ok (.isub, 1) := by decide +kernel
theorem dX7_out_17 : decode cX7_out 17 = .ok (.putfield 78, 3) := by decide +kernel
theorem dX7_out_20 : decode cX7_out 20 = .ok (.aload_n 0, 1) := by decide +kernel
theorem dX7_out_21 : decode cX7_out 21 = .ok (.getfield 38, 3) := by decide +kernel
theorem dX7_out_24 : decode cX7_out 24 = .ok (.iconst 0, 1) := by decide +kernel
theorem dX7_out_25 : decode cX7_out 25 = .ok (.aload_n 0, 1) := by decide +kernel
theorem dX7_out_26 : decode cX7_out 26 = .ok (.getfield 78, 3) := by decide +kernel
theorem dX7_out_29 : decode cX7_out 29 = .ok (.iadd, 1) := by decide +kernel
theorem dX7_out_30 : decode cX7_out 30 = .ok (.iconst 0, 1) := by decide +kernel
theorem dX7_out_31 : decode cX7_out 31 = .ok (.iastore, 1) := by decide +kernel
theorem dX7_out_32 : decode cX7_out 32 = .ok (.aload_n 0, 1) := by decide +kernel
theorem dX7_out_33 : decode cX7_out 33 = .ok (.getfield 38, 3) := by decide +kernel
theorem dX7_out_36 : decode cX7_out 36 = .ok (.bipush 10, 2) := by decide +kernel
theorem dX7_out_38 : decode cX7_out 38 = .ok (.aload_n 0, 1) := by decide +kernel
theorem dX7_out_39 : decode cX7_out 39 = .ok (.getfield 78, 3) := by decide +kernel
theorem dX7_out_42 : decode cX7_out 42 = .ok (.iadd, 1) := by decide +kernel
theorem dX7_out_43 : decode cX7_out 43 = .ok (.iconst 0, 1) := by decide +kernel
theorem dX7_out_44 : decode cX7_out 44 = .ok (.iastore, 1) := by decide +kernel
theorem dX7_out_45 : decode cX7_out 45 = .ok (.aload_n 0, 1) := by decide +kernel
theorem dX7_out_46 : decode cX7_out 46 = .ok (.iconst 0, 1) := by decide +kernel
theorem dX7_out_47 : decode cX7_out 47 = .ok (.putfield 105, 3) := by decide +kernel
theorem dX7_out_50 : decode cX7_out 50 = .ok (.aload_n 0, 1) := by decide +kernel
theorem dX7_out_51 : decode cX7_out 51 = .ok (.getfield 78, 3) := by decide +kernel
theorem dX7_out_54 : decode cX7_out 54 = .ok (.ireturn, 1) := by decide +kernel
theorem dX7_reader_0 : decode cX7_reader 0 = .ok (.iload_n 1, 1) := by decide +kernel
theorem dX7_reader_1 : decode cX7_reader 1 = .ok (.i2l, 1) := by decide +kernel
theorem dX7_reader_2 : decode cX7_reader 2 = .ok (.lconst 0, 1) := by decide +kernel
theorem dX7_reader_3 : decode cX7_reader 3 = .ok (.ldc2_w 108, 3) := by decide +kernel
theorem dX7_reader_6 : decode cX7_reader 6 = .ok (.invokestatic 81, 3) := by decide +kernel
theorem dX7_reader_9 : decode cX7_reader 9 = .ok (.ifCond .ne 5, 3) := by decide +kernel
theorem dX7_reader_12 : decode cX7_reader 12 = .ok (.iconst (-1), 1) := by decide +kernel
theorem dX7_reader_13 : decode cX7_reader 13 = .ok (.ireturn, 1) := by decide +kernel
theorem dX7_reader_14 : decode cX7_reader 14 = .ok (.aload_n 0, 1) := by decide +kernel
theorem dX7_reader_15 : decode cX7_reader 15 = .ok (.getfield 88, 3) := by decide +kernel
theorem dX7_reader_18 : decode cX7_reader 18 = .ok (.iconst 4, 1) := by decide +kernel
theorem dX7_reader_19 : decode cX7_reader 19 = .ok (.if_icmp .ne 6, 3) := by decide +kernel
theorem dX7_reader_22 : decode cX7_reader 22 = .ok (.bipush (-3), 2) := by decide +kernel
theorem dX7_reader_24 : decode cX7_reader 24 = .ok (.ireturn, 1) := by decide +kernel
theorem dX7_reader_25 : decode cX7_reader 25 = .ok (.aload_n 0, 1) := by decide +kernel
theorem dX7_reader_26 : decode cX7_reader 26 = .ok (.getfield 28, 3) := by decide +kernel
theorem dX7_reader_29 : decode cX7_reader 29 = .ok (.aload_n 0, 1) := by decide +kernel
theorem dX7_reader_30 : decode cX7_reader 30 = .ok (.getfield 88, 3) := by decide +kernel
theorem dX7_reader_33 : decode cX7_reader 33 = .ok (.iload_n 1, 1) := by decide +kernel
theorem dX7_reader_34 : decode cX7_reader 34 = .ok (.iastore, 1) := by decide +kernel
theorem dX7_reader_35 : decode cX7_reader 35 = .ok (.aload_n 0, 1) := by decide +kernel
theorem dX7_reader_36 : decode cX7_reader 36 = .ok (.dup, 1) := by decide +kernel
theorem dX7_reader_37 : decode cX7_reader 37 = .ok (.getfield 88, 3) := by decide +kernel
theorem dX7_reader_40 : decode cX7_reader 40 = .ok (.iconst 1, 1) := by decide +kernel
theorem dX7_reader_41 : decode cX7_reader 41 = .ok (.iadd, 1) := by decide +kernel
theorem dX7_reader_42 : decode cX7_reader 42 = .ok (.putfield 88, 3) := by decide +kernel
theorem dX7_reader_45 : decode cX7_reader 45 = .ok (.aload_n 0, 1) := by decide +kernel
theorem dX7_reader_46 : decode cX7_reader 46 = .ok (.getfield 88, 3) := by decide +kernel
theorem dX7_reader_49 : decode cX7_reader 49 = .ok (.iconst 1, 1) := by decide +kernel
theorem dX7_reader_50 : decode cX7_reader 50 = .ok (.isub, 1) := by decide +kernel
theorem dX7_reader_51 : decode cX7_reader 51 = .ok (.ireturn, 1) := by decide +kernel
theorem dX7_mayBeAhead_0 : decode cX7_mayBeAhead 0 = .ok (.iconst 0, 1) := by decide +kernel
theorem dX7_mayBeAhead_1 : decode cX7_mayBeAhead 1 = .ok (.istore_n 2, 1) := by decide +kernel
theorem dX7_mayBeAhead_2 : decode cX7_mayBeAhead 2 = .ok (.iconst 0, 1) := by decide +kernel
theorem dX7_mayBeAhead_3 : decode cX7_mayBeAhead 3 = .ok (.istore_n 3, 1) := by decide +kernel
theorem dX7_mayBeAhead_4 : decode cX7_mayBeAhead 4 = .ok (.iload_n 3, 1) := by decide +kernel
theorem dX7_mayBeAhead_5 : decode cX7_mayBeAhead 5 = .ok (.aload_n 0, 1) := by decide +kernel
theorem dX7_mayBeAhead_6 : decode cX7_mayBeAhead 6 = .ok (.getfield 85, 3) := by decide +kernel
theorem dX7_mayBeAhead_9 : decode cX7_mayBeAhead 9 = .ok (.if_icmp .ge 29, 3) := by decide +kernel
theorem dX7_mayBeAhead_12 : decode cX7_mayBeAhead 12 = .ok (.iload_n 2, 1) := by decide +kernel
theorem dX7_mayBeAhead_13 : decode cX7_mayBeAhead 13 = .ok (.aload_n 0, 1) := by decide +kernel
theorem dX7_mayBeAhead_14 : decode cX7_mayBeAhead 14 = .ok (.getfield 19, 3) := by decide +kernel
theorem dX7_mayBeAhead_17 : decode cX7_mayBeAhead 17 = .ok (.iload_n 3, 1) := by decide +kernel
theorem dX7_mayBeAhead_18 : decode cX7_mayBeAhead 18 = .ok (.iaload, 1) := by decide +kernel
theorem dX7_mayBeAhead_19 : decode cX7_mayBeAhead 19 = .ok (.iload_n 1, 1) := by decide +kernel
theorem dX7_mayBeAhead_20 : decode cX7_mayBeAhead 20 = .ok (.if_icmp .gt 9, 3) := by decide +kernel
theorem dX7_mayBeAhead_23 : decode cX7_mayBeAhead 23 = .ok (.iconst 1, 1) := by decide +kernel
theorem dX7_mayBeAhead_24 : decode cX7_mayBeAhead 24 = .ok (.iload_n 3, 1) := by decide +kernel
theorem dX7_mayBeAhead_25 : decode cX7_mayBeAhead 25 = .ok (.ishl, 1) := by decide +kernel
theorem dX7_mayBeAhead_26 : decode cX7_mayBeAhead 26 = .ok (.goto 4, 3) := by decide +kernel
theorem dX7_mayBeAhead_29 : decode cX7_mayBeAhead 29 = .ok (.iconst 0, 1) := by decide +kernel
theorem dX7_mayBeAhead_30 : decode cX7_mayBeAhead 30 = .ok (.ior, 1) := by decide +kernel
theorem dX7_mayBeAhead_31 : decode cX7_mayBeAhead 31 = .ok (.istore_n 2, 1) := by decide +kernel
theorem dX7_mayBeAhead_32 : decode cX7_mayBeAhead 32 = .ok (.iinc 3 1, 3) := by decide +kernel
theorem dX7_mayBeAhead_35 : decode cX7_mayBeAhead 35 = .ok (.goto (-31), 3) := by decide +kernel
theorem dX7_mayBeAhead_38 : decode cX7_mayBeAhead 38 = .ok (.iload_n 2, 1) := by decide +kernel
theorem dX7_mayBeAhead_39 : decode cX7_mayBeAhead 39 = .ok (.ireturn, 1) := by decide +kernel
theorem dX7_addNews_0 : decode cX7_addNews 0 = .ok (.aload_n 0, 1) := by decide +kernel
theorem dX7_addNews_1 : decode cX7_addNews 1 = .ok (.getfield 19, 3) := by decide +kernel
theorem dX7_addNews_4 : decode cX7_addNews 4 = .ok (.aload_n 0, 1) := by decide +kernel
theorem dX7_addNews_5 : decode cX7_addNews 5 = .ok (.getfield 85, 3) := by decide +kernel
theorem dX7_addNews_8 : decode cX7_addNews 8 = .ok (.iload_n 1, 1) := by decide +kernel
theorem dX7_addNews_9 : decode cX7_addNews 9 = .ok (.iastore, 1) := by decide +kernel
theorem dX7_addNews_10 : decode cX7_addNews 10 = .ok (.aload_n 0, 1) := by decide +kernel
theorem dX7_addNews_11 : decode cX7_addNews 11 = .ok (.getfield 22, 3) := by decide +kernel
theorem dX7_addNews_14 : decode cX7_addNews 14 = .ok (.aload_n 0, 1) := by decide +kernel
theorem dX7_addNews_15 : decode cX7_addNews 15 = .ok (.getfield 85, 3) := by decide +kernel
theorem dX7_addNews_18 : decode cX7_addNews 18 = .ok (.iload_n 2, 1) := by decide +kernel
theorem dX7_addNews_19 : decode cX7_addNews 19 = .ok (.iastore, 1) := by decide +kernel
theorem dX7_addNews_20 : decode cX7_addNews 20 = .ok (.aload_n 0, 1) := by decide +kernel
theorem dX7_addNews_21 : decode cX7_addNews 21 = .ok (.getfield 25, 3) := by decide +kernel
theorem dX7_addNews_24 : decode cX7_addNews 24 = .ok (.aload_n 0, 1) := by decide +kernel
theorem dX7_addNews_25 : decode cX7_addNews 25 = .ok (.getfield 85, 3) := by decide +kernel
theorem dX7_addNews_28 : decode cX7_addNews 28 = .ok (.iload_n 3, 1) := by decide +kernel
theorem dX7_addNews_29 : decode cX7_addNews 29 = .ok (.iastore, 1) := by decide +kernel
theorem dX7_addNews_30 : decode cX7_addNews 30 = .ok (.aload_n 0, 1) := by decide +kernel
theorem dX7_addNews_31 : decode cX7_addNews 31 = .ok (.aload_n 0, 1) := by decide +kernel
theorem dX7_addNews_32 : decode cX7_addNews 32 = .ok (.getfield 110, 3) := by decide +kernel
theorem dX7_addNews_35 : decode cX7_addNews 35 = .ok (.iconst 1, 1) := by decide +kernel
theorem dX7_addNews_36 : decode cX7_addNews 36 = .ok (.aload_n 0, 1) := by decide +kernel
theorem dX7_addNews_37 : decode cX7_addNews 37 = .ok (.getfield 85, 3) := by decide +kernel
theorem dX7_addNews_40 : decode cX7_addNews 40 = .ok (.ishl, 1) := by decide +kernel
theorem dX7_addNews_41 : decode cX7_addNews 41 = .ok (.iconst (-1), 1) := by decide +kernel
theorem dX7_addNews_42 : decode cX7_addNews 42 = .ok (.ixor, 1) := by decide +kernel
theorem dX7_addNews_43 : decode cX7_addNews 43 = .ok (.iand, 1) := by decide +kernel
theorem dX7_addNews_44 : decode cX7_addNews 44 = .ok (.iload 4, 2) := by decide +kernel
theorem dX7_addNews_46 : decode cX7_addNews 46 = .ok (.aload_n 0, 1) := by decide +kernel
theorem dX7_addNews_47 : decode cX7_addNews 47 = .ok (.getfield 85, 3) := by decide +kernel
theorem dX7_addNews_50 : decode cX7_addNews 50 = .ok (.ishl, 1) := by decide +kernel
theorem dX7_addNews_51 : decode cX7_addNews 51 = .ok (.ior, 1) := by decide +kernel
theorem dX7_addNews_52 : decode cX7_addNews 52 = .ok (.putfield 110, 3) := by decide +kernel
theorem dX7_addNews_55 : decode cX7_addNews 55 = .ok (.aload_n 0, 1) := by decide +kernel
theorem dX7_addNews_56 : decode cX7_addNews 56 = .ok (.dup, 1) := by decide +kernel
theorem dX7_addNews_57 : decode cX7_addNews 57 = .ok (.getfield 85, 3) := by decide +kernel
theorem dX7_addNews_60 : decode cX7_addNews 60 = .ok (.iconst 1, 1) := by decide +kernel
theorem dX7_addNews_61 : decode cX7_addNews 61 = .ok (.iadd, 1) := by decide +kernel
theorem dX7_addNews_62 : decode cX7_addNews 62 = .ok (.putfield 85, 3) := by decide +kernel
theorem dX7_addNews_65 : decode cX7_addNews 65 = .ok (.return_, 1) := by decide +kernel
theorem dX7_news_0 : decode cX7_news 0 = .ok (.iload_n 1, 1) := by decide +kernel
theorem dX7_news_1 : decode cX7_news 1 = .ok (.i2l, 1) := by decide +kernel
theorem dX7_news_2 : decode cX7_news 2 = .ok (.lconst 0, 1) := by decide +kernel
theorem dX7_news_3 : decode cX7_news 3 = .ok (.ldc2_w 113, 3) := by decide +kernel
theorem dX7_news_6 : decode cX7_news 6 = .ok (.invokestatic 81, 3) := by decide +kernel
theorem dX7_news_9 : decode cX7_news 9 = .ok (.ifCond .eq 29, 3) := by decide +kernel
theorem dX7_news_12 : decode cX7_news 12 = .ok (.iload_n 2, 1) := by decide +kernel
theorem dX7_news_13 : decode cX7_news 13 = .ok (.ifCond .lt 25, 3) := by decide +kernel
theorem dX7_news_16 : decode cX7_news 16 = .ok (.iload_n 2, 1) := by decide +kernel
theorem dX7_news_17 : decode cX7_news 17 = .ok (.aload_n 0, 1) := by decide +kernel
theorem dX7_news_18 : decode cX7_news 18 = .ok (.iload_n 1, 1) := by decide +kernel
theorem dX7_news_19 : decode cX7_news 19 = .ok (.invokevirtual 115, 3) := by decide +kernel
theorem dX7_news_22 : decode cX7_news 22 = .ok (.iconst (-1), 1) := by decide +kernel
theorem dX7_news_23 : decode cX7_news 23 = .ok (.ixor, 1) := by decide +kernel
theorem dX7_news_24 : decode cX7_news 24 = .ok (.iand, 1) := by decide +kernel
theorem dX7_news_25 : decode cX7_news 25 = .ok (.ifCond .ne 13, 3) := by decide +kernel
theorem dX7_news_28 : decode cX7_news 28 = .ok (.iload_n 3, 1) := by decide +kernel
theorem dX7_news_29 : decode cX7_news 29 = .ok (.i2l, 1) := by decide +kernel
theorem dX7_news_30 : decode cX7_news 30 = .ok (.lconst 0, 1) := by decide +kernel
theorem dX7_news_31 : decode cX7_news 31 = .ok (.lconst 1, 1) := by decide +kernel
theorem dX7_news_32 : decode cX7_news 32 = .ok (.invokestatic 81, 3) := by decide +kernel
theorem dX7_news_35 : decode cX7_news 35 = .ok (.ifCond .ne 5, 3) := by decide +kernel
theorem dX7_news_38 : decode cX7_news 38 = .ok (.iconst (-1), 1) := by decide +kernel
theorem dX7_news_39 : decode cX7_news 39 = .ok (.ireturn, 1) := by decide +kernel
theorem dX7_news_40 : decode cX7_news 40 = .ok (.aload_n 0, 1) := by decide +kernel
theorem dX7_news_41 : decode cX7_news 41 = .ok (.getfield 85, 3) := by decide +kernel
theorem dX7_news_44 : decode cX7_news 44 = .ok (.bipush 12, 2) := by decide +kernel
theorem dX7_news_46 : decode cX7_news 46 = .ok (.if_icmp .ne 6, 3) := by decide +kernel
theorem dX7_news_49 : decode cX7_news 49 = .ok (.bipush (-3), 2) := by decide +kernel
theorem dX7_news_51 : decode cX7_news 51 = .ok (.ireturn, 1) := by decide +kernel
theorem dX7_news_52 : decode cX7_news 52 = .ok (.aload_n 0, 1) := by decide +kernel
theorem dX7_news_53 : decode cX7_news 53 = .ok (.iload_n 1, 1) := by decide +kernel
theorem dX7_news_54 : decode cX7_news 54 = .ok (.iload_n 2, 1) := by decide +kernel
theorem dX7_news_55 : decode cX7_news 55 = .ok (.iconst 0, 1) := by decide +kernel
theorem dX7_news_56 : decode cX7_news 56 = .ok (.iload_n 3, 1) := by decide +kernel
theorem dX7_news_57 : decode cX7_news 57 = .ok (.invokevirtual 119, 3) := by decide +kernel
theorem dX7_news_60 : decode cX7_news 60 = .ok (.aload_n 0, 1) := by decide +kernel
theorem dX7_news_61 : decode cX7_news 61 = .ok (.getfield 85, 3) := by decide +kernel
theorem dX7_news_64 : decode cX7_news 64 = .ok (.iconst 1, 1) := by decide +kernel
theorem dX7_news_65 : decode cX7_news 65 = .ok (.isub, 1) := by decide +kernel
theorem dX7_news_66 : decode cX7_news 66 = .ok (.ireturn, 1) := by decide +kernel
theorem dX7_bar_0 : decode cX7_bar 0 = .ok (.aload_n 0, 1) := by decide +kernel
theorem dX7_bar_1 : decode cX7_bar 1 = .ok (.iload_n 1, 1) := by decide +kernel
theorem dX7_bar_2 : decode cX7_bar 2 = .ok (.i2l, 1) := by decide +kernel
theorem dX7_bar_3 : decode cX7_bar 3 = .ok (.invokevirtual 123, 3) := by decide +kernel
theorem dX7_bar_6 : decode cX7_bar 6 = .ok (.ifCond .eq 15, 3) := by decide +kernel
theorem dX7_bar_9 : decode cX7_bar 9 = .ok (.iload_n 2, 1) := by decide +kernel
theorem dX7_bar_10 : decode cX7_bar 10 = .ok (.i2l, 1) := by decide +kernel
theorem dX7_bar_11 : decode cX7_bar 11 = .ok (.lconst 0, 1) := by decide +kernel
theorem dX7_bar_12 : decode cX7_bar 12 = .ok (.ldc2_w 126, 3) := by decide +kernel
theorem dX7_bar_15 : decode cX7_bar 15 = .ok (.invokestatic 81, 3) := by decide +kernel
theorem dX7_bar_18 : decode cX7_bar 18 = .ok (.ifCond .ne 5, 3) := by decide +kernel
theorem dX7_bar_21 : decode cX7_bar 21 = .ok (.iconst (-1), 1) := by decide +kernel
theorem dX7_bar_22 : decode cX7_bar 22 = .ok (.ireturn, 1) := by decide +kernel
theorem dX7_bar_23 : decode cX7_bar 23 = .ok (.aload_n 0, 1) := by decide +kernel
theorem dX7_bar_24 : decode cX7_bar 24 = .ok (.getfield 25, 3) := by decide +kernel
theorem dX7_bar_27 : decode cX7_bar 27 = .ok (.iload_n 1, 1) := by decide +kernel
theorem dX7_bar_28 : decode cX7_bar 28 = .ok (.iaload, 1) := by decide +kernel
theorem dX7_bar_29 : decode cX7_bar 29 = .ok (.istore_n 3, 1) := by decide +kernel
theorem dX7_bar_30 : decode cX7_bar 30 = .ok (.aload_n 0, 1) := by decide +kernel
theorem dX7_bar_31 : decode cX7_bar 31 = .ok (.getfield 25, 3) := by decide +kernel
theorem dX7_bar_34 : decode cX7_bar 34 = .ok (.iload_n 1, 1) := by decide +kernel
theorem dX7_bar_35 : decode cX7_bar 35 = .ok (.iload_n 2, 1) := by decide +kernel
theorem dX7_bar_36 : decode cX7_bar 36 = .ok (.iastore, 1) := by decide +kernel
theorem dX7_bar_37 : decode cX7_bar 37 = .ok (.iload_n 3, 1) := by decide +kernel
theorem dX7_bar_38 : decode cX7_bar 38 = .ok (.ireturn, 1) := by decide +kernel
theorem dX7_wind_0 : decode cX7_wind 0 = .ok (.iload_n 1, 1) := by decide +kernel
theorem dX7_wind_1 : decode cX7_wind 1 = .ok (.i2l, 1) := by decide +kernel
theorem dX7_wind_2 : decode cX7_wind 2 = .ok (.lconst 0, 1) := by decide +kernel
theorem dX7_wind_3 : decode cX7_wind 3 = .ok (.ldc2_w 128, 3) := by decide +kernel
theorem dX7_wind_6 : decode cX7_wind 6 = .ok (.invokestatic 81, 3) := by decide +kernel
theorem dX7_wind_9 : decode cX7_wind 9 = .ok (.ifCond .ne 5, 3) := by decide +kernel
theorem dX7_wind_12 : decode cX7_wind 12 = .ok (.iconst (-1), 1) := by decide +kernel
theorem dX7_wind_13 : decode cX7_wind 13 = .ok (.ireturn, 1) := by decide +kernel
theorem dX7_wind_14 : decode cX7_wind 14 = .ok (.aload_n 0, 1) := by decide +kernel
theorem dX7_wind_15 : decode cX7_wind 15 = .ok (.getfield 130, 3) := by decide +kernel
theorem dX7_wind_18 : decode cX7_wind 18 = .ok (.istore_n 2, 1) := by decide +kernel
theorem dX7_wind_19 : decode cX7_wind 19 = .ok (.aload_n 0, 1) := by decide +kernel
theorem dX7_wind_20 : decode cX7_wind 20 = .ok (.iload_n 1, 1) := by decide +kernel
theorem dX7_wind_21 : decode cX7_wind 21 = .ok (.putfield 130, 3) := by decide +kernel
theorem dX7_wind_24 : decode cX7_wind 24 = .ok (.iload_n 2, 1) := by decide +kernel
theorem dX7_wind_25 : decode cX7_wind 25 = .ok (.ireturn, 1) := by decide +kernel
theorem dX7_weight_0 : decode cX7_weight 0 = .ok (.iload_n 1, 1) := by decide +kernel
theorem dX7_weight_1 : decode cX7_weight 1 = .ok (.i2l, 1) := by decide +kernel
theorem dX7_weight_2 : decode cX7_weight 2 = .ok (.lconst 0, 1) := by decide +kernel
theorem dX7_weight_3 : decode cX7_weight 3 = .ok (.ldc2_w 128, 3) := by decide +kernel
theorem dX7_weight_6 : decode cX7_weight 6 = .ok (.invokestatic 81, 3) := by decide +kernel
theorem dX7_weight_9 : decode cX7_weight 9 = .ok (.ifCond .eq 15, 3) := by decide +kernel
theorem dX7_weight_12 : decode cX7_weight 12 = .ok (.iload_n 2, 1) := by decide +kernel
theorem dX7_weight_13 : decode cX7_weight 13 = .ok (.i2l, 1) := by decide +kernel
theorem dX7_weight_14 : decode cX7_weight 14 = .ok (.lconst 0, 1) := by decide +kernel
theorem dX7_weight_15 : decode cX7_weight 15 = .ok (.ldc2_w 108, 3) := by decide +kernel
theorem dX7_weight_18 : decode cX7_weight 18 = .ok (.invokestatic 81, 3) := by decide +kernel
theorem dX7_weight_21 : decode cX7_weight 21 = .ok (.ifCond .ne 5, 3) := by decide +kernel
theorem dX7_weight_24 : decode cX7_weight 24 = .ok (.iconst (-1), 1) := by decide +kernel
theorem dX7_weight_25 : decode cX7_weight 25 = .ok (.ireturn, 1) := by decide +kernel
theorem dX7_weight_26 : decode cX7_weight 26 = .ok (.aload_n 0, 1) := by decide +kernel
theorem dX7_weight_27 : decode cX7_weight 27 = .ok (.getfield 31, 3) := by decide +kernel
theorem dX7_weight_30 : decode cX7_weight 30 = .ok (.iload_n 1, 1) := by decide +kernel
theorem dX7_weight_31 : decode cX7_weight 31 = .ok (.iaload, 1) := by decide +kernel
theorem dX7_weight_32 : decode cX7_weight 32 = .ok (.istore_n 3, 1) := by decide +kernel
theorem dX7_weight_33 : decode cX7_weight 33 = .ok (.aload_n 0, 1) := by decide +kernel
theorem dX7_weight_34 : decode cX7_weight 34 = .ok (.getfield 31, 3) := by decide +kernel
theorem dX7_weight_37 : decode cX7_weight 37 = .ok (.iload_n 1, 1) := by decide +kernel
theorem dX7_weight_38 : decode cX7_weight 38 = .ok (.iload_n 2, 1) := by decide +kernel
theorem dX7_weight_39 : decode cX7_weight 39 = .ok (.iastore, 1) := by decide +kernel
theorem dX7_weight_40 : decode cX7_weight 40 = .ok (.iload_n 3, 1) := by decide +kernel
theorem dX7_weight_41 : decode cX7_weight 41 = .ok (.ireturn, 1) := by decide +kernel
theorem dX7_now_0 : decode cX7_now 0 = .ok (.iload_n 1, 1) := by decide +kernel
theorem dX7_now_1 : decode cX7_now 1 = .ok (.i2l, 1) := by decide +kernel
theorem dX7_now_2 : decode cX7_now 2 = .ok (.lconst 0, 1) := by decide +kernel
theorem dX7_now_3 : decode cX7_now 3 = .ok (.ldc2_w 113, 3) := by decide +kernel
theorem dX7_now_6 : decode cX7_now 6 = .ok (.invokestatic 81, 3) := by decide +kernel
theorem dX7_now_9 : decode cX7_now 9 = .ok (.ifCond .ne 5, 3) := by decide +kernel
theorem dX7_now_12 : decode cX7_now 12 = .ok (.iconst (-1), 1) := by decide +kernel
theorem dX7_now_13 : decode cX7_now 13 = .ok (.ireturn, 1) := by decide +kernel
theorem dX7_now_14 : decode cX7_now 14 = .ok (.aload_n 0, 1) := by decide +kernel
theorem dX7_now_15 : decode cX7_now 15 = .ok (.getfield 133, 3) := by decide +kernel
theorem dX7_now_18 : decode cX7_now 18 = .ok (.istore_n 2, 1) := by decide +kernel
theorem dX7_now_19 : decode cX7_now 19 = .ok (.aload_n 0, 1) := by decide +kernel
theorem dX7_now_20 : decode cX7_now 20 = .ok (.iload_n 1, 1) := by decide +kernel
theorem dX7_now_21 : decode cX7_now 21 = .ok (.putfield 133, 3) := by decide +kernel
theorem dX7_now_24 : decode cX7_now 24 = .ok (.iload_n 2, 1) := by decide +kernel
theorem dX7_now_25 : decode cX7_now 25 = .ok (.ireturn, 1) := by decide +kernel
theorem dX7_off_0 : decode cX7_off 0 = .ok (.iload_n 0, 1) := by decide +kernel
theorem dX7_off_1 : decode cX7_off 1 = .ok (.iload_n 1, 1) := by decide +kernel
theorem dX7_off_2 : decode cX7_off 2 = .ok (.if_icmp .le 9, 3) := by decide +kernel
theorem dX7_off_5 : decode cX7_off 5 = .ok (.iload_n 0, 1) := by decide +kernel
theorem dX7_off_6 : decode cX7_off 6 = .ok (.iload_n 1, 1) := by decide +kernel
theorem dX7_off_7 : decode cX7_off 7 = .ok (.isub, 1) := by decide +kernel
theorem dX7_off_8 : decode cX7_off 8 = .ok (.goto 6, 3) := by decide +kernel
theorem dX7_off_11 : decode cX7_off 11 = .ok (.iload_n 1, 1) := by decide +kernel
theorem dX7_off_12 : decode cX7_off 12 = .ok (.iload_n 0, 1) := by decide +kernel
theorem dX7_off_13 : decode cX7_off 13 = .ok (.isub, 1) := by decide +kernel
theorem dX7_off_14 : decode cX7_off 14 = .ok (.ireturn, 1) := by decide +kernel
theorem dX7_sign_0 : decode cX7_sign 0 = .ok (.iload_n 0, 1) := by decide +kernel
theorem dX7_sign_1 : decode cX7_sign 1 = .ok (.ifCond .le 7, 3) := by decide +kernel
theorem dX7_sign_4 : decode cX7_sign 4 = .ok (.iconst 1, 1) := by decide +kernel
theorem dX7_sign_5 : decode cX7_sign 5 = .ok (.goto 12, 3) := by decide +kernel
theorem dX7_sign_8 : decode cX7_sign 8 = .ok (.iload_n 0, 1) := by decide +kernel
theorem dX7_sign_9 : decode cX7_sign 9 = .ok (.ifCond .ge 7, 3) := by decide +kernel
theorem dX7_sign_12 : decode cX7_sign 12 = .ok (.iconst (-1), 1) := by decide +kernel
theorem dX7_sign_13 : decode cX7_sign 13 = .ok (.goto 4, 3) := by decide +kernel
theorem dX7_sign_16 : decode cX7_sign 16 = .ok (.iconst 0, 1) := by decide +kernel
theorem dX7_sign_17 : decode cX7_sign 17 = .ok (.ireturn, 1) := by decide +kernel
theorem dX7_far_0 : decode cX7_far 0 = .ok (.iload_n 1, 1) := by decide +kernel
theorem dX7_far_1 : decode cX7_far 1 = .ok (.bipush 6, 2) := by decide +kernel
theorem dX7_far_3 : decode cX7_far 3 = .ok (.idiv, 1) := by decide +kernel
theorem dX7_far_4 : decode cX7_far 4 = .ok (.iload_n 0, 1) := by decide +kernel
theorem dX7_far_5 : decode cX7_far 5 = .ok (.bipush 6, 2) := by decide +kernel
theorem dX7_far_7 : decode cX7_far 7 = .ok (.idiv, 1) := by decide +kernel
theorem dX7_far_8 : decode cX7_far 8 = .ok (.isub, 1) := by decide +kernel
theorem dX7_far_9 : decode cX7_far 9 = .ok (.istore_n 3, 1) := by decide +kernel
theorem dX7_far_10 : decode cX7_far 10 = .ok (.iload_n 1, 1) := by decide +kernel
theorem dX7_far_11 : decode cX7_far 11 = .ok (.bipush 6, 2) := by decide +kernel
theorem dX7_far_13 : decode cX7_far 13 = .ok (.irem, 1) := by decide +kernel
theorem dX7_far_14 : decode cX7_far 14 = .ok (.iload_n 0, 1) := by decide +kernel
theorem dX7_far_15 : decode cX7_far 15 = .ok (.bipush 6, 2) := by decide +kernel
theorem dX7_far_17 : decode cX7_far 17 = .ok (.irem, 1) := by decide +kernel
theorem dX7_far_18 : decode cX7_far 18 = .ok (.isub, 1) := by decide +kernel
theorem dX7_far_19 : decode cX7_far 19 = .ok (.istore 4, 2) := by decide +kernel
theorem dX7_far_21 : decode cX7_far 21 = .ok (.iload_n 2, 1) := by decide +kernel
theorem dX7_far_22 : decode cX7_far 22 = .ok (.iconst 1, 1) := by decide +kernel
theorem dX7_far_23 : decode cX7_far 23 = .ok (.if_icmp .ne 11, 3) := by decide +kernel
theorem dX7_far_26 : decode cX7_far 26 = .ok (.iload_n 3, 1) := by decide +kernel
theorem dX7_far_27 : decode cX7_far 27 = .ok (.invokestatic 136, 3) := by decide +kernel
theorem dX7_far_30 : decode cX7_far 30 = .ok (.ineg, 1) := by decide +kernel
theorem dX7_far_31 : decode cX7_far 31 = .ok (.goto 43, 3) := by decide +kernel
theorem dX7_far_34 : decode cX7_far 34 = .ok (.iload_n 2, 1) := by decide +kernel
theorem dX7_far_35 : decode cX7_far 35 = .ok (.iconst 2, 1) := by decide +kernel
theorem dX7_far_36 : decode cX7_far 36 = .ok (.if_icmp .ne 11, 3) := by decide +kernel
theorem dX7_far_39 : decode cX7_far 39 = .ok (.iload 4, 2) := by decide +kernel
theorem dX7_far_41 : decode cX7_far 41 = .ok (.invokestatic 136, 3) := by decide +kernel
theorem dX7_far_44 : decode cX7_far 44 = .ok (.goto 30, 3) := by decide +kernel
theorem dX7_far_47 : decode cX7_far 47 = .ok (.iload_n 2, 1) := by decide +kernel
theorem dX7_far_48 : decode cX7_far 48 = .ok (.iconst 3, 1) := by decide +kernel
theorem dX7_far_49 : decode cX7_far 49 = .ok (.if_icmp .ne 10, 3) := by decide +kernel
theorem dX7_far_52 : decode cX7_far 52 = .ok (.iload_n 3, 1) := by decide +kernel
theorem dX7_far_53 : decode cX7_far 53 = .ok (.invokestatic 136, 3) := by decide +kernel
theorem dX7_far_56 : decode cX7_far 56 = .ok (.goto 18, 3) := by decide +kernel
theorem dX7_far_59 : decode cX7_far 59 = .ok (.iload_n 2, 1) := by decide +kernel
theorem dX7_far_60 : decode cX7_far 60 = .ok (.iconst 4, 1) := by decide +kernel
theorem dX7_far_61 : decode cX7_far 61 = .ok (.if_icmp .ne 12, 3) := by decide +kernel
theorem dX7_far_64 : decode cX7_far 64 = .ok (.iload 4, 2) := by decide +kernel
theorem dX7_far_66 : decode cX7_far 66 = .ok (.invokestatic 136, 3) := by decide +kernel
theorem dX7_far_69 : decode cX7_far 69 = .ok (.ineg, 1) := by decide +kernel
theorem dX7_far_70 : decode cX7_far 70 = .ok (.goto 4, 3) := by decide +kernel
theorem dX7_far_73 : decode cX7_far 73 = .ok (.iconst 0, 1) := by decide +kernel
theorem dX7_far_74 : decode cX7_far 74 = .ok (.istore 5, 2) := by decide +kernel
theorem dX7_far_76 : decode cX7_far 76 = .ok (.iload_n 3, 1) := by decide +kernel
theorem dX7_far_77 : decode cX7_far 77 = .ok (.iconst 0, 1) := by decide +kernel
theorem dX7_far_78 : decode cX7_far 78 = .ok (.invokestatic 139, 3) := by decide +kernel
theorem dX7_far_81 : decode cX7_far 81 = .ok (.iload 4, 2) := by decide +kernel
theorem dX7_far_83 : decode cX7_far 83 = .ok (.iconst 0, 1) := by decide +kernel
theorem dX7_far_84 : decode cX7_far 84 = .ok (.invokestatic 139, 3) := by decide +kernel
theorem dX7_far_87 : decode cX7_far 87 = .ok (.iadd, 1) := by decide +kernel
theorem dX7_far_88 : decode cX7_far 88 = .ok (.iload 5, 2) := by decide +kernel
theorem dX7_far_90 : decode cX7_far 90 = .ok (.isub, 1) := by decide +kernel
theorem dX7_far_91 : decode cX7_far 91 = .ok (.ireturn, 1) := by decide +kernel
theorem dX7_hearsOne_0 : decode cX7_hearsOne 0 = .ok (.aload_n 0, 1) := by decide +kernel
theorem dX7_hearsOne_1 : decode cX7_hearsOne 1 = .ok (.getfield 7, 3) := by decide +kernel
theorem dX7_hearsOne_4 : decode cX7_hearsOne 4 = .ok (.iload_n 1, 1) := by decide +kernel
theorem dX7_hearsOne_5 : decode cX7_hearsOne 5 = .ok (.iaload, 1) := by decide +kernel
theorem dX7_hearsOne_6 : decode cX7_hearsOne 6 = .ok (.istore 5, 2) := by decide +kernel
theorem dX7_hearsOne_8 : decode cX7_hearsOne 8 = .ok (.iload 5, 2) := by decide +kernel
theorem dX7_hearsOne_10 : decode cX7_hearsOne 10 = .ok (.iconst 1, 1) := by decide +kernel
theorem dX7_hearsOne_11 : decode cX7_hearsOne 11 = .ok (.if_icmp .eq 9, 3) := by decide +kernel
theorem dX7_hearsOne_14 : decode cX7_hearsOne 14 = .ok (.iload 5, 2) := by decide +kernel
theorem dX7_hearsOne_16 : decode cX7_hearsOne 16 = .ok (.iconst 4, 1) := by decide +kernel
theorem dX7_hearsOne_17 : decode cX7_hearsOne 17 = .ok (.if_icmp .ne 9, 3) := by decide +kernel
theorem dX7_hearsOne_20 : decode cX7_hearsOne 20 = .ok (.iload_n 2, 1) := by decide +kernel
theorem dX7_hearsOne_21 : decode cX7_hearsOne 21 = .ok (.iconst 1, 1) := by decide +kernel
theorem dX7_hearsOne_22 : decode cX7_hearsOne 22 = .ok (.isub, 1) := by decide +kernel
theorem dX7_hearsOne_23 : decode cX7_hearsOne 23 = .ok (.goto 4, 3) := by decide +kernel
theorem dX7_hearsOne_26 : decode cX7_hearsOne 26 = .ok (.iload_n 2, 1) := by decide +kernel
theorem dX7_hearsOne_27 : decode cX7_hearsOne 27 = .ok (.istore 6, 2) := by decide +kernel
theorem dX7_hearsOne_29 : decode cX7_hearsOne 29 = .ok (.iload 5, 2) := by decide +kernel
theorem dX7_hearsOne_31 : decode cX7_hearsOne 31 = .ok (.iconst 3, 1) := by decide +kernel
theorem dX7_hearsOne_32 : decode cX7_hearsOne 32 = .ok (.if_icmp .eq 41, 3) := by decide +kernel
theorem dX7_hearsOne_35 : decode cX7_hearsOne 35 = .ok (.iload 5, 2) := by decide +kernel
theorem dX7_hearsOne_37 : decode cX7_hearsOne 37 = .ok (.iconst 4, 1) := by decide +kernel
theorem dX7_hearsOne_38 : decode cX7_hearsOne 38 = .ok (.if_icmp .ne 9, 3) := by decide +kernel
theorem dX7_hearsOne_41 : decode cX7_hearsOne 41 = .ok (.iload 4, 2) := by decide +kernel
theorem dX7_hearsOne_43 : decode cX7_hearsOne 43 = .ok (.iconst 3, 1) := by decide +kernel
theorem dX7_hearsOne_44 : decode cX7_hearsOne 44 = .ok (.if_icmp .eq 29, 3) := by decide +kernel
theorem dX7_hearsOne_47 : decode cX7_hearsOne 47 = .ok (.iload 6, 2) := by decide +kernel
theorem dX7_hearsOne_49 : decode cX7_hearsOne 49 = .ok (.ifCond .lt 24, 3) := by decide +kernel
theorem dX7_hearsOne_52 : decode cX7_hearsOne 52 = .ok (.iload_n 3, 1) := by decide +kernel
theorem dX7_hearsOne_53 : decode cX7_hearsOne 53 = .ok (.aload_n 0, 1) := by decide +kernel
theorem dX7_hearsOne_54 : decode cX7_hearsOne 54 = .ok (.getfield 13, 3) := by decide +kernel
theorem dX7_hearsOne_57 : decode cX7_hearsOne 57 = .ok (.iload_n 1, 1) := by decide +kernel
theorem dX7_hearsOne_58 : decode cX7_hearsOne 58 = .ok (.iaload, 1) := by decide +kernel
theorem dX7_hearsOne_59 : decode cX7_hearsOne 59 = .ok (.iload 4, 2) := by decide +kernel
theorem dX7_hearsOne_61 : decode cX7_hearsOne 61 = .ok (.invokestatic 143, 3) := by decide +kernel
theorem dX7_hearsOne_64 : decode cX7_hearsOne 64 = .ok (.iload 6, 2) := by decide +kernel
theorem dX7_hearsOne_66 : decode cX7_hearsOne 66 = .ok (.if_icmp .gt 7, 3) := by decide +kernel
theorem dX7_hearsOne_69 : decode cX7_hearsOne 69 = .ok (.iconst 1, 1) := by decide +kernel
theorem dX7_hearsOne_70 : decode cX7_hearsOne 70 = .ok (.goto 4, 3) := by decide +kernel
theorem dX7_hearsOne_73 : decode cX7_hearsOne 73 = .ok (.iconst 0, 1) := by decide +kernel
theorem dX7_hearsOne_74 : decode cX7_hearsOne 74 = .ok (.ireturn, 1) := by decide +kernel
theorem dX7_hearers_0 : decode cX7_hearers 0 = .ok (.iconst 0, 1) := by decide +kernel
theorem dX7_hearers_1 : decode cX7_hearers 1 = .ok (.istore 4, 2) := by decide +kernel
theorem dX7_hearers_3 : decode cX7_hearers 3 = .ok (.iconst 0, 1) := by decide +kernel
theorem dX7_hearers_4 : decode cX7_hearers 4 = .ok (.istore 5, 2) := by decide +kernel
theorem dX7_hearers_6 : decode cX7_hearers 6 = .ok (.iload 5, 2) := by decide +kernel
theorem dX7_hearers_8 : decode cX7_hearers 8 = .ok (.aload_n 0, 1) := by decide +kernel
theorem dX7_hearers_9 : decode cX7_hearers 9 = .ok (.getfield 78, 3) := by decide +kernel
theorem dX7_hearers_12 : decode cX7_hearers 12 = .ok (.if_icmp .ge 39, 3) := by decide +kernel
theorem dX7_hearers_15 : decode cX7_hearers 15 = .ok (.iload 4, 2) := by decide +kernel
theorem dX7_hearers_17 : decode cX7_hearers 17 = .ok (.aload_n 0, 1) := by decide +kernel
theorem dX7_hearers_18 : decode cX7_hearers 18 = .ok (.iload 5, 2) := by decide +kernel
theorem dX7_hearers_20 : decode cX7_hearers 20 = .ok (.aload_n 0, 1) := by decide +kernel
theorem dX7_hearers_21 : decode cX7_hearers 21 = .ok (.getfield 28, 3) := by decide +kernel
theorem dX7_hearers_24 : decode cX7_hearers 24 = .ok (.iload_n 1, 1) := by decide +kernel
theorem dX7_hearers_25 : decode cX7_hearers 25 = .ok (.iaload, 1) := by decide +kernel
theorem dX7_hearers_26 : decode cX7_hearers 26 = .ok (.iload_n 2, 1) := by decide +kernel
theorem dX7_hearers_27 : decode cX7_hearers 27 = .ok (.iload_n 3, 1) := by decide +kernel
theorem dX7_hearers_28 : decode cX7_hearers 28 = .ok (.invokevirtual 147, 3) := by decide +kernel
theorem dX7_hearers_31 : decode cX7_hearers 31 = .ok (.ifCond .eq 10, 3) := by decide +kernel
theorem dX7_hearers_34 : decode cX7_hearers 34 = .ok (.iconst 1, 1) := by decide +kernel
theorem dX7_hearers_35 : decode cX7_hearers 35 = .ok (.iload 5, 2) := by decide +kernel
theorem dX7_hearers_37 : decode cX7_hearers 37 = .ok (.ishl, 1) := by decide +kernel
theorem dX7_hearers_38 : decode cX7_hearers 38 = .ok (.goto 4, 3) := by decide +kernel
theorem dX7_hearers_41 : decode cX7_hearers 41 = .ok (.iconst 0, 1) := by decide +kernel
theorem dX7_hearers_42 : decode cX7_hearers 42 = .ok (.ior, 1) := by decide +kernel
theorem dX7_hearers_43 : decode cX7_hearers 43 = .ok (.istore 4, 2) := by decide +kernel
theorem dX7_hearers_45 : decode cX7_hearers 45 = .ok (.iinc 5 1, 3) := by decide +kernel
theorem dX7_hearers_48 : decode cX7_hearers 48 = .ok (.goto (-42), 3) := by decide +kernel
theorem dX7_hearers_51 : decode cX7_hearers 51 = .ok (.iload 4, 2) := by decide +kernel
theorem dX7_hearers_53 : decode cX7_hearers 53 = .ok (.ireturn, 1) := by decide +kernel
theorem dX7_isOwed_0 : decode cX7_isOwed 0 = .ok (.aload_n 0, 1) := by decide +kernel
theorem dX7_isOwed_1 : decode cX7_isOwed 1 = .ok (.getfield 7, 3) := by decide +kernel
theorem dX7_isOwed_4 : decode cX7_isOwed 4 = .ok (.iload_n 1, 1) := by decide +kernel
theorem dX7_isOwed_5 : decode cX7_isOwed 5 = .ok (.iaload, 1) := by decide +kernel
theorem dX7_isOwed_6 : decode cX7_isOwed 6 = .ok (.istore_n 3, 1) := by decide +kernel
theorem dX7_isOwed_7 : decode cX7_isOwed 7 = .ok (.aload_n 0, 1) := by decide +kernel
theorem dX7_isOwed_8 : decode cX7_isOwed 8 = .ok (.getfield 19, 3) := by decide +kernel
theorem dX7_isOwed_11 : decode cX7_isOwed 11 = .ok (.iload_n 2, 1) := by decide +kernel
theorem dX7_isOwed_12 : decode cX7_isOwed 12 = .ok (.iaload, 1) := by decide +kernel
theorem dX7_isOwed_13 : decode cX7_isOwed 13 = .ok (.aload_n 0, 1) := by decide +kernel
theorem dX7_isOwed_14 : decode cX7_isOwed 14 = .ok (.getfield 16, 3) := by decide +kernel
theorem dX7_isOwed_17 : decode cX7_isOwed 17 = .ok (.iload_n 1, 1) := by decide +kernel
theorem dX7_isOwed_18 : decode cX7_isOwed 18 = .ok (.iaload, 1) := by decide +kernel
theorem dX7_isOwed_19 : decode cX7_isOwed 19 = .ok (.isub, 1) := by decide +kernel
theorem dX7_isOwed_20 : decode cX7_isOwed 20 = .ok (.istore 4, 2) := by decide +kernel
theorem dX7_isOwed_22 : decode cX7_isOwed 22 = .ok (.iload 4, 2) := by decide +kernel
theorem dX7_isOwed_24 : decode cX7_isOwed 24 = .ok (.ifCond .ne 7, 3) := by decide +kernel
theorem dX7_isOwed_27 : decode cX7_isOwed 27 = .ok (.iconst 1, 1) := by decide +kernel
theorem dX7_isOwed_28 : decode cX7_isOwed 28 = .ok (.goto 4, 3) := by decide +kernel
theorem dX7_isOwed_31 : decode cX7_isOwed 31 = .ok (.iconst 0, 1) := by decide +kernel
theorem dX7_isOwed_32 : decode cX7_isOwed 32 = .ok (.istore 5, 2) := by decide +kernel
theorem dX7_isOwed_34 : decode cX7_isOwed 34 = .ok (.iload 4, 2) := by decide +kernel
theorem dX7_isOwed_36 : decode cX7_isOwed 36 = .ok (.i2l, 1) := by decide +kernel
theorem dX7_isOwed_37 : decode cX7_isOwed 37 = .ok (.lconst 0, 1) := by decide +kernel
theorem dX7_isOwed_38 : decode cX7_isOwed 38 = .ok (.ldc2_w 151, 3) := by decide +kernel
theorem dX7_isOwed_41 : decode cX7_isOwed 41 = .ok (.invokestatic 81, 3) := by decide +kernel
theorem dX7_isOwed_44 : decode cX7_isOwed 44 = .ok (.istore 6, 2) := by decide +kernel
theorem dX7_isOwed_46 : decode cX7_isOwed 46 = .ok (.iload_n 3, 1) := by decide +kernel
theorem dX7_isOwed_47 : decode cX7_isOwed 47 = .ok (.iconst 3, 1) := by decide +kernel
theorem dX7_isOwed_48 : decode cX7_isOwed 48 = .ok (.if_icmp .ne 7, 3) := by decide +kernel
theorem dX7_isOwed_51 : decode cX7_isOwed 51 = .ok (.iconst 0, 1) := by decide +kernel
theorem dX7_isOwed_52 : decode cX7_isOwed 52 = .ok (.goto 91, 3) := by decide +kernel
theorem dX7_isOwed_55 : decode cX7_isOwed 55 = .ok (.iload_n 3, 1) := by decide +kernel
theorem dX7_isOwed_56 : decode cX7_isOwed 56 = .ok (.iconst 2, 1) := by decide +kernel
theorem dX7_isOwed_57 : decode cX7_isOwed 57 = .ok (.if_icmp .ne 27, 3) := by decide +kernel
theorem dX7_isOwed_60 : decode cX7_isOwed 60 = .ok (.iload 6, 2) := by decide +kernel
theorem dX7_isOwed_62 : decode cX7_isOwed 62 = .ok (.ifCond .eq 18, 3) := by decide +kernel
theorem dX7_isOwed_65 : decode cX7_isOwed 65 = .ok (.aload_n 0, 1) := by decide +kernel
theorem dX7_isOwed_66 : decode cX7_isOwed 66 = .ok (.getfield 110, 3) := by decide +kernel
theorem dX7_isOwed_69 : decode cX7_isOwed 69 = .ok (.iload_n 2, 1) := by decide +kernel
theorem dX7_isOwed_70 : decode cX7_isOwed 70 = .ok (.invokestatic 153, 3) := by decide +kernel
theorem dX7_isOwed_73 : decode cX7_isOwed 73 = .ok (.ifCond .eq 7, 3) := by decide +kernel
theorem dX7_isOwed_76 : decode cX7_isOwed 76 = .ok (.iconst 1, 1) := by decide +kernel
theorem dX7_isOwed_77 : decode cX7_isOwed 77 = .ok (.goto 66, 3) := by decide +kernel
theorem dX7_isOwed_80 : decode cX7_isOwed 80 = .ok (.iconst 0, 1) := by decide +kernel
theorem dX7_isOwed_81 : decode cX7_isOwed 81 = .ok (.goto 62, 3) := by decide +kernel
theorem dX7_isOwed_84 : decode cX7_isOwed 84 = .ok (.iload_n 3, 1) := by decide +kernel
theorem dX7_isOwed_85 : decode cX7_isOwed 85 = .ok (.iconst 5, 1) := by decide +kernel
theorem dX7_isOwed_86 : decode cX7_isOwed 86 = .ok (.if_icmp .ne 32, 3) := by decide +kernel
theorem dX7_isOwed_89 : decode cX7_isOwed 89 = .ok (.iload 5, 2) := by decide +kernel
theorem dX7_isOwed_91 : decode cX7_isOwed 91 = .ok (.ifCond .ne 19, 3) := by decide +kernel
theorem dX7_isOwed_94 : decode cX7_isOwed 94 = .ok (.iload 6, 2) := by decide +kernel
theorem dX7_isOwed_96 : decode cX7_isOwed 96 = .ok (.ifCond .eq 18, 3) := by decide +kernel
theorem dX7_isOwed_99 : decode cX7_isOwed 99 = .ok (.aload_n 0, 1) := by decide +kernel
theorem dX7_isOwed_100 : decode cX7_isOwed 100 = .ok (.getfield 110, 3) := by decide +kernel
theorem dX7_isOwed_103 : decode cX7_isOwed 103 = .ok (.iload_n 2, 1) := by decide +kernel
theorem dX7_isOwed_104 : decode cX7_isOwed 104 = .ok (.invokestatic 153, 3) := by decide +kernel
theorem dX7_isOwed_107 : decode cX7_isOwed 107 = .ok (.ifCond .eq 7, 3) := by decide +kernel
theorem dX7_isOwed_110 : decode cX7_isOwed 110 = .ok (.iconst 1, 1) := by decide +kernel
theorem dX7_isOwed_111 : decode cX7_isOwed 111 = .ok (.goto 32, 3) := by decide +kernel
theorem dX7_isOwed_114 : decode cX7_isOwed 114 = .ok (.iconst 0, 1) := by decide +kernel
theorem dX7_isOwed_115 : decode cX7_isOwed 115 = .ok (.goto 28, 3) := by decide +kernel
theorem dX7_isOwed_118 : decode cX7_isOwed 118 = .ok (.iload_n 3, 1) := by decide +kernel
theorem dX7_isOwed_119 : decode cX7_isOwed 119 = .ok (.iconst 4, 1) := by decide +kernel
theorem dX7_isOwed_120 : decode cX7_isOwed 120 = .ok (.if_icmp .ne 21, 3) := by decide +kernel
theorem dX7_isOwed_123 : decode cX7_isOwed 123 = .ok (.iload 6, 2) := by decide +kernel
theorem dX7_isOwed_125 : decode cX7_isOwed 125 = .ok (.ifCond .eq 12, 3) := by decide +kernel
theorem dX7_isOwed_128 : decode cX7_isOwed 128 = .ok (.iload 5, 2) := by decide +kernel
theorem dX7_isOwed_130 : decode cX7_isOwed 130 = .ok (.ifCond .ne 7, 3) := by decide +kernel
theorem dX7_isOwed_133 : decode cX7_isOwed 133 = .ok (.iconst 1, 1) := by decide +kernel
theorem dX7_isOwed_134 : decode cX7_isOwed 134 = .ok (.goto 9, 3) := by decide +kernel
theorem dX7_isOwed_137 : decode cX7_isOwed 137 = .ok (.iconst 0, 1) := by decide +kernel
theorem dX7_isOwed_138 : decode cX7_isOwed 138 = .ok (.goto 5, 3) := by decide +kernel
theorem dX7_isOwed_141 : decode cX7_isOwed 141 = .ok (.iload 6, 2) := by decide +kernel
theorem dX7_isOwed_143 : decode cX7_isOwed 143 = .ok (.istore 7, 2) := by decide +kernel
theorem dX7_isOwed_145 : decode cX7_isOwed 145 = .ok (.iload 7, 2) := by decide +kernel
theorem dX7_isOwed_147 : decode cX7_isOwed 147 = .ok (.ifCond .eq 20, 3) := by decide +kernel
theorem dX7_isOwed_150 : decode cX7_isOwed 150 = .ok (.aload_n 0, 1) := by decide +kernel
theorem dX7_isOwed_151 : decode cX7_isOwed 151 = .ok (.getfield 25, 3) := by decide +kernel
theorem dX7_isOwed_154 : decode cX7_isOwed 154 = .ok (.iload_n 2, 1) := by decide +kernel
theorem dX7_isOwed_155 : decode cX7_isOwed 155 = .ok (.iaload, 1) := by decide +kernel
theorem dX7_isOwed_156 : decode cX7_isOwed 156 = .ok (.iload_n 1, 1) := by decide +kernel
theorem dX7_isOwed_157 : decode cX7_isOwed 157 = .ok (.invokestatic 153, 3) := by decide +kernel
theorem dX7_isOwed_160 : decode cX7_isOwed 160 = .ok (.ifCond .ne 7, 3) := by decide +kernel
theorem dX7_isOwed_163 : decode cX7_isOwed 163 = .ok (.iconst 1, 1) := by decide +kernel
theorem dX7_isOwed_164 : decode cX7_isOwed 164 = .ok (.goto 4, 3) := by decide +kernel
theorem dX7_isOwed_167 : decode cX7_isOwed 167 = .ok (.iconst 0, 1) := by decide +kernel
theorem dX7_isOwed_168 : decode cX7_isOwed 168 = .ok (.ireturn, 1) := by decide +kernel
theorem dX7_owedTo_0 : decode cX7_owedTo 0 = .ok (.iconst 0, 1) := by decide +kernel
theorem dX7_owedTo_1 : decode cX7_owedTo 1 = .ok (.istore_n 2, 1) := by decide +kernel
theorem dX7_owedTo_2 : decode cX7_owedTo 2 = .ok (.iconst 0, 1) := by decide +kernel
theorem dX7_owedTo_3 : decode cX7_owedTo 3 = .ok (.istore_n 3, 1) := by decide +kernel
theorem dX7_owedTo_4 : decode cX7_owedTo 4 = .ok (.iload_n 3, 1) := by decide +kernel
theorem dX7_owedTo_5 : decode cX7_owedTo 5 = .ok (.aload_n 0, 1) := by decide +kernel
theorem dX7_owedTo_6 : decode cX7_owedTo 6 = .ok (.getfield 85, 3) := by decide +kernel
theorem dX7_owedTo_9 : decode cX7_owedTo 9 = .ok (.if_icmp .ge 28, 3) := by decide +kernel
theorem dX7_owedTo_12 : decode cX7_owedTo 12 = .ok (.iload_n 2, 1) := by decide +kernel
theorem dX7_owedTo_13 : decode cX7_owedTo 13 = .ok (.aload_n 0, 1) := by decide +kernel
theorem dX7_owedTo_14 : decode cX7_owedTo 14 = .ok (.iload_n 1, 1) := by decide +kernel
theorem dX7_owedTo_15 : decode cX7_owedTo 15 = .ok (.iload_n 3, 1) := by decide +kernel
theorem dX7_owedTo_16 : decode cX7_owedTo 16 = .ok (.invokevirtual 157, 3) := by decide +kernel
theorem dX7_owedTo_19 : decode cX7_owedTo 19 = .ok (.ifCond .eq 9, 3) := by decide +kernel
theorem dX7_owedTo_22 : decode cX7_owedTo 22 = .ok (.iconst 1, 1) := by decide +kernel
theorem dX7_owedTo_23 : decode cX7_owedTo 23 = .ok (.iload_n 3, 1) := by decide +kernel
theorem dX7_owedTo_24 : decode cX7_owedTo 24 = .ok (.ishl, 1) := by decide +kernel
theorem dX7_owedTo_25 : decode cX7_owedTo 25 = .ok (.goto 4, 3) := by decide +kernel
theorem dX7_owedTo_28 : decode cX7_owedTo 28 = .ok (.iconst 0, 1) := by decide +kernel
theorem dX7_owedTo_29 : decode cX7_owedTo 29 = .ok (.ior, 1) := by decide +kernel
theorem dX7_owedTo_30 : decode cX7_owedTo 30 = .ok (.istore_n 2, 1) := by decide +kernel
theorem dX7_owedTo_31 : decode cX7_owedTo 31 = .ok (.iinc 3 1, 3) := by decide +kernel
theorem dX7_owedTo_34 : decode cX7_owedTo 34 = .ok (.goto (-30), 3) := by decide +kernel
theorem dX7_owedTo_37 : decode cX7_owedTo 37 = .ok (.iload_n 2, 1) := by decide +kernel
theorem dX7_owedTo_38 : decode cX7_owedTo 38 = .ok (.ireturn, 1) := by decide +kernel
theorem dX7_arrears_0 : decode cX7_arrears 0 = .ok (.aload_n 0, 1) := by decide +kernel
theorem dX7_arrears_1 : decode cX7_arrears 1 = .ok (.iload_n 1, 1) := by decide +kernel
theorem dX7_arrears_2 : decode cX7_arrears 2 = .ok (.invokevirtual 160, 3) := by decide +kernel
theorem dX7_arrears_5 : decode cX7_arrears 5 = .ok (.aload_n 0, 1) := by decide +kernel
theorem dX7_arrears_6 : decode cX7_arrears 6 = .ok (.getfield 38, 3) := by decide +kernel
theorem dX7_arrears_9 : decode cX7_arrears 9 = .ok (.iconst 0, 1) := by decide +kernel
theorem dX7_arrears_10 : decode cX7_arrears 10 = .ok (.iload_n 1, 1) := by decide +kernel
theorem dX7_arrears_11 : decode cX7_arrears 11 = .ok (.iadd, 1) := by decide +kernel
theorem dX7_arrears_12 : decode cX7_arrears 12 = .ok (.iaload, 1) := by decide +kernel
theorem dX7_arrears_13 : decode cX7_arrears 13 = .ok (.iconst (-1), 1) := by decide +kernel
theorem dX7_arrears_14 : decode cX7_arrears 14 = .ok (.ixor, 1) := by decide +kernel
theorem dX7_arrears_15 : decode cX7_arrears 15 = .ok (.iand, 1) := by decide +kernel
theorem dX7_arrears_16 : decode cX7_arrears 16 = .ok (.ireturn, 1) := by decide +kernel
theorem dX7_isLate_0 : decode cX7_isLate 0 = .ok (.iconst 0, 1) := by decide +kernel
theorem dX7_isLate_1 : decode cX7_isLate 1 = .ok (.istore_n 2, 1) := by decide +kernel
theorem dX7_isLate_2 : decode cX7_isLate 2 = .ok (.iconst 0, 1) := by decide +kernel
theorem dX7_isLate_3 : decode cX7_isLate 3 = .ok (.istore_n 3, 1) := by decide +kernel
theorem dX7_isLate_4 : decode cX7_isLate 4 = .ok (.iload_n 3, 1) := by decide +kernel
theorem dX7_isLate_5 : decode cX7_isLate 5 = .ok (.aload_n 0, 1) := by decide +kernel
theorem dX7_isLate_6 : decode cX7_isLate 6 = .ok (.getfield 85, 3) := by decide +kernel
theorem dX7_isLate_9 : decode cX7_isLate 9 = .ok (.if_icmp .ge 47, 3) := by decide +kernel
theorem dX7_isLate_12 : decode cX7_isLate 12 = .ok (.iload_n 2, 1) := by decide +kernel
theorem dX7_isLate_13 : decode cX7_isLate 13 = .ok (.ifCond .ne 31, 3) := by decide +kernel
theorem dX7_isLate_16 : decode cX7_isLate 16 = .ok (.aload_n 0, 1) := by decide +kernel
theorem dX7_isLate_17 : decode cX7_isLate 17 = .ok (.iload_n 1, 1) := by decide +kernel
theorem dX7_isLate_18 : decode cX7_isLate 18 = .ok (.invokevirtual 163, 3) := by decide +kernel
theorem dX7_isLate_21 : decode cX7_isLate 21 = .ok (.iload_n 3, 1) := by decide +kernel
theorem dX7_isLate_22 : decode cX7_isLate 22 = .ok (.invokestatic 153, 3) := by decide +kernel
theorem dX7_isLate_25 : decode cX7_isLate 25 = .ok (.ifCond .eq 23, 3) := by decide +kernel
theorem dX7_isLate_28 : decode cX7_isLate 28 = .ok (.aload_n 0, 1) := by decide +kernel
theorem dX7_isLate_29 : decode cX7_isLate 29 = .ok (.getfield 19, 3) := by decide +kernel
theorem dX7_isLate_32 : decode cX7_isLate 32 = .ok (.iload_n 3, 1) := by decide +kernel
theorem dX7_isLate_33 : decode cX7_isLate 33 = .ok (.iaload, 1) := by decide +kernel
theorem dX7_isLate_34 : decode cX7_isLate 34 = .ok (.bipush 9, 2) := by decide +kernel
theorem dX7_isLate_36 : decode cX7_isLate 36 = .ok (.iadd, 1) := by decide +kernel
theorem dX7_isLate_37 : decode cX7_isLate 37 = .ok (.aload_n 0, 1) := by decide +kernel
theorem dX7_isLate_38 : decode cX7_isLate 38 = .ok (.getfield 133, 3) := by decide +kernel
theorem dX7_isLate_41 : decode cX7_isLate 41 = .ok (.if_icmp .gt 7, 3) := by decide +kernel
theorem dX7_isLate_44 : decode cX7_isLate 44 = .ok (.iconst 1, 1) := by decide +kernel
theorem dX7_isLate_45 : decode cX7_isLate 45 = .ok (.goto 4, 3) := by decide +kernel
theorem dX7_isLate_48 : decode cX7_isLate 48 = .ok (.iconst 0, 1) := by decide +kernel
theorem dX7_isLate_49 : decode cX7_isLate 49 = .ok (.istore_n 2, 1) := by decide +kernel
theorem dX7_isLate_50 : decode cX7_isLate 50 = .ok (.iinc 3 1, 3) := by decide +kernel
theorem dX7_isLate_53 : decode cX7_isLate 53 = .ok (.goto (-49), 3) := by decide +kernel
theorem dX7_isLate_56 : decode cX7_isLate 56 = .ok (.iload_n 2, 1) := by decide +kernel
theorem dX7_isLate_57 : decode cX7_isLate 57 = .ok (.ireturn, 1) := by decide +kernel
theorem dX7_told_0 : decode cX7_told 0 = .ok (.aload_n 0, 1) := by decide +kernel
theorem dX7_told_1 : decode cX7_told 1 = .ok (.iload_n 1, 1) := by decide +kernel
theorem dX7_told_2 : decode cX7_told 2 = .ok (.invokevirtual 166, 3) := by decide +kernel
theorem dX7_told_5 : decode cX7_told 5 = .ok (.ifCond .ne 5, 3) := by decide +kernel
theorem dX7_told_8 : decode cX7_told 8 = .ok (.iconst (-1), 1) := by decide +kernel
theorem dX7_told_9 : decode cX7_told 9 = .ok (.ireturn, 1) := by decide +kernel
theorem dX7_told_10 : decode cX7_told 10 = .ok (.iload_n 2, 1) := by decide +kernel
theorem dX7_told_11 : decode cX7_told 11 = .ok (.tableswitch 111 0 7 #[45, 52, 59, 66, 75, 81, 87, 97], 45) := by decide +kernel
theorem dX7_told_56 : decode cX7_told 56 = .ok (.aload_n 0, 1) := by decide +kernel
theorem dX7_told_57 : decode cX7_told 57 = .ok (.getfield 7, 3) := by decide +kernel
theorem dX7_told_60 : decode cX7_told 60 = .ok (.iload_n 1, 1) := by decide +kernel
theorem dX7_told_61 : decode cX7_told 61 = .ok (.iaload, 1) := by decide +kernel
theorem dX7_told_62 : decode cX7_told 62 = .ok (.ireturn, 1) := by decide +kernel
theorem dX7_told_63 : decode cX7_told 63 = .ok (.aload_n 0, 1) := by decide +kernel
theorem dX7_told_64 : decode cX7_told 64 = .ok (.getfield 13, 3) := by decide +kernel
theorem dX7_told_67 : decode cX7_told 67 = .ok (.iload_n 1, 1) := by decide +kernel
theorem dX7_told_68 : decode cX7_told 68 = .ok (.iaload, 1) := by decide +kernel
theorem dX7_told_69 : decode cX7_told 69 = .ok (.ireturn, 1) := by decide +kernel
theorem dX7_told_70 : decode cX7_told 70 = .ok (.aload_n 0, 1) := by decide +kernel
theorem dX7_told_71 : decode cX7_told 71 = .ok (.getfield 16, 3) := by decide +kernel
theorem dX7_told_74 : decode cX7_told 74 = .ok (.iload_n 1, 1) := by decide +kernel
theorem dX7_told_75 : decode cX7_told 75 = .ok (.iaload, 1) := by decide +kernel
theorem dX7_told_76 : decode cX7_told 76 = .ok (.ireturn, 1) := by decide +kernel
theorem dX7_told_77 : decode cX7_told 77 = .ok (.aload_n 0, 1) := by decide +kernel
theorem dX7_told_78 : decode cX7_told 78 = .ok (.getfield 38, 3) := by decide +kernel
theorem dX7_told_81 : decode cX7_told 81 = .ok (.iconst 0, 1) := by decide +kernel
theorem dX7_told_82 : decode cX7_told 82 = .ok (.iload_n 1, 1) := by decide +kernel
theorem dX7_told_83 : decode cX7_told 83 = .ok (.iadd, 1) := by decide +kernel
theorem dX7_told_84 : decode cX7_told 84 = .ok (.iaload, 1) := by decide +kernel
theorem dX7_told_85 : decode cX7_told 85 = .ok (.ireturn, 1) := by decide +kernel
theorem dX7_told_86 : decode cX7_told 86 = .ok (.aload_n 0, 1) := by decide +kernel
theorem dX7_told_87 : decode cX7_told 87 = .ok (.iload_n 1, 1) := by decide +kernel
theorem dX7_told_88 : decode cX7_told 88 = .ok (.invokevirtual 160, 3) := by decide +kernel
theorem dX7_told_91 : decode cX7_told 91 = .ok (.ireturn, 1) := by decide +kernel
theorem dX7_told_92 : decode cX7_told 92 = .ok (.aload_n 0, 1) := by decide +kernel
theorem dX7_told_93 : decode cX7_told 93 = .ok (.iload_n 1, 1) := by decide +kernel
theorem dX7_told_94 : decode cX7_told 94 = .ok (.invokevirtual 163, 3) := by decide +kernel
theorem dX7_told_97 : decode cX7_told 97 = .ok (.ireturn, 1) := by decide +kernel
theorem dX7_told_98 : decode cX7_told 98 = .ok (.aload_n 0, 1) := by decide +kernel
theorem dX7_told_99 : decode cX7_told 99 = .ok (.getfield 38, 3) := by decide +kernel
theorem dX7_told_102 : decode cX7_told 102 = .ok (.bipush 10, 2) := by decide +kernel
theorem dX7_told_104 : decode cX7_told 104 = .ok (.iload_n 1, 1) := by decide +kernel
theorem dX7_told_105 : decode cX7_told 105 = .ok (.iadd, 1) := by decide +kernel
theorem dX7_told_106 : decode cX7_told 106 = .ok (.iaload, 1) := by decide +kernel
theorem dX7_told_107 : decode cX7_told 107 = .ok (.ireturn, 1) := by decide +kernel
theorem dX7_told_108 : decode cX7_told 108 = .ok (.aload_n 0, 1) := by decide +kernel
theorem dX7_told_109 : decode cX7_told 109 = .ok (.iload_n 1, 1) := by decide +kernel
theorem dX7_told_110 : decode cX7_told 110 = .ok (.invokevirtual 170, 3) := by decide +kernel
theorem dX7_told_113 : decode cX7_told 113 = .ok (.ifCond .eq 7, 3) := by decide +kernel
theorem dX7_told_116 : decode cX7_told 116 = .ok (.iconst 1, 1) := by decide +kernel
theorem dX7_told_117 : decode cX7_told 117 = .ok (.goto 4, 3) := by decide +kernel
theorem dX7_told_120 : decode cX7_told 120 = .ok (.iconst 0, 1) := by decide +kernel
theorem dX7_told_121 : decode cX7_told 121 = .ok (.ireturn, 1) := by decide +kernel
theorem dX7_told_122 : decode cX7_told 122 = .ok (.iconst (-1), 1) := by decide +kernel
theorem dX7_told_123 : decode cX7_told 123 = .ok (.ireturn, 1) := by decide +kernel
theorem dX7_of_0 : decode cX7_of 0 = .ok (.aload_n 0, 1) := by decide +kernel
theorem dX7_of_1 : decode cX7_of 1 = .ok (.iload_n 1, 1) := by decide +kernel
theorem dX7_of_2 : decode cX7_of 2 = .ok (.i2l, 1) := by decide +kernel
theorem dX7_of_3 : decode cX7_of 3 = .ok (.invokevirtual 123, 3) := by decide +kernel
theorem dX7_of_6 : decode cX7_of 6 = .ok (.ifCond .eq 15, 3) := by decide +kernel
theorem dX7_of_9 : decode cX7_of 9 = .ok (.iload_n 2, 1) := by decide +kernel
theorem dX7_of_10 : decode cX7_of 10 = .ok (.i2l, 1) := by decide +kernel
theorem dX7_of_11 : decode cX7_of 11 = .ok (.lconst 0, 1) := by decide +kernel
theorem dX7_of_12 : decode cX7_of 12 = .ok (.ldc2_w 93, 3) := by decide +kernel
theorem dX7_of_15 : decode cX7_of 15 = .ok (.invokestatic 81, 3) := by decide +kernel
theorem dX7_of_18 : decode cX7_of 18 = .ok (.ifCond .ne 5, 3) := by decide +kernel
theorem dX7_of_21 : decode cX7_of 21 = .ok (.iconst (-1), 1) := by decide +kernel
theorem dX7_of_22 : decode cX7_of 22 = .ok (.ireturn, 1) := by decide +kernel
theorem dX7_of_23 : decode cX7_of 23 = .ok (.iload_n 2, 1) := by decide +kernel
theorem dX7_of_24 : decode cX7_of 24 = .ok (.iconst 4, 1) := by decide +kernel
theorem dX7_of_25 : decode cX7_of 25 = .ok (.if_icmp .ge 53, 3) := by decide +kernel
theorem dX7_of_28 : decode cX7_of 28 = .ok (.iload_n 2, 1) := by decide +kernel
theorem dX7_of_29 : decode cX7_of 29 = .ok (.ifCond .ne 12, 3) := by decide +kernel
theorem dX7_of_32 : decode cX7_of 32 = .ok (.aload_n 0, 1) := by decide +kernel
theorem dX7_of_33 : decode cX7_of 33 = .ok (.getfield 19, 3) := by decide +kernel
theorem dX7_of_36 : decode cX7_of 36 = .ok (.iload_n 1, 1) := by decide +kernel
theorem dX7_of_37 : decode cX7_of 37 = .ok (.iaload, 1) := by decide +kernel
theorem dX7_of_38 : decode cX7_of 38 = .ok (.goto 39, 3) := by decide +kernel
theorem dX7_of_41 : decode cX7_of 41 = .ok (.iload_n 2, 1) := by decide +kernel
theorem dX7_of_42 : decode cX7_of 42 = .ok (.iconst 1, 1) := by decide +kernel
theorem dX7_of_43 : decode cX7_of 43 = .ok (.if_icmp .ne 12, 3) := by decide +kernel
theorem dX7_of_46 : decode cX7_of 46 = .ok (.aload_n 0, 1) := by decide +kernel
theorem dX7_of_47 : decode cX7_of 47 = .ok (.getfield 22, 3) := by decide +kernel
theorem dX7_of_50 : decode cX7_of 50 = .ok (.iload_n 1, 1) := by decide +kernel
theorem dX7_of_51 : decode cX7_of 51 = .ok (.iaload, 1) := by decide +kernel
theorem dX7_of_52 : decode cX7_of 52 = .ok (.goto 25, 3) := by decide +kernel
theorem dX7_of_55 : decode cX7_of 55 = .ok (.iload_n 2, 1) := by decide +kernel
theorem dX7_of_56 : decode cX7_of 56 = .ok (.iconst 2, 1) := by decide +kernel
theorem dX7_of_57 : decode cX7_of 57 = .ok (.if_icmp .ne 12, 3) := by decide +kernel
theorem dX7_of_60 : decode cX7_of 60 = .ok (.aload_n 0, 1) := by decide +kernel
theorem dX7_of_61 : decode cX7_of 61 = .ok (.getfield 25, 3) := by decide +kernel
theorem dX7_of_64 : decode cX7_of 64 = .ok (.iload_n 1, 1) := by decide +kernel
theorem dX7_of_65 : decode cX7_of 65 = .ok (.iaload, 1) := by decide +kernel
theorem dX7_of_66 : decode cX7_of 66 = .ok (.goto 11, 3) := by decide +kernel
theorem dX7_of_69 : decode cX7_of 69 = .ok (.aload_n 0, 1) := by decide +kernel
theorem dX7_of_70 : decode cX7_of 70 = .ok (.getfield 110, 3) := by decide +kernel
theorem dX7_of_73 : decode cX7_of 73 = .ok (.iload_n 1, 1) := by decide +kernel
theorem dX7_of_74 : decode cX7_of 74 = .ok (.ishr, 1) := by decide +kernel
theorem dX7_of_75 : decode cX7_of 75 = .ok (.iconst 1, 1) := by decide +kernel
theorem dX7_of_76 : decode cX7_of 76 = .ok (.iand, 1) := by decide +kernel
theorem dX7_of_77 : decode cX7_of 77 = .ok (.ireturn, 1) := by decide +kernel
theorem dX7_of_78 : decode cX7_of 78 = .ok (.iconst 0, 1) := by decide +kernel
theorem dX7_of_79 : decode cX7_of 79 = .ok (.istore_n 3, 1) := by decide +kernel
theorem dX7_of_80 : decode cX7_of 80 = .ok (.iconst 0, 1) := by decide +kernel
theorem dX7_of_81 : decode cX7_of 81 = .ok (.istore 4, 2) := by decide +kernel
theorem dX7_of_83 : decode cX7_of 83 = .ok (.iload 4, 2) := by decide +kernel
theorem dX7_of_85 : decode cX7_of 85 = .ok (.aload_n 0, 1) := by decide +kernel
theorem dX7_of_86 : decode cX7_of 86 = .ok (.getfield 78, 3) := by decide +kernel
theorem dX7_of_89 : decode cX7_of 89 = .ok (.if_icmp .ge 55, 3) := by decide +kernel
theorem dX7_of_92 : decode cX7_of 92 = .ok (.iload_n 2, 1) := by decide +kernel
theorem dX7_of_93 : decode cX7_of 93 = .ok (.iconst 4, 1) := by decide +kernel
theorem dX7_of_94 : decode cX7_of 94 = .ok (.if_icmp .ne 13, 3) := by decide +kernel
theorem dX7_of_97 : decode cX7_of 97 = .ok (.aload_n 0, 1) := by decide +kernel
theorem dX7_of_98 : decode cX7_of 98 = .ok (.iload 4, 2) := by decide +kernel
theorem dX7_of_100 : decode cX7_of 100 = .ok (.iload_n 1, 1) := by decide +kernel
theorem dX7_of_101 : decode cX7_of 101 = .ok (.invokevirtual 157, 3) := by decide +kernel
theorem dX7_of_104 : decode cX7_of 104 = .ok (.goto 16, 3) := by decide +kernel
theorem dX7_of_107 : decode cX7_of 107 = .ok (.aload_n 0, 1) := by decide +kernel
theorem dX7_of_108 : decode cX7_of 108 = .ok (.getfield 38, 3) := by decide +kernel
theorem dX7_of_111 : decode cX7_of 111 = .ok (.iconst 0, 1) := by decide +kernel
theorem dX7_of_112 : decode cX7_of 112 = .ok (.iload 4, 2) := by decide +kernel
theorem dX7_of_114 : decode cX7_of 114 = .ok (.iadd, 1) := by decide +kernel
theorem dX7_of_115 : decode cX7_of 115 = .ok (.iaload, 1) := by decide +kernel
theorem dX7_of_116 : decode cX7_of 116 = .ok (.iload_n 1, 1) := by decide +kernel
theorem dX7_of_117 : decode cX7_of 117 = .ok (.invokestatic 153, 3) := by decide +kernel
theorem dX7_of_120 : decode cX7_of 120 = .ok (.istore 5, 2) := by decide +kernel
theorem dX7_of_122 : decode cX7_of 122 = .ok (.iload_n 3, 1) := by decide +kernel
theorem dX7_of_123 : decode cX7_of 123 = .ok (.iload 5, 2) := by decide +kernel
theorem dX7_of_125 : decode cX7_of 125 = .ok (.ifCond .eq 10, 3) := by decide +kernel
theorem dX7_of_128 : decode cX7_of 128 = .ok (.iconst 1, 1) := by decide +kernel
theorem dX7_of_129 : decode cX7_of 129 = .ok (.iload 4, 2) := by decide +kernel
theorem dX7_of_131 : decode cX7_of 131 = .ok (.ishl, 1) := by decide +kernel
theorem dX7_of_132 : decode cX7_of 132 = .ok (.goto 4, 3) := by decide +kernel
theorem dX7_of_135 : decode cX7_of 135 = .ok (.iconst 0, 1) := by decide +kernel
theorem dX7_of_136 : decode cX7_of 136 = .ok (.ior, 1) := by decide +kernel
theorem dX7_of_137 : decode cX7_of 137 = .ok (.istore_n 3, 1) := by decide +kernel
theorem dX7_of_138 : decode cX7_of 138 = .ok (.iinc 4 1, 3) := by decide +kernel
theorem dX7_of_141 : decode cX7_of 141 = .ok (.goto (-58), 3) := by decide +kernel
theorem dX7_of_144 : decode cX7_of 144 = .ok (.iload_n 3, 1) := by decide +kernel
theorem dX7_of_145 : decode cX7_of 145 = .ok (.ireturn, 1) := by decide +kernel
theorem dX7_type_0 : decode cX7_type 0 = .ok (.iload_n 1, 1) := by decide +kernel
theorem dX7_type_1 : decode cX7_type 1 = .ok (.i2l, 1) := by decide +kernel
theorem dX7_type_2 : decode cX7_type 2 = .ok (.ldc2_w 173, 3) := by decide +kernel
theorem dX7_type_5 : decode cX7_type 5 = .ok (.ldc2_w 175, 3) := by decide +kernel
theorem dX7_type_8 : decode cX7_type 8 = .ok (.invokestatic 81, 3) := by decide +kernel
theorem dX7_type_11 : decode cX7_type 11 = .ok (.ifCond .ne 5, 3) := by decide +kernel
theorem dX7_type_14 : decode cX7_type 14 = .ok (.iconst (-1), 1) := by decide +kernel
theorem dX7_type_15 : decode cX7_type 15 = .ok (.ireturn, 1) := by decide +kernel
theorem dX7_type_16 : decode cX7_type 16 = .ok (.aload_n 0, 1) := by decide +kernel
theorem dX7_type_17 : decode cX7_type 17 = .ok (.getfield 177, 3) := by decide +kernel
theorem dX7_type_20 : decode cX7_type 20 = .ok (.sipush 160, 3) := by decide +kernel
theorem dX7_type_23 : decode cX7_type 23 = .ok (.if_icmp .ne 6, 3) := by decide +kernel
theorem dX7_type_26 : decode cX7_type 26 = .ok (.bipush (-3), 2) := by decide +kernel
theorem dX7_type_28 : decode cX7_type 28 = .ok (.ireturn, 1) := by decide +kernel
theorem dX7_type_29 : decode cX7_type 29 = .ok (.aload_n 0, 1) := by decide +kernel
theorem dX7_type_30 : decode cX7_type 30 = .ok (.getfield 44, 3) := by decide +kernel
theorem dX7_type_33 : decode cX7_type 33 = .ok (.aload_n 0, 1) := by decide +kernel
theorem dX7_type_34 : decode cX7_type 34 = .ok (.getfield 177, 3) := by decide +kernel
theorem dX7_type_37 : decode cX7_type 37 = .ok (.iload_n 1, 1) := by decide +kernel
theorem dX7_type_38 : decode cX7_type 38 = .ok (.iastore, 1) := by decide +kernel
theorem dX7_type_39 : decode cX7_type 39 = .ok (.aload_n 0, 1) := by decide +kernel
theorem dX7_type_40 : decode cX7_type 40 = .ok (.dup, 1) := by decide +kernel
theorem dX7_type_41 : decode cX7_type 41 = .ok (.getfield 177, 3) := by decide +kernel
theorem dX7_type_44 : decode cX7_type 44 = .ok (.iconst 1, 1) := by decide +kernel
theorem dX7_type_45 : decode cX7_type 45 = .ok (.iadd, 1) := by decide +kernel
theorem dX7_type_46 : decode cX7_type 46 = .ok (.putfield 177, 3) := by decide +kernel
theorem dX7_type_49 : decode cX7_type 49 = .ok (.aload_n 0, 1) := by decide +kernel
theorem dX7_type_50 : decode cX7_type 50 = .ok (.getfield 177, 3) := by decide +kernel
theorem dX7_type_53 : decode cX7_type 53 = .ok (.ireturn, 1) := by decide +kernel
theorem dX7_nextLetter_0 : decode cX7_nextLetter 0 = .ok (.aload_n 0, 1) := by decide +kernel
theorem dX7_nextLetter_1 : decode cX7_nextLetter 1 = .ok (.getfield 180, 3) := by decide +kernel
theorem dX7_nextLetter_4 : decode cX7_nextLetter 4 = .ok (.aload_n 0, 1) := by decide +kernel
theorem dX7_nextLetter_5 : decode cX7_nextLetter 5 = .ok (.getfield 177, 3) := by decide +kernel
theorem dX7_nextLetter_8 : decode cX7_nextLetter 8 = .ok (.if_icmp .ge 30, 3) := by decide +kernel
theorem dX7_nextLetter_11 : decode cX7_nextLetter 11 = .ok (.aload_n 0, 1) := by decide +kernel
theorem dX7_nextLetter_12 : decode cX7_nextLetter 12 = .ok (.getfield 44, 3) := by decide +kernel
theorem dX7_nextLetter_15 : decode cX7_nextLetter 15 = .ok (.aload_n 0, 1) := by decide +kernel
theorem dX7_nextLetter_16 : decode cX7_nextLetter 16 = .ok (.getfield 180, 3) := by decide +kernel
theorem dX7_nextLetter_19 : decode cX7_nextLetter 19 = .ok (.iaload, 1) := by decide +kernel
theorem dX7_nextLetter_20 : decode cX7_nextLetter 20 = .ok (.bipush 32, 2) := by decide +kernel
theorem dX7_nextLetter_22 : decode cX7_nextLetter 22 = .ok (.if_icmp .ne 16, 3) := by decide +kernel
theorem dX7_nextLetter_25 : decode cX7_nextLetter 25 = .ok (.aload_n 0, 1) := by decide +kernel
theorem dX7_nextLetter_26 : decode cX7_nextLetter 26 = .ok (.dup, 1) := by decide +kernel
theorem dX7_nextLetter_27 : decode cX7_nextLetter 27 = .ok (.getfield 180, 3) := by decide +kernel
theorem dX7_nextLetter_30 : decode cX7_nextLetter 30 = .ok (.iconst 1, 1) := by decide +kernel
theorem dX7_nextLetter_31 : decode cX7_nextLetter 31 = .ok (.iadd, 1) := by decide +kernel
theorem dX7_nextLetter_32 : decode cX7_nextLetter 32 = .ok (.putfield 180, 3) := by decide +kernel
theorem dX7_nextLetter_35 : decode cX7_nextLetter 35 = .ok (.goto (-35), 3) := by decide +kernel
theorem dX7_nextLetter_38 : decode cX7_nextLetter 38 = .ok (.aload_n 0, 1) := by decide +kernel
theorem dX7_nextLetter_39 : decode cX7_nextLetter 39 = .ok (.getfield 180, 3) := by decide +kernel
theorem dX7_nextLetter_42 : decode cX7_nextLetter 42 = .ok (.aload_n 0, 1) := by decide +kernel
theorem dX7_nextLetter_43 : decode cX7_nextLetter 43 = .ok (.getfield 177, 3) := by decide +kernel
theorem dX7_nextLetter_46 : decode cX7_nextLetter 46 = .ok (.if_icmp .ge 15, 3) := by decide +kernel
theorem dX7_nextLetter_49 : decode cX7_nextLetter 49 = .ok (.aload_n 0, 1) := by decide +kernel
theorem dX7_nextLetter_50 : decode cX7_nextLetter 50 = .ok (.getfield 44, 3) := by decide +kernel
theorem dX7_nextLetter_53 : decode cX7_nextLetter 53 = .ok (.aload_n 0, 1) := by decide +kernel
theorem dX7_nextLetter_54 : decode cX7_nextLetter 54 = .ok (.getfield 180, 3) := by decide +kernel
theorem dX7_nextLetter_57 : decode cX7_nextLetter 57 = .ok (.iaload, 1) := by decide +kernel
theorem dX7_nextLetter_58 : decode cX7_nextLetter 58 = .ok (.goto 4, 3) := by decide +kernel
theorem dX7_nextLetter_61 : decode cX7_nextLetter 61 = .ok (.iconst (-1), 1) := by decide +kernel
theorem dX7_nextLetter_62 : decode cX7_nextLetter 62 = .ok (.ireturn, 1) := by decide +kernel
theorem dX7_takes_0 : decode cX7_takes 0 = .ok (.aload_n 0, 1) := by decide +kernel
theorem dX7_takes_1 : decode cX7_takes 1 = .ok (.invokevirtual 183, 3) := by decide +kernel
theorem dX7_takes_4 : decode cX7_takes 4 = .ok (.iload_n 1, 1) := by decide +kernel
theorem dX7_takes_5 : decode cX7_takes 5 = .ok (.if_icmp .ne 7, 3) := by decide +kernel
theorem dX7_takes_8 : decode cX7_takes 8 = .ok (.iconst 1, 1) := by decide +kernel
theorem dX7_takes_9 : decode cX7_takes 9 = .ok (.goto 4, 3) := by decide +kernel
theorem dX7_takes_12 : decode cX7_takes 12 = .ok (.iconst 0, 1) := by decide +kernel
theorem dX7_takes_13 : decode cX7_takes 13 = .ok (.istore_n 2, 1) := by decide +kernel
theorem dX7_takes_14 : decode cX7_takes 14 = .ok (.aload_n 0, 1) := by decide +kernel
theorem dX7_takes_15 : decode cX7_takes 15 = .ok (.dup, 1) := by decide +kernel
theorem dX7_takes_16 : decode cX7_takes 16 = .ok (.getfield 180, 3) := by decide +kernel
theorem dX7_takes_19 : decode cX7_takes 19 = .ok (.iload_n 2, 1) := by decide +kernel
theorem dX7_takes_20 : decode cX7_takes 20 = .ok (.ifCond .eq 7, 3) := by decide +kernel
theorem dX7_takes_23 : decode cX7_takes 23 = .ok (.iconst 1, 1) := by decide +kernel
theorem dX7_takes_24 : decode cX7_takes 24 = .ok (.goto 4, 3) := by decide +kernel
theorem dX7_takes_27 : decode cX7_takes 27 = .ok (.iconst 0, 1) := by decide +kernel
theorem dX7_takes_28 : decode cX7_takes 28 = .ok (.iadd, 1) := by decide +kernel
theorem dX7_takes_29 : decode cX7_takes 29 = .ok (.putfield 180, 3) := by decide +kernel
theorem dX7_takes_32 : decode cX7_takes 32 = .ok (.iload_n 2, 1) := by decide +kernel
theorem dX7_takes_33 : decode cX7_takes 33 = .ok (.ireturn, 1) := by decide +kernel
theorem dX7_readFigure_0 : decode cX7_readFigure 0 = .ok (.aload_n 0, 1) := by decide +kernel
theorem dX7_readFigure_1 : decode cX7_readFigure 1 = .ok (.invokevirtual 183, 3) := by decide +kernel
theorem dX7_readFigure_4 : decode cX7_readFigure 4 = .ok (.bipush 48, 2) := by decide +kernel
theorem dX7_readFigure_6 : decode cX7_readFigure 6 = .ok (.isub, 1) := by decide +kernel
theorem dX7_readFigure_7 : decode cX7_readFigure 7 = .ok (.istore_n 2, 1) := by decide +kernel
theorem dX7_readFigure_8 : decode cX7_readFigure 8 = .ok (.iload_n 2, 1) := by decide +kernel
theorem dX7_readFigure_9 : decode cX7_readFigure 9 = .ok (.i2l, 1) := by decide +kernel
theorem dX7_readFigure_10 : decode cX7_readFigure 10 = .ok (.lconst 0, 1) := by decide +kernel
theorem dX7_readFigure_11 : decode cX7_readFigure 11 = .ok (.iload_n 1, 1) := by decide +kernel
theorem dX7_readFigure_12 : decode cX7_readFigure 12 = .ok (.i2l, 1) := by decide +kernel
theorem dX7_readFigure_13 : decode cX7_readFigure 13 = .ok (.invokestatic 81, 3) := by decide +kernel
theorem dX7_readFigure_16 : decode cX7_readFigure 16 = .ok (.ifCond .ne 5, 3) := by decide +kernel
theorem dX7_readFigure_19 : decode cX7_readFigure 19 = .ok (.iconst (-1), 1) := by decide +kernel
theorem dX7_readFigure_20 : decode cX7_readFigure 20 = .ok (.ireturn, 1) := by decide +kernel
theorem dX7_readFigure_21 : decode cX7_readFigure 21 = .ok (.aload_n 0, 1) := by decide +kernel
theorem dX7_readFigure_22 : decode cX7_readFigure 22 = .ok (.dup, 1) := by decide +kernel
theorem dX7_readFigure_23 : decode cX7_readFigure 23 = .ok (.getfield 180, 3) := by decide +kernel
theorem dX7_readFigure_26 : decode cX7_readFigure 26 = .ok (.iconst 1, 1) := by decide +kernel
theorem dX7_readFigure_27 : decode cX7_readFigure 27 = .ok (.iadd, 1) := by decide +kernel
theorem dX7_readFigure_28 : decode cX7_readFigure 28 = .ok (.putfield 180, 3) := by decide +kernel
theorem dX7_readFigure_31 : decode cX7_readFigure 31 = .ok (.iload_n 2, 1) := by decide +kernel
theorem dX7_readFigure_32 : decode cX7_readFigure 32 = .ok (.ireturn, 1) := by decide +kernel
theorem dX7_readNumber_0 : decode cX7_readNumber 0 = .ok (.aload_n 0, 1) := by decide +kernel
theorem dX7_readNumber_1 : decode cX7_readNumber 1 = .ok (.invokevirtual 183, 3) := by decide +kernel
theorem dX7_readNumber_4 : decode cX7_readNumber 4 = .ok (.pop, 1) := by decide +kernel
theorem dX7_readNumber_5 : decode cX7_readNumber 5 = .ok (.aload_n 0, 1) := by decide +kernel
theorem dX7_readNumber_6 : decode cX7_readNumber 6 = .ok (.getfield 180, 3) := by decide +kernel
theorem dX7_readNumber_9 : decode cX7_readNumber 9 = .ok (.istore_n 2, 1) := by decide +kernel
theorem dX7_readNumber_10 : decode cX7_readNumber 10 = .ok (.iconst 0, 1) := by decide +kernel
theorem dX7_readNumber_11 : decode cX7_readNumber 11 = .ok (.istore_n 3, 1) := by decide +kernel
theorem dX7_readNumber_12 : decode cX7_readNumber 12 = .ok (.aload_n 0, 1) := by decide +kernel
theorem dX7_readNumber_13 : decode cX7_readNumber 13 = .ok (.getfield 180, 3) := by decide +kernel
theorem dX7_readNumber_16 : decode cX7_readNumber 16 = .ok (.aload_n 0, 1) := by decide +kernel
theorem dX7_readNumber_17 : decode cX7_readNumber 17 = .ok (.getfield 177, 3) := by decide +kernel
theorem dX7_readNumber_20 : decode cX7_readNumber 20 = .ok (.if_icmp .ge 67, 3) := by decide +kernel
theorem dX7_readNumber_23 : decode cX7_readNumber 23 = .ok (.aload_n 0, 1) := by decide +kernel
theorem dX7_readNumber_24 : decode cX7_readNumber 24 = .ok (.getfield 44, 3) := by decide +kernel
theorem dX7_readNumber_27 : decode cX7_readNumber 27 = .ok (.aload_n 0, 1) := by decide +kernel
theorem dX7_readNumber_28 : decode cX7_readNumber 28 = .ok (.getfield 180, 3) := by decide +kernel
theorem dX7_readNumber_31 : decode cX7_readNumber 31 = .ok (.iaload, 1) := by decide +kernel
theorem dX7_readNumber_32 : decode cX7_readNumber 32 = .ok (.i2l, 1) := by decide +kernel
theorem dX7_readNumber_33 : decode cX7_readNumber 33 = .ok (.ldc2_w 187, 3) := by decide +kernel
theorem dX7_readNumber_36 : decode cX7_readNumber 36 = .ok (.ldc2_w 189, 3) := by decide +kernel
theorem dX7_readNumber_39 : decode cX7_readNumber 39 = .ok (.invokestatic 81, 3) := by decide +kernel
theorem dX7_readNumber_42 : decode cX7_readNumber 42 = .ok (.ifCond .eq 45, 3) := by decide +kernel
theorem dX7_readNumber_45 : decode cX7_readNumber 45 = .ok (.iload_n 3, 1) := by decide +kernel
theorem dX7_readNumber_46 : decode cX7_readNumber 46 = .ok (.sipush 9999, 3) := by decide +kernel
theorem dX7_readNumber_49 : decode cX7_readNumber 49 = .ok (.if_icmp .le 7, 3) := by decide +kernel
theorem dX7_readNumber_52 : decode cX7_readNumber 52 = .ok (.iload_n 3, 1) := by decide +kernel
theorem dX7_readNumber_53 : decode cX7_readNumber 53 = .ok (.goto 20, 3) := by decide +kernel
theorem dX7_readNumber_56 : decode cX7_readNumber 56 = .ok (.bipush 10, 2) := by decide +kernel
theorem dX7_readNumber_58 : decode cX7_readNumber 58 = .ok (.iload_n 3, 1) := by decide +kernel
theorem dX7_readNumber_59 : decode cX7_readNumber 59 = .ok (.imul, 1) := by decide +kernel
theorem dX7_readNumber_60 : decode cX7_readNumber 60 = .ok (.aload_n 0, 1) := by decide +kernel
theorem dX7_readNumber_61 : decode cX7_readNumber 61 = .ok (.getfield 44, 3) := by decide +kernel
theorem dX7_readNumber_64 : decode cX7_readNumber 64 = .ok (.aload_n 0, 1) := by decide +kernel
theorem dX7_readNumber_65 : decode cX7_readNumber 65 = .ok (.getfield 180, 3) := by decide +kernel
theorem dX7_readNumber_68 : decode cX7_readNumber 68 = .ok (.iaload, 1) := by decide +kernel
theorem dX7_readNumber_69 : decode cX7_readNumber 69 = .ok (.iadd, 1) := by decide +kernel
theorem dX7_readNumber_70 : decode cX7_readNumber 70 = .ok (.bipush 48, 2) := by decide +kernel
theorem dX7_readNumber_72 : decode cX7_readNumber 72 = .ok (.isub, 1) := by decide +kernel
theorem dX7_readNumber_73 : decode cX7_readNumber 73 = .ok (.istore_n 3, 1) := by decide +kernel
theorem dX7_readNumber_74 : decode cX7_readNumber 74 = .ok (.aload_n 0, 1) := by decide +kernel
theorem dX7_readNumber_75 : decode cX7_readNumber 75 = .ok (.dup, 1) := by decide +kernel
theorem dX7_readNumber_76 : decode cX7_readNumber 76 = .ok (.getfield 180, 3) := by decide +kernel
theorem dX7_readNumber_79 : decode cX7_readNumber 79 = .ok (.iconst 1, 1) := by decide +kernel
theorem dX7_readNumber_80 : decode cX7_readNumber 80 = .ok (.iadd, 1) := by decide +kernel
theorem dX7_readNumber_81 : decode cX7_readNumber 81 = .ok (.putfield 180, 3) := by decide +kernel
theorem dX7_readNumber_84 : decode cX7_readNumber 84 = .ok (.goto (-72), 3) := by decide +kernel
theorem dX7_readNumber_87 : decode cX7_readNumber 87 = .ok (.aload_n 0, 1) := by decide +kernel
theorem dX7_readNumber_88 : decode cX7_readNumber 88 = .ok (.getfield 180, 3) := by decide +kernel
theorem dX7_readNumber_91 : decode cX7_readNumber 91 = .ok (.iload_n 2, 1) := by decide +kernel
theorem dX7_readNumber_92 : decode cX7_readNumber 92 = .ok (.if_icmp .eq 8, 3) := by decide +kernel
theorem dX7_readNumber_95 : decode cX7_readNumber 95 = .ok (.iload_n 3, 1) := by decide +kernel
theorem dX7_readNumber_96 : decode cX7_readNumber 96 = .ok (.iload_n 1, 1) := by decide +kernel
theorem dX7_readNumber_97 : decode cX7_readNumber 97 = .ok (.if_icmp .le 10, 3) := by decide +kernel
theorem dX7_readNumber_100 : decode cX7_readNumber 100 = .ok (.aload_n 0, 1) := by decide +kernel
theorem dX7_readNumber_101 : decode cX7_readNumber 101 = .ok (.iload_n 2, 1) := by decide +kernel
theorem dX7_readNumber_102 : decode cX7_readNumber 102 = .ok (.putfield 180, 3) := by decide +kernel
theorem dX7_readNumber_105 : decode cX7_readNumber 105 = .ok (.iconst (-1), 1) := by decide +kernel
theorem dX7_readNumber_106 : decode cX7_readNumber 106 = .ok (.ireturn, 1) := by decide +kernel
theorem dX7_readNumber_107 : decode cX7_readNumber 107 = .ok (.iload_n 3, 1) := by decide +kernel
theorem dX7_readNumber_108 : decode cX7_readNumber 108 = .ok (.ireturn, 1) := by decide +kernel
theorem dX7_end_0 : decode cX7_end 0 = .ok (.iload_n 1, 1) := by decide +kernel
theorem dX7_end_1 : decode cX7_end 1 = .ok (.ifCond .ne 8, 3) := by decide +kernel
theorem dX7_end_4 : decode cX7_end 4 = .ok (.aload_n 0, 1) := by decide +kernel
theorem dX7_end_5 : decode cX7_end 5 = .ok (.invokevirtual 183, 3) := by decide +kernel
theorem dX7_end_8 : decode cX7_end 8 = .ok (.pop, 1) := by decide +kernel
theorem dX7_end_9 : decode cX7_end 9 = .ok (.aload_n 0, 1) := by decide +kernel
theorem dX7_end_10 : decode cX7_end 10 = .ok (.iconst 0, 1) := by decide +kernel
theorem dX7_end_11 : decode cX7_end 11 = .ok (.putfield 177, 3) := by decide +kernel
theorem dX7_end_14 : decode cX7_end 14 = .ok (.iload_n 1, 1) := by decide +kernel
theorem dX7_end_15 : decode cX7_end 15 = .ok (.ifCond .eq 7, 3) := by decide +kernel
theorem dX7_end_18 : decode cX7_end 18 = .ok (.iconst 0, 1) := by decide +kernel
theorem dX7_end_19 : decode cX7_end 19 = .ok (.goto 10, 3) := by decide +kernel
theorem dX7_end_22 : decode cX7_end 22 = .ok (.bipush (-20), 2) := by decide +kernel
theorem dX7_end_24 : decode cX7_end 24 = .ok (.aload_n 0, 1) := by decide +kernel
theorem dX7_end_25 : decode cX7_end 25 = .ok (.getfield 180, 3) := by decide +kernel
theorem dX7_end_28 : decode cX7_end 28 = .ok (.isub, 1) := by decide +kernel
theorem dX7_end_29 : decode cX7_end 29 = .ok (.ireturn, 1) := by decide +kernel
theorem dX7_kindOf_0 : decode cX7_kindOf 0 = .ok (.iload_n 0, 1) := by decide +kernel
theorem dX7_kindOf_1 : decode cX7_kindOf 1 = .ok (.bipush 112, 2) := by decide +kernel
theorem dX7_kindOf_3 : decode cX7_kindOf 3 = .ok (.if_icmp .ne 7, 3) := by decide +kernel
theorem dX7_kindOf_6 : decode cX7_kindOf 6 = .ok (.iconst 0, 1) := by decide +kernel
theorem dX7_kindOf_7 : decode cX7_kindOf 7 = .ok (.goto 54, 3) := by decide +kernel
theorem dX7_kindOf_10 : decode cX7_kindOf 10 = .ok (.iload_n 0, 1) := by decide +kernel
theorem dX7_kindOf_11 : decode cX7_kindOf 11 = .ok (.bipush 100, 2) := by decide +kernel
theorem dX7_kindOf_13 : decode cX7_kindOf 13 = .ok (.if_icmp .ne 7, 3) := by decide +kernel
theorem dX7_kindOf_16 : decode cX7_kindOf 16 = .ok (.iconst 1, 1) := by decide +kernel
theorem dX7_kindOf_17 : decode cX7_kindOf 17 = .ok (.goto 44, 3) := by decide +kernel
theorem dX7_kindOf_20 : decode cX7_kindOf 20 = .ok (.iload_n 0, 1) := by decide +kernel
theorem dX7_kindOf_21 : decode cX7_kindOf 21 = .ok (.bipush 105, 2) := by decide +kernel
theorem dX7_kindOf_23 : decode cX7_kindOf 23 = .ok (.if_icmp .ne 7, 3) := by decide +kernel
theorem dX7_kindOf_26 : decode cX7_kindOf 26 = .ok (.iconst 2, 1) := by decide +kernel
theorem dX7_kindOf_27 : decode cX7_kindOf 27 = .ok (.goto 34, 3) := by decide +kernel
theorem dX7_kindOf_30 : decode cX7_kindOf 30 = .ok (.iload_n 0, 1) := by decide +kernel
theorem dX7_kindOf_31 : decode cX7_kindOf 31 = .ok (.bipush 101, 2) := by decide +kernel
theorem dX7_kindOf_33 : decode cX7_kindOf 33 = .ok (.if_icmp .ne 7, 3) := by decide +kernel
theorem dX7_kindOf_36 : decode cX7_kindOf 36 = .ok (.iconst 3, 1) := by decide +kernel
theorem dX7_kindOf_37 : decode cX7_kindOf 37 = .ok (.goto 24, 3) := by decide +kernel
theorem dX7_kindOf_40 : decode cX7_kindOf 40 = .ok (.iload_n 0, 1) := by decide +kernel
theorem dX7_kindOf_41 : decode cX7_kindOf 41 = .ok (.bipush 102, 2) := by decide +kernel
theorem dX7_kindOf_43 : decode cX7_kindOf 43 = .ok (.if_icmp .ne 7, 3) := by decide +kernel
theorem dX7_kindOf_46 : decode cX7_kindOf 46 = .ok (.iconst 4, 1) := by decide +kernel
theorem dX7_kindOf_47 : decode cX7_kindOf 47 = .ok (.goto 14, 3) := by decide +kernel
theorem dX7_kindOf_50 : decode cX7_kindOf 50 = .ok (.iload_n 0, 1) := by decide +kernel
theorem dX7_kindOf_51 : decode cX7_kindOf 51 = .ok (.bipush 110, 2) := by decide +kernel
theorem dX7_kindOf_53 : decode cX7_kindOf 53 = .ok (.if_icmp .ne 7, 3) := by decide +kernel
theorem dX7_kindOf_56 : decode cX7_kindOf 56 = .ok (.iconst 5, 1) := by decide +kernel
theorem dX7_kindOf_57 : decode cX7_kindOf 57 = .ok (.goto 4, 3) := by decide +kernel
theorem dX7_kindOf_60 : decode cX7_kindOf 60 = .ok (.iconst (-1), 1) := by decide +kernel
theorem dX7_kindOf_61 : decode cX7_kindOf 61 = .ok (.ireturn, 1) := by decide +kernel
theorem dX7_readGrave_0 : decode cX7_readGrave 0 = .ok (.aload_n 0, 1) := by decide +kernel
theorem dX7_readGrave_1 : decode cX7_readGrave 1 = .ok (.getfield 47, 3) := by decide +kernel
theorem dX7_readGrave_4 : decode cX7_readGrave 4 = .ok (.iload_n 1, 1) := by decide +kernel
theorem dX7_readGrave_5 : decode cX7_readGrave 5 = .ok (.aload_n 0, 1) := by decide +kernel
theorem dX7_readGrave_6 : decode cX7_readGrave 6 = .ok (.invokevirtual 183, 3) := by decide +kernel
theorem dX7_readGrave_9 : decode cX7_readGrave 9 = .ok (.invokestatic 191, 3) := by decide +kernel
theorem dX7_readGrave_12 : decode cX7_readGrave 12 = .ok (.iastore, 1) := by decide +kernel
theorem dX7_readGrave_13 : decode cX7_readGrave 13 = .ok (.aload_n 0, 1) := by decide +kernel
theorem dX7_readGrave_14 : decode cX7_readGrave 14 = .ok (.getfield 47, 3) := by decide +kernel
theorem dX7_readGrave_17 : decode cX7_readGrave 17 = .ok (.iload_n 1, 1) := by decide +kernel
theorem dX7_readGrave_18 : decode cX7_readGrave 18 = .ok (.iaload, 1) := by decide +kernel
theorem dX7_readGrave_19 : decode cX7_readGrave 19 = .ok (.ifCond .ge 5, 3) := by decide +kernel
theorem dX7_readGrave_22 : decode cX7_readGrave 22 = .ok (.iconst 0, 1) := by decide +kernel
theorem dX7_readGrave_23 : decode cX7_readGrave 23 = .ok (.ireturn, 1) := by decide +kernel
theorem dX7_readGrave_24 : decode cX7_readGrave 24 = .ok (.aload_n 0, 1) := by decide +kernel
theorem dX7_readGrave_25 : decode cX7_readGrave 25 = .ok (.dup, 1) := by decide +kernel
theorem dX7_readGrave_26 : decode cX7_readGrave 26 = .ok (.getfield 180, 3) := by decide +kernel
theorem dX7_readGrave_29 : decode cX7_readGrave 29 = .ok (.iconst 1, 1) := by decide +kernel
theorem dX7_readGrave_30 : decode cX7_readGrave 30 = .ok (.iadd, 1) := by decide +kernel
theorem dX7_readGrave_31 : decode cX7_readGrave 31 = .ok (.putfield 180, 3) := by decide +kernel
theorem dX7_readGrave_34 : decode cX7_readGrave 34 = .ok (.aload_n 0, 1) := by decide +kernel
theorem dX7_readGrave_35 : decode cX7_readGrave 35 = .ok (.iconst 5, 1) := by decide +kernel
theorem dX7_readGrave_36 : decode cX7_readGrave 36 = .ok (.invokevirtual 194, 3) := by decide +kernel
theorem dX7_readGrave_39 : decode cX7_readGrave 39 = .ok (.istore_n 2, 1) := by decide +kernel
theorem dX7_readGrave_40 : decode cX7_readGrave 40 = .ok (.iload_n 2, 1) := by decide +kernel
theorem dX7_readGrave_41 : decode cX7_readGrave 41 = .ok (.ifCond .ge 5, 3) := by decide +kernel
theorem dX7_readGrave_44 : decode cX7_readGrave 44 = .ok (.iconst 0, 1) := by decide +kernel
theorem dX7_readGrave_45 : decode cX7_readGrave 45 = .ok (.ireturn, 1) := by decide +kernel
theorem dX7_readGrave_46 : decode cX7_readGrave 46 = .ok (.aload_n 0, 1) := by decide +kernel
theorem dX7_readGrave_47 : decode cX7_readGrave 47 = .ok (.iconst 5, 1) := by decide +kernel
theorem dX7_readGrave_48 : decode cX7_readGrave 48 = .ok (.invokevirtual 194, 3) := by decide +kernel
theorem dX7_readGrave_51 : decode cX7_readGrave 51 = .ok (.istore_n 3, 1) := by decide +kernel
theorem dX7_readGrave_52 : decode cX7_readGrave 52 = .ok (.iload_n 3, 1) := by decide +kernel
theorem dX7_readGrave_53 : decode cX7_readGrave 53 = .ok (.ifCond .lt 12, 3) := by decide +kernel
theorem dX7_readGrave_56 : decode cX7_readGrave 56 = .ok (.aload_n 0, 1) := by decide +kernel
theorem dX7_readGrave_57 : decode cX7_readGrave 57 = .ok (.bipush 64, 2) := by decide +kernel
theorem dX7_readGrave_59 : decode cX7_readGrave 59 = .ok (.invokevirtual 197, 3) := by decide +kernel
theorem dX7_readGrave_62 : decode cX7_readGrave 62 = .ok (.ifCond .ne 5, 3) := by decide +kernel
theorem dX7_readGrave_65 : decode cX7_readGrave 65 = .ok (.iconst 0, 1) := by decide +kernel
theorem dX7_readGrave_66 : decode cX7_readGrave 66 = .ok (.ireturn, 1) := by decide +kernel
theorem dX7_readGrave_67 : decode cX7_readGrave 67 = .ok (.aload_n 0, 1) := by decide +kernel
theorem dX7_readGrave_68 : decode cX7_readGrave 68 = .ok (.getfield 47, 3) := by decide +kernel
theorem dX7_readGrave_71 : decode cX7_readGrave 71 = .ok (.iload_n 1, 1) := by decide +kernel
theorem dX7_readGrave_72 : decode cX7_readGrave 72 = .ok (.iconst 1, 1) := by decide +kernel
theorem dX7_readGrave_73 : decode cX7_readGrave 73 = .ok (.iadd, 1) := by decide +kernel
theorem dX7_readGrave_74 : decode cX7_readGrave 74 = .ok (.bipush 6, 2) := by decide +kernel
theorem dX7_readGrave_76 : decode cX7_readGrave 76 = .ok (.iload_n 2, 1) := by decide +kernel
theorem dX7_readGrave_77 : decode cX7_readGrave 77 = .ok (.imul, 1) := by decide +kernel
theorem dX7_readGrave_78 : decode cX7_readGrave 78 = .ok (.iload_n 3, 1) := by decide +kernel
theorem dX7_readGrave_79 : decode cX7_readGrave 79 = .ok (.iadd, 1) := by decide +kernel
theorem dX7_readGrave_80 : decode cX7_readGrave 80 = .ok (.iastore, 1) := by decide +kernel
theorem dX7_readGrave_81 : decode cX7_readGrave 81 = .ok (.aload_n 0, 1) := by decide +kernel
theorem dX7_readGrave_82 : decode cX7_readGrave 82 = .ok (.getfield 47, 3) := by decide +kernel
theorem dX7_readGrave_85 : decode cX7_readGrave 85 = .ok (.iload_n 1, 1) := by decide +kernel
theorem dX7_readGrave_86 : decode cX7_readGrave 86 = .ok (.iconst 2, 1) := by decide +kernel
theorem dX7_readGrave_87 : decode cX7_readGrave 87 = .ok (.iadd, 1) := by decide +kernel
theorem dX7_readGrave_88 : decode cX7_readGrave 88 = .ok (.aload_n 0, 1) := by decide +kernel
theorem dX7_readGrave_89 : decode cX7_readGrave 89 = .ok (.bipush 89, 2) := by decide +kernel
theorem dX7_readGrave_91 : decode cX7_readGrave 91 = .ok (.invokevirtual 200, 3) := by decide +kernel
theorem dX7_readGrave_94 : decode cX7_readGrave 94 = .ok (.iastore, 1) := by decide +kernel
theorem dX7_readGrave_95 : decode cX7_readGrave 95 = .ok (.aload_n 0, 1) := by decide +kernel
theorem dX7_readGrave_96 : decode cX7_readGrave 96 = .ok (.getfield 47, 3) := by decide +kernel
theorem dX7_readGrave_99 : decode cX7_readGrave 99 = .ok (.iload_n 1, 1) := by decide +kernel
theorem dX7_readGrave_100 : decode cX7_readGrave 100 = .ok (.iconst 2, 1) := by decide +kernel
theorem dX7_readGrave_101 : decode cX7_readGrave 101 = .ok (.iadd, 1) := by decide +kernel
theorem dX7_readGrave_102 : decode cX7_readGrave 102 = .ok (.iaload, 1) := by decide +kernel
theorem dX7_readGrave_103 : decode cX7_readGrave 103 = .ok (.ifCond .lt 7, 3) := by decide +kernel
theorem dX7_readGrave_106 : decode cX7_readGrave 106 = .ok (.iconst 1, 1) := by decide +kernel
theorem dX7_readGrave_107 : decode cX7_readGrave 107 = .ok (.goto 4, 3) := by decide +kernel
theorem dX7_readGrave_110 : decode cX7_readGrave 110 = .ok (.iconst 0, 1) := by decide +kernel
theorem dX7_readGrave_111 : decode cX7_readGrave 111 = .ok (.ireturn, 1) := by decide +kernel
theorem dX7_readAhead_0 : decode cX7_readAhead 0 = .ok (.iconst 0, 1) := by decide +kernel
theorem dX7_readAhead_1 : decode cX7_readAhead 1 = .ok (.istore_n 3, 1) := by decide +kernel
theorem dX7_readAhead_2 : decode cX7_readAhead 2 = .ok (.iload_n 3, 1) := by decide +kernel
theorem dX7_readAhead_3 : decode cX7_readAhead 3 = .ok (.ifCond .eq 20, 3) := by decide +kernel
theorem dX7_readAhead_6 : decode cX7_readAhead 6 = .ok (.aload_n 0, 1) := by decide +kernel
theorem dX7_readAhead_7 : decode cX7_readAhead 7 = .ok (.invokevirtual 183, 3) := by decide +kernel
theorem dX7_readAhead_10 : decode cX7_readAhead 10 = .ok (.i2l, 1) := by decide +kernel
theorem dX7_readAhead_11 : decode cX7_readAhead 11 = .ok (.ldc2_w 203, 3) := by decide +kernel
theorem dX7_readAhead_14 : decode cX7_readAhead 14 = .ok (.ldc2_w 205, 3) := by decide +kernel
theorem dX7_readAhead_17 : decode cX7_readAhead 17 = .ok (.invokestatic 81, 3) := by decide +kernel
theorem dX7_readAhead_20 : decode cX7_readAhead 20 = .ok (.ifCond .eq 70, 3) := by decide +kernel
theorem dX7_readAhead_23 : decode cX7_readAhead 23 = .ok (.aload_n 0, 1) := by decide +kernel
theorem dX7_readAhead_24 : decode cX7_readAhead 24 = .ok (.invokevirtual 183, 3) := by decide +kernel
theorem dX7_readAhead_27 : decode cX7_readAhead 27 = .ok (.bipush 97, 2) := by decide +kernel
theorem dX7_readAhead_29 : decode cX7_readAhead 29 = .ok (.isub, 1) := by decide +kernel
theorem dX7_readAhead_30 : decode cX7_readAhead 30 = .ok (.istore 4, 2) := by decide +kernel
theorem dX7_readAhead_32 : decode cX7_readAhead 32 = .ok (.iload 4, 2) := by decide +kernel
theorem dX7_readAhead_34 : decode cX7_readAhead 34 = .ok (.i2l, 1) := by decide +kernel
theorem dX7_readAhead_35 : decode cX7_readAhead 35 = .ok (.lconst 0, 1) := by decide +kernel
theorem dX7_readAhead_36 : decode cX7_readAhead 36 = .ok (.iload_n 1, 1) := by decide +kernel
theorem dX7_readAhead_37 : decode cX7_readAhead 37 = .ok (.iconst 1, 1) := by decide +kernel
theorem dX7_readAhead_38 : decode cX7_readAhead 38 = .ok (.isub, 1) := by decide +kernel
theorem dX7_readAhead_39 : decode cX7_readAhead 39 = .ok (.i2l, 1) := by decide +kernel
theorem dX7_readAhead_40 : decode cX7_readAhead 40 = .ok (.invokestatic 81, 3) := by decide +kernel
theorem dX7_readAhead_43 : decode cX7_readAhead 43 = .ok (.ifCond .eq 25, 3) := by decide +kernel
theorem dX7_readAhead_46 : decode cX7_readAhead 46 = .ok (.aload_n 0, 1) := by decide +kernel
theorem dX7_readAhead_47 : decode cX7_readAhead 47 = .ok (.getfield 47, 3) := by decide +kernel
theorem dX7_readAhead_50 : decode cX7_readAhead 50 = .ok (.iconst 4, 1) := by decide +kernel
theorem dX7_readAhead_51 : decode cX7_readAhead 51 = .ok (.iload 4, 2) := by decide +kernel
theorem dX7_readAhead_53 : decode cX7_readAhead 53 = .ok (.imul, 1) := by decide +kernel
theorem dX7_readAhead_54 : decode cX7_readAhead 54 = .ok (.iaload, 1) := by decide +kernel
theorem dX7_readAhead_55 : decode cX7_readAhead 55 = .ok (.iload_n 2, 1) := by decide +kernel
theorem dX7_readAhead_56 : decode cX7_readAhead 56 = .ok (.if_icmp .gt 12, 3) := by decide +kernel
theorem dX7_readAhead_59 : decode cX7_readAhead 59 = .ok (.iload_n 3, 1) := by decide +kernel
theorem dX7_readAhead_60 : decode cX7_readAhead 60 = .ok (.iload 4, 2) := by decide +kernel
theorem dX7_readAhead_62 : decode cX7_readAhead 62 = .ok (.invokestatic 153, 3) := by decide +kernel
theorem dX7_readAhead_65 : decode cX7_readAhead 65 = .ok (.ifCond .eq 5, 3) := by decide +kernel
theorem dX7_readAhead_68 : decode cX7_readAhead 68 = .ok (.iconst (-1), 1) := by decide +kernel
theorem dX7_readAhead_69 : decode cX7_readAhead 69 = .ok (.ireturn, 1) := by decide +kernel
theorem dX7_readAhead_70 : decode cX7_readAhead 70 = .ok (.iload_n 3, 1) := by decide +kernel
theorem dX7_readAhead_71 : decode cX7_readAhead 71 = .ok (.iconst 1, 1) := by decide +kernel
theorem dX7_readAhead_72 : decode cX7_readAhead 72 = .ok (.iload 4, 2) := by decide +kernel
theorem dX7_readAhead_74 : decode cX7_readAhead 74 = .ok (.ishl, 1) := by decide +kernel
theorem dX7_readAhead_75 : decode cX7_readAhead 75 = .ok (.ior, 1) := by decide +kernel
theorem dX7_readAhead_76 : decode cX7_readAhead 76 = .ok (.istore_n 3, 1) := by decide +kernel
theorem dX7_readAhead_77 : decode cX7_readAhead 77 = .ok (.aload_n 0, 1) := by decide +kernel
theorem dX7_readAhead_78 : decode cX7_readAhead 78 = .ok (.dup, 1) := by decide +kernel
theorem dX7_readAhead_79 : decode cX7_readAhead 79 = .ok (.getfield 180, 3) := by decide +kernel
theorem dX7_readAhead_82 : decode cX7_readAhead 82 = .ok (.iconst 1, 1) := by decide +kernel
theorem dX7_readAhead_83 : decode cX7_readAhead 83 = .ok (.iadd, 1) := by decide +kernel
theorem dX7_readAhead_84 : decode cX7_readAhead 84 = .ok (.putfield 180, 3) := by decide +kernel
theorem dX7_readAhead_87 : decode cX7_readAhead 87 = .ok (.goto (-85), 3) := by decide +kernel
theorem dX7_readAhead_90 : decode cX7_readAhead 90 = .ok (.iload_n 3, 1) := by decide +kernel
theorem dX7_readAhead_91 : decode cX7_readAhead 91 = .ok (.ireturn, 1) := by decide +kernel
theorem dX7_readBarred_0 : decode cX7_readBarred 0 = .ok (.iconst 0, 1) := by decide +kernel
theorem dX7_readBarred_1 : decode cX7_readBarred 1 = .ok (.istore_n 1, 1) := by decide +kernel
theorem dX7_readBarred_2 : decode cX7_readBarred 2 = .ok (.iload_n 1, 1) := by decide +kernel
theorem dX7_readBarred_3 : decode cX7_readBarred 3 = .ok (.ifCond .eq 20, 3) := by decide +kernel
theorem dX7_readBarred_6 : decode cX7_readBarred 6 = .ok (.aload_n 0, 1) := by decide +kernel
theorem dX7_readBarred_7 : decode cX7_readBarred 7 = .ok (.invokevirtual 183, 3) := by decide +kernel
theorem dX7_readBarred_10 : decode cX7_readBarred 10 = .ok (.i2l, 1) := by decide +kernel
theorem dX7_readBarred_11 : decode cX7_readBarred 11 = .ok (.ldc2_w 187, 3) := by decide +kernel
theorem dX7_readBarred_14 : decode cX7_readBarred 14 = .ok (.ldc2_w 189, 3) := by decide +kernel
theorem dX7_readBarred_17 : decode cX7_readBarred 17 = .ok (.invokestatic 81, 3) := by decide +kernel
theorem dX7_readBarred_20 : decode cX7_readBarred 20 = .ok (.ifCond .eq 52, 3) := by decide +kernel
theorem dX7_readBarred_23 : decode cX7_readBarred 23 = .ok (.aload_n 0, 1) := by decide +kernel
theorem dX7_readBarred_24 : decode cX7_readBarred 24 = .ok (.invokevirtual 183, 3) := by decide +kernel
theorem dX7_readBarred_27 : decode cX7_readBarred 27 = .ok (.bipush 48, 2) := by decide +kernel
theorem dX7_readBarred_29 : decode cX7_readBarred 29 = .ok (.isub, 1) := by decide +kernel
theorem dX7_readBarred_30 : decode cX7_readBarred 30 = .ok (.istore_n 2, 1) := by decide +kernel
theorem dX7_readBarred_31 : decode cX7_readBarred 31 = .ok (.iload_n 2, 1) := by decide +kernel
theorem dX7_readBarred_32 : decode cX7_readBarred 32 = .ok (.i2l, 1) := by decide +kernel
theorem dX7_readBarred_33 : decode cX7_readBarred 33 = .ok (.lconst 0, 1) := by decide +kernel
theorem dX7_readBarred_34 : decode cX7_readBarred 34 = .ok (.ldc2_w 108, 3) := by decide +kernel
theorem dX7_readBarred_37 : decode cX7_readBarred 37 = .ok (.invokestatic 81, 3) := by decide +kernel
theorem dX7_readBarred_40 : decode cX7_readBarred 40 = .ok (.ifCond .eq 11, 3) := by decide +kernel
theorem dX7_readBarred_43 : decode cX7_readBarred 43 = .ok (.iload_n 1, 1) := by decide +kernel
theorem dX7_readBarred_44 : decode cX7_readBarred 44 = .ok (.iload_n 2, 1) := by decide +kernel
theorem dX7_readBarred_45 : decode cX7_readBarred 45 = .ok (.invokestatic 153, 3) := by decide +kernel
theorem dX7_readBarred_48 : decode cX7_readBarred 48 = .ok (.ifCond .eq 5, 3) := by decide +kernel
theorem dX7_readBarred_51 : decode cX7_readBarred 51 = .ok (.iconst (-1), 1) := by decide +kernel
theorem dX7_readBarred_52 : decode cX7_readBarred 52 = .ok (.ireturn, 1) := by decide +kernel
theorem dX7_readBarred_53 : decode cX7_readBarred 53 = .ok (.iload_n 1, 1) := by decide +kernel
theorem dX7_readBarred_54 : decode cX7_readBarred 54 = .ok (.iconst 1, 1) := by decide +kernel
theorem dX7_readBarred_55 : decode cX7_readBarred 55 = .ok (.iload_n 2, 1) := by decide +kernel
theorem dX7_readBarred_56 : decode cX7_readBarred 56 = .ok (.ishl, 1) := by decide +kernel
theorem dX7_readBarred_57 : decode cX7_readBarred 57 = .ok (.ior, 1) := by decide +kernel
theorem dX7_readBarred_58 : decode cX7_readBarred 58 = .ok (.istore_n 1, 1) := by decide +kernel
theorem dX7_readBarred_59 : decode cX7_readBarred 59 = .ok (.aload_n 0, 1) := by decide +kernel
theorem dX7_readBarred_60 : decode cX7_readBarred 60 = .ok (.dup, 1) := by decide +kernel
theorem dX7_readBarred_61 : decode cX7_readBarred 61 = .ok (.getfield 180, 3) := by decide +kernel
theorem dX7_readBarred_64 : decode cX7_readBarred 64 = .ok (.iconst 1, 1) := by decide +kernel
theorem dX7_readBarred_65 : decode cX7_readBarred 65 = .ok (.iadd, 1) := by decide +kernel
theorem dX7_readBarred_66 : decode cX7_readBarred 66 = .ok (.putfield 180, 3) := by decide +kernel
theorem dX7_readBarred_69 : decode cX7_readBarred 69 = .ok (.goto (-67), 3) := by decide +kernel
theorem dX7_readBarred_72 : decode cX7_readBarred 72 = .ok (.iload_n 1, 1) := by decide +kernel
theorem dX7_readBarred_73 : decode cX7_readBarred 73 = .ok (.ireturn, 1) := by decide +kernel
theorem dX7_readNews_0 : decode cX7_readNews 0 = .ok (.iconst 4, 1) := by decide +kernel
theorem dX7_readNews_1 : decode cX7_readNews 1 = .ok (.iload_n 1, 1) := by decide +kernel
theorem dX7_readNews_2 : decode cX7_readNews 2 = .ok (.imul, 1) := by decide +kernel
theorem dX7_readNews_3 : decode cX7_readNews 3 = .ok (.istore_n 2, 1) := by decide +kernel
theorem dX7_readNews_4 : decode cX7_readNews 4 = .ok (.aload_n 0, 1) := by decide +kernel
theorem dX7_readNews_5 : decode cX7_readNews 5 = .ok (.getfield 47, 3) := by decide +kernel
theorem dX7_readNews_8 : decode cX7_readNews 8 = .ok (.iload_n 2, 1) := by decide +kernel
theorem dX7_readNews_9 : decode cX7_readNews 9 = .ok (.aload_n 0, 1) := by decide +kernel
theorem dX7_readNews_10 : decode cX7_readNews 10 = .ok (.bipush 99, 2) := by decide +kernel
theorem dX7_readNews_12 : decode cX7_readNews 12 = .ok (.invokevirtual 200, 3) := by decide +kernel
theorem dX7_readNews_15 : decode cX7_readNews 15 = .ok (.iastore, 1) := by decide +kernel
theorem dX7_readNews_16 : decode cX7_readNews 16 = .ok (.aload_n 0, 1) := by decide +kernel
theorem dX7_readNews_17 : decode cX7_readNews 17 = .ok (.getfield 47, 3) := by decide +kernel
theorem dX7_readNews_20 : decode cX7_readNews 20 = .ok (.iload_n 2, 1) := by decide +kernel
theorem dX7_readNews_21 : decode cX7_readNews 21 = .ok (.iaload, 1) := by decide +kernel
theorem dX7_readNews_22 : decode cX7_readNews 22 = .ok (.ifCond .ge 5, 3) := by decide +kernel
theorem dX7_readNews_25 : decode cX7_readNews 25 = .ok (.iconst 0, 1) := by decide +kernel
theorem dX7_readNews_26 : decode cX7_readNews 26 = .ok (.ireturn, 1) := by decide +kernel
theorem dX7_readNews_27 : decode cX7_readNews 27 = .ok (.aload_n 0, 1) := by decide +kernel
theorem dX7_readNews_28 : decode cX7_readNews 28 = .ok (.getfield 47, 3) := by decide +kernel
theorem dX7_readNews_31 : decode cX7_readNews 31 = .ok (.iload_n 2, 1) := by decide +kernel
theorem dX7_readNews_32 : decode cX7_readNews 32 = .ok (.iconst 3, 1) := by decide +kernel
theorem dX7_readNews_33 : decode cX7_readNews 33 = .ok (.iadd, 1) := by decide +kernel
theorem dX7_readNews_34 : decode cX7_readNews 34 = .ok (.aload_n 0, 1) := by decide +kernel
theorem dX7_readNews_35 : decode cX7_readNews 35 = .ok (.bipush 115, 2) := by decide +kernel
theorem dX7_readNews_37 : decode cX7_readNews 37 = .ok (.invokevirtual 197, 3) := by decide +kernel
theorem dX7_readNews_40 : decode cX7_readNews 40 = .ok (.ifCond .eq 7, 3) := by decide +kernel
theorem dX7_readNews_43 : decode cX7_readNews 43 = .ok (.iconst 1, 1) := by decide +kernel
theorem dX7_readNews_44 : decode cX7_readNews 44 = .ok (.goto 4, 3) := by decide +kernel
theorem dX7_readNews_47 : decode cX7_readNews 47 = .ok (.iconst 0, 1) := by decide +kernel
theorem dX7_readNews_48 : decode cX7_readNews 48 = .ok (.iastore, 1) := by decide +kernel
theorem dX7_readNews_49 : decode cX7_readNews 49 = .ok (.aload_n 0, 1) := by decide +kernel
theorem dX7_readNews_50 : decode cX7_readNews 50 = .ok (.getfield 47, 3) := by decide +kernel
theorem dX7_readNews_53 : decode cX7_readNews 53 = .ok (.iload_n 2, 1) := by decide +kernel
theorem dX7_readNews_54 : decode cX7_readNews 54 = .ok (.iconst 1, 1) := by decide +kernel
theorem dX7_readNews_55 : decode cX7_readNews 55 = .ok (.iadd, 1) := by decide +kernel
theorem dX7_readNews_56 : decode cX7_readNews 56 = .ok (.aload_n 0, 1) := by decide +kernel
theorem dX7_readNews_57 : decode cX7_readNews 57 = .ok (.bipush 60, 2) := by decide +kernel
theorem dX7_readNews_59 : decode cX7_readNews 59 = .ok (.invokevirtual 197, 3) := by decide +kernel
theorem dX7_readNews_62 : decode cX7_readNews 62 = .ok (.ifCond .eq 17, 3) := by decide +kernel
theorem dX7_readNews_65 : decode cX7_readNews 65 = .ok (.aload_n 0, 1) := by decide +kernel
theorem dX7_readNews_66 : decode cX7_readNews 66 = .ok (.iload_n 1, 1) := by decide +kernel
theorem dX7_readNews_67 : decode cX7_readNews 67 = .ok (.aload_n 0, 1) := by decide +kernel
theorem dX7_readNews_68 : decode cX7_readNews 68 = .ok (.getfield 47, 3) := by decide +kernel
theorem dX7_readNews_71 : decode cX7_readNews 71 = .ok (.iload_n 2, 1) := by decide +kernel
theorem dX7_readNews_72 : decode cX7_readNews 72 = .ok (.iaload, 1) := by decide +kernel
theorem dX7_readNews_73 : decode cX7_readNews 73 = .ok (.invokevirtual 207, 3) := by decide +kernel
theorem dX7_readNews_76 : decode cX7_readNews 76 = .ok (.goto 4, 3) := by decide +kernel
theorem dX7_readNews_79 : decode cX7_readNews 79 = .ok (.iconst 0, 1) := by decide +kernel
theorem dX7_readNews_80 : decode cX7_readNews 80 = .ok (.iastore, 1) := by decide +kernel
theorem dX7_readNews_81 : decode cX7_readNews 81 = .ok (.aload_n 0, 1) := by decide +kernel
theorem dX7_readNews_82 : decode cX7_readNews 82 = .ok (.getfield 47, 3) := by decide +kernel
theorem dX7_readNews_85 : decode cX7_readNews 85 = .ok (.iload_n 2, 1) := by decide +kernel
theorem dX7_readNews_86 : decode cX7_readNews 86 = .ok (.iconst 1, 1) := by decide +kernel
theorem dX7_readNews_87 : decode cX7_readNews 87 = .ok (.iadd, 1) := by decide +kernel
theorem dX7_readNews_88 : decode cX7_readNews 88 = .ok (.iaload, 1) := by decide +kernel
theorem dX7_readNews_89 : decode cX7_readNews 89 = .ok (.ifCond .ge 5, 3) := by decide +kernel
theorem dX7_readNews_92 : decode cX7_readNews 92 = .ok (.iconst 0, 1) := by decide +kernel
theorem dX7_readNews_93 : decode cX7_readNews 93 = .ok (.ireturn, 1) := by decide +kernel
theorem dX7_readNews_94 : decode cX7_readNews 94 = .ok (.aload_n 0, 1) := by decide +kernel
theorem dX7_readNews_95 : decode cX7_readNews 95 = .ok (.getfield 47, 3) := by decide +kernel
theorem dX7_readNews_98 : decode cX7_readNews 98 = .ok (.iload_n 2, 1) := by decide +kernel
theorem dX7_readNews_99 : decode cX7_readNews 99 = .ok (.iconst 2, 1) := by decide +kernel
theorem dX7_readNews_100 : decode cX7_readNews 100 = .ok (.iadd, 1) := by decide +kernel
theorem dX7_readNews_101 : decode cX7_readNews 101 = .ok (.aload_n 0, 1) := by decide +kernel
theorem dX7_readNews_102 : decode cX7_readNews 102 = .ok (.bipush 33, 2) := by decide +kernel
theorem dX7_readNews_104 : decode cX7_readNews 104 = .ok (.invokevirtual 197, 3) := by decide +kernel
theorem dX7_readNews_107 : decode cX7_readNews 107 = .ok (.ifCond .eq 10, 3) := by decide +kernel
theorem dX7_readNews_110 : decode cX7_readNews 110 = .ok (.aload_n 0, 1) := by decide +kernel
theorem dX7_readNews_111 : decode cX7_readNews 111 = .ok (.invokevirtual 210, 3) := by decide +kernel
theorem dX7_readNews_114 : decode cX7_readNews 114 = .ok (.goto 4, 3) := by decide +kernel
theorem dX7_readNews_117 : decode cX7_readNews 117 = .ok (.iconst 0, 1) := by decide +kernel
theorem dX7_readNews_118 : decode cX7_readNews 118 = .ok (.iastore, 1) := by decide +kernel
theorem dX7_readNews_119 : decode cX7_readNews 119 = .ok (.aload_n 0, 1) := by decide +kernel
theorem dX7_readNews_120 : decode cX7_readNews 120 = .ok (.getfield 47, 3) := by decide +kernel
theorem dX7_readNews_123 : decode cX7_readNews 123 = .ok (.iload_n 2, 1) := by decide +kernel
theorem dX7_readNews_124 : decode cX7_readNews 124 = .ok (.iconst 2, 1) := by decide +kernel
theorem dX7_readNews_125 : decode cX7_readNews 125 = .ok (.iadd, 1) := by decide +kernel
theorem dX7_readNews_126 : decode cX7_readNews 126 = .ok (.iaload, 1) := by decide +kernel
theorem dX7_readNews_127 : decode cX7_readNews 127 = .ok (.ifCond .lt 7, 3) := by decide +kernel
theorem dX7_readNews_130 : decode cX7_readNews 130 = .ok (.iconst 1, 1) := by decide +kernel
theorem dX7_readNews_131 : decode cX7_readNews 131 = .ok (.goto 4, 3) := by decide +kernel
theorem dX7_readNews_134 : decode cX7_readNews 134 = .ok (.iconst 0, 1) := by decide +kernel
theorem dX7_readNews_135 : decode cX7_readNews 135 = .ok (.ireturn, 1) := by decide +kernel
theorem dX7_readReading_0 : decode cX7_readReading 0 = .ok (.aload_n 0, 1) := by decide +kernel
theorem dX7_readReading_1 : decode cX7_readReading 1 = .ok (.invokevirtual 183, 3) := by decide +kernel
theorem dX7_readReading_4 : decode cX7_readReading 4 = .ok (.bipush 48, 2) := by decide +kernel
theorem dX7_readReading_6 : decode cX7_readReading 6 = .ok (.isub, 1) := by decide +kernel
theorem dX7_readReading_7 : decode cX7_readReading 7 = .ok (.istore_n 2, 1) := by decide +kernel
theorem dX7_readReading_8 : decode cX7_readReading 8 = .ok (.iload_n 2, 1) := by decide +kernel
theorem dX7_readReading_9 : decode cX7_readReading 9 = .ok (.i2l, 1) := by decide +kernel
theorem dX7_readReading_10 : decode cX7_readReading 10 = .ok (.lconst 0, 1) := by decide +kernel
theorem dX7_readReading_11 : decode cX7_readReading 11 = .ok (.ldc2_w 108, 3) := by decide +kernel
theorem dX7_readReading_14 : decode cX7_readReading 14 = .ok (.invokestatic 81, 3) := by decide +kernel
theorem dX7_readReading_17 : decode cX7_readReading 17 = .ok (.ifCond .eq 12, 3) := by decide +kernel
theorem dX7_readReading_20 : decode cX7_readReading 20 = .ok (.aload_n 0, 1) := by decide +kernel
theorem dX7_readReading_21 : decode cX7_readReading 21 = .ok (.iload_n 2, 1) := by decide +kernel
theorem dX7_readReading_22 : decode cX7_readReading 22 = .ok (.i2l, 1) := by decide +kernel
theorem dX7_readReading_23 : decode cX7_readReading 23 = .ok (.invokevirtual 213, 3) := by decide +kernel
theorem dX7_readReading_26 : decode cX7_readReading 26 = .ok (.ifCond .ne 5, 3) := by decide +kernel
theorem dX7_readReading_29 : decode cX7_readReading 29 = .ok (.iconst 0, 1) := by decide +kernel
theorem dX7_readReading_30 : decode cX7_readReading 30 = .ok (.ireturn, 1) := by decide +kernel
theorem dX7_readReading_31 : decode cX7_readReading 31 = .ok (.aload_n 0, 1) := by decide +kernel
theorem dX7_readReading_32 : decode cX7_readReading 32 = .ok (.dup, 1) := by decide +kernel
theorem dX7_readReading_33 : decode cX7_readReading 33 = .ok (.getfield 180, 3) := by decide +kernel
theorem dX7_readReading_36 : decode cX7_readReading 36 = .ok (.iconst 1, 1) := by decide +kernel
theorem dX7_readReading_37 : decode cX7_readReading 37 = .ok (.iadd, 1) := by decide +kernel
theorem dX7_readReading_38 : decode cX7_readReading 38 = .ok (.putfield 180, 3) := by decide +kernel
theorem dX7_readReading_41 : decode cX7_readReading 41 = .ok (.aload_n 0, 1) := by decide +kernel
theorem dX7_readReading_42 : decode cX7_readReading 42 = .ok (.iconst 5, 1) := by decide +kernel
theorem dX7_readReading_43 : decode cX7_readReading 43 = .ok (.invokevirtual 194, 3) := by decide +kernel
theorem dX7_readReading_46 : decode cX7_readReading 46 = .ok (.istore_n 3, 1) := by decide +kernel
theorem dX7_readReading_47 : decode cX7_readReading 47 = .ok (.iload_n 3, 1) := by decide +kernel
theorem dX7_readReading_48 : decode cX7_readReading 48 = .ok (.ifCond .ge 5, 3) := by decide +kernel
theorem dX7_readReading_51 : decode cX7_readReading 51 = .ok (.iconst 0, 1) := by decide +kernel
theorem dX7_readReading_52 : decode cX7_readReading 52 = .ok (.ireturn, 1) := by decide +kernel
theorem dX7_readReading_53 : decode cX7_readReading 53 = .ok (.aload_n 0, 1) := by decide +kernel
theorem dX7_readReading_54 : decode cX7_readReading 54 = .ok (.iconst 5, 1) := by decide +kernel
theorem dX7_readReading_55 : decode cX7_readReading 55 = .ok (.invokevirtual 194, 3) := by decide +kernel
theorem dX7_readReading_58 : decode cX7_readReading 58 = .ok (.istore 4, 2) := by decide +kernel
theorem dX7_readReading_60 : decode cX7_readReading 60 = .ok (.iload 4, 2) := by decide +kernel
theorem dX7_readReading_62 : decode cX7_readReading 62 = .ok (.ifCond .ge 5, 3) := by decide +kernel
theorem dX7_readReading_65 : decode cX7_readReading 65 = .ok (.iconst 0, 1) := by decide +kernel
theorem dX7_readReading_66 : decode cX7_readReading 66 = .ok (.ireturn, 1) := by decide +kernel
theorem dX7_readReading_67 : decode cX7_readReading 67 = .ok (.aload_n 0, 1) := by decide +kernel
theorem dX7_readReading_68 : decode cX7_readReading 68 = .ok (.invokevirtual 183, 3) := by decide +kernel
theorem dX7_readReading_71 : decode cX7_readReading 71 = .ok (.bipush 97, 2) := by decide +kernel
theorem dX7_readReading_73 : decode cX7_readReading 73 = .ok (.isub, 1) := by decide +kernel
theorem dX7_readReading_74 : decode cX7_readReading 74 = .ok (.istore 5, 2) := by decide +kernel
theorem dX7_readReading_76 : decode cX7_readReading 76 = .ok (.aload_n 0, 1) := by decide +kernel
theorem dX7_readReading_77 : decode cX7_readReading 77 = .ok (.iload 5, 2) := by decide +kernel
theorem dX7_readReading_79 : decode cX7_readReading 79 = .ok (.i2l, 1) := by decide +kernel
theorem dX7_readReading_80 : decode cX7_readReading 80 = .ok (.invokevirtual 123, 3) := by decide +kernel
theorem dX7_readReading_83 : decode cX7_readReading 83 = .ok (.ifCond .ne 5, 3) := by decide +kernel
theorem dX7_readReading_86 : decode cX7_readReading 86 = .ok (.iconst 0, 1) := by decide +kernel
theorem dX7_readReading_87 : decode cX7_readReading 87 = .ok (.ireturn, 1) := by decide +kernel
theorem dX7_readReading_88 : decode cX7_readReading 88 = .ok (.aload_n 0, 1) := by decide +kernel
theorem dX7_readReading_89 : decode cX7_readReading 89 = .ok (.dup, 1) := by decide +kernel
theorem dX7_readReading_90 : decode cX7_readReading 90 = .ok (.getfield 180, 3) := by decide +kernel
theorem dX7_readReading_93 : decode cX7_readReading 93 = .ok (.iconst 1, 1) := by decide +kernel
theorem dX7_readReading_94 : decode cX7_readReading 94 = .ok (.iadd, 1) := by decide +kernel
theorem dX7_readReading_95 : decode cX7_readReading 95 = .ok (.putfield 180, 3) := by decide +kernel
theorem dX7_readReading_98 : decode cX7_readReading 98 = .ok (.aload_n 0, 1) := by decide +kernel
theorem dX7_readReading_99 : decode cX7_readReading 99 = .ok (.getfield 47, 3) := by decide +kernel
theorem dX7_readReading_102 : decode cX7_readReading 102 = .ok (.iload_n 1, 1) := by decide +kernel
theorem dX7_readReading_103 : decode cX7_readReading 103 = .ok (.iload_n 2, 1) := by decide +kernel
theorem dX7_readReading_104 : decode cX7_readReading 104 = .ok (.iastore, 1) := by decide +kernel
theorem dX7_readReading_105 : decode cX7_readReading 105 = .ok (.aload_n 0, 1) := by decide +kernel
theorem dX7_readReading_106 : decode cX7_readReading 106 = .ok (.getfield 47, 3) := by decide +kernel
theorem dX7_readReading_109 : decode cX7_readReading 109 = .ok (.iload_n 1, 1) := by decide +kernel
theorem dX7_readReading_110 : decode cX7_readReading 110 = .ok (.iconst 1, 1) := by decide +kernel
theorem dX7_readReading_111 : decode cX7_readReading 111 = .ok (.iadd, 1) := by decide +kernel
theorem dX7_readReading_112 : decode cX7_readReading 112 = .ok (.bipush 6, 2) := by decide +kernel
theorem dX7_readReading_114 : decode cX7_readReading 114 = .ok (.iload_n 3, 1) := by decide +kernel
theorem dX7_readReading_115 : decode cX7_readReading 115 = .ok (.imul, 1) := by decide +kernel
theorem dX7_readReading_116 : decode cX7_readReading 116 = .ok (.iload 4, 2) := by decide +kernel
theorem dX7_readReading_118 : decode cX7_readReading 118 = .ok (.iadd, 1) := by decide +kernel
theorem dX7_readReading_119 : decode cX7_readReading 119 = .ok (.iastore, 1) := by decide +kernel
theorem dX7_readReading_120 : decode cX7_readReading 120 = .ok (.aload_n 0, 1) := by decide +kernel
theorem dX7_readReading_121 : decode cX7_readReading 121 = .ok (.getfield 47, 3) := by decide +kernel
theorem dX7_readReading_124 : decode cX7_readReading 124 = .ok (.iload_n 1, 1) := by decide +kernel
theorem dX7_readReading_125 : decode cX7_readReading 125 = .ok (.iconst 2, 1) := by decide +kernel
theorem dX7_readReading_126 : decode cX7_readReading 126 = .ok (.iadd, 1) := by decide +kernel
theorem dX7_readReading_127 : decode cX7_readReading 127 = .ok (.iload 5, 2) := by decide +kernel
theorem dX7_readReading_129 : decode cX7_readReading 129 = .ok (.iastore, 1) := by decide +kernel
theorem dX7_readReading_130 : decode cX7_readReading 130 = .ok (.iconst 1, 1) := by decide +kernel
theorem dX7_readReading_131 : decode cX7_readReading 131 = .ok (.ireturn, 1) := by decide +kernel
theorem dX7_readAll_0 : decode cX7_readAll 0 = .ok (.aload_n 0, 1) := by decide +kernel
theorem dX7_readAll_1 : decode cX7_readAll 1 = .ok (.iconst 0, 1) := by decide +kernel
theorem dX7_readAll_2 : decode cX7_readAll 2 = .ok (.putfield 180, 3) := by decide +kernel
theorem dX7_readAll_5 : decode cX7_readAll 5 = .ok (.aload_n 0, 1) := by decide +kernel
theorem dX7_readAll_6 : decode cX7_readAll 6 = .ok (.iconst 0, 1) := by decide +kernel
theorem dX7_readAll_7 : decode cX7_readAll 7 = .ok (.putfield 216, 3) := by decide +kernel
theorem dX7_readAll_10 : decode cX7_readAll 10 = .ok (.iload_n 1, 1) := by decide +kernel
theorem dX7_readAll_11 : decode cX7_readAll 11 = .ok (.ifCond .ne 8, 3) := by decide +kernel
theorem dX7_readAll_14 : decode cX7_readAll 14 = .ok (.bipush 10, 2) := by decide +kernel
theorem dX7_readAll_16 : decode cX7_readAll 16 = .ok (.goto 15, 3) := by decide +kernel
theorem dX7_readAll_19 : decode cX7_readAll 19 = .ok (.iload_n 1, 1) := by decide +kernel
theorem dX7_readAll_20 : decode cX7_readAll 20 = .ok (.iconst 1, 1) := by decide +kernel
theorem dX7_readAll_21 : decode cX7_readAll 21 = .ok (.if_icmp .ne 8, 3) := by decide +kernel
theorem dX7_readAll_24 : decode cX7_readAll 24 = .ok (.bipush 12, 2) := by decide +kernel
theorem dX7_readAll_26 : decode cX7_readAll 26 = .ok (.goto 5, 3) := by decide +kernel
theorem dX7_readAll_29 : decode cX7_readAll 29 = .ok (.bipush 40, 2) := by decide +kernel
theorem dX7_readAll_31 : decode cX7_readAll 31 = .ok (.istore_n 2, 1) := by decide +kernel
theorem dX7_readAll_32 : decode cX7_readAll 32 = .ok (.iconst 1, 1) := by decide +kernel
theorem dX7_readAll_33 : decode cX7_readAll 33 = .ok (.istore_n 3, 1) := by decide +kernel
theorem dX7_readAll_34 : decode cX7_readAll 34 = .ok (.iload_n 3, 1) := by decide +kernel
theorem dX7_readAll_35 : decode cX7_readAll 35 = .ok (.ifCond .eq 123, 3) := by decide +kernel
theorem dX7_readAll_38 : decode cX7_readAll 38 = .ok (.aload_n 0, 1) := by decide +kernel
theorem dX7_readAll_39 : decode cX7_readAll 39 = .ok (.getfield 216, 3) := by decide +kernel
theorem dX7_readAll_42 : decode cX7_readAll 42 = .ok (.iload_n 2, 1) := by decide +kernel
theorem dX7_readAll_43 : decode cX7_readAll 43 = .ok (.if_icmp .ge 59, 3) := by decide +kernel
theorem dX7_readAll_46 : decode cX7_readAll 46 = .ok (.iload_n 1, 1) := by decide +kernel
theorem dX7_readAll_47 : decode cX7_readAll 47 = .ok (.ifCond .ne 19, 3) := by decide +kernel
theorem dX7_readAll_50 : decode cX7_readAll 50 = .ok (.aload_n 0, 1) := by decide +kernel
theorem dX7_readAll_51 : decode cX7_readAll 51 = .ok (.iconst 3, 1) := by decide +kernel
theorem dX7_readAll_52 : decode cX7_readAll 52 = .ok (.aload_n 0, 1) := by decide +kernel
theorem dX7_readAll_53 : decode cX7_readAll 53 = .ok (.getfield 216, 3) := by decide +kernel
theorem dX7_readAll_56 : decode cX7_readAll 56 = .ok (.imul, 1) := by decide +kernel
theorem dX7_readAll_57 : decode cX7_readAll 57 = .ok (.invokevirtual 219, 3) := by decide +kernel
theorem dX7_readAll_60 : decode cX7_readAll 60 = .ok (.ifCond .eq 42, 3) := by decide +kernel
theorem dX7_readAll_63 : decode cX7_readAll 63 = .ok (.goto 35, 3) := by decide +kernel
theorem dX7_readAll_66 : decode cX7_readAll 66 = .ok (.iload_n 1, 1) := by decide +kernel
theorem dX7_readAll_67 : decode cX7_readAll 67 = .ok (.iconst 1, 1) := by decide +kernel
theorem dX7_readAll_68 : decode cX7_readAll 68 = .ok (.if_icmp .ne 17, 3) := by decide +kernel
theorem dX7_readAll_71 : decode cX7_readAll 71 = .ok (.aload_n 0, 1) := by decide +kernel
theorem dX7_readAll_72 : decode cX7_readAll 72 = .ok (.aload_n 0, 1) := by decide +kernel
theorem dX7_readAll_73 : decode cX7_readAll 73 = .ok (.getfield 216, 3) := by decide +kernel
theorem dX7_readAll_76 : decode cX7_readAll 76 = .ok (.invokevirtual 222, 3) := by decide +kernel
theorem dX7_readAll_79 : decode cX7_readAll 79 = .ok (.ifCond .eq 23, 3) := by decide +kernel
theorem dX7_readAll_82 : decode cX7_readAll 82 = .ok (.goto 16, 3) := by decide +kernel
theorem dX7_readAll_85 : decode cX7_readAll 85 = .ok (.aload_n 0, 1) := by decide +kernel
theorem dX7_readAll_86 : decode cX7_readAll 86 = .ok (.iconst 3, 1) := by decide +kernel
theorem dX7_readAll_87 : decode cX7_readAll 87 = .ok (.aload_n 0, 1) := by decide +kernel
theorem dX7_readAll_88 : decode cX7_readAll 88 = .ok (.getfield 216, 3) := by decide +kernel
theorem dX7_readAll_91 : decode cX7_readAll 91 = .ok (.imul, 1) := by decide +kernel
theorem dX7_readAll_92 : decode cX7_readAll 92 = .ok (.invokevirtual 225, 3) := by decide +kernel
theorem dX7_readAll_95 : decode cX7_readAll 95 = .ok (.ifCond .eq 7, 3) := by decide +kernel
theorem dX7_readAll_98 : decode cX7_readAll 98 = .ok (.iconst 1, 1) := by decide +kernel
theorem dX7_readAll_99 : decode cX7_readAll 99 = .ok (.goto 4, 3) := by decide +kernel
theorem dX7_readAll_102 : decode cX7_readAll 102 = .ok (.iconst 0, 1) := by decide +kernel
theorem dX7_readAll_103 : decode cX7_readAll 103 = .ok (.istore 4, 2) := by decide +kernel
theorem dX7_readAll_105 : decode cX7_readAll 105 = .ok (.iload 4, 2) := by decide +kernel
theorem dX7_readAll_107 : decode cX7_readAll 107 = .ok (.ifCond .ne 5, 3) := by decide +kernel
theorem dX7_readAll_110 : decode cX7_readAll 110 = .ok (.iconst 0, 1) := by decide +kernel
theorem dX7_readAll_111 : decode cX7_readAll 111 = .ok (.ireturn, 1) := by decide +kernel
theorem dX7_readAll_112 : decode cX7_readAll 112 = .ok (.aload_n 0, 1) := by decide +kernel
theorem dX7_readAll_113 : decode cX7_readAll 113 = .ok (.dup, 1) := by decide +kernel
theorem dX7_readAll_114 : decode cX7_readAll 114 = .ok (.getfield 216, 3) := by decide +kernel
theorem dX7_readAll_117 : decode cX7_readAll 117 = .ok (.iconst 1, 1) := by decide +kernel
theorem dX7_readAll_118 : decode cX7_readAll 118 = .ok (.iadd, 1) := by decide +kernel
theorem dX7_readAll_119 : decode cX7_readAll 119 = .ok (.putfield 216, 3) := by decide +kernel
theorem dX7_readAll_122 : decode cX7_readAll 122 = .ok (.aload_n 0, 1) := by decide +kernel
theorem dX7_readAll_123 : decode cX7_readAll 123 = .ok (.getfield 216, 3) := by decide +kernel
theorem dX7_readAll_126 : decode cX7_readAll 126 = .ok (.iload_n 2, 1) := by decide +kernel
theorem dX7_readAll_127 : decode cX7_readAll 127 = .ok (.if_icmp .ge 26, 3) := by decide +kernel
theorem dX7_readAll_130 : decode cX7_readAll 130 = .ok (.aload_n 0, 1) := by decide +kernel
theorem dX7_readAll_131 : decode cX7_readAll 131 = .ok (.iload_n 1, 1) := by decide +kernel
theorem dX7_readAll_132 : decode cX7_readAll 132 = .ok (.iconst 2, 1) := by decide +kernel
theorem dX7_readAll_133 : decode cX7_readAll 133 = .ok (.if_icmp .ne 8, 3) := by decide +kernel
theorem dX7_readAll_136 : decode cX7_readAll 136 = .ok (.bipush 59, 2) := by decide +kernel
theorem dX7_readAll_138 : decode cX7_readAll 138 = .ok (.goto 5, 3) := by decide +kernel
theorem dX7_readAll_141 : decode cX7_readAll 141 = .ok (.bipush 44, 2) := by decide +kernel
theorem dX7_readAll_143 : decode cX7_readAll 143 = .ok (.invokevirtual 197, 3) := by decide +kernel
theorem dX7_readAll_146 : decode cX7_readAll 146 = .ok (.ifCond .eq 7, 3) := by decide +kernel
theorem dX7_readAll_149 : decode cX7_readAll 149 = .ok (.iconst 1, 1) := by decide +kernel
theorem dX7_readAll_150 : decode cX7_readAll 150 = .ok (.goto 4, 3) := by decide +kernel
theorem dX7_readAll_153 : decode cX7_readAll 153 = .ok (.iconst 0, 1) := by decide +kernel
theorem dX7_readAll_154 : decode cX7_readAll 154 = .ok (.istore_n 3, 1) := by decide +kernel
theorem dX7_readAll_155 : decode cX7_readAll 155 = .ok (.goto (-121), 3) := by decide +kernel
theorem dX7_readAll_158 : decode cX7_readAll 158 = .ok (.aload_n 0, 1) := by decide +kernel
theorem dX7_readAll_159 : decode cX7_readAll 159 = .ok (.invokevirtual 183, 3) := by decide +kernel
theorem dX7_readAll_162 : decode cX7_readAll 162 = .ok (.ifCond .ge 7, 3) := by decide +kernel
theorem dX7_readAll_165 : decode cX7_readAll 165 = .ok (.iconst 1, 1) := by decide +kernel
theorem dX7_readAll_166 : decode cX7_readAll 166 = .ok (.goto 4, 3) := by decide +kernel
theorem dX7_readAll_169 : decode cX7_readAll 169 = .ok (.iconst 0, 1) := by decide +kernel
theorem dX7_readAll_170 : decode cX7_readAll 170 = .ok (.ireturn, 1) := by decide +kernel
theorem dX7_forget_0 : decode cX7_forget 0 = .ok (.iconst 0, 1) := by decide +kernel
theorem dX7_forget_1 : decode cX7_forget 1 = .ok (.istore_n 1, 1) := by decide +kernel
theorem dX7_forget_2 : decode cX7_forget 2 = .ok (.iload_n 1, 1) := by decide +kernel
theorem dX7_forget_3 : decode cX7_forget 3 = .ok (.bipush 10, 2) := by decide +kernel
theorem dX7_forget_5 : decode cX7_forget 5 = .ok (.if_icmp .ge 28, 3) := by decide +kernel
theorem dX7_forget_8 : decode cX7_forget 8 = .ok (.aload_n 0, 1) := by decide +kernel
theorem dX7_forget_9 : decode cX7_forget 9 = .ok (.getfield 38, 3) := by decide +kernel
theorem dX7_forget_12 : decode cX7_forget 12 = .ok (.iconst 0, 1) := by decide +kernel
theorem dX7_forget_13 : decode cX7_forget 13 = .ok (.iload_n 1, 1) := by decide +kernel
theorem dX7_forget_14 : decode cX7_forget 14 = .ok (.iadd, 1) := by decide +kernel
theorem dX7_forget_15 : decode cX7_forget 15 = .ok (.iconst 0, 1) := by decide +kernel
theorem dX7_forget_16 : decode cX7_forget 16 = .ok (.iastore, 1) := by decide +kernel
theorem dX7_forget_17 : decode cX7_forget 17 = .ok (.aload_n 0, 1) := by decide +kernel
theorem dX7_forget_18 : decode cX7_forget 18 = .ok (.getfield 38, 3) := by decide +kernel
theorem dX7_forget_21 : decode cX7_forget 21 = .ok (.bipush 10, 2) := by decide +kernel
theorem dX7_forget_23 : decode cX7_forget 23 = .ok (.iload_n 1, 1) := by decide +kernel
theorem dX7_forget_24 : decode cX7_forget 24 = .ok (.iadd, 1) := by decide +kernel
theorem dX7_forget_25 : decode cX7_forget 25 = .ok (.iconst 0, 1) := by decide +kernel
theorem dX7_forget_26 : decode cX7_forget 26 = .ok (.iastore, 1) := by decide +kernel
theorem dX7_forget_27 : decode cX7_forget 27 = .ok (.iinc 1 1, 3) := by decide +kernel
theorem dX7_forget_30 : decode cX7_forget 30 = .ok (.goto (-28), 3) := by decide +kernel
theorem dX7_forget_33 : decode cX7_forget 33 = .ok (.aload_n 0, 1) := by decide +kernel
theorem dX7_forget_34 : decode cX7_forget 34 = .ok (.iconst 0, 1) := by decide +kernel
theorem dX7_forget_35 : decode cX7_forget 35 = .ok (.putfield 105, 3) := by decide +kernel
theorem dX7_forget_38 : decode cX7_forget 38 = .ok (.return_, 1) := by decide +kernel
theorem dX7_yard_0 : decode cX7_yard 0 = .ok (.aload_n 0, 1) := by decide +kernel
theorem dX7_yard_1 : decode cX7_yard 1 = .ok (.aload_n 0, 1) := by decide +kernel
theorem dX7_yard_2 : decode cX7_yard 2 = .ok (.iconst 0, 1) := by decide +kernel
theorem dX7_yard_3 : decode cX7_yard 3 = .ok (.invokevirtual 228, 3) := by decide +kernel
theorem dX7_yard_6 : decode cX7_yard 6 = .ok (.invokevirtual 231, 3) := by decide +kernel
theorem dX7_yard_9 : decode cX7_yard 9 = .ok (.istore_n 1, 1) := by decide +kernel
theorem dX7_yard_10 : decode cX7_yard 10 = .ok (.iload_n 1, 1) := by decide +kernel
theorem dX7_yard_11 : decode cX7_yard 11 = .ok (.ifCond .ge 5, 3) := by decide +kernel
theorem dX7_yard_14 : decode cX7_yard 14 = .ok (.iload_n 1, 1) := by decide +kernel
theorem dX7_yard_15 : decode cX7_yard 15 = .ok (.ireturn, 1) := by decide +kernel
theorem dX7_yard_16 : decode cX7_yard 16 = .ok (.aload_n 0, 1) := by decide +kernel
theorem dX7_yard_17 : decode cX7_yard 17 = .ok (.iconst 0, 1) := by decide +kernel
theorem dX7_yard_18 : decode cX7_yard 18 = .ok (.putfield 78, 3) := by decide +kernel
theorem dX7_yard_21 : decode cX7_yard 21 = .ok (.aload_n 0, 1) := by decide +kernel
theorem dX7_yard_22 : decode cX7_yard 22 = .ok (.invokevirtual 235, 3) := by decide +kernel
theorem dX7_yard_25 : decode cX7_yard 25 = .ok (.iconst 0, 1) := by decide +kernel
theorem dX7_yard_26 : decode cX7_yard 26 = .ok (.istore_n 2, 1) := by decide +kernel
theorem dX7_yard_27 : decode cX7_yard 27 = .ok (.iload_n 2, 1) := by decide +kernel
theorem dX7_yard_28 : decode cX7_yard 28 = .ok (.aload_n 0, 1) := by decide +kernel
theorem dX7_yard_29 : decode cX7_yard 29 = .ok (.getfield 216, 3) := by decide +kernel
theorem dX7_yard_32 : decode cX7_yard 32 = .ok (.if_icmp .ge 41, 3) := by decide +kernel
theorem dX7_yard_35 : decode cX7_yard 35 = .ok (.aload_n 0, 1) := by decide +kernel
theorem dX7_yard_36 : decode cX7_yard 36 = .ok (.aload_n 0, 1) := by decide +kernel
theorem dX7_yard_37 : decode cX7_yard 37 = .ok (.getfield 47, 3) := by decide +kernel
theorem dX7_yard_40 : decode cX7_yard 40 = .ok (.iconst 3, 1) := by decide +kernel
theorem dX7_yard_41 : decode cX7_yard 41 = .ok (.iload_n 2, 1) := by decide +kernel
theorem dX7_yard_42 : decode cX7_yard 42 = .ok (.imul, 1) := by decide +kernel
theorem dX7_yard_43 : decode cX7_yard 43 = .ok (.iaload, 1) := by decide +kernel
theorem dX7_yard_44 : decode cX7_yard 44 = .ok (.aload_n 0, 1) := by decide +kernel
theorem dX7_yard_45 : decode cX7_yard 45 = .ok (.getfield 47, 3) := by decide +kernel
theorem dX7_yard_48 : decode cX7_yard 48 = .ok (.iconst 3, 1) := by decide +kernel
theorem dX7_yard_49 : decode cX7_yard 49 = .ok (.iload_n 2, 1) := by decide +kernel
theorem dX7_yard_50 : decode cX7_yard 50 = .ok (.imul, 1) := by decide +kernel
theorem dX7_yard_51 : decode cX7_yard 51 = .ok (.iconst 1, 1) := by decide +kernel
theorem dX7_yard_52 : decode cX7_yard 52 = .ok (.iadd, 1) := by decide +kernel
theorem dX7_yard_53 : decode cX7_yard 53 = .ok (.iaload, 1) := by decide +kernel
theorem dX7_yard_54 : decode cX7_yard 54 = .ok (.aload_n 0, 1) := by decide +kernel
theorem dX7_yard_55 : decode cX7_yard 55 = .ok (.getfield 47, 3) := by decide +kernel
theorem dX7_yard_58 : decode cX7_yard 58 = .ok (.iconst 3, 1) := by decide +kernel
theorem dX7_yard_59 : decode cX7_yard 59 = .ok (.iload_n 2, 1) := by decide +kernel
theorem dX7_yard_60 : decode cX7_yard 60 = .ok (.imul, 1) := by decide +kernel
theorem dX7_yard_61 : decode cX7_yard 61 = .ok (.iconst 2, 1) := by decide +kernel
theorem dX7_yard_62 : decode cX7_yard 62 = .ok (.iadd, 1) := by decide +kernel
theorem dX7_yard_63 : decode cX7_yard 63 = .ok (.iaload, 1) := by decide +kernel
theorem dX7_yard_64 : decode cX7_yard 64 = .ok (.invokevirtual 101, 3) := by decide +kernel
theorem dX7_yard_67 : decode cX7_yard 67 = .ok (.iinc 2 1, 3) := by decide +kernel
theorem dX7_yard_70 : decode cX7_yard 70 = .ok (.goto (-43), 3) := by decide +kernel
theorem dX7_yard_73 : decode cX7_yard 73 = .ok (.aload_n 0, 1) := by decide +kernel
theorem dX7_yard_74 : decode cX7_yard 74 = .ok (.getfield 78, 3) := by decide +kernel
theorem dX7_yard_77 : decode cX7_yard 77 = .ok (.ireturn, 1) := by decide +kernel
theorem dX7_paper_0 : decode cX7_paper 0 = .ok (.aload_n 0, 1) := by decide +kernel
theorem dX7_paper_1 : decode cX7_paper 1 = .ok (.aload_n 0, 1) := by decide +kernel
theorem dX7_paper_2 : decode cX7_paper 2 = .ok (.iconst 1, 1) := by decide +kernel
theorem dX7_paper_3 : decode cX7_paper 3 = .ok (.invokevirtual 228, 3) := by decide +kernel
theorem dX7_paper_6 : decode cX7_paper 6 = .ok (.invokevirtual 231, 3) := by decide +kernel
theorem dX7_paper_9 : decode cX7_paper 9 = .ok (.istore_n 1, 1) := by decide +kernel
theorem dX7_paper_10 : decode cX7_paper 10 = .ok (.iload_n 1, 1) := by decide +kernel
theorem dX7_paper_11 : decode cX7_paper 11 = .ok (.ifCond .ge 5, 3) := by decide +kernel
theorem dX7_paper_14 : decode cX7_paper 14 = .ok (.iload_n 1, 1) := by decide +kernel
theorem dX7_paper_15 : decode cX7_paper 15 = .ok (.ireturn, 1) := by decide +kernel
theorem dX7_paper_16 : decode cX7_paper 16 = .ok (.aload_n 0, 1) := by decide +kernel
theorem dX7_paper_17 : decode cX7_paper 17 = .ok (.iconst 0, 1) := by decide +kernel
theorem dX7_paper_18 : decode cX7_paper 18 = .ok (.putfield 85, 3) := by decide +kernel
theorem dX7_paper_21 : decode cX7_paper 21 = .ok (.aload_n 0, 1) := by decide +kernel
theorem dX7_paper_22 : decode cX7_paper 22 = .ok (.invokevirtual 235, 3) := by decide +kernel
theorem dX7_paper_25 : decode cX7_paper 25 = .ok (.iconst 0, 1) := by decide +kernel
theorem dX7_paper_26 : decode cX7_paper 26 = .ok (.istore_n 2, 1) := by decide +kernel
theorem dX7_paper_27 : decode cX7_paper 27 = .ok (.iload_n 2, 1) := by decide +kernel
theorem dX7_paper_28 : decode cX7_paper 28 = .ok (.aload_n 0, 1) := by decide +kernel
theorem dX7_paper_29 : decode cX7_paper 29 = .ok (.getfield 216, 3) := by decide +kernel
theorem dX7_paper_32 : decode cX7_paper 32 = .ok (.if_icmp .ge 51, 3) := by decide +kernel
theorem dX7_paper_35 : decode cX7_paper 35 = .ok (.aload_n 0, 1) := by decide +kernel
theorem dX7_paper_36 : decode cX7_paper 36 = .ok (.aload_n 0, 1) := by decide +kernel
theorem dX7_paper_37 : decode cX7_paper 37 = .ok (.getfield 47, 3) := by decide +kernel
theorem dX7_paper_40 : decode cX7_paper 40 = .ok (.iconst 4, 1) := by decide +kernel
theorem dX7_paper_41 : decode cX7_paper 41 = .ok (.iload_n 2, 1) := by decide +kernel
theorem dX7_paper_42 : decode cX7_paper 42 = .ok (.imul, 1) := by decide +kernel
theorem dX7_paper_43 : decode cX7_paper 43 = .ok (.iaload, 1) := by decide +kernel
theorem dX7_paper_44 : decode cX7_paper 44 = .ok (.aload_n 0, 1) := by decide +kernel
theorem dX7_paper_45 : decode cX7_paper 45 = .ok (.getfield 47, 3) := by decide +kernel
theorem dX7_paper_48 : decode cX7_paper 48 = .ok (.iconst 4, 1) := by decide +kernel
theorem dX7_paper_49 : decode cX7_paper 49 = .ok (.iload_n 2, 1) := by decide +kernel
theorem dX7_paper_50 : decode cX7_paper 50 = .ok (.imul, 1) := by decide +kernel
theorem dX7_paper_51 : decode cX7_paper 51 = .ok (.iconst 1, 1) := by decide +kernel
theorem dX7_paper_52 : decode cX7_paper 52 = .ok (.iadd, 1) := by decide +kernel
theorem dX7_paper_53 : decode cX7_paper 53 = .ok (.iaload, 1) := by decide +kernel
theorem dX7_paper_54 : decode cX7_paper 54 = .ok (.aload_n 0, 1) := by decide +kernel
theorem dX7_paper_55 : decode cX7_paper 55 = .ok (.getfield 47, 3) := by decide +kernel
theorem dX7_paper_58 : decode cX7_paper 58 = .ok (.iconst 4, 1) := by decide +kernel
theorem dX7_paper_59 : decode cX7_paper 59 = .ok (.iload_n 2, 1) := by decide +kernel
theorem dX7_paper_60 : decode cX7_paper 60 = .ok (.imul, 1) := by decide +kernel
theorem dX7_paper_61 : decode cX7_paper 61 = .ok (.iconst 2, 1) := by decide +kernel
theorem dX7_paper_62 : decode cX7_paper 62 = .ok (.iadd, 1) := by decide +kernel
theorem dX7_paper_63 : decode cX7_paper 63 = .ok (.iaload, 1) := by decide +kernel
theorem dX7_paper_64 : decode cX7_paper 64 = .ok (.aload_n 0, 1) := by decide +kernel
theorem dX7_paper_65 : decode cX7_paper 65 = .ok (.getfield 47, 3) := by decide +kernel
theorem dX7_paper_68 : decode cX7_paper 68 = .ok (.iconst 4, 1) := by decide +kernel
theorem dX7_paper_69 : decode cX7_paper 69 = .ok (.iload_n 2, 1) := by decide +kernel
theorem dX7_paper_70 : decode cX7_paper 70 = .ok (.imul, 1) := by decide +kernel
theorem dX7_paper_71 : decode cX7_paper 71 = .ok (.iconst 3, 1) := by decide +kernel
theorem dX7_paper_72 : decode cX7_paper 72 = .ok (.iadd, 1) := by decide +kernel
theorem dX7_paper_73 : decode cX7_paper 73 = .ok (.iaload, 1) := by decide +kernel
theorem dX7_paper_74 : decode cX7_paper 74 = .ok (.invokevirtual 119, 3) := by decide +kernel
theorem dX7_paper_77 : decode cX7_paper 77 = .ok (.iinc 2 1, 3) := by decide +kernel
theorem dX7_paper_80 : decode cX7_paper 80 = .ok (.goto (-53), 3) := by decide +kernel
theorem dX7_paper_83 : decode cX7_paper 83 = .ok (.aload_n 0, 1) := by decide +kernel
theorem dX7_paper_84 : decode cX7_paper 84 = .ok (.getfield 85, 3) := by decide +kernel
theorem dX7_paper_87 : decode cX7_paper 87 = .ok (.ireturn, 1) := by decide +kernel
theorem dX7_day_0 : decode cX7_day 0 = .ok (.aload_n 0, 1) := by decide +kernel
theorem dX7_day_1 : decode cX7_day 1 = .ok (.aload_n 0, 1) := by decide +kernel
theorem dX7_day_2 : decode cX7_day 2 = .ok (.iconst 2, 1) := by decide +kernel
theorem dX7_day_3 : decode cX7_day 3 = .ok (.invokevirtual 228, 3) := by decide +kernel
theorem dX7_day_6 : decode cX7_day 6 = .ok (.invokevirtual 231, 3) := by decide +kernel
theorem dX7_day_9 : decode cX7_day 9 = .ok (.istore_n 1, 1) := by decide +kernel
theorem dX7_day_10 : decode cX7_day 10 = .ok (.iload_n 1, 1) := by decide +kernel
theorem dX7_day_11 : decode cX7_day 11 = .ok (.ifCond .ge 5, 3) := by decide +kernel
theorem dX7_day_14 : decode cX7_day 14 = .ok (.iload_n 1, 1) := by decide +kernel
theorem dX7_day_15 : decode cX7_day 15 = .ok (.ireturn, 1) := by decide +kernel
theorem dX7_day_16 : decode cX7_day 16 = .ok (.iconst 0, 1) := by decide +kernel
theorem dX7_day_17 : decode cX7_day 17 = .ok (.istore_n 2, 1) := by decide +kernel
theorem dX7_day_18 : decode cX7_day 18 = .ok (.iconst 0, 1) := by decide +kernel
theorem dX7_day_19 : decode cX7_day 19 = .ok (.istore_n 3, 1) := by decide +kernel
theorem dX7_day_20 : decode cX7_day 20 = .ok (.iload_n 3, 1) := by decide +kernel
theorem dX7_day_21 : decode cX7_day 21 = .ok (.aload_n 0, 1) := by decide +kernel
theorem dX7_day_22 : decode cX7_day 22 = .ok (.getfield 216, 3) := by decide +kernel
theorem dX7_day_25 : decode cX7_day 25 = .ok (.if_icmp .ge 98, 3) := by decide +kernel
theorem dX7_day_28 : decode cX7_day 28 = .ok (.aload_n 0, 1) := by decide +kernel
theorem dX7_day_29 : decode cX7_day 29 = .ok (.getfield 38, 3) := by decide +kernel
theorem dX7_day_32 : decode cX7_day 32 = .ok (.sipush 140, 3) := by decide +kernel
theorem dX7_day_35 : decode cX7_day 35 = .ok (.iaload, 1) := by decide +kernel
theorem dX7_day_36 : decode cX7_day 36 = .ok (.sipush 9999, 3) := by decide +kernel
theorem dX7_day_39 : decode cX7_day 39 = .ok (.if_icmp .ge 84, 3) := by decide +kernel
theorem dX7_day_42 : decode cX7_day 42 = .ok (.iconst 3, 1) := by decide +kernel
theorem dX7_day_43 : decode cX7_day 43 = .ok (.iload_n 3, 1) := by decide +kernel
theorem dX7_day_44 : decode cX7_day 44 = .ok (.imul, 1) := by decide +kernel
theorem dX7_day_45 : decode cX7_day 45 = .ok (.istore 4, 2) := by decide +kernel
theorem dX7_day_47 : decode cX7_day 47 = .ok (.iload_n 2, 1) := by decide +kernel
theorem dX7_day_48 : decode cX7_day 48 = .ok (.aload_n 0, 1) := by decide +kernel
theorem dX7_day_49 : decode cX7_day 49 = .ok (.aload_n 0, 1) := by decide +kernel
theorem dX7_day_50 : decode cX7_day 50 = .ok (.getfield 47, 3) := by decide +kernel
theorem dX7_day_53 : decode cX7_day 53 = .ok (.iload 4, 2) := by decide +kernel
theorem dX7_day_55 : decode cX7_day 55 = .ok (.iaload, 1) := by decide +kernel
theorem dX7_day_56 : decode cX7_day 56 = .ok (.aload_n 0, 1) := by decide +kernel
theorem dX7_day_57 : decode cX7_day 57 = .ok (.getfield 47, 3) := by decide +kernel
theorem dX7_day_60 : decode cX7_day 60 = .ok (.iload 4, 2) := by decide +kernel
theorem dX7_day_62 : decode cX7_day 62 = .ok (.iconst 1, 1) := by decide +kernel
theorem dX7_day_63 : decode cX7_day 63 = .ok (.iadd, 1) := by decide +kernel
theorem dX7_day_64 : decode cX7_day 64 = .ok (.iaload, 1) := by decide +kernel
theorem dX7_day_65 : decode cX7_day 65 = .ok (.aload_n 0, 1) := by decide +kernel
theorem dX7_day_66 : decode cX7_day 66 = .ok (.getfield 47, 3) := by decide +kernel
theorem dX7_day_69 : decode cX7_day 69 = .ok (.iload 4, 2) := by decide +kernel
theorem dX7_day_71 : decode cX7_day 71 = .ok (.iconst 2, 1) := by decide +kernel
theorem dX7_day_72 : decode cX7_day 72 = .ok (.iadd, 1) := by decide +kernel
theorem dX7_day_73 : decode cX7_day 73 = .ok (.iaload, 1) := by decide +kernel
theorem dX7_day_74 : decode cX7_day 74 = .ok (.invokevirtual 238, 3) := by decide +kernel
theorem dX7_day_77 : decode cX7_day 77 = .ok (.ifCond .ne 7, 3) := by decide +kernel
theorem dX7_day_80 : decode cX7_day 80 = .ok (.iconst 1, 1) := by decide +kernel
theorem dX7_day_81 : decode cX7_day 81 = .ok (.goto 4, 3) := by decide +kernel
theorem dX7_day_84 : decode cX7_day 84 = .ok (.iconst 0, 1) := by decide +kernel
theorem dX7_day_85 : decode cX7_day 85 = .ok (.iadd, 1) := by decide +kernel
theorem dX7_day_86 : decode cX7_day 86 = .ok (.istore_n 2, 1) := by decide +kernel
theorem dX7_day_87 : decode cX7_day 87 = .ok (.aload_n 0, 1) := by decide +kernel
theorem dX7_day_88 : decode cX7_day 88 = .ok (.aload_n 0, 1) := by decide +kernel
theorem dX7_day_89 : decode cX7_day 89 = .ok (.getfield 47, 3) := by decide +kernel
theorem dX7_day_92 : decode cX7_day 92 = .ok (.iload 4, 2) := by decide +kernel
theorem dX7_day_94 : decode cX7_day 94 = .ok (.iaload, 1) := by decide +kernel
theorem dX7_day_95 : decode cX7_day 95 = .ok (.aload_n 0, 1) := by decide +kernel
theorem dX7_day_96 : decode cX7_day 96 = .ok (.getfield 47, 3) := by decide +kernel
theorem dX7_day_99 : decode cX7_day 99 = .ok (.iload 4, 2) := by decide +kernel
theorem dX7_day_101 : decode cX7_day 101 = .ok (.iconst 1, 1) := by decide +kernel
theorem dX7_day_102 : decode cX7_day 102 = .ok (.iadd, 1) := by decide +kernel
theorem dX7_day_103 : decode cX7_day 103 = .ok (.iaload, 1) := by decide +kernel
theorem dX7_day_104 : decode cX7_day 104 = .ok (.aload_n 0, 1) := by decide +kernel
theorem dX7_day_105 : decode cX7_day 105 = .ok (.getfield 47, 3) := by decide +kernel
theorem dX7_day_108 : decode cX7_day 108 = .ok (.iload 4, 2) := by decide +kernel
theorem dX7_day_110 : decode cX7_day 110 = .ok (.iconst 2, 1) := by decide +kernel
theorem dX7_day_111 : decode cX7_day 111 = .ok (.iadd, 1) := by decide +kernel
theorem dX7_day_112 : decode cX7_day 112 = .ok (.iaload, 1) := by decide +kernel
theorem dX7_day_113 : decode cX7_day 113 = .ok (.invokevirtual 241, 3) := by decide +kernel
theorem dX7_day_116 : decode cX7_day 116 = .ok (.pop, 1) := by decide +kernel
theorem dX7_day_117 : decode cX7_day 117 = .ok (.iinc 3 1, 3) := by decide +kernel
theorem dX7_day_120 : decode cX7_day 120 = .ok (.goto (-100), 3) := by decide +kernel
theorem dX7_day_123 : decode cX7_day 123 = .ok (.iload_n 2, 1) := by decide +kernel
theorem dX7_day_124 : decode cX7_day 124 = .ok (.ireturn, 1) := by decide +kernel
theorem dX7_count_0 : decode cX7_count 0 = .ok (.iconst 0, 1) := by decide +kernel
theorem dX7_count_1 : decode cX7_count 1 = .ok (.istore_n 2, 1) := by decide +kernel
theorem dX7_count_2 : decode cX7_count 2 = .ok (.iconst 0, 1) := by decide +kernel
theorem dX7_count_3 : decode cX7_count 3 = .ok (.istore_n 3, 1) := by decide +kernel
theorem dX7_count_4 : decode cX7_count 4 = .ok (.iconst 0, 1) := by decide +kernel
theorem dX7_count_5 : decode cX7_count 5 = .ok (.istore 4, 2) := by decide +kernel
theorem dX7_count_7 : decode cX7_count 7 = .ok (.iconst 0, 1) := by decide +kernel
theorem dX7_count_8 : decode cX7_count 8 = .ok (.istore 5, 2) := by decide +kernel
theorem dX7_count_10 : decode cX7_count 10 = .ok (.iconst 0, 1) := by decide +kernel
theorem dX7_count_11 : decode cX7_count 11 = .ok (.istore 6, 2) := by decide +kernel
theorem dX7_count_13 : decode cX7_count 13 = .ok (.iload 6, 2) := by decide +kernel
theorem dX7_count_15 : decode cX7_count 15 = .ok (.aload_n 0, 1) := by decide +kernel
theorem dX7_count_16 : decode cX7_count 16 = .ok (.getfield 78, 3) := by decide +kernel
theorem dX7_count_19 : decode cX7_count 19 = .ok (.if_icmp .ge 72, 3) := by decide +kernel
theorem dX7_count_22 : decode cX7_count 22 = .ok (.iload_n 2, 1) := by decide +kernel
theorem dX7_count_23 : decode cX7_count 23 = .ok (.aload_n 0, 1) := by decide +kernel
theorem dX7_count_24 : decode cX7_count 24 = .ok (.iload 6, 2) := by decide +kernel
theorem dX7_count_26 : decode cX7_count 26 = .ok (.invokevirtual 163, 3) := by decide +kernel
theorem dX7_count_29 : decode cX7_count 29 = .ok (.invokestatic 244, 3) := by decide +kernel
theorem dX7_count_32 : decode cX7_count 32 = .ok (.iadd, 1) := by decide +kernel
theorem dX7_count_33 : decode cX7_count 33 = .ok (.istore_n 2, 1) := by decide +kernel
theorem dX7_count_34 : decode cX7_count 34 = .ok (.iload_n 3, 1) := by decide +kernel
theorem dX7_count_35 : decode cX7_count 35 = .ok (.aload_n 0, 1) := by decide +kernel
theorem dX7_count_36 : decode cX7_count 36 = .ok (.iload 6, 2) := by decide +kernel
theorem dX7_count_38 : decode cX7_count 38 = .ok (.invokevirtual 163, 3) := by decide +kernel
theorem dX7_count_41 : decode cX7_count 41 = .ok (.ifCond .ne 7, 3) := by decide +kernel
theorem dX7_count_44 : decode cX7_count 44 = .ok (.iconst 1, 1) := by decide +kernel
theorem dX7_count_45 : decode cX7_count 45 = .ok (.goto 4, 3) := by decide +kernel
theorem dX7_count_48 : decode cX7_count 48 = .ok (.iconst 0, 1) := by decide +kernel
theorem dX7_count_49 : decode cX7_count 49 = .ok (.iadd, 1) := by decide +kernel
theorem dX7_count_50 : decode cX7_count 50 = .ok (.istore_n 3, 1) := by decide +kernel
theorem dX7_count_51 : decode cX7_count 51 = .ok (.iload 4, 2) := by decide +kernel
theorem dX7_count_53 : decode cX7_count 53 = .ok (.aload_n 0, 1) := by decide +kernel
theorem dX7_count_54 : decode cX7_count 54 = .ok (.iload 6, 2) := by decide +kernel
theorem dX7_count_56 : decode cX7_count 56 = .ok (.invokevirtual 170, 3) := by decide +kernel
theorem dX7_count_59 : decode cX7_count 59 = .ok (.ifCond .eq 7, 3) := by decide +kernel
theorem dX7_count_62 : decode cX7_count 62 = .ok (.iconst 1, 1) := by decide +kernel
theorem dX7_count_63 : decode cX7_count 63 = .ok (.goto 4, 3) := by decide +kernel
theorem dX7_count_66 : decode cX7_count 66 = .ok (.iconst 0, 1) := by decide +kernel
theorem dX7_count_67 : decode cX7_count 67 = .ok (.iadd, 1) := by decide +kernel
theorem dX7_count_68 : decode cX7_count 68 = .ok (.istore 4, 2) := by decide +kernel
theorem dX7_count_70 : decode cX7_count 70 = .ok (.iload 5, 2) := by decide +kernel
theorem dX7_count_72 : decode cX7_count 72 = .ok (.aload_n 0, 1) := by decide +kernel
theorem dX7_count_73 : decode cX7_count 73 = .ok (.getfield 38, 3) := by decide +kernel
theorem dX7_count_76 : decode cX7_count 76 = .ok (.bipush 10, 2) := by decide +kernel
theorem dX7_count_78 : decode cX7_count 78 = .ok (.iload 6, 2) := by decide +kernel
theorem dX7_count_80 : decode cX7_count 80 = .ok (.iadd, 1) := by decide +kernel
theorem dX7_count_81 : decode cX7_count 81 = .ok (.iaload, 1) := by decide +kernel
theorem dX7_count_82 : decode cX7_count 82 = .ok (.iadd, 1) := by decide +kernel
theorem dX7_count_83 : decode cX7_count 83 = .ok (.istore 5, 2) := by decide +kernel
theorem dX7_count_85 : decode cX7_count 85 = .ok (.iinc 6 1, 3) := by decide +kernel
theorem dX7_count_88 : decode cX7_count 88 = .ok (.goto (-75), 3) := by decide +kernel
theorem dX7_count_91 : decode cX7_count 91 = .ok (.iload_n 1, 1) := by decide +kernel
theorem dX7_count_92 : decode cX7_count 92 = .ok (.tableswitch 100 0 9 #[56, 61, 66, 71, 80, 82, 84, 87, 92, 97], 56) := by decide +kernel
theorem dX7_count_148 : decode cX7_count 148 = .ok (.aload_n 0, 1) := by decide +kernel
theorem dX7_count_149 : decode cX7_count 149 = .ok (.getfield 78, 3) := by decide +kernel
theorem dX7_count_152 : decode cX7_count 152 = .ok (.ireturn, 1) := by decide +kernel
theorem dX7_count_153 : decode cX7_count 153 = .ok (.aload_n 0, 1) := by decide +kernel
theorem dX7_count_154 : decode cX7_count 154 = .ok (.getfield 85, 3) := by decide +kernel
theorem dX7_count_157 : decode cX7_count 157 = .ok (.ireturn, 1) := by decide +kernel
theorem dX7_count_158 : decode cX7_count 158 = .ok (.aload_n 0, 1) := by decide +kernel
theorem dX7_count_159 : decode cX7_count 159 = .ok (.getfield 88, 3) := by decide +kernel
theorem dX7_count_162 : decode cX7_count 162 = .ok (.ireturn, 1) := by decide +kernel
theorem dX7_count_163 : decode cX7_count 163 = .ok (.aload_n 0, 1) := by decide +kernel
theorem dX7_count_164 : decode cX7_count 164 = .ok (.getfield 38, 3) := by decide +kernel
theorem dX7_count_167 : decode cX7_count 167 = .ok (.sipush 140, 3) := by decide +kernel
theorem dX7_count_170 : decode cX7_count 170 = .ok (.iaload, 1) := by decide +kernel
theorem dX7_count_171 : decode cX7_count 171 = .ok (.ireturn, 1) := by decide +kernel
theorem dX7_count_172 : decode cX7_count 172 = .ok (.iload_n 2, 1) := by decide +kernel
theorem dX7_count_173 : decode cX7_count 173 = .ok (.ireturn, 1) := by decide +kernel
theorem dX7_count_174 : decode cX7_count 174 = .ok (.iload_n 3, 1) := by decide +kernel
theorem dX7_count_175 : decode cX7_count 175 = .ok (.ireturn, 1) := by decide +kernel
theorem dX7_count_176 : decode cX7_count 176 = .ok (.iload 4, 2) := by decide +kernel
theorem dX7_count_178 : decode cX7_count 178 = .ok (.ireturn, 1) := by decide +kernel
theorem dX7_count_179 : decode cX7_count 179 = .ok (.aload_n 0, 1) := by decide +kernel
theorem dX7_count_180 : decode cX7_count 180 = .ok (.getfield 105, 3) := by decide +kernel
theorem dX7_count_183 : decode cX7_count 183 = .ok (.ireturn, 1) := by decide +kernel
theorem dX7_count_184 : decode cX7_count 184 = .ok (.aload_n 0, 1) := by decide +kernel
theorem dX7_count_185 : decode cX7_count 185 = .ok (.getfield 130, 3) := by decide +kernel
theorem dX7_count_188 : decode cX7_count 188 = .ok (.ireturn, 1) := by decide +kernel
theorem dX7_count_189 : decode cX7_count 189 = .ok (.iload 5, 2) := by decide +kernel
theorem dX7_count_191 : decode cX7_count 191 = .ok (.ireturn, 1) := by decide +kernel
theorem dX7_count_192 : decode cX7_count 192 = .ok (.iconst (-1), 1) := by decide +kernel
theorem dX7_count_193 : decode cX7_count 193 = .ok (.ireturn, 1) := by decide +kernel
theorem dX7_hears_0 : decode cX7_hears 0 = .ok (.aload_n 0, 1) := by decide +kernel
theorem dX7_hears_1 : decode cX7_hears 1 = .ok (.iload_n 1, 1) := by decide +kernel
theorem dX7_hears_2 : decode cX7_hears 2 = .ok (.i2l, 1) := by decide +kernel
theorem dX7_hears_3 : decode cX7_hears 3 = .ok (.invokevirtual 213, 3) := by decide +kernel
theorem dX7_hears_6 : decode cX7_hears 6 = .ok (.ifCond .eq 24, 3) := by decide +kernel
theorem dX7_hears_9 : decode cX7_hears 9 = .ok (.iload_n 2, 1) := by decide +kernel
theorem dX7_hears_10 : decode cX7_hears 10 = .ok (.i2l, 1) := by decide +kernel
theorem dX7_hears_11 : decode cX7_hears 11 = .ok (.invokestatic 95, 3) := by decide +kernel
theorem dX7_hears_14 : decode cX7_hears 14 = .ok (.ifCond .eq 16, 3) := by decide +kernel
theorem dX7_hears_17 : decode cX7_hears 17 = .ok (.aload_n 0, 1) := by decide +kernel
theorem dX7_hears_18 : decode cX7_hears 18 = .ok (.iload_n 1, 1) := by decide +kernel
theorem dX7_hears_19 : decode cX7_hears 19 = .ok (.iload_n 2, 1) := by decide +kernel
theorem dX7_hears_20 : decode cX7_hears 20 = .ok (.aload_n 0, 1) := by decide +kernel
theorem dX7_hears_21 : decode cX7_hears 21 = .ok (.getfield 130, 3) := by decide +kernel
theorem dX7_hears_24 : decode cX7_hears 24 = .ok (.invokevirtual 247, 3) := by decide +kernel
theorem dX7_hears_27 : decode cX7_hears 27 = .ok (.goto 4, 3) := by decide +kernel
theorem dX7_hears_30 : decode cX7_hears 30 = .ok (.iconst (-1), 1) := by decide +kernel
theorem dX7_hears_31 : decode cX7_hears 31 = .ok (.ireturn, 1) := by decide +kernel
theorem dX7_wrongedBy_0 : decode cX7_wrongedBy 0 = .ok (.aload_n 0, 1) := by decide +kernel
theorem dX7_wrongedBy_1 : decode cX7_wrongedBy 1 = .ok (.iload_n 1, 1) := by decide +kernel
theorem dX7_wrongedBy_2 : decode cX7_wrongedBy 2 = .ok (.iload_n 2, 1) := by decide +kernel
theorem dX7_wrongedBy_3 : decode cX7_wrongedBy 3 = .ok (.aload_n 0, 1) := by decide +kernel
theorem dX7_wrongedBy_4 : decode cX7_wrongedBy 4 = .ok (.getfield 130, 3) := by decide +kernel
theorem dX7_wrongedBy_7 : decode cX7_wrongedBy 7 = .ok (.invokevirtual 247, 3) := by decide +kernel
theorem dX7_wrongedBy_10 : decode cX7_wrongedBy 10 = .ok (.istore 4, 2) := by decide +kernel
theorem dX7_wrongedBy_12 : decode cX7_wrongedBy 12 = .ok (.iconst 0, 1) := by decide +kernel
theorem dX7_wrongedBy_13 : decode cX7_wrongedBy 13 = .ok (.istore 5, 2) := by decide +kernel
theorem dX7_wrongedBy_15 : decode cX7_wrongedBy 15 = .ok (.iconst 0, 1) := by decide +kernel
theorem dX7_wrongedBy_16 : decode cX7_wrongedBy 16 = .ok (.istore 6, 2) := by decide +kernel
theorem dX7_wrongedBy_18 : decode cX7_wrongedBy 18 = .ok (.iload 6, 2) := by decide +kernel
theorem dX7_wrongedBy_20 : decode cX7_wrongedBy 20 = .ok (.aload_n 0, 1) := by decide +kernel
theorem dX7_wrongedBy_21 : decode cX7_wrongedBy 21 = .ok (.getfield 78, 3) := by decide +kernel
theorem dX7_wrongedBy_24 : decode cX7_wrongedBy 24 = .ok (.if_icmp .ge 114, 3) := by decide +kernel
theorem dX7_wrongedBy_27 : decode cX7_wrongedBy 27 = .ok (.aload_n 0, 1) := by decide +kernel
theorem dX7_wrongedBy_28 : decode cX7_wrongedBy 28 = .ok (.getfield 22, 3) := by decide +kernel
theorem dX7_wrongedBy_31 : decode cX7_wrongedBy 31 = .ok (.iload_n 3, 1) := by decide +kernel
theorem dX7_wrongedBy_32 : decode cX7_wrongedBy 32 = .ok (.iaload, 1) := by decide +kernel
theorem dX7_wrongedBy_33 : decode cX7_wrongedBy 33 = .ok (.aload_n 0, 1) := by decide +kernel
theorem dX7_wrongedBy_34 : decode cX7_wrongedBy 34 = .ok (.iload 6, 2) := by decide +kernel
theorem dX7_wrongedBy_36 : decode cX7_wrongedBy 36 = .ok (.invokevirtual 160, 3) := by decide +kernel
theorem dX7_wrongedBy_39 : decode cX7_wrongedBy 39 = .ok (.iand, 1) := by decide +kernel
theorem dX7_wrongedBy_40 : decode cX7_wrongedBy 40 = .ok (.aload_n 0, 1) := by decide +kernel
theorem dX7_wrongedBy_41 : decode cX7_wrongedBy 41 = .ok (.getfield 38, 3) := by decide +kernel
theorem dX7_wrongedBy_44 : decode cX7_wrongedBy 44 = .ok (.iconst 0, 1) := by decide +kernel
theorem dX7_wrongedBy_45 : decode cX7_wrongedBy 45 = .ok (.iload 6, 2) := by decide +kernel
theorem dX7_wrongedBy_47 : decode cX7_wrongedBy 47 = .ok (.iadd, 1) := by decide +kernel
theorem dX7_wrongedBy_48 : decode cX7_wrongedBy 48 = .ok (.iaload, 1) := by decide +kernel
theorem dX7_wrongedBy_49 : decode cX7_wrongedBy 49 = .ok (.iconst (-1), 1) := by decide +kernel
theorem dX7_wrongedBy_50 : decode cX7_wrongedBy 50 = .ok (.ixor, 1) := by decide +kernel
theorem dX7_wrongedBy_51 : decode cX7_wrongedBy 51 = .ok (.iand, 1) := by decide +kernel
theorem dX7_wrongedBy_52 : decode cX7_wrongedBy 52 = .ok (.ifCond .eq 7, 3) := by decide +kernel
theorem dX7_wrongedBy_55 : decode cX7_wrongedBy 55 = .ok (.iconst 1, 1) := by decide +kernel
theorem dX7_wrongedBy_56 : decode cX7_wrongedBy 56 = .ok (.goto 4, 3) := by decide +kernel
theorem dX7_wrongedBy_59 : decode cX7_wrongedBy 59 = .ok (.iconst 0, 1) := by decide +kernel
theorem dX7_wrongedBy_60 : decode cX7_wrongedBy 60 = .ok (.istore 7, 2) := by decide +kernel
theorem dX7_wrongedBy_62 : decode cX7_wrongedBy 62 = .ok (.aload_n 0, 1) := by decide +kernel
theorem dX7_wrongedBy_63 : decode cX7_wrongedBy 63 = .ok (.getfield 25, 3) := by decide +kernel
theorem dX7_wrongedBy_66 : decode cX7_wrongedBy 66 = .ok (.iload_n 3, 1) := by decide +kernel
theorem dX7_wrongedBy_67 : decode cX7_wrongedBy 67 = .ok (.iaload, 1) := by decide +kernel
theorem dX7_wrongedBy_68 : decode cX7_wrongedBy 68 = .ok (.iload 6, 2) := by decide +kernel
theorem dX7_wrongedBy_70 : decode cX7_wrongedBy 70 = .ok (.invokestatic 153, 3) := by decide +kernel
theorem dX7_wrongedBy_73 : decode cX7_wrongedBy 73 = .ok (.ifCond .ne 24, 3) := by decide +kernel
theorem dX7_wrongedBy_76 : decode cX7_wrongedBy 76 = .ok (.aload_n 0, 1) := by decide +kernel
theorem dX7_wrongedBy_77 : decode cX7_wrongedBy 77 = .ok (.getfield 38, 3) := by decide +kernel
theorem dX7_wrongedBy_80 : decode cX7_wrongedBy 80 = .ok (.iconst 0, 1) := by decide +kernel
theorem dX7_wrongedBy_81 : decode cX7_wrongedBy 81 = .ok (.iload 6, 2) := by decide +kernel
theorem dX7_wrongedBy_83 : decode cX7_wrongedBy 83 = .ok (.iadd, 1) := by decide +kernel
theorem dX7_wrongedBy_84 : decode cX7_wrongedBy 84 = .ok (.iaload, 1) := by decide +kernel
theorem dX7_wrongedBy_85 : decode cX7_wrongedBy 85 = .ok (.iload_n 3, 1) := by decide +kernel
theorem dX7_wrongedBy_86 : decode cX7_wrongedBy 86 = .ok (.invokestatic 153, 3) := by decide +kernel
theorem dX7_wrongedBy_89 : decode cX7_wrongedBy 89 = .ok (.ifCond .ne 8, 3) := by decide +kernel
theorem dX7_wrongedBy_92 : decode cX7_wrongedBy 92 = .ok (.iload 7, 2) := by decide +kernel
theorem dX7_wrongedBy_94 : decode cX7_wrongedBy 94 = .ok (.ifCond .eq 7, 3) := by decide +kernel
theorem dX7_wrongedBy_97 : decode cX7_wrongedBy 97 = .ok (.iconst 1, 1) := by decide +kernel
theorem dX7_wrongedBy_98 : decode cX7_wrongedBy 98 = .ok (.goto 4, 3) := by decide +kernel
theorem dX7_wrongedBy_101 : decode cX7_wrongedBy 101 = .ok (.iconst 0, 1) := by decide +kernel
theorem dX7_wrongedBy_102 : decode cX7_wrongedBy 102 = .ok (.istore 8, 2) := by decide +kernel
theorem dX7_wrongedBy_104 : decode cX7_wrongedBy 104 = .ok (.iload 5, 2) := by decide +kernel
theorem dX7_wrongedBy_106 : decode cX7_wrongedBy 106 = .ok (.iload 4, 2) := by decide +kernel
theorem dX7_wrongedBy_108 : decode cX7_wrongedBy 108 = .ok (.iload 6, 2) := by decide +kernel
theorem dX7_wrongedBy_110 : decode cX7_wrongedBy 110 = .ok (.invokestatic 153, 3) := by decide +kernel
theorem dX7_wrongedBy_113 : decode cX7_wrongedBy 113 = .ok (.ifCond .eq 15, 3) := by decide +kernel
theorem dX7_wrongedBy_116 : decode cX7_wrongedBy 116 = .ok (.iload 8, 2) := by decide +kernel
theorem dX7_wrongedBy_118 : decode cX7_wrongedBy 118 = .ok (.ifCond .eq 10, 3) := by decide +kernel
theorem dX7_wrongedBy_121 : decode cX7_wrongedBy 121 = .ok (.iconst 1, 1) := by decide +kernel
theorem dX7_wrongedBy_122 : decode cX7_wrongedBy 122 = .ok (.iload 6, 2) := by decide +kernel
theorem dX7_wrongedBy_124 : decode cX7_wrongedBy 124 = .ok (.ishl, 1) := by decide +kernel
theorem dX7_wrongedBy_125 : decode cX7_wrongedBy 125 = .ok (.goto 4, 3) := by decide +kernel
theorem dX7_wrongedBy_128 : decode cX7_wrongedBy 128 = .ok (.iconst 0, 1) := by decide +kernel
theorem dX7_wrongedBy_129 : decode cX7_wrongedBy 129 = .ok (.ior, 1) := by decide +kernel
theorem dX7_wrongedBy_130 : decode cX7_wrongedBy 130 = .ok (.istore 5, 2) := by decide +kernel
theorem dX7_wrongedBy_132 : decode cX7_wrongedBy 132 = .ok (.iinc 6 1, 3) := by decide +kernel
theorem dX7_wrongedBy_135 : decode cX7_wrongedBy 135 = .ok (.goto (-117), 3) := by decide +kernel
theorem dX7_wrongedBy_138 : decode cX7_wrongedBy 138 = .ok (.iload 5, 2) := by decide +kernel
theorem dX7_wrongedBy_140 : decode cX7_wrongedBy 140 = .ok (.ireturn, 1) := by decide +kernel
theorem dX7_isReading_0 : decode cX7_isReading 0 = .ok (.aload_n 0, 1) := by decide +kernel
theorem dX7_isReading_1 : decode cX7_isReading 1 = .ok (.lload_n 1, 1) := by decide +kernel
theorem dX7_isReading_2 : decode cX7_isReading 2 = .ok (.invokevirtual 213, 3) := by decide +kernel
theorem dX7_isReading_5 : decode cX7_isReading 5 = .ok (.ifCond .eq 23, 3) := by decide +kernel
theorem dX7_isReading_8 : decode cX7_isReading 8 = .ok (.lload_n 3, 1) := by decide +kernel
theorem dX7_isReading_9 : decode cX7_isReading 9 = .ok (.invokestatic 95, 3) := by decide +kernel
theorem dX7_isReading_12 : decode cX7_isReading 12 = .ok (.ifCond .eq 16, 3) := by decide +kernel
theorem dX7_isReading_15 : decode cX7_isReading 15 = .ok (.aload_n 0, 1) := by decide +kernel
theorem dX7_isReading_16 : decode cX7_isReading 16 = .ok (.lload 5, 2) := by decide +kernel
theorem dX7_isReading_18 : decode cX7_isReading 18 = .ok (.invokevirtual 123, 3) := by decide +kernel
theorem dX7_isReading_21 : decode cX7_isReading 21 = .ok (.ifCond .eq 7, 3) := by decide +kernel
theorem dX7_isReading_24 : decode cX7_isReading 24 = .ok (.iconst 1, 1) := by decide +kernel
theorem dX7_isReading_25 : decode cX7_isReading 25 = .ok (.goto 4, 3) := by decide +kernel
theorem dX7_isReading_28 : decode cX7_isReading 28 = .ok (.iconst 0, 1) := by decide +kernel
theorem dX7_isReading_29 : decode cX7_isReading 29 = .ok (.ireturn, 1) := by decide +kernel
theorem dX7_wronged_0 : decode cX7_wronged 0 = .ok (.aload_n 0, 1) := by decide +kernel
theorem dX7_wronged_1 : decode cX7_wronged 1 = .ok (.iload_n 1, 1) := by decide +kernel
theorem dX7_wronged_2 : decode cX7_wronged 2 = .ok (.i2l, 1) := by decide +kernel
theorem dX7_wronged_3 : decode cX7_wronged 3 = .ok (.iload_n 2, 1) := by decide +kernel
theorem dX7_wronged_4 : decode cX7_wronged 4 = .ok (.i2l, 1) := by decide +kernel
theorem dX7_wronged_5 : decode cX7_wronged 5 = .ok (.iload_n 3, 1) := by decide +kernel
theorem dX7_wronged_6 : decode cX7_wronged 6 = .ok (.i2l, 1) := by decide +kernel
theorem dX7_wronged_7 : decode cX7_wronged 7 = .ok (.invokevirtual 250, 3) := by decide +kernel
theorem dX7_wronged_10 : decode cX7_wronged 10 = .ok (.ifCond .eq 13, 3) := by decide +kernel
theorem dX7_wronged_13 : decode cX7_wronged 13 = .ok (.aload_n 0, 1) := by decide +kernel
theorem dX7_wronged_14 : decode cX7_wronged 14 = .ok (.iload_n 1, 1) := by decide +kernel
theorem dX7_wronged_15 : decode cX7_wronged 15 = .ok (.iload_n 2, 1) := by decide +kernel
theorem dX7_wronged_16 : decode cX7_wronged 16 = .ok (.iload_n 3, 1) := by decide +kernel
theorem dX7_wronged_17 : decode cX7_wronged 17 = .ok (.invokevirtual 238, 3) := by decide +kernel
theorem dX7_wronged_20 : decode cX7_wronged 20 = .ok (.goto 4, 3) := by decide +kernel
theorem dX7_wronged_23 : decode cX7_wronged 23 = .ok (.iconst (-1), 1) := by decide +kernel
theorem dX7_wronged_24 : decode cX7_wronged 24 = .ok (.ireturn, 1) := by decide +kernel
theorem dX7_note_0 : decode cX7_note 0 = .ok (.aload_n 0, 1) := by decide +kernel
theorem dX7_note_1 : decode cX7_note 1 = .ok (.getfield 105, 3) := by decide +kernel
theorem dX7_note_4 : decode cX7_note 4 = .ok (.bipush 10, 2) := by decide +kernel
theorem dX7_note_6 : decode cX7_note 6 = .ok (.if_icmp .ne 44, 3) := by decide +kernel
theorem dX7_note_9 : decode cX7_note 9 = .ok (.iconst 0, 1) := by decide +kernel
theorem dX7_note_10 : decode cX7_note 10 = .ok (.istore_n 1, 1) := by decide +kernel
theorem dX7_note_11 : decode cX7_note 11 = .ok (.iload_n 1, 1) := by decide +kernel
theorem dX7_note_12 : decode cX7_note 12 = .ok (.sipush 1269, 3) := by decide +kernel
theorem dX7_note_15 : decode cX7_note 15 = .ok (.if_icmp .ge 25, 3) := by decide +kernel
theorem dX7_note_18 : decode cX7_note 18 = .ok (.aload_n 0, 1) := by decide +kernel
theorem dX7_note_19 : decode cX7_note 19 = .ok (.getfield 41, 3) := by decide +kernel
theorem dX7_note_22 : decode cX7_note 22 = .ok (.iload_n 1, 1) := by decide +kernel
theorem dX7_note_23 : decode cX7_note 23 = .ok (.aload_n 0, 1) := by decide +kernel
theorem dX7_note_24 : decode cX7_note 24 = .ok (.getfield 41, 3) := by decide +kernel
theorem dX7_note_27 : decode cX7_note 27 = .ok (.iload_n 1, 1) := by decide +kernel
theorem dX7_note_28 : decode cX7_note 28 = .ok (.sipush 141, 3) := by decide +kernel
theorem dX7_note_31 : decode cX7_note 31 = .ok (.iadd, 1) := by decide +kernel
theorem dX7_note_32 : decode cX7_note 32 = .ok (.iaload, 1) := by decide +kernel
theorem dX7_note_33 : decode cX7_note 33 = .ok (.iastore, 1) := by decide +kernel
theorem dX7_note_34 : decode cX7_note 34 = .ok (.iinc 1 1, 3) := by decide +kernel
theorem dX7_note_37 : decode cX7_note 37 = .ok (.goto (-26), 3) := by decide +kernel
theorem dX7_note_40 : decode cX7_note 40 = .ok (.aload_n 0, 1) := by decide +kernel
theorem dX7_note_41 : decode cX7_note 41 = .ok (.dup, 1) := by decide +kernel
theorem dX7_note_42 : decode cX7_note 42 = .ok (.getfield 105, 3) := by decide +kernel
theorem dX7_note_45 : decode cX7_note 45 = .ok (.iconst 1, 1) := by decide +kernel
theorem dX7_note_46 : decode cX7_note 46 = .ok (.isub, 1) := by decide +kernel
theorem dX7_note_47 : decode cX7_note 47 = .ok (.putfield 105, 3) := by decide +kernel
theorem dX7_note_50 : decode cX7_note 50 = .ok (.iconst 0, 1) := by decide +kernel
theorem dX7_note_51 : decode cX7_note 51 = .ok (.istore_n 1, 1) := by decide +kernel
theorem dX7_note_52 : decode cX7_note 52 = .ok (.iload_n 1, 1) := by decide +kernel
theorem dX7_note_53 : decode cX7_note 53 = .ok (.sipush 141, 3) := by decide +kernel
theorem dX7_note_56 : decode cX7_note 56 = .ok (.if_icmp .ge 30, 3) := by decide +kernel
theorem dX7_note_59 : decode cX7_note 59 = .ok (.aload_n 0, 1) := by decide +kernel
theorem dX7_note_60 : decode cX7_note 60 = .ok (.getfield 41, 3) := by decide +kernel
theorem dX7_note_63 : decode cX7_note 63 = .ok (.sipush 141, 3) := by decide +kernel
theorem dX7_note_66 : decode cX7_note 66 = .ok (.aload_n 0, 1) := by decide +kernel
theorem dX7_note_67 : decode cX7_note 67 = .ok (.getfield 105, 3) := by decide +kernel
theorem dX7_note_70 : decode cX7_note 70 = .ok (.imul, 1) := by decide +kernel
theorem dX7_note_71 : decode cX7_note 71 = .ok (.iload_n 1, 1) := by decide +kernel
theorem dX7_note_72 : decode cX7_note 72 = .ok (.iadd, 1) := by decide +kernel
theorem dX7_note_73 : decode cX7_note 73 = .ok (.aload_n 0, 1) := by decide +kernel
theorem dX7_note_74 : decode cX7_note 74 = .ok (.getfield 38, 3) := by decide +kernel
theorem dX7_note_77 : decode cX7_note 77 = .ok (.iload_n 1, 1) := by decide +kernel
theorem dX7_note_78 : decode cX7_note 78 = .ok (.iaload, 1) := by decide +kernel
theorem dX7_note_79 : decode cX7_note 79 = .ok (.iastore, 1) := by decide +kernel
theorem dX7_note_80 : decode cX7_note 80 = .ok (.iinc 1 1, 3) := by decide +kernel
theorem dX7_note_83 : decode cX7_note 83 = .ok (.goto (-31), 3) := by decide +kernel
theorem dX7_note_86 : decode cX7_note 86 = .ok (.aload_n 0, 1) := by decide +kernel
theorem dX7_note_87 : decode cX7_note 87 = .ok (.dup, 1) := by decide +kernel
theorem dX7_note_88 : decode cX7_note 88 = .ok (.getfield 105, 3) := by decide +kernel
theorem dX7_note_91 : decode cX7_note 91 = .ok (.iconst 1, 1) := by decide +kernel
theorem dX7_note_92 : decode cX7_note 92 = .ok (.iadd, 1) := by decide +kernel
theorem dX7_note_93 : decode cX7_note 93 = .ok (.putfield 105, 3) := by decide +kernel
theorem dX7_note_96 : decode cX7_note 96 = .ok (.return_, 1) := by decide +kernel
theorem dX7_tell_0 : decode cX7_tell 0 = .ok (.aload_n 0, 1) := by decide +kernel
theorem dX7_tell_1 : decode cX7_tell 1 = .ok (.iload_n 1, 1) := by decide +kernel
theorem dX7_tell_2 : decode cX7_tell 2 = .ok (.iload_n 2, 1) := by decide +kernel
theorem dX7_tell_3 : decode cX7_tell 3 = .ok (.aload_n 0, 1) := by decide +kernel
theorem dX7_tell_4 : decode cX7_tell 4 = .ok (.getfield 130, 3) := by decide +kernel
theorem dX7_tell_7 : decode cX7_tell 7 = .ok (.invokevirtual 247, 3) := by decide +kernel
theorem dX7_tell_10 : decode cX7_tell 10 = .ok (.istore 4, 2) := by decide +kernel
theorem dX7_tell_12 : decode cX7_tell 12 = .ok (.aload_n 0, 1) := by decide +kernel
theorem dX7_tell_13 : decode cX7_tell 13 = .ok (.iload_n 1, 1) := by decide +kernel
theorem dX7_tell_14 : decode cX7_tell 14 = .ok (.iload_n 2, 1) := by decide +kernel
theorem dX7_tell_15 : decode cX7_tell 15 = .ok (.iload_n 3, 1) := by decide +kernel
theorem dX7_tell_16 : decode cX7_tell 16 = .ok (.invokevirtual 238, 3) := by decide +kernel
theorem dX7_tell_19 : decode cX7_tell 19 = .ok (.istore 5, 2) := by decide +kernel
theorem dX7_tell_21 : decode cX7_tell 21 = .ok (.iconst 0, 1) := by decide +kernel
theorem dX7_tell_22 : decode cX7_tell 22 = .ok (.istore 6, 2) := by decide +kernel
theorem dX7_tell_24 : decode cX7_tell 24 = .ok (.iload 6, 2) := by decide +kernel
theorem dX7_tell_26 : decode cX7_tell 26 = .ok (.aload_n 0, 1) := by decide +kernel
theorem dX7_tell_27 : decode cX7_tell 27 = .ok (.getfield 78, 3) := by decide +kernel
theorem dX7_tell_30 : decode cX7_tell 30 = .ok (.if_icmp .ge 130, 3) := by decide +kernel
theorem dX7_tell_33 : decode cX7_tell 33 = .ok (.iload 4, 2) := by decide +kernel
theorem dX7_tell_35 : decode cX7_tell 35 = .ok (.iload 6, 2) := by decide +kernel
theorem dX7_tell_37 : decode cX7_tell 37 = .ok (.invokestatic 153, 3) := by decide +kernel
theorem dX7_tell_40 : decode cX7_tell 40 = .ok (.ifCond .eq 114, 3) := by decide +kernel
theorem dX7_tell_43 : decode cX7_tell 43 = .ok (.bipush 20, 2) := by decide +kernel
theorem dX7_tell_45 : decode cX7_tell 45 = .ok (.bipush 12, 2) := by decide +kernel
theorem dX7_tell_47 : decode cX7_tell 47 = .ok (.iload 6, 2) := by decide +kernel
theorem dX7_tell_49 : decode cX7_tell 49 = .ok (.imul, 1) := by decide +kernel
theorem dX7_tell_50 : decode cX7_tell 50 = .ok (.iadd, 1) := by decide +kernel
theorem dX7_tell_51 : decode cX7_tell 51 = .ok (.iload_n 3, 1) := by decide +kernel
theorem dX7_tell_52 : decode cX7_tell 52 = .ok (.iadd, 1) := by decide +kernel
theorem dX7_tell_53 : decode cX7_tell 53 = .ok (.istore 7, 2) := by decide +kernel
theorem dX7_tell_55 : decode cX7_tell 55 = .ok (.aload_n 0, 1) := by decide +kernel
theorem dX7_tell_56 : decode cX7_tell 56 = .ok (.getfield 38, 3) := by decide +kernel
theorem dX7_tell_59 : decode cX7_tell 59 = .ok (.iload 7, 2) := by decide +kernel
theorem dX7_tell_61 : decode cX7_tell 61 = .ok (.aload_n 0, 1) := by decide +kernel
theorem dX7_tell_62 : decode cX7_tell 62 = .ok (.getfield 38, 3) := by decide +kernel
theorem dX7_tell_65 : decode cX7_tell 65 = .ok (.iconst 0, 1) := by decide +kernel
theorem dX7_tell_66 : decode cX7_tell 66 = .ok (.iload 6, 2) := by decide +kernel
theorem dX7_tell_68 : decode cX7_tell 68 = .ok (.iadd, 1) := by decide +kernel
theorem dX7_tell_69 : decode cX7_tell 69 = .ok (.iaload, 1) := by decide +kernel
theorem dX7_tell_70 : decode cX7_tell 70 = .ok (.iload_n 3, 1) := by decide +kernel
theorem dX7_tell_71 : decode cX7_tell 71 = .ok (.invokestatic 153, 3) := by decide +kernel
theorem dX7_tell_74 : decode cX7_tell 74 = .ok (.ifCond .eq 13, 3) := by decide +kernel
theorem dX7_tell_77 : decode cX7_tell 77 = .ok (.aload_n 0, 1) := by decide +kernel
theorem dX7_tell_78 : decode cX7_tell 78 = .ok (.getfield 38, 3) := by decide +kernel
theorem dX7_tell_81 : decode cX7_tell 81 = .ok (.iload 7, 2) := by decide +kernel
theorem dX7_tell_83 : decode cX7_tell 83 = .ok (.iaload, 1) := by decide +kernel
theorem dX7_tell_84 : decode cX7_tell 84 = .ok (.goto 11, 3) := by decide +kernel
theorem dX7_tell_87 : decode cX7_tell 87 = .ok (.aload_n 0, 1) := by decide +kernel
theorem dX7_tell_88 : decode cX7_tell 88 = .ok (.getfield 38, 3) := by decide +kernel
theorem dX7_tell_91 : decode cX7_tell 91 = .ok (.sipush 140, 3) := by decide +kernel
theorem dX7_tell_94 : decode cX7_tell 94 = .ok (.iaload, 1) := by decide +kernel
theorem dX7_tell_95 : decode cX7_tell 95 = .ok (.iastore, 1) := by decide +kernel
theorem dX7_tell_96 : decode cX7_tell 96 = .ok (.aload_n 0, 1) := by decide +kernel
theorem dX7_tell_97 : decode cX7_tell 97 = .ok (.getfield 38, 3) := by decide +kernel
theorem dX7_tell_100 : decode cX7_tell 100 = .ok (.iconst 0, 1) := by decide +kernel
theorem dX7_tell_101 : decode cX7_tell 101 = .ok (.iload 6, 2) := by decide +kernel
theorem dX7_tell_103 : decode cX7_tell 103 = .ok (.iadd, 1) := by decide +kernel
theorem dX7_tell_104 : decode cX7_tell 104 = .ok (.dup2, 1) := by decide +kernel
theorem dX7_tell_105 : decode cX7_tell 105 = .ok (.iaload, 1) := by decide +kernel
theorem dX7_tell_106 : decode cX7_tell 106 = .ok (.iconst 1, 1) := by decide +kernel
theorem dX7_tell_107 : decode cX7_tell 107 = .ok (.iload_n 3, 1) := by decide +kernel
theorem dX7_tell_108 : decode cX7_tell 108 = .ok (.ishl, 1) := by decide +kernel
theorem dX7_tell_109 : decode cX7_tell 109 = .ok (.ior, 1) := by decide +kernel
theorem dX7_tell_110 : decode cX7_tell 110 = .ok (.iastore, 1) := by decide +kernel
theorem dX7_tell_111 : decode cX7_tell 111 = .ok (.aload_n 0, 1) := by decide +kernel
theorem dX7_tell_112 : decode cX7_tell 112 = .ok (.getfield 38, 3) := by decide +kernel
theorem dX7_tell_115 : decode cX7_tell 115 = .ok (.bipush 10, 2) := by decide +kernel
theorem dX7_tell_117 : decode cX7_tell 117 = .ok (.iload 6, 2) := by decide +kernel
theorem dX7_tell_119 : decode cX7_tell 119 = .ok (.iadd, 1) := by decide +kernel
theorem dX7_tell_120 : decode cX7_tell 120 = .ok (.dup2, 1) := by decide +kernel
theorem dX7_tell_121 : decode cX7_tell 121 = .ok (.iaload, 1) := by decide +kernel
theorem dX7_tell_122 : decode cX7_tell 122 = .ok (.iload 5, 2) := by decide +kernel
theorem dX7_tell_124 : decode cX7_tell 124 = .ok (.iload 6, 2) := by decide +kernel
theorem dX7_tell_126 : decode cX7_tell 126 = .ok (.invokestatic 153, 3) := by decide +kernel
theorem dX7_tell_129 : decode cX7_tell 129 = .ok (.ifCond .eq 22, 3) := by decide +kernel
theorem dX7_tell_132 : decode cX7_tell 132 = .ok (.aload_n 0, 1) := by decide +kernel
theorem dX7_tell_133 : decode cX7_tell 133 = .ok (.getfield 38, 3) := by decide +kernel
theorem dX7_tell_136 : decode cX7_tell 136 = .ok (.bipush 10, 2) := by decide +kernel
theorem dX7_tell_138 : decode cX7_tell 138 = .ok (.iload 6, 2) := by decide +kernel
theorem dX7_tell_140 : decode cX7_tell 140 = .ok (.iadd, 1) := by decide +kernel
theorem dX7_tell_141 : decode cX7_tell 141 = .ok (.iaload, 1) := by decide +kernel
theorem dX7_tell_142 : decode cX7_tell 142 = .ok (.bipush 99, 2) := by decide +kernel
theorem dX7_tell_144 : decode cX7_tell 144 = .ok (.if_icmp .ge 7, 3) := by decide +kernel
theorem dX7_tell_147 : decode cX7_tell 147 = .ok (.iconst 1, 1) := by decide +kernel
theorem dX7_tell_148 : decode cX7_tell 148 = .ok (.goto 4, 3) := by decide +kernel
theorem dX7_tell_151 : decode cX7_tell 151 = .ok (.iconst 0, 1) := by decide +kernel
theorem dX7_tell_152 : decode cX7_tell 152 = .ok (.iadd, 1) := by decide +kernel
theorem dX7_tell_153 : decode cX7_tell 153 = .ok (.iastore, 1) := by decide +kernel
theorem dX7_tell_154 : decode cX7_tell 154 = .ok (.iinc 6 1, 3) := by decide +kernel
theorem dX7_tell_157 : decode cX7_tell 157 = .ok (.goto (-133), 3) := by decide +kernel
theorem dX7_tell_160 : decode cX7_tell 160 = .ok (.aload_n 0, 1) := by decide +kernel
theorem dX7_tell_161 : decode cX7_tell 161 = .ok (.getfield 38, 3) := by decide +kernel
theorem dX7_tell_164 : decode cX7_tell 164 = .ok (.sipush 140, 3) := by decide +kernel
theorem dX7_tell_167 : decode cX7_tell 167 = .ok (.dup2, 1) := by decide +kernel
theorem dX7_tell_168 : decode cX7_tell 168 = .ok (.iaload, 1) := by decide +kernel
theorem dX7_tell_169 : decode cX7_tell 169 = .ok (.iconst 1, 1) := by decide +kernel
theorem dX7_tell_170 : decode cX7_tell 170 = .ok (.iadd, 1) := by decide +kernel
theorem dX7_tell_171 : decode cX7_tell 171 = .ok (.iastore, 1) := by decide +kernel
theorem dX7_tell_172 : decode cX7_tell 172 = .ok (.return_, 1) := by decide +kernel
theorem dX7_readNow_0 : decode cX7_readNow 0 = .ok (.aload_n 0, 1) := by decide +kernel
theorem dX7_readNow_1 : decode cX7_readNow 1 = .ok (.invokevirtual 253, 3) := by decide +kernel
theorem dX7_readNow_4 : decode cX7_readNow 4 = .ok (.aload_n 0, 1) := by decide +kernel
theorem dX7_readNow_5 : decode cX7_readNow 5 = .ok (.iload_n 1, 1) := by decide +kernel
theorem dX7_readNow_6 : decode cX7_readNow 6 = .ok (.iload_n 2, 1) := by decide +kernel
theorem dX7_readNow_7 : decode cX7_readNow 7 = .ok (.iload_n 3, 1) := by decide +kernel
theorem dX7_readNow_8 : decode cX7_readNow 8 = .ok (.invokevirtual 256, 3) := by decide +kernel
theorem dX7_readNow_11 : decode cX7_readNow 11 = .ok (.aload_n 0, 1) := by decide +kernel
theorem dX7_readNow_12 : decode cX7_readNow 12 = .ok (.iload_n 1, 1) := by decide +kernel
theorem dX7_readNow_13 : decode cX7_readNow 13 = .ok (.iload_n 2, 1) := by decide +kernel
theorem dX7_readNow_14 : decode cX7_readNow 14 = .ok (.aload_n 0, 1) := by decide +kernel
theorem dX7_readNow_15 : decode cX7_readNow 15 = .ok (.getfield 130, 3) := by decide +kernel
theorem dX7_readNow_18 : decode cX7_readNow 18 = .ok (.invokevirtual 247, 3) := by decide +kernel
theorem dX7_readNow_21 : decode cX7_readNow 21 = .ok (.ireturn, 1) := by decide +kernel
theorem dX7_read_0 : decode cX7_read 0 = .ok (.aload_n 0, 1) := by decide +kernel
theorem dX7_read_1 : decode cX7_read 1 = .ok (.iload_n 1, 1) := by decide +kernel
theorem dX7_read_2 : decode cX7_read 2 = .ok (.i2l, 1) := by decide +kernel
theorem dX7_read_3 : decode cX7_read 3 = .ok (.iload_n 2, 1) := by decide +kernel
theorem dX7_read_4 : decode cX7_read 4 = .ok (.i2l, 1) := by decide +kernel
theorem dX7_read_5 : decode cX7_read 5 = .ok (.iload_n 3, 1) := by decide +kernel
theorem dX7_read_6 : decode cX7_read 6 = .ok (.i2l, 1) := by decide +kernel
theorem dX7_read_7 : decode cX7_read 7 = .ok (.invokevirtual 250, 3) := by decide +kernel
theorem dX7_read_10 : decode cX7_read 10 = .ok (.ifCond .ne 5, 3) := by decide +kernel
theorem dX7_read_13 : decode cX7_read 13 = .ok (.iconst (-1), 1) := by decide +kernel
theorem dX7_read_14 : decode cX7_read 14 = .ok (.ireturn, 1) := by decide +kernel
theorem dX7_read_15 : decode cX7_read 15 = .ok (.aload_n 0, 1) := by decide +kernel
theorem dX7_read_16 : decode cX7_read 16 = .ok (.getfield 38, 3) := by decide +kernel
theorem dX7_read_19 : decode cX7_read 19 = .ok (.sipush 140, 3) := by decide +kernel
theorem dX7_read_22 : decode cX7_read 22 = .ok (.iaload, 1) := by decide +kernel
theorem dX7_read_23 : decode cX7_read 23 = .ok (.sipush 9999, 3) := by decide +kernel
theorem dX7_read_26 : decode cX7_read 26 = .ok (.if_icmp .ne 8, 3) := by decide +kernel
theorem dX7_read_29 : decode cX7_read 29 = .ok (.bipush (-3), 2) := by decide +kernel
theorem dX7_read_31 : decode cX7_read 31 = .ok (.goto 10, 3) := by decide +kernel
theorem dX7_read_34 : decode cX7_read 34 = .ok (.aload_n 0, 1) := by decide +kernel
theorem dX7_read_35 : decode cX7_read 35 = .ok (.iload_n 1, 1) := by decide +kernel
theorem dX7_read_36 : decode cX7_read 36 = .ok (.iload_n 2, 1) := by decide +kernel
theorem dX7_read_37 : decode cX7_read 37 = .ok (.iload_n 3, 1) := by decide +kernel
theorem dX7_read_38 : decode cX7_read 38 = .ok (.invokevirtual 241, 3) := by decide +kernel
theorem dX7_read_41 : decode cX7_read 41 = .ok (.ireturn, 1) := by decide +kernel
theorem dX7_undo_0 : decode cX7_undo 0 = .ok (.aload_n 0, 1) := by decide +kernel
theorem dX7_undo_1 : decode cX7_undo 1 = .ok (.getfield 105, 3) := by decide +kernel
theorem dX7_undo_4 : decode cX7_undo 4 = .ok (.ifCond .ne 6, 3) := by decide +kernel
theorem dX7_undo_7 : decode cX7_undo 7 = .ok (.bipush (-4), 2) := by decide +kernel
theorem dX7_undo_9 : decode cX7_undo 9 = .ok (.ireturn, 1) := by decide +kernel
theorem dX7_undo_10 : decode cX7_undo 10 = .ok (.aload_n 0, 1) := by decide +kernel
theorem dX7_undo_11 : decode cX7_undo 11 = .ok (.dup, 1) := by decide +kernel
theorem dX7_undo_12 : decode cX7_undo 12 = .ok (.getfield 105, 3) := by decide +kernel
theorem dX7_undo_15 : decode cX7_undo 15 = .ok (.iconst 1, 1) := by decide +kernel
theorem dX7_undo_16 : decode cX7_undo 16 = .ok (.isub, 1) := by decide +kernel
theorem dX7_undo_17 : decode cX7_undo 17 = .ok (.putfield 105, 3) := by decide +kernel
theorem dX7_undo_20 : decode cX7_undo 20 = .ok (.iconst 0, 1) := by decide +kernel
theorem dX7_undo_21 : decode cX7_undo 21 = .ok (.istore_n 1, 1) := by decide +kernel
theorem dX7_undo_22 : decode cX7_undo 22 = .ok (.iload_n 1, 1) := by decide +kernel
theorem dX7_undo_23 : decode cX7_undo 23 = .ok (.sipush 141, 3) := by decide +kernel
theorem dX7_undo_26 : decode cX7_undo 26 = .ok (.if_icmp .ge 30, 3) := by decide +kernel
theorem dX7_undo_29 : decode cX7_undo 29 = .ok (.aload_n 0, 1) := by decide +kernel
theorem dX7_undo_30 : decode cX7_undo 30 = .ok (.getfield 38, 3) := by decide +kernel
theorem dX7_undo_33 : decode cX7_undo 33 = .ok (.iload_n 1, 1) := by decide +kernel
theorem dX7_undo_34 : decode cX7_undo 34 = .ok (.aload_n 0, 1) := by decide +kernel
theorem dX7_undo_35 : decode cX7_undo 35 = .ok (.getfield 41, 3) := by decide +kernel
theorem dX7_undo_38 : decode cX7_undo 38 = .ok (.sipush 141, 3) := by decide +kernel
theorem dX7_undo_41 : decode cX7_undo 41 = .ok (.aload_n 0, 1) := by decide +kernel
theorem dX7_undo_42 : decode cX7_undo 42 = .ok (.getfield 105, 3) := by decide +kernel
theorem dX7_undo_45 : decode cX7_undo 45 = .ok (.imul, 1) := by decide +kernel
theorem dX7_undo_46 : decode cX7_undo 46 = .ok (.iload_n 1, 1) := by decide +kernel
theorem dX7_undo_47 : decode cX7_undo 47 = .ok (.iadd, 1) := by decide +kernel
theorem dX7_undo_48 : decode cX7_undo 48 = .ok (.iaload, 1) := by decide +kernel
theorem dX7_undo_49 : decode cX7_undo 49 = .ok (.iastore, 1) := by decide +kernel
theorem dX7_undo_50 : decode cX7_undo 50 = .ok (.iinc 1 1, 3) := by decide +kernel
theorem dX7_undo_53 : decode cX7_undo 53 = .ok (.goto (-31), 3) := by decide +kernel
theorem dX7_undo_56 : decode cX7_undo 56 = .ok (.aload_n 0, 1) := by decide +kernel
theorem dX7_undo_57 : decode cX7_undo 57 = .ok (.getfield 105, 3) := by decide +kernel
theorem dX7_undo_60 : decode cX7_undo 60 = .ok (.ireturn, 1) := by decide +kernel
theorem dX7_nextDraw_0 : decode cX7_nextDraw 0 = .ok (.aload_n 0, 1) := by decide +kernel
theorem dX7_nextDraw_1 : decode cX7_nextDraw 1 = .ok (.aload_n 0, 1) := by decide +kernel
theorem dX7_nextDraw_2 : decode cX7_nextDraw 2 = .ok (.getfield 34, 3) := by decide +kernel
theorem dX7_nextDraw_5 : decode cX7_nextDraw 5 = .ok (.i2l, 1) := by decide +kernel
theorem dX7_nextDraw_6 : decode cX7_nextDraw 6 = .ok (.ldc2_w 259, 3) := by decide +kernel
theorem dX7_nextDraw_9 : decode cX7_nextDraw 9 = .ok (.lmul, 1) := by decide +kernel
theorem dX7_nextDraw_10 : decode cX7_nextDraw 10 = .ok (.ldc2_w 261, 3) := by decide +kernel
theorem dX7_nextDraw_13 : decode cX7_nextDraw 13 = .ok (.ladd, 1) := by decide +kernel
theorem dX7_nextDraw_14 : decode cX7_nextDraw 14 = .ok (.ldc2_w 263, 3) := by decide +kernel
theorem dX7_nextDraw_17 : decode cX7_nextDraw 17 = .ok (.land, 1) := by decide +kernel
theorem dX7_nextDraw_18 : decode cX7_nextDraw 18 = .ok (.l2i, 1) := by decide +kernel
theorem dX7_nextDraw_19 : decode cX7_nextDraw 19 = .ok (.putfield 34, 3) := by decide +kernel
theorem dX7_nextDraw_22 : decode cX7_nextDraw 22 = .ok (.aload_n 0, 1) := by decide +kernel
theorem dX7_nextDraw_23 : decode cX7_nextDraw 23 = .ok (.getfield 34, 3) := by decide +kernel
theorem dX7_nextDraw_26 : decode cX7_nextDraw 26 = .ok (.ldc_w 265, 3) := by decide +kernel
theorem dX7_nextDraw_29 : decode cX7_nextDraw 29 = .ok (.idiv, 1) := by decide +kernel
theorem dX7_nextDraw_30 : decode cX7_nextDraw 30 = .ok (.iload_n 1, 1) := by decide +kernel
theorem dX7_nextDraw_31 : decode cX7_nextDraw 31 = .ok (.irem, 1) := by decide +kernel
theorem dX7_nextDraw_32 : decode cX7_nextDraw 32 = .ok (.ireturn, 1) := by decide +kernel
theorem dX7_lots_0 : decode cX7_lots 0 = .ok (.iload_n 1, 1) := by decide +kernel
theorem dX7_lots_1 : decode cX7_lots 1 = .ok (.i2l, 1) := by decide +kernel
theorem dX7_lots_2 : decode cX7_lots 2 = .ok (.lconst 1, 1) := by decide +kernel
theorem dX7_lots_3 : decode cX7_lots 3 = .ok (.ldc2_w 266, 3) := by decide +kernel
theorem dX7_lots_6 : decode cX7_lots 6 = .ok (.invokestatic 81, 3) := by decide +kernel
theorem dX7_lots_9 : decode cX7_lots 9 = .ok (.ifCond .ne 5, 3) := by decide +kernel
theorem dX7_lots_12 : decode cX7_lots 12 = .ok (.iconst (-1), 1) := by decide +kernel
theorem dX7_lots_13 : decode cX7_lots 13 = .ok (.ireturn, 1) := by decide +kernel
theorem dX7_lots_14 : decode cX7_lots 14 = .ok (.aload_n 0, 1) := by decide +kernel
theorem dX7_lots_15 : decode cX7_lots 15 = .ok (.getfield 88, 3) := by decide +kernel
theorem dX7_lots_18 : decode cX7_lots 18 = .ok (.ifCond .eq 10, 3) := by decide +kernel
theorem dX7_lots_21 : decode cX7_lots 21 = .ok (.aload_n 0, 1) := by decide +kernel
theorem dX7_lots_22 : decode cX7_lots 22 = .ok (.getfield 85, 3) := by decide +kernel
theorem dX7_lots_25 : decode cX7_lots 25 = .ok (.ifCond .ne 6, 3) := by decide +kernel
theorem dX7_lots_28 : decode cX7_lots 28 = .ok (.bipush (-2), 2) := by decide +kernel
theorem dX7_lots_30 : decode cX7_lots 30 = .ok (.ireturn, 1) := by decide +kernel
theorem dX7_lots_31 : decode cX7_lots 31 = .ok (.aload_n 0, 1) := by decide +kernel
theorem dX7_lots_32 : decode cX7_lots 32 = .ok (.getfield 38, 3) := by decide +kernel
theorem dX7_lots_35 : decode cX7_lots 35 = .ok (.sipush 140, 3) := by decide +kernel
theorem dX7_lots_38 : decode cX7_lots 38 = .ok (.iaload, 1) := by decide +kernel
theorem dX7_lots_39 : decode cX7_lots 39 = .ok (.iload_n 1, 1) := by decide +kernel
theorem dX7_lots_40 : decode cX7_lots 40 = .ok (.iadd, 1) := by decide +kernel
theorem dX7_lots_41 : decode cX7_lots 41 = .ok (.sipush 9999, 3) := by decide +kernel
theorem dX7_lots_44 : decode cX7_lots 44 = .ok (.if_icmp .le 6, 3) := by decide +kernel
theorem dX7_lots_47 : decode cX7_lots 47 = .ok (.bipush (-3), 2) := by decide +kernel
theorem dX7_lots_49 : decode cX7_lots 49 = .ok (.ireturn, 1) := by decide +kernel
theorem dX7_lots_50 : decode cX7_lots 50 = .ok (.iconst 0, 1) := by decide +kernel
theorem dX7_lots_51 : decode cX7_lots 51 = .ok (.istore_n 2, 1) := by decide +kernel
theorem dX7_lots_52 : decode cX7_lots 52 = .ok (.iconst 0, 1) := by decide +kernel
theorem dX7_lots_53 : decode cX7_lots 53 = .ok (.istore_n 3, 1) := by decide +kernel
theorem dX7_lots_54 : decode cX7_lots 54 = .ok (.iload_n 3, 1) := by decide +kernel
theorem dX7_lots_55 : decode cX7_lots 55 = .ok (.iload_n 1, 1) := by decide +kernel
theorem dX7_lots_56 : decode cX7_lots 56 = .ok (.if_icmp .ge 78, 3) := by decide +kernel
theorem dX7_lots_59 : decode cX7_lots 59 = .ok (.aload_n 0, 1) := by decide +kernel
theorem dX7_lots_60 : decode cX7_lots 60 = .ok (.aload_n 0, 1) := by decide +kernel
theorem dX7_lots_61 : decode cX7_lots 61 = .ok (.iconst 5, 1) := by decide +kernel
theorem dX7_lots_62 : decode cX7_lots 62 = .ok (.invokevirtual 268, 3) := by decide +kernel
theorem dX7_lots_65 : decode cX7_lots 65 = .ok (.putfield 130, 3) := by decide +kernel
theorem dX7_lots_68 : decode cX7_lots 68 = .ok (.aload_n 0, 1) := by decide +kernel
theorem dX7_lots_69 : decode cX7_lots 69 = .ok (.aload_n 0, 1) := by decide +kernel
theorem dX7_lots_70 : decode cX7_lots 70 = .ok (.getfield 88, 3) := by decide +kernel
theorem dX7_lots_73 : decode cX7_lots 73 = .ok (.invokevirtual 268, 3) := by decide +kernel
theorem dX7_lots_76 : decode cX7_lots 76 = .ok (.istore 4, 2) := by decide +kernel
theorem dX7_lots_78 : decode cX7_lots 78 = .ok (.aload_n 0, 1) := by decide +kernel
theorem dX7_lots_79 : decode cX7_lots 79 = .ok (.bipush 36, 2) := by decide +kernel
theorem dX7_lots_81 : decode cX7_lots 81 = .ok (.invokevirtual 268, 3) := by decide +kernel
theorem dX7_lots_84 : decode cX7_lots 84 = .ok (.istore 5, 2) := by decide +kernel
theorem dX7_lots_86 : decode cX7_lots 86 = .ok (.aload_n 0, 1) := by decide +kernel
theorem dX7_lots_87 : decode cX7_lots 87 = .ok (.aload_n 0, 1) := by decide +kernel
theorem dX7_lots_88 : decode cX7_lots 88 = .ok (.getfield 85, 3) := by decide +kernel
theorem dX7_lots_91 : decode cX7_lots 91 = .ok (.invokevirtual 268, 3) := by decide +kernel
theorem dX7_lots_94 : decode cX7_lots 94 = .ok (.istore 6, 2) := by decide +kernel
theorem dX7_lots_96 : decode cX7_lots 96 = .ok (.iload_n 2, 1) := by decide +kernel
theorem dX7_lots_97 : decode cX7_lots 97 = .ok (.aload_n 0, 1) := by decide +kernel
theorem dX7_lots_98 : decode cX7_lots 98 = .ok (.iload 4, 2) := by decide +kernel
theorem dX7_lots_100 : decode cX7_lots 100 = .ok (.iload 5, 2) := by decide +kernel
theorem dX7_lots_102 : decode cX7_lots 102 = .ok (.iload 6, 2) := by decide +kernel
theorem dX7_lots_104 : decode cX7_lots 104 = .ok (.invokevirtual 238, 3) := by decide +kernel
theorem dX7_lots_107 : decode cX7_lots 107 = .ok (.ifCond .ne 7, 3) := by decide +kernel
theorem dX7_lots_110 : decode cX7_lots 110 = .ok (.iconst 1, 1) := by decide +kernel
theorem dX7_lots_111 : decode cX7_lots 111 = .ok (.goto 4, 3) := by decide +kernel
theorem dX7_lots_114 : decode cX7_lots 114 = .ok (.iconst 0, 1) := by decide +kernel
theorem dX7_lots_115 : decode cX7_lots 115 = .ok (.iadd, 1) := by decide +kernel
theorem dX7_lots_116 : decode cX7_lots 116 = .ok (.istore_n 2, 1) := by decide +kernel
theorem dX7_lots_117 : decode cX7_lots 117 = .ok (.aload_n 0, 1) := by decide +kernel
theorem dX7_lots_118 : decode cX7_lots 118 = .ok (.iload 4, 2) := by decide +kernel
theorem dX7_lots_120 : decode cX7_lots 120 = .ok (.iload 5, 2) := by decide +kernel
theorem dX7_lots_122 : decode cX7_lots 122 = .ok (.iload 6, 2) := by decide +kernel
theorem dX7_lots_124 : decode cX7_lots 124 = .ok (.invokevirtual 241, 3) := by decide +kernel
theorem dX7_lots_127 : decode cX7_lots 127 = .ok (.pop, 1) := by decide +kernel
theorem dX7_lots_128 : decode cX7_lots 128 = .ok (.iinc 3 1, 3) := by decide +kernel
theorem dX7_lots_131 : decode cX7_lots 131 = .ok (.goto (-77), 3) := by decide +kernel
theorem dX7_lots_134 : decode cX7_lots 134 = .ok (.iload_n 2, 1) := by decide +kernel
theorem dX7_lots_135 : decode cX7_lots 135 = .ok (.ireturn, 1) := by decide +kernel
theorem dX7_seed_0 : decode cX7_seed 0 = .ok (.iload_n 1, 1) := by decide +kernel
theorem dX7_seed_1 : decode cX7_seed 1 = .ok (.ifCond .ge 5, 3) := by decide +kernel
theorem dX7_seed_4 : decode cX7_seed 4 = .ok (.iconst (-1), 1) := by decide +kernel
theorem dX7_seed_5 : decode cX7_seed 5 = .ok (.ireturn, 1) := by decide +kernel
theorem dX7_seed_6 : decode cX7_seed 6 = .ok (.aload_n 0, 1) := by decide +kernel
theorem dX7_seed_7 : decode cX7_seed 7 = .ok (.getfield 34, 3) := by decide +kernel
theorem dX7_seed_10 : decode cX7_seed 10 = .ok (.istore_n 2, 1) := by decide +kernel
theorem dX7_seed_11 : decode cX7_seed 11 = .ok (.aload_n 0, 1) := by decide +kernel
theorem dX7_seed_12 : decode cX7_seed 12 = .ok (.iload_n 1, 1) := by decide +kernel
theorem dX7_seed_13 : decode cX7_seed 13 = .ok (.putfield 34, 3) := by decide +kernel
theorem dX7_seed_16 : decode cX7_seed 16 = .ok (.iload_n 2, 1) := by decide +kernel
theorem dX7_seed_17 : decode cX7_seed 17 = .ok (.ireturn, 1) := by decide +kernel
theorem dX7_lacking_0 : decode cX7_lacking 0 = .ok (.iconst 0, 1) := by decide +kernel
theorem dX7_lacking_1 : decode cX7_lacking 1 = .ok (.istore_n 2, 1) := by decide +kernel
theorem dX7_lacking_2 : decode cX7_lacking 2 = .ok (.iconst 0, 1) := by decide +kernel
theorem dX7_lacking_3 : decode cX7_lacking 3 = .ok (.istore_n 3, 1) := by decide +kernel
theorem dX7_lacking_4 : decode cX7_lacking 4 = .ok (.iload_n 3, 1) := by decide +kernel
theorem dX7_lacking_5 : decode cX7_lacking 5 = .ok (.aload_n 0, 1) := by decide +kernel
theorem dX7_lacking_6 : decode cX7_lacking 6 = .ok (.getfield 78, 3) := by decide +kernel
theorem dX7_lacking_9 : decode cX7_lacking 9 = .ok (.if_icmp .ge 31, 3) := by decide +kernel
theorem dX7_lacking_12 : decode cX7_lacking 12 = .ok (.iload_n 2, 1) := by decide +kernel
theorem dX7_lacking_13 : decode cX7_lacking 13 = .ok (.aload_n 0, 1) := by decide +kernel
theorem dX7_lacking_14 : decode cX7_lacking 14 = .ok (.iload_n 3, 1) := by decide +kernel
theorem dX7_lacking_15 : decode cX7_lacking 15 = .ok (.invokevirtual 163, 3) := by decide +kernel
theorem dX7_lacking_18 : decode cX7_lacking 18 = .ok (.iload_n 1, 1) := by decide +kernel
theorem dX7_lacking_19 : decode cX7_lacking 19 = .ok (.invokestatic 153, 3) := by decide +kernel
theorem dX7_lacking_22 : decode cX7_lacking 22 = .ok (.ifCond .eq 9, 3) := by decide +kernel
theorem dX7_lacking_25 : decode cX7_lacking 25 = .ok (.iconst 1, 1) := by decide +kernel
theorem dX7_lacking_26 : decode cX7_lacking 26 = .ok (.iload_n 3, 1) := by decide +kernel
theorem dX7_lacking_27 : decode cX7_lacking 27 = .ok (.ishl, 1) := by decide +kernel
theorem dX7_lacking_28 : decode cX7_lacking 28 = .ok (.goto 4, 3) := by decide +kernel
theorem dX7_lacking_31 : decode cX7_lacking 31 = .ok (.iconst 0, 1) := by decide +kernel
theorem dX7_lacking_32 : decode cX7_lacking 32 = .ok (.ior, 1) := by decide +kernel
theorem dX7_lacking_33 : decode cX7_lacking 33 = .ok (.istore_n 2, 1) := by decide +kernel
theorem dX7_lacking_34 : decode cX7_lacking 34 = .ok (.iinc 3 1, 3) := by decide +kernel
theorem dX7_lacking_37 : decode cX7_lacking 37 = .ok (.goto (-33), 3) := by decide +kernel
theorem dX7_lacking_40 : decode cX7_lacking 40 = .ok (.iload_n 2, 1) := by decide +kernel
theorem dX7_lacking_41 : decode cX7_lacking 41 = .ok (.ireturn, 1) := by decide +kernel
theorem dX7_stand_0 : decode cX7_stand 0 = .ok (.aload_n 0, 1) := by decide +kernel
theorem dX7_stand_1 : decode cX7_stand 1 = .ok (.iload_n 1, 1) := by decide +kernel
theorem dX7_stand_2 : decode cX7_stand 2 = .ok (.i2l, 1) := by decide +kernel
theorem dX7_stand_3 : decode cX7_stand 3 = .ok (.invokevirtual 213, 3) := by decide +kernel
theorem dX7_stand_6 : decode cX7_stand 6 = .ok (.ifCond .eq 12, 3) := by decide +kernel
theorem dX7_stand_9 : decode cX7_stand 9 = .ok (.aload_n 0, 1) := by decide +kernel
theorem dX7_stand_10 : decode cX7_stand 10 = .ok (.iload_n 2, 1) := by decide +kernel
theorem dX7_stand_11 : decode cX7_stand 11 = .ok (.i2l, 1) := by decide +kernel
theorem dX7_stand_12 : decode cX7_stand 12 = .ok (.invokevirtual 123, 3) := by decide +kernel
theorem dX7_stand_15 : decode cX7_stand 15 = .ok (.ifCond .ne 5, 3) := by decide +kernel
theorem dX7_stand_18 : decode cX7_stand 18 = .ok (.iconst (-1), 1) := by decide +kernel
theorem dX7_stand_19 : decode cX7_stand 19 = .ok (.ireturn, 1) := by decide +kernel
theorem dX7_stand_20 : decode cX7_stand 20 = .ok (.bipush (-4), 2) := by decide +kernel
theorem dX7_stand_22 : decode cX7_stand 22 = .ok (.istore_n 3, 1) := by decide +kernel
theorem dX7_stand_23 : decode cX7_stand 23 = .ok (.iconst 0, 1) := by decide +kernel
theorem dX7_stand_24 : decode cX7_stand 24 = .ok (.istore 4, 2) := by decide +kernel
theorem dX7_stand_26 : decode cX7_stand 26 = .ok (.aload_n 0, 1) := by decide +kernel
theorem dX7_stand_27 : decode cX7_stand 27 = .ok (.iload_n 2, 1) := by decide +kernel
theorem dX7_stand_28 : decode cX7_stand 28 = .ok (.invokevirtual 271, 3) := by decide +kernel
theorem dX7_stand_31 : decode cX7_stand 31 = .ok (.istore 5, 2) := by decide +kernel
theorem dX7_stand_33 : decode cX7_stand 33 = .ok (.iconst 0, 1) := by decide +kernel
theorem dX7_stand_34 : decode cX7_stand 34 = .ok (.istore 6, 2) := by decide +kernel
theorem dX7_stand_36 : decode cX7_stand 36 = .ok (.iload 6, 2) := by decide +kernel
theorem dX7_stand_38 : decode cX7_stand 38 = .ok (.bipush 36, 2) := by decide +kernel
theorem dX7_stand_40 : decode cX7_stand 40 = .ok (.if_icmp .ge 53, 3) := by decide +kernel
theorem dX7_stand_43 : decode cX7_stand 43 = .ok (.aload_n 0, 1) := by decide +kernel
theorem dX7_stand_44 : decode cX7_stand 44 = .ok (.iload_n 1, 1) := by decide +kernel
theorem dX7_stand_45 : decode cX7_stand 45 = .ok (.iload 6, 2) := by decide +kernel
theorem dX7_stand_47 : decode cX7_stand 47 = .ok (.aload_n 0, 1) := by decide +kernel
theorem dX7_stand_48 : decode cX7_stand 48 = .ok (.getfield 130, 3) := by decide +kernel
theorem dX7_stand_51 : decode cX7_stand 51 = .ok (.invokevirtual 247, 3) := by decide +kernel
theorem dX7_stand_54 : decode cX7_stand 54 = .ok (.iload 5, 2) := by decide +kernel
theorem dX7_stand_56 : decode cX7_stand 56 = .ok (.iand, 1) := by decide +kernel
theorem dX7_stand_57 : decode cX7_stand 57 = .ok (.invokestatic 244, 3) := by decide +kernel
theorem dX7_stand_60 : decode cX7_stand 60 = .ok (.istore 7, 2) := by decide +kernel
theorem dX7_stand_62 : decode cX7_stand 62 = .ok (.iload 7, 2) := by decide +kernel
theorem dX7_stand_64 : decode cX7_stand 64 = .ok (.iload 4, 2) := by decide +kernel
theorem dX7_stand_66 : decode cX7_stand 66 = .ok (.if_icmp .le 21, 3) := by decide +kernel
theorem dX7_stand_69 : decode cX7_stand 69 = .ok (.aload_n 0, 1) := by decide +kernel
theorem dX7_stand_70 : decode cX7_stand 70 = .ok (.iload_n 1, 1) := by decide +kernel
theorem dX7_stand_71 : decode cX7_stand 71 = .ok (.iload 6, 2) := by decide +kernel
theorem dX7_stand_73 : decode cX7_stand 73 = .ok (.iload_n 2, 1) := by decide +kernel
theorem dX7_stand_74 : decode cX7_stand 74 = .ok (.invokevirtual 238, 3) := by decide +kernel
theorem dX7_stand_77 : decode cX7_stand 77 = .ok (.ifCond .ne 10, 3) := by decide +kernel
theorem dX7_stand_80 : decode cX7_stand 80 = .ok (.iload 6, 2) := by decide +kernel
theorem dX7_stand_82 : decode cX7_stand 82 = .ok (.istore_n 3, 1) := by decide +kernel
theorem dX7_stand_83 : decode cX7_stand 83 = .ok (.iload 7, 2) := by decide +kernel
theorem dX7_stand_85 : decode cX7_stand 85 = .ok (.istore 4, 2) := by decide +kernel
theorem dX7_stand_87 : decode cX7_stand 87 = .ok (.iinc 6 1, 3) := by decide +kernel
theorem dX7_stand_90 : decode cX7_stand 90 = .ok (.goto (-54), 3) := by decide +kernel
theorem dX7_stand_93 : decode cX7_stand 93 = .ok (.iload_n 3, 1) := by decide +kernel
theorem dX7_stand_94 : decode cX7_stand 94 = .ok (.ireturn, 1) := by decide +kernel
theorem dX7_findCover_0 : decode cX7_findCover 0 = .ok (.aload_n 0, 1) := by decide +kernel
theorem dX7_findCover_1 : decode cX7_findCover 1 = .ok (.iload_n 2, 1) := by decide +kernel
theorem dX7_findCover_2 : decode cX7_findCover 2 = .ok (.invokevirtual 271, 3) := by decide +kernel
theorem dX7_findCover_5 : decode cX7_findCover 5 = .ok (.istore_n 3, 1) := by decide +kernel
theorem dX7_findCover_6 : decode cX7_findCover 6 = .ok (.iload_n 3, 1) := by decide +kernel
theorem dX7_findCover_7 : decode cX7_findCover 7 = .ok (.ifCond .ne 5, 3) := by decide +kernel
theorem dX7_findCover_10 : decode cX7_findCover 10 = .ok (.iconst 0, 1) := by decide +kernel
theorem dX7_findCover_11 : decode cX7_findCover 11 = .ok (.ireturn, 1) := by decide +kernel
theorem dX7_findCover_12 : decode cX7_findCover 12 = .ok (.iconst 0, 1) := by decide +kernel
theorem dX7_findCover_13 : decode cX7_findCover 13 = .ok (.istore 4, 2) := by decide +kernel
theorem dX7_findCover_15 : decode cX7_findCover 15 = .ok (.iload 4, 2) := by decide +kernel
theorem dX7_findCover_17 : decode cX7_findCover 17 = .ok (.bipush 36, 2) := by decide +kernel
theorem dX7_findCover_19 : decode cX7_findCover 19 = .ok (.if_icmp .ge 42, 3) := by decide +kernel
theorem dX7_findCover_22 : decode cX7_findCover 22 = .ok (.aload_n 0, 1) := by decide +kernel
theorem dX7_findCover_23 : decode cX7_findCover 23 = .ok (.getfield 50, 3) := by decide +kernel
theorem dX7_findCover_26 : decode cX7_findCover 26 = .ok (.iload 4, 2) := by decide +kernel
theorem dX7_findCover_28 : decode cX7_findCover 28 = .ok (.aload_n 0, 1) := by decide +kernel
theorem dX7_findCover_29 : decode cX7_findCover 29 = .ok (.iload_n 1, 1) := by decide +kernel
theorem dX7_findCover_30 : decode cX7_findCover 30 = .ok (.iload 4, 2) := by decide +kernel
theorem dX7_findCover_32 : decode cX7_findCover 32 = .ok (.iload_n 2, 1) := by decide +kernel
theorem dX7_findCover_33 : decode cX7_findCover 33 = .ok (.invokevirtual 238, 3) := by decide +kernel
theorem dX7_findCover_36 : decode cX7_findCover 36 = .ok (.ifCond .ne 17, 3) := by decide +kernel
theorem dX7_findCover_39 : decode cX7_findCover 39 = .ok (.aload_n 0, 1) := by decide +kernel
theorem dX7_findCover_40 : decode cX7_findCover 40 = .ok (.iload_n 1, 1) := by decide +kernel
theorem dX7_findCover_41 : decode cX7_findCover 41 = .ok (.iload 4, 2) := by decide +kernel
theorem dX7_findCover_43 : decode cX7_findCover 43 = .ok (.aload_n 0, 1) := by decide +kernel
theorem dX7_findCover_44 : decode cX7_findCover 44 = .ok (.getfield 130, 3) := by decide +kernel
theorem dX7_findCover_47 : decode cX7_findCover 47 = .ok (.invokevirtual 247, 3) := by decide +kernel
theorem dX7_findCover_50 : decode cX7_findCover 50 = .ok (.goto 4, 3) := by decide +kernel
theorem dX7_findCover_53 : decode cX7_findCover 53 = .ok (.iconst (-1), 1) := by decide +kernel
theorem dX7_findCover_54 : decode cX7_findCover 54 = .ok (.iastore, 1) := by decide +kernel
theorem dX7_findCover_55 : decode cX7_findCover 55 = .ok (.iinc 4 1, 3) := by decide +kernel
theorem dX7_findCover_58 : decode cX7_findCover 58 = .ok (.goto (-43), 3) := by decide +kernel
theorem dX7_findCover_61 : decode cX7_findCover 61 = .ok (.iconst 0, 1) := by decide +kernel
theorem dX7_findCover_62 : decode cX7_findCover 62 = .ok (.istore 4, 2) := by decide +kernel
theorem dX7_findCover_64 : decode cX7_findCover 64 = .ok (.iload 4, 2) := by decide +kernel
theorem dX7_findCover_66 : decode cX7_findCover 66 = .ok (.bipush 36, 2) := by decide +kernel
theorem dX7_findCover_68 : decode cX7_findCover 68 = .ok (.if_icmp .ge 43, 3) := by decide +kernel
theorem dX7_findCover_71 : decode cX7_findCover 71 = .ok (.aload_n 0, 1) := by decide +kernel
theorem dX7_findCover_72 : decode cX7_findCover 72 = .ok (.getfield 50, 3) := by decide +kernel
theorem dX7_findCover_75 : decode cX7_findCover 75 = .ok (.iload 4, 2) := by decide +kernel
theorem dX7_findCover_77 : decode cX7_findCover 77 = .ok (.iaload, 1) := by decide +kernel
theorem dX7_findCover_78 : decode cX7_findCover 78 = .ok (.ifCond .lt 27, 3) := by decide +kernel
theorem dX7_findCover_81 : decode cX7_findCover 81 = .ok (.iload_n 3, 1) := by decide +kernel
theorem dX7_findCover_82 : decode cX7_findCover 82 = .ok (.aload_n 0, 1) := by decide +kernel
theorem dX7_findCover_83 : decode cX7_findCover 83 = .ok (.getfield 50, 3) := by decide +kernel
theorem dX7_findCover_86 : decode cX7_findCover 86 = .ok (.iload 4, 2) := by decide +kernel
theorem dX7_findCover_88 : decode cX7_findCover 88 = .ok (.iaload, 1) := by decide +kernel
theorem dX7_findCover_89 : decode cX7_findCover 89 = .ok (.iconst (-1), 1) := by decide +kernel
theorem dX7_findCover_90 : decode cX7_findCover 90 = .ok (.ixor, 1) := by decide +kernel
theorem dX7_findCover_91 : decode cX7_findCover 91 = .ok (.iand, 1) := by decide +kernel
theorem dX7_findCover_92 : decode cX7_findCover 92 = .ok (.ifCond .ne 13, 3) := by decide +kernel
theorem dX7_findCover_95 : decode cX7_findCover 95 = .ok (.aload_n 0, 1) := by decide +kernel
theorem dX7_findCover_96 : decode cX7_findCover 96 = .ok (.getfield 53, 3) := by decide +kernel
theorem dX7_findCover_99 : decode cX7_findCover 99 = .ok (.iconst 0, 1) := by decide +kernel
theorem dX7_findCover_100 : decode cX7_findCover 100 = .ok (.iload 4, 2) := by decide +kernel
theorem dX7_findCover_102 : decode cX7_findCover 102 = .ok (.iastore, 1) := by decide +kernel
theorem dX7_findCover_103 : decode cX7_findCover 103 = .ok (.iconst 1, 1) := by decide +kernel
theorem dX7_findCover_104 : decode cX7_findCover 104 = .ok (.ireturn, 1) := by decide +kernel
theorem dX7_findCover_105 : decode cX7_findCover 105 = .ok (.iinc 4 1, 3) := by decide +kernel
theorem dX7_findCover_108 : decode cX7_findCover 108 = .ok (.goto (-44), 3) := by decide +kernel
theorem dX7_findCover_111 : decode cX7_findCover 111 = .ok (.iconst 0, 1) := by decide +kernel
theorem dX7_findCover_112 : decode cX7_findCover 112 = .ok (.istore 4, 2) := by decide +kernel
theorem dX7_findCover_114 : decode cX7_findCover 114 = .ok (.iload 4, 2) := by decide +kernel
theorem dX7_findCover_116 : decode cX7_findCover 116 = .ok (.sipush 1296, 3) := by decide +kernel
theorem dX7_findCover_119 : decode cX7_findCover 119 = .ok (.if_icmp .ge 80, 3) := by decide +kernel
theorem dX7_findCover_122 : decode cX7_findCover 122 = .ok (.aload_n 0, 1) := by decide +kernel
theorem dX7_findCover_123 : decode cX7_findCover 123 = .ok (.iload 4, 2) := by decide +kernel
theorem dX7_findCover_125 : decode cX7_findCover 125 = .ok (.bipush 36, 2) := by decide +kernel
theorem dX7_findCover_127 : decode cX7_findCover 127 = .ok (.idiv, 1) := by decide +kernel
theorem dX7_findCover_128 : decode cX7_findCover 128 = .ok (.iload 4, 2) := by decide +kernel
theorem dX7_findCover_130 : decode cX7_findCover 130 = .ok (.bipush 36, 2) := by decide +kernel
theorem dX7_findCover_132 : decode cX7_findCover 132 = .ok (.irem, 1) := by decide +kernel
theorem dX7_findCover_133 : decode cX7_findCover 133 = .ok (.invokevirtual 274, 3) := by decide +kernel
theorem dX7_findCover_136 : decode cX7_findCover 136 = .ok (.ifCond .eq 57, 3) := by decide +kernel
theorem dX7_findCover_139 : decode cX7_findCover 139 = .ok (.iload_n 3, 1) := by decide +kernel
theorem dX7_findCover_140 : decode cX7_findCover 140 = .ok (.aload_n 0, 1) := by decide +kernel
theorem dX7_findCover_141 : decode cX7_findCover 141 = .ok (.getfield 50, 3) := by decide +kernel
theorem dX7_findCover_144 : decode cX7_findCover 144 = .ok (.iload 4, 2) := by decide +kernel
theorem dX7_findCover_146 : decode cX7_findCover 146 = .ok (.bipush 36, 2) := by decide +kernel
theorem dX7_findCover_148 : decode cX7_findCover 148 = .ok (.idiv, 1) := by decide +kernel
theorem dX7_findCover_149 : decode cX7_findCover 149 = .ok (.iaload, 1) := by decide +kernel
theorem dX7_findCover_150 : decode cX7_findCover 150 = .ok (.iconst (-1), 1) := by decide +kernel
theorem dX7_findCover_151 : decode cX7_findCover 151 = .ok (.ixor, 1) := by decide +kernel
theorem dX7_findCover_152 : decode cX7_findCover 152 = .ok (.iand, 1) := by decide +kernel
theorem dX7_findCover_153 : decode cX7_findCover 153 = .ok (.aload_n 0, 1) := by decide +kernel
theorem dX7_findCover_154 : decode cX7_findCover 154 = .ok (.getfield 50, 3) := by decide +kernel
theorem dX7_findCover_157 : decode cX7_findCover 157 = .ok (.iload 4, 2) := by decide +kernel
theorem dX7_findCover_159 : decode cX7_findCover 159 = .ok (.bipush 36, 2) := by decide +kernel
theorem dX7_findCover_161 : decode cX7_findCover 161 = .ok (.irem, 1) := by decide +kernel
theorem dX7_findCover_162 : decode cX7_findCover 162 = .ok (.iaload, 1) := by decide +kernel
theorem dX7_findCover_163 : decode cX7_findCover 163 = .ok (.iconst (-1), 1) := by decide +kernel
theorem dX7_findCover_164 : decode cX7_findCover 164 = .ok (.ixor, 1) := by decide +kernel
theorem dX7_findCover_165 : decode cX7_findCover 165 = .ok (.iand, 1) := by decide +kernel
theorem dX7_findCover_166 : decode cX7_findCover 166 = .ok (.ifCond .ne 27, 3) := by decide +kernel
theorem dX7_findCover_169 : decode cX7_findCover 169 = .ok (.aload_n 0, 1) := by decide +kernel
theorem dX7_findCover_170 : decode cX7_findCover 170 = .ok (.getfield 53, 3) := by decide +kernel
theorem dX7_findCover_173 : decode cX7_findCover 173 = .ok (.iconst 0, 1) := by decide +kernel
theorem dX7_findCover_174 : decode cX7_findCover 174 = .ok (.iload 4, 2) := by decide +kernel
theorem dX7_findCover_176 : decode cX7_findCover 176 = .ok (.bipush 36, 2) := by decide +kernel
theorem dX7_findCover_178 : decode cX7_findCover 178 = .ok (.idiv, 1) := by decide +kernel
theorem dX7_findCover_179 : decode cX7_findCover 179 = .ok (.iastore, 1) := by decide +kernel
theorem dX7_findCover_180 : decode cX7_findCover 180 = .ok (.aload_n 0, 1) := by decide +kernel
theorem dX7_findCover_181 : decode cX7_findCover 181 = .ok (.getfield 53, 3) := by decide +kernel
theorem dX7_findCover_184 : decode cX7_findCover 184 = .ok (.iconst 1, 1) := by decide +kernel
theorem dX7_findCover_185 : decode cX7_findCover 185 = .ok (.iload 4, 2) := by decide +kernel
theorem dX7_findCover_187 : decode cX7_findCover 187 = .ok (.bipush 36, 2) := by decide +kernel
theorem dX7_findCover_189 : decode cX7_findCover 189 = .ok (.irem, 1) := by decide +kernel
theorem dX7_findCover_190 : decode cX7_findCover 190 = .ok (.iastore, 1) := by decide +kernel
theorem dX7_findCover_191 : decode cX7_findCover 191 = .ok (.iconst 2, 1) := by decide +kernel
theorem dX7_findCover_192 : decode cX7_findCover 192 = .ok (.ireturn, 1) := by decide +kernel
theorem dX7_findCover_193 : decode cX7_findCover 193 = .ok (.iinc 4 1, 3) := by decide +kernel
theorem dX7_findCover_196 : decode cX7_findCover 196 = .ok (.goto (-82), 3) := by decide +kernel
theorem dX7_findCover_199 : decode cX7_findCover 199 = .ok (.iconst 0, 1) := by decide +kernel
theorem dX7_findCover_200 : decode cX7_findCover 200 = .ok (.istore 4, 2) := by decide +kernel
theorem dX7_findCover_202 : decode cX7_findCover 202 = .ok (.iload 4, 2) := by decide +kernel
theorem dX7_findCover_204 : decode cX7_findCover 204 = .ok (.ldc_w 277, 3) := by decide +kernel
theorem dX7_findCover_207 : decode cX7_findCover 207 = .ok (.if_icmp .ge 129, 3) := by decide +kernel
theorem dX7_findCover_210 : decode cX7_findCover 210 = .ok (.iload 4, 2) := by decide +kernel
theorem dX7_findCover_212 : decode cX7_findCover 212 = .ok (.bipush 36, 2) := by decide +kernel
theorem dX7_findCover_214 : decode cX7_findCover 214 = .ok (.idiv, 1) := by decide +kernel
theorem dX7_findCover_215 : decode cX7_findCover 215 = .ok (.bipush 36, 2) := by decide +kernel
theorem dX7_findCover_217 : decode cX7_findCover 217 = .ok (.idiv, 1) := by decide +kernel
theorem dX7_findCover_218 : decode cX7_findCover 218 = .ok (.istore 5, 2) := by decide +kernel
theorem dX7_findCover_220 : decode cX7_findCover 220 = .ok (.iload 4, 2) := by decide +kernel
theorem dX7_findCover_222 : decode cX7_findCover 222 = .ok (.bipush 36, 2) := by decide +kernel
theorem dX7_findCover_224 : decode cX7_findCover 224 = .ok (.idiv, 1) := by decide +kernel
theorem dX7_findCover_225 : decode cX7_findCover 225 = .ok (.bipush 36, 2) := by decide +kernel
theorem dX7_findCover_227 : decode cX7_findCover 227 = .ok (.irem, 1) := by decide +kernel
theorem dX7_findCover_228 : decode cX7_findCover 228 = .ok (.istore 6, 2) := by decide +kernel
theorem dX7_findCover_230 : decode cX7_findCover 230 = .ok (.iload 4, 2) := by decide +kernel
theorem dX7_findCover_232 : decode cX7_findCover 232 = .ok (.bipush 36, 2) := by decide +kernel
theorem dX7_findCover_234 : decode cX7_findCover 234 = .ok (.irem, 1) := by decide +kernel
theorem dX7_findCover_235 : decode cX7_findCover 235 = .ok (.istore 7, 2) := by decide +kernel
theorem dX7_findCover_237 : decode cX7_findCover 237 = .ok (.aload_n 0, 1) := by decide +kernel
theorem dX7_findCover_238 : decode cX7_findCover 238 = .ok (.iload 5, 2) := by decide +kernel
theorem dX7_findCover_240 : decode cX7_findCover 240 = .ok (.iload 6, 2) := by decide +kernel
theorem dX7_findCover_242 : decode cX7_findCover 242 = .ok (.invokevirtual 274, 3) := by decide +kernel
theorem dX7_findCover_245 : decode cX7_findCover 245 = .ok (.ifCond .eq 85, 3) := by decide +kernel
theorem dX7_findCover_248 : decode cX7_findCover 248 = .ok (.aload_n 0, 1) := by decide +kernel
theorem dX7_findCover_249 : decode cX7_findCover 249 = .ok (.iload 5, 2) := by decide +kernel
theorem dX7_findCover_251 : decode cX7_findCover 251 = .ok (.iload 7, 2) := by decide +kernel
theorem dX7_findCover_253 : decode cX7_findCover 253 = .ok (.invokevirtual 274, 3) := by decide +kernel
theorem dX7_findCover_256 : decode cX7_findCover 256 = .ok (.ifCond .eq 74, 3) := by decide +kernel
theorem dX7_findCover_259 : decode cX7_findCover 259 = .ok (.aload_n 0, 1) := by decide +kernel
theorem dX7_findCover_260 : decode cX7_findCover 260 = .ok (.iload 6, 2) := by decide +kernel
theorem dX7_findCover_262 : decode cX7_findCover 262 = .ok (.iload 7, 2) := by decide +kernel
theorem dX7_findCover_264 : decode cX7_findCover 264 = .ok (.invokevirtual 274, 3) := by decide +kernel
theorem dX7_findCover_267 : decode cX7_findCover 267 = .ok (.ifCond .eq 63, 3) := by decide +kernel
theorem dX7_findCover_270 : decode cX7_findCover 270 = .ok (.iload_n 3, 1) := by decide +kernel
theorem dX7_findCover_271 : decode cX7_findCover 271 = .ok (.aload_n 0, 1) := by decide +kernel
theorem dX7_findCover_272 : decode cX7_findCover 272 = .ok (.getfield 50, 3) := by decide +kernel
theorem dX7_findCover_275 : decode cX7_findCover 275 = .ok (.iload 5, 2) := by decide +kernel
theorem dX7_findCover_277 : decode cX7_findCover 277 = .ok (.iaload, 1) := by decide +kernel
theorem dX7_findCover_278 : decode cX7_findCover 278 = .ok (.iconst (-1), 1) := by decide +kernel
theorem dX7_findCover_279 : decode cX7_findCover 279 = .ok (.ixor, 1) := by decide +kernel
theorem dX7_findCover_280 : decode cX7_findCover 280 = .ok (.iand, 1) := by decide +kernel
theorem dX7_findCover_281 : decode cX7_findCover 281 = .ok (.aload_n 0, 1) := by decide +kernel
theorem dX7_findCover_282 : decode cX7_findCover 282 = .ok (.getfield 50, 3) := by decide +kernel
theorem dX7_findCover_285 : decode cX7_findCover 285 = .ok (.iload 6, 2) := by decide +kernel
theorem dX7_findCover_287 : decode cX7_findCover 287 = .ok (.iaload, 1) := by decide +kernel
theorem dX7_findCover_288 : decode cX7_findCover 288 = .ok (.iconst (-1), 1) := by decide +kernel
theorem dX7_findCover_289 : decode cX7_findCover 289 = .ok (.ixor, 1) := by decide +kernel
theorem dX7_findCover_290 : decode cX7_findCover 290 = .ok (.iand, 1) := by decide +kernel
theorem dX7_findCover_291 : decode cX7_findCover 291 = .ok (.aload_n 0, 1) := by decide +kernel
theorem dX7_findCover_292 : decode cX7_findCover 292 = .ok (.getfield 50, 3) := by decide +kernel
theorem dX7_findCover_295 : decode cX7_findCover 295 = .ok (.iload 7, 2) := by decide +kernel
theorem dX7_findCover_297 : decode cX7_findCover 297 = .ok (.iaload, 1) := by decide +kernel
theorem dX7_findCover_298 : decode cX7_findCover 298 = .ok (.iconst (-1), 1) := by decide +kernel
theorem dX7_findCover_299 : decode cX7_findCover 299 = .ok (.ixor, 1) := by decide +kernel
theorem dX7_findCover_300 : decode cX7_findCover 300 = .ok (.iand, 1) := by decide +kernel
theorem dX7_findCover_301 : decode cX7_findCover 301 = .ok (.ifCond .ne 29, 3) := by decide +kernel
theorem dX7_findCover_304 : decode cX7_findCover 304 = .ok (.aload_n 0, 1) := by decide +kernel
theorem dX7_findCover_305 : decode cX7_findCover 305 = .ok (.getfield 53, 3) := by decide +kernel
theorem dX7_findCover_308 : decode cX7_findCover 308 = .ok (.iconst 0, 1) := by decide +kernel
theorem dX7_findCover_309 : decode cX7_findCover 309 = .ok (.iload 5, 2) := by decide +kernel
theorem dX7_findCover_311 : decode cX7_findCover 311 = .ok (.iastore, 1) := by decide +kernel
theorem dX7_findCover_312 : decode cX7_findCover 312 = .ok (.aload_n 0, 1) := by decide +kernel
theorem dX7_findCover_313 : decode cX7_findCover 313 = .ok (.getfield 53, 3) := by decide +kernel
theorem dX7_findCover_316 : decode cX7_findCover 316 = .ok (.iconst 1, 1) := by decide +kernel
theorem dX7_findCover_317 : decode cX7_findCover 317 = .ok (.iload 6, 2) := by decide +kernel
theorem dX7_findCover_319 : decode cX7_findCover 319 = .ok (.iastore, 1) := by decide +kernel
theorem dX7_findCover_320 : decode cX7_findCover 320 = .ok (.aload_n 0, 1) := by decide +kernel
theorem dX7_findCover_321 : decode cX7_findCover 321 = .ok (.getfield 53, 3) := by decide +kernel
theorem dX7_findCover_324 : decode cX7_findCover 324 = .ok (.iconst 2, 1) := by decide +kernel
theorem dX7_findCover_325 : decode cX7_findCover 325 = .ok (.iload 7, 2) := by decide +kernel
theorem dX7_findCover_327 : decode cX7_findCover 327 = .ok (.iastore, 1) := by decide +kernel
theorem dX7_findCover_328 : decode cX7_findCover 328 = .ok (.iconst 3, 1) := by decide +kernel
theorem dX7_findCover_329 : decode cX7_findCover 329 = .ok (.ireturn, 1) := by decide +kernel
theorem dX7_findCover_330 : decode cX7_findCover 330 = .ok (.iinc 4 1, 3) := by decide +kernel
theorem dX7_findCover_333 : decode cX7_findCover 333 = .ok (.goto (-131), 3) := by decide +kernel
theorem dX7_findCover_336 : decode cX7_findCover 336 = .ok (.bipush (-4), 2) := by decide +kernel
theorem dX7_findCover_338 : decode cX7_findCover 338 = .ok (.ireturn, 1) := by decide +kernel
theorem dX7_areApart_0 : decode cX7_areApart 0 = .ok (.aload_n 0, 1) := by decide +kernel
theorem dX7_areApart_1 : decode cX7_areApart 1 = .ok (.getfield 50, 3) := by decide +kernel
theorem dX7_areApart_4 : decode cX7_areApart 4 = .ok (.iload_n 1, 1) := by decide +kernel
theorem dX7_areApart_5 : decode cX7_areApart 5 = .ok (.iaload, 1) := by decide +kernel
theorem dX7_areApart_6 : decode cX7_areApart 6 = .ok (.ifCond .lt 32, 3) := by decide +kernel
theorem dX7_areApart_9 : decode cX7_areApart 9 = .ok (.aload_n 0, 1) := by decide +kernel
theorem dX7_areApart_10 : decode cX7_areApart 10 = .ok (.getfield 50, 3) := by decide +kernel
theorem dX7_areApart_13 : decode cX7_areApart 13 = .ok (.iload_n 2, 1) := by decide +kernel
theorem dX7_areApart_14 : decode cX7_areApart 14 = .ok (.iaload, 1) := by decide +kernel
theorem dX7_areApart_15 : decode cX7_areApart 15 = .ok (.ifCond .lt 23, 3) := by decide +kernel
theorem dX7_areApart_18 : decode cX7_areApart 18 = .ok (.aload_n 0, 1) := by decide +kernel
theorem dX7_areApart_19 : decode cX7_areApart 19 = .ok (.getfield 50, 3) := by decide +kernel
theorem dX7_areApart_22 : decode cX7_areApart 22 = .ok (.iload_n 1, 1) := by decide +kernel
theorem dX7_areApart_23 : decode cX7_areApart 23 = .ok (.iaload, 1) := by decide +kernel
theorem dX7_areApart_24 : decode cX7_areApart 24 = .ok (.aload_n 0, 1) := by decide +kernel
theorem dX7_areApart_25 : decode cX7_areApart 25 = .ok (.getfield 50, 3) := by decide +kernel
theorem dX7_areApart_28 : decode cX7_areApart 28 = .ok (.iload_n 2, 1) := by decide +kernel
theorem dX7_areApart_29 : decode cX7_areApart 29 = .ok (.iaload, 1) := by decide +kernel
theorem dX7_areApart_30 : decode cX7_areApart 30 = .ok (.iand, 1) := by decide +kernel
theorem dX7_areApart_31 : decode cX7_areApart 31 = .ok (.ifCond .ne 7, 3) := by decide +kernel
theorem dX7_areApart_34 : decode cX7_areApart 34 = .ok (.iconst 1, 1) := by decide +kernel
theorem dX7_areApart_35 : decode cX7_areApart 35 = .ok (.goto 4, 3) := by decide +kernel
theorem dX7_areApart_38 : decode cX7_areApart 38 = .ok (.iconst 0, 1) := by decide +kernel
theorem dX7_areApart_39 : decode cX7_areApart 39 = .ok (.ireturn, 1) := by decide +kernel
theorem dX7_cover_0 : decode cX7_cover 0 = .ok (.aload_n 0, 1) := by decide +kernel
theorem dX7_cover_1 : decode cX7_cover 1 = .ok (.iload_n 1, 1) := by decide +kernel
theorem dX7_cover_2 : decode cX7_cover 2 = .ok (.i2l, 1) := by decide +kernel
theorem dX7_cover_3 : decode cX7_cover 3 = .ok (.invokevirtual 213, 3) := by decide +kernel
theorem dX7_cover_6 : decode cX7_cover 6 = .ok (.ifCond .eq 26, 3) := by decide +kernel
theorem dX7_cover_9 : decode cX7_cover 9 = .ok (.aload_n 0, 1) := by decide +kernel
theorem dX7_cover_10 : decode cX7_cover 10 = .ok (.iload_n 2, 1) := by decide +kernel
theorem dX7_cover_11 : decode cX7_cover 11 = .ok (.i2l, 1) := by decide +kernel
theorem dX7_cover_12 : decode cX7_cover 12 = .ok (.invokevirtual 123, 3) := by decide +kernel
theorem dX7_cover_15 : decode cX7_cover 15 = .ok (.ifCond .eq 17, 3) := by decide +kernel
theorem dX7_cover_18 : decode cX7_cover 18 = .ok (.iload_n 3, 1) := by decide +kernel
theorem dX7_cover_19 : decode cX7_cover 19 = .ok (.i2l, 1) := by decide +kernel
theorem dX7_cover_20 : decode cX7_cover 20 = .ok (.ldc2_w 278, 3) := by decide +kernel
theorem dX7_cover_23 : decode cX7_cover 23 = .ok (.ldc2_w 280, 3) := by decide +kernel
theorem dX7_cover_26 : decode cX7_cover 26 = .ok (.invokestatic 81, 3) := by decide +kernel
theorem dX7_cover_29 : decode cX7_cover 29 = .ok (.ifCond .ne 5, 3) := by decide +kernel
theorem dX7_cover_32 : decode cX7_cover 32 = .ok (.iconst (-1), 1) := by decide +kernel
theorem dX7_cover_33 : decode cX7_cover 33 = .ok (.ireturn, 1) := by decide +kernel
theorem dX7_cover_34 : decode cX7_cover 34 = .ok (.aload_n 0, 1) := by decide +kernel
theorem dX7_cover_35 : decode cX7_cover 35 = .ok (.iload_n 1, 1) := by decide +kernel
theorem dX7_cover_36 : decode cX7_cover 36 = .ok (.iload_n 2, 1) := by decide +kernel
theorem dX7_cover_37 : decode cX7_cover 37 = .ok (.invokevirtual 282, 3) := by decide +kernel
theorem dX7_cover_40 : decode cX7_cover 40 = .ok (.istore 4, 2) := by decide +kernel
theorem dX7_cover_42 : decode cX7_cover 42 = .ok (.iload 4, 2) := by decide +kernel
theorem dX7_cover_44 : decode cX7_cover 44 = .ok (.ifCond .lt 7, 3) := by decide +kernel
theorem dX7_cover_47 : decode cX7_cover 47 = .ok (.iload_n 3, 1) := by decide +kernel
theorem dX7_cover_48 : decode cX7_cover 48 = .ok (.ifCond .ge 8, 3) := by decide +kernel
theorem dX7_cover_51 : decode cX7_cover 51 = .ok (.iload 4, 2) := by decide +kernel
theorem dX7_cover_53 : decode cX7_cover 53 = .ok (.goto 20, 3) := by decide +kernel
theorem dX7_cover_56 : decode cX7_cover 56 = .ok (.iload_n 3, 1) := by decide +kernel
theorem dX7_cover_57 : decode cX7_cover 57 = .ok (.iload 4, 2) := by decide +kernel
theorem dX7_cover_59 : decode cX7_cover 59 = .ok (.if_icmp .ge 12, 3) := by decide +kernel
theorem dX7_cover_62 : decode cX7_cover 62 = .ok (.aload_n 0, 1) := by decide +kernel
theorem dX7_cover_63 : decode cX7_cover 63 = .ok (.getfield 53, 3) := by decide +kernel
theorem dX7_cover_66 : decode cX7_cover 66 = .ok (.iload_n 3, 1) := by decide +kernel
theorem dX7_cover_67 : decode cX7_cover 67 = .ok (.iaload, 1) := by decide +kernel
theorem dX7_cover_68 : decode cX7_cover 68 = .ok (.goto 5, 3) := by decide +kernel
theorem dX7_cover_71 : decode cX7_cover 71 = .ok (.bipush (-4), 2) := by decide +kernel
theorem dX7_cover_73 : decode cX7_cover 73 = .ok (.ireturn, 1) := by decide +kernel
theorem dX7_orders_0 : decode cX7_orders 0 = .ok (.iload_n 1, 1) := by decide +kernel
theorem dX7_orders_1 : decode cX7_orders 1 = .ok (.i2l, 1) := by decide +kernel
theorem dX7_orders_2 : decode cX7_orders 2 = .ok (.ldc2_w 278, 3) := by decide +kernel
theorem dX7_orders_5 : decode cX7_orders 5 = .ok (.ldc2_w 285, 3) := by decide +kernel
theorem dX7_orders_8 : decode cX7_orders 8 = .ok (.invokestatic 81, 3) := by decide +kernel
theorem dX7_orders_11 : decode cX7_orders 11 = .ok (.ifCond .ne 5, 3) := by decide +kernel
theorem dX7_orders_14 : decode cX7_orders 14 = .ok (.iconst (-1), 1) := by decide +kernel
theorem dX7_orders_15 : decode cX7_orders 15 = .ok (.ireturn, 1) := by decide +kernel
theorem dX7_orders_16 : decode cX7_orders 16 = .ok (.iconst 1, 1) := by decide +kernel
theorem dX7_orders_17 : decode cX7_orders 17 = .ok (.aload_n 0, 1) := by decide +kernel
theorem dX7_orders_18 : decode cX7_orders 18 = .ok (.getfield 85, 3) := by decide +kernel
theorem dX7_orders_21 : decode cX7_orders 21 = .ok (.ishl, 1) := by decide +kernel
theorem dX7_orders_22 : decode cX7_orders 22 = .ok (.iconst 1, 1) := by decide +kernel
theorem dX7_orders_23 : decode cX7_orders 23 = .ok (.isub, 1) := by decide +kernel
theorem dX7_orders_24 : decode cX7_orders 24 = .ok (.istore_n 2, 1) := by decide +kernel
theorem dX7_orders_25 : decode cX7_orders 25 = .ok (.iload_n 1, 1) := by decide +kernel
theorem dX7_orders_26 : decode cX7_orders 26 = .ok (.ifCond .ge 117, 3) := by decide +kernel
theorem dX7_orders_29 : decode cX7_orders 29 = .ok (.iconst 0, 1) := by decide +kernel
theorem dX7_orders_30 : decode cX7_orders 30 = .ok (.istore_n 3, 1) := by decide +kernel
theorem dX7_orders_31 : decode cX7_orders 31 = .ok (.iload_n 3, 1) := by decide +kernel
theorem dX7_orders_32 : decode cX7_orders 32 = .ok (.iload_n 2, 1) := by decide +kernel
theorem dX7_orders_33 : decode cX7_orders 33 = .ok (.if_icmp .gt 103, 3) := by decide +kernel
theorem dX7_orders_36 : decode cX7_orders 36 = .ok (.aload_n 0, 1) := by decide +kernel
theorem dX7_orders_37 : decode cX7_orders 37 = .ok (.getfield 56, 3) := by decide +kernel
theorem dX7_orders_40 : decode cX7_orders 40 = .ok (.iload_n 3, 1) := by decide +kernel
theorem dX7_orders_41 : decode cX7_orders 41 = .ok (.iload_n 3, 1) := by decide +kernel
theorem dX7_orders_42 : decode cX7_orders 42 = .ok (.ifCond .ne 7, 3) := by decide +kernel
theorem dX7_orders_45 : decode cX7_orders 45 = .ok (.iconst 1, 1) := by decide +kernel
theorem dX7_orders_46 : decode cX7_orders 46 = .ok (.goto 4, 3) := by decide +kernel
theorem dX7_orders_49 : decode cX7_orders 49 = .ok (.iconst 0, 1) := by decide +kernel
theorem dX7_orders_50 : decode cX7_orders 50 = .ok (.iastore, 1) := by decide +kernel
theorem dX7_orders_51 : decode cX7_orders 51 = .ok (.iconst 0, 1) := by decide +kernel
theorem dX7_orders_52 : decode cX7_orders 52 = .ok (.istore 4, 2) := by decide +kernel
theorem dX7_orders_54 : decode cX7_orders 54 = .ok (.iload 4, 2) := by decide +kernel
theorem dX7_orders_56 : decode cX7_orders 56 = .ok (.aload_n 0, 1) := by decide +kernel
theorem dX7_orders_57 : decode cX7_orders 57 = .ok (.getfield 85, 3) := by decide +kernel
theorem dX7_orders_60 : decode cX7_orders 60 = .ok (.if_icmp .ge 70, 3) := by decide +kernel
theorem dX7_orders_63 : decode cX7_orders 63 = .ok (.iload_n 3, 1) := by decide +kernel
theorem dX7_orders_64 : decode cX7_orders 64 = .ok (.iload 4, 2) := by decide +kernel
theorem dX7_orders_66 : decode cX7_orders 66 = .ok (.invokestatic 153, 3) := by decide +kernel
theorem dX7_orders_69 : decode cX7_orders 69 = .ok (.ifCond .eq 21, 3) := by decide +kernel
theorem dX7_orders_72 : decode cX7_orders 72 = .ok (.aload_n 0, 1) := by decide +kernel
theorem dX7_orders_73 : decode cX7_orders 73 = .ok (.getfield 22, 3) := by decide +kernel
theorem dX7_orders_76 : decode cX7_orders 76 = .ok (.iload 4, 2) := by decide +kernel
theorem dX7_orders_78 : decode cX7_orders 78 = .ok (.iaload, 1) := by decide +kernel
theorem dX7_orders_79 : decode cX7_orders 79 = .ok (.iload_n 3, 1) := by decide +kernel
theorem dX7_orders_80 : decode cX7_orders 80 = .ok (.iconst (-1), 1) := by decide +kernel
theorem dX7_orders_81 : decode cX7_orders 81 = .ok (.ixor, 1) := by decide +kernel
theorem dX7_orders_82 : decode cX7_orders 82 = .ok (.iand, 1) := by decide +kernel
theorem dX7_orders_83 : decode cX7_orders 83 = .ok (.ifCond .ne 7, 3) := by decide +kernel
theorem dX7_orders_86 : decode cX7_orders 86 = .ok (.iconst 1, 1) := by decide +kernel
theorem dX7_orders_87 : decode cX7_orders 87 = .ok (.goto 4, 3) := by decide +kernel
theorem dX7_orders_90 : decode cX7_orders 90 = .ok (.iconst 0, 1) := by decide +kernel
theorem dX7_orders_91 : decode cX7_orders 91 = .ok (.istore 5, 2) := by decide +kernel
theorem dX7_orders_93 : decode cX7_orders 93 = .ok (.aload_n 0, 1) := by decide +kernel
theorem dX7_orders_94 : decode cX7_orders 94 = .ok (.getfield 56, 3) := by decide +kernel
theorem dX7_orders_97 : decode cX7_orders 97 = .ok (.iload_n 3, 1) := by decide +kernel
theorem dX7_orders_98 : decode cX7_orders 98 = .ok (.dup2, 1) := by decide +kernel
theorem dX7_orders_99 : decode cX7_orders 99 = .ok (.iaload, 1) := by decide +kernel
theorem dX7_orders_100 : decode cX7_orders 100 = .ok (.iload 5, 2) := by decide +kernel
theorem dX7_orders_102 : decode cX7_orders 102 = .ok (.ifCond .eq 19, 3) := by decide +kernel
theorem dX7_orders_105 : decode cX7_orders 105 = .ok (.aload_n 0, 1) := by decide +kernel
theorem dX7_orders_106 : decode cX7_orders 106 = .ok (.getfield 56, 3) := by decide +kernel
theorem dX7_orders_109 : decode cX7_orders 109 = .ok (.iload_n 3, 1) := by decide +kernel
theorem dX7_orders_110 : decode cX7_orders 110 = .ok (.iconst 1, 1) := by decide +kernel
theorem dX7_orders_111 : decode cX7_orders 111 = .ok (.iload 4, 2) := by decide +kernel
theorem dX7_orders_113 : decode cX7_orders 113 = .ok (.ishl, 1) := by decide +kernel
theorem dX7_orders_114 : decode cX7_orders 114 = .ok (.iconst (-1), 1) := by decide +kernel
theorem dX7_orders_115 : decode cX7_orders 115 = .ok (.ixor, 1) := by decide +kernel
theorem dX7_orders_116 : decode cX7_orders 116 = .ok (.iand, 1) := by decide +kernel
theorem dX7_orders_117 : decode cX7_orders 117 = .ok (.iaload, 1) := by decide +kernel
theorem dX7_orders_118 : decode cX7_orders 118 = .ok (.goto 4, 3) := by decide +kernel
theorem dX7_orders_121 : decode cX7_orders 121 = .ok (.iconst 0, 1) := by decide +kernel
theorem dX7_orders_122 : decode cX7_orders 122 = .ok (.iadd, 1) := by decide +kernel
theorem dX7_orders_123 : decode cX7_orders 123 = .ok (.iastore, 1) := by decide +kernel
theorem dX7_orders_124 : decode cX7_orders 124 = .ok (.iinc 4 1, 3) := by decide +kernel
theorem dX7_orders_127 : decode cX7_orders 127 = .ok (.goto (-73), 3) := by decide +kernel
theorem dX7_orders_130 : decode cX7_orders 130 = .ok (.iinc 3 1, 3) := by decide +kernel
theorem dX7_orders_133 : decode cX7_orders 133 = .ok (.goto (-102), 3) := by decide +kernel
theorem dX7_orders_136 : decode cX7_orders 136 = .ok (.aload_n 0, 1) := by decide +kernel
theorem dX7_orders_137 : decode cX7_orders 137 = .ok (.getfield 56, 3) := by decide +kernel
theorem dX7_orders_140 : decode cX7_orders 140 = .ok (.iload_n 2, 1) := by decide +kernel
theorem dX7_orders_141 : decode cX7_orders 141 = .ok (.iaload, 1) := by decide +kernel
theorem dX7_orders_142 : decode cX7_orders 142 = .ok (.ireturn, 1) := by decide +kernel
theorem dX7_orders_143 : decode cX7_orders 143 = .ok (.iconst 0, 1) := by decide +kernel
theorem dX7_orders_144 : decode cX7_orders 144 = .ok (.istore_n 3, 1) := by decide +kernel
theorem dX7_orders_145 : decode cX7_orders 145 = .ok (.bipush (-4), 2) := by decide +kernel
theorem dX7_orders_147 : decode cX7_orders 147 = .ok (.istore 4, 2) := by decide +kernel
theorem dX7_orders_149 : decode cX7_orders 149 = .ok (.iconst 0, 1) := by decide +kernel
theorem dX7_orders_150 : decode cX7_orders 150 = .ok (.istore 5, 2) := by decide +kernel
theorem dX7_orders_152 : decode cX7_orders 152 = .ok (.iload 5, 2) := by decide +kernel
theorem dX7_orders_154 : decode cX7_orders 154 = .ok (.iload_n 1, 1) := by decide +kernel
theorem dX7_orders_155 : decode cX7_orders 155 = .ok (.if_icmp .gt 78, 3) := by decide +kernel
theorem dX7_orders_158 : decode cX7_orders 158 = .ok (.iload_n 1, 1) := by decide +kernel
theorem dX7_orders_159 : decode cX7_orders 159 = .ok (.aload_n 0, 1) := by decide +kernel
theorem dX7_orders_160 : decode cX7_orders 160 = .ok (.getfield 85, 3) := by decide +kernel
theorem dX7_orders_163 : decode cX7_orders 163 = .ok (.if_icmp .ge 70, 3) := by decide +kernel
theorem dX7_orders_166 : decode cX7_orders 166 = .ok (.bipush (-4), 2) := by decide +kernel
theorem dX7_orders_168 : decode cX7_orders 168 = .ok (.istore 4, 2) := by decide +kernel
theorem dX7_orders_170 : decode cX7_orders 170 = .ok (.iconst 0, 1) := by decide +kernel
theorem dX7_orders_171 : decode cX7_orders 171 = .ok (.istore 6, 2) := by decide +kernel
theorem dX7_orders_173 : decode cX7_orders 173 = .ok (.iload 6, 2) := by decide +kernel
theorem dX7_orders_175 : decode cX7_orders 175 = .ok (.aload_n 0, 1) := by decide +kernel
theorem dX7_orders_176 : decode cX7_orders 176 = .ok (.getfield 85, 3) := by decide +kernel
theorem dX7_orders_179 : decode cX7_orders 179 = .ok (.if_icmp .ge 41, 3) := by decide +kernel
theorem dX7_orders_182 : decode cX7_orders 182 = .ok (.iload_n 3, 1) := by decide +kernel
theorem dX7_orders_183 : decode cX7_orders 183 = .ok (.iload 6, 2) := by decide +kernel
theorem dX7_orders_185 : decode cX7_orders 185 = .ok (.invokestatic 153, 3) := by decide +kernel
theorem dX7_orders_188 : decode cX7_orders 188 = .ok (.ifCond .ne 22, 3) := by decide +kernel
theorem dX7_orders_191 : decode cX7_orders 191 = .ok (.aload_n 0, 1) := by decide +kernel
theorem dX7_orders_192 : decode cX7_orders 192 = .ok (.getfield 22, 3) := by decide +kernel
theorem dX7_orders_195 : decode cX7_orders 195 = .ok (.iload 6, 2) := by decide +kernel
theorem dX7_orders_197 : decode cX7_orders 197 = .ok (.iaload, 1) := by decide +kernel
theorem dX7_orders_198 : decode cX7_orders 198 = .ok (.iload_n 3, 1) := by decide +kernel
theorem dX7_orders_199 : decode cX7_orders 199 = .ok (.iconst (-1), 1) := by decide +kernel
theorem dX7_orders_200 : decode cX7_orders 200 = .ok (.ixor, 1) := by decide +kernel
theorem dX7_orders_201 : decode cX7_orders 201 = .ok (.iand, 1) := by decide +kernel
theorem dX7_orders_202 : decode cX7_orders 202 = .ok (.ifCond .ne 8, 3) := by decide +kernel
theorem dX7_orders_205 : decode cX7_orders 205 = .ok (.iload 6, 2) := by decide +kernel
theorem dX7_orders_207 : decode cX7_orders 207 = .ok (.goto 5, 3) := by decide +kernel
theorem dX7_orders_210 : decode cX7_orders 210 = .ok (.iload 4, 2) := by decide +kernel
theorem dX7_orders_212 : decode cX7_orders 212 = .ok (.istore 4, 2) := by decide +kernel
theorem dX7_orders_214 : decode cX7_orders 214 = .ok (.iinc 6 1, 3) := by decide +kernel
theorem dX7_orders_217 : decode cX7_orders 217 = .ok (.goto (-44), 3) := by decide +kernel
theorem dX7_orders_220 : decode cX7_orders 220 = .ok (.iload_n 3, 1) := by decide +kernel
theorem dX7_orders_221 : decode cX7_orders 221 = .ok (.iconst 1, 1) := by decide +kernel
theorem dX7_orders_222 : decode cX7_orders 222 = .ok (.iload 4, 2) := by decide +kernel
theorem dX7_orders_224 : decode cX7_orders 224 = .ok (.ishl, 1) := by decide +kernel
theorem dX7_orders_225 : decode cX7_orders 225 = .ok (.ior, 1) := by decide +kernel
theorem dX7_orders_226 : decode cX7_orders 226 = .ok (.istore_n 3, 1) := by decide +kernel
theorem dX7_orders_227 : decode cX7_orders 227 = .ok (.iinc 5 1, 3) := by decide +kernel
theorem dX7_orders_230 : decode cX7_orders 230 = .ok (.goto (-78), 3) := by decide +kernel
theorem dX7_orders_233 : decode cX7_orders 233 = .ok (.iload 4, 2) := by decide +kernel
theorem dX7_orders_235 : decode cX7_orders 235 = .ok (.ireturn, 1) := by decide +kernel
theorem dX7_years_0 : decode cX7_years 0 = .ok (.iload_n 1, 1) := by decide +kernel
theorem dX7_years_1 : decode cX7_years 1 = .ok (.i2l, 1) := by decide +kernel
theorem dX7_years_2 : decode cX7_years 2 = .ok (.lconst 1, 1) := by decide +kernel
theorem dX7_years_3 : decode cX7_years 3 = .ok (.ldc2_w 266, 3) := by decide +kernel
theorem dX7_years_6 : decode cX7_years 6 = .ok (.invokestatic 81, 3) := by decide +kernel
theorem dX7_years_9 : decode cX7_years 9 = .ok (.ifCond .eq 13, 3) := by decide +kernel
theorem dX7_years_12 : decode cX7_years 12 = .ok (.iload_n 2, 1) := by decide +kernel
theorem dX7_years_13 : decode cX7_years 13 = .ok (.i2l, 1) := by decide +kernel
theorem dX7_years_14 : decode cX7_years 14 = .ok (.lconst 0, 1) := by decide +kernel
theorem dX7_years_15 : decode cX7_years 15 = .ok (.lconst 1, 1) := by decide +kernel
theorem dX7_years_16 : decode cX7_years 16 = .ok (.invokestatic 81, 3) := by decide +kernel
theorem dX7_years_19 : decode cX7_years 19 = .ok (.ifCond .ne 5, 3) := by decide +kernel
theorem dX7_years_22 : decode cX7_years 22 = .ok (.iconst (-1), 1) := by decide +kernel
theorem dX7_years_23 : decode cX7_years 23 = .ok (.ireturn, 1) := by decide +kernel
theorem dX7_years_24 : decode cX7_years 24 = .ok (.iconst 0, 1) := by decide +kernel
theorem dX7_years_25 : decode cX7_years 25 = .ok (.istore_n 3, 1) := by decide +kernel
theorem dX7_years_26 : decode cX7_years 26 = .ok (.iconst 0, 1) := by decide +kernel
theorem dX7_years_27 : decode cX7_years 27 = .ok (.istore 4, 2) := by decide +kernel
theorem dX7_years_29 : decode cX7_years 29 = .ok (.iload 4, 2) := by decide +kernel
theorem dX7_years_31 : decode cX7_years 31 = .ok (.bipush 100, 2) := by decide +kernel
theorem dX7_years_33 : decode cX7_years 33 = .ok (.if_icmp .ge 110, 3) := by decide +kernel
theorem dX7_years_36 : decode cX7_years 36 = .ok (.iconst 0, 1) := by decide +kernel
theorem dX7_years_37 : decode cX7_years 37 = .ok (.istore 5, 2) := by decide +kernel
theorem dX7_years_39 : decode cX7_years 39 = .ok (.iload 5, 2) := by decide +kernel
theorem dX7_years_41 : decode cX7_years 41 = .ok (.bipush 120, 2) := by decide +kernel
theorem dX7_years_43 : decode cX7_years 43 = .ok (.if_icmp .ge 94, 3) := by decide +kernel
theorem dX7_years_46 : decode cX7_years 46 = .ok (.iload 5, 2) := by decide +kernel
theorem dX7_years_48 : decode cX7_years 48 = .ok (.bipush 12, 2) := by decide +kernel
theorem dX7_years_50 : decode cX7_years 50 = .ok (.idiv, 1) := by decide +kernel
theorem dX7_years_51 : decode cX7_years 51 = .ok (.istore 6, 2) := by decide +kernel
theorem dX7_years_53 : decode cX7_years 53 = .ok (.iload 5, 2) := by decide +kernel
theorem dX7_years_55 : decode cX7_years 55 = .ok (.bipush 12, 2) := by decide +kernel
theorem dX7_years_57 : decode cX7_years 57 = .ok (.irem, 1) := by decide +kernel
theorem dX7_years_58 : decode cX7_years 58 = .ok (.istore 7, 2) := by decide +kernel
theorem dX7_years_60 : decode cX7_years 60 = .ok (.iload 6, 2) := by decide +kernel
theorem dX7_years_62 : decode cX7_years 62 = .ok (.aload_n 0, 1) := by decide +kernel
theorem dX7_years_63 : decode cX7_years 63 = .ok (.getfield 78, 3) := by decide +kernel
theorem dX7_years_66 : decode cX7_years 66 = .ok (.if_icmp .ge 65, 3) := by decide +kernel
theorem dX7_years_69 : decode cX7_years 69 = .ok (.iload 7, 2) := by decide +kernel
theorem dX7_years_71 : decode cX7_years 71 = .ok (.aload_n 0, 1) := by decide +kernel
theorem dX7_years_72 : decode cX7_years 72 = .ok (.getfield 85, 3) := by decide +kernel
theorem dX7_years_75 : decode cX7_years 75 = .ok (.if_icmp .ge 56, 3) := by decide +kernel
theorem dX7_years_78 : decode cX7_years 78 = .ok (.aload_n 0, 1) := by decide +kernel
theorem dX7_years_79 : decode cX7_years 79 = .ok (.getfield 19, 3) := by decide +kernel
theorem dX7_years_82 : decode cX7_years 82 = .ok (.iload 7, 2) := by decide +kernel
theorem dX7_years_84 : decode cX7_years 84 = .ok (.iaload, 1) := by decide +kernel
theorem dX7_years_85 : decode cX7_years 85 = .ok (.iload 4, 2) := by decide +kernel
theorem dX7_years_87 : decode cX7_years 87 = .ok (.if_icmp .ne 44, 3) := by decide +kernel
theorem dX7_years_90 : decode cX7_years 90 = .ok (.aload_n 0, 1) := by decide +kernel
theorem dX7_years_91 : decode cX7_years 91 = .ok (.iload 6, 2) := by decide +kernel
theorem dX7_years_93 : decode cX7_years 93 = .ok (.invokevirtual 163, 3) := by decide +kernel
theorem dX7_years_96 : decode cX7_years 96 = .ok (.iload 7, 2) := by decide +kernel
theorem dX7_years_98 : decode cX7_years 98 = .ok (.invokestatic 153, 3) := by decide +kernel
theorem dX7_years_101 : decode cX7_years 101 = .ok (.ifCond .eq 30, 3) := by decide +kernel
theorem dX7_years_104 : decode cX7_years 104 = .ok (.iload_n 2, 1) := by decide +kernel
theorem dX7_years_105 : decode cX7_years 105 = .ok (.iconst 1, 1) := by decide +kernel
theorem dX7_years_106 : decode cX7_years 106 = .ok (.if_icmp .ne 22, 3) := by decide +kernel
theorem dX7_years_109 : decode cX7_years 109 = .ok (.aload_n 0, 1) := by decide +kernel
theorem dX7_years_110 : decode cX7_years 110 = .ok (.getfield 133, 3) := by decide +kernel
theorem dX7_years_113 : decode cX7_years 113 = .ok (.iload_n 3, 1) := by decide +kernel
theorem dX7_years_114 : decode cX7_years 114 = .ok (.iload_n 1, 1) := by decide +kernel
theorem dX7_years_115 : decode cX7_years 115 = .ok (.idiv, 1) := by decide +kernel
theorem dX7_years_116 : decode cX7_years 116 = .ok (.iadd, 1) := by decide +kernel
theorem dX7_years_117 : decode cX7_years 117 = .ok (.iload 4, 2) := by decide +kernel
theorem dX7_years_119 : decode cX7_years 119 = .ok (.isub, 1) := by decide +kernel
theorem dX7_years_120 : decode cX7_years 120 = .ok (.bipush 9, 2) := by decide +kernel
theorem dX7_years_122 : decode cX7_years 122 = .ok (.if_icmp .lt 6, 3) := by decide +kernel
theorem dX7_years_125 : decode cX7_years 125 = .ok (.iload 6, 2) := by decide +kernel
theorem dX7_years_127 : decode cX7_years 127 = .ok (.ireturn, 1) := by decide +kernel
theorem dX7_years_128 : decode cX7_years 128 = .ok (.iinc 3 1, 3) := by decide +kernel
theorem dX7_years_131 : decode cX7_years 131 = .ok (.iinc 5 1, 3) := by decide +kernel
theorem dX7_years_134 : decode cX7_years 134 = .ok (.goto (-95), 3) := by decide +kernel
theorem dX7_years_137 : decode cX7_years 137 = .ok (.iinc 4 1, 3) := by decide +kernel
theorem dX7_years_140 : decode cX7_years 140 = .ok (.goto (-111), 3) := by decide +kernel
theorem dX7_years_143 : decode cX7_years 143 = .ok (.iload_n 2, 1) := by decide +kernel
theorem dX7_years_144 : decode cX7_years 144 = .ok (.iconst 1, 1) := by decide +kernel
theorem dX7_years_145 : decode cX7_years 145 = .ok (.if_icmp .ne 8, 3) := by decide +kernel
theorem dX7_years_148 : decode cX7_years 148 = .ok (.bipush (-4), 2) := by decide +kernel
theorem dX7_years_150 : decode cX7_years 150 = .ok (.goto 10, 3) := by decide +kernel
theorem dX7_years_153 : decode cX7_years 153 = .ok (.iload_n 3, 1) := by decide +kernel
theorem dX7_years_154 : decode cX7_years 154 = .ok (.iload_n 1, 1) := by decide +kernel
theorem dX7_years_155 : decode cX7_years 155 = .ok (.iadd, 1) := by decide +kernel
theorem dX7_years_156 : decode cX7_years 156 = .ok (.iconst 1, 1) := by decide +kernel
theorem dX7_years_157 : decode cX7_years 157 = .ok (.isub, 1) := by decide +kernel
theorem dX7_years_158 : decode cX7_years 158 = .ok (.iload_n 1, 1) := by decide +kernel
theorem dX7_years_159 : decode cX7_years 159 = .ok (.idiv, 1) := by decide +kernel
theorem dX7_years_160 : decode cX7_years 160 = .ok (.ireturn, 1) := by decide +kernel
theorem dX7_weightOf_0 : decode cX7_weightOf 0 = .ok (.iconst 0, 1) := by decide +kernel
theorem dX7_weightOf_1 : decode cX7_weightOf 1 = .ok (.istore 4, 2) := by decide +kernel
theorem dX7_weightOf_3 : decode cX7_weightOf 3 = .ok (.iconst 0, 1) := by decide +kernel
theorem dX7_weightOf_4 : decode cX7_weightOf 4 = .ok (.istore 5, 2) := by decide +kernel
theorem dX7_weightOf_6 : decode cX7_weightOf 6 = .ok (.iload 5, 2) := by decide +kernel
theorem dX7_weightOf_8 : decode cX7_weightOf 8 = .ok (.iconst 5, 1) := by decide +kernel
theorem dX7_weightOf_9 : decode cX7_weightOf 9 = .ok (.if_icmp .ge 40, 3) := by decide +kernel
theorem dX7_weightOf_12 : decode cX7_weightOf 12 = .ok (.iload 4, 2) := by decide +kernel
theorem dX7_weightOf_14 : decode cX7_weightOf 14 = .ok (.iload_n 3, 1) := by decide +kernel
theorem dX7_weightOf_15 : decode cX7_weightOf 15 = .ok (.aload_n 0, 1) := by decide +kernel
theorem dX7_weightOf_16 : decode cX7_weightOf 16 = .ok (.iload_n 1, 1) := by decide +kernel
theorem dX7_weightOf_17 : decode cX7_weightOf 17 = .ok (.iload_n 2, 1) := by decide +kernel
theorem dX7_weightOf_18 : decode cX7_weightOf 18 = .ok (.iload 5, 2) := by decide +kernel
theorem dX7_weightOf_20 : decode cX7_weightOf 20 = .ok (.invokevirtual 247, 3) := by decide +kernel
theorem dX7_weightOf_23 : decode cX7_weightOf 23 = .ok (.iconst (-1), 1) := by decide +kernel
theorem dX7_weightOf_24 : decode cX7_weightOf 24 = .ok (.ixor, 1) := by decide +kernel
theorem dX7_weightOf_25 : decode cX7_weightOf 25 = .ok (.iand, 1) := by decide +kernel
theorem dX7_weightOf_26 : decode cX7_weightOf 26 = .ok (.ifCond .ne 13, 3) := by decide +kernel
theorem dX7_weightOf_29 : decode cX7_weightOf 29 = .ok (.aload_n 0, 1) := by decide +kernel
theorem dX7_weightOf_30 : decode cX7_weightOf 30 = .ok (.getfield 31, 3) := by decide +kernel
theorem dX7_weightOf_33 : decode cX7_weightOf 33 = .ok (.iload 5, 2) := by decide +kernel
theorem dX7_weightOf_35 : decode cX7_weightOf 35 = .ok (.iaload, 1) := by decide +kernel
theorem dX7_weightOf_36 : decode cX7_weightOf 36 = .ok (.goto 4, 3) := by decide +kernel
theorem dX7_weightOf_39 : decode cX7_weightOf 39 = .ok (.iconst 0, 1) := by decide +kernel
theorem dX7_weightOf_40 : decode cX7_weightOf 40 = .ok (.iadd, 1) := by decide +kernel
theorem dX7_weightOf_41 : decode cX7_weightOf 41 = .ok (.istore 4, 2) := by decide +kernel
theorem dX7_weightOf_43 : decode cX7_weightOf 43 = .ok (.iinc 5 1, 3) := by decide +kernel
theorem dX7_weightOf_46 : decode cX7_weightOf 46 = .ok (.goto (-40), 3) := by decide +kernel
theorem dX7_weightOf_49 : decode cX7_weightOf 49 = .ok (.iload 4, 2) := by decide +kernel
theorem dX7_weightOf_51 : decode cX7_weightOf 51 = .ok (.ireturn, 1) := by decide +kernel
theorem dX7_allWeights_0 : decode cX7_allWeights 0 = .ok (.iconst 0, 1) := by decide +kernel
theorem dX7_allWeights_1 : decode cX7_allWeights 1 = .ok (.istore_n 1, 1) := by decide +kernel
theorem dX7_allWeights_2 : decode cX7_allWeights 2 = .ok (.iconst 0, 1) := by decide +kernel
theorem dX7_allWeights_3 : decode cX7_allWeights 3 = .ok (.istore_n 2, 1) := by decide +kernel
theorem dX7_allWeights_4 : decode cX7_allWeights 4 = .ok (.iload_n 2, 1) := by decide +kernel
theorem dX7_allWeights_5 : decode cX7_allWeights 5 = .ok (.iconst 5, 1) := by decide +kernel
theorem dX7_allWeights_6 : decode cX7_allWeights 6 = .ok (.if_icmp .ge 18, 3) := by decide +kernel
theorem dX7_allWeights_9 : decode cX7_allWeights 9 = .ok (.iload_n 1, 1) := by decide +kernel
theorem dX7_allWeights_10 : decode cX7_allWeights 10 = .ok (.aload_n 0, 1) := by decide +kernel
theorem dX7_allWeights_11 : decode cX7_allWeights 11 = .ok (.getfield 31, 3) := by decide +kernel
theorem dX7_allWeights_14 : decode cX7_allWeights 14 = .ok (.iload_n 2, 1) := by decide +kernel
theorem dX7_allWeights_15 : decode cX7_allWeights 15 = .ok (.iaload, 1) := by decide +kernel
theorem dX7_allWeights_16 : decode cX7_allWeights 16 = .ok (.iadd, 1) := by decide +kernel
theorem dX7_allWeights_17 : decode cX7_allWeights 17 = .ok (.istore_n 1, 1) := by decide +kernel
theorem dX7_allWeights_18 : decode cX7_allWeights 18 = .ok (.iinc 2 1, 3) := by decide +kernel
theorem dX7_allWeights_21 : decode cX7_allWeights 21 = .ok (.goto (-17), 3) := by decide +kernel
theorem dX7_allWeights_24 : decode cX7_allWeights 24 = .ok (.iload_n 1, 1) := by decide +kernel
theorem dX7_allWeights_25 : decode cX7_allWeights 25 = .ok (.ireturn, 1) := by decide +kernel
theorem dX7_common_0 : decode cX7_common 0 = .ok (.iload_n 0, 1) := by decide +kernel
theorem dX7_common_1 : decode cX7_common 1 = .ok (.istore_n 2, 1) := by decide +kernel
theorem dX7_common_2 : decode cX7_common 2 = .ok (.iload_n 1, 1) := by decide +kernel
theorem dX7_common_3 : decode cX7_common 3 = .ok (.istore_n 3, 1) := by decide +kernel
theorem dX7_common_4 : decode cX7_common 4 = .ok (.iload_n 3, 1) := by decide +kernel
theorem dX7_common_5 : decode cX7_common 5 = .ok (.ifCond .eq 16, 3) := by decide +kernel
theorem dX7_common_8 : decode cX7_common 8 = .ok (.iload_n 2, 1) := by decide +kernel
theorem dX7_common_9 : decode cX7_common 9 = .ok (.iload_n 3, 1) := by decide +kernel
theorem dX7_common_10 : decode cX7_common 10 = .ok (.irem, 1) := by decide +kernel
theorem dX7_common_11 : decode cX7_common 11 = .ok (.istore 4, 2) := by decide +kernel
theorem dX7_common_13 : decode cX7_common 13 = .ok (.iload_n 3, 1) := by decide +kernel
theorem dX7_common_14 : decode cX7_common 14 = .ok (.istore_n 2, 1) := by decide +kernel
theorem dX7_common_15 : decode cX7_common 15 = .ok (.iload 4, 2) := by decide +kernel
theorem dX7_common_17 : decode cX7_common 17 = .ok (.istore_n 3, 1) := by decide +kernel
theorem dX7_common_18 : decode cX7_common 18 = .ok (.goto (-14), 3) := by decide +kernel
theorem dX7_common_21 : decode cX7_common 21 = .ok (.iload_n 2, 1) := by decide +kernel
theorem dX7_common_22 : decode cX7_common 22 = .ok (.ireturn, 1) := by decide +kernel
theorem dX7_chance_0 : decode cX7_chance 0 = .ok (.aload_n 0, 1) := by decide +kernel
theorem dX7_chance_1 : decode cX7_chance 1 = .ok (.iload_n 1, 1) := by decide +kernel
theorem dX7_chance_2 : decode cX7_chance 2 = .ok (.i2l, 1) := by decide +kernel
theorem dX7_chance_3 : decode cX7_chance 3 = .ok (.invokevirtual 213, 3) := by decide +kernel
theorem dX7_chance_6 : decode cX7_chance 6 = .ok (.ifCond .eq 30, 3) := by decide +kernel
theorem dX7_chance_9 : decode cX7_chance 9 = .ok (.iload_n 2, 1) := by decide +kernel
theorem dX7_chance_10 : decode cX7_chance 10 = .ok (.i2l, 1) := by decide +kernel
theorem dX7_chance_11 : decode cX7_chance 11 = .ok (.invokestatic 95, 3) := by decide +kernel
theorem dX7_chance_14 : decode cX7_chance 14 = .ok (.ifCond .eq 22, 3) := by decide +kernel
theorem dX7_chance_17 : decode cX7_chance 17 = .ok (.aload_n 0, 1) := by decide +kernel
theorem dX7_chance_18 : decode cX7_chance 18 = .ok (.iload_n 3, 1) := by decide +kernel
theorem dX7_chance_19 : decode cX7_chance 19 = .ok (.invokevirtual 287, 3) := by decide +kernel
theorem dX7_chance_22 : decode cX7_chance 22 = .ok (.ifCond .eq 14, 3) := by decide +kernel
theorem dX7_chance_25 : decode cX7_chance 25 = .ok (.iload 4, 2) := by decide +kernel
theorem dX7_chance_27 : decode cX7_chance 27 = .ok (.i2l, 1) := by decide +kernel
theorem dX7_chance_28 : decode cX7_chance 28 = .ok (.lconst 0, 1) := by decide +kernel
theorem dX7_chance_29 : decode cX7_chance 29 = .ok (.lconst 1, 1) := by decide +kernel
theorem dX7_chance_30 : decode cX7_chance 30 = .ok (.invokestatic 81, 3) := by decide +kernel
theorem dX7_chance_33 : decode cX7_chance 33 = .ok (.ifCond .ne 5, 3) := by decide +kernel
theorem dX7_chance_36 : decode cX7_chance 36 = .ok (.iconst (-1), 1) := by decide +kernel
theorem dX7_chance_37 : decode cX7_chance 37 = .ok (.ireturn, 1) := by decide +kernel
theorem dX7_chance_38 : decode cX7_chance 38 = .ok (.aload_n 0, 1) := by decide +kernel
theorem dX7_chance_39 : decode cX7_chance 39 = .ok (.invokevirtual 290, 3) := by decide +kernel
theorem dX7_chance_42 : decode cX7_chance 42 = .ok (.istore 5, 2) := by decide +kernel
theorem dX7_chance_44 : decode cX7_chance 44 = .ok (.iload 5, 2) := by decide +kernel
theorem dX7_chance_46 : decode cX7_chance 46 = .ok (.ifCond .ne 6, 3) := by decide +kernel
theorem dX7_chance_49 : decode cX7_chance 49 = .ok (.bipush (-2), 2) := by decide +kernel
theorem dX7_chance_51 : decode cX7_chance 51 = .ok (.ireturn, 1) := by decide +kernel
theorem dX7_chance_52 : decode cX7_chance 52 = .ok (.aload_n 0, 1) := by decide +kernel
theorem dX7_chance_53 : decode cX7_chance 53 = .ok (.iload_n 1, 1) := by decide +kernel
theorem dX7_chance_54 : decode cX7_chance 54 = .ok (.iload_n 2, 1) := by decide +kernel
theorem dX7_chance_55 : decode cX7_chance 55 = .ok (.iload_n 3, 1) := by decide +kernel
theorem dX7_chance_56 : decode cX7_chance 56 = .ok (.invokevirtual 293, 3) := by decide +kernel
theorem dX7_chance_59 : decode cX7_chance 59 = .ok (.istore 6, 2) := by decide +kernel
theorem dX7_chance_61 : decode cX7_chance 61 = .ok (.iload 6, 2) := by decide +kernel
theorem dX7_chance_63 : decode cX7_chance 63 = .ok (.iload 5, 2) := by decide +kernel
theorem dX7_chance_65 : decode cX7_chance 65 = .ok (.invokestatic 296, 3) := by decide +kernel
theorem dX7_chance_68 : decode cX7_chance 68 = .ok (.istore 7, 2) := by decide +kernel
theorem dX7_chance_70 : decode cX7_chance 70 = .ok (.iload 4, 2) := by decide +kernel
theorem dX7_chance_72 : decode cX7_chance 72 = .ok (.ifCond .ne 11, 3) := by decide +kernel
theorem dX7_chance_75 : decode cX7_chance 75 = .ok (.iload 6, 2) := by decide +kernel
theorem dX7_chance_77 : decode cX7_chance 77 = .ok (.iload 7, 2) := by decide +kernel
theorem dX7_chance_79 : decode cX7_chance 79 = .ok (.idiv, 1) := by decide +kernel
theorem dX7_chance_80 : decode cX7_chance 80 = .ok (.goto 8, 3) := by decide +kernel
theorem dX7_chance_83 : decode cX7_chance 83 = .ok (.iload 5, 2) := by decide +kernel
theorem dX7_chance_85 : decode cX7_chance 85 = .ok (.iload 7, 2) := by decide +kernel
theorem dX7_chance_87 : decode cX7_chance 87 = .ok (.idiv, 1) := by decide +kernel
theorem dX7_chance_88 : decode cX7_chance 88 = .ok (.ireturn, 1) := by decide +kernel
theorem dX7_likeliest_0 : decode cX7_likeliest 0 = .ok (.aload_n 0, 1) := by decide +kernel
theorem dX7_likeliest_1 : decode cX7_likeliest 1 = .ok (.iload_n 1, 1) := by decide +kernel
theorem dX7_likeliest_2 : decode cX7_likeliest 2 = .ok (.i2l, 1) := by decide +kernel
theorem dX7_likeliest_3 : decode cX7_likeliest 3 = .ok (.invokevirtual 213, 3) := by decide +kernel
theorem dX7_likeliest_6 : decode cX7_likeliest 6 = .ok (.ifCond .eq 11, 3) := by decide +kernel
theorem dX7_likeliest_9 : decode cX7_likeliest 9 = .ok (.aload_n 0, 1) := by decide +kernel
theorem dX7_likeliest_10 : decode cX7_likeliest 10 = .ok (.iload_n 2, 1) := by decide +kernel
theorem dX7_likeliest_11 : decode cX7_likeliest 11 = .ok (.invokevirtual 287, 3) := by decide +kernel
theorem dX7_likeliest_14 : decode cX7_likeliest 14 = .ok (.ifCond .ne 5, 3) := by decide +kernel
theorem dX7_likeliest_17 : decode cX7_likeliest 17 = .ok (.iconst (-1), 1) := by decide +kernel
theorem dX7_likeliest_18 : decode cX7_likeliest 18 = .ok (.ireturn, 1) := by decide +kernel
theorem dX7_likeliest_19 : decode cX7_likeliest 19 = .ok (.aload_n 0, 1) := by decide +kernel
theorem dX7_likeliest_20 : decode cX7_likeliest 20 = .ok (.invokevirtual 290, 3) := by decide +kernel
theorem dX7_likeliest_23 : decode cX7_likeliest 23 = .ok (.ifCond .ne 6, 3) := by decide +kernel
theorem dX7_likeliest_26 : decode cX7_likeliest 26 = .ok (.bipush (-2), 2) := by decide +kernel
theorem dX7_likeliest_28 : decode cX7_likeliest 28 = .ok (.ireturn, 1) := by decide +kernel
theorem dX7_likeliest_29 : decode cX7_likeliest 29 = .ok (.iconst 0, 1) := by decide +kernel
theorem dX7_likeliest_30 : decode cX7_likeliest 30 = .ok (.istore_n 3, 1) := by decide +kernel
theorem dX7_likeliest_31 : decode cX7_likeliest 31 = .ok (.iconst 1, 1) := by decide +kernel
theorem dX7_likeliest_32 : decode cX7_likeliest 32 = .ok (.istore 4, 2) := by decide +kernel
theorem dX7_likeliest_34 : decode cX7_likeliest 34 = .ok (.iload 4, 2) := by decide +kernel
theorem dX7_likeliest_36 : decode cX7_likeliest 36 = .ok (.bipush 36, 2) := by decide +kernel
theorem dX7_likeliest_38 : decode cX7_likeliest 38 = .ok (.if_icmp .ge 34, 3) := by decide +kernel
theorem dX7_likeliest_41 : decode cX7_likeliest 41 = .ok (.aload_n 0, 1) := by decide +kernel
theorem dX7_likeliest_42 : decode cX7_likeliest 42 = .ok (.iload_n 1, 1) := by decide +kernel
theorem dX7_likeliest_43 : decode cX7_likeliest 43 = .ok (.iload 4, 2) := by decide +kernel
theorem dX7_likeliest_45 : decode cX7_likeliest 45 = .ok (.iload_n 2, 1) := by decide +kernel
theorem dX7_likeliest_46 : decode cX7_likeliest 46 = .ok (.invokevirtual 293, 3) := by decide +kernel
theorem dX7_likeliest_49 : decode cX7_likeliest 49 = .ok (.aload_n 0, 1) := by decide +kernel
theorem dX7_likeliest_50 : decode cX7_likeliest 50 = .ok (.iload_n 1, 1) := by decide +kernel
theorem dX7_likeliest_51 : decode cX7_likeliest 51 = .ok (.iload_n 3, 1) := by decide +kernel
theorem dX7_likeliest_52 : decode cX7_likeliest 52 = .ok (.iload_n 2, 1) := by decide +kernel
theorem dX7_likeliest_53 : decode cX7_likeliest 53 = .ok (.invokevirtual 293, 3) := by decide +kernel
theorem dX7_likeliest_56 : decode cX7_likeliest 56 = .ok (.if_icmp .le 8, 3) := by decide +kernel
theorem dX7_likeliest_59 : decode cX7_likeliest 59 = .ok (.iload 4, 2) := by decide +kernel
theorem dX7_likeliest_61 : decode cX7_likeliest 61 = .ok (.goto 4, 3) := by decide +kernel
theorem dX7_likeliest_64 : decode cX7_likeliest 64 = .ok (.iload_n 3, 1) := by decide +kernel
theorem dX7_likeliest_65 : decode cX7_likeliest 65 = .ok (.istore_n 3, 1) := by decide +kernel
theorem dX7_likeliest_66 : decode cX7_likeliest 66 = .ok (.iinc 4 1, 3) := by decide +kernel
theorem dX7_likeliest_69 : decode cX7_likeliest 69 = .ok (.goto (-35), 3) := by decide +kernel
theorem dX7_likeliest_72 : decode cX7_likeliest 72 = .ok (.iload_n 3, 1) := by decide +kernel
theorem dX7_likeliest_73 : decode cX7_likeliest 73 = .ok (.ireturn, 1) := by decide +kernel
theorem dX7_more_0 : decode cX7_more 0 = .ok (.aload_n 0, 1) := by decide +kernel
theorem dX7_more_1 : decode cX7_more 1 = .ok (.iload_n 1, 1) := by decide +kernel
theorem dX7_more_2 : decode cX7_more 2 = .ok (.invokevirtual 166, 3) := by decide +kernel
theorem dX7_more_5 : decode cX7_more 5 = .ok (.ifCond .eq 33, 3) := by decide +kernel
theorem dX7_more_8 : decode cX7_more 8 = .ok (.aload_n 0, 1) := by decide +kernel
theorem dX7_more_9 : decode cX7_more 9 = .ok (.iload_n 2, 1) := by decide +kernel
theorem dX7_more_10 : decode cX7_more 10 = .ok (.invokevirtual 166, 3) := by decide +kernel
theorem dX7_more_13 : decode cX7_more 13 = .ok (.ifCond .eq 25, 3) := by decide +kernel
theorem dX7_more_16 : decode cX7_more 16 = .ok (.aload_n 0, 1) := by decide +kernel
theorem dX7_more_17 : decode cX7_more 17 = .ok (.getfield 38, 3) := by decide +kernel
theorem dX7_more_20 : decode cX7_more 20 = .ok (.iconst 0, 1) := by decide +kernel
theorem dX7_more_21 : decode cX7_more 21 = .ok (.iload_n 1, 1) := by decide +kernel
theorem dX7_more_22 : decode cX7_more 22 = .ok (.iadd, 1) := by decide +kernel
theorem dX7_more_23 : decode cX7_more 23 = .ok (.iaload, 1) := by decide +kernel
theorem dX7_more_24 : decode cX7_more 24 = .ok (.aload_n 0, 1) := by decide +kernel
theorem dX7_more_25 : decode cX7_more 25 = .ok (.getfield 38, 3) := by decide +kernel
theorem dX7_more_28 : decode cX7_more 28 = .ok (.iconst 0, 1) := by decide +kernel
theorem dX7_more_29 : decode cX7_more 29 = .ok (.iload_n 2, 1) := by decide +kernel
theorem dX7_more_30 : decode cX7_more 30 = .ok (.iadd, 1) := by decide +kernel
theorem dX7_more_31 : decode cX7_more 31 = .ok (.iaload, 1) := by decide +kernel
theorem dX7_more_32 : decode cX7_more 32 = .ok (.iconst (-1), 1) := by decide +kernel
theorem dX7_more_33 : decode cX7_more 33 = .ok (.ixor, 1) := by decide +kernel
theorem dX7_more_34 : decode cX7_more 34 = .ok (.iand, 1) := by decide +kernel
theorem dX7_more_35 : decode cX7_more 35 = .ok (.goto 4, 3) := by decide +kernel
theorem dX7_more_38 : decode cX7_more 38 = .ok (.iconst (-1), 1) := by decide +kernel
theorem dX7_more_39 : decode cX7_more 39 = .ok (.ireturn, 1) := by decide +kernel
theorem dX7_sooner_0 : decode cX7_sooner 0 = .ok (.aload_n 0, 1) := by decide +kernel
theorem dX7_sooner_1 : decode cX7_sooner 1 = .ok (.iload_n 1, 1) := by decide +kernel
theorem dX7_sooner_2 : decode cX7_sooner 2 = .ok (.invokevirtual 166, 3) := by decide +kernel
theorem dX7_sooner_5 : decode cX7_sooner 5 = .ok (.ifCond .eq 13, 3) := by decide +kernel
theorem dX7_sooner_8 : decode cX7_sooner 8 = .ok (.iload_n 2, 1) := by decide +kernel
theorem dX7_sooner_9 : decode cX7_sooner 9 = .ok (.i2l, 1) := by decide +kernel
theorem dX7_sooner_10 : decode cX7_sooner 10 = .ok (.lconst 0, 1) := by decide +kernel
theorem dX7_sooner_11 : decode cX7_sooner 11 = .ok (.lconst 1, 1) := by decide +kernel
theorem dX7_sooner_12 : decode cX7_sooner 12 = .ok (.invokestatic 81, 3) := by decide +kernel
theorem dX7_sooner_15 : decode cX7_sooner 15 = .ok (.ifCond .ne 5, 3) := by decide +kernel
theorem dX7_sooner_18 : decode cX7_sooner 18 = .ok (.iconst (-1), 1) := by decide +kernel
theorem dX7_sooner_19 : decode cX7_sooner 19 = .ok (.ireturn, 1) := by decide +kernel
theorem dX7_sooner_20 : decode cX7_sooner 20 = .ok (.iconst 0, 1) := by decide +kernel
theorem dX7_sooner_21 : decode cX7_sooner 21 = .ok (.istore_n 3, 1) := by decide +kernel
theorem dX7_sooner_22 : decode cX7_sooner 22 = .ok (.bipush (-4), 2) := by decide +kernel
theorem dX7_sooner_24 : decode cX7_sooner 24 = .ok (.istore 4, 2) := by decide +kernel
theorem dX7_sooner_26 : decode cX7_sooner 26 = .ok (.iconst 0, 1) := by decide +kernel
theorem dX7_sooner_27 : decode cX7_sooner 27 = .ok (.istore 5, 2) := by decide +kernel
theorem dX7_sooner_29 : decode cX7_sooner 29 = .ok (.iload 5, 2) := by decide +kernel
theorem dX7_sooner_31 : decode cX7_sooner 31 = .ok (.sipush 144, 3) := by decide +kernel
theorem dX7_sooner_34 : decode cX7_sooner 34 = .ok (.if_icmp .ge 165, 3) := by decide +kernel
theorem dX7_sooner_37 : decode cX7_sooner 37 = .ok (.iload 5, 2) := by decide +kernel
theorem dX7_sooner_39 : decode cX7_sooner 39 = .ok (.bipush 12, 2) := by decide +kernel
theorem dX7_sooner_41 : decode cX7_sooner 41 = .ok (.idiv, 1) := by decide +kernel
theorem dX7_sooner_42 : decode cX7_sooner 42 = .ok (.istore 6, 2) := by decide +kernel
theorem dX7_sooner_44 : decode cX7_sooner 44 = .ok (.iload 5, 2) := by decide +kernel
theorem dX7_sooner_46 : decode cX7_sooner 46 = .ok (.bipush 12, 2) := by decide +kernel
theorem dX7_sooner_48 : decode cX7_sooner 48 = .ok (.irem, 1) := by decide +kernel
theorem dX7_sooner_49 : decode cX7_sooner 49 = .ok (.istore 7, 2) := by decide +kernel
theorem dX7_sooner_51 : decode cX7_sooner 51 = .ok (.iload 6, 2) := by decide +kernel
theorem dX7_sooner_53 : decode cX7_sooner 53 = .ok (.aload_n 0, 1) := by decide +kernel
theorem dX7_sooner_54 : decode cX7_sooner 54 = .ok (.getfield 85, 3) := by decide +kernel
theorem dX7_sooner_57 : decode cX7_sooner 57 = .ok (.if_icmp .ge 136, 3) := by decide +kernel
theorem dX7_sooner_60 : decode cX7_sooner 60 = .ok (.iload 7, 2) := by decide +kernel
theorem dX7_sooner_62 : decode cX7_sooner 62 = .ok (.aload_n 0, 1) := by decide +kernel
theorem dX7_sooner_63 : decode cX7_sooner 63 = .ok (.getfield 85, 3) := by decide +kernel
theorem dX7_sooner_66 : decode cX7_sooner 66 = .ok (.if_icmp .ge 127, 3) := by decide +kernel
theorem dX7_sooner_69 : decode cX7_sooner 69 = .ok (.aload_n 0, 1) := by decide +kernel
theorem dX7_sooner_70 : decode cX7_sooner 70 = .ok (.getfield 22, 3) := by decide +kernel
theorem dX7_sooner_73 : decode cX7_sooner 73 = .ok (.iload 7, 2) := by decide +kernel
theorem dX7_sooner_75 : decode cX7_sooner 75 = .ok (.iaload, 1) := by decide +kernel
theorem dX7_sooner_76 : decode cX7_sooner 76 = .ok (.iload 6, 2) := by decide +kernel
theorem dX7_sooner_78 : decode cX7_sooner 78 = .ok (.invokestatic 153, 3) := by decide +kernel
theorem dX7_sooner_81 : decode cX7_sooner 81 = .ok (.ifCond .eq 112, 3) := by decide +kernel
theorem dX7_sooner_84 : decode cX7_sooner 84 = .ok (.aload_n 0, 1) := by decide +kernel
theorem dX7_sooner_85 : decode cX7_sooner 85 = .ok (.getfield 38, 3) := by decide +kernel
theorem dX7_sooner_88 : decode cX7_sooner 88 = .ok (.iconst 0, 1) := by decide +kernel
theorem dX7_sooner_89 : decode cX7_sooner 89 = .ok (.iload_n 1, 1) := by decide +kernel
theorem dX7_sooner_90 : decode cX7_sooner 90 = .ok (.iadd, 1) := by decide +kernel
theorem dX7_sooner_91 : decode cX7_sooner 91 = .ok (.iaload, 1) := by decide +kernel
theorem dX7_sooner_92 : decode cX7_sooner 92 = .ok (.iload 6, 2) := by decide +kernel
theorem dX7_sooner_94 : decode cX7_sooner 94 = .ok (.invokestatic 153, 3) := by decide +kernel
theorem dX7_sooner_97 : decode cX7_sooner 97 = .ok (.ifCond .eq 96, 3) := by decide +kernel
theorem dX7_sooner_100 : decode cX7_sooner 100 = .ok (.aload_n 0, 1) := by decide +kernel
theorem dX7_sooner_101 : decode cX7_sooner 101 = .ok (.getfield 38, 3) := by decide +kernel
theorem dX7_sooner_104 : decode cX7_sooner 104 = .ok (.iconst 0, 1) := by decide +kernel
theorem dX7_sooner_105 : decode cX7_sooner 105 = .ok (.iload_n 1, 1) := by decide +kernel
theorem dX7_sooner_106 : decode cX7_sooner 106 = .ok (.iadd, 1) := by decide +kernel
theorem dX7_sooner_107 : decode cX7_sooner 107 = .ok (.iaload, 1) := by decide +kernel
theorem dX7_sooner_108 : decode cX7_sooner 108 = .ok (.iload 7, 2) := by decide +kernel
theorem dX7_sooner_110 : decode cX7_sooner 110 = .ok (.invokestatic 153, 3) := by decide +kernel
theorem dX7_sooner_113 : decode cX7_sooner 113 = .ok (.ifCond .eq 80, 3) := by decide +kernel
theorem dX7_sooner_116 : decode cX7_sooner 116 = .ok (.aload_n 0, 1) := by decide +kernel
theorem dX7_sooner_117 : decode cX7_sooner 117 = .ok (.getfield 38, 3) := by decide +kernel
theorem dX7_sooner_120 : decode cX7_sooner 120 = .ok (.bipush 20, 2) := by decide +kernel
theorem dX7_sooner_122 : decode cX7_sooner 122 = .ok (.bipush 12, 2) := by decide +kernel
theorem dX7_sooner_124 : decode cX7_sooner 124 = .ok (.iload_n 1, 1) := by decide +kernel
theorem dX7_sooner_125 : decode cX7_sooner 125 = .ok (.imul, 1) := by decide +kernel
theorem dX7_sooner_126 : decode cX7_sooner 126 = .ok (.iadd, 1) := by decide +kernel
theorem dX7_sooner_127 : decode cX7_sooner 127 = .ok (.iload 7, 2) := by decide +kernel
theorem dX7_sooner_129 : decode cX7_sooner 129 = .ok (.iadd, 1) := by decide +kernel
theorem dX7_sooner_130 : decode cX7_sooner 130 = .ok (.iaload, 1) := by decide +kernel
theorem dX7_sooner_131 : decode cX7_sooner 131 = .ok (.aload_n 0, 1) := by decide +kernel
theorem dX7_sooner_132 : decode cX7_sooner 132 = .ok (.getfield 38, 3) := by decide +kernel
theorem dX7_sooner_135 : decode cX7_sooner 135 = .ok (.bipush 20, 2) := by decide +kernel
theorem dX7_sooner_137 : decode cX7_sooner 137 = .ok (.bipush 12, 2) := by decide +kernel
theorem dX7_sooner_139 : decode cX7_sooner 139 = .ok (.iload_n 1, 1) := by decide +kernel
theorem dX7_sooner_140 : decode cX7_sooner 140 = .ok (.imul, 1) := by decide +kernel
theorem dX7_sooner_141 : decode cX7_sooner 141 = .ok (.iadd, 1) := by decide +kernel
theorem dX7_sooner_142 : decode cX7_sooner 142 = .ok (.iload 6, 2) := by decide +kernel
theorem dX7_sooner_144 : decode cX7_sooner 144 = .ok (.iadd, 1) := by decide +kernel
theorem dX7_sooner_145 : decode cX7_sooner 145 = .ok (.iaload, 1) := by decide +kernel
theorem dX7_sooner_146 : decode cX7_sooner 146 = .ok (.if_icmp .ge 7, 3) := by decide +kernel
theorem dX7_sooner_149 : decode cX7_sooner 149 = .ok (.iconst 1, 1) := by decide +kernel
theorem dX7_sooner_150 : decode cX7_sooner 150 = .ok (.goto 4, 3) := by decide +kernel
theorem dX7_sooner_153 : decode cX7_sooner 153 = .ok (.iconst 0, 1) := by decide +kernel
theorem dX7_sooner_154 : decode cX7_sooner 154 = .ok (.istore 8, 2) := by decide +kernel
theorem dX7_sooner_156 : decode cX7_sooner 156 = .ok (.iload 8, 2) := by decide +kernel
theorem dX7_sooner_158 : decode cX7_sooner 158 = .ok (.ifCond .eq 18, 3) := by decide +kernel
theorem dX7_sooner_161 : decode cX7_sooner 161 = .ok (.iload_n 3, 1) := by decide +kernel
theorem dX7_sooner_162 : decode cX7_sooner 162 = .ok (.ifCond .ne 14, 3) := by decide +kernel
theorem dX7_sooner_165 : decode cX7_sooner 165 = .ok (.bipush 100, 2) := by decide +kernel
theorem dX7_sooner_167 : decode cX7_sooner 167 = .ok (.iload 6, 2) := by decide +kernel
theorem dX7_sooner_169 : decode cX7_sooner 169 = .ok (.imul, 1) := by decide +kernel
theorem dX7_sooner_170 : decode cX7_sooner 170 = .ok (.iload 7, 2) := by decide +kernel
theorem dX7_sooner_172 : decode cX7_sooner 172 = .ok (.iadd, 1) := by decide +kernel
theorem dX7_sooner_173 : decode cX7_sooner 173 = .ok (.goto 5, 3) := by decide +kernel
theorem dX7_sooner_176 : decode cX7_sooner 176 = .ok (.iload 4, 2) := by decide +kernel
theorem dX7_sooner_178 : decode cX7_sooner 178 = .ok (.istore 4, 2) := by decide +kernel
theorem dX7_sooner_180 : decode cX7_sooner 180 = .ok (.iload_n 3, 1) := by decide +kernel
theorem dX7_sooner_181 : decode cX7_sooner 181 = .ok (.iload 8, 2) := by decide +kernel
theorem dX7_sooner_183 : decode cX7_sooner 183 = .ok (.ifCond .eq 7, 3) := by decide +kernel
theorem dX7_sooner_186 : decode cX7_sooner 186 = .ok (.iconst 1, 1) := by decide +kernel
theorem dX7_sooner_187 : decode cX7_sooner 187 = .ok (.goto 4, 3) := by decide +kernel
theorem dX7_sooner_190 : decode cX7_sooner 190 = .ok (.iconst 0, 1) := by decide +kernel
theorem dX7_sooner_191 : decode cX7_sooner 191 = .ok (.iadd, 1) := by decide +kernel
theorem dX7_sooner_192 : decode cX7_sooner 192 = .ok (.istore_n 3, 1) := by decide +kernel
theorem dX7_sooner_193 : decode cX7_sooner 193 = .ok (.iinc 5 1, 3) := by decide +kernel
theorem dX7_sooner_196 : decode cX7_sooner 196 = .ok (.goto (-167), 3) := by decide +kernel
theorem dX7_sooner_199 : decode cX7_sooner 199 = .ok (.iload_n 2, 1) := by decide +kernel
theorem dX7_sooner_200 : decode cX7_sooner 200 = .ok (.ifCond .ne 7, 3) := by decide +kernel
theorem dX7_sooner_203 : decode cX7_sooner 203 = .ok (.iload_n 3, 1) := by decide +kernel
theorem dX7_sooner_204 : decode cX7_sooner 204 = .ok (.goto 5, 3) := by decide +kernel
theorem dX7_sooner_207 : decode cX7_sooner 207 = .ok (.iload 4, 2) := by decide +kernel
theorem dX7_sooner_209 : decode cX7_sooner 209 = .ok (.ireturn, 1) := by decide +kernel
theorem dX7_hidden_0 : decode cX7_hidden 0 = .ok (.aload_n 0, 1) := by decide +kernel
theorem dX7_hidden_1 : decode cX7_hidden 1 = .ok (.iload_n 1, 1) := by decide +kernel
theorem dX7_hidden_2 : decode cX7_hidden 2 = .ok (.i2l, 1) := by decide +kernel
theorem dX7_hidden_3 : decode cX7_hidden 3 = .ok (.invokevirtual 213, 3) := by decide +kernel
theorem dX7_hidden_6 : decode cX7_hidden 6 = .ok (.ifCond .eq 11, 3) := by decide +kernel
theorem dX7_hidden_9 : decode cX7_hidden 9 = .ok (.aload_n 0, 1) := by decide +kernel
theorem dX7_hidden_10 : decode cX7_hidden 10 = .ok (.iload_n 2, 1) := by decide +kernel
theorem dX7_hidden_11 : decode cX7_hidden 11 = .ok (.invokevirtual 287, 3) := by decide +kernel
theorem dX7_hidden_14 : decode cX7_hidden 14 = .ok (.ifCond .ne 7, 3) := by decide +kernel
theorem dX7_hidden_17 : decode cX7_hidden 17 = .ok (.ldc2_w 278, 3) := by decide +kernel
theorem dX7_hidden_20 : decode cX7_hidden 20 = .ok (.lreturn, 1) := by decide +kernel
theorem dX7_hidden_21 : decode cX7_hidden 21 = .ok (.lconst 0, 1) := by decide +kernel
theorem dX7_hidden_22 : decode cX7_hidden 22 = .ok (.lstore_n 3, 1) := by decide +kernel
theorem dX7_hidden_23 : decode cX7_hidden 23 = .ok (.iconst 0, 1) := by decide +kernel
theorem dX7_hidden_24 : decode cX7_hidden 24 = .ok (.istore 5, 2) := by decide +kernel
theorem dX7_hidden_26 : decode cX7_hidden 26 = .ok (.iload 5, 2) := by decide +kernel
theorem dX7_hidden_28 : decode cX7_hidden 28 = .ok (.bipush 36, 2) := by decide +kernel
theorem dX7_hidden_30 : decode cX7_hidden 30 = .ok (.if_icmp .ge 36, 3) := by decide +kernel
theorem dX7_hidden_33 : decode cX7_hidden 33 = .ok (.lload_n 3, 1) := by decide +kernel
theorem dX7_hidden_34 : decode cX7_hidden 34 = .ok (.aload_n 0, 1) := by decide +kernel
theorem dX7_hidden_35 : decode cX7_hidden 35 = .ok (.iload_n 1, 1) := by decide +kernel
theorem dX7_hidden_36 : decode cX7_hidden 36 = .ok (.iload 5, 2) := by decide +kernel
theorem dX7_hidden_38 : decode cX7_hidden 38 = .ok (.aload_n 0, 1) := by decide +kernel
theorem dX7_hidden_39 : decode cX7_hidden 39 = .ok (.getfield 130, 3) := by decide +kernel
theorem dX7_hidden_42 : decode cX7_hidden 42 = .ok (.invokevirtual 247, 3) := by decide +kernel
theorem dX7_hidden_45 : decode cX7_hidden 45 = .ok (.iload_n 2, 1) := by decide +kernel
theorem dX7_hidden_46 : decode cX7_hidden 46 = .ok (.iand, 1) := by decide +kernel
theorem dX7_hidden_47 : decode cX7_hidden 47 = .ok (.ifCond .ne 10, 3) := by decide +kernel
theorem dX7_hidden_50 : decode cX7_hidden 50 = .ok (.lconst 1, 1) := by decide +kernel
theorem dX7_hidden_51 : decode cX7_hidden 51 = .ok (.iload 5, 2) := by decide +kernel
theorem dX7_hidden_53 : decode cX7_hidden 53 = .ok (.lshl, 1) := by decide +kernel
theorem dX7_hidden_54 : decode cX7_hidden 54 = .ok (.goto 4, 3) := by decide +kernel
theorem dX7_hidden_57 : decode cX7_hidden 57 = .ok (.lconst 0, 1) := by decide +kernel
theorem dX7_hidden_58 : decode cX7_hidden 58 = .ok (.lor, 1) := by decide +kernel
theorem dX7_hidden_59 : decode cX7_hidden 59 = .ok (.lstore_n 3, 1) := by decide +kernel
theorem dX7_hidden_60 : decode cX7_hidden 60 = .ok (.iinc 5 1, 3) := by decide +kernel
theorem dX7_hidden_63 : decode cX7_hidden 63 = .ok (.goto (-37), 3) := by decide +kernel
theorem dX7_hidden_66 : decode cX7_hidden 66 = .ok (.lload_n 3, 1) := by decide +kernel
theorem dX7_hidden_67 : decode cX7_hidden 67 = .ok (.lreturn, 1) := by decide +kernel
theorem dX7_alone_0 : decode cX7_alone 0 = .ok (.aload_n 0, 1) := by decide +kernel
theorem dX7_alone_1 : decode cX7_alone 1 = .ok (.iload_n 1, 1) := by decide +kernel
theorem dX7_alone_2 : decode cX7_alone 2 = .ok (.i2l, 1) := by decide +kernel
theorem dX7_alone_3 : decode cX7_alone 3 = .ok (.invokevirtual 213, 3) := by decide +kernel
theorem dX7_alone_6 : decode cX7_alone 6 = .ok (.ifCond .eq 11, 3) := by decide +kernel
theorem dX7_alone_9 : decode cX7_alone 9 = .ok (.aload_n 0, 1) := by decide +kernel
theorem dX7_alone_10 : decode cX7_alone 10 = .ok (.iload_n 2, 1) := by decide +kernel
theorem dX7_alone_11 : decode cX7_alone 11 = .ok (.invokevirtual 166, 3) := by decide +kernel
theorem dX7_alone_14 : decode cX7_alone 14 = .ok (.ifCond .ne 5, 3) := by decide +kernel
theorem dX7_alone_17 : decode cX7_alone 17 = .ok (.iconst (-1), 1) := by decide +kernel
theorem dX7_alone_18 : decode cX7_alone 18 = .ok (.ireturn, 1) := by decide +kernel
theorem dX7_alone_19 : decode cX7_alone 19 = .ok (.iconst 0, 1) := by decide +kernel
theorem dX7_alone_20 : decode cX7_alone 20 = .ok (.istore_n 3, 1) := by decide +kernel
theorem dX7_alone_21 : decode cX7_alone 21 = .ok (.iload_n 3, 1) := by decide +kernel
theorem dX7_alone_22 : decode cX7_alone 22 = .ok (.bipush 36, 2) := by decide +kernel
theorem dX7_alone_24 : decode cX7_alone 24 = .ok (.if_icmp .ge 27, 3) := by decide +kernel
theorem dX7_alone_27 : decode cX7_alone 27 = .ok (.aload_n 0, 1) := by decide +kernel
theorem dX7_alone_28 : decode cX7_alone 28 = .ok (.iload_n 1, 1) := by decide +kernel
theorem dX7_alone_29 : decode cX7_alone 29 = .ok (.iload_n 3, 1) := by decide +kernel
theorem dX7_alone_30 : decode cX7_alone 30 = .ok (.aload_n 0, 1) := by decide +kernel
theorem dX7_alone_31 : decode cX7_alone 31 = .ok (.getfield 130, 3) := by decide +kernel
theorem dX7_alone_34 : decode cX7_alone 34 = .ok (.invokevirtual 247, 3) := by decide +kernel
theorem dX7_alone_37 : decode cX7_alone 37 = .ok (.iconst 1, 1) := by decide +kernel
theorem dX7_alone_38 : decode cX7_alone 38 = .ok (.iload_n 2, 1) := by decide +kernel
theorem dX7_alone_39 : decode cX7_alone 39 = .ok (.ishl, 1) := by decide +kernel
theorem dX7_alone_40 : decode cX7_alone 40 = .ok (.if_icmp .ne 5, 3) := by decide +kernel
theorem dX7_alone_43 : decode cX7_alone 43 = .ok (.iload_n 3, 1) := by decide +kernel
theorem dX7_alone_44 : decode cX7_alone 44 = .ok (.ireturn, 1) := by decide +kernel
theorem dX7_alone_45 : decode cX7_alone 45 = .ok (.iinc 3 1, 3) := by decide +kernel
theorem dX7_alone_48 : decode cX7_alone 48 = .ok (.goto (-27), 3) := by decide +kernel
theorem dX7_alone_51 : decode cX7_alone 51 = .ok (.bipush (-4), 2) := by decide +kernel
theorem dX7_alone_53 : decode cX7_alone 53 = .ok (.ireturn, 1) := by decide +kernel
theorem dX7_carried_0 : decode cX7_carried 0 = .ok (.iload_n 1, 1) := by decide +kernel
theorem dX7_carried_1 : decode cX7_carried 1 = .ok (.bipush 30, 2) := by decide +kernel
theorem dX7_carried_3 : decode cX7_carried 3 = .ok (.if_icmp .ge 141, 3) := by decide +kernel
theorem dX7_carried_6 : decode cX7_carried 6 = .ok (.iload_n 1, 1) := by decide +kernel
theorem dX7_carried_7 : decode cX7_carried 7 = .ok (.bipush 10, 2) := by decide +kernel
theorem dX7_carried_9 : decode cX7_carried 9 = .ok (.irem, 1) := by decide +kernel
theorem dX7_carried_10 : decode cX7_carried 10 = .ok (.istore 4, 2) := by decide +kernel
theorem dX7_carried_12 : decode cX7_carried 12 = .ok (.aload_n 0, 1) := by decide +kernel
theorem dX7_carried_13 : decode cX7_carried 13 = .ok (.getfield 7, 3) := by decide +kernel
theorem dX7_carried_16 : decode cX7_carried 16 = .ok (.iload 4, 2) := by decide +kernel
theorem dX7_carried_18 : decode cX7_carried 18 = .ok (.iload_n 3, 1) := by decide +kernel
theorem dX7_carried_19 : decode cX7_carried 19 = .ok (.ifCond .eq 13, 3) := by decide +kernel
theorem dX7_carried_22 : decode cX7_carried 22 = .ok (.iload_n 1, 1) := by decide +kernel
theorem dX7_carried_23 : decode cX7_carried 23 = .ok (.bipush 10, 2) := by decide +kernel
theorem dX7_carried_25 : decode cX7_carried 25 = .ok (.if_icmp .ge 7, 3) := by decide +kernel
theorem dX7_carried_28 : decode cX7_carried 28 = .ok (.iload_n 2, 1) := by decide +kernel
theorem dX7_carried_29 : decode cX7_carried 29 = .ok (.goto 10, 3) := by decide +kernel
theorem dX7_carried_32 : decode cX7_carried 32 = .ok (.aload_n 0, 1) := by decide +kernel
theorem dX7_carried_33 : decode cX7_carried 33 = .ok (.getfield 7, 3) := by decide +kernel
theorem dX7_carried_36 : decode cX7_carried 36 = .ok (.iload 4, 2) := by decide +kernel
theorem dX7_carried_38 : decode cX7_carried 38 = .ok (.iaload, 1) := by decide +kernel
theorem dX7_carried_39 : decode cX7_carried 39 = .ok (.iastore, 1) := by decide +kernel
theorem dX7_carried_40 : decode cX7_carried 40 = .ok (.aload_n 0, 1) := by decide +kernel
theorem dX7_carried_41 : decode cX7_carried 41 = .ok (.getfield 13, 3) := by decide +kernel
theorem dX7_carried_44 : decode cX7_carried 44 = .ok (.iload 4, 2) := by decide +kernel
theorem dX7_carried_46 : decode cX7_carried 46 = .ok (.iload_n 3, 1) := by decide +kernel
theorem dX7_carried_47 : decode cX7_carried 47 = .ok (.ifCond .eq 21, 3) := by decide +kernel
theorem dX7_carried_50 : decode cX7_carried 50 = .ok (.iload_n 1, 1) := by decide +kernel
theorem dX7_carried_51 : decode cX7_carried 51 = .ok (.i2l, 1) := by decide +kernel
theorem dX7_carried_52 : decode cX7_carried 52 = .ok (.ldc2_w 299, 3) := by decide +kernel
theorem dX7_carried_55 : decode cX7_carried 55 = .ok (.ldc2_w 301, 3) := by decide +kernel
theorem dX7_carried_58 : decode cX7_carried 58 = .ok (.invokestatic 81, 3) := by decide +kernel
theorem dX7_carried_61 : decode cX7_carried 61 = .ok (.ifCond .eq 7, 3) := by decide +kernel
theorem dX7_carried_64 : decode cX7_carried 64 = .ok (.iload_n 2, 1) := by decide +kernel
theorem dX7_carried_65 : decode cX7_carried 65 = .ok (.goto 10, 3) := by decide +kernel
theorem dX7_carried_68 : decode cX7_carried 68 = .ok (.aload_n 0, 1) := by decide +kernel
theorem dX7_carried_69 : decode cX7_carried 69 = .ok (.getfield 13, 3) := by decide +kernel
theorem dX7_carried_72 : decode cX7_carried 72 = .ok (.iload 4, 2) := by decide +kernel
theorem dX7_carried_74 : decode cX7_carried 74 = .ok (.iaload, 1) := by decide +kernel
theorem dX7_carried_75 : decode cX7_carried 75 = .ok (.iastore, 1) := by decide +kernel
theorem dX7_carried_76 : decode cX7_carried 76 = .ok (.aload_n 0, 1) := by decide +kernel
theorem dX7_carried_77 : decode cX7_carried 77 = .ok (.getfield 16, 3) := by decide +kernel
theorem dX7_carried_80 : decode cX7_carried 80 = .ok (.iload 4, 2) := by decide +kernel
theorem dX7_carried_82 : decode cX7_carried 82 = .ok (.iload_n 3, 1) := by decide +kernel
theorem dX7_carried_83 : decode cX7_carried 83 = .ok (.ifCond .eq 13, 3) := by decide +kernel
theorem dX7_carried_86 : decode cX7_carried 86 = .ok (.iload_n 1, 1) := by decide +kernel
theorem dX7_carried_87 : decode cX7_carried 87 = .ok (.bipush 20, 2) := by decide +kernel
theorem dX7_carried_89 : decode cX7_carried 89 = .ok (.if_icmp .lt 7, 3) := by decide +kernel
theorem dX7_carried_92 : decode cX7_carried 92 = .ok (.iload_n 2, 1) := by decide +kernel
theorem dX7_carried_93 : decode cX7_carried 93 = .ok (.goto 10, 3) := by decide +kernel
theorem dX7_carried_96 : decode cX7_carried 96 = .ok (.aload_n 0, 1) := by decide +kernel
theorem dX7_carried_97 : decode cX7_carried 97 = .ok (.getfield 16, 3) := by decide +kernel
theorem dX7_carried_100 : decode cX7_carried 100 = .ok (.iload 4, 2) := by decide +kernel
theorem dX7_carried_102 : decode cX7_carried 102 = .ok (.iaload, 1) := by decide +kernel
theorem dX7_carried_103 : decode cX7_carried 103 = .ok (.iastore, 1) := by decide +kernel
theorem dX7_carried_104 : decode cX7_carried 104 = .ok (.iload_n 1, 1) := by decide +kernel
theorem dX7_carried_105 : decode cX7_carried 105 = .ok (.bipush 10, 2) := by decide +kernel
theorem dX7_carried_107 : decode cX7_carried 107 = .ok (.if_icmp .ge 13, 3) := by decide +kernel
theorem dX7_carried_110 : decode cX7_carried 110 = .ok (.aload_n 0, 1) := by decide +kernel
theorem dX7_carried_111 : decode cX7_carried 111 = .ok (.getfield 7, 3) := by decide +kernel
theorem dX7_carried_114 : decode cX7_carried 114 = .ok (.iload 4, 2) := by decide +kernel
theorem dX7_carried_116 : decode cX7_carried 116 = .ok (.iaload, 1) := by decide +kernel
theorem dX7_carried_117 : decode cX7_carried 117 = .ok (.goto 26, 3) := by decide +kernel
theorem dX7_carried_120 : decode cX7_carried 120 = .ok (.iload_n 1, 1) := by decide +kernel
theorem dX7_carried_121 : decode cX7_carried 121 = .ok (.bipush 20, 2) := by decide +kernel
theorem dX7_carried_123 : decode cX7_carried 123 = .ok (.if_icmp .ge 13, 3) := by decide +kernel
theorem dX7_carried_126 : decode cX7_carried 126 = .ok (.aload_n 0, 1) := by decide +kernel
theorem dX7_carried_127 : decode cX7_carried 127 = .ok (.getfield 13, 3) := by decide +kernel
theorem dX7_carried_130 : decode cX7_carried 130 = .ok (.iload 4, 2) := by decide +kernel
theorem dX7_carried_132 : decode cX7_carried 132 = .ok (.iaload, 1) := by decide +kernel
theorem dX7_carried_133 : decode cX7_carried 133 = .ok (.goto 10, 3) := by decide +kernel
theorem dX7_carried_136 : decode cX7_carried 136 = .ok (.aload_n 0, 1) := by decide +kernel
theorem dX7_carried_137 : decode cX7_carried 137 = .ok (.getfield 16, 3) := by decide +kernel
theorem dX7_carried_140 : decode cX7_carried 140 = .ok (.iload 4, 2) := by decide +kernel
theorem dX7_carried_142 : decode cX7_carried 142 = .ok (.iaload, 1) := by decide +kernel
theorem dX7_carried_143 : decode cX7_carried 143 = .ok (.ireturn, 1) := by decide +kernel
theorem dX7_carried_144 : decode cX7_carried 144 = .ok (.iload_n 1, 1) := by decide +kernel
theorem dX7_carried_145 : decode cX7_carried 145 = .ok (.bipush 66, 2) := by decide +kernel
theorem dX7_carried_147 : decode cX7_carried 147 = .ok (.if_icmp .ge 143, 3) := by decide +kernel
theorem dX7_carried_150 : decode cX7_carried 150 = .ok (.iload_n 1, 1) := by decide +kernel
theorem dX7_carried_151 : decode cX7_carried 151 = .ok (.bipush 30, 2) := by decide +kernel
theorem dX7_carried_153 : decode cX7_carried 153 = .ok (.isub, 1) := by decide +kernel
theorem dX7_carried_154 : decode cX7_carried 154 = .ok (.bipush 12, 2) := by decide +kernel
theorem dX7_carried_156 : decode cX7_carried 156 = .ok (.irem, 1) := by decide +kernel
theorem dX7_carried_157 : decode cX7_carried 157 = .ok (.istore 4, 2) := by decide +kernel
theorem dX7_carried_159 : decode cX7_carried 159 = .ok (.iload_n 1, 1) := by decide +kernel
theorem dX7_carried_160 : decode cX7_carried 160 = .ok (.bipush 30, 2) := by decide +kernel
theorem dX7_carried_162 : decode cX7_carried 162 = .ok (.isub, 1) := by decide +kernel
theorem dX7_carried_163 : decode cX7_carried 163 = .ok (.bipush 12, 2) := by decide +kernel
theorem dX7_carried_165 : decode cX7_carried 165 = .ok (.idiv, 1) := by decide +kernel
theorem dX7_carried_166 : decode cX7_carried 166 = .ok (.istore 5, 2) := by decide +kernel
theorem dX7_carried_168 : decode cX7_carried 168 = .ok (.aload_n 0, 1) := by decide +kernel
theorem dX7_carried_169 : decode cX7_carried 169 = .ok (.getfield 19, 3) := by decide +kernel
theorem dX7_carried_172 : decode cX7_carried 172 = .ok (.iload 4, 2) := by decide +kernel
theorem dX7_carried_174 : decode cX7_carried 174 = .ok (.iload_n 3, 1) := by decide +kernel
theorem dX7_carried_175 : decode cX7_carried 175 = .ok (.ifCond .eq 12, 3) := by decide +kernel
theorem dX7_carried_178 : decode cX7_carried 178 = .ok (.iload 5, 2) := by decide +kernel
theorem dX7_carried_180 : decode cX7_carried 180 = .ok (.ifCond .ne 7, 3) := by decide +kernel
theorem dX7_carried_183 : decode cX7_carried 183 = .ok (.iload_n 2, 1) := by decide +kernel
theorem dX7_carried_184 : decode cX7_carried 184 = .ok (.goto 10, 3) := by decide +kernel
theorem dX7_carried_187 : decode cX7_carried 187 = .ok (.aload_n 0, 1) := by decide +kernel
theorem dX7_carried_188 : decode cX7_carried 188 = .ok (.getfield 19, 3) := by decide +kernel
theorem dX7_carried_191 : decode cX7_carried 191 = .ok (.iload 4, 2) := by decide +kernel
theorem dX7_carried_193 : decode cX7_carried 193 = .ok (.iaload, 1) := by decide +kernel
theorem dX7_carried_194 : decode cX7_carried 194 = .ok (.iastore, 1) := by decide +kernel
theorem dX7_carried_195 : decode cX7_carried 195 = .ok (.aload_n 0, 1) := by decide +kernel
theorem dX7_carried_196 : decode cX7_carried 196 = .ok (.getfield 22, 3) := by decide +kernel
theorem dX7_carried_199 : decode cX7_carried 199 = .ok (.iload 4, 2) := by decide +kernel
theorem dX7_carried_201 : decode cX7_carried 201 = .ok (.iload_n 3, 1) := by decide +kernel
theorem dX7_carried_202 : decode cX7_carried 202 = .ok (.ifCond .eq 13, 3) := by decide +kernel
theorem dX7_carried_205 : decode cX7_carried 205 = .ok (.iload 5, 2) := by decide +kernel
theorem dX7_carried_207 : decode cX7_carried 207 = .ok (.iconst 1, 1) := by decide +kernel
theorem dX7_carried_208 : decode cX7_carried 208 = .ok (.if_icmp .ne 7, 3) := by decide +kernel
theorem dX7_carried_211 : decode cX7_carried 211 = .ok (.iload_n 2, 1) := by decide +kernel
theorem dX7_carried_212 : decode cX7_carried 212 = .ok (.goto 10, 3) := by decide +kernel
theorem dX7_carried_215 : decode cX7_carried 215 = .ok (.aload_n 0, 1) := by decide +kernel
theorem dX7_carried_216 : decode cX7_carried 216 = .ok (.getfield 22, 3) := by decide +kernel
theorem dX7_carried_219 : decode cX7_carried 219 = .ok (.iload 4, 2) := by decide +kernel
theorem dX7_carried_221 : decode cX7_carried 221 = .ok (.iaload, 1) := by decide +kernel
theorem dX7_carried_222 : decode cX7_carried 222 = .ok (.iastore, 1) := by decide +kernel
theorem dX7_carried_223 : decode cX7_carried 223 = .ok (.aload_n 0, 1) := by decide +kernel
theorem dX7_carried_224 : decode cX7_carried 224 = .ok (.getfield 25, 3) := by decide +kernel
theorem dX7_carried_227 : decode cX7_carried 227 = .ok (.iload 4, 2) := by decide +kernel
theorem dX7_carried_229 : decode cX7_carried 229 = .ok (.iload_n 3, 1) := by decide +kernel
theorem dX7_carried_230 : decode cX7_carried 230 = .ok (.ifCond .eq 13, 3) := by decide +kernel
theorem dX7_carried_233 : decode cX7_carried 233 = .ok (.iload 5, 2) := by decide +kernel
theorem dX7_carried_235 : decode cX7_carried 235 = .ok (.iconst 2, 1) := by decide +kernel
theorem dX7_carried_236 : decode cX7_carried 236 = .ok (.if_icmp .ne 7, 3) := by decide +kernel
theorem dX7_carried_239 : decode cX7_carried 239 = .ok (.iload_n 2, 1) := by decide +kernel
theorem dX7_carried_240 : decode cX7_carried 240 = .ok (.goto 10, 3) := by decide +kernel
theorem dX7_carried_243 : decode cX7_carried 243 = .ok (.aload_n 0, 1) := by decide +kernel
theorem dX7_carried_244 : decode cX7_carried 244 = .ok (.getfield 25, 3) := by decide +kernel
theorem dX7_carried_247 : decode cX7_carried 247 = .ok (.iload 4, 2) := by decide +kernel
theorem dX7_carried_249 : decode cX7_carried 249 = .ok (.iaload, 1) := by decide +kernel
theorem dX7_carried_250 : decode cX7_carried 250 = .ok (.iastore, 1) := by decide +kernel
theorem dX7_carried_251 : decode cX7_carried 251 = .ok (.iload 5, 2) := by decide +kernel
theorem dX7_carried_253 : decode cX7_carried 253 = .ok (.ifCond .ne 13, 3) := by decide +kernel
theorem dX7_carried_256 : decode cX7_carried 256 = .ok (.aload_n 0, 1) := by decide +kernel
theorem dX7_carried_257 : decode cX7_carried 257 = .ok (.getfield 19, 3) := by decide +kernel
theorem dX7_carried_260 : decode cX7_carried 260 = .ok (.iload 4, 2) := by decide +kernel
theorem dX7_carried_262 : decode cX7_carried 262 = .ok (.iaload, 1) := by decide +kernel
theorem dX7_carried_263 : decode cX7_carried 263 = .ok (.goto 26, 3) := by decide +kernel
theorem dX7_carried_266 : decode cX7_carried 266 = .ok (.iload 5, 2) := by decide +kernel
theorem dX7_carried_268 : decode cX7_carried 268 = .ok (.iconst 1, 1) := by decide +kernel
theorem dX7_carried_269 : decode cX7_carried 269 = .ok (.if_icmp .ne 13, 3) := by decide +kernel
theorem dX7_carried_272 : decode cX7_carried 272 = .ok (.aload_n 0, 1) := by decide +kernel
theorem dX7_carried_273 : decode cX7_carried 273 = .ok (.getfield 22, 3) := by decide +kernel
theorem dX7_carried_276 : decode cX7_carried 276 = .ok (.iload 4, 2) := by decide +kernel
theorem dX7_carried_278 : decode cX7_carried 278 = .ok (.iaload, 1) := by decide +kernel
theorem dX7_carried_279 : decode cX7_carried 279 = .ok (.goto 10, 3) := by decide +kernel
theorem dX7_carried_282 : decode cX7_carried 282 = .ok (.aload_n 0, 1) := by decide +kernel
theorem dX7_carried_283 : decode cX7_carried 283 = .ok (.getfield 25, 3) := by decide +kernel
theorem dX7_carried_286 : decode cX7_carried 286 = .ok (.iload 4, 2) := by decide +kernel
theorem dX7_carried_288 : decode cX7_carried 288 = .ok (.iaload, 1) := by decide +kernel
theorem dX7_carried_289 : decode cX7_carried 289 = .ok (.ireturn, 1) := by decide +kernel
theorem dX7_carried_290 : decode cX7_carried 290 = .ok (.iload_n 1, 1) := by decide +kernel
theorem dX7_carried_291 : decode cX7_carried 291 = .ok (.bipush 75, 2) := by decide +kernel
theorem dX7_carried_293 : decode cX7_carried 293 = .ok (.if_icmp .ge 81, 3) := by decide +kernel
theorem dX7_carried_296 : decode cX7_carried 296 = .ok (.iload_n 1, 1) := by decide +kernel
theorem dX7_carried_297 : decode cX7_carried 297 = .ok (.bipush 66, 2) := by decide +kernel
theorem dX7_carried_299 : decode cX7_carried 299 = .ok (.isub, 1) := by decide +kernel
theorem dX7_carried_300 : decode cX7_carried 300 = .ok (.istore 4, 2) := by decide +kernel
theorem dX7_carried_302 : decode cX7_carried 302 = .ok (.iload 4, 2) := by decide +kernel
theorem dX7_carried_304 : decode cX7_carried 304 = .ok (.iconst 4, 1) := by decide +kernel
theorem dX7_carried_305 : decode cX7_carried 305 = .ok (.if_icmp .ge 33, 3) := by decide +kernel
theorem dX7_carried_308 : decode cX7_carried 308 = .ok (.aload_n 0, 1) := by decide +kernel
theorem dX7_carried_309 : decode cX7_carried 309 = .ok (.getfield 28, 3) := by decide +kernel
theorem dX7_carried_312 : decode cX7_carried 312 = .ok (.iload 4, 2) := by decide +kernel
theorem dX7_carried_314 : decode cX7_carried 314 = .ok (.iload_n 3, 1) := by decide +kernel
theorem dX7_carried_315 : decode cX7_carried 315 = .ok (.ifCond .eq 7, 3) := by decide +kernel
theorem dX7_carried_318 : decode cX7_carried 318 = .ok (.iload_n 2, 1) := by decide +kernel
theorem dX7_carried_319 : decode cX7_carried 319 = .ok (.goto 10, 3) := by decide +kernel
theorem dX7_carried_322 : decode cX7_carried 322 = .ok (.aload_n 0, 1) := by decide +kernel
theorem dX7_carried_323 : decode cX7_carried 323 = .ok (.getfield 28, 3) := by decide +kernel
theorem dX7_carried_326 : decode cX7_carried 326 = .ok (.iload 4, 2) := by decide +kernel
theorem dX7_carried_328 : decode cX7_carried 328 = .ok (.iaload, 1) := by decide +kernel
theorem dX7_carried_329 : decode cX7_carried 329 = .ok (.iastore, 1) := by decide +kernel
theorem dX7_carried_330 : decode cX7_carried 330 = .ok (.aload_n 0, 1) := by decide +kernel
theorem dX7_carried_331 : decode cX7_carried 331 = .ok (.getfield 28, 3) := by decide +kernel
theorem dX7_carried_334 : decode cX7_carried 334 = .ok (.iload 4, 2) := by decide +kernel
theorem dX7_carried_336 : decode cX7_carried 336 = .ok (.iaload, 1) := by decide +kernel
theorem dX7_carried_337 : decode cX7_carried 337 = .ok (.ireturn, 1) := by decide +kernel
theorem dX7_carried_338 : decode cX7_carried 338 = .ok (.aload_n 0, 1) := by decide +kernel
theorem dX7_carried_339 : decode cX7_carried 339 = .ok (.getfield 31, 3) := by decide +kernel
theorem dX7_carried_342 : decode cX7_carried 342 = .ok (.iload 4, 2) := by decide +kernel
theorem dX7_carried_344 : decode cX7_carried 344 = .ok (.iconst 4, 1) := by decide +kernel
theorem dX7_carried_345 : decode cX7_carried 345 = .ok (.isub, 1) := by decide +kernel
theorem dX7_carried_346 : decode cX7_carried 346 = .ok (.iload_n 3, 1) := by decide +kernel
theorem dX7_carried_347 : decode cX7_carried 347 = .ok (.ifCond .eq 7, 3) := by decide +kernel
theorem dX7_carried_350 : decode cX7_carried 350 = .ok (.iload_n 2, 1) := by decide +kernel
theorem dX7_carried_351 : decode cX7_carried 351 = .ok (.goto 12, 3) := by decide +kernel
theorem dX7_carried_354 : decode cX7_carried 354 = .ok (.aload_n 0, 1) := by decide +kernel
theorem dX7_carried_355 : decode cX7_carried 355 = .ok (.getfield 31, 3) := by decide +kernel
theorem dX7_carried_358 : decode cX7_carried 358 = .ok (.iload 4, 2) := by decide +kernel
theorem dX7_carried_360 : decode cX7_carried 360 = .ok (.iconst 4, 1) := by decide +kernel
theorem dX7_carried_361 : decode cX7_carried 361 = .ok (.isub, 1) := by decide +kernel
theorem dX7_carried_362 : decode cX7_carried 362 = .ok (.iaload, 1) := by decide +kernel
theorem dX7_carried_363 : decode cX7_carried 363 = .ok (.iastore, 1) := by decide +kernel
theorem dX7_carried_364 : decode cX7_carried 364 = .ok (.aload_n 0, 1) := by decide +kernel
theorem dX7_carried_365 : decode cX7_carried 365 = .ok (.getfield 31, 3) := by decide +kernel
theorem dX7_carried_368 : decode cX7_carried 368 = .ok (.iload 4, 2) := by decide +kernel
theorem dX7_carried_370 : decode cX7_carried 370 = .ok (.iconst 4, 1) := by decide +kernel
theorem dX7_carried_371 : decode cX7_carried 371 = .ok (.isub, 1) := by decide +kernel
theorem dX7_carried_372 : decode cX7_carried 372 = .ok (.iaload, 1) := by decide +kernel
theorem dX7_carried_373 : decode cX7_carried 373 = .ok (.ireturn, 1) := by decide +kernel
theorem dX7_carried_374 : decode cX7_carried 374 = .ok (.iload_n 1, 1) := by decide +kernel
theorem dX7_carried_375 : decode cX7_carried 375 = .ok (.sipush 216, 3) := by decide +kernel
theorem dX7_carried_378 : decode cX7_carried 378 = .ok (.if_icmp .ge 39, 3) := by decide +kernel
theorem dX7_carried_381 : decode cX7_carried 381 = .ok (.aload_n 0, 1) := by decide +kernel
theorem dX7_carried_382 : decode cX7_carried 382 = .ok (.getfield 38, 3) := by decide +kernel
theorem dX7_carried_385 : decode cX7_carried 385 = .ok (.iload_n 1, 1) := by decide +kernel
theorem dX7_carried_386 : decode cX7_carried 386 = .ok (.bipush 75, 2) := by decide +kernel
theorem dX7_carried_388 : decode cX7_carried 388 = .ok (.isub, 1) := by decide +kernel
theorem dX7_carried_389 : decode cX7_carried 389 = .ok (.iload_n 3, 1) := by decide +kernel
theorem dX7_carried_390 : decode cX7_carried 390 = .ok (.ifCond .eq 7, 3) := by decide +kernel
theorem dX7_carried_393 : decode cX7_carried 393 = .ok (.iload_n 2, 1) := by decide +kernel
theorem dX7_carried_394 : decode cX7_carried 394 = .ok (.goto 12, 3) := by decide +kernel
theorem dX7_carried_397 : decode cX7_carried 397 = .ok (.aload_n 0, 1) := by decide +kernel
theorem dX7_carried_398 : decode cX7_carried 398 = .ok (.getfield 38, 3) := by decide +kernel
theorem dX7_carried_401 : decode cX7_carried 401 = .ok (.iload_n 1, 1) := by decide +kernel
theorem dX7_carried_402 : decode cX7_carried 402 = .ok (.bipush 75, 2) := by decide +kernel
theorem dX7_carried_404 : decode cX7_carried 404 = .ok (.isub, 1) := by decide +kernel
theorem dX7_carried_405 : decode cX7_carried 405 = .ok (.iaload, 1) := by decide +kernel
theorem dX7_carried_406 : decode cX7_carried 406 = .ok (.iastore, 1) := by decide +kernel
theorem dX7_carried_407 : decode cX7_carried 407 = .ok (.aload_n 0, 1) := by decide +kernel
theorem dX7_carried_408 : decode cX7_carried 408 = .ok (.getfield 38, 3) := by decide +kernel
theorem dX7_carried_411 : decode cX7_carried 411 = .ok (.iload_n 1, 1) := by decide +kernel
theorem dX7_carried_412 : decode cX7_carried 412 = .ok (.bipush 75, 2) := by decide +kernel
theorem dX7_carried_414 : decode cX7_carried 414 = .ok (.isub, 1) := by decide +kernel
theorem dX7_carried_415 : decode cX7_carried 415 = .ok (.iaload, 1) := by decide +kernel
theorem dX7_carried_416 : decode cX7_carried 416 = .ok (.ireturn, 1) := by decide +kernel
theorem dX7_carried_417 : decode cX7_carried 417 = .ok (.iload_n 1, 1) := by decide +kernel
theorem dX7_carried_418 : decode cX7_carried 418 = .ok (.sipush 1626, 3) := by decide +kernel
theorem dX7_carried_421 : decode cX7_carried 421 = .ok (.if_icmp .ge 42, 3) := by decide +kernel
theorem dX7_carried_424 : decode cX7_carried 424 = .ok (.aload_n 0, 1) := by decide +kernel
theorem dX7_carried_425 : decode cX7_carried 425 = .ok (.getfield 41, 3) := by decide +kernel
theorem dX7_carried_428 : decode cX7_carried 428 = .ok (.iload_n 1, 1) := by decide +kernel
theorem dX7_carried_429 : decode cX7_carried 429 = .ok (.sipush 216, 3) := by decide +kernel
theorem dX7_carried_432 : decode cX7_carried 432 = .ok (.isub, 1) := by decide +kernel
theorem dX7_carried_433 : decode cX7_carried 433 = .ok (.iload_n 3, 1) := by decide +kernel
theorem dX7_carried_434 : decode cX7_carried 434 = .ok (.ifCond .eq 7, 3) := by decide +kernel
theorem dX7_carried_437 : decode cX7_carried 437 = .ok (.iload_n 2, 1) := by decide +kernel
theorem dX7_carried_438 : decode cX7_carried 438 = .ok (.goto 13, 3) := by decide +kernel
theorem dX7_carried_441 : decode cX7_carried 441 = .ok (.aload_n 0, 1) := by decide +kernel
theorem dX7_carried_442 : decode cX7_carried 442 = .ok (.getfield 41, 3) := by decide +kernel
theorem dX7_carried_445 : decode cX7_carried 445 = .ok (.iload_n 1, 1) := by decide +kernel
theorem dX7_carried_446 : decode cX7_carried 446 = .ok (.sipush 216, 3) := by decide +kernel
theorem dX7_carried_449 : decode cX7_carried 449 = .ok (.isub, 1) := by decide +kernel
theorem dX7_carried_450 : decode cX7_carried 450 = .ok (.iaload, 1) := by decide +kernel
theorem dX7_carried_451 : decode cX7_carried 451 = .ok (.iastore, 1) := by decide +kernel
theorem dX7_carried_452 : decode cX7_carried 452 = .ok (.aload_n 0, 1) := by decide +kernel
theorem dX7_carried_453 : decode cX7_carried 453 = .ok (.getfield 41, 3) := by decide +kernel
theorem dX7_carried_456 : decode cX7_carried 456 = .ok (.iload_n 1, 1) := by decide +kernel
theorem dX7_carried_457 : decode cX7_carried 457 = .ok (.sipush 216, 3) := by decide +kernel
theorem dX7_carried_460 : decode cX7_carried 460 = .ok (.isub, 1) := by decide +kernel
theorem dX7_carried_461 : decode cX7_carried 461 = .ok (.iaload, 1) := by decide +kernel
theorem dX7_carried_462 : decode cX7_carried 462 = .ok (.ireturn, 1) := by decide +kernel
theorem dX7_carried_463 : decode cX7_carried 463 = .ok (.aload_n 0, 1) := by decide +kernel
theorem dX7_carried_464 : decode cX7_carried 464 = .ok (.iload_n 3, 1) := by decide +kernel
theorem dX7_carried_465 : decode cX7_carried 465 = .ok (.ifCond .eq 14, 3) := by decide +kernel
theorem dX7_carried_468 : decode cX7_carried 468 = .ok (.iload_n 1, 1) := by decide +kernel
theorem dX7_carried_469 : decode cX7_carried 469 = .ok (.sipush 1626, 3) := by decide +kernel
theorem dX7_carried_472 : decode cX7_carried 472 = .ok (.if_icmp .ne 7, 3) := by decide +kernel
theorem dX7_carried_475 : decode cX7_carried 475 = .ok (.iload_n 2, 1) := by decide +kernel
theorem dX7_carried_476 : decode cX7_carried 476 = .ok (.goto 7, 3) := by decide +kernel
theorem dX7_carried_479 : decode cX7_carried 479 = .ok (.aload_n 0, 1) := by decide +kernel
theorem dX7_carried_480 : decode cX7_carried 480 = .ok (.getfield 78, 3) := by decide +kernel
theorem dX7_carried_483 : decode cX7_carried 483 = .ok (.putfield 78, 3) := by decide +kernel
theorem dX7_carried_486 : decode cX7_carried 486 = .ok (.aload_n 0, 1) := by decide +kernel
theorem dX7_carried_487 : decode cX7_carried 487 = .ok (.iload_n 3, 1) := by decide +kernel
theorem dX7_carried_488 : decode cX7_carried 488 = .ok (.ifCond .eq 14, 3) := by decide +kernel
theorem dX7_carried_491 : decode cX7_carried 491 = .ok (.iload_n 1, 1) := by decide +kernel
theorem dX7_carried_492 : decode cX7_carried 492 = .ok (.sipush 1627, 3) := by decide +kernel
theorem dX7_carried_495 : decode cX7_carried 495 = .ok (.if_icmp .ne 7, 3) := by decide +kernel
theorem dX7_carried_498 : decode cX7_carried 498 = .ok (.iload_n 2, 1) := by decide +kernel
theorem dX7_carried_499 : decode cX7_carried 499 = .ok (.goto 7, 3) := by decide +kernel
theorem dX7_carried_502 : decode cX7_carried 502 = .ok (.aload_n 0, 1) := by decide +kernel
theorem dX7_carried_503 : decode cX7_carried 503 = .ok (.getfield 85, 3) := by decide +kernel
theorem dX7_carried_506 : decode cX7_carried 506 = .ok (.putfield 85, 3) := by decide +kernel
theorem dX7_carried_509 : decode cX7_carried 509 = .ok (.aload_n 0, 1) := by decide +kernel
theorem dX7_carried_510 : decode cX7_carried 510 = .ok (.iload_n 3, 1) := by decide +kernel
theorem dX7_carried_511 : decode cX7_carried 511 = .ok (.ifCond .eq 14, 3) := by decide +kernel
theorem dX7_carried_514 : decode cX7_carried 514 = .ok (.iload_n 1, 1) := by decide +kernel
theorem dX7_carried_515 : decode cX7_carried 515 = .ok (.sipush 1628, 3) := by decide +kernel
theorem dX7_carried_518 : decode cX7_carried 518 = .ok (.if_icmp .ne 7, 3) := by decide +kernel
theorem dX7_carried_521 : decode cX7_carried 521 = .ok (.iload_n 2, 1) := by decide +kernel
theorem dX7_carried_522 : decode cX7_carried 522 = .ok (.goto 7, 3) := by decide +kernel
theorem dX7_carried_525 : decode cX7_carried 525 = .ok (.aload_n 0, 1) := by decide +kernel
theorem dX7_carried_526 : decode cX7_carried 526 = .ok (.getfield 88, 3) := by decide +kernel
theorem dX7_carried_529 : decode cX7_carried 529 = .ok (.putfield 88, 3) := by decide +kernel
theorem dX7_carried_532 : decode cX7_carried 532 = .ok (.aload_n 0, 1) := by decide +kernel
theorem dX7_carried_533 : decode cX7_carried 533 = .ok (.iload_n 3, 1) := by decide +kernel
theorem dX7_carried_534 : decode cX7_carried 534 = .ok (.ifCond .eq 14, 3) := by decide +kernel
theorem dX7_carried_537 : decode cX7_carried 537 = .ok (.iload_n 1, 1) := by decide +kernel
theorem dX7_carried_538 : decode cX7_carried 538 = .ok (.sipush 1629, 3) := by decide +kernel
theorem dX7_carried_541 : decode cX7_carried 541 = .ok (.if_icmp .ne 7, 3) := by decide +kernel
theorem dX7_carried_544 : decode cX7_carried 544 = .ok (.iload_n 2, 1) := by decide +kernel
theorem dX7_carried_545 : decode cX7_carried 545 = .ok (.goto 7, 3) := by decide +kernel
theorem dX7_carried_548 : decode cX7_carried 548 = .ok (.aload_n 0, 1) := by decide +kernel
theorem dX7_carried_549 : decode cX7_carried 549 = .ok (.getfield 110, 3) := by decide +kernel
theorem dX7_carried_552 : decode cX7_carried 552 = .ok (.putfield 110, 3) := by decide +kernel
theorem dX7_carried_555 : decode cX7_carried 555 = .ok (.aload_n 0, 1) := by decide +kernel
theorem dX7_carried_556 : decode cX7_carried 556 = .ok (.iload_n 3, 1) := by decide +kernel
theorem dX7_carried_557 : decode cX7_carried 557 = .ok (.ifCond .eq 14, 3) := by decide +kernel
theorem dX7_carried_560 : decode cX7_carried 560 = .ok (.iload_n 1, 1) := by decide +kernel
theorem dX7_carried_561 : decode cX7_carried 561 = .ok (.sipush 1630, 3) := by decide +kernel
theorem dX7_carried_564 : decode cX7_carried 564 = .ok (.if_icmp .ne 7, 3) := by decide +kernel
theorem dX7_carried_567 : decode cX7_carried 567 = .ok (.iload_n 2, 1) := by decide +kernel
theorem dX7_carried_568 : decode cX7_carried 568 = .ok (.goto 7, 3) := by decide +kernel
theorem dX7_carried_571 : decode cX7_carried 571 = .ok (.aload_n 0, 1) := by decide +kernel
theorem dX7_carried_572 : decode cX7_carried 572 = .ok (.getfield 130, 3) := by decide +kernel
theorem dX7_carried_575 : decode cX7_carried 575 = .ok (.putfield 130, 3) := by decide +kernel
theorem dX7_carried_578 : decode cX7_carried 578 = .ok (.aload_n 0, 1) := by decide +kernel
theorem dX7_carried_579 : decode cX7_carried 579 = .ok (.iload_n 3, 1) := by decide +kernel
theorem dX7_carried_580 : decode cX7_carried 580 = .ok (.ifCond .eq 14, 3) := by decide +kernel
theorem dX7_carried_583 : decode cX7_carried 583 = .ok (.iload_n 1, 1) := by decide +kernel
theorem dX7_carried_584 : decode cX7_carried 584 = .ok (.sipush 1631, 3) := by decide +kernel
theorem dX7_carried_587 : decode cX7_carried 587 = .ok (.if_icmp .ne 7, 3) := by decide +kernel
theorem dX7_carried_590 : decode cX7_carried 590 = .ok (.iload_n 2, 1) := by decide +kernel
theorem dX7_carried_591 : decode cX7_carried 591 = .ok (.goto 7, 3) := by decide +kernel
theorem dX7_carried_594 : decode cX7_carried 594 = .ok (.aload_n 0, 1) := by decide +kernel
theorem dX7_carried_595 : decode cX7_carried 595 = .ok (.getfield 133, 3) := by decide +kernel
theorem dX7_carried_598 : decode cX7_carried 598 = .ok (.putfield 133, 3) := by decide +kernel
theorem dX7_carried_601 : decode cX7_carried 601 = .ok (.aload_n 0, 1) := by decide +kernel
theorem dX7_carried_602 : decode cX7_carried 602 = .ok (.iload_n 3, 1) := by decide +kernel
theorem dX7_carried_603 : decode cX7_carried 603 = .ok (.ifCond .eq 14, 3) := by decide +kernel
theorem dX7_carried_606 : decode cX7_carried 606 = .ok (.iload_n 1, 1) := by decide +kernel
theorem dX7_carried_607 : decode cX7_carried 607 = .ok (.sipush 1632, 3) := by decide +kernel
theorem dX7_carried_610 : decode cX7_carried 610 = .ok (.if_icmp .ne 7, 3) := by decide +kernel
theorem dX7_carried_613 : decode cX7_carried 613 = .ok (.iload_n 2, 1) := by decide +kernel
theorem dX7_carried_614 : decode cX7_carried 614 = .ok (.goto 7, 3) := by decide +kernel
theorem dX7_carried_617 : decode cX7_carried 617 = .ok (.aload_n 0, 1) := by decide +kernel
theorem dX7_carried_618 : decode cX7_carried 618 = .ok (.getfield 34, 3) := by decide +kernel
theorem dX7_carried_621 : decode cX7_carried 621 = .ok (.putfield 34, 3) := by decide +kernel
theorem dX7_carried_624 : decode cX7_carried 624 = .ok (.aload_n 0, 1) := by decide +kernel
theorem dX7_carried_625 : decode cX7_carried 625 = .ok (.iload_n 3, 1) := by decide +kernel
theorem dX7_carried_626 : decode cX7_carried 626 = .ok (.ifCond .eq 14, 3) := by decide +kernel
theorem dX7_carried_629 : decode cX7_carried 629 = .ok (.iload_n 1, 1) := by decide +kernel
theorem dX7_carried_630 : decode cX7_carried 630 = .ok (.sipush 1633, 3) := by decide +kernel
theorem dX7_carried_633 : decode cX7_carried 633 = .ok (.if_icmp .ne 7, 3) := by decide +kernel
theorem dX7_carried_636 : decode cX7_carried 636 = .ok (.iload_n 2, 1) := by decide +kernel
theorem dX7_carried_637 : decode cX7_carried 637 = .ok (.goto 7, 3) := by decide +kernel
theorem dX7_carried_640 : decode cX7_carried 640 = .ok (.aload_n 0, 1) := by decide +kernel
theorem dX7_carried_641 : decode cX7_carried 641 = .ok (.getfield 105, 3) := by decide +kernel
theorem dX7_carried_644 : decode cX7_carried 644 = .ok (.putfield 105, 3) := by decide +kernel
theorem dX7_carried_647 : decode cX7_carried 647 = .ok (.iload_n 1, 1) := by decide +kernel
theorem dX7_carried_648 : decode cX7_carried 648 = .ok (.sipush 1626, 3) := by decide +kernel
theorem dX7_carried_651 : decode cX7_carried 651 = .ok (.if_icmp .ne 10, 3) := by decide +kernel
theorem dX7_carried_654 : decode cX7_carried 654 = .ok (.aload_n 0, 1) := by decide +kernel
theorem dX7_carried_655 : decode cX7_carried 655 = .ok (.getfield 78, 3) := by decide +kernel
theorem dX7_carried_658 : decode cX7_carried 658 = .ok (.goto 91, 3) := by decide +kernel
theorem dX7_carried_661 : decode cX7_carried 661 = .ok (.iload_n 1, 1) := by decide +kernel
theorem dX7_carried_662 : decode cX7_carried 662 = .ok (.sipush 1627, 3) := by decide +kernel
theorem dX7_carried_665 : decode cX7_carried 665 = .ok (.if_icmp .ne 10, 3) := by decide +kernel
theorem dX7_carried_668 : decode cX7_carried 668 = .ok (.aload_n 0, 1) := by decide +kernel
theorem dX7_carried_669 : decode cX7_carried 669 = .ok (.getfield 85, 3) := by decide +kernel
theorem dX7_carried_672 : decode cX7_carried 672 = .ok (.goto 77, 3) := by decide +kernel
theorem dX7_carried_675 : decode cX7_carried 675 = .ok (.iload_n 1, 1) := by decide +kernel
theorem dX7_carried_676 : decode cX7_carried 676 = .ok (.sipush 1628, 3) := by decide +kernel
theorem dX7_carried_679 : decode cX7_carried 679 = .ok (.if_icmp .ne 10, 3) := by decide +kernel
theorem dX7_carried_682 : decode cX7_carried 682 = .ok (.aload_n 0, 1) := by decide +kernel
theorem dX7_carried_683 : decode cX7_carried 683 = .ok (.getfield 88, 3) := by decide +kernel
theorem dX7_carried_686 : decode cX7_carried 686 = .ok (.goto 63, 3) := by decide +kernel
theorem dX7_carried_689 : decode cX7_carried 689 = .ok (.iload_n 1, 1) := by decide +kernel
theorem dX7_carried_690 : decode cX7_carried 690 = .ok (.sipush 1629, 3) := by decide +kernel
theorem dX7_carried_693 : decode cX7_carried 693 = .ok (.if_icmp .ne 10, 3) := by decide +kernel
theorem dX7_carried_696 : decode cX7_carried 696 = .ok (.aload_n 0, 1) := by decide +kernel
theorem dX7_carried_697 : decode cX7_carried 697 = .ok (.getfield 110, 3) := by decide +kernel
theorem dX7_carried_700 : decode cX7_carried 700 = .ok (.goto 49, 3) := by decide +kernel
theorem dX7_carried_703 : decode cX7_carried 703 = .ok (.iload_n 1, 1) := by decide +kernel
theorem dX7_carried_704 : decode cX7_carried 704 = .ok (.sipush 1630, 3) := by decide +kernel
theorem dX7_carried_707 : decode cX7_carried 707 = .ok (.if_icmp .ne 10, 3) := by decide +kernel
theorem dX7_carried_710 : decode cX7_carried 710 = .ok (.aload_n 0, 1) := by decide +kernel
theorem dX7_carried_711 : decode cX7_carried 711 = .ok (.getfield 130, 3) := by decide +kernel
theorem dX7_carried_714 : decode cX7_carried 714 = .ok (.goto 35, 3) := by decide +kernel
theorem dX7_carried_717 : decode cX7_carried 717 = .ok (.iload_n 1, 1) := by decide +kernel
theorem dX7_carried_718 : decode cX7_carried 718 = .ok (.sipush 1631, 3) := by decide +kernel
theorem dX7_carried_721 : decode cX7_carried 721 = .ok (.if_icmp .ne 10, 3) := by decide +kernel
theorem dX7_carried_724 : decode cX7_carried 724 = .ok (.aload_n 0, 1) := by decide +kernel
theorem dX7_carried_725 : decode cX7_carried 725 = .ok (.getfield 133, 3) := by decide +kernel
theorem dX7_carried_728 : decode cX7_carried 728 = .ok (.goto 21, 3) := by decide +kernel
theorem dX7_carried_731 : decode cX7_carried 731 = .ok (.iload_n 1, 1) := by decide +kernel
theorem dX7_carried_732 : decode cX7_carried 732 = .ok (.sipush 1632, 3) := by decide +kernel
theorem dX7_carried_735 : decode cX7_carried 735 = .ok (.if_icmp .ne 10, 3) := by decide +kernel
theorem dX7_carried_738 : decode cX7_carried 738 = .ok (.aload_n 0, 1) := by decide +kernel
theorem dX7_carried_739 : decode cX7_carried 739 = .ok (.getfield 34, 3) := by decide +kernel
theorem dX7_carried_742 : decode cX7_carried 742 = .ok (.goto 7, 3) := by decide +kernel
theorem dX7_carried_745 : decode cX7_carried 745 = .ok (.aload_n 0, 1) := by decide +kernel
theorem dX7_carried_746 : decode cX7_carried 746 = .ok (.getfield 105, 3) := by decide +kernel
theorem dX7_carried_749 : decode cX7_carried 749 = .ok (.ireturn, 1) := by decide +kernel
theorem dX7_image_0 : decode cX7_image 0 = .ok (.iconst 0, 1) := by decide +kernel
theorem dX7_image_1 : decode cX7_image 1 = .ok (.istore_n 1, 1) := by decide +kernel
theorem dX7_image_2 : decode cX7_image 2 = .ok (.iload_n 1, 1) := by decide +kernel
theorem dX7_image_3 : decode cX7_image 3 = .ok (.sipush 1634, 3) := by decide +kernel
theorem dX7_image_6 : decode cX7_image 6 = .ok (.if_icmp .ge 22, 3) := by decide +kernel
theorem dX7_image_9 : decode cX7_image 9 = .ok (.aload_n 0, 1) := by decide +kernel
theorem dX7_image_10 : decode cX7_image 10 = .ok (.getfield 59, 3) := by decide +kernel
theorem dX7_image_13 : decode cX7_image 13 = .ok (.iload_n 1, 1) := by decide +kernel
theorem dX7_image_14 : decode cX7_image 14 = .ok (.aload_n 0, 1) := by decide +kernel
theorem dX7_image_15 : decode cX7_image 15 = .ok (.iload_n 1, 1) := by decide +kernel
theorem dX7_image_16 : decode cX7_image 16 = .ok (.iconst 0, 1) := by decide +kernel
theorem dX7_image_17 : decode cX7_image 17 = .ok (.iconst 0, 1) := by decide +kernel
theorem dX7_image_18 : decode cX7_image 18 = .ok (.invokevirtual 303, 3) := by decide +kernel
theorem dX7_image_21 : decode cX7_image 21 = .ok (.iastore, 1) := by decide +kernel
theorem dX7_image_22 : decode cX7_image 22 = .ok (.iinc 1 1, 3) := by decide +kernel
theorem dX7_image_25 : decode cX7_image 25 = .ok (.goto (-23), 3) := by decide +kernel
theorem dX7_image_28 : decode cX7_image 28 = .ok (.aload_n 0, 1) := by decide +kernel
theorem dX7_image_29 : decode cX7_image 29 = .ok (.iconst 1, 1) := by decide +kernel
theorem dX7_image_30 : decode cX7_image 30 = .ok (.putfield 307, 3) := by decide +kernel
theorem dX7_image_33 : decode cX7_image 33 = .ok (.iconst 1, 1) := by decide +kernel
theorem dX7_image_34 : decode cX7_image 34 = .ok (.ireturn, 1) := by decide +kernel
theorem dX7_restore_0 : decode cX7_restore 0 = .ok (.aload_n 0, 1) := by decide +kernel
theorem dX7_restore_1 : decode cX7_restore 1 = .ok (.getfield 307, 3) := by decide +kernel
theorem dX7_restore_4 : decode cX7_restore 4 = .ok (.ifCond .ne 6, 3) := by decide +kernel
theorem dX7_restore_7 : decode cX7_restore 7 = .ok (.bipush (-4), 2) := by decide +kernel
theorem dX7_restore_9 : decode cX7_restore 9 = .ok (.ireturn, 1) := by decide +kernel
theorem dX7_restore_10 : decode cX7_restore 10 = .ok (.iconst 0, 1) := by decide +kernel
theorem dX7_restore_11 : decode cX7_restore 11 = .ok (.istore_n 1, 1) := by decide +kernel
theorem dX7_restore_12 : decode cX7_restore 12 = .ok (.iload_n 1, 1) := by decide +kernel
theorem dX7_restore_13 : decode cX7_restore 13 = .ok (.sipush 1634, 3) := by decide +kernel
theorem dX7_restore_16 : decode cX7_restore 16 = .ok (.if_icmp .ge 22, 3) := by decide +kernel
theorem dX7_restore_19 : decode cX7_restore 19 = .ok (.aload_n 0, 1) := by decide +kernel
theorem dX7_restore_20 : decode cX7_restore 20 = .ok (.iload_n 1, 1) := by decide +kernel
theorem dX7_restore_21 : decode cX7_restore 21 = .ok (.aload_n 0, 1) := by decide +kernel
theorem dX7_restore_22 : decode cX7_restore 22 = .ok (.getfield 59, 3) := by decide +kernel
theorem dX7_restore_25 : decode cX7_restore 25 = .ok (.iload_n 1, 1) := by decide +kernel
theorem dX7_restore_26 : decode cX7_restore 26 = .ok (.iaload, 1) := by decide +kernel
theorem dX7_restore_27 : decode cX7_restore 27 = .ok (.iconst 1, 1) := by decide +kernel
theorem dX7_restore_28 : decode cX7_restore 28 = .ok (.invokevirtual 303, 3) := by decide +kernel
theorem dX7_restore_31 : decode cX7_restore 31 = .ok (.pop, 1) := by decide +kernel
theorem dX7_restore_32 : decode cX7_restore 32 = .ok (.iinc 1 1, 3) := by decide +kernel
theorem dX7_restore_35 : decode cX7_restore 35 = .ok (.goto (-23), 3) := by decide +kernel
theorem dX7_restore_38 : decode cX7_restore 38 = .ok (.iconst 1, 1) := by decide +kernel
theorem dX7_restore_39 : decode cX7_restore 39 = .ok (.ireturn, 1) := by decide +kernel
theorem dX7_isSheet_0 : decode cX7_isSheet 0 = .ok (.iload_n 0, 1) := by decide +kernel
theorem dX7_isSheet_1 : decode cX7_isSheet 1 = .ok (.i2l, 1) := by decide +kernel
theorem dX7_isSheet_2 : decode cX7_isSheet 2 = .ok (.lconst 0, 1) := by decide +kernel
theorem dX7_isSheet_3 : decode cX7_isSheet 3 = .ok (.ldc2_w 311, 3) := by decide +kernel
theorem dX7_isSheet_6 : decode cX7_isSheet 6 = .ok (.invokestatic 81, 3) := by decide +kernel
theorem dX7_isSheet_9 : decode cX7_isSheet 9 = .ok (.ifCond .eq 19, 3) := by decide +kernel
theorem dX7_isSheet_12 : decode cX7_isSheet 12 = .ok (.iload_n 1, 1) := by decide +kernel
theorem dX7_isSheet_13 : decode cX7_isSheet 13 = .ok (.i2l, 1) := by decide +kernel
theorem dX7_isSheet_14 : decode cX7_isSheet 14 = .ok (.lconst 0, 1) := by decide +kernel
theorem dX7_isSheet_15 : decode cX7_isSheet 15 = .ok (.ldc2_w 311, 3) := by decide +kernel
theorem dX7_isSheet_18 : decode cX7_isSheet 18 = .ok (.invokestatic 81, 3) := by decide +kernel
theorem dX7_isSheet_21 : decode cX7_isSheet 21 = .ok (.ifCond .eq 7, 3) := by decide +kernel
theorem dX7_isSheet_24 : decode cX7_isSheet 24 = .ok (.iconst 1, 1) := by decide +kernel
theorem dX7_isSheet_25 : decode cX7_isSheet 25 = .ok (.goto 4, 3) := by decide +kernel
theorem dX7_isSheet_28 : decode cX7_isSheet 28 = .ok (.iconst 0, 1) := by decide +kernel
theorem dX7_isSheet_29 : decode cX7_isSheet 29 = .ok (.ireturn, 1) := by decide +kernel
theorem dX7_asLane_0 : decode cX7_asLane 0 = .ok (.iload_n 0, 1) := by decide +kernel
theorem dX7_asLane_1 : decode cX7_asLane 1 = .ok (.ifCond .ne 13, 3) := by decide +kernel
theorem dX7_asLane_4 : decode cX7_asLane 4 = .ok (.lload_n 1, 1) := by decide +kernel
theorem dX7_asLane_5 : decode cX7_asLane 5 = .ok (.bipush 56, 2) := by decide +kernel
theorem dX7_asLane_7 : decode cX7_asLane 7 = .ok (.lshl, 1) := by decide +kernel
theorem dX7_asLane_8 : decode cX7_asLane 8 = .ok (.bipush 56, 2) := by decide +kernel
theorem dX7_asLane_10 : decode cX7_asLane 10 = .ok (.lshr, 1) := by decide +kernel
theorem dX7_asLane_11 : decode cX7_asLane 11 = .ok (.goto 34, 3) := by decide +kernel
theorem dX7_asLane_14 : decode cX7_asLane 14 = .ok (.iload_n 0, 1) := by decide +kernel
theorem dX7_asLane_15 : decode cX7_asLane 15 = .ok (.iconst 1, 1) := by decide +kernel
theorem dX7_asLane_16 : decode cX7_asLane 16 = .ok (.if_icmp .ne 13, 3) := by decide +kernel
theorem dX7_asLane_19 : decode cX7_asLane 19 = .ok (.lload_n 1, 1) := by decide +kernel
theorem dX7_asLane_20 : decode cX7_asLane 20 = .ok (.bipush 48, 2) := by decide +kernel
theorem dX7_asLane_22 : decode cX7_asLane 22 = .ok (.lshl, 1) := by decide +kernel
theorem dX7_asLane_23 : decode cX7_asLane 23 = .ok (.bipush 48, 2) := by decide +kernel
theorem dX7_asLane_25 : decode cX7_asLane 25 = .ok (.lshr, 1) := by decide +kernel
theorem dX7_asLane_26 : decode cX7_asLane 26 = .ok (.goto 19, 3) := by decide +kernel
theorem dX7_asLane_29 : decode cX7_asLane 29 = .ok (.iload_n 0, 1) := by decide +kernel
theorem dX7_asLane_30 : decode cX7_asLane 30 = .ok (.iconst 2, 1) := by decide +kernel
theorem dX7_asLane_31 : decode cX7_asLane 31 = .ok (.if_icmp .ne 13, 3) := by decide +kernel
theorem dX7_asLane_34 : decode cX7_asLane 34 = .ok (.lload_n 1, 1) := by decide +kernel
theorem dX7_asLane_35 : decode cX7_asLane 35 = .ok (.bipush 32, 2) := by decide +kernel
theorem dX7_asLane_37 : decode cX7_asLane 37 = .ok (.lshl, 1) := by decide +kernel
theorem dX7_asLane_38 : decode cX7_asLane 38 = .ok (.bipush 32, 2) := by decide +kernel
theorem dX7_asLane_40 : decode cX7_asLane 40 = .ok (.lshr, 1) := by decide +kernel
theorem dX7_asLane_41 : decode cX7_asLane 41 = .ok (.goto 4, 3) := by decide +kernel
theorem dX7_asLane_44 : decode cX7_asLane 44 = .ok (.lload_n 1, 1) := by decide +kernel
theorem dX7_asLane_45 : decode cX7_asLane 45 = .ok (.lreturn, 1) := by decide +kernel
theorem dX7_sheet_0 : decode cX7_sheet 0 = .ok (.iload_n 1, 1) := by decide +kernel
theorem dX7_sheet_1 : decode cX7_sheet 1 = .ok (.iload_n 2, 1) := by decide +kernel
theorem dX7_sheet_2 : decode cX7_sheet 2 = .ok (.invokestatic 313, 3) := by decide +kernel
theorem dX7_sheet_5 : decode cX7_sheet 5 = .ok (.ifCond .eq 9, 3) := by decide +kernel
theorem dX7_sheet_8 : decode cX7_sheet 8 = .ok (.iload_n 3, 1) := by decide +kernel
theorem dX7_sheet_9 : decode cX7_sheet 9 = .ok (.bipush 36, 2) := by decide +kernel
theorem dX7_sheet_11 : decode cX7_sheet 11 = .ok (.if_icmp .le 5, 3) := by decide +kernel
theorem dX7_sheet_14 : decode cX7_sheet 14 = .ok (.iconst (-1), 1) := by decide +kernel
theorem dX7_sheet_15 : decode cX7_sheet 15 = .ok (.ireturn, 1) := by decide +kernel
theorem dX7_sheet_16 : decode cX7_sheet 16 = .ok (.iload_n 3, 1) := by decide +kernel
theorem dX7_sheet_17 : decode cX7_sheet 17 = .ok (.ifCond .ge 6, 3) := by decide +kernel
theorem dX7_sheet_20 : decode cX7_sheet 20 = .ok (.bipush (-14), 2) := by decide +kernel
theorem dX7_sheet_22 : decode cX7_sheet 22 = .ok (.ireturn, 1) := by decide +kernel
theorem dX7_sheet_23 : decode cX7_sheet 23 = .ok (.aload_n 0, 1) := by decide +kernel
theorem dX7_sheet_24 : decode cX7_sheet 24 = .ok (.getfield 62, 3) := by decide +kernel
theorem dX7_sheet_27 : decode cX7_sheet 27 = .ok (.iload_n 1, 1) := by decide +kernel
theorem dX7_sheet_28 : decode cX7_sheet 28 = .ok (.iload_n 2, 1) := by decide +kernel
theorem dX7_sheet_29 : decode cX7_sheet 29 = .ok (.iastore, 1) := by decide +kernel
theorem dX7_sheet_30 : decode cX7_sheet 30 = .ok (.aload_n 0, 1) := by decide +kernel
theorem dX7_sheet_31 : decode cX7_sheet 31 = .ok (.getfield 65, 3) := by decide +kernel
theorem dX7_sheet_34 : decode cX7_sheet 34 = .ok (.iload_n 1, 1) := by decide +kernel
theorem dX7_sheet_35 : decode cX7_sheet 35 = .ok (.iload_n 3, 1) := by decide +kernel
theorem dX7_sheet_36 : decode cX7_sheet 36 = .ok (.iastore, 1) := by decide +kernel
theorem dX7_sheet_37 : decode cX7_sheet 37 = .ok (.iconst 0, 1) := by decide +kernel
theorem dX7_sheet_38 : decode cX7_sheet 38 = .ok (.istore 4, 2) := by decide +kernel
theorem dX7_sheet_40 : decode cX7_sheet 40 = .ok (.iload 4, 2) := by decide +kernel
theorem dX7_sheet_42 : decode cX7_sheet 42 = .ok (.bipush 36, 2) := by decide +kernel
theorem dX7_sheet_44 : decode cX7_sheet 44 = .ok (.if_icmp .ge 22, 3) := by decide +kernel
theorem dX7_sheet_47 : decode cX7_sheet 47 = .ok (.aload_n 0, 1) := by decide +kernel
theorem dX7_sheet_48 : decode cX7_sheet 48 = .ok (.getfield 68, 3) := by decide +kernel
theorem dX7_sheet_51 : decode cX7_sheet 51 = .ok (.bipush 36, 2) := by decide +kernel
theorem dX7_sheet_53 : decode cX7_sheet 53 = .ok (.iload_n 1, 1) := by decide +kernel
theorem dX7_sheet_54 : decode cX7_sheet 54 = .ok (.imul, 1) := by decide +kernel
theorem dX7_sheet_55 : decode cX7_sheet 55 = .ok (.iload 4, 2) := by decide +kernel
theorem dX7_sheet_57 : decode cX7_sheet 57 = .ok (.iadd, 1) := by decide +kernel
theorem dX7_sheet_58 : decode cX7_sheet 58 = .ok (.lconst 0, 1) := by decide +kernel
theorem dX7_sheet_59 : decode cX7_sheet 59 = .ok (.lastore, 1) := by decide +kernel
theorem dX7_sheet_60 : decode cX7_sheet 60 = .ok (.iinc 4 1, 3) := by decide +kernel
theorem dX7_sheet_63 : decode cX7_sheet 63 = .ok (.goto (-23), 3) := by decide +kernel
theorem dX7_sheet_66 : decode cX7_sheet 66 = .ok (.iload_n 3, 1) := by decide +kernel
theorem dX7_sheet_67 : decode cX7_sheet 67 = .ok (.ireturn, 1) := by decide +kernel
theorem dX7_drop_0 : decode cX7_drop 0 = .ok (.iload_n 1, 1) := by decide +kernel
theorem dX7_drop_1 : decode cX7_drop 1 = .ok (.i2l, 1) := by decide +kernel
theorem dX7_drop_2 : decode cX7_drop 2 = .ok (.lconst 0, 1) := by decide +kernel
theorem dX7_drop_3 : decode cX7_drop 3 = .ok (.ldc2_w 311, 3) := by decide +kernel
theorem dX7_drop_6 : decode cX7_drop 6 = .ok (.invokestatic 81, 3) := by decide +kernel
theorem dX7_drop_9 : decode cX7_drop 9 = .ok (.ifCond .ne 5, 3) := by decide +kernel
theorem dX7_drop_12 : decode cX7_drop 12 = .ok (.iconst (-1), 1) := by decide +kernel
theorem dX7_drop_13 : decode cX7_drop 13 = .ok (.ireturn, 1) := by decide +kernel
theorem dX7_drop_14 : decode cX7_drop 14 = .ok (.aload_n 0, 1) := by decide +kernel
theorem dX7_drop_15 : decode cX7_drop 15 = .ok (.getfield 62, 3) := by decide +kernel
theorem dX7_drop_18 : decode cX7_drop 18 = .ok (.iload_n 1, 1) := by decide +kernel
theorem dX7_drop_19 : decode cX7_drop 19 = .ok (.iaload, 1) := by decide +kernel
theorem dX7_drop_20 : decode cX7_drop 20 = .ok (.ifCond .ge 6, 3) := by decide +kernel
theorem dX7_drop_23 : decode cX7_drop 23 = .ok (.bipush (-11), 2) := by decide +kernel
theorem dX7_drop_25 : decode cX7_drop 25 = .ok (.ireturn, 1) := by decide +kernel
theorem dX7_drop_26 : decode cX7_drop 26 = .ok (.aload_n 0, 1) := by decide +kernel
theorem dX7_drop_27 : decode cX7_drop 27 = .ok (.getfield 62, 3) := by decide +kernel
theorem dX7_drop_30 : decode cX7_drop 30 = .ok (.iload_n 1, 1) := by decide +kernel
theorem dX7_drop_31 : decode cX7_drop 31 = .ok (.iconst (-1), 1) := by decide +kernel
theorem dX7_drop_32 : decode cX7_drop 32 = .ok (.iastore, 1) := by decide +kernel
theorem dX7_drop_33 : decode cX7_drop 33 = .ok (.aload_n 0, 1) := by decide +kernel
theorem dX7_drop_34 : decode cX7_drop 34 = .ok (.getfield 65, 3) := by decide +kernel
theorem dX7_drop_37 : decode cX7_drop 37 = .ok (.iload_n 1, 1) := by decide +kernel
theorem dX7_drop_38 : decode cX7_drop 38 = .ok (.iaload, 1) := by decide +kernel
theorem dX7_drop_39 : decode cX7_drop 39 = .ok (.ireturn, 1) := by decide +kernel
theorem dX7_lacksRow_0 : decode cX7_lacksRow 0 = .ok (.aload_n 0, 1) := by decide +kernel
theorem dX7_lacksRow_1 : decode cX7_lacksRow 1 = .ok (.getfield 62, 3) := by decide +kernel
theorem dX7_lacksRow_4 : decode cX7_lacksRow 4 = .ok (.iload_n 1, 1) := by decide +kernel
theorem dX7_lacksRow_5 : decode cX7_lacksRow 5 = .ok (.iaload, 1) := by decide +kernel
theorem dX7_lacksRow_6 : decode cX7_lacksRow 6 = .ok (.iload_n 2, 1) := by decide +kernel
theorem dX7_lacksRow_7 : decode cX7_lacksRow 7 = .ok (.if_icmp .eq 20, 3) := by decide +kernel
theorem dX7_lacksRow_10 : decode cX7_lacksRow 10 = .ok (.aload_n 0, 1) := by decide +kernel
theorem dX7_lacksRow_11 : decode cX7_lacksRow 11 = .ok (.getfield 62, 3) := by decide +kernel
theorem dX7_lacksRow_14 : decode cX7_lacksRow 14 = .ok (.iload_n 1, 1) := by decide +kernel
theorem dX7_lacksRow_15 : decode cX7_lacksRow 15 = .ok (.iaload, 1) := by decide +kernel
theorem dX7_lacksRow_16 : decode cX7_lacksRow 16 = .ok (.ifCond .ge 8, 3) := by decide +kernel
theorem dX7_lacksRow_19 : decode cX7_lacksRow 19 = .ok (.bipush (-11), 2) := by decide +kernel
theorem dX7_lacksRow_21 : decode cX7_lacksRow 21 = .ok (.goto 5, 3) := by decide +kernel
theorem dX7_lacksRow_24 : decode cX7_lacksRow 24 = .ok (.bipush (-12), 2) := by decide +kernel
theorem dX7_lacksRow_26 : decode cX7_lacksRow 26 = .ok (.ireturn, 1) := by decide +kernel
theorem dX7_lacksRow_27 : decode cX7_lacksRow 27 = .ok (.iload_n 3, 1) := by decide +kernel
theorem dX7_lacksRow_28 : decode cX7_lacksRow 28 = .ok (.i2l, 1) := by decide +kernel
theorem dX7_lacksRow_29 : decode cX7_lacksRow 29 = .ok (.lconst 0, 1) := by decide +kernel
theorem dX7_lacksRow_30 : decode cX7_lacksRow 30 = .ok (.aload_n 0, 1) := by decide +kernel
theorem dX7_lacksRow_31 : decode cX7_lacksRow 31 = .ok (.getfield 65, 3) := by decide +kernel
theorem dX7_lacksRow_34 : decode cX7_lacksRow 34 = .ok (.iload_n 1, 1) := by decide +kernel
theorem dX7_lacksRow_35 : decode cX7_lacksRow 35 = .ok (.iaload, 1) := by decide +kernel
theorem dX7_lacksRow_36 : decode cX7_lacksRow 36 = .ok (.iload 4, 2) := by decide +kernel
theorem dX7_lacksRow_38 : decode cX7_lacksRow 38 = .ok (.isub, 1) := by decide +kernel
theorem dX7_lacksRow_39 : decode cX7_lacksRow 39 = .ok (.i2l, 1) := by decide +kernel
theorem dX7_lacksRow_40 : decode cX7_lacksRow 40 = .ok (.invokestatic 81, 3) := by decide +kernel
theorem dX7_lacksRow_43 : decode cX7_lacksRow 43 = .ok (.ifCond .eq 7, 3) := by decide +kernel
theorem dX7_lacksRow_46 : decode cX7_lacksRow 46 = .ok (.iconst 0, 1) := by decide +kernel
theorem dX7_lacksRow_47 : decode cX7_lacksRow 47 = .ok (.goto 5, 3) := by decide +kernel
theorem dX7_lacksRow_50 : decode cX7_lacksRow 50 = .ok (.bipush (-13), 2) := by decide +kernel
theorem dX7_lacksRow_52 : decode cX7_lacksRow 52 = .ok (.ireturn, 1) := by decide +kernel
theorem dX7_item_0 : decode cX7_item 0 = .ok (.iload_n 1, 1) := by decide +kernel
theorem dX7_item_1 : decode cX7_item 1 = .ok (.iload_n 2, 1) := by decide +kernel
theorem dX7_item_2 : decode cX7_item 2 = .ok (.invokestatic 313, 3) := by decide +kernel
theorem dX7_item_5 : decode cX7_item 5 = .ok (.ifCond .ne 5, 3) := by decide +kernel
theorem dX7_item_8 : decode cX7_item 8 = .ok (.iconst (-1), 1) := by decide +kernel
theorem dX7_item_9 : decode cX7_item 9 = .ok (.ireturn, 1) := by decide +kernel
theorem dX7_item_10 : decode cX7_item 10 = .ok (.aload_n 0, 1) := by decide +kernel
theorem dX7_item_11 : decode cX7_item 11 = .ok (.iload_n 1, 1) := by decide +kernel
theorem dX7_item_12 : decode cX7_item 12 = .ok (.iload_n 2, 1) := by decide +kernel
theorem dX7_item_13 : decode cX7_item 13 = .ok (.iload_n 3, 1) := by decide +kernel
theorem dX7_item_14 : decode cX7_item 14 = .ok (.iconst 1, 1) := by decide +kernel
theorem dX7_item_15 : decode cX7_item 15 = .ok (.invokevirtual 316, 3) := by decide +kernel
theorem dX7_item_18 : decode cX7_item 18 = .ok (.istore 6, 2) := by decide +kernel
theorem dX7_item_20 : decode cX7_item 20 = .ok (.iload 6, 2) := by decide +kernel
theorem dX7_item_22 : decode cX7_item 22 = .ok (.ifCond .ge 6, 3) := by decide +kernel
theorem dX7_item_25 : decode cX7_item 25 = .ok (.iload 6, 2) := by decide +kernel
theorem dX7_item_27 : decode cX7_item 27 = .ok (.ireturn, 1) := by decide +kernel
theorem dX7_item_28 : decode cX7_item 28 = .ok (.aload_n 0, 1) := by decide +kernel
theorem dX7_item_29 : decode cX7_item 29 = .ok (.getfield 68, 3) := by decide +kernel
theorem dX7_item_32 : decode cX7_item 32 = .ok (.bipush 36, 2) := by decide +kernel
theorem dX7_item_34 : decode cX7_item 34 = .ok (.iload_n 1, 1) := by decide +kernel
theorem dX7_item_35 : decode cX7_item 35 = .ok (.imul, 1) := by decide +kernel
theorem dX7_item_36 : decode cX7_item 36 = .ok (.iload_n 3, 1) := by decide +kernel
theorem dX7_item_37 : decode cX7_item 37 = .ok (.iadd, 1) := by decide +kernel
theorem dX7_item_38 : decode cX7_item 38 = .ok (.iload_n 2, 1) := by decide +kernel
theorem dX7_item_39 : decode cX7_item 39 = .ok (.lload 4, 2) := by decide +kernel
theorem dX7_item_41 : decode cX7_item 41 = .ok (.invokestatic 320, 3) := by decide +kernel
theorem dX7_item_44 : decode cX7_item 44 = .ok (.lastore, 1) := by decide +kernel
theorem dX7_item_45 : decode cX7_item 45 = .ok (.iconst 1, 1) := by decide +kernel
theorem dX7_item_46 : decode cX7_item 46 = .ok (.ireturn, 1) := by decide +kernel
theorem dX7_lacksReadings_0 : decode cX7_lacksReadings 0 = .ok (.aload_n 0, 1) := by decide +kernel
theorem dX7_lacksReadings_1 : decode cX7_lacksReadings 1 = .ok (.iload_n 1, 1) := by decide +kernel
theorem dX7_lacksReadings_2 : decode cX7_lacksReadings 2 = .ok (.iload_n 2, 1) := by decide +kernel
theorem dX7_lacksReadings_3 : decode cX7_lacksReadings 3 = .ok (.iload_n 3, 1) := by decide +kernel
theorem dX7_lacksReadings_4 : decode cX7_lacksReadings 4 = .ok (.iconst 3, 1) := by decide +kernel
theorem dX7_lacksReadings_5 : decode cX7_lacksReadings 5 = .ok (.iload 4, 2) := by decide +kernel
theorem dX7_lacksReadings_7 : decode cX7_lacksReadings 7 = .ok (.imul, 1) := by decide +kernel
theorem dX7_lacksReadings_8 : decode cX7_lacksReadings 8 = .ok (.invokevirtual 316, 3) := by decide +kernel
theorem dX7_lacksReadings_11 : decode cX7_lacksReadings 11 = .ok (.istore 5, 2) := by decide +kernel
theorem dX7_lacksReadings_13 : decode cX7_lacksReadings 13 = .ok (.bipush 36, 2) := by decide +kernel
theorem dX7_lacksReadings_15 : decode cX7_lacksReadings 15 = .ok (.iload_n 1, 1) := by decide +kernel
theorem dX7_lacksReadings_16 : decode cX7_lacksReadings 16 = .ok (.imul, 1) := by decide +kernel
theorem dX7_lacksReadings_17 : decode cX7_lacksReadings 17 = .ok (.iload_n 3, 1) := by decide +kernel
theorem dX7_lacksReadings_18 : decode cX7_lacksReadings 18 = .ok (.iadd, 1) := by decide +kernel
theorem dX7_lacksReadings_19 : decode cX7_lacksReadings 19 = .ok (.istore 6, 2) := by decide +kernel
theorem dX7_lacksReadings_21 : decode cX7_lacksReadings 21 = .ok (.iconst 0, 1) := by decide +kernel
theorem dX7_lacksReadings_22 : decode cX7_lacksReadings 22 = .ok (.istore 7, 2) := by decide +kernel
theorem dX7_lacksReadings_24 : decode cX7_lacksReadings 24 = .ok (.iload 7, 2) := by decide +kernel
theorem dX7_lacksReadings_26 : decode cX7_lacksReadings 26 = .ok (.iload 4, 2) := by decide +kernel
theorem dX7_lacksReadings_28 : decode cX7_lacksReadings 28 = .ok (.if_icmp .ge 69, 3) := by decide +kernel
theorem dX7_lacksReadings_31 : decode cX7_lacksReadings 31 = .ok (.iload 5, 2) := by decide +kernel
theorem dX7_lacksReadings_33 : decode cX7_lacksReadings 33 = .ok (.ifCond .ne 64, 3) := by decide +kernel
theorem dX7_lacksReadings_36 : decode cX7_lacksReadings 36 = .ok (.aload_n 0, 1) := by decide +kernel
theorem dX7_lacksReadings_37 : decode cX7_lacksReadings 37 = .ok (.aload_n 0, 1) := by decide +kernel
theorem dX7_lacksReadings_38 : decode cX7_lacksReadings 38 = .ok (.getfield 68, 3) := by decide +kernel
theorem dX7_lacksReadings_41 : decode cX7_lacksReadings 41 = .ok (.iload 6, 2) := by decide +kernel
theorem dX7_lacksReadings_43 : decode cX7_lacksReadings 43 = .ok (.iconst 3, 1) := by decide +kernel
theorem dX7_lacksReadings_44 : decode cX7_lacksReadings 44 = .ok (.iload 7, 2) := by decide +kernel
theorem dX7_lacksReadings_46 : decode cX7_lacksReadings 46 = .ok (.imul, 1) := by decide +kernel
theorem dX7_lacksReadings_47 : decode cX7_lacksReadings 47 = .ok (.iadd, 1) := by decide +kernel
theorem dX7_lacksReadings_48 : decode cX7_lacksReadings 48 = .ok (.laload, 1) := by decide +kernel
theorem dX7_lacksReadings_49 : decode cX7_lacksReadings 49 = .ok (.aload_n 0, 1) := by decide +kernel
theorem dX7_lacksReadings_50 : decode cX7_lacksReadings 50 = .ok (.getfield 68, 3) := by decide +kernel
theorem dX7_lacksReadings_53 : decode cX7_lacksReadings 53 = .ok (.iload 6, 2) := by decide +kernel
theorem dX7_lacksReadings_55 : decode cX7_lacksReadings 55 = .ok (.iconst 3, 1) := by decide +kernel
theorem dX7_lacksReadings_56 : decode cX7_lacksReadings 56 = .ok (.iload 7, 2) := by decide +kernel
theorem dX7_lacksReadings_58 : decode cX7_lacksReadings 58 = .ok (.imul, 1) := by decide +kernel
theorem dX7_lacksReadings_59 : decode cX7_lacksReadings 59 = .ok (.iadd, 1) := by decide +kernel
theorem dX7_lacksReadings_60 : decode cX7_lacksReadings 60 = .ok (.iconst 1, 1) := by decide +kernel
theorem dX7_lacksReadings_61 : decode cX7_lacksReadings 61 = .ok (.iadd, 1) := by decide +kernel
theorem dX7_lacksReadings_62 : decode cX7_lacksReadings 62 = .ok (.laload, 1) := by decide +kernel
theorem dX7_lacksReadings_63 : decode cX7_lacksReadings 63 = .ok (.aload_n 0, 1) := by decide +kernel
theorem dX7_lacksReadings_64 : decode cX7_lacksReadings 64 = .ok (.getfield 68, 3) := by decide +kernel
theorem dX7_lacksReadings_67 : decode cX7_lacksReadings 67 = .ok (.iload 6, 2) := by decide +kernel
theorem dX7_lacksReadings_69 : decode cX7_lacksReadings 69 = .ok (.iconst 3, 1) := by decide +kernel
theorem dX7_lacksReadings_70 : decode cX7_lacksReadings 70 = .ok (.iload 7, 2) := by decide +kernel
theorem dX7_lacksReadings_72 : decode cX7_lacksReadings 72 = .ok (.imul, 1) := by decide +kernel
theorem dX7_lacksReadings_73 : decode cX7_lacksReadings 73 = .ok (.iadd, 1) := by decide +kernel
theorem dX7_lacksReadings_74 : decode cX7_lacksReadings 74 = .ok (.iconst 2, 1) := by decide +kernel
theorem dX7_lacksReadings_75 : decode cX7_lacksReadings 75 = .ok (.iadd, 1) := by decide +kernel
theorem dX7_lacksReadings_76 : decode cX7_lacksReadings 76 = .ok (.laload, 1) := by decide +kernel
theorem dX7_lacksReadings_77 : decode cX7_lacksReadings 77 = .ok (.invokevirtual 250, 3) := by decide +kernel
theorem dX7_lacksReadings_80 : decode cX7_lacksReadings 80 = .ok (.ifCond .eq 7, 3) := by decide +kernel
theorem dX7_lacksReadings_83 : decode cX7_lacksReadings 83 = .ok (.iconst 0, 1) := by decide +kernel
theorem dX7_lacksReadings_84 : decode cX7_lacksReadings 84 = .ok (.goto 5, 3) := by decide +kernel
theorem dX7_lacksReadings_87 : decode cX7_lacksReadings 87 = .ok (.bipush (-2), 2) := by decide +kernel
theorem dX7_lacksReadings_89 : decode cX7_lacksReadings 89 = .ok (.istore 5, 2) := by decide +kernel
theorem dX7_lacksReadings_91 : decode cX7_lacksReadings 91 = .ok (.iinc 7 1, 3) := by decide +kernel
theorem dX7_lacksReadings_94 : decode cX7_lacksReadings 94 = .ok (.goto (-70), 3) := by decide +kernel
theorem dX7_lacksReadings_97 : decode cX7_lacksReadings 97 = .ok (.iload 5, 2) := by decide +kernel
theorem dX7_lacksReadings_99 : decode cX7_lacksReadings 99 = .ok (.ireturn, 1) := by decide +kernel
theorem dX7_which_0 : decode cX7_which 0 = .ok (.iload_n 1, 1) := by decide +kernel
theorem dX7_which_1 : decode cX7_which 1 = .ok (.i2l, 1) := by decide +kernel
theorem dX7_which_2 : decode cX7_which 2 = .ok (.lconst 0, 1) := by decide +kernel
theorem dX7_which_3 : decode cX7_which 3 = .ok (.iconst 1, 1) := by decide +kernel
theorem dX7_which_4 : decode cX7_which 4 = .ok (.aload_n 0, 1) := by decide +kernel
theorem dX7_which_5 : decode cX7_which 5 = .ok (.getfield 85, 3) := by decide +kernel
theorem dX7_which_8 : decode cX7_which 8 = .ok (.ishl, 1) := by decide +kernel
theorem dX7_which_9 : decode cX7_which 9 = .ok (.iconst 1, 1) := by decide +kernel
theorem dX7_which_10 : decode cX7_which 10 = .ok (.isub, 1) := by decide +kernel
theorem dX7_which_11 : decode cX7_which 11 = .ok (.i2l, 1) := by decide +kernel
theorem dX7_which_12 : decode cX7_which 12 = .ok (.invokestatic 81, 3) := by decide +kernel
theorem dX7_which_15 : decode cX7_which 15 = .ok (.ifCond .eq 24, 3) := by decide +kernel
theorem dX7_which_18 : decode cX7_which 18 = .ok (.iload_n 2, 1) := by decide +kernel
theorem dX7_which_19 : decode cX7_which 19 = .ok (.iload_n 3, 1) := by decide +kernel
theorem dX7_which_20 : decode cX7_which 20 = .ok (.invokestatic 313, 3) := by decide +kernel
theorem dX7_which_23 : decode cX7_which 23 = .ok (.ifCond .eq 16, 3) := by decide +kernel
theorem dX7_which_26 : decode cX7_which 26 = .ok (.iload 5, 2) := by decide +kernel
theorem dX7_which_28 : decode cX7_which 28 = .ok (.i2l, 1) := by decide +kernel
theorem dX7_which_29 : decode cX7_which 29 = .ok (.lconst 1, 1) := by decide +kernel
theorem dX7_which_30 : decode cX7_which 30 = .ok (.ldc2_w 324, 3) := by decide +kernel
theorem dX7_which_33 : decode cX7_which 33 = .ok (.invokestatic 81, 3) := by decide +kernel
theorem dX7_which_36 : decode cX7_which 36 = .ok (.ifCond .ne 5, 3) := by decide +kernel
theorem dX7_which_39 : decode cX7_which 39 = .ok (.iconst (-1), 1) := by decide +kernel
theorem dX7_which_40 : decode cX7_which 40 = .ok (.ireturn, 1) := by decide +kernel
theorem dX7_which_41 : decode cX7_which 41 = .ok (.aload_n 0, 1) := by decide +kernel
theorem dX7_which_42 : decode cX7_which 42 = .ok (.iload_n 2, 1) := by decide +kernel
theorem dX7_which_43 : decode cX7_which 43 = .ok (.iload_n 3, 1) := by decide +kernel
theorem dX7_which_44 : decode cX7_which 44 = .ok (.iload 4, 2) := by decide +kernel
theorem dX7_which_46 : decode cX7_which 46 = .ok (.iload 5, 2) := by decide +kernel
theorem dX7_which_48 : decode cX7_which 48 = .ok (.invokevirtual 326, 3) := by decide +kernel
theorem dX7_which_51 : decode cX7_which 51 = .ok (.istore 6, 2) := by decide +kernel
theorem dX7_which_53 : decode cX7_which 53 = .ok (.iload 6, 2) := by decide +kernel
theorem dX7_which_55 : decode cX7_which 55 = .ok (.ifCond .ge 6, 3) := by decide +kernel
theorem dX7_which_58 : decode cX7_which 58 = .ok (.iload 6, 2) := by decide +kernel
theorem dX7_which_60 : decode cX7_which 60 = .ok (.ireturn, 1) := by decide +kernel
theorem dX7_which_61 : decode cX7_which 61 = .ok (.bipush 36, 2) := by decide +kernel
theorem dX7_which_63 : decode cX7_which 63 = .ok (.iload_n 2, 1) := by decide +kernel
theorem dX7_which_64 : decode cX7_which 64 = .ok (.imul, 1) := by decide +kernel
theorem dX7_which_65 : decode cX7_which 65 = .ok (.iload 4, 2) := by decide +kernel
theorem dX7_which_67 : decode cX7_which 67 = .ok (.iadd, 1) := by decide +kernel
theorem dX7_which_68 : decode cX7_which 68 = .ok (.istore 7, 2) := by decide +kernel
theorem dX7_which_70 : decode cX7_which 70 = .ok (.iconst 0, 1) := by decide +kernel
theorem dX7_which_71 : decode cX7_which 71 = .ok (.istore 8, 2) := by decide +kernel
theorem dX7_which_73 : decode cX7_which 73 = .ok (.iconst 0, 1) := by decide +kernel
theorem dX7_which_74 : decode cX7_which 74 = .ok (.istore 9, 2) := by decide +kernel
theorem dX7_which_76 : decode cX7_which 76 = .ok (.iload 9, 2) := by decide +kernel
theorem dX7_which_78 : decode cX7_which 78 = .ok (.aload_n 0, 1) := by decide +kernel
theorem dX7_which_79 : decode cX7_which 79 = .ok (.getfield 78, 3) := by decide +kernel
theorem dX7_which_82 : decode cX7_which 82 = .ok (.if_icmp .ge 121, 3) := by decide +kernel
theorem dX7_which_85 : decode cX7_which 85 = .ok (.iconst 0, 1) := by decide +kernel
theorem dX7_which_86 : decode cX7_which 86 = .ok (.istore 10, 2) := by decide +kernel
theorem dX7_which_88 : decode cX7_which 88 = .ok (.iconst 0, 1) := by decide +kernel
theorem dX7_which_89 : decode cX7_which 89 = .ok (.istore 11, 2) := by decide +kernel
theorem dX7_which_91 : decode cX7_which 91 = .ok (.iload 11, 2) := by decide +kernel
theorem dX7_which_93 : decode cX7_which 93 = .ok (.iload 5, 2) := by decide +kernel
theorem dX7_which_95 : decode cX7_which 95 = .ok (.if_icmp .ge 83, 3) := by decide +kernel
theorem dX7_which_98 : decode cX7_which 98 = .ok (.aload_n 0, 1) := by decide +kernel
theorem dX7_which_99 : decode cX7_which 99 = .ok (.aload_n 0, 1) := by decide +kernel
theorem dX7_which_100 : decode cX7_which 100 = .ok (.getfield 68, 3) := by decide +kernel
theorem dX7_which_103 : decode cX7_which 103 = .ok (.iload 7, 2) := by decide +kernel
theorem dX7_which_105 : decode cX7_which 105 = .ok (.iconst 3, 1) := by decide +kernel
theorem dX7_which_106 : decode cX7_which 106 = .ok (.iload 11, 2) := by decide +kernel
theorem dX7_which_108 : decode cX7_which 108 = .ok (.imul, 1) := by decide +kernel
theorem dX7_which_109 : decode cX7_which 109 = .ok (.iadd, 1) := by decide +kernel
theorem dX7_which_110 : decode cX7_which 110 = .ok (.laload, 1) := by decide +kernel
theorem dX7_which_111 : decode cX7_which 111 = .ok (.l2i, 1) := by decide +kernel
theorem dX7_which_112 : decode cX7_which 112 = .ok (.aload_n 0, 1) := by decide +kernel
theorem dX7_which_113 : decode cX7_which 113 = .ok (.getfield 68, 3) := by decide +kernel
theorem dX7_which_116 : decode cX7_which 116 = .ok (.iload 7, 2) := by decide +kernel
theorem dX7_which_118 : decode cX7_which 118 = .ok (.iconst 3, 1) := by decide +kernel
theorem dX7_which_119 : decode cX7_which 119 = .ok (.iload 11, 2) := by decide +kernel
theorem dX7_which_121 : decode cX7_which 121 = .ok (.imul, 1) := by decide +kernel
theorem dX7_which_122 : decode cX7_which 122 = .ok (.iadd, 1) := by decide +kernel
theorem dX7_which_123 : decode cX7_which 123 = .ok (.iconst 1, 1) := by decide +kernel
theorem dX7_which_124 : decode cX7_which 124 = .ok (.iadd, 1) := by decide +kernel
theorem dX7_which_125 : decode cX7_which 125 = .ok (.laload, 1) := by decide +kernel
theorem dX7_which_126 : decode cX7_which 126 = .ok (.l2i, 1) := by decide +kernel
theorem dX7_which_127 : decode cX7_which 127 = .ok (.aload_n 0, 1) := by decide +kernel
theorem dX7_which_128 : decode cX7_which 128 = .ok (.getfield 130, 3) := by decide +kernel
theorem dX7_which_131 : decode cX7_which 131 = .ok (.invokevirtual 247, 3) := by decide +kernel
theorem dX7_which_134 : decode cX7_which 134 = .ok (.iload 9, 2) := by decide +kernel
theorem dX7_which_136 : decode cX7_which 136 = .ok (.invokestatic 153, 3) := by decide +kernel
theorem dX7_which_139 : decode cX7_which 139 = .ok (.istore 12, 2) := by decide +kernel
theorem dX7_which_141 : decode cX7_which 141 = .ok (.iload 10, 2) := by decide +kernel
theorem dX7_which_143 : decode cX7_which 143 = .ok (.iload 12, 2) := by decide +kernel
theorem dX7_which_145 : decode cX7_which 145 = .ok (.ifCond .eq 23, 3) := by decide +kernel
theorem dX7_which_148 : decode cX7_which 148 = .ok (.iconst 1, 1) := by decide +kernel
theorem dX7_which_149 : decode cX7_which 149 = .ok (.aload_n 0, 1) := by decide +kernel
theorem dX7_which_150 : decode cX7_which 150 = .ok (.getfield 68, 3) := by decide +kernel
theorem dX7_which_153 : decode cX7_which 153 = .ok (.iload 7, 2) := by decide +kernel
theorem dX7_which_155 : decode cX7_which 155 = .ok (.iconst 3, 1) := by decide +kernel
theorem dX7_which_156 : decode cX7_which 156 = .ok (.iload 11, 2) := by decide +kernel
theorem dX7_which_158 : decode cX7_which 158 = .ok (.imul, 1) := by decide +kernel
theorem dX7_which_159 : decode cX7_which 159 = .ok (.iadd, 1) := by decide +kernel
theorem dX7_which_160 : decode cX7_which 160 = .ok (.iconst 2, 1) := by decide +kernel
theorem dX7_which_161 : decode cX7_which 161 = .ok (.iadd, 1) := by decide +kernel
theorem dX7_which_162 : decode cX7_which 162 = .ok (.laload, 1) := by decide +kernel
theorem dX7_which_163 : decode cX7_which 163 = .ok (.l2i, 1) := by decide +kernel
theorem dX7_which_164 : decode cX7_which 164 = .ok (.ishl, 1) := by decide +kernel
theorem dX7_which_165 : decode cX7_which 165 = .ok (.goto 4, 3) := by decide +kernel
theorem dX7_which_168 : decode cX7_which 168 = .ok (.iconst 0, 1) := by decide +kernel
theorem dX7_which_169 : decode cX7_which 169 = .ok (.ior, 1) := by decide +kernel
theorem dX7_which_170 : decode cX7_which 170 = .ok (.istore 10, 2) := by decide +kernel
theorem dX7_which_172 : decode cX7_which 172 = .ok (.iinc 11 1, 3) := by decide +kernel
theorem dX7_which_175 : decode cX7_which 175 = .ok (.goto (-84), 3) := by decide +kernel
theorem dX7_which_178 : decode cX7_which 178 = .ok (.iload 8, 2) := by decide +kernel
theorem dX7_which_180 : decode cX7_which 180 = .ok (.iload 10, 2) := by decide +kernel
theorem dX7_which_182 : decode cX7_which 182 = .ok (.iload_n 1, 1) := by decide +kernel
theorem dX7_which_183 : decode cX7_which 183 = .ok (.if_icmp .ne 10, 3) := by decide +kernel
theorem dX7_which_186 : decode cX7_which 186 = .ok (.iconst 1, 1) := by decide +kernel
theorem dX7_which_187 : decode cX7_which 187 = .ok (.iload 9, 2) := by decide +kernel
theorem dX7_which_189 : decode cX7_which 189 = .ok (.ishl, 1) := by decide +kernel
theorem dX7_which_190 : decode cX7_which 190 = .ok (.goto 4, 3) := by decide +kernel
theorem dX7_which_193 : decode cX7_which 193 = .ok (.iconst 0, 1) := by decide +kernel
theorem dX7_which_194 : decode cX7_which 194 = .ok (.ior, 1) := by decide +kernel
theorem dX7_which_195 : decode cX7_which 195 = .ok (.istore 8, 2) := by decide +kernel
theorem dX7_which_197 : decode cX7_which 197 = .ok (.iinc 9 1, 3) := by decide +kernel
theorem dX7_which_200 : decode cX7_which 200 = .ok (.goto (-124), 3) := by decide +kernel
theorem dX7_which_203 : decode cX7_which 203 = .ok (.iload 8, 2) := by decide +kernel
theorem dX7_which_205 : decode cX7_which 205 = .ok (.ireturn, 1) := by decide +kernel
theorem dX7_judged_0 : decode cX7_judged 0 = .ok (.iload_n 1, 1) := by decide +kernel
theorem dX7_judged_1 : decode cX7_judged 1 = .ok (.iload_n 2, 1) := by decide +kernel
theorem dX7_judged_2 : decode cX7_judged 2 = .ok (.invokestatic 313, 3) := by decide +kernel
theorem dX7_judged_5 : decode cX7_judged 5 = .ok (.ifCond .eq 16, 3) := by decide +kernel
theorem dX7_judged_8 : decode cX7_judged 8 = .ok (.iload 4, 2) := by decide +kernel
theorem dX7_judged_10 : decode cX7_judged 10 = .ok (.i2l, 1) := by decide +kernel
theorem dX7_judged_11 : decode cX7_judged 11 = .ok (.lconst 1, 1) := by decide +kernel
theorem dX7_judged_12 : decode cX7_judged 12 = .ok (.ldc2_w 324, 3) := by decide +kernel
theorem dX7_judged_15 : decode cX7_judged 15 = .ok (.invokestatic 81, 3) := by decide +kernel
theorem dX7_judged_18 : decode cX7_judged 18 = .ok (.ifCond .ne 5, 3) := by decide +kernel
theorem dX7_judged_21 : decode cX7_judged 21 = .ok (.iconst (-1), 1) := by decide +kernel
theorem dX7_judged_22 : decode cX7_judged 22 = .ok (.ireturn, 1) := by decide +kernel
theorem dX7_judged_23 : decode cX7_judged 23 = .ok (.aload_n 0, 1) := by decide +kernel
theorem dX7_judged_24 : decode cX7_judged 24 = .ok (.iload_n 1, 1) := by decide +kernel
theorem dX7_judged_25 : decode cX7_judged 25 = .ok (.iload_n 2, 1) := by decide +kernel
theorem dX7_judged_26 : decode cX7_judged 26 = .ok (.iload_n 3, 1) := by decide +kernel
theorem dX7_judged_27 : decode cX7_judged 27 = .ok (.iload 4, 2) := by decide +kernel
theorem dX7_judged_29 : decode cX7_judged 29 = .ok (.invokevirtual 326, 3) := by decide +kernel
theorem dX7_judged_32 : decode cX7_judged 32 = .ok (.istore 5, 2) := by decide +kernel
theorem dX7_judged_34 : decode cX7_judged 34 = .ok (.iload 5, 2) := by decide +kernel
theorem dX7_judged_36 : decode cX7_judged 36 = .ok (.ifCond .ge 6, 3) := by decide +kernel
theorem dX7_judged_39 : decode cX7_judged 39 = .ok (.iload 5, 2) := by decide +kernel
theorem dX7_judged_41 : decode cX7_judged 41 = .ok (.ireturn, 1) := by decide +kernel
theorem dX7_judged_42 : decode cX7_judged 42 = .ok (.iconst 0, 1) := by decide +kernel
theorem dX7_judged_43 : decode cX7_judged 43 = .ok (.istore 6, 2) := by decide +kernel
theorem dX7_judged_45 : decode cX7_judged 45 = .ok (.iload 6, 2) := by decide +kernel
theorem dX7_judged_47 : decode cX7_judged 47 = .ok (.sipush 141, 3) := by decide +kernel
theorem dX7_judged_50 : decode cX7_judged 50 = .ok (.if_icmp .ge 23, 3) := by decide +kernel
theorem dX7_judged_53 : decode cX7_judged 53 = .ok (.aload_n 0, 1) := by decide +kernel
theorem dX7_judged_54 : decode cX7_judged 54 = .ok (.getfield 72, 3) := by decide +kernel
theorem dX7_judged_57 : decode cX7_judged 57 = .ok (.iload 6, 2) := by decide +kernel
theorem dX7_judged_59 : decode cX7_judged 59 = .ok (.aload_n 0, 1) := by decide +kernel
theorem dX7_judged_60 : decode cX7_judged 60 = .ok (.getfield 38, 3) := by decide +kernel
theorem dX7_judged_63 : decode cX7_judged 63 = .ok (.iload 6, 2) := by decide +kernel
theorem dX7_judged_65 : decode cX7_judged 65 = .ok (.iaload, 1) := by decide +kernel
theorem dX7_judged_66 : decode cX7_judged 66 = .ok (.iastore, 1) := by decide +kernel
theorem dX7_judged_67 : decode cX7_judged 67 = .ok (.iinc 6 1, 3) := by decide +kernel
theorem dX7_judged_70 : decode cX7_judged 70 = .ok (.goto (-25), 3) := by decide +kernel
theorem dX7_judged_73 : decode cX7_judged 73 = .ok (.bipush 36, 2) := by decide +kernel
theorem dX7_judged_75 : decode cX7_judged 75 = .ok (.iload_n 1, 1) := by decide +kernel
theorem dX7_judged_76 : decode cX7_judged 76 = .ok (.imul, 1) := by decide +kernel
theorem dX7_judged_77 : decode cX7_judged 77 = .ok (.iload_n 3, 1) := by decide +kernel
theorem dX7_judged_78 : decode cX7_judged 78 = .ok (.iadd, 1) := by decide +kernel
theorem dX7_judged_79 : decode cX7_judged 79 = .ok (.istore 6, 2) := by decide +kernel
theorem dX7_judged_81 : decode cX7_judged 81 = .ok (.bipush (-4), 2) := by decide +kernel
theorem dX7_judged_83 : decode cX7_judged 83 = .ok (.istore 7, 2) := by decide +kernel
theorem dX7_judged_85 : decode cX7_judged 85 = .ok (.iconst 0, 1) := by decide +kernel
theorem dX7_judged_86 : decode cX7_judged 86 = .ok (.istore 8, 2) := by decide +kernel
theorem dX7_judged_88 : decode cX7_judged 88 = .ok (.iload 8, 2) := by decide +kernel
theorem dX7_judged_90 : decode cX7_judged 90 = .ok (.iload 4, 2) := by decide +kernel
theorem dX7_judged_92 : decode cX7_judged 92 = .ok (.if_icmp .ge 95, 3) := by decide +kernel
theorem dX7_judged_95 : decode cX7_judged 95 = .ok (.iload 7, 2) := by decide +kernel
theorem dX7_judged_97 : decode cX7_judged 97 = .ok (.ifCond .ge 90, 3) := by decide +kernel
theorem dX7_judged_100 : decode cX7_judged 100 = .ok (.aload_n 0, 1) := by decide +kernel
theorem dX7_judged_101 : decode cX7_judged 101 = .ok (.getfield 68, 3) := by decide +kernel
theorem dX7_judged_104 : decode cX7_judged 104 = .ok (.iload 6, 2) := by decide +kernel
theorem dX7_judged_106 : decode cX7_judged 106 = .ok (.iconst 3, 1) := by decide +kernel
theorem dX7_judged_107 : decode cX7_judged 107 = .ok (.iload 8, 2) := by decide +kernel
theorem dX7_judged_109 : decode cX7_judged 109 = .ok (.imul, 1) := by decide +kernel
theorem dX7_judged_110 : decode cX7_judged 110 = .ok (.iadd, 1) := by decide +kernel
theorem dX7_judged_111 : decode cX7_judged 111 = .ok (.laload, 1) := by decide +kernel
theorem dX7_judged_112 : decode cX7_judged 112 = .ok (.l2i, 1) := by decide +kernel
theorem dX7_judged_113 : decode cX7_judged 113 = .ok (.istore 9, 2) := by decide +kernel
theorem dX7_judged_115 : decode cX7_judged 115 = .ok (.aload_n 0, 1) := by decide +kernel
theorem dX7_judged_116 : decode cX7_judged 116 = .ok (.getfield 68, 3) := by decide +kernel
theorem dX7_judged_119 : decode cX7_judged 119 = .ok (.iload 6, 2) := by decide +kernel
theorem dX7_judged_121 : decode cX7_judged 121 = .ok (.iconst 3, 1) := by decide +kernel
theorem dX7_judged_122 : decode cX7_judged 122 = .ok (.iload 8, 2) := by decide +kernel
theorem dX7_judged_124 : decode cX7_judged 124 = .ok (.imul, 1) := by decide +kernel
theorem dX7_judged_125 : decode cX7_judged 125 = .ok (.iadd, 1) := by decide +kernel
theorem dX7_judged_126 : decode cX7_judged 126 = .ok (.iconst 1, 1) := by decide +kernel
theorem dX7_judged_127 : decode cX7_judged 127 = .ok (.iadd, 1) := by decide +kernel
theorem dX7_judged_128 : decode cX7_judged 128 = .ok (.laload, 1) := by decide +kernel
theorem dX7_judged_129 : decode cX7_judged 129 = .ok (.l2i, 1) := by decide +kernel
theorem dX7_judged_130 : decode cX7_judged 130 = .ok (.istore 10, 2) := by decide +kernel
theorem dX7_judged_132 : decode cX7_judged 132 = .ok (.aload_n 0, 1) := by decide +kernel
theorem dX7_judged_133 : decode cX7_judged 133 = .ok (.getfield 68, 3) := by decide +kernel
theorem dX7_judged_136 : decode cX7_judged 136 = .ok (.iload 6, 2) := by decide +kernel
theorem dX7_judged_138 : decode cX7_judged 138 = .ok (.iconst 3, 1) := by decide +kernel
theorem dX7_judged_139 : decode cX7_judged 139 = .ok (.iload 8, 2) := by decide +kernel
theorem dX7_judged_141 : decode cX7_judged 141 = .ok (.imul, 1) := by decide +kernel
theorem dX7_judged_142 : decode cX7_judged 142 = .ok (.iadd, 1) := by decide +kernel
theorem dX7_judged_143 : decode cX7_judged 143 = .ok (.iconst 2, 1) := by decide +kernel
theorem dX7_judged_144 : decode cX7_judged 144 = .ok (.iadd, 1) := by decide +kernel
theorem dX7_judged_145 : decode cX7_judged 145 = .ok (.laload, 1) := by decide +kernel
theorem dX7_judged_146 : decode cX7_judged 146 = .ok (.l2i, 1) := by decide +kernel
theorem dX7_judged_147 : decode cX7_judged 147 = .ok (.istore 11, 2) := by decide +kernel
theorem dX7_judged_149 : decode cX7_judged 149 = .ok (.aload_n 0, 1) := by decide +kernel
theorem dX7_judged_150 : decode cX7_judged 150 = .ok (.iload 9, 2) := by decide +kernel
theorem dX7_judged_152 : decode cX7_judged 152 = .ok (.iload 10, 2) := by decide +kernel
theorem dX7_judged_154 : decode cX7_judged 154 = .ok (.iload 11, 2) := by decide +kernel
theorem dX7_judged_156 : decode cX7_judged 156 = .ok (.invokevirtual 238, 3) := by decide +kernel
theorem dX7_judged_159 : decode cX7_judged 159 = .ok (.ifCond .ne 8, 3) := by decide +kernel
theorem dX7_judged_162 : decode cX7_judged 162 = .ok (.bipush (-4), 2) := by decide +kernel
theorem dX7_judged_164 : decode cX7_judged 164 = .ok (.goto 5, 3) := by decide +kernel
theorem dX7_judged_167 : decode cX7_judged 167 = .ok (.iload 8, 2) := by decide +kernel
theorem dX7_judged_169 : decode cX7_judged 169 = .ok (.istore 7, 2) := by decide +kernel
theorem dX7_judged_171 : decode cX7_judged 171 = .ok (.aload_n 0, 1) := by decide +kernel
theorem dX7_judged_172 : decode cX7_judged 172 = .ok (.iload 9, 2) := by decide +kernel
theorem dX7_judged_174 : decode cX7_judged 174 = .ok (.iload 10, 2) := by decide +kernel
theorem dX7_judged_176 : decode cX7_judged 176 = .ok (.iload 11, 2) := by decide +kernel
theorem dX7_judged_178 : decode cX7_judged 178 = .ok (.invokevirtual 256, 3) := by decide +kernel
theorem dX7_judged_181 : decode cX7_judged 181 = .ok (.iinc 8 1, 3) := by decide +kernel
theorem dX7_judged_184 : decode cX7_judged 184 = .ok (.goto (-96), 3) := by decide +kernel
theorem dX7_judged_187 : decode cX7_judged 187 = .ok (.iconst 0, 1) := by decide +kernel
theorem dX7_judged_188 : decode cX7_judged 188 = .ok (.istore 8, 2) := by decide +kernel
theorem dX7_judged_190 : decode cX7_judged 190 = .ok (.iload 8, 2) := by decide +kernel
theorem dX7_judged_192 : decode cX7_judged 192 = .ok (.sipush 141, 3) := by decide +kernel
theorem dX7_judged_195 : decode cX7_judged 195 = .ok (.if_icmp .ge 23, 3) := by decide +kernel
theorem dX7_judged_198 : decode cX7_judged 198 = .ok (.aload_n 0, 1) := by decide +kernel
theorem dX7_judged_199 : decode cX7_judged 199 = .ok (.getfield 38, 3) := by decide +kernel
theorem dX7_judged_202 : decode cX7_judged 202 = .ok (.iload 8, 2) := by decide +kernel
theorem dX7_judged_204 : decode cX7_judged 204 = .ok (.aload_n 0, 1) := by decide +kernel
theorem dX7_judged_205 : decode cX7_judged 205 = .ok (.getfield 72, 3) := by decide +kernel
theorem dX7_judged_208 : decode cX7_judged 208 = .ok (.iload 8, 2) := by decide +kernel
theorem dX7_judged_210 : decode cX7_judged 210 = .ok (.iaload, 1) := by decide +kernel
theorem dX7_judged_211 : decode cX7_judged 211 = .ok (.iastore, 1) := by decide +kernel
theorem dX7_judged_212 : decode cX7_judged 212 = .ok (.iinc 8 1, 3) := by decide +kernel
theorem dX7_judged_215 : decode cX7_judged 215 = .ok (.goto (-25), 3) := by decide +kernel
theorem dX7_judged_218 : decode cX7_judged 218 = .ok (.iload 7, 2) := by decide +kernel
theorem dX7_judged_220 : decode cX7_judged 220 = .ok (.ireturn, 1) := by decide +kernel
theorem dX7_film_0 : decode cX7_film 0 = .ok (.iload_n 1, 1) := by decide +kernel
theorem dX7_film_1 : decode cX7_film 1 = .ok (.iload_n 2, 1) := by decide +kernel
theorem dX7_film_2 : decode cX7_film 2 = .ok (.invokestatic 313, 3) := by decide +kernel
theorem dX7_film_5 : decode cX7_film 5 = .ok (.ifCond .ne 5, 3) := by decide +kernel
theorem dX7_film_8 : decode cX7_film 8 = .ok (.iconst (-1), 1) := by decide +kernel
theorem dX7_film_9 : decode cX7_film 9 = .ok (.ireturn, 1) := by decide +kernel
theorem dX7_film_10 : decode cX7_film 10 = .ok (.aload_n 0, 1) := by decide +kernel
theorem dX7_film_11 : decode cX7_film 11 = .ok (.iload_n 1, 1) := by decide +kernel
theorem dX7_film_12 : decode cX7_film 12 = .ok (.iload_n 2, 1) := by decide +kernel
theorem dX7_film_13 : decode cX7_film 13 = .ok (.iload_n 3, 1) := by decide +kernel
theorem dX7_film_14 : decode cX7_film 14 = .ok (.aload_n 0, 1) := by decide +kernel
theorem dX7_film_15 : decode cX7_film 15 = .ok (.getfield 78, 3) := by decide +kernel
theorem dX7_film_18 : decode cX7_film 18 = .ok (.invokevirtual 316, 3) := by decide +kernel
theorem dX7_film_21 : decode cX7_film 21 = .ok (.istore 4, 2) := by decide +kernel
theorem dX7_film_23 : decode cX7_film 23 = .ok (.iload 4, 2) := by decide +kernel
theorem dX7_film_25 : decode cX7_film 25 = .ok (.ifCond .ge 6, 3) := by decide +kernel
theorem dX7_film_28 : decode cX7_film 28 = .ok (.iload 4, 2) := by decide +kernel
theorem dX7_film_30 : decode cX7_film 30 = .ok (.ireturn, 1) := by decide +kernel
theorem dX7_film_31 : decode cX7_film 31 = .ok (.iconst 0, 1) := by decide +kernel
theorem dX7_film_32 : decode cX7_film 32 = .ok (.istore 5, 2) := by decide +kernel
theorem dX7_film_34 : decode cX7_film 34 = .ok (.iload 5, 2) := by decide +kernel
theorem dX7_film_36 : decode cX7_film 36 = .ok (.aload_n 0, 1) := by decide +kernel
theorem dX7_film_37 : decode cX7_film 37 = .ok (.getfield 78, 3) := by decide +kernel
theorem dX7_film_40 : decode cX7_film 40 = .ok (.if_icmp .ge 34, 3) := by decide +kernel
theorem dX7_film_43 : decode cX7_film 43 = .ok (.aload_n 0, 1) := by decide +kernel
theorem dX7_film_44 : decode cX7_film 44 = .ok (.getfield 68, 3) := by decide +kernel
theorem dX7_film_47 : decode cX7_film 47 = .ok (.bipush 36, 2) := by decide +kernel
theorem dX7_film_49 : decode cX7_film 49 = .ok (.iload_n 1, 1) := by decide +kernel
theorem dX7_film_50 : decode cX7_film 50 = .ok (.imul, 1) := by decide +kernel
theorem dX7_film_51 : decode cX7_film 51 = .ok (.iload_n 3, 1) := by decide +kernel
theorem dX7_film_52 : decode cX7_film 52 = .ok (.iadd, 1) := by decide +kernel
theorem dX7_film_53 : decode cX7_film 53 = .ok (.iload 5, 2) := by decide +kernel
theorem dX7_film_55 : decode cX7_film 55 = .ok (.iadd, 1) := by decide +kernel
theorem dX7_film_56 : decode cX7_film 56 = .ok (.iload_n 2, 1) := by decide +kernel
theorem dX7_film_57 : decode cX7_film 57 = .ok (.aload_n 0, 1) := by decide +kernel
theorem dX7_film_58 : decode cX7_film 58 = .ok (.iload 5, 2) := by decide +kernel
theorem dX7_film_60 : decode cX7_film 60 = .ok (.invokevirtual 163, 3) := by decide +kernel
theorem dX7_film_63 : decode cX7_film 63 = .ok (.i2l, 1) := by decide +kernel
theorem dX7_film_64 : decode cX7_film 64 = .ok (.invokestatic 320, 3) := by decide +kernel
theorem dX7_film_67 : decode cX7_film 67 = .ok (.lastore, 1) := by decide +kernel
theorem dX7_film_68 : decode cX7_film 68 = .ok (.iinc 5 1, 3) := by decide +kernel
theorem dX7_film_71 : decode cX7_film 71 = .ok (.goto (-37), 3) := by decide +kernel
theorem dX7_film_74 : decode cX7_film 74 = .ok (.aload_n 0, 1) := by decide +kernel
theorem dX7_film_75 : decode cX7_film 75 = .ok (.getfield 78, 3) := by decide +kernel
theorem dX7_film_78 : decode cX7_film 78 = .ok (.ireturn, 1) := by decide +kernel
theorem dX7_copy_0 : decode cX7_copy 0 = .ok (.iload_n 1, 1) := by decide +kernel
theorem dX7_copy_1 : decode cX7_copy 1 = .ok (.i2l, 1) := by decide +kernel
theorem dX7_copy_2 : decode cX7_copy 2 = .ok (.lconst 0, 1) := by decide +kernel
theorem dX7_copy_3 : decode cX7_copy 3 = .ok (.ldc2_w 311, 3) := by decide +kernel
theorem dX7_copy_6 : decode cX7_copy 6 = .ok (.invokestatic 81, 3) := by decide +kernel
theorem dX7_copy_9 : decode cX7_copy 9 = .ok (.ifCond .eq 15, 3) := by decide +kernel
theorem dX7_copy_12 : decode cX7_copy 12 = .ok (.iload_n 3, 1) := by decide +kernel
theorem dX7_copy_13 : decode cX7_copy 13 = .ok (.i2l, 1) := by decide +kernel
theorem dX7_copy_14 : decode cX7_copy 14 = .ok (.lconst 0, 1) := by decide +kernel
theorem dX7_copy_15 : decode cX7_copy 15 = .ok (.ldc2_w 311, 3) := by decide +kernel
theorem dX7_copy_18 : decode cX7_copy 18 = .ok (.invokestatic 81, 3) := by decide +kernel
theorem dX7_copy_21 : decode cX7_copy 21 = .ok (.ifCond .ne 5, 3) := by decide +kernel
theorem dX7_copy_24 : decode cX7_copy 24 = .ok (.iconst (-1), 1) := by decide +kernel
theorem dX7_copy_25 : decode cX7_copy 25 = .ok (.ireturn, 1) := by decide +kernel
theorem dX7_copy_26 : decode cX7_copy 26 = .ok (.aload_n 0, 1) := by decide +kernel
theorem dX7_copy_27 : decode cX7_copy 27 = .ok (.getfield 62, 3) := by decide +kernel
theorem dX7_copy_30 : decode cX7_copy 30 = .ok (.iload_n 1, 1) := by decide +kernel
theorem dX7_copy_31 : decode cX7_copy 31 = .ok (.iaload, 1) := by decide +kernel
theorem dX7_copy_32 : decode cX7_copy 32 = .ok (.ifCond .lt 12, 3) := by decide +kernel
theorem dX7_copy_35 : decode cX7_copy 35 = .ok (.aload_n 0, 1) := by decide +kernel
theorem dX7_copy_36 : decode cX7_copy 36 = .ok (.getfield 62, 3) := by decide +kernel
theorem dX7_copy_39 : decode cX7_copy 39 = .ok (.iload_n 3, 1) := by decide +kernel
theorem dX7_copy_40 : decode cX7_copy 40 = .ok (.iaload, 1) := by decide +kernel
theorem dX7_copy_41 : decode cX7_copy 41 = .ok (.ifCond .ge 6, 3) := by decide +kernel
theorem dX7_copy_44 : decode cX7_copy 44 = .ok (.bipush (-11), 2) := by decide +kernel
theorem dX7_copy_46 : decode cX7_copy 46 = .ok (.ireturn, 1) := by decide +kernel
theorem dX7_copy_47 : decode cX7_copy 47 = .ok (.aload_n 0, 1) := by decide +kernel
theorem dX7_copy_48 : decode cX7_copy 48 = .ok (.getfield 62, 3) := by decide +kernel
theorem dX7_copy_51 : decode cX7_copy 51 = .ok (.iload_n 1, 1) := by decide +kernel
theorem dX7_copy_52 : decode cX7_copy 52 = .ok (.iaload, 1) := by decide +kernel
theorem dX7_copy_53 : decode cX7_copy 53 = .ok (.aload_n 0, 1) := by decide +kernel
theorem dX7_copy_54 : decode cX7_copy 54 = .ok (.getfield 62, 3) := by decide +kernel
theorem dX7_copy_57 : decode cX7_copy 57 = .ok (.iload_n 3, 1) := by decide +kernel
theorem dX7_copy_58 : decode cX7_copy 58 = .ok (.iaload, 1) := by decide +kernel
theorem dX7_copy_59 : decode cX7_copy 59 = .ok (.if_icmp .eq 6, 3) := by decide +kernel
theorem dX7_copy_62 : decode cX7_copy 62 = .ok (.bipush (-12), 2) := by decide +kernel
theorem dX7_copy_64 : decode cX7_copy 64 = .ok (.ireturn, 1) := by decide +kernel
theorem dX7_copy_65 : decode cX7_copy 65 = .ok (.iload 5, 2) := by decide +kernel
theorem dX7_copy_67 : decode cX7_copy 67 = .ok (.ifCond .lt 44, 3) := by decide +kernel
theorem dX7_copy_70 : decode cX7_copy 70 = .ok (.iload_n 2, 1) := by decide +kernel
theorem dX7_copy_71 : decode cX7_copy 71 = .ok (.i2l, 1) := by decide +kernel
theorem dX7_copy_72 : decode cX7_copy 72 = .ok (.lconst 0, 1) := by decide +kernel
theorem dX7_copy_73 : decode cX7_copy 73 = .ok (.aload_n 0, 1) := by decide +kernel
theorem dX7_copy_74 : decode cX7_copy 74 = .ok (.getfield 65, 3) := by decide +kernel
theorem dX7_copy_77 : decode cX7_copy 77 = .ok (.iload_n 1, 1) := by decide +kernel
theorem dX7_copy_78 : decode cX7_copy 78 = .ok (.iaload, 1) := by decide +kernel
theorem dX7_copy_79 : decode cX7_copy 79 = .ok (.i2l, 1) := by decide +kernel
theorem dX7_copy_80 : decode cX7_copy 80 = .ok (.iload 5, 2) := by decide +kernel
theorem dX7_copy_82 : decode cX7_copy 82 = .ok (.i2l, 1) := by decide +kernel
theorem dX7_copy_83 : decode cX7_copy 83 = .ok (.lsub, 1) := by decide +kernel
theorem dX7_copy_84 : decode cX7_copy 84 = .ok (.invokestatic 81, 3) := by decide +kernel
theorem dX7_copy_87 : decode cX7_copy 87 = .ok (.ifCond .eq 24, 3) := by decide +kernel
theorem dX7_copy_90 : decode cX7_copy 90 = .ok (.iload 4, 2) := by decide +kernel
theorem dX7_copy_92 : decode cX7_copy 92 = .ok (.i2l, 1) := by decide +kernel
theorem dX7_copy_93 : decode cX7_copy 93 = .ok (.lconst 0, 1) := by decide +kernel
theorem dX7_copy_94 : decode cX7_copy 94 = .ok (.aload_n 0, 1) := by decide +kernel
theorem dX7_copy_95 : decode cX7_copy 95 = .ok (.getfield 65, 3) := by decide +kernel
theorem dX7_copy_98 : decode cX7_copy 98 = .ok (.iload_n 3, 1) := by decide +kernel
theorem dX7_copy_99 : decode cX7_copy 99 = .ok (.iaload, 1) := by decide +kernel
theorem dX7_copy_100 : decode cX7_copy 100 = .ok (.i2l, 1) := by decide +kernel
theorem dX7_copy_101 : decode cX7_copy 101 = .ok (.iload 5, 2) := by decide +kernel
theorem dX7_copy_103 : decode cX7_copy 103 = .ok (.i2l, 1) := by decide +kernel
theorem dX7_copy_104 : decode cX7_copy 104 = .ok (.lsub, 1) := by decide +kernel
theorem dX7_copy_105 : decode cX7_copy 105 = .ok (.invokestatic 81, 3) := by decide +kernel
theorem dX7_copy_108 : decode cX7_copy 108 = .ok (.ifCond .ne 6, 3) := by decide +kernel
theorem dX7_copy_111 : decode cX7_copy 111 = .ok (.bipush (-13), 2) := by decide +kernel
theorem dX7_copy_113 : decode cX7_copy 113 = .ok (.ireturn, 1) := by decide +kernel
theorem dX7_copy_114 : decode cX7_copy 114 = .ok (.iconst 0, 1) := by decide +kernel
theorem dX7_copy_115 : decode cX7_copy 115 = .ok (.istore 6, 2) := by decide +kernel
theorem dX7_copy_117 : decode cX7_copy 117 = .ok (.iload 6, 2) := by decide +kernel
theorem dX7_copy_119 : decode cX7_copy 119 = .ok (.iload 5, 2) := by decide +kernel
theorem dX7_copy_121 : decode cX7_copy 121 = .ok (.if_icmp .ge 30, 3) := by decide +kernel
theorem dX7_copy_124 : decode cX7_copy 124 = .ok (.aload_n 0, 1) := by decide +kernel
theorem dX7_copy_125 : decode cX7_copy 125 = .ok (.getfield 75, 3) := by decide +kernel
theorem dX7_copy_128 : decode cX7_copy 128 = .ok (.iload 6, 2) := by decide +kernel
theorem dX7_copy_130 : decode cX7_copy 130 = .ok (.aload_n 0, 1) := by decide +kernel
theorem dX7_copy_131 : decode cX7_copy 131 = .ok (.getfield 68, 3) := by decide +kernel
theorem dX7_copy_134 : decode cX7_copy 134 = .ok (.bipush 36, 2) := by decide +kernel
theorem dX7_copy_136 : decode cX7_copy 136 = .ok (.iload_n 1, 1) := by decide +kernel
theorem dX7_copy_137 : decode cX7_copy 137 = .ok (.imul, 1) := by decide +kernel
theorem dX7_copy_138 : decode cX7_copy 138 = .ok (.iload_n 2, 1) := by decide +kernel
theorem dX7_copy_139 : decode cX7_copy 139 = .ok (.iadd, 1) := by decide +kernel
theorem dX7_copy_140 : decode cX7_copy 140 = .ok (.iload 6, 2) := by decide +kernel
theorem dX7_copy_142 : decode cX7_copy 142 = .ok (.iadd, 1) := by decide +kernel
theorem dX7_copy_143 : decode cX7_copy 143 = .ok (.laload, 1) := by decide +kernel
theorem dX7_copy_144 : decode cX7_copy 144 = .ok (.lastore, 1) := by decide +kernel
theorem dX7_copy_145 : decode cX7_copy 145 = .ok (.iinc 6 1, 3) := by decide +kernel
theorem dX7_copy_148 : decode cX7_copy 148 = .ok (.goto (-31), 3) := by decide +kernel
theorem dX7_copy_151 : decode cX7_copy 151 = .ok (.iconst 0, 1) := by decide +kernel
theorem dX7_copy_152 : decode cX7_copy 152 = .ok (.istore 6, 2) := by decide +kernel
theorem dX7_copy_154 : decode cX7_copy 154 = .ok (.iload 6, 2) := by decide +kernel
theorem dX7_copy_156 : decode cX7_copy 156 = .ok (.iload 5, 2) := by decide +kernel
theorem dX7_copy_158 : decode cX7_copy 158 = .ok (.if_icmp .ge 31, 3) := by decide +kernel
theorem dX7_copy_161 : decode cX7_copy 161 = .ok (.aload_n 0, 1) := by decide +kernel
theorem dX7_copy_162 : decode cX7_copy 162 = .ok (.getfield 68, 3) := by decide +kernel
theorem dX7_copy_165 : decode cX7_copy 165 = .ok (.bipush 36, 2) := by decide +kernel
theorem dX7_copy_167 : decode cX7_copy 167 = .ok (.iload_n 3, 1) := by decide +kernel
theorem dX7_copy_168 : decode cX7_copy 168 = .ok (.imul, 1) := by decide +kernel
theorem dX7_copy_169 : decode cX7_copy 169 = .ok (.iload 4, 2) := by decide +kernel
theorem dX7_copy_171 : decode cX7_copy 171 = .ok (.iadd, 1) := by decide +kernel
theorem dX7_copy_172 : decode cX7_copy 172 = .ok (.iload 6, 2) := by decide +kernel
theorem dX7_copy_174 : decode cX7_copy 174 = .ok (.iadd, 1) := by decide +kernel
theorem dX7_copy_175 : decode cX7_copy 175 = .ok (.aload_n 0, 1) := by decide +kernel
theorem dX7_copy_176 : decode cX7_copy 176 = .ok (.getfield 75, 3) := by decide +kernel
theorem dX7_copy_179 : decode cX7_copy 179 = .ok (.iload 6, 2) := by decide +kernel
theorem dX7_copy_181 : decode cX7_copy 181 = .ok (.laload, 1) := by decide +kernel
theorem dX7_copy_182 : decode cX7_copy 182 = .ok (.lastore, 1) := by decide +kernel
theorem dX7_copy_183 : decode cX7_copy 183 = .ok (.iinc 6 1, 3) := by decide +kernel
theorem dX7_copy_186 : decode cX7_copy 186 = .ok (.goto (-32), 3) := by decide +kernel
theorem dX7_copy_189 : decode cX7_copy 189 = .ok (.iload 5, 2) := by decide +kernel
theorem dX7_copy_191 : decode cX7_copy 191 = .ok (.ireturn, 1) := by decide +kernel
