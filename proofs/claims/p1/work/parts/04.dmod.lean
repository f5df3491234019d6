theorem d_Mo_init_0 : decode b_Mo_init 0 = .ok (.aload_n 0, 1) := by decide +kernel
theorem d_Mo_init_1 : decode b_Mo_init 1 = .ok (.invokespecial 1, 3) := by decide +kernel
theorem d_Mo_init_4 : decode b_Mo_init 4 = .ok (.aload_n 0, 1) := by decide +kernel
theorem d_Mo_init_5 : decode b_Mo_init 5 = .ok (.bipush 40, 2) := by decide +kernel
theorem d_Mo_init_7 : decode b_Mo_init 7 = .ok (.newarray .int, 2) := by decide +kernel
theorem d_Mo_init_9 : decode b_Mo_init 9 = .ok (.putfield 7, 3) := by decide +kernel
theorem d_Mo_init_12 : decode b_Mo_init 12 = .ok (.aload_n 0, 1) := by decide +kernel
theorem d_Mo_init_13 : decode b_Mo_init 13 = .ok (.bipush 40, 2) := by decide +kernel
theorem d_Mo_init_15 : decode b_Mo_init 15 = .ok (.newarray .long, 2) := by decide +kernel
theorem d_Mo_init_17 : decode b_Mo_init 17 = .ok (.putfield 13, 3) := by decide +kernel
theorem d_Mo_init_20 : decode b_Mo_init 20 = .ok (.aload_n 0, 1) := by decide +kernel
theorem d_Mo_init_21 : decode b_Mo_init 21 = .ok (.bipush 40, 2) := by decide +kernel
theorem d_Mo_init_23 : decode b_Mo_init 23 = .ok (.newarray .int, 2) := by decide +kernel
theorem d_Mo_init_25 : decode b_Mo_init 25 = .ok (.putfield 17, 3) := by decide +kernel
theorem d_Mo_init_28 : decode b_Mo_init 28 = .ok (.aload_n 0, 1) := by decide +kernel
theorem d_Mo_init_29 : decode b_Mo_init 29 = .ok (.sipush 320, 3) := by decide +kernel
theorem d_Mo_init_32 : decode b_Mo_init 32 = .ok (.newarray .int, 2) := by decide +kernel
theorem d_Mo_init_34 : decode b_Mo_init 34 = .ok (.putfield 20, 3) := by decide +kernel
theorem d_Mo_init_37 : decode b_Mo_init 37 = .ok (.aload_n 0, 1) := by decide +kernel
theorem d_Mo_init_38 : decode b_Mo_init 38 = .ok (.sipush 480, 3) := by decide +kernel
theorem d_Mo_init_41 : decode b_Mo_init 41 = .ok (.newarray .int, 2) := by decide +kernel
theorem d_Mo_init_43 : decode b_Mo_init 43 = .ok (.putfield 23, 3) := by decide +kernel
theorem d_Mo_init_46 : decode b_Mo_init 46 = .ok (.aload_n 0, 1) := by decide +kernel
theorem d_Mo_init_47 : decode b_Mo_init 47 = .ok (.bipush 40, 2) := by decide +kernel
theorem d_Mo_init_49 : decode b_Mo_init 49 = .ok (.newarray .int, 2) := by decide +kernel
theorem d_Mo_init_51 : decode b_Mo_init 51 = .ok (.putfield 26, 3) := by decide +kernel
theorem d_Mo_init_54 : decode b_Mo_init 54 = .ok (.aload_n 0, 1) := by decide +kernel
theorem d_Mo_init_55 : decode b_Mo_init 55 = .ok (.bipush 8, 2) := by decide +kernel
theorem d_Mo_init_57 : decode b_Mo_init 57 = .ok (.newarray .int, 2) := by decide +kernel
theorem d_Mo_init_59 : decode b_Mo_init 59 = .ok (.putfield 29, 3) := by decide +kernel
theorem d_Mo_init_62 : decode b_Mo_init 62 = .ok (.aload_n 0, 1) := by decide +kernel
theorem d_Mo_init_63 : decode b_Mo_init 63 = .ok (.bipush 48, 2) := by decide +kernel
theorem d_Mo_init_65 : decode b_Mo_init 65 = .ok (.newarray .int, 2) := by decide +kernel
theorem d_Mo_init_67 : decode b_Mo_init 67 = .ok (.putfield 32, 3) := by decide +kernel
theorem d_Mo_init_70 : decode b_Mo_init 70 = .ok (.aload_n 0, 1) := by decide +kernel
theorem d_Mo_init_71 : decode b_Mo_init 71 = .ok (.bipush 48, 2) := by decide +kernel
theorem d_Mo_init_73 : decode b_Mo_init 73 = .ok (.newarray .int, 2) := by decide +kernel
theorem d_Mo_init_75 : decode b_Mo_init 75 = .ok (.putfield 35, 3) := by decide +kernel
theorem d_Mo_init_78 : decode b_Mo_init 78 = .ok (.aload_n 0, 1) := by decide +kernel
theorem d_Mo_init_79 : decode b_Mo_init 79 = .ok (.bipush 8, 2) := by decide +kernel
theorem d_Mo_init_81 : decode b_Mo_init 81 = .ok (.newarray .boolean, 2) := by decide +kernel
theorem d_Mo_init_83 : decode b_Mo_init 83 = .ok (.putfield 38, 3) := by decide +kernel
theorem d_Mo_init_86 : decode b_Mo_init 86 = .ok (.aload_n 0, 1) := by decide +kernel
theorem d_Mo_init_87 : decode b_Mo_init 87 = .ok (.bipush 8, 2) := by decide +kernel
theorem d_Mo_init_89 : decode b_Mo_init 89 = .ok (.newarray .boolean, 2) := by decide +kernel
theorem d_Mo_init_91 : decode b_Mo_init 91 = .ok (.putfield 42, 3) := by decide +kernel
theorem d_Mo_init_94 : decode b_Mo_init 94 = .ok (.aload_n 0, 1) := by decide +kernel
theorem d_Mo_init_95 : decode b_Mo_init 95 = .ok (.sipush 696, 3) := by decide +kernel
theorem d_Mo_init_98 : decode b_Mo_init 98 = .ok (.newarray .int, 2) := by decide +kernel
theorem d_Mo_init_100 : decode b_Mo_init 100 = .ok (.putfield 45, 3) := by decide +kernel
theorem d_Mo_init_103 : decode b_Mo_init 103 = .ok (.aload_n 0, 1) := by decide +kernel
theorem d_Mo_init_104 : decode b_Mo_init 104 = .ok (.bipush 96, 2) := by decide +kernel
theorem d_Mo_init_106 : decode b_Mo_init 106 = .ok (.newarray .int, 2) := by decide +kernel
theorem d_Mo_init_108 : decode b_Mo_init 108 = .ok (.putfield 48, 3) := by decide +kernel
theorem d_Mo_init_111 : decode b_Mo_init 111 = .ok (.aload_n 0, 1) := by decide +kernel
theorem d_Mo_init_112 : decode b_Mo_init 112 = .ok (.sipush 288, 3) := by decide +kernel
theorem d_Mo_init_115 : decode b_Mo_init 115 = .ok (.newarray .int, 2) := by decide +kernel
theorem d_Mo_init_117 : decode b_Mo_init 117 = .ok (.putfield 51, 3) := by decide +kernel
theorem d_Mo_init_120 : decode b_Mo_init 120 = .ok (.aload_n 0, 1) := by decide +kernel
theorem d_Mo_init_121 : decode b_Mo_init 121 = .ok (.sipush 864, 3) := by decide +kernel
theorem d_Mo_init_124 : decode b_Mo_init 124 = .ok (.newarray .int, 2) := by decide +kernel
theorem d_Mo_init_126 : decode b_Mo_init 126 = .ok (.putfield 54, 3) := by decide +kernel
theorem d_Mo_init_129 : decode b_Mo_init 129 = .ok (.aload_n 0, 1) := by decide +kernel
theorem d_Mo_init_130 : decode b_Mo_init 130 = .ok (.sipush 960, 3) := by decide +kernel
theorem d_Mo_init_133 : decode b_Mo_init 133 = .ok (.newarray .boolean, 2) := by decide +kernel
theorem d_Mo_init_135 : decode b_Mo_init 135 = .ok (.putfield 57, 3) := by decide +kernel
theorem d_Mo_init_138 : decode b_Mo_init 138 = .ok (.aload_n 0, 1) := by decide +kernel
theorem d_Mo_init_139 : decode b_Mo_init 139 = .ok (.sipush 960, 3) := by decide +kernel
theorem d_Mo_init_142 : decode b_Mo_init 142 = .ok (.newarray .int, 2) := by decide +kernel
theorem d_Mo_init_144 : decode b_Mo_init 144 = .ok (.putfield 60, 3) := by decide +kernel
theorem d_Mo_init_147 : decode b_Mo_init 147 = .ok (.aload_n 0, 1) := by decide +kernel
theorem d_Mo_init_148 : decode b_Mo_init 148 = .ok (.sipush 960, 3) := by decide +kernel
theorem d_Mo_init_151 : decode b_Mo_init 151 = .ok (.newarray .int, 2) := by decide +kernel
theorem d_Mo_init_153 : decode b_Mo_init 153 = .ok (.putfield 63, 3) := by decide +kernel
theorem d_Mo_init_156 : decode b_Mo_init 156 = .ok (.aload_n 0, 1) := by decide +kernel
theorem d_Mo_init_157 : decode b_Mo_init 157 = .ok (.bipush 24, 2) := by decide +kernel
theorem d_Mo_init_159 : decode b_Mo_init 159 = .ok (.newarray .boolean, 2) := by decide +kernel
theorem d_Mo_init_161 : decode b_Mo_init 161 = .ok (.putfield 66, 3) := by decide +kernel
theorem d_Mo_init_164 : decode b_Mo_init 164 = .ok (.aload_n 0, 1) := by decide +kernel
theorem d_Mo_init_165 : decode b_Mo_init 165 = .ok (.bipush 24, 2) := by decide +kernel
theorem d_Mo_init_167 : decode b_Mo_init 167 = .ok (.newarray .int, 2) := by decide +kernel
theorem d_Mo_init_169 : decode b_Mo_init 169 = .ok (.putfield 69, 3) := by decide +kernel
theorem d_Mo_init_172 : decode b_Mo_init 172 = .ok (.aload_n 0, 1) := by decide +kernel
theorem d_Mo_init_173 : decode b_Mo_init 173 = .ok (.sipush 960, 3) := by decide +kernel
theorem d_Mo_init_176 : decode b_Mo_init 176 = .ok (.newarray .long, 2) := by decide +kernel
theorem d_Mo_init_178 : decode b_Mo_init 178 = .ok (.putfield 72, 3) := by decide +kernel
theorem d_Mo_init_181 : decode b_Mo_init 181 = .ok (.aload_n 0, 1) := by decide +kernel
theorem d_Mo_init_182 : decode b_Mo_init 182 = .ok (.sipush 960, 3) := by decide +kernel
theorem d_Mo_init_185 : decode b_Mo_init 185 = .ok (.newarray .int, 2) := by decide +kernel
theorem d_Mo_init_187 : decode b_Mo_init 187 = .ok (.putfield 75, 3) := by decide +kernel
theorem d_Mo_init_190 : decode b_Mo_init 190 = .ok (.iconst 0, 1) := by decide +kernel
theorem d_Mo_init_191 : decode b_Mo_init 191 = .ok (.istore_n 1, 1) := by decide +kernel
theorem d_Mo_init_192 : decode b_Mo_init 192 = .ok (.iload_n 1, 1) := by decide +kernel
theorem d_Mo_init_193 : decode b_Mo_init 193 = .ok (.sipush 480, 3) := by decide +kernel
theorem d_Mo_init_196 : decode b_Mo_init 196 = .ok (.if_icmp .ge 16, 3) := by decide +kernel
theorem d_Mo_init_199 : decode b_Mo_init 199 = .ok (.aload_n 0, 1) := by decide +kernel
theorem d_Mo_init_200 : decode b_Mo_init 200 = .ok (.getfield 23, 3) := by decide +kernel
theorem d_Mo_init_203 : decode b_Mo_init 203 = .ok (.iload_n 1, 1) := by decide +kernel
theorem d_Mo_init_204 : decode b_Mo_init 204 = .ok (.iconst (-1), 1) := by decide +kernel
theorem d_Mo_init_205 : decode b_Mo_init 205 = .ok (.iastore, 1) := by decide +kernel
theorem d_Mo_init_206 : decode b_Mo_init 206 = .ok (.iinc 1 1, 3) := by decide +kernel
theorem d_Mo_init_209 : decode b_Mo_init 209 = .ok (.goto (-17), 3) := by decide +kernel
theorem d_Mo_init_212 : decode b_Mo_init 212 = .ok (.iconst 0, 1) := by decide +kernel
theorem d_Mo_init_213 : decode b_Mo_init 213 = .ok (.istore_n 1, 1) := by decide +kernel
theorem d_Mo_init_214 : decode b_Mo_init 214 = .ok (.iload_n 1, 1) := by decide +kernel
theorem d_Mo_init_215 : decode b_Mo_init 215 = .ok (.sipush 696, 3) := by decide +kernel
theorem d_Mo_init_218 : decode b_Mo_init 218 = .ok (.if_icmp .ge 16, 3) := by decide +kernel
theorem d_Mo_init_221 : decode b_Mo_init 221 = .ok (.aload_n 0, 1) := by decide +kernel
theorem d_Mo_init_222 : decode b_Mo_init 222 = .ok (.getfield 45, 3) := by decide +kernel
theorem d_Mo_init_225 : decode b_Mo_init 225 = .ok (.iload_n 1, 1) := by decide +kernel
theorem d_Mo_init_226 : decode b_Mo_init 226 = .ok (.iconst (-1), 1) := by decide +kernel
theorem d_Mo_init_227 : decode b_Mo_init 227 = .ok (.iastore, 1) := by decide +kernel
theorem d_Mo_init_228 : decode b_Mo_init 228 = .ok (.iinc 1 1, 3) := by decide +kernel
theorem d_Mo_init_231 : decode b_Mo_init 231 = .ok (.goto (-17), 3) := by decide +kernel
theorem d_Mo_init_234 : decode b_Mo_init 234 = .ok (.iconst 0, 1) := by decide +kernel
theorem d_Mo_init_235 : decode b_Mo_init 235 = .ok (.istore_n 1, 1) := by decide +kernel
theorem d_Mo_init_236 : decode b_Mo_init 236 = .ok (.iload_n 1, 1) := by decide +kernel
theorem d_Mo_init_237 : decode b_Mo_init 237 = .ok (.sipush 864, 3) := by decide +kernel
theorem d_Mo_init_240 : decode b_Mo_init 240 = .ok (.if_icmp .ge 16, 3) := by decide +kernel
theorem d_Mo_init_243 : decode b_Mo_init 243 = .ok (.aload_n 0, 1) := by decide +kernel
theorem d_Mo_init_244 : decode b_Mo_init 244 = .ok (.getfield 54, 3) := by decide +kernel
theorem d_Mo_init_247 : decode b_Mo_init 247 = .ok (.iload_n 1, 1) := by decide +kernel
theorem d_Mo_init_248 : decode b_Mo_init 248 = .ok (.iconst (-1), 1) := by decide +kernel
theorem d_Mo_init_249 : decode b_Mo_init 249 = .ok (.iastore, 1) := by decide +kernel
theorem d_Mo_init_250 : decode b_Mo_init 250 = .ok (.iinc 1 1, 3) := by decide +kernel
theorem d_Mo_init_253 : decode b_Mo_init 253 = .ok (.goto (-17), 3) := by decide +kernel
theorem d_Mo_init_256 : decode b_Mo_init 256 = .ok (.return_, 1) := by decide +kernel
theorem d_Mo_thrown_0 : decode b_Mo_thrown 0 = .ok (.aload_n 0, 1) := by decide +kernel
theorem d_Mo_thrown_1 : decode b_Mo_thrown 1 = .ok (.getfield 78, 3) := by decide +kernel
theorem d_Mo_thrown_4 : decode b_Mo_thrown 4 = .ok (.ireturn, 1) := by decide +kernel
theorem d_Mo_make_0 : decode b_Mo_make 0 = .ok (.aload_n 0, 1) := by decide +kernel
theorem d_Mo_make_1 : decode b_Mo_make 1 = .ok (.iload_n 1, 1) := by decide +kernel
theorem d_Mo_make_2 : decode b_Mo_make 2 = .ok (.ifCond .eq 17, 3) := by decide +kernel
theorem d_Mo_make_5 : decode b_Mo_make 5 = .ok (.iload_n 1, 1) := by decide +kernel
theorem d_Mo_make_6 : decode b_Mo_make 6 = .ok (.iconst 4, 1) := by decide +kernel
theorem d_Mo_make_7 : decode b_Mo_make 7 = .ok (.if_icmp .eq 12, 3) := by decide +kernel
theorem d_Mo_make_10 : decode b_Mo_make 10 = .ok (.iload_n 1, 1) := by decide +kernel
theorem d_Mo_make_11 : decode b_Mo_make 11 = .ok (.iconst 5, 1) := by decide +kernel
theorem d_Mo_make_12 : decode b_Mo_make 12 = .ok (.if_icmp .eq 7, 3) := by decide +kernel
theorem d_Mo_make_15 : decode b_Mo_make 15 = .ok (.iconst 1, 1) := by decide +kernel
theorem d_Mo_make_16 : decode b_Mo_make 16 = .ok (.goto 4, 3) := by decide +kernel
theorem d_Mo_make_19 : decode b_Mo_make 19 = .ok (.iconst 0, 1) := by decide +kernel
theorem d_Mo_make_20 : decode b_Mo_make 20 = .ok (.putfield 78, 3) := by decide +kernel
theorem d_Mo_make_23 : decode b_Mo_make 23 = .ok (.aload_n 0, 1) := by decide +kernel
theorem d_Mo_make_24 : decode b_Mo_make 24 = .ok (.getfield 78, 3) := by decide +kernel
theorem d_Mo_make_27 : decode b_Mo_make 27 = .ok (.ifCond .eq 7, 3) := by decide +kernel
theorem d_Mo_make_30 : decode b_Mo_make 30 = .ok (.iconst 0, 1) := by decide +kernel
theorem d_Mo_make_31 : decode b_Mo_make 31 = .ok (.goto 9, 3) := by decide +kernel
theorem d_Mo_make_34 : decode b_Mo_make 34 = .ok (.aload_n 0, 1) := by decide +kernel
theorem d_Mo_make_35 : decode b_Mo_make 35 = .ok (.iload_n 1, 1) := by decide +kernel
theorem d_Mo_make_36 : decode b_Mo_make 36 = .ok (.lconst 0, 1) := by decide +kernel
theorem d_Mo_make_37 : decode b_Mo_make 37 = .ok (.invokevirtual 89, 3) := by decide +kernel
theorem d_Mo_make_40 : decode b_Mo_make 40 = .ok (.ireturn, 1) := by decide +kernel
theorem d_Mo_made_0 : decode b_Mo_made 0 = .ok (.aload_n 0, 1) := by decide +kernel
theorem d_Mo_made_1 : decode b_Mo_made 1 = .ok (.iload_n 1, 1) := by decide +kernel
theorem d_Mo_made_2 : decode b_Mo_made 2 = .ok (.lload_n 2, 1) := by decide +kernel
theorem d_Mo_made_3 : decode b_Mo_made 3 = .ok (.invokevirtual 85, 3) := by decide +kernel
theorem d_Mo_made_6 : decode b_Mo_made 6 = .ok (.istore 4, 2) := by decide +kernel
theorem d_Mo_made_8 : decode b_Mo_made 8 = .ok (.aload_n 0, 1) := by decide +kernel
theorem d_Mo_made_9 : decode b_Mo_made 9 = .ok (.iload 4, 2) := by decide +kernel
theorem d_Mo_made_11 : decode b_Mo_made 11 = .ok (.ifCond .ge 7, 3) := by decide +kernel
theorem d_Mo_made_14 : decode b_Mo_made 14 = .ok (.iconst 2, 1) := by decide +kernel
theorem d_Mo_made_15 : decode b_Mo_made 15 = .ok (.goto 4, 3) := by decide +kernel
theorem d_Mo_made_18 : decode b_Mo_made 18 = .ok (.iconst 0, 1) := by decide +kernel
theorem d_Mo_made_19 : decode b_Mo_made 19 = .ok (.putfield 78, 3) := by decide +kernel
theorem d_Mo_made_22 : decode b_Mo_made 22 = .ok (.iload 4, 2) := by decide +kernel
theorem d_Mo_made_24 : decode b_Mo_made 24 = .ok (.ifCond .ge 7, 3) := by decide +kernel
theorem d_Mo_made_27 : decode b_Mo_made 27 = .ok (.iconst 0, 1) := by decide +kernel
theorem d_Mo_made_28 : decode b_Mo_made 28 = .ok (.goto 5, 3) := by decide +kernel
theorem d_Mo_made_31 : decode b_Mo_made 31 = .ok (.iload 4, 2) := by decide +kernel
theorem d_Mo_made_33 : decode b_Mo_made 33 = .ok (.ireturn, 1) := by decide +kernel
theorem d_Mo_add_0 : decode b_Mo_add 0 = .ok (.aload_n 0, 1) := by decide +kernel
theorem d_Mo_add_1 : decode b_Mo_add 1 = .ok (.getfield 82, 3) := by decide +kernel
theorem d_Mo_add_4 : decode b_Mo_add 4 = .ok (.bipush 40, 2) := by decide +kernel
theorem d_Mo_add_6 : decode b_Mo_add 6 = .ok (.if_icmp .ne 5, 3) := by decide +kernel
theorem d_Mo_add_9 : decode b_Mo_add 9 = .ok (.iconst (-1), 1) := by decide +kernel
theorem d_Mo_add_10 : decode b_Mo_add 10 = .ok (.ireturn, 1) := by decide +kernel
theorem d_Mo_add_11 : decode b_Mo_add 11 = .ok (.aload_n 0, 1) := by decide +kernel
theorem d_Mo_add_12 : decode b_Mo_add 12 = .ok (.getfield 7, 3) := by decide +kernel
theorem d_Mo_add_15 : decode b_Mo_add 15 = .ok (.aload_n 0, 1) := by decide +kernel
theorem d_Mo_add_16 : decode b_Mo_add 16 = .ok (.getfield 82, 3) := by decide +kernel
theorem d_Mo_add_19 : decode b_Mo_add 19 = .ok (.iload_n 1, 1) := by decide +kernel
theorem d_Mo_add_20 : decode b_Mo_add 20 = .ok (.iastore, 1) := by decide +kernel
theorem d_Mo_add_21 : decode b_Mo_add 21 = .ok (.aload_n 0, 1) := by decide +kernel
theorem d_Mo_add_22 : decode b_Mo_add 22 = .ok (.getfield 13, 3) := by decide +kernel
theorem d_Mo_add_25 : decode b_Mo_add 25 = .ok (.aload_n 0, 1) := by decide +kernel
theorem d_Mo_add_26 : decode b_Mo_add 26 = .ok (.getfield 82, 3) := by decide +kernel
theorem d_Mo_add_29 : decode b_Mo_add 29 = .ok (.lload_n 2, 1) := by decide +kernel
theorem d_Mo_add_30 : decode b_Mo_add 30 = .ok (.lastore, 1) := by decide +kernel
theorem d_Mo_add_31 : decode b_Mo_add 31 = .ok (.aload_n 0, 1) := by decide +kernel
theorem d_Mo_add_32 : decode b_Mo_add 32 = .ok (.dup, 1) := by decide +kernel
theorem d_Mo_add_33 : decode b_Mo_add 33 = .ok (.getfield 82, 3) := by decide +kernel
theorem d_Mo_add_36 : decode b_Mo_add 36 = .ok (.iconst 1, 1) := by decide +kernel
theorem d_Mo_add_37 : decode b_Mo_add 37 = .ok (.iadd, 1) := by decide +kernel
theorem d_Mo_add_38 : decode b_Mo_add 38 = .ok (.putfield 82, 3) := by decide +kernel
theorem d_Mo_add_41 : decode b_Mo_add 41 = .ok (.aload_n 0, 1) := by decide +kernel
theorem d_Mo_add_42 : decode b_Mo_add 42 = .ok (.getfield 82, 3) := by decide +kernel
theorem d_Mo_add_45 : decode b_Mo_add 45 = .ok (.iconst 1, 1) := by decide +kernel
theorem d_Mo_add_46 : decode b_Mo_add 46 = .ok (.isub, 1) := by decide +kernel
theorem d_Mo_add_47 : decode b_Mo_add 47 = .ok (.ireturn, 1) := by decide +kernel
theorem d_Mo_truth_0 : decode b_Mo_truth 0 = .ok (.aload_n 0, 1) := by decide +kernel
theorem d_Mo_truth_1 : decode b_Mo_truth 1 = .ok (.iconst 1, 1) := by decide +kernel
theorem d_Mo_truth_2 : decode b_Mo_truth 2 = .ok (.iload_n 1, 1) := by decide +kernel
theorem d_Mo_truth_3 : decode b_Mo_truth 3 = .ok (.ifCond .eq 7, 3) := by decide +kernel
theorem d_Mo_truth_6 : decode b_Mo_truth 6 = .ok (.lconst 1, 1) := by decide +kernel
theorem d_Mo_truth_7 : decode b_Mo_truth 7 = .ok (.goto 4, 3) := by decide +kernel
theorem d_Mo_truth_10 : decode b_Mo_truth 10 = .ok (.lconst 0, 1) := by decide +kernel
theorem d_Mo_truth_11 : decode b_Mo_truth 11 = .ok (.invokevirtual 85, 3) := by decide +kernel
theorem d_Mo_truth_14 : decode b_Mo_truth 14 = .ok (.istore_n 2, 1) := by decide +kernel
theorem d_Mo_truth_15 : decode b_Mo_truth 15 = .ok (.aload_n 0, 1) := by decide +kernel
theorem d_Mo_truth_16 : decode b_Mo_truth 16 = .ok (.iload_n 2, 1) := by decide +kernel
theorem d_Mo_truth_17 : decode b_Mo_truth 17 = .ok (.ifCond .ge 7, 3) := by decide +kernel
theorem d_Mo_truth_20 : decode b_Mo_truth 20 = .ok (.iconst 1, 1) := by decide +kernel
theorem d_Mo_truth_21 : decode b_Mo_truth 21 = .ok (.goto 4, 3) := by decide +kernel
theorem d_Mo_truth_24 : decode b_Mo_truth 24 = .ok (.iconst 0, 1) := by decide +kernel
theorem d_Mo_truth_25 : decode b_Mo_truth 25 = .ok (.putfield 78, 3) := by decide +kernel
theorem d_Mo_truth_28 : decode b_Mo_truth 28 = .ok (.iload_n 2, 1) := by decide +kernel
theorem d_Mo_truth_29 : decode b_Mo_truth 29 = .ok (.ifCond .ge 7, 3) := by decide +kernel
theorem d_Mo_truth_32 : decode b_Mo_truth 32 = .ok (.iconst 0, 1) := by decide +kernel
theorem d_Mo_truth_33 : decode b_Mo_truth 33 = .ok (.goto 4, 3) := by decide +kernel
theorem d_Mo_truth_36 : decode b_Mo_truth 36 = .ok (.iload_n 2, 1) := by decide +kernel
theorem d_Mo_truth_37 : decode b_Mo_truth 37 = .ok (.ireturn, 1) := by decide +kernel
theorem d_Mo_number_0 : decode b_Mo_number 0 = .ok (.aload_n 0, 1) := by decide +kernel
theorem d_Mo_number_1 : decode b_Mo_number 1 = .ok (.iload_n 1, 1) := by decide +kernel
theorem d_Mo_number_2 : decode b_Mo_number 2 = .ok (.ldc 92, 2) := by decide +kernel
theorem d_Mo_number_4 : decode b_Mo_number 4 = .ok (.if_icmp .lt 20, 3) := by decide +kernel
theorem d_Mo_number_7 : decode b_Mo_number 7 = .ok (.iload_n 1, 1) := by decide +kernel
theorem d_Mo_number_8 : decode b_Mo_number 8 = .ok (.ldc 93, 2) := by decide +kernel
theorem d_Mo_number_10 : decode b_Mo_number 10 = .ok (.if_icmp .gt 14, 3) := by decide +kernel
theorem d_Mo_number_13 : decode b_Mo_number 13 = .ok (.iload_n 2, 1) := by decide +kernel
theorem d_Mo_number_14 : decode b_Mo_number 14 = .ok (.bipush (-3), 2) := by decide +kernel
theorem d_Mo_number_16 : decode b_Mo_number 16 = .ok (.if_icmp .lt 8, 3) := by decide +kernel
theorem d_Mo_number_19 : decode b_Mo_number 19 = .ok (.iload_n 2, 1) := by decide +kernel
theorem d_Mo_number_20 : decode b_Mo_number 20 = .ok (.iconst 3, 1) := by decide +kernel
theorem d_Mo_number_21 : decode b_Mo_number 21 = .ok (.if_icmp .le 7, 3) := by decide +kernel
theorem d_Mo_number_24 : decode b_Mo_number 24 = .ok (.iconst 1, 1) := by decide +kernel
theorem d_Mo_number_25 : decode b_Mo_number 25 = .ok (.goto 4, 3) := by decide +kernel
theorem d_Mo_number_28 : decode b_Mo_number 28 = .ok (.iconst 0, 1) := by decide +kernel
theorem d_Mo_number_29 : decode b_Mo_number 29 = .ok (.putfield 78, 3) := by decide +kernel
theorem d_Mo_number_32 : decode b_Mo_number 32 = .ok (.aload_n 0, 1) := by decide +kernel
theorem d_Mo_number_33 : decode b_Mo_number 33 = .ok (.getfield 78, 3) := by decide +kernel
theorem d_Mo_number_36 : decode b_Mo_number 36 = .ok (.ifCond .eq 5, 3) := by decide +kernel
theorem d_Mo_number_39 : decode b_Mo_number 39 = .ok (.iconst 0, 1) := by decide +kernel
theorem d_Mo_number_40 : decode b_Mo_number 40 = .ok (.ireturn, 1) := by decide +kernel
theorem d_Mo_number_41 : decode b_Mo_number 41 = .ok (.iload_n 1, 1) := by decide +kernel
theorem d_Mo_number_42 : decode b_Mo_number 42 = .ok (.i2l, 1) := by decide +kernel
theorem d_Mo_number_43 : decode b_Mo_number 43 = .ok (.lstore_n 3, 1) := by decide +kernel
theorem d_Mo_number_44 : decode b_Mo_number 44 = .ok (.bipush (-3), 2) := by decide +kernel
theorem d_Mo_number_46 : decode b_Mo_number 46 = .ok (.istore 5, 2) := by decide +kernel
theorem d_Mo_number_48 : decode b_Mo_number 48 = .ok (.iload 5, 2) := by decide +kernel
theorem d_Mo_number_50 : decode b_Mo_number 50 = .ok (.iload_n 2, 1) := by decide +kernel
theorem d_Mo_number_51 : decode b_Mo_number 51 = .ok (.if_icmp .ge 15, 3) := by decide +kernel
theorem d_Mo_number_54 : decode b_Mo_number 54 = .ok (.lload_n 3, 1) := by decide +kernel
theorem d_Mo_number_55 : decode b_Mo_number 55 = .ok (.ldc2_w 94, 3) := by decide +kernel
theorem d_Mo_number_58 : decode b_Mo_number 58 = .ok (.lmul, 1) := by decide +kernel
theorem d_Mo_number_59 : decode b_Mo_number 59 = .ok (.lstore_n 3, 1) := by decide +kernel
theorem d_Mo_number_60 : decode b_Mo_number 60 = .ok (.iinc 5 1, 3) := by decide +kernel
theorem d_Mo_number_63 : decode b_Mo_number 63 = .ok (.goto (-15), 3) := by decide +kernel
theorem d_Mo_number_66 : decode b_Mo_number 66 = .ok (.aload_n 0, 1) := by decide +kernel
theorem d_Mo_number_67 : decode b_Mo_number 67 = .ok (.iconst 2, 1) := by decide +kernel
theorem d_Mo_number_68 : decode b_Mo_number 68 = .ok (.lload_n 3, 1) := by decide +kernel
theorem d_Mo_number_69 : decode b_Mo_number 69 = .ok (.invokevirtual 89, 3) := by decide +kernel
theorem d_Mo_number_72 : decode b_Mo_number 72 = .ok (.ireturn, 1) := by decide +kernel
theorem d_Mo_text_0 : decode b_Mo_text 0 = .ok (.aload_n 0, 1) := by decide +kernel
theorem d_Mo_text_1 : decode b_Mo_text 1 = .ok (.aload_n 0, 1) := by decide +kernel
theorem d_Mo_text_2 : decode b_Mo_text 2 = .ok (.iload_n 1, 1) := by decide +kernel
theorem d_Mo_text_3 : decode b_Mo_text 3 = .ok (.invokevirtual 97, 3) := by decide +kernel
theorem d_Mo_text_6 : decode b_Mo_text 6 = .ok (.ifCond .eq 7, 3) := by decide +kernel
theorem d_Mo_text_9 : decode b_Mo_text 9 = .ok (.iconst 0, 1) := by decide +kernel
theorem d_Mo_text_10 : decode b_Mo_text 10 = .ok (.goto 4, 3) := by decide +kernel
theorem d_Mo_text_13 : decode b_Mo_text 13 = .ok (.iconst 1, 1) := by decide +kernel
theorem d_Mo_text_14 : decode b_Mo_text 14 = .ok (.putfield 78, 3) := by decide +kernel
theorem d_Mo_text_17 : decode b_Mo_text 17 = .ok (.aload_n 0, 1) := by decide +kernel
theorem d_Mo_text_18 : decode b_Mo_text 18 = .ok (.getfield 78, 3) := by decide +kernel
theorem d_Mo_text_21 : decode b_Mo_text 21 = .ok (.ifCond .eq 7, 3) := by decide +kernel
theorem d_Mo_text_24 : decode b_Mo_text 24 = .ok (.iconst 0, 1) := by decide +kernel
theorem d_Mo_text_25 : decode b_Mo_text 25 = .ok (.goto 10, 3) := by decide +kernel
theorem d_Mo_text_28 : decode b_Mo_text 28 = .ok (.aload_n 0, 1) := by decide +kernel
theorem d_Mo_text_29 : decode b_Mo_text 29 = .ok (.iconst 3, 1) := by decide +kernel
theorem d_Mo_text_30 : decode b_Mo_text 30 = .ok (.iload_n 1, 1) := by decide +kernel
theorem d_Mo_text_31 : decode b_Mo_text 31 = .ok (.i2l, 1) := by decide +kernel
theorem d_Mo_text_32 : decode b_Mo_text 32 = .ok (.invokevirtual 89, 3) := by decide +kernel
theorem d_Mo_text_35 : decode b_Mo_text 35 = .ok (.ireturn, 1) := by decide +kernel
theorem d_Mo_isText_0 : decode b_Mo_isText 0 = .ok (.iload_n 1, 1) := by decide +kernel
theorem d_Mo_isText_1 : decode b_Mo_isText 1 = .ok (.ifCond .lt 13, 3) := by decide +kernel
theorem d_Mo_isText_4 : decode b_Mo_isText 4 = .ok (.iload_n 1, 1) := by decide +kernel
theorem d_Mo_isText_5 : decode b_Mo_isText 5 = .ok (.ldc 96, 2) := by decide +kernel
theorem d_Mo_isText_7 : decode b_Mo_isText 7 = .ok (.if_icmp .ge 7, 3) := by decide +kernel
theorem d_Mo_isText_10 : decode b_Mo_isText 10 = .ok (.iconst 1, 1) := by decide +kernel
theorem d_Mo_isText_11 : decode b_Mo_isText 11 = .ok (.goto 4, 3) := by decide +kernel
theorem d_Mo_isText_14 : decode b_Mo_isText 14 = .ok (.iconst 0, 1) := by decide +kernel
theorem d_Mo_isText_15 : decode b_Mo_isText 15 = .ok (.istore_n 2, 1) := by decide +kernel
theorem d_Mo_isText_16 : decode b_Mo_isText 16 = .ok (.iload_n 1, 1) := by decide +kernel
theorem d_Mo_isText_17 : decode b_Mo_isText 17 = .ok (.istore_n 3, 1) := by decide +kernel
theorem d_Mo_isText_18 : decode b_Mo_isText 18 = .ok (.iload_n 3, 1) := by decide +kernel
theorem d_Mo_isText_19 : decode b_Mo_isText 19 = .ok (.ifCond .le 26, 3) := by decide +kernel
theorem d_Mo_isText_22 : decode b_Mo_isText 22 = .ok (.iload_n 2, 1) := by decide +kernel
theorem d_Mo_isText_23 : decode b_Mo_isText 23 = .ok (.ifCond .eq 13, 3) := by decide +kernel
theorem d_Mo_isText_26 : decode b_Mo_isText 26 = .ok (.iload_n 3, 1) := by decide +kernel
theorem d_Mo_isText_27 : decode b_Mo_isText 27 = .ok (.iconst 5, 1) := by decide +kernel
theorem d_Mo_isText_28 : decode b_Mo_isText 28 = .ok (.irem, 1) := by decide +kernel
theorem d_Mo_isText_29 : decode b_Mo_isText 29 = .ok (.ifCond .eq 7, 3) := by decide +kernel
theorem d_Mo_isText_32 : decode b_Mo_isText 32 = .ok (.iconst 1, 1) := by decide +kernel
theorem d_Mo_isText_33 : decode b_Mo_isText 33 = .ok (.goto 4, 3) := by decide +kernel
theorem d_Mo_isText_36 : decode b_Mo_isText 36 = .ok (.iconst 0, 1) := by decide +kernel
theorem d_Mo_isText_37 : decode b_Mo_isText 37 = .ok (.istore_n 2, 1) := by decide +kernel
theorem d_Mo_isText_38 : decode b_Mo_isText 38 = .ok (.iload_n 3, 1) := by decide +kernel
theorem d_Mo_isText_39 : decode b_Mo_isText 39 = .ok (.iconst 5, 1) := by decide +kernel
theorem d_Mo_isText_40 : decode b_Mo_isText 40 = .ok (.idiv, 1) := by decide +kernel
theorem d_Mo_isText_41 : decode b_Mo_isText 41 = .ok (.istore_n 3, 1) := by decide +kernel
theorem d_Mo_isText_42 : decode b_Mo_isText 42 = .ok (.goto (-24), 3) := by decide +kernel
theorem d_Mo_isText_45 : decode b_Mo_isText 45 = .ok (.iload_n 2, 1) := by decide +kernel
theorem d_Mo_isText_46 : decode b_Mo_isText 46 = .ok (.ireturn, 1) := by decide +kernel
theorem d_Mo_push_0 : decode b_Mo_push 0 = .ok (.aload_n 0, 1) := by decide +kernel
theorem d_Mo_push_1 : decode b_Mo_push 1 = .ok (.aload_n 0, 1) := by decide +kernel
theorem d_Mo_push_2 : decode b_Mo_push 2 = .ok (.iload_n 1, 1) := by decide +kernel
theorem d_Mo_push_3 : decode b_Mo_push 3 = .ok (.iconst 4, 1) := by decide +kernel
theorem d_Mo_push_4 : decode b_Mo_push 4 = .ok (.invokevirtual 104, 3) := by decide +kernel
theorem d_Mo_push_7 : decode b_Mo_push 7 = .ok (.ifCond .eq 12, 3) := by decide +kernel
theorem d_Mo_push_10 : decode b_Mo_push 10 = .ok (.iload_n 2, 1) := by decide +kernel
theorem d_Mo_push_11 : decode b_Mo_push 11 = .ok (.ifCond .lt 8, 3) := by decide +kernel
theorem d_Mo_push_14 : decode b_Mo_push 14 = .ok (.iload_n 2, 1) := by decide +kernel
theorem d_Mo_push_15 : decode b_Mo_push 15 = .ok (.iload_n 1, 1) := by decide +kernel
theorem d_Mo_push_16 : decode b_Mo_push 16 = .ok (.if_icmp .lt 7, 3) := by decide +kernel
theorem d_Mo_push_19 : decode b_Mo_push 19 = .ok (.iconst 1, 1) := by decide +kernel
theorem d_Mo_push_20 : decode b_Mo_push 20 = .ok (.goto 19, 3) := by decide +kernel
theorem d_Mo_push_23 : decode b_Mo_push 23 = .ok (.aload_n 0, 1) := by decide +kernel
theorem d_Mo_push_24 : decode b_Mo_push 24 = .ok (.getfield 17, 3) := by decide +kernel
theorem d_Mo_push_27 : decode b_Mo_push 27 = .ok (.iload_n 1, 1) := by decide +kernel
theorem d_Mo_push_28 : decode b_Mo_push 28 = .ok (.iaload, 1) := by decide +kernel
theorem d_Mo_push_29 : decode b_Mo_push 29 = .ok (.bipush 8, 2) := by decide +kernel
theorem d_Mo_push_31 : decode b_Mo_push 31 = .ok (.if_icmp .ne 7, 3) := by decide +kernel
theorem d_Mo_push_34 : decode b_Mo_push 34 = .ok (.iconst 2, 1) := by decide +kernel
theorem d_Mo_push_35 : decode b_Mo_push 35 = .ok (.goto 4, 3) := by decide +kernel
theorem d_Mo_push_38 : decode b_Mo_push 38 = .ok (.iconst 0, 1) := by decide +kernel
theorem d_Mo_push_39 : decode b_Mo_push 39 = .ok (.putfield 78, 3) := by decide +kernel
theorem d_Mo_push_42 : decode b_Mo_push 42 = .ok (.aload_n 0, 1) := by decide +kernel
theorem d_Mo_push_43 : decode b_Mo_push 43 = .ok (.getfield 78, 3) := by decide +kernel
theorem d_Mo_push_46 : decode b_Mo_push 46 = .ok (.ifCond .eq 5, 3) := by decide +kernel
theorem d_Mo_push_49 : decode b_Mo_push 49 = .ok (.iconst 0, 1) := by decide +kernel
theorem d_Mo_push_50 : decode b_Mo_push 50 = .ok (.ireturn, 1) := by decide +kernel
theorem d_Mo_push_51 : decode b_Mo_push 51 = .ok (.aload_n 0, 1) := by decide +kernel
theorem d_Mo_push_52 : decode b_Mo_push 52 = .ok (.getfield 20, 3) := by decide +kernel
theorem d_Mo_push_55 : decode b_Mo_push 55 = .ok (.bipush 8, 2) := by decide +kernel
theorem d_Mo_push_57 : decode b_Mo_push 57 = .ok (.iload_n 1, 1) := by decide +kernel
theorem d_Mo_push_58 : decode b_Mo_push 58 = .ok (.imul, 1) := by decide +kernel
theorem d_Mo_push_59 : decode b_Mo_push 59 = .ok (.aload_n 0, 1) := by decide +kernel
theorem d_Mo_push_60 : decode b_Mo_push 60 = .ok (.getfield 17, 3) := by decide +kernel
theorem d_Mo_push_63 : decode b_Mo_push 63 = .ok (.iload_n 1, 1) := by decide +kernel
theorem d_Mo_push_64 : decode b_Mo_push 64 = .ok (.iaload, 1) := by decide +kernel
theorem d_Mo_push_65 : decode b_Mo_push 65 = .ok (.iadd, 1) := by decide +kernel
theorem d_Mo_push_66 : decode b_Mo_push 66 = .ok (.iload_n 2, 1) := by decide +kernel
theorem d_Mo_push_67 : decode b_Mo_push 67 = .ok (.iastore, 1) := by decide +kernel
theorem d_Mo_push_68 : decode b_Mo_push 68 = .ok (.aload_n 0, 1) := by decide +kernel
theorem d_Mo_push_69 : decode b_Mo_push 69 = .ok (.getfield 17, 3) := by decide +kernel
theorem d_Mo_push_72 : decode b_Mo_push 72 = .ok (.iload_n 1, 1) := by decide +kernel
theorem d_Mo_push_73 : decode b_Mo_push 73 = .ok (.dup2, 1) := by decide +kernel
theorem d_Mo_push_74 : decode b_Mo_push 74 = .ok (.iaload, 1) := by decide +kernel
theorem d_Mo_push_75 : decode b_Mo_push 75 = .ok (.iconst 1, 1) := by decide +kernel
theorem d_Mo_push_76 : decode b_Mo_push 76 = .ok (.iadd, 1) := by decide +kernel
theorem d_Mo_push_77 : decode b_Mo_push 77 = .ok (.iastore, 1) := by decide +kernel
theorem d_Mo_push_78 : decode b_Mo_push 78 = .ok (.aload_n 0, 1) := by decide +kernel
theorem d_Mo_push_79 : decode b_Mo_push 79 = .ok (.getfield 17, 3) := by decide +kernel
theorem d_Mo_push_82 : decode b_Mo_push 82 = .ok (.iload_n 1, 1) := by decide +kernel
theorem d_Mo_push_83 : decode b_Mo_push 83 = .ok (.iaload, 1) := by decide +kernel
theorem d_Mo_push_84 : decode b_Mo_push 84 = .ok (.ireturn, 1) := by decide +kernel
theorem d_Mo_isKind_0 : decode b_Mo_isKind 0 = .ok (.aload_n 0, 1) := by decide +kernel
theorem d_Mo_isKind_1 : decode b_Mo_isKind 1 = .ok (.iload_n 1, 1) := by decide +kernel
theorem d_Mo_isKind_2 : decode b_Mo_isKind 2 = .ok (.invokevirtual 101, 3) := by decide +kernel
theorem d_Mo_isKind_5 : decode b_Mo_isKind 5 = .ok (.ifCond .ne 17, 3) := by decide +kernel
theorem d_Mo_isKind_8 : decode b_Mo_isKind 8 = .ok (.aload_n 0, 1) := by decide +kernel
theorem d_Mo_isKind_9 : decode b_Mo_isKind 9 = .ok (.getfield 7, 3) := by decide +kernel
theorem d_Mo_isKind_12 : decode b_Mo_isKind 12 = .ok (.iload_n 1, 1) := by decide +kernel
theorem d_Mo_isKind_13 : decode b_Mo_isKind 13 = .ok (.iaload, 1) := by decide +kernel
theorem d_Mo_isKind_14 : decode b_Mo_isKind 14 = .ok (.iload_n 2, 1) := by decide +kernel
theorem d_Mo_isKind_15 : decode b_Mo_isKind 15 = .ok (.if_icmp .ne 7, 3) := by decide +kernel
theorem d_Mo_isKind_18 : decode b_Mo_isKind 18 = .ok (.iconst 1, 1) := by decide +kernel
theorem d_Mo_isKind_19 : decode b_Mo_isKind 19 = .ok (.goto 4, 3) := by decide +kernel
theorem d_Mo_isKind_22 : decode b_Mo_isKind 22 = .ok (.iconst 0, 1) := by decide +kernel
theorem d_Mo_isKind_23 : decode b_Mo_isKind 23 = .ok (.ireturn, 1) := by decide +kernel
theorem d_Mo_noValue_0 : decode b_Mo_noValue 0 = .ok (.iload_n 1, 1) := by decide +kernel
theorem d_Mo_noValue_1 : decode b_Mo_noValue 1 = .ok (.ifCond .lt 11, 3) := by decide +kernel
theorem d_Mo_noValue_4 : decode b_Mo_noValue 4 = .ok (.iload_n 1, 1) := by decide +kernel
theorem d_Mo_noValue_5 : decode b_Mo_noValue 5 = .ok (.aload_n 0, 1) := by decide +kernel
theorem d_Mo_noValue_6 : decode b_Mo_noValue 6 = .ok (.getfield 82, 3) := by decide +kernel
theorem d_Mo_noValue_9 : decode b_Mo_noValue 9 = .ok (.if_icmp .lt 7, 3) := by decide +kernel
theorem d_Mo_noValue_12 : decode b_Mo_noValue 12 = .ok (.iconst 1, 1) := by decide +kernel
theorem d_Mo_noValue_13 : decode b_Mo_noValue 13 = .ok (.goto 4, 3) := by decide +kernel
theorem d_Mo_noValue_16 : decode b_Mo_noValue 16 = .ok (.iconst 0, 1) := by decide +kernel
theorem d_Mo_noValue_17 : decode b_Mo_noValue 17 = .ok (.ireturn, 1) := by decide +kernel
theorem d_Mo_put_0 : decode b_Mo_put 0 = .ok (.aload_n 0, 1) := by decide +kernel
theorem d_Mo_put_1 : decode b_Mo_put 1 = .ok (.aload_n 0, 1) := by decide +kernel
theorem d_Mo_put_2 : decode b_Mo_put 2 = .ok (.iload_n 1, 1) := by decide +kernel
theorem d_Mo_put_3 : decode b_Mo_put 3 = .ok (.iconst 5, 1) := by decide +kernel
theorem d_Mo_put_4 : decode b_Mo_put 4 = .ok (.invokevirtual 104, 3) := by decide +kernel
theorem d_Mo_put_7 : decode b_Mo_put 7 = .ok (.ifCond .eq 20, 3) := by decide +kernel
theorem d_Mo_put_10 : decode b_Mo_put 10 = .ok (.aload_n 0, 1) := by decide +kernel
theorem d_Mo_put_11 : decode b_Mo_put 11 = .ok (.iload_n 2, 1) := by decide +kernel
theorem d_Mo_put_12 : decode b_Mo_put 12 = .ok (.invokevirtual 108, 3) := by decide +kernel
theorem d_Mo_put_15 : decode b_Mo_put 15 = .ok (.ifCond .ne 12, 3) := by decide +kernel
theorem d_Mo_put_18 : decode b_Mo_put 18 = .ok (.iload_n 3, 1) := by decide +kernel
theorem d_Mo_put_19 : decode b_Mo_put 19 = .ok (.ifCond .lt 8, 3) := by decide +kernel
theorem d_Mo_put_22 : decode b_Mo_put 22 = .ok (.iload_n 3, 1) := by decide +kernel
theorem d_Mo_put_23 : decode b_Mo_put 23 = .ok (.iload_n 1, 1) := by decide +kernel
theorem d_Mo_put_24 : decode b_Mo_put 24 = .ok (.if_icmp .lt 7, 3) := by decide +kernel
theorem d_Mo_put_27 : decode b_Mo_put 27 = .ok (.iconst 1, 1) := by decide +kernel
theorem d_Mo_put_28 : decode b_Mo_put 28 = .ok (.goto 4, 3) := by decide +kernel
theorem d_Mo_put_31 : decode b_Mo_put 31 = .ok (.iconst 0, 1) := by decide +kernel
theorem d_Mo_put_32 : decode b_Mo_put 32 = .ok (.putfield 78, 3) := by decide +kernel
theorem d_Mo_put_35 : decode b_Mo_put 35 = .ok (.aload_n 0, 1) := by decide +kernel
theorem d_Mo_put_36 : decode b_Mo_put 36 = .ok (.getfield 78, 3) := by decide +kernel
theorem d_Mo_put_39 : decode b_Mo_put 39 = .ok (.ifCond .ne 15, 3) := by decide +kernel
theorem d_Mo_put_42 : decode b_Mo_put 42 = .ok (.aload_n 0, 1) := by decide +kernel
theorem d_Mo_put_43 : decode b_Mo_put 43 = .ok (.getfield 23, 3) := by decide +kernel
theorem d_Mo_put_46 : decode b_Mo_put 46 = .ok (.bipush 12, 2) := by decide +kernel
theorem d_Mo_put_48 : decode b_Mo_put 48 = .ok (.iload_n 1, 1) := by decide +kernel
theorem d_Mo_put_49 : decode b_Mo_put 49 = .ok (.imul, 1) := by decide +kernel
theorem d_Mo_put_50 : decode b_Mo_put 50 = .ok (.iload_n 2, 1) := by decide +kernel
theorem d_Mo_put_51 : decode b_Mo_put 51 = .ok (.iadd, 1) := by decide +kernel
theorem d_Mo_put_52 : decode b_Mo_put 52 = .ok (.iload_n 3, 1) := by decide +kernel
theorem d_Mo_put_53 : decode b_Mo_put 53 = .ok (.iastore, 1) := by decide +kernel
theorem d_Mo_put_54 : decode b_Mo_put 54 = .ok (.return_, 1) := by decide +kernel
theorem d_Mo_noName_0 : decode b_Mo_noName 0 = .ok (.iload_n 1, 1) := by decide +kernel
theorem d_Mo_noName_1 : decode b_Mo_noName 1 = .ok (.ifCond .lt 9, 3) := by decide +kernel
theorem d_Mo_noName_4 : decode b_Mo_noName 4 = .ok (.iload_n 1, 1) := by decide +kernel
theorem d_Mo_noName_5 : decode b_Mo_noName 5 = .ok (.bipush 11, 2) := by decide +kernel
theorem d_Mo_noName_7 : decode b_Mo_noName 7 = .ok (.if_icmp .le 7, 3) := by decide +kernel
theorem d_Mo_noName_10 : decode b_Mo_noName 10 = .ok (.iconst 1, 1) := by decide +kernel
theorem d_Mo_noName_11 : decode b_Mo_noName 11 = .ok (.goto 4, 3) := by decide +kernel
theorem d_Mo_noName_14 : decode b_Mo_noName 14 = .ok (.iconst 0, 1) := by decide +kernel
theorem d_Mo_noName_15 : decode b_Mo_noName 15 = .ok (.ireturn, 1) := by decide +kernel
theorem d_Mo_equal_0 : decode b_Mo_equal 0 = .ok (.aload_n 0, 1) := by decide +kernel
theorem d_Mo_equal_1 : decode b_Mo_equal 1 = .ok (.aload_n 0, 1) := by decide +kernel
theorem d_Mo_equal_2 : decode b_Mo_equal 2 = .ok (.iload_n 1, 1) := by decide +kernel
theorem d_Mo_equal_3 : decode b_Mo_equal 3 = .ok (.invokevirtual 101, 3) := by decide +kernel
theorem d_Mo_equal_6 : decode b_Mo_equal 6 = .ok (.ifCond .ne 11, 3) := by decide +kernel
theorem d_Mo_equal_9 : decode b_Mo_equal 9 = .ok (.aload_n 0, 1) := by decide +kernel
theorem d_Mo_equal_10 : decode b_Mo_equal 10 = .ok (.iload_n 2, 1) := by decide +kernel
theorem d_Mo_equal_11 : decode b_Mo_equal 11 = .ok (.invokevirtual 101, 3) := by decide +kernel
theorem d_Mo_equal_14 : decode b_Mo_equal 14 = .ok (.ifCond .eq 7, 3) := by decide +kernel
theorem d_Mo_equal_17 : decode b_Mo_equal 17 = .ok (.iconst 1, 1) := by decide +kernel
theorem d_Mo_equal_18 : decode b_Mo_equal 18 = .ok (.goto 4, 3) := by decide +kernel
theorem d_Mo_equal_21 : decode b_Mo_equal 21 = .ok (.iconst 0, 1) := by decide +kernel
theorem d_Mo_equal_22 : decode b_Mo_equal 22 = .ok (.putfield 78, 3) := by decide +kernel
theorem d_Mo_equal_25 : decode b_Mo_equal 25 = .ok (.aload_n 0, 1) := by decide +kernel
theorem d_Mo_equal_26 : decode b_Mo_equal 26 = .ok (.getfield 78, 3) := by decide +kernel
theorem d_Mo_equal_29 : decode b_Mo_equal 29 = .ok (.ifCond .eq 5, 3) := by decide +kernel
theorem d_Mo_equal_32 : decode b_Mo_equal 32 = .ok (.iconst 0, 1) := by decide +kernel
theorem d_Mo_equal_33 : decode b_Mo_equal 33 = .ok (.ireturn, 1) := by decide +kernel
theorem d_Mo_equal_34 : decode b_Mo_equal 34 = .ok (.aload_n 0, 1) := by decide +kernel
theorem d_Mo_equal_35 : decode b_Mo_equal 35 = .ok (.invokevirtual 114, 3) := by decide +kernel
theorem d_Mo_equal_38 : decode b_Mo_equal 38 = .ok (.aload_n 0, 1) := by decide +kernel
theorem d_Mo_equal_39 : decode b_Mo_equal 39 = .ok (.getfield 26, 3) := by decide +kernel
theorem d_Mo_equal_42 : decode b_Mo_equal 42 = .ok (.iload_n 1, 1) := by decide +kernel
theorem d_Mo_equal_43 : decode b_Mo_equal 43 = .ok (.iaload, 1) := by decide +kernel
theorem d_Mo_equal_44 : decode b_Mo_equal 44 = .ok (.aload_n 0, 1) := by decide +kernel
theorem d_Mo_equal_45 : decode b_Mo_equal 45 = .ok (.getfield 26, 3) := by decide +kernel
theorem d_Mo_equal_48 : decode b_Mo_equal 48 = .ok (.iload_n 2, 1) := by decide +kernel
theorem d_Mo_equal_49 : decode b_Mo_equal 49 = .ok (.iaload, 1) := by decide +kernel
theorem d_Mo_equal_50 : decode b_Mo_equal 50 = .ok (.if_icmp .ne 7, 3) := by decide +kernel
theorem d_Mo_equal_53 : decode b_Mo_equal 53 = .ok (.iconst 1, 1) := by decide +kernel
theorem d_Mo_equal_54 : decode b_Mo_equal 54 = .ok (.goto 4, 3) := by decide +kernel
theorem d_Mo_equal_57 : decode b_Mo_equal 57 = .ok (.iconst 0, 1) := by decide +kernel
theorem d_Mo_equal_58 : decode b_Mo_equal 58 = .ok (.ireturn, 1) := by decide +kernel
theorem d_Mo_compareAll_0 : decode b_Mo_compareAll 0 = .ok (.iconst 0, 1) := by decide +kernel
theorem d_Mo_compareAll_1 : decode b_Mo_compareAll 1 = .ok (.istore_n 1, 1) := by decide +kernel
theorem d_Mo_compareAll_2 : decode b_Mo_compareAll 2 = .ok (.iload_n 1, 1) := by decide +kernel
theorem d_Mo_compareAll_3 : decode b_Mo_compareAll 3 = .ok (.aload_n 0, 1) := by decide +kernel
theorem d_Mo_compareAll_4 : decode b_Mo_compareAll 4 = .ok (.getfield 82, 3) := by decide +kernel
theorem d_Mo_compareAll_7 : decode b_Mo_compareAll 7 = .ok (.if_icmp .ge 72, 3) := by decide +kernel
theorem d_Mo_compareAll_10 : decode b_Mo_compareAll 10 = .ok (.aload_n 0, 1) := by decide +kernel
theorem d_Mo_compareAll_11 : decode b_Mo_compareAll 11 = .ok (.getfield 26, 3) := by decide +kernel
theorem d_Mo_compareAll_14 : decode b_Mo_compareAll 14 = .ok (.iload_n 1, 1) := by decide +kernel
theorem d_Mo_compareAll_15 : decode b_Mo_compareAll 15 = .ok (.iload_n 1, 1) := by decide +kernel
theorem d_Mo_compareAll_16 : decode b_Mo_compareAll 16 = .ok (.iastore, 1) := by decide +kernel
theorem d_Mo_compareAll_17 : decode b_Mo_compareAll 17 = .ok (.iload_n 1, 1) := by decide +kernel
theorem d_Mo_compareAll_18 : decode b_Mo_compareAll 18 = .ok (.iconst 1, 1) := by decide +kernel
theorem d_Mo_compareAll_19 : decode b_Mo_compareAll 19 = .ok (.isub, 1) := by decide +kernel
theorem d_Mo_compareAll_20 : decode b_Mo_compareAll 20 = .ok (.istore_n 2, 1) := by decide +kernel
theorem d_Mo_compareAll_21 : decode b_Mo_compareAll 21 = .ok (.iload_n 2, 1) := by decide +kernel
theorem d_Mo_compareAll_22 : decode b_Mo_compareAll 22 = .ok (.ifCond .lt 34, 3) := by decide +kernel
theorem d_Mo_compareAll_25 : decode b_Mo_compareAll 25 = .ok (.aload_n 0, 1) := by decide +kernel
theorem d_Mo_compareAll_26 : decode b_Mo_compareAll 26 = .ok (.getfield 26, 3) := by decide +kernel
theorem d_Mo_compareAll_29 : decode b_Mo_compareAll 29 = .ok (.iload_n 1, 1) := by decide +kernel
theorem d_Mo_compareAll_30 : decode b_Mo_compareAll 30 = .ok (.aload_n 0, 1) := by decide +kernel
theorem d_Mo_compareAll_31 : decode b_Mo_compareAll 31 = .ok (.iload_n 1, 1) := by decide +kernel
theorem d_Mo_compareAll_32 : decode b_Mo_compareAll 32 = .ok (.iload_n 2, 1) := by decide +kernel
theorem d_Mo_compareAll_33 : decode b_Mo_compareAll 33 = .ok (.invokevirtual 111, 3) := by decide +kernel
theorem d_Mo_compareAll_36 : decode b_Mo_compareAll 36 = .ok (.ifCond .eq 7, 3) := by decide +kernel
theorem d_Mo_compareAll_39 : decode b_Mo_compareAll 39 = .ok (.iload_n 2, 1) := by decide +kernel
theorem d_Mo_compareAll_40 : decode b_Mo_compareAll 40 = .ok (.goto 9, 3) := by decide +kernel
theorem d_Mo_compareAll_43 : decode b_Mo_compareAll 43 = .ok (.aload_n 0, 1) := by decide +kernel
theorem d_Mo_compareAll_44 : decode b_Mo_compareAll 44 = .ok (.getfield 26, 3) := by decide +kernel
theorem d_Mo_compareAll_47 : decode b_Mo_compareAll 47 = .ok (.iload_n 1, 1) := by decide +kernel
theorem d_Mo_compareAll_48 : decode b_Mo_compareAll 48 = .ok (.iaload, 1) := by decide +kernel
theorem d_Mo_compareAll_49 : decode b_Mo_compareAll 49 = .ok (.iastore, 1) := by decide +kernel
theorem d_Mo_compareAll_50 : decode b_Mo_compareAll 50 = .ok (.iinc 2 (-1), 3) := by decide +kernel
theorem d_Mo_compareAll_53 : decode b_Mo_compareAll 53 = .ok (.goto (-32), 3) := by decide +kernel
theorem d_Mo_compareAll_56 : decode b_Mo_compareAll 56 = .ok (.aload_n 0, 1) := by decide +kernel
theorem d_Mo_compareAll_57 : decode b_Mo_compareAll 57 = .ok (.getfield 26, 3) := by decide +kernel
theorem d_Mo_compareAll_60 : decode b_Mo_compareAll 60 = .ok (.iload_n 1, 1) := by decide +kernel
theorem d_Mo_compareAll_61 : decode b_Mo_compareAll 61 = .ok (.aload_n 0, 1) := by decide +kernel
theorem d_Mo_compareAll_62 : decode b_Mo_compareAll 62 = .ok (.getfield 26, 3) := by decide +kernel
theorem d_Mo_compareAll_65 : decode b_Mo_compareAll 65 = .ok (.aload_n 0, 1) := by decide +kernel
theorem d_Mo_compareAll_66 : decode b_Mo_compareAll 66 = .ok (.getfield 26, 3) := by decide +kernel
theorem d_Mo_compareAll_69 : decode b_Mo_compareAll 69 = .ok (.iload_n 1, 1) := by decide +kernel
theorem d_Mo_compareAll_70 : decode b_Mo_compareAll 70 = .ok (.iaload, 1) := by decide +kernel
theorem d_Mo_compareAll_71 : decode b_Mo_compareAll 71 = .ok (.iaload, 1) := by decide +kernel
theorem d_Mo_compareAll_72 : decode b_Mo_compareAll 72 = .ok (.iastore, 1) := by decide +kernel
theorem d_Mo_compareAll_73 : decode b_Mo_compareAll 73 = .ok (.iinc 1 1, 3) := by decide +kernel
theorem d_Mo_compareAll_76 : decode b_Mo_compareAll 76 = .ok (.goto (-74), 3) := by decide +kernel
theorem d_Mo_compareAll_79 : decode b_Mo_compareAll 79 = .ok (.return_, 1) := by decide +kernel
theorem d_Mo_same_0 : decode b_Mo_same 0 = .ok (.aload_n 0, 1) := by decide +kernel
theorem d_Mo_same_1 : decode b_Mo_same 1 = .ok (.getfield 7, 3) := by decide +kernel
theorem d_Mo_same_4 : decode b_Mo_same 4 = .ok (.iload_n 1, 1) := by decide +kernel
theorem d_Mo_same_5 : decode b_Mo_same 5 = .ok (.iaload, 1) := by decide +kernel
theorem d_Mo_same_6 : decode b_Mo_same 6 = .ok (.aload_n 0, 1) := by decide +kernel
theorem d_Mo_same_7 : decode b_Mo_same 7 = .ok (.getfield 7, 3) := by decide +kernel
theorem d_Mo_same_10 : decode b_Mo_same 10 = .ok (.iload_n 2, 1) := by decide +kernel
theorem d_Mo_same_11 : decode b_Mo_same 11 = .ok (.iaload, 1) := by decide +kernel
theorem d_Mo_same_12 : decode b_Mo_same 12 = .ok (.if_icmp .ne 38, 3) := by decide +kernel
theorem d_Mo_same_15 : decode b_Mo_same 15 = .ok (.aload_n 0, 1) := by decide +kernel
theorem d_Mo_same_16 : decode b_Mo_same 16 = .ok (.getfield 13, 3) := by decide +kernel
theorem d_Mo_same_19 : decode b_Mo_same 19 = .ok (.iload_n 1, 1) := by decide +kernel
theorem d_Mo_same_20 : decode b_Mo_same 20 = .ok (.laload, 1) := by decide +kernel
theorem d_Mo_same_21 : decode b_Mo_same 21 = .ok (.aload_n 0, 1) := by decide +kernel
theorem d_Mo_same_22 : decode b_Mo_same 22 = .ok (.getfield 13, 3) := by decide +kernel
theorem d_Mo_same_25 : decode b_Mo_same 25 = .ok (.iload_n 2, 1) := by decide +kernel
theorem d_Mo_same_26 : decode b_Mo_same 26 = .ok (.laload, 1) := by decide +kernel
theorem d_Mo_same_27 : decode b_Mo_same 27 = .ok (.lcmp, 1) := by decide +kernel
theorem d_Mo_same_28 : decode b_Mo_same 28 = .ok (.ifCond .ne 22, 3) := by decide +kernel
theorem d_Mo_same_31 : decode b_Mo_same 31 = .ok (.aload_n 0, 1) := by decide +kernel
theorem d_Mo_same_32 : decode b_Mo_same 32 = .ok (.getfield 17, 3) := by decide +kernel
theorem d_Mo_same_35 : decode b_Mo_same 35 = .ok (.iload_n 1, 1) := by decide +kernel
theorem d_Mo_same_36 : decode b_Mo_same 36 = .ok (.iaload, 1) := by decide +kernel
theorem d_Mo_same_37 : decode b_Mo_same 37 = .ok (.aload_n 0, 1) := by decide +kernel
theorem d_Mo_same_38 : decode b_Mo_same 38 = .ok (.getfield 17, 3) := by decide +kernel
theorem d_Mo_same_41 : decode b_Mo_same 41 = .ok (.iload_n 2, 1) := by decide +kernel
theorem d_Mo_same_42 : decode b_Mo_same 42 = .ok (.iaload, 1) := by decide +kernel
theorem d_Mo_same_43 : decode b_Mo_same 43 = .ok (.if_icmp .ne 7, 3) := by decide +kernel
theorem d_Mo_same_46 : decode b_Mo_same 46 = .ok (.iconst 1, 1) := by decide +kernel
theorem d_Mo_same_47 : decode b_Mo_same 47 = .ok (.goto 4, 3) := by decide +kernel
theorem d_Mo_same_50 : decode b_Mo_same 50 = .ok (.iconst 0, 1) := by decide +kernel
theorem d_Mo_same_51 : decode b_Mo_same 51 = .ok (.istore_n 3, 1) := by decide +kernel
theorem d_Mo_same_52 : decode b_Mo_same 52 = .ok (.iconst 0, 1) := by decide +kernel
theorem d_Mo_same_53 : decode b_Mo_same 53 = .ok (.istore 4, 2) := by decide +kernel
theorem d_Mo_same_55 : decode b_Mo_same 55 = .ok (.iload 4, 2) := by decide +kernel
theorem d_Mo_same_57 : decode b_Mo_same 57 = .ok (.aload_n 0, 1) := by decide +kernel
theorem d_Mo_same_58 : decode b_Mo_same 58 = .ok (.getfield 17, 3) := by decide +kernel
theorem d_Mo_same_61 : decode b_Mo_same 61 = .ok (.iload_n 1, 1) := by decide +kernel
theorem d_Mo_same_62 : decode b_Mo_same 62 = .ok (.iaload, 1) := by decide +kernel
theorem d_Mo_same_63 : decode b_Mo_same 63 = .ok (.if_icmp .ge 56, 3) := by decide +kernel
theorem d_Mo_same_66 : decode b_Mo_same 66 = .ok (.iload_n 3, 1) := by decide +kernel
theorem d_Mo_same_67 : decode b_Mo_same 67 = .ok (.ifCond .eq 52, 3) := by decide +kernel
theorem d_Mo_same_70 : decode b_Mo_same 70 = .ok (.aload_n 0, 1) := by decide +kernel
theorem d_Mo_same_71 : decode b_Mo_same 71 = .ok (.getfield 26, 3) := by decide +kernel
theorem d_Mo_same_74 : decode b_Mo_same 74 = .ok (.aload_n 0, 1) := by decide +kernel
theorem d_Mo_same_75 : decode b_Mo_same 75 = .ok (.getfield 20, 3) := by decide +kernel
theorem d_Mo_same_78 : decode b_Mo_same 78 = .ok (.bipush 8, 2) := by decide +kernel
theorem d_Mo_same_80 : decode b_Mo_same 80 = .ok (.iload_n 1, 1) := by decide +kernel
theorem d_Mo_same_81 : decode b_Mo_same 81 = .ok (.imul, 1) := by decide +kernel
theorem d_Mo_same_82 : decode b_Mo_same 82 = .ok (.iload 4, 2) := by decide +kernel
theorem d_Mo_same_84 : decode b_Mo_same 84 = .ok (.iadd, 1) := by decide +kernel
theorem d_Mo_same_85 : decode b_Mo_same 85 = .ok (.iaload, 1) := by decide +kernel
theorem d_Mo_same_86 : decode b_Mo_same 86 = .ok (.iaload, 1) := by decide +kernel
theorem d_Mo_same_87 : decode b_Mo_same 87 = .ok (.aload_n 0, 1) := by decide +kernel
theorem d_Mo_same_88 : decode b_Mo_same 88 = .ok (.getfield 26, 3) := by decide +kernel
theorem d_Mo_same_91 : decode b_Mo_same 91 = .ok (.aload_n 0, 1) := by decide +kernel
theorem d_Mo_same_92 : decode b_Mo_same 92 = .ok (.getfield 20, 3) := by decide +kernel
theorem d_Mo_same_95 : decode b_Mo_same 95 = .ok (.bipush 8, 2) := by decide +kernel
theorem d_Mo_same_97 : decode b_Mo_same 97 = .ok (.iload_n 2, 1) := by decide +kernel
theorem d_Mo_same_98 : decode b_Mo_same 98 = .ok (.imul, 1) := by decide +kernel
theorem d_Mo_same_99 : decode b_Mo_same 99 = .ok (.iload 4, 2) := by decide +kernel
theorem d_Mo_same_101 : decode b_Mo_same 101 = .ok (.iadd, 1) := by decide +kernel
theorem d_Mo_same_102 : decode b_Mo_same 102 = .ok (.iaload, 1) := by decide +kernel
theorem d_Mo_same_103 : decode b_Mo_same 103 = .ok (.iaload, 1) := by decide +kernel
theorem d_Mo_same_104 : decode b_Mo_same 104 = .ok (.if_icmp .ne 7, 3) := by decide +kernel
theorem d_Mo_same_107 : decode b_Mo_same 107 = .ok (.iconst 1, 1) := by decide +kernel
theorem d_Mo_same_108 : decode b_Mo_same 108 = .ok (.goto 4, 3) := by decide +kernel
theorem d_Mo_same_111 : decode b_Mo_same 111 = .ok (.iconst 0, 1) := by decide +kernel
theorem d_Mo_same_112 : decode b_Mo_same 112 = .ok (.istore_n 3, 1) := by decide +kernel
theorem d_Mo_same_113 : decode b_Mo_same 113 = .ok (.iinc 4 1, 3) := by decide +kernel
theorem d_Mo_same_116 : decode b_Mo_same 116 = .ok (.goto (-61), 3) := by decide +kernel
theorem d_Mo_same_119 : decode b_Mo_same 119 = .ok (.iconst 0, 1) := by decide +kernel
theorem d_Mo_same_120 : decode b_Mo_same 120 = .ok (.istore 4, 2) := by decide +kernel
theorem d_Mo_same_122 : decode b_Mo_same 122 = .ok (.iload 4, 2) := by decide +kernel
theorem d_Mo_same_124 : decode b_Mo_same 124 = .ok (.bipush 12, 2) := by decide +kernel
theorem d_Mo_same_126 : decode b_Mo_same 126 = .ok (.if_icmp .ge 89, 3) := by decide +kernel
theorem d_Mo_same_129 : decode b_Mo_same 129 = .ok (.iload_n 3, 1) := by decide +kernel
theorem d_Mo_same_130 : decode b_Mo_same 130 = .ok (.ifCond .eq 85, 3) := by decide +kernel
theorem d_Mo_same_133 : decode b_Mo_same 133 = .ok (.aload_n 0, 1) := by decide +kernel
theorem d_Mo_same_134 : decode b_Mo_same 134 = .ok (.getfield 23, 3) := by decide +kernel
theorem d_Mo_same_137 : decode b_Mo_same 137 = .ok (.bipush 12, 2) := by decide +kernel
theorem d_Mo_same_139 : decode b_Mo_same 139 = .ok (.iload_n 1, 1) := by decide +kernel
theorem d_Mo_same_140 : decode b_Mo_same 140 = .ok (.imul, 1) := by decide +kernel
theorem d_Mo_same_141 : decode b_Mo_same 141 = .ok (.iload 4, 2) := by decide +kernel
theorem d_Mo_same_143 : decode b_Mo_same 143 = .ok (.iadd, 1) := by decide +kernel
theorem d_Mo_same_144 : decode b_Mo_same 144 = .ok (.iaload, 1) := by decide +kernel
theorem d_Mo_same_145 : decode b_Mo_same 145 = .ok (.istore 5, 2) := by decide +kernel
theorem d_Mo_same_147 : decode b_Mo_same 147 = .ok (.aload_n 0, 1) := by decide +kernel
theorem d_Mo_same_148 : decode b_Mo_same 148 = .ok (.getfield 23, 3) := by decide +kernel
theorem d_Mo_same_151 : decode b_Mo_same 151 = .ok (.bipush 12, 2) := by decide +kernel
theorem d_Mo_same_153 : decode b_Mo_same 153 = .ok (.iload_n 2, 1) := by decide +kernel
theorem d_Mo_same_154 : decode b_Mo_same 154 = .ok (.imul, 1) := by decide +kernel
theorem d_Mo_same_155 : decode b_Mo_same 155 = .ok (.iload 4, 2) := by decide +kernel
theorem d_Mo_same_157 : decode b_Mo_same 157 = .ok (.iadd, 1) := by decide +kernel
theorem d_Mo_same_158 : decode b_Mo_same 158 = .ok (.iaload, 1) := by decide +kernel
theorem d_Mo_same_159 : decode b_Mo_same 159 = .ok (.istore 6, 2) := by decide +kernel
theorem d_Mo_same_161 : decode b_Mo_same 161 = .ok (.iload 5, 2) := by decide +kernel
theorem d_Mo_same_163 : decode b_Mo_same 163 = .ok (.ifCond .lt 8, 3) := by decide +kernel
theorem d_Mo_same_166 : decode b_Mo_same 166 = .ok (.iload 6, 2) := by decide +kernel
theorem d_Mo_same_168 : decode b_Mo_same 168 = .ok (.ifCond .ge 18, 3) := by decide +kernel
theorem d_Mo_same_171 : decode b_Mo_same 171 = .ok (.iload 5, 2) := by decide +kernel
theorem d_Mo_same_173 : decode b_Mo_same 173 = .ok (.iload 6, 2) := by decide +kernel
theorem d_Mo_same_175 : decode b_Mo_same 175 = .ok (.if_icmp .ne 7, 3) := by decide +kernel
theorem d_Mo_same_178 : decode b_Mo_same 178 = .ok (.iconst 1, 1) := by decide +kernel
theorem d_Mo_same_179 : decode b_Mo_same 179 = .ok (.goto 29, 3) := by decide +kernel
theorem d_Mo_same_182 : decode b_Mo_same 182 = .ok (.iconst 0, 1) := by decide +kernel
theorem d_Mo_same_183 : decode b_Mo_same 183 = .ok (.goto 25, 3) := by decide +kernel
theorem d_Mo_same_186 : decode b_Mo_same 186 = .ok (.aload_n 0, 1) := by decide +kernel
theorem d_Mo_same_187 : decode b_Mo_same 187 = .ok (.getfield 26, 3) := by decide +kernel
theorem d_Mo_same_190 : decode b_Mo_same 190 = .ok (.iload 5, 2) := by decide +kernel
theorem d_Mo_same_192 : decode b_Mo_same 192 = .ok (.iaload, 1) := by decide +kernel
theorem d_Mo_same_193 : decode b_Mo_same 193 = .ok (.aload_n 0, 1) := by decide +kernel
theorem d_Mo_same_194 : decode b_Mo_same 194 = .ok (.getfield 26, 3) := by decide +kernel
theorem d_Mo_same_197 : decode b_Mo_same 197 = .ok (.iload 6, 2) := by decide +kernel
theorem d_Mo_same_199 : decode b_Mo_same 199 = .ok (.iaload, 1) := by decide +kernel
theorem d_Mo_same_200 : decode b_Mo_same 200 = .ok (.if_icmp .ne 7, 3) := by decide +kernel
theorem d_Mo_same_203 : decode b_Mo_same 203 = .ok (.iconst 1, 1) := by decide +kernel
theorem d_Mo_same_204 : decode b_Mo_same 204 = .ok (.goto 4, 3) := by decide +kernel
theorem d_Mo_same_207 : decode b_Mo_same 207 = .ok (.iconst 0, 1) := by decide +kernel
theorem d_Mo_same_208 : decode b_Mo_same 208 = .ok (.istore_n 3, 1) := by decide +kernel
theorem d_Mo_same_209 : decode b_Mo_same 209 = .ok (.iinc 4 1, 3) := by decide +kernel
theorem d_Mo_same_212 : decode b_Mo_same 212 = .ok (.goto (-90), 3) := by decide +kernel
theorem d_Mo_same_215 : decode b_Mo_same 215 = .ok (.iload_n 3, 1) := by decide +kernel
theorem d_Mo_same_216 : decode b_Mo_same 216 = .ok (.ireturn, 1) := by decide +kernel
theorem d_Mo_item_0 : decode b_Mo_item 0 = .ok (.aload_n 0, 1) := by decide +kernel
theorem d_Mo_item_1 : decode b_Mo_item 1 = .ok (.aload_n 0, 1) := by decide +kernel
theorem d_Mo_item_2 : decode b_Mo_item 2 = .ok (.iload_n 1, 1) := by decide +kernel
theorem d_Mo_item_3 : decode b_Mo_item 3 = .ok (.invokevirtual 117, 3) := by decide +kernel
theorem d_Mo_item_6 : decode b_Mo_item 6 = .ok (.ifCond .ne 22, 3) := by decide +kernel
theorem d_Mo_item_9 : decode b_Mo_item 9 = .ok (.iload_n 2, 1) := by decide +kernel
theorem d_Mo_item_10 : decode b_Mo_item 10 = .ok (.ifCond .lt 18, 3) := by decide +kernel
theorem d_Mo_item_13 : decode b_Mo_item 13 = .ok (.iload_n 2, 1) := by decide +kernel
theorem d_Mo_item_14 : decode b_Mo_item 14 = .ok (.bipush 15, 2) := by decide +kernel
theorem d_Mo_item_16 : decode b_Mo_item 16 = .ok (.if_icmp .gt 12, 3) := by decide +kernel
theorem d_Mo_item_19 : decode b_Mo_item 19 = .ok (.iload_n 3, 1) := by decide +kernel
theorem d_Mo_item_20 : decode b_Mo_item 20 = .ok (.ifCond .lt 8, 3) := by decide +kernel
theorem d_Mo_item_23 : decode b_Mo_item 23 = .ok (.iload_n 3, 1) := by decide +kernel
theorem d_Mo_item_24 : decode b_Mo_item 24 = .ok (.iconst 3, 1) := by decide +kernel
theorem d_Mo_item_25 : decode b_Mo_item 25 = .ok (.if_icmp .le 7, 3) := by decide +kernel
theorem d_Mo_item_28 : decode b_Mo_item 28 = .ok (.iconst 1, 1) := by decide +kernel
theorem d_Mo_item_29 : decode b_Mo_item 29 = .ok (.goto 19, 3) := by decide +kernel
theorem d_Mo_item_32 : decode b_Mo_item 32 = .ok (.aload_n 0, 1) := by decide +kernel
theorem d_Mo_item_33 : decode b_Mo_item 33 = .ok (.getfield 29, 3) := by decide +kernel
theorem d_Mo_item_36 : decode b_Mo_item 36 = .ok (.iload_n 1, 1) := by decide +kernel
theorem d_Mo_item_37 : decode b_Mo_item 37 = .ok (.iaload, 1) := by decide +kernel
theorem d_Mo_item_38 : decode b_Mo_item 38 = .ok (.bipush 6, 2) := by decide +kernel
theorem d_Mo_item_40 : decode b_Mo_item 40 = .ok (.if_icmp .ne 7, 3) := by decide +kernel
theorem d_Mo_item_43 : decode b_Mo_item 43 = .ok (.iconst 2, 1) := by decide +kernel
theorem d_Mo_item_44 : decode b_Mo_item 44 = .ok (.goto 4, 3) := by decide +kernel
theorem d_Mo_item_47 : decode b_Mo_item 47 = .ok (.iconst 0, 1) := by decide +kernel
theorem d_Mo_item_48 : decode b_Mo_item 48 = .ok (.putfield 78, 3) := by decide +kernel
theorem d_Mo_item_51 : decode b_Mo_item 51 = .ok (.aload_n 0, 1) := by decide +kernel
theorem d_Mo_item_52 : decode b_Mo_item 52 = .ok (.getfield 78, 3) := by decide +kernel
theorem d_Mo_item_55 : decode b_Mo_item 55 = .ok (.ifCond .eq 5, 3) := by decide +kernel
theorem d_Mo_item_58 : decode b_Mo_item 58 = .ok (.iconst 0, 1) := by decide +kernel
theorem d_Mo_item_59 : decode b_Mo_item 59 = .ok (.ireturn, 1) := by decide +kernel
theorem d_Mo_item_60 : decode b_Mo_item 60 = .ok (.aload_n 0, 1) := by decide +kernel
theorem d_Mo_item_61 : decode b_Mo_item 61 = .ok (.getfield 32, 3) := by decide +kernel
theorem d_Mo_item_64 : decode b_Mo_item 64 = .ok (.bipush 6, 2) := by decide +kernel
theorem d_Mo_item_66 : decode b_Mo_item 66 = .ok (.iload_n 1, 1) := by decide +kernel
theorem d_Mo_item_67 : decode b_Mo_item 67 = .ok (.imul, 1) := by decide +kernel
theorem d_Mo_item_68 : decode b_Mo_item 68 = .ok (.aload_n 0, 1) := by decide +kernel
theorem d_Mo_item_69 : decode b_Mo_item 69 = .ok (.getfield 29, 3) := by decide +kernel
theorem d_Mo_item_72 : decode b_Mo_item 72 = .ok (.iload_n 1, 1) := by decide +kernel
theorem d_Mo_item_73 : decode b_Mo_item 73 = .ok (.iaload, 1) := by decide +kernel
theorem d_Mo_item_74 : decode b_Mo_item 74 = .ok (.iadd, 1) := by decide +kernel
theorem d_Mo_item_75 : decode b_Mo_item 75 = .ok (.iload_n 2, 1) := by decide +kernel
theorem d_Mo_item_76 : decode b_Mo_item 76 = .ok (.iastore, 1) := by decide +kernel
theorem d_Mo_item_77 : decode b_Mo_item 77 = .ok (.aload_n 0, 1) := by decide +kernel
theorem d_Mo_item_78 : decode b_Mo_item 78 = .ok (.getfield 35, 3) := by decide +kernel
theorem d_Mo_item_81 : decode b_Mo_item 81 = .ok (.bipush 6, 2) := by decide +kernel
theorem d_Mo_item_83 : decode b_Mo_item 83 = .ok (.iload_n 1, 1) := by decide +kernel
theorem d_Mo_item_84 : decode b_Mo_item 84 = .ok (.imul, 1) := by decide +kernel
theorem d_Mo_item_85 : decode b_Mo_item 85 = .ok (.aload_n 0, 1) := by decide +kernel
theorem d_Mo_item_86 : decode b_Mo_item 86 = .ok (.getfield 29, 3) := by decide +kernel
theorem d_Mo_item_89 : decode b_Mo_item 89 = .ok (.iload_n 1, 1) := by decide +kernel
theorem d_Mo_item_90 : decode b_Mo_item 90 = .ok (.iaload, 1) := by decide +kernel
theorem d_Mo_item_91 : decode b_Mo_item 91 = .ok (.iadd, 1) := by decide +kernel
theorem d_Mo_item_92 : decode b_Mo_item 92 = .ok (.iload_n 3, 1) := by decide +kernel
theorem d_Mo_item_93 : decode b_Mo_item 93 = .ok (.iastore, 1) := by decide +kernel
theorem d_Mo_item_94 : decode b_Mo_item 94 = .ok (.aload_n 0, 1) := by decide +kernel
theorem d_Mo_item_95 : decode b_Mo_item 95 = .ok (.getfield 29, 3) := by decide +kernel
theorem d_Mo_item_98 : decode b_Mo_item 98 = .ok (.iload_n 1, 1) := by decide +kernel
theorem d_Mo_item_99 : decode b_Mo_item 99 = .ok (.dup2, 1) := by decide +kernel
theorem d_Mo_item_100 : decode b_Mo_item 100 = .ok (.iaload, 1) := by decide +kernel
theorem d_Mo_item_101 : decode b_Mo_item 101 = .ok (.iconst 1, 1) := by decide +kernel
theorem d_Mo_item_102 : decode b_Mo_item 102 = .ok (.iadd, 1) := by decide +kernel
theorem d_Mo_item_103 : decode b_Mo_item 103 = .ok (.iastore, 1) := by decide +kernel
theorem d_Mo_item_104 : decode b_Mo_item 104 = .ok (.aload_n 0, 1) := by decide +kernel
theorem d_Mo_item_105 : decode b_Mo_item 105 = .ok (.getfield 29, 3) := by decide +kernel
theorem d_Mo_item_108 : decode b_Mo_item 108 = .ok (.iload_n 1, 1) := by decide +kernel
theorem d_Mo_item_109 : decode b_Mo_item 109 = .ok (.iaload, 1) := by decide +kernel
theorem d_Mo_item_110 : decode b_Mo_item 110 = .ok (.ireturn, 1) := by decide +kernel
theorem d_Mo_noPattern_0 : decode b_Mo_noPattern 0 = .ok (.iload_n 1, 1) := by decide +kernel
theorem d_Mo_noPattern_1 : decode b_Mo_noPattern 1 = .ok (.ifCond .lt 9, 3) := by decide +kernel
theorem d_Mo_noPattern_4 : decode b_Mo_noPattern 4 = .ok (.iload_n 1, 1) := by decide +kernel
theorem d_Mo_noPattern_5 : decode b_Mo_noPattern 5 = .ok (.bipush 7, 2) := by decide +kernel
theorem d_Mo_noPattern_7 : decode b_Mo_noPattern 7 = .ok (.if_icmp .le 7, 3) := by decide +kernel
theorem d_Mo_noPattern_10 : decode b_Mo_noPattern 10 = .ok (.iconst 1, 1) := by decide +kernel
theorem d_Mo_noPattern_11 : decode b_Mo_noPattern 11 = .ok (.goto 4, 3) := by decide +kernel
theorem d_Mo_noPattern_14 : decode b_Mo_noPattern 14 = .ok (.iconst 0, 1) := by decide +kernel
theorem d_Mo_noPattern_15 : decode b_Mo_noPattern 15 = .ok (.ireturn, 1) := by decide +kernel
theorem d_Mo_bind_0 : decode b_Mo_bind 0 = .ok (.aload_n 0, 1) := by decide +kernel
theorem d_Mo_bind_1 : decode b_Mo_bind 1 = .ok (.aload_n 0, 1) := by decide +kernel
theorem d_Mo_bind_2 : decode b_Mo_bind 2 = .ok (.iload_n 1, 1) := by decide +kernel
theorem d_Mo_bind_3 : decode b_Mo_bind 3 = .ok (.invokevirtual 117, 3) := by decide +kernel
theorem d_Mo_bind_6 : decode b_Mo_bind 6 = .ok (.ifCond .eq 7, 3) := by decide +kernel
theorem d_Mo_bind_9 : decode b_Mo_bind 9 = .ok (.iconst 1, 1) := by decide +kernel
theorem d_Mo_bind_10 : decode b_Mo_bind 10 = .ok (.goto 4, 3) := by decide +kernel
theorem d_Mo_bind_13 : decode b_Mo_bind 13 = .ok (.iconst 0, 1) := by decide +kernel
theorem d_Mo_bind_14 : decode b_Mo_bind 14 = .ok (.putfield 78, 3) := by decide +kernel
theorem d_Mo_bind_17 : decode b_Mo_bind 17 = .ok (.aload_n 0, 1) := by decide +kernel
theorem d_Mo_bind_18 : decode b_Mo_bind 18 = .ok (.getfield 78, 3) := by decide +kernel
theorem d_Mo_bind_21 : decode b_Mo_bind 21 = .ok (.ifCond .ne 17, 3) := by decide +kernel
theorem d_Mo_bind_24 : decode b_Mo_bind 24 = .ok (.aload_n 0, 1) := by decide +kernel
theorem d_Mo_bind_25 : decode b_Mo_bind 25 = .ok (.getfield 38, 3) := by decide +kernel
theorem d_Mo_bind_28 : decode b_Mo_bind 28 = .ok (.iload_n 1, 1) := by decide +kernel
theorem d_Mo_bind_29 : decode b_Mo_bind 29 = .ok (.iload_n 2, 1) := by decide +kernel
theorem d_Mo_bind_30 : decode b_Mo_bind 30 = .ok (.bastore, 1) := by decide +kernel
theorem d_Mo_bind_31 : decode b_Mo_bind 31 = .ok (.aload_n 0, 1) := by decide +kernel
theorem d_Mo_bind_32 : decode b_Mo_bind 32 = .ok (.getfield 42, 3) := by decide +kernel
theorem d_Mo_bind_35 : decode b_Mo_bind 35 = .ok (.iload_n 1, 1) := by decide +kernel
theorem d_Mo_bind_36 : decode b_Mo_bind 36 = .ok (.iload_n 3, 1) := by decide +kernel
theorem d_Mo_bind_37 : decode b_Mo_bind 37 = .ok (.bastore, 1) := by decide +kernel
theorem d_Mo_bind_38 : decode b_Mo_bind 38 = .ok (.return_, 1) := by decide +kernel
theorem d_Mo_schema_0 : decode b_Mo_schema 0 = .ok (.aload_n 0, 1) := by decide +kernel
theorem d_Mo_schema_1 : decode b_Mo_schema 1 = .ok (.aload_n 0, 1) := by decide +kernel
theorem d_Mo_schema_2 : decode b_Mo_schema 2 = .ok (.getfield 128, 3) := by decide +kernel
theorem d_Mo_schema_5 : decode b_Mo_schema 5 = .ok (.bipush 24, 2) := by decide +kernel
theorem d_Mo_schema_7 : decode b_Mo_schema 7 = .ok (.if_icmp .ne 7, 3) := by decide +kernel
theorem d_Mo_schema_10 : decode b_Mo_schema 10 = .ok (.iconst 1, 1) := by decide +kernel
theorem d_Mo_schema_11 : decode b_Mo_schema 11 = .ok (.goto 4, 3) := by decide +kernel
theorem d_Mo_schema_14 : decode b_Mo_schema 14 = .ok (.iconst 0, 1) := by decide +kernel
theorem d_Mo_schema_15 : decode b_Mo_schema 15 = .ok (.putfield 78, 3) := by decide +kernel
theorem d_Mo_schema_18 : decode b_Mo_schema 18 = .ok (.aload_n 0, 1) := by decide +kernel
theorem d_Mo_schema_19 : decode b_Mo_schema 19 = .ok (.getfield 78, 3) := by decide +kernel
theorem d_Mo_schema_22 : decode b_Mo_schema 22 = .ok (.ifCond .eq 5, 3) := by decide +kernel
theorem d_Mo_schema_25 : decode b_Mo_schema 25 = .ok (.iconst 0, 1) := by decide +kernel
theorem d_Mo_schema_26 : decode b_Mo_schema 26 = .ok (.ireturn, 1) := by decide +kernel
theorem d_Mo_schema_27 : decode b_Mo_schema 27 = .ok (.aload_n 0, 1) := by decide +kernel
theorem d_Mo_schema_28 : decode b_Mo_schema 28 = .ok (.dup, 1) := by decide +kernel
theorem d_Mo_schema_29 : decode b_Mo_schema 29 = .ok (.getfield 128, 3) := by decide +kernel
theorem d_Mo_schema_32 : decode b_Mo_schema 32 = .ok (.iconst 1, 1) := by decide +kernel
theorem d_Mo_schema_33 : decode b_Mo_schema 33 = .ok (.iadd, 1) := by decide +kernel
theorem d_Mo_schema_34 : decode b_Mo_schema 34 = .ok (.putfield 128, 3) := by decide +kernel
theorem d_Mo_schema_37 : decode b_Mo_schema 37 = .ok (.aload_n 0, 1) := by decide +kernel
theorem d_Mo_schema_38 : decode b_Mo_schema 38 = .ok (.getfield 128, 3) := by decide +kernel
theorem d_Mo_schema_41 : decode b_Mo_schema 41 = .ok (.iconst 1, 1) := by decide +kernel
theorem d_Mo_schema_42 : decode b_Mo_schema 42 = .ok (.isub, 1) := by decide +kernel
theorem d_Mo_schema_43 : decode b_Mo_schema 43 = .ok (.ireturn, 1) := by decide +kernel
theorem d_Mo_rule_0 : decode b_Mo_rule 0 = .ok (.aload_n 0, 1) := by decide +kernel
theorem d_Mo_rule_1 : decode b_Mo_rule 1 = .ok (.aload_n 0, 1) := by decide +kernel
theorem d_Mo_rule_2 : decode b_Mo_rule 2 = .ok (.iload_n 1, 1) := by decide +kernel
theorem d_Mo_rule_3 : decode b_Mo_rule 3 = .ok (.invokevirtual 131, 3) := by decide +kernel
theorem d_Mo_rule_6 : decode b_Mo_rule 6 = .ok (.ifCond .ne 27, 3) := by decide +kernel
theorem d_Mo_rule_9 : decode b_Mo_rule 9 = .ok (.iload_n 2, 1) := by decide +kernel
theorem d_Mo_rule_10 : decode b_Mo_rule 10 = .ok (.ifCond .lt 23, 3) := by decide +kernel
theorem d_Mo_rule_13 : decode b_Mo_rule 13 = .ok (.iload_n 2, 1) := by decide +kernel
theorem d_Mo_rule_14 : decode b_Mo_rule 14 = .ok (.bipush 28, 2) := by decide +kernel
theorem d_Mo_rule_16 : decode b_Mo_rule 16 = .ok (.if_icmp .gt 17, 3) := by decide +kernel
theorem d_Mo_rule_19 : decode b_Mo_rule 19 = .ok (.iload_n 3, 1) := by decide +kernel
theorem d_Mo_rule_20 : decode b_Mo_rule 20 = .ok (.iconst (-1), 1) := by decide +kernel
theorem d_Mo_rule_21 : decode b_Mo_rule 21 = .ok (.if_icmp .eq 16, 3) := by decide +kernel
theorem d_Mo_rule_24 : decode b_Mo_rule 24 = .ok (.aload_n 0, 1) := by decide +kernel
theorem d_Mo_rule_25 : decode b_Mo_rule 25 = .ok (.iload_n 2, 1) := by decide +kernel
theorem d_Mo_rule_26 : decode b_Mo_rule 26 = .ok (.iload_n 3, 1) := by decide +kernel
theorem d_Mo_rule_27 : decode b_Mo_rule 27 = .ok (.invokevirtual 134, 3) := by decide +kernel
theorem d_Mo_rule_30 : decode b_Mo_rule 30 = .ok (.ifCond .ne 7, 3) := by decide +kernel
theorem d_Mo_rule_33 : decode b_Mo_rule 33 = .ok (.iconst 1, 1) := by decide +kernel
theorem d_Mo_rule_34 : decode b_Mo_rule 34 = .ok (.goto 4, 3) := by decide +kernel
theorem d_Mo_rule_37 : decode b_Mo_rule 37 = .ok (.iconst 0, 1) := by decide +kernel
theorem d_Mo_rule_38 : decode b_Mo_rule 38 = .ok (.putfield 78, 3) := by decide +kernel
theorem d_Mo_rule_41 : decode b_Mo_rule 41 = .ok (.aload_n 0, 1) := by decide +kernel
theorem d_Mo_rule_42 : decode b_Mo_rule 42 = .ok (.getfield 78, 3) := by decide +kernel
theorem d_Mo_rule_45 : decode b_Mo_rule 45 = .ok (.ifCond .ne 15, 3) := by decide +kernel
theorem d_Mo_rule_48 : decode b_Mo_rule 48 = .ok (.aload_n 0, 1) := by decide +kernel
theorem d_Mo_rule_49 : decode b_Mo_rule 49 = .ok (.getfield 45, 3) := by decide +kernel
theorem d_Mo_rule_52 : decode b_Mo_rule 52 = .ok (.bipush 29, 2) := by decide +kernel
theorem d_Mo_rule_54 : decode b_Mo_rule 54 = .ok (.iload_n 1, 1) := by decide +kernel
theorem d_Mo_rule_55 : decode b_Mo_rule 55 = .ok (.imul, 1) := by decide +kernel
theorem d_Mo_rule_56 : decode b_Mo_rule 56 = .ok (.iload_n 2, 1) := by decide +kernel
theorem d_Mo_rule_57 : decode b_Mo_rule 57 = .ok (.iadd, 1) := by decide +kernel
theorem d_Mo_rule_58 : decode b_Mo_rule 58 = .ok (.iload_n 3, 1) := by decide +kernel
theorem d_Mo_rule_59 : decode b_Mo_rule 59 = .ok (.iastore, 1) := by decide +kernel
theorem d_Mo_rule_60 : decode b_Mo_rule 60 = .ok (.return_, 1) := by decide +kernel
theorem d_Mo_noSchema_0 : decode b_Mo_noSchema 0 = .ok (.iload_n 1, 1) := by decide +kernel
theorem d_Mo_noSchema_1 : decode b_Mo_noSchema 1 = .ok (.ifCond .lt 11, 3) := by decide +kernel
theorem d_Mo_noSchema_4 : decode b_Mo_noSchema 4 = .ok (.iload_n 1, 1) := by decide +kernel
theorem d_Mo_noSchema_5 : decode b_Mo_noSchema 5 = .ok (.aload_n 0, 1) := by decide +kernel
theorem d_Mo_noSchema_6 : decode b_Mo_noSchema 6 = .ok (.getfield 128, 3) := by decide +kernel
theorem d_Mo_noSchema_9 : decode b_Mo_noSchema 9 = .ok (.if_icmp .lt 7, 3) := by decide +kernel
theorem d_Mo_noSchema_12 : decode b_Mo_noSchema 12 = .ok (.iconst 1, 1) := by decide +kernel
theorem d_Mo_noSchema_13 : decode b_Mo_noSchema 13 = .ok (.goto 4, 3) := by decide +kernel
theorem d_Mo_noSchema_16 : decode b_Mo_noSchema 16 = .ok (.iconst 0, 1) := by decide +kernel
theorem d_Mo_noSchema_17 : decode b_Mo_noSchema 17 = .ok (.ireturn, 1) := by decide +kernel
theorem d_Mo_takes_0 : decode b_Mo_takes 0 = .ok (.iload_n 1, 1) := by decide +kernel
theorem d_Mo_takes_1 : decode b_Mo_takes 1 = .ok (.tableswitch 252 0 25 #[119, 136, 150, 157, 157, 157, 157, 164, 190, 190, 206, 190, 190, 220, 190, 190, 235, 252, 252, 252, 252, 252, 252, 252, 190, 190], 119) := by decide +kernel
theorem d_Mo_takes_120 : decode b_Mo_takes 120 = .ok (.iload_n 2, 1) := by decide +kernel
theorem d_Mo_takes_121 : decode b_Mo_takes 121 = .ok (.ifCond .lt 14, 3) := by decide +kernel
theorem d_Mo_takes_124 : decode b_Mo_takes 124 = .ok (.iload_n 2, 1) := by decide +kernel
theorem d_Mo_takes_125 : decode b_Mo_takes 125 = .ok (.sipush 128, 3) := by decide +kernel
theorem d_Mo_takes_128 : decode b_Mo_takes 128 = .ok (.if_icmp .ge 7, 3) := by decide +kernel
theorem d_Mo_takes_131 : decode b_Mo_takes 131 = .ok (.iconst 1, 1) := by decide +kernel
theorem d_Mo_takes_132 : decode b_Mo_takes 132 = .ok (.goto 4, 3) := by decide +kernel
theorem d_Mo_takes_135 : decode b_Mo_takes 135 = .ok (.iconst 0, 1) := by decide +kernel
theorem d_Mo_takes_136 : decode b_Mo_takes 136 = .ok (.ireturn, 1) := by decide +kernel
theorem d_Mo_takes_137 : decode b_Mo_takes 137 = .ok (.aload_n 0, 1) := by decide +kernel
theorem d_Mo_takes_138 : decode b_Mo_takes 138 = .ok (.iload_n 2, 1) := by decide +kernel
theorem d_Mo_takes_139 : decode b_Mo_takes 139 = .ok (.invokevirtual 101, 3) := by decide +kernel
theorem d_Mo_takes_142 : decode b_Mo_takes 142 = .ok (.ifCond .ne 7, 3) := by decide +kernel
theorem d_Mo_takes_145 : decode b_Mo_takes 145 = .ok (.iconst 1, 1) := by decide +kernel
theorem d_Mo_takes_146 : decode b_Mo_takes 146 = .ok (.goto 4, 3) := by decide +kernel
theorem d_Mo_takes_149 : decode b_Mo_takes 149 = .ok (.iconst 0, 1) := by decide +kernel
theorem d_Mo_takes_150 : decode b_Mo_takes 150 = .ok (.ireturn, 1) := by decide +kernel
theorem d_Mo_takes_151 : decode b_Mo_takes 151 = .ok (.aload_n 0, 1) := by decide +kernel
theorem d_Mo_takes_152 : decode b_Mo_takes 152 = .ok (.iload_n 2, 1) := by decide +kernel
theorem d_Mo_takes_153 : decode b_Mo_takes 153 = .ok (.iconst 4, 1) := by decide +kernel
theorem d_Mo_takes_154 : decode b_Mo_takes 154 = .ok (.invokevirtual 104, 3) := by decide +kernel
theorem d_Mo_takes_157 : decode b_Mo_takes 157 = .ok (.ireturn, 1) := by decide +kernel
theorem d_Mo_takes_158 : decode b_Mo_takes 158 = .ok (.aload_n 0, 1) := by decide +kernel
theorem d_Mo_takes_159 : decode b_Mo_takes 159 = .ok (.iload_n 2, 1) := by decide +kernel
theorem d_Mo_takes_160 : decode b_Mo_takes 160 = .ok (.iconst 2, 1) := by decide +kernel
theorem d_Mo_takes_161 : decode b_Mo_takes 161 = .ok (.invokevirtual 104, 3) := by decide +kernel
theorem d_Mo_takes_164 : decode b_Mo_takes 164 = .ok (.ireturn, 1) := by decide +kernel
theorem d_Mo_takes_165 : decode b_Mo_takes 165 = .ok (.aload_n 0, 1) := by decide +kernel
theorem d_Mo_takes_166 : decode b_Mo_takes 166 = .ok (.iload_n 2, 1) := by decide +kernel
theorem d_Mo_takes_167 : decode b_Mo_takes 167 = .ok (.iconst 2, 1) := by decide +kernel
theorem d_Mo_takes_168 : decode b_Mo_takes 168 = .ok (.invokevirtual 104, 3) := by decide +kernel
theorem d_Mo_takes_171 : decode b_Mo_takes 171 = .ok (.ifCond .eq 18, 3) := by decide +kernel
theorem d_Mo_takes_174 : decode b_Mo_takes 174 = .ok (.aload_n 0, 1) := by decide +kernel
theorem d_Mo_takes_175 : decode b_Mo_takes 175 = .ok (.getfield 13, 3) := by decide +kernel
theorem d_Mo_takes_178 : decode b_Mo_takes 178 = .ok (.iload_n 2, 1) := by decide +kernel
theorem d_Mo_takes_179 : decode b_Mo_takes 179 = .ok (.laload, 1) := by decide +kernel
theorem d_Mo_takes_180 : decode b_Mo_takes 180 = .ok (.lconst 0, 1) := by decide +kernel
theorem d_Mo_takes_181 : decode b_Mo_takes 181 = .ok (.lcmp, 1) := by decide +kernel
theorem d_Mo_takes_182 : decode b_Mo_takes 182 = .ok (.ifCond .le 7, 3) := by decide +kernel
theorem d_Mo_takes_185 : decode b_Mo_takes 185 = .ok (.iconst 1, 1) := by decide +kernel
theorem d_Mo_takes_186 : decode b_Mo_takes 186 = .ok (.goto 4, 3) := by decide +kernel
theorem d_Mo_takes_189 : decode b_Mo_takes 189 = .ok (.iconst 0, 1) := by decide +kernel
theorem d_Mo_takes_190 : decode b_Mo_takes 190 = .ok (.ireturn, 1) := by decide +kernel
theorem d_Mo_takes_191 : decode b_Mo_takes 191 = .ok (.iload_n 2, 1) := by decide +kernel
theorem d_Mo_takes_192 : decode b_Mo_takes 192 = .ok (.ifCond .lt 13, 3) := by decide +kernel
theorem d_Mo_takes_195 : decode b_Mo_takes 195 = .ok (.iload_n 2, 1) := by decide +kernel
theorem d_Mo_takes_196 : decode b_Mo_takes 196 = .ok (.bipush 13, 2) := by decide +kernel
theorem d_Mo_takes_198 : decode b_Mo_takes 198 = .ok (.if_icmp .ge 7, 3) := by decide +kernel
theorem d_Mo_takes_201 : decode b_Mo_takes 201 = .ok (.iconst 1, 1) := by decide +kernel
theorem d_Mo_takes_202 : decode b_Mo_takes 202 = .ok (.goto 4, 3) := by decide +kernel
theorem d_Mo_takes_205 : decode b_Mo_takes 205 = .ok (.iconst 0, 1) := by decide +kernel
theorem d_Mo_takes_206 : decode b_Mo_takes 206 = .ok (.ireturn, 1) := by decide +kernel
theorem d_Mo_takes_207 : decode b_Mo_takes 207 = .ok (.aload_n 0, 1) := by decide +kernel
theorem d_Mo_takes_208 : decode b_Mo_takes 208 = .ok (.iload_n 2, 1) := by decide +kernel
theorem d_Mo_takes_209 : decode b_Mo_takes 209 = .ok (.invokevirtual 117, 3) := by decide +kernel
theorem d_Mo_takes_212 : decode b_Mo_takes 212 = .ok (.ifCond .ne 7, 3) := by decide +kernel
theorem d_Mo_takes_215 : decode b_Mo_takes 215 = .ok (.iconst 1, 1) := by decide +kernel
theorem d_Mo_takes_216 : decode b_Mo_takes 216 = .ok (.goto 4, 3) := by decide +kernel
theorem d_Mo_takes_219 : decode b_Mo_takes 219 = .ok (.iconst 0, 1) := by decide +kernel
theorem d_Mo_takes_220 : decode b_Mo_takes 220 = .ok (.ireturn, 1) := by decide +kernel
theorem d_Mo_takes_221 : decode b_Mo_takes 221 = .ok (.iload_n 2, 1) := by decide +kernel
theorem d_Mo_takes_222 : decode b_Mo_takes 222 = .ok (.ifCond .eq 8, 3) := by decide +kernel
theorem d_Mo_takes_225 : decode b_Mo_takes 225 = .ok (.iload_n 2, 1) := by decide +kernel
theorem d_Mo_takes_226 : decode b_Mo_takes 226 = .ok (.iconst 1, 1) := by decide +kernel
theorem d_Mo_takes_227 : decode b_Mo_takes 227 = .ok (.if_icmp .ne 7, 3) := by decide +kernel
theorem d_Mo_takes_230 : decode b_Mo_takes 230 = .ok (.iconst 1, 1) := by decide +kernel
theorem d_Mo_takes_231 : decode b_Mo_takes 231 = .ok (.goto 4, 3) := by decide +kernel
theorem d_Mo_takes_234 : decode b_Mo_takes 234 = .ok (.iconst 0, 1) := by decide +kernel
theorem d_Mo_takes_235 : decode b_Mo_takes 235 = .ok (.ireturn, 1) := by decide +kernel
theorem d_Mo_takes_236 : decode b_Mo_takes 236 = .ok (.iload_n 2, 1) := by decide +kernel
theorem d_Mo_takes_237 : decode b_Mo_takes 237 = .ok (.ifCond .lt 14, 3) := by decide +kernel
theorem d_Mo_takes_240 : decode b_Mo_takes 240 = .ok (.iload_n 2, 1) := by decide +kernel
theorem d_Mo_takes_241 : decode b_Mo_takes 241 = .ok (.sipush 4096, 3) := by decide +kernel
theorem d_Mo_takes_244 : decode b_Mo_takes 244 = .ok (.if_icmp .ge 7, 3) := by decide +kernel
theorem d_Mo_takes_247 : decode b_Mo_takes 247 = .ok (.iconst 1, 1) := by decide +kernel
theorem d_Mo_takes_248 : decode b_Mo_takes 248 = .ok (.goto 4, 3) := by decide +kernel
theorem d_Mo_takes_251 : decode b_Mo_takes 251 = .ok (.iconst 0, 1) := by decide +kernel
theorem d_Mo_takes_252 : decode b_Mo_takes 252 = .ok (.ireturn, 1) := by decide +kernel
theorem d_Mo_takes_253 : decode b_Mo_takes 253 = .ok (.aload_n 0, 1) := by decide +kernel
theorem d_Mo_takes_254 : decode b_Mo_takes 254 = .ok (.iload_n 2, 1) := by decide +kernel
theorem d_Mo_takes_255 : decode b_Mo_takes 255 = .ok (.invokevirtual 131, 3) := by decide +kernel
theorem d_Mo_takes_258 : decode b_Mo_takes 258 = .ok (.ifCond .ne 7, 3) := by decide +kernel
theorem d_Mo_takes_261 : decode b_Mo_takes 261 = .ok (.iconst 1, 1) := by decide +kernel
theorem d_Mo_takes_262 : decode b_Mo_takes 262 = .ok (.goto 4, 3) := by decide +kernel
theorem d_Mo_takes_265 : decode b_Mo_takes 265 = .ok (.iconst 0, 1) := by decide +kernel
theorem d_Mo_takes_266 : decode b_Mo_takes 266 = .ok (.ireturn, 1) := by decide +kernel
theorem d_Mo_list_0 : decode b_Mo_list 0 = .ok (.aload_n 0, 1) := by decide +kernel
theorem d_Mo_list_1 : decode b_Mo_list 1 = .ok (.aload_n 0, 1) := by decide +kernel
theorem d_Mo_list_2 : decode b_Mo_list 2 = .ok (.iload_n 1, 1) := by decide +kernel
theorem d_Mo_list_3 : decode b_Mo_list 3 = .ok (.invokevirtual 131, 3) := by decide +kernel
theorem d_Mo_list_6 : decode b_Mo_list 6 = .ok (.ifCond .ne 23, 3) := by decide +kernel
theorem d_Mo_list_9 : decode b_Mo_list 9 = .ok (.iload_n 2, 1) := by decide +kernel
theorem d_Mo_list_10 : decode b_Mo_list 10 = .ok (.bipush 29, 2) := by decide +kernel
theorem d_Mo_list_12 : decode b_Mo_list 12 = .ok (.if_icmp .lt 17, 3) := by decide +kernel
theorem d_Mo_list_15 : decode b_Mo_list 15 = .ok (.iload_n 2, 1) := by decide +kernel
theorem d_Mo_list_16 : decode b_Mo_list 16 = .ok (.bipush 32, 2) := by decide +kernel
theorem d_Mo_list_18 : decode b_Mo_list 18 = .ok (.if_icmp .gt 11, 3) := by decide +kernel
theorem d_Mo_list_21 : decode b_Mo_list 21 = .ok (.aload_n 0, 1) := by decide +kernel
theorem d_Mo_list_22 : decode b_Mo_list 22 = .ok (.iload_n 3, 1) := by decide +kernel
theorem d_Mo_list_23 : decode b_Mo_list 23 = .ok (.invokevirtual 131, 3) := by decide +kernel
theorem d_Mo_list_26 : decode b_Mo_list 26 = .ok (.ifCond .eq 7, 3) := by decide +kernel
theorem d_Mo_list_29 : decode b_Mo_list 29 = .ok (.iconst 1, 1) := by decide +kernel
theorem d_Mo_list_30 : decode b_Mo_list 30 = .ok (.goto 25, 3) := by decide +kernel
theorem d_Mo_list_33 : decode b_Mo_list 33 = .ok (.aload_n 0, 1) := by decide +kernel
theorem d_Mo_list_34 : decode b_Mo_list 34 = .ok (.getfield 48, 3) := by decide +kernel
theorem d_Mo_list_37 : decode b_Mo_list 37 = .ok (.iconst 4, 1) := by decide +kernel
theorem d_Mo_list_38 : decode b_Mo_list 38 = .ok (.iload_n 1, 1) := by decide +kernel
theorem d_Mo_list_39 : decode b_Mo_list 39 = .ok (.imul, 1) := by decide +kernel
theorem d_Mo_list_40 : decode b_Mo_list 40 = .ok (.iload_n 2, 1) := by decide +kernel
theorem d_Mo_list_41 : decode b_Mo_list 41 = .ok (.iadd, 1) := by decide +kernel
theorem d_Mo_list_42 : decode b_Mo_list 42 = .ok (.bipush 29, 2) := by decide +kernel
theorem d_Mo_list_44 : decode b_Mo_list 44 = .ok (.isub, 1) := by decide +kernel
theorem d_Mo_list_45 : decode b_Mo_list 45 = .ok (.iaload, 1) := by decide +kernel
theorem d_Mo_list_46 : decode b_Mo_list 46 = .ok (.iconst 3, 1) := by decide +kernel
theorem d_Mo_list_47 : decode b_Mo_list 47 = .ok (.if_icmp .ne 7, 3) := by decide +kernel
theorem d_Mo_list_50 : decode b_Mo_list 50 = .ok (.iconst 2, 1) := by decide +kernel
theorem d_Mo_list_51 : decode b_Mo_list 51 = .ok (.goto 4, 3) := by decide +kernel
theorem d_Mo_list_54 : decode b_Mo_list 54 = .ok (.iconst 0, 1) := by decide +kernel
theorem d_Mo_list_55 : decode b_Mo_list 55 = .ok (.putfield 78, 3) := by decide +kernel
theorem d_Mo_list_58 : decode b_Mo_list 58 = .ok (.aload_n 0, 1) := by decide +kernel
theorem d_Mo_list_59 : decode b_Mo_list 59 = .ok (.getfield 78, 3) := by decide +kernel
theorem d_Mo_list_62 : decode b_Mo_list 62 = .ok (.ifCond .eq 5, 3) := by decide +kernel
theorem d_Mo_list_65 : decode b_Mo_list 65 = .ok (.iconst 0, 1) := by decide +kernel
theorem d_Mo_list_66 : decode b_Mo_list 66 = .ok (.ireturn, 1) := by decide +kernel
theorem d_Mo_list_67 : decode b_Mo_list 67 = .ok (.iconst 4, 1) := by decide +kernel
theorem d_Mo_list_68 : decode b_Mo_list 68 = .ok (.iload_n 1, 1) := by decide +kernel
theorem d_Mo_list_69 : decode b_Mo_list 69 = .ok (.imul, 1) := by decide +kernel
theorem d_Mo_list_70 : decode b_Mo_list 70 = .ok (.iload_n 2, 1) := by decide +kernel
theorem d_Mo_list_71 : decode b_Mo_list 71 = .ok (.iadd, 1) := by decide +kernel
theorem d_Mo_list_72 : decode b_Mo_list 72 = .ok (.bipush 29, 2) := by decide +kernel
theorem d_Mo_list_74 : decode b_Mo_list 74 = .ok (.isub, 1) := by decide +kernel
theorem d_Mo_list_75 : decode b_Mo_list 75 = .ok (.istore 4, 2) := by decide +kernel
theorem d_Mo_list_77 : decode b_Mo_list 77 = .ok (.aload_n 0, 1) := by decide +kernel
theorem d_Mo_list_78 : decode b_Mo_list 78 = .ok (.getfield 51, 3) := by decide +kernel
theorem d_Mo_list_81 : decode b_Mo_list 81 = .ok (.iconst 3, 1) := by decide +kernel
theorem d_Mo_list_82 : decode b_Mo_list 82 = .ok (.iload 4, 2) := by decide +kernel
theorem d_Mo_list_84 : decode b_Mo_list 84 = .ok (.imul, 1) := by decide +kernel
theorem d_Mo_list_85 : decode b_Mo_list 85 = .ok (.aload_n 0, 1) := by decide +kernel
theorem d_Mo_list_86 : decode b_Mo_list 86 = .ok (.getfield 48, 3) := by decide +kernel
theorem d_Mo_list_89 : decode b_Mo_list 89 = .ok (.iload 4, 2) := by decide +kernel
theorem d_Mo_list_91 : decode b_Mo_list 91 = .ok (.iaload, 1) := by decide +kernel
theorem d_Mo_list_92 : decode b_Mo_list 92 = .ok (.iadd, 1) := by decide +kernel
theorem d_Mo_list_93 : decode b_Mo_list 93 = .ok (.iload_n 3, 1) := by decide +kernel
theorem d_Mo_list_94 : decode b_Mo_list 94 = .ok (.iastore, 1) := by decide +kernel
theorem d_Mo_list_95 : decode b_Mo_list 95 = .ok (.aload_n 0, 1) := by decide +kernel
theorem d_Mo_list_96 : decode b_Mo_list 96 = .ok (.getfield 48, 3) := by decide +kernel
theorem d_Mo_list_99 : decode b_Mo_list 99 = .ok (.iload 4, 2) := by decide +kernel
theorem d_Mo_list_101 : decode b_Mo_list 101 = .ok (.dup2, 1) := by decide +kernel
theorem d_Mo_list_102 : decode b_Mo_list 102 = .ok (.iaload, 1) := by decide +kernel
theorem d_Mo_list_103 : decode b_Mo_list 103 = .ok (.iconst 1, 1) := by decide +kernel
theorem d_Mo_list_104 : decode b_Mo_list 104 = .ok (.iadd, 1) := by decide +kernel
theorem d_Mo_list_105 : decode b_Mo_list 105 = .ok (.iastore, 1) := by decide +kernel
theorem d_Mo_list_106 : decode b_Mo_list 106 = .ok (.aload_n 0, 1) := by decide +kernel
theorem d_Mo_list_107 : decode b_Mo_list 107 = .ok (.getfield 48, 3) := by decide +kernel
theorem d_Mo_list_110 : decode b_Mo_list 110 = .ok (.iload 4, 2) := by decide +kernel
theorem d_Mo_list_112 : decode b_Mo_list 112 = .ok (.iaload, 1) := by decide +kernel
theorem d_Mo_list_113 : decode b_Mo_list 113 = .ok (.ireturn, 1) := by decide +kernel
theorem d_Mo_named_0 : decode b_Mo_named 0 = .ok (.aload_n 0, 1) := by decide +kernel
theorem d_Mo_named_1 : decode b_Mo_named 1 = .ok (.iload_n 1, 1) := by decide +kernel
theorem d_Mo_named_2 : decode b_Mo_named 2 = .ok (.invokevirtual 131, 3) := by decide +kernel
theorem d_Mo_named_5 : decode b_Mo_named 5 = .ok (.ifCond .ne 60, 3) := by decide +kernel
theorem d_Mo_named_8 : decode b_Mo_named 8 = .ok (.iload_n 2, 1) := by decide +kernel
theorem d_Mo_named_9 : decode b_Mo_named 9 = .ok (.bipush 33, 2) := by decide +kernel
theorem d_Mo_named_11 : decode b_Mo_named 11 = .ok (.if_icmp .lt 54, 3) := by decide +kernel
theorem d_Mo_named_14 : decode b_Mo_named 14 = .ok (.iload_n 2, 1) := by decide +kernel
theorem d_Mo_named_15 : decode b_Mo_named 15 = .ok (.bipush 35, 2) := by decide +kernel
theorem d_Mo_named_17 : decode b_Mo_named 17 = .ok (.if_icmp .gt 48, 3) := by decide +kernel
theorem d_Mo_named_20 : decode b_Mo_named 20 = .ok (.aload_n 0, 1) := by decide +kernel
theorem d_Mo_named_21 : decode b_Mo_named 21 = .ok (.iload_n 3, 1) := by decide +kernel
theorem d_Mo_named_22 : decode b_Mo_named 22 = .ok (.invokevirtual 108, 3) := by decide +kernel
theorem d_Mo_named_25 : decode b_Mo_named 25 = .ok (.ifCond .ne 40, 3) := by decide +kernel
theorem d_Mo_named_28 : decode b_Mo_named 28 = .ok (.iload 4, 2) := by decide +kernel
theorem d_Mo_named_30 : decode b_Mo_named 30 = .ok (.iconst (-1), 1) := by decide +kernel
theorem d_Mo_named_31 : decode b_Mo_named 31 = .ok (.if_icmp .eq 38, 3) := by decide +kernel
theorem d_Mo_named_34 : decode b_Mo_named 34 = .ok (.iload_n 2, 1) := by decide +kernel
theorem d_Mo_named_35 : decode b_Mo_named 35 = .ok (.bipush 35, 2) := by decide +kernel
theorem d_Mo_named_37 : decode b_Mo_named 37 = .ok (.if_icmp .ne 19, 3) := by decide +kernel
theorem d_Mo_named_40 : decode b_Mo_named 40 = .ok (.iload 4, 2) := by decide +kernel
theorem d_Mo_named_42 : decode b_Mo_named 42 = .ok (.ifCond .lt 23, 3) := by decide +kernel
theorem d_Mo_named_45 : decode b_Mo_named 45 = .ok (.iload 4, 2) := by decide +kernel
theorem d_Mo_named_47 : decode b_Mo_named 47 = .ok (.sipush 4095, 3) := by decide +kernel
theorem d_Mo_named_50 : decode b_Mo_named 50 = .ok (.if_icmp .le 19, 3) := by decide +kernel
theorem d_Mo_named_53 : decode b_Mo_named 53 = .ok (.goto 12, 3) := by decide +kernel
theorem d_Mo_named_56 : decode b_Mo_named 56 = .ok (.aload_n 0, 1) := by decide +kernel
theorem d_Mo_named_57 : decode b_Mo_named 57 = .ok (.iload 4, 2) := by decide +kernel
theorem d_Mo_named_59 : decode b_Mo_named 59 = .ok (.invokevirtual 131, 3) := by decide +kernel
theorem d_Mo_named_62 : decode b_Mo_named 62 = .ok (.ifCond .eq 7, 3) := by decide +kernel
theorem d_Mo_named_65 : decode b_Mo_named 65 = .ok (.iconst 1, 1) := by decide +kernel
theorem d_Mo_named_66 : decode b_Mo_named 66 = .ok (.goto 4, 3) := by decide +kernel
theorem d_Mo_named_69 : decode b_Mo_named 69 = .ok (.iconst 0, 1) := by decide +kernel
theorem d_Mo_named_70 : decode b_Mo_named 70 = .ok (.istore 5, 2) := by decide +kernel
theorem d_Mo_named_72 : decode b_Mo_named 72 = .ok (.aload_n 0, 1) := by decide +kernel
theorem d_Mo_named_73 : decode b_Mo_named 73 = .ok (.iload 5, 2) := by decide +kernel
theorem d_Mo_named_75 : decode b_Mo_named 75 = .ok (.ifCond .eq 7, 3) := by decide +kernel
theorem d_Mo_named_78 : decode b_Mo_named 78 = .ok (.iconst 1, 1) := by decide +kernel
theorem d_Mo_named_79 : decode b_Mo_named 79 = .ok (.goto 4, 3) := by decide +kernel
theorem d_Mo_named_82 : decode b_Mo_named 82 = .ok (.iconst 0, 1) := by decide +kernel
theorem d_Mo_named_83 : decode b_Mo_named 83 = .ok (.putfield 78, 3) := by decide +kernel
theorem d_Mo_named_86 : decode b_Mo_named 86 = .ok (.iload 5, 2) := by decide +kernel
theorem d_Mo_named_88 : decode b_Mo_named 88 = .ok (.ifCond .ne 24, 3) := by decide +kernel
theorem d_Mo_named_91 : decode b_Mo_named 91 = .ok (.aload_n 0, 1) := by decide +kernel
theorem d_Mo_named_92 : decode b_Mo_named 92 = .ok (.getfield 54, 3) := by decide +kernel
theorem d_Mo_named_95 : decode b_Mo_named 95 = .ok (.bipush 36, 2) := by decide +kernel
theorem d_Mo_named_97 : decode b_Mo_named 97 = .ok (.iload_n 1, 1) := by decide +kernel
theorem d_Mo_named_98 : decode b_Mo_named 98 = .ok (.imul, 1) := by decide +kernel
theorem d_Mo_named_99 : decode b_Mo_named 99 = .ok (.bipush 12, 2) := by decide +kernel
theorem d_Mo_named_101 : decode b_Mo_named 101 = .ok (.iload_n 2, 1) := by decide +kernel
theorem d_Mo_named_102 : decode b_Mo_named 102 = .ok (.bipush 33, 2) := by decide +kernel
theorem d_Mo_named_104 : decode b_Mo_named 104 = .ok (.isub, 1) := by decide +kernel
theorem d_Mo_named_105 : decode b_Mo_named 105 = .ok (.imul, 1) := by decide +kernel
theorem d_Mo_named_106 : decode b_Mo_named 106 = .ok (.iadd, 1) := by decide +kernel
theorem d_Mo_named_107 : decode b_Mo_named 107 = .ok (.iload_n 3, 1) := by decide +kernel
theorem d_Mo_named_108 : decode b_Mo_named 108 = .ok (.iadd, 1) := by decide +kernel
theorem d_Mo_named_109 : decode b_Mo_named 109 = .ok (.iload 4, 2) := by decide +kernel
theorem d_Mo_named_111 : decode b_Mo_named 111 = .ok (.iastore, 1) := by decide +kernel
theorem d_Mo_named_112 : decode b_Mo_named 112 = .ok (.return_, 1) := by decide +kernel
theorem d_Mo_judge_0 : decode b_Mo_judge 0 = .ok (.aload_n 0, 1) := by decide +kernel
theorem d_Mo_judge_1 : decode b_Mo_judge 1 = .ok (.aload_n 0, 1) := by decide +kernel
theorem d_Mo_judge_2 : decode b_Mo_judge 2 = .ok (.iload_n 1, 1) := by decide +kernel
theorem d_Mo_judge_3 : decode b_Mo_judge 3 = .ok (.invokevirtual 131, 3) := by decide +kernel
theorem d_Mo_judge_6 : decode b_Mo_judge 6 = .ok (.ifCond .ne 11, 3) := by decide +kernel
theorem d_Mo_judge_9 : decode b_Mo_judge 9 = .ok (.aload_n 0, 1) := by decide +kernel
theorem d_Mo_judge_10 : decode b_Mo_judge 10 = .ok (.iload_n 2, 1) := by decide +kernel
theorem d_Mo_judge_11 : decode b_Mo_judge 11 = .ok (.invokevirtual 101, 3) := by decide +kernel
theorem d_Mo_judge_14 : decode b_Mo_judge 14 = .ok (.ifCond .eq 7, 3) := by decide +kernel
theorem d_Mo_judge_17 : decode b_Mo_judge 17 = .ok (.iconst 1, 1) := by decide +kernel
theorem d_Mo_judge_18 : decode b_Mo_judge 18 = .ok (.goto 4, 3) := by decide +kernel
theorem d_Mo_judge_21 : decode b_Mo_judge 21 = .ok (.iconst 0, 1) := by decide +kernel
theorem d_Mo_judge_22 : decode b_Mo_judge 22 = .ok (.putfield 78, 3) := by decide +kernel
theorem d_Mo_judge_25 : decode b_Mo_judge 25 = .ok (.aload_n 0, 1) := by decide +kernel
theorem d_Mo_judge_26 : decode b_Mo_judge 26 = .ok (.getfield 78, 3) := by decide +kernel
theorem d_Mo_judge_29 : decode b_Mo_judge 29 = .ok (.ifCond .eq 5, 3) := by decide +kernel
theorem d_Mo_judge_32 : decode b_Mo_judge 32 = .ok (.iconst 0, 1) := by decide +kernel
theorem d_Mo_judge_33 : decode b_Mo_judge 33 = .ok (.ireturn, 1) := by decide +kernel
theorem d_Mo_judge_34 : decode b_Mo_judge 34 = .ok (.aload_n 0, 1) := by decide +kernel
theorem d_Mo_judge_35 : decode b_Mo_judge 35 = .ok (.invokevirtual 254, 3) := by decide +kernel
theorem d_Mo_judge_38 : decode b_Mo_judge 38 = .ok (.aload_n 0, 1) := by decide +kernel
theorem d_Mo_judge_39 : decode b_Mo_judge 39 = .ok (.iload_n 1, 1) := by decide +kernel
theorem d_Mo_judge_40 : decode b_Mo_judge 40 = .ok (.invokevirtual 257, 3) := by decide +kernel
theorem d_Mo_judge_43 : decode b_Mo_judge 43 = .ok (.ifCond .ne 10, 3) := by decide +kernel
theorem d_Mo_judge_46 : decode b_Mo_judge 46 = .ok (.aload_n 0, 1) := by decide +kernel
theorem d_Mo_judge_47 : decode b_Mo_judge 47 = .ok (.iconst 2, 1) := by decide +kernel
theorem d_Mo_judge_48 : decode b_Mo_judge 48 = .ok (.putfield 78, 3) := by decide +kernel
theorem d_Mo_judge_51 : decode b_Mo_judge 51 = .ok (.iconst 0, 1) := by decide +kernel
theorem d_Mo_judge_52 : decode b_Mo_judge 52 = .ok (.ireturn, 1) := by decide +kernel
theorem d_Mo_judge_53 : decode b_Mo_judge 53 = .ok (.aload_n 0, 1) := by decide +kernel
theorem d_Mo_judge_54 : decode b_Mo_judge 54 = .ok (.invokevirtual 114, 3) := by decide +kernel
theorem d_Mo_judge_57 : decode b_Mo_judge 57 = .ok (.aload_n 0, 1) := by decide +kernel
theorem d_Mo_judge_58 : decode b_Mo_judge 58 = .ok (.iload_n 2, 1) := by decide +kernel
theorem d_Mo_judge_59 : decode b_Mo_judge 59 = .ok (.invokevirtual 260, 3) := by decide +kernel
theorem d_Mo_judge_62 : decode b_Mo_judge 62 = .ok (.aload_n 0, 1) := by decide +kernel
theorem d_Mo_judge_63 : decode b_Mo_judge 63 = .ok (.getfield 63, 3) := by decide +kernel
theorem d_Mo_judge_66 : decode b_Mo_judge 66 = .ok (.bipush 40, 2) := by decide +kernel
theorem d_Mo_judge_68 : decode b_Mo_judge 68 = .ok (.iload_n 1, 1) := by decide +kernel
theorem d_Mo_judge_69 : decode b_Mo_judge 69 = .ok (.imul, 1) := by decide +kernel
theorem d_Mo_judge_70 : decode b_Mo_judge 70 = .ok (.iload_n 2, 1) := by decide +kernel
theorem d_Mo_judge_71 : decode b_Mo_judge 71 = .ok (.iadd, 1) := by decide +kernel
theorem d_Mo_judge_72 : decode b_Mo_judge 72 = .ok (.iconst 1, 1) := by decide +kernel
theorem d_Mo_judge_73 : decode b_Mo_judge 73 = .ok (.iastore, 1) := by decide +kernel
theorem d_Mo_judge_74 : decode b_Mo_judge 74 = .ok (.aload_n 0, 1) := by decide +kernel
theorem d_Mo_judge_75 : decode b_Mo_judge 75 = .ok (.iload_n 2, 1) := by decide +kernel
theorem d_Mo_judge_76 : decode b_Mo_judge 76 = .ok (.invokevirtual 263, 3) := by decide +kernel
theorem d_Mo_judge_79 : decode b_Mo_judge 79 = .ok (.bipush 30, 2) := by decide +kernel
theorem d_Mo_judge_81 : decode b_Mo_judge 81 = .ok (.if_icmp .le 14, 3) := by decide +kernel
theorem d_Mo_judge_84 : decode b_Mo_judge 84 = .ok (.aload_n 0, 1) := by decide +kernel
theorem d_Mo_judge_85 : decode b_Mo_judge 85 = .ok (.invokevirtual 254, 3) := by decide +kernel
theorem d_Mo_judge_88 : decode b_Mo_judge 88 = .ok (.aload_n 0, 1) := by decide +kernel
theorem d_Mo_judge_89 : decode b_Mo_judge 89 = .ok (.iconst 3, 1) := by decide +kernel
theorem d_Mo_judge_90 : decode b_Mo_judge 90 = .ok (.putfield 78, 3) := by decide +kernel
theorem d_Mo_judge_93 : decode b_Mo_judge 93 = .ok (.iconst 0, 1) := by decide +kernel
theorem d_Mo_judge_94 : decode b_Mo_judge 94 = .ok (.ireturn, 1) := by decide +kernel
theorem d_Mo_judge_95 : decode b_Mo_judge 95 = .ok (.iconst 0, 1) := by decide +kernel
theorem d_Mo_judge_96 : decode b_Mo_judge 96 = .ok (.istore_n 3, 1) := by decide +kernel
theorem d_Mo_judge_97 : decode b_Mo_judge 97 = .ok (.iload_n 3, 1) := by decide +kernel
theorem d_Mo_judge_98 : decode b_Mo_judge 98 = .ok (.iload_n 2, 1) := by decide +kernel
theorem d_Mo_judge_99 : decode b_Mo_judge 99 = .ok (.if_icmp .gt 49, 3) := by decide +kernel
theorem d_Mo_judge_102 : decode b_Mo_judge 102 = .ok (.iconst 0, 1) := by decide +kernel
theorem d_Mo_judge_103 : decode b_Mo_judge 103 = .ok (.istore 4, 2) := by decide +kernel
theorem d_Mo_judge_105 : decode b_Mo_judge 105 = .ok (.iload 4, 2) := by decide +kernel
theorem d_Mo_judge_107 : decode b_Mo_judge 107 = .ok (.aload_n 0, 1) := by decide +kernel
theorem d_Mo_judge_108 : decode b_Mo_judge 108 = .ok (.getfield 128, 3) := by decide +kernel
theorem d_Mo_judge_111 : decode b_Mo_judge 111 = .ok (.if_icmp .ge 31, 3) := by decide +kernel
theorem d_Mo_judge_114 : decode b_Mo_judge 114 = .ok (.aload_n 0, 1) := by decide +kernel
theorem d_Mo_judge_115 : decode b_Mo_judge 115 = .ok (.getfield 63, 3) := by decide +kernel
theorem d_Mo_judge_118 : decode b_Mo_judge 118 = .ok (.bipush 40, 2) := by decide +kernel
theorem d_Mo_judge_120 : decode b_Mo_judge 120 = .ok (.iload 4, 2) := by decide +kernel
theorem d_Mo_judge_122 : decode b_Mo_judge 122 = .ok (.imul, 1) := by decide +kernel
theorem d_Mo_judge_123 : decode b_Mo_judge 123 = .ok (.iload_n 3, 1) := by decide +kernel
theorem d_Mo_judge_124 : decode b_Mo_judge 124 = .ok (.iadd, 1) := by decide +kernel
theorem d_Mo_judge_125 : decode b_Mo_judge 125 = .ok (.iaload, 1) := by decide +kernel
theorem d_Mo_judge_126 : decode b_Mo_judge 126 = .ok (.ifCond .le 10, 3) := by decide +kernel
theorem d_Mo_judge_129 : decode b_Mo_judge 129 = .ok (.aload_n 0, 1) := by decide +kernel
theorem d_Mo_judge_130 : decode b_Mo_judge 130 = .ok (.iload 4, 2) := by decide +kernel
theorem d_Mo_judge_132 : decode b_Mo_judge 132 = .ok (.iload_n 3, 1) := by decide +kernel
theorem d_Mo_judge_133 : decode b_Mo_judge 133 = .ok (.invokevirtual 266, 3) := by decide +kernel
theorem d_Mo_judge_136 : decode b_Mo_judge 136 = .ok (.iinc 4 1, 3) := by decide +kernel
theorem d_Mo_judge_139 : decode b_Mo_judge 139 = .ok (.goto (-34), 3) := by decide +kernel
theorem d_Mo_judge_142 : decode b_Mo_judge 142 = .ok (.iinc 3 1, 3) := by decide +kernel
theorem d_Mo_judge_145 : decode b_Mo_judge 145 = .ok (.goto (-48), 3) := by decide +kernel
theorem d_Mo_judge_148 : decode b_Mo_judge 148 = .ok (.iconst 0, 1) := by decide +kernel
theorem d_Mo_judge_149 : decode b_Mo_judge 149 = .ok (.istore_n 3, 1) := by decide +kernel
theorem d_Mo_judge_150 : decode b_Mo_judge 150 = .ok (.iload_n 3, 1) := by decide +kernel
theorem d_Mo_judge_151 : decode b_Mo_judge 151 = .ok (.sipush 960, 3) := by decide +kernel
theorem d_Mo_judge_154 : decode b_Mo_judge 154 = .ok (.if_icmp .ge 21, 3) := by decide +kernel
theorem d_Mo_judge_157 : decode b_Mo_judge 157 = .ok (.aload_n 0, 1) := by decide +kernel
theorem d_Mo_judge_158 : decode b_Mo_judge 158 = .ok (.getfield 75, 3) := by decide +kernel
theorem d_Mo_judge_161 : decode b_Mo_judge 161 = .ok (.iload_n 3, 1) := by decide +kernel
theorem d_Mo_judge_162 : decode b_Mo_judge 162 = .ok (.aload_n 0, 1) := by decide +kernel
theorem d_Mo_judge_163 : decode b_Mo_judge 163 = .ok (.getfield 60, 3) := by decide +kernel
theorem d_Mo_judge_166 : decode b_Mo_judge 166 = .ok (.iload_n 3, 1) := by decide +kernel
theorem d_Mo_judge_167 : decode b_Mo_judge 167 = .ok (.iaload, 1) := by decide +kernel
theorem d_Mo_judge_168 : decode b_Mo_judge 168 = .ok (.iastore, 1) := by decide +kernel
theorem d_Mo_judge_169 : decode b_Mo_judge 169 = .ok (.iinc 3 1, 3) := by decide +kernel
theorem d_Mo_judge_172 : decode b_Mo_judge 172 = .ok (.goto (-22), 3) := by decide +kernel
theorem d_Mo_judge_175 : decode b_Mo_judge 175 = .ok (.aload_n 0, 1) := by decide +kernel
theorem d_Mo_judge_176 : decode b_Mo_judge 176 = .ok (.iload_n 1, 1) := by decide +kernel
theorem d_Mo_judge_177 : decode b_Mo_judge 177 = .ok (.iload_n 2, 1) := by decide +kernel
theorem d_Mo_judge_178 : decode b_Mo_judge 178 = .ok (.invokevirtual 193, 3) := by decide +kernel
theorem d_Mo_judge_181 : decode b_Mo_judge 181 = .ok (.ireturn, 1) := by decide +kernel
theorem d_Mo_forget_0 : decode b_Mo_forget 0 = .ok (.aload_n 0, 1) := by decide +kernel
theorem d_Mo_forget_1 : decode b_Mo_forget 1 = .ok (.iconst 0, 1) := by decide +kernel
theorem d_Mo_forget_2 : decode b_Mo_forget 2 = .ok (.putfield 245, 3) := by decide +kernel
theorem d_Mo_forget_5 : decode b_Mo_forget 5 = .ok (.iconst 0, 1) := by decide +kernel
theorem d_Mo_forget_6 : decode b_Mo_forget 6 = .ok (.istore_n 1, 1) := by decide +kernel
theorem d_Mo_forget_7 : decode b_Mo_forget 7 = .ok (.iload_n 1, 1) := by decide +kernel
theorem d_Mo_forget_8 : decode b_Mo_forget 8 = .ok (.sipush 960, 3) := by decide +kernel
theorem d_Mo_forget_11 : decode b_Mo_forget 11 = .ok (.if_icmp .ge 23, 3) := by decide +kernel
theorem d_Mo_forget_14 : decode b_Mo_forget 14 = .ok (.aload_n 0, 1) := by decide +kernel
theorem d_Mo_forget_15 : decode b_Mo_forget 15 = .ok (.getfield 63, 3) := by decide +kernel
theorem d_Mo_forget_18 : decode b_Mo_forget 18 = .ok (.iload_n 1, 1) := by decide +kernel
theorem d_Mo_forget_19 : decode b_Mo_forget 19 = .ok (.iconst 0, 1) := by decide +kernel
theorem d_Mo_forget_20 : decode b_Mo_forget 20 = .ok (.iastore, 1) := by decide +kernel
theorem d_Mo_forget_21 : decode b_Mo_forget 21 = .ok (.aload_n 0, 1) := by decide +kernel
theorem d_Mo_forget_22 : decode b_Mo_forget 22 = .ok (.getfield 72, 3) := by decide +kernel
theorem d_Mo_forget_25 : decode b_Mo_forget 25 = .ok (.iload_n 1, 1) := by decide +kernel
theorem d_Mo_forget_26 : decode b_Mo_forget 26 = .ok (.lconst 0, 1) := by decide +kernel
theorem d_Mo_forget_27 : decode b_Mo_forget 27 = .ok (.lastore, 1) := by decide +kernel
theorem d_Mo_forget_28 : decode b_Mo_forget 28 = .ok (.iinc 1 1, 3) := by decide +kernel
theorem d_Mo_forget_31 : decode b_Mo_forget 31 = .ok (.goto (-24), 3) := by decide +kernel
theorem d_Mo_forget_34 : decode b_Mo_forget 34 = .ok (.return_, 1) := by decide +kernel
theorem d_Mo_order_0 : decode b_Mo_order 0 = .ok (.iconst 0, 1) := by decide +kernel
theorem d_Mo_order_1 : decode b_Mo_order 1 = .ok (.istore_n 2, 1) := by decide +kernel
theorem d_Mo_order_2 : decode b_Mo_order 2 = .ok (.iload_n 2, 1) := by decide +kernel
theorem d_Mo_order_3 : decode b_Mo_order 3 = .ok (.bipush 24, 2) := by decide +kernel
theorem d_Mo_order_5 : decode b_Mo_order 5 = .ok (.if_icmp .ge 32, 3) := by decide +kernel
theorem d_Mo_order_8 : decode b_Mo_order 8 = .ok (.aload_n 0, 1) := by decide +kernel
theorem d_Mo_order_9 : decode b_Mo_order 9 = .ok (.getfield 66, 3) := by decide +kernel
theorem d_Mo_order_12 : decode b_Mo_order 12 = .ok (.iload_n 2, 1) := by decide +kernel
theorem d_Mo_order_13 : decode b_Mo_order 13 = .ok (.iload_n 2, 1) := by decide +kernel
theorem d_Mo_order_14 : decode b_Mo_order 14 = .ok (.iload_n 1, 1) := by decide +kernel
theorem d_Mo_order_15 : decode b_Mo_order 15 = .ok (.if_icmp .ne 7, 3) := by decide +kernel
theorem d_Mo_order_18 : decode b_Mo_order 18 = .ok (.iconst 1, 1) := by decide +kernel
theorem d_Mo_order_19 : decode b_Mo_order 19 = .ok (.goto 4, 3) := by decide +kernel
theorem d_Mo_order_22 : decode b_Mo_order 22 = .ok (.iconst 0, 1) := by decide +kernel
theorem d_Mo_order_23 : decode b_Mo_order 23 = .ok (.bastore, 1) := by decide +kernel
theorem d_Mo_order_24 : decode b_Mo_order 24 = .ok (.aload_n 0, 1) := by decide +kernel
theorem d_Mo_order_25 : decode b_Mo_order 25 = .ok (.getfield 69, 3) := by decide +kernel
theorem d_Mo_order_28 : decode b_Mo_order 28 = .ok (.iload_n 2, 1) := by decide +kernel
theorem d_Mo_order_29 : decode b_Mo_order 29 = .ok (.iconst 0, 1) := by decide +kernel
theorem d_Mo_order_30 : decode b_Mo_order 30 = .ok (.iastore, 1) := by decide +kernel
theorem d_Mo_order_31 : decode b_Mo_order 31 = .ok (.iinc 2 1, 3) := by decide +kernel
theorem d_Mo_order_34 : decode b_Mo_order 34 = .ok (.goto (-32), 3) := by decide +kernel
theorem d_Mo_order_37 : decode b_Mo_order 37 = .ok (.aload_n 0, 1) := by decide +kernel
theorem d_Mo_order_38 : decode b_Mo_order 38 = .ok (.iconst 1, 1) := by decide +kernel
theorem d_Mo_order_39 : decode b_Mo_order 39 = .ok (.putfield 137, 3) := by decide +kernel
theorem d_Mo_order_42 : decode b_Mo_order 42 = .ok (.aload_n 0, 1) := by decide +kernel
theorem d_Mo_order_43 : decode b_Mo_order 43 = .ok (.getfield 137, 3) := by decide +kernel
theorem d_Mo_order_46 : decode b_Mo_order 46 = .ok (.ifCond .eq 41, 3) := by decide +kernel
theorem d_Mo_order_49 : decode b_Mo_order 49 = .ok (.aload_n 0, 1) := by decide +kernel
theorem d_Mo_order_50 : decode b_Mo_order 50 = .ok (.iconst 0, 1) := by decide +kernel
theorem d_Mo_order_51 : decode b_Mo_order 51 = .ok (.putfield 137, 3) := by decide +kernel
theorem d_Mo_order_54 : decode b_Mo_order 54 = .ok (.iconst 0, 1) := by decide +kernel
theorem d_Mo_order_55 : decode b_Mo_order 55 = .ok (.istore_n 2, 1) := by decide +kernel
theorem d_Mo_order_56 : decode b_Mo_order 56 = .ok (.iload_n 2, 1) := by decide +kernel
theorem d_Mo_order_57 : decode b_Mo_order 57 = .ok (.aload_n 0, 1) := by decide +kernel
theorem d_Mo_order_58 : decode b_Mo_order 58 = .ok (.getfield 128, 3) := by decide +kernel
theorem d_Mo_order_61 : decode b_Mo_order 61 = .ok (.if_icmp .ge 23, 3) := by decide +kernel
theorem d_Mo_order_64 : decode b_Mo_order 64 = .ok (.aload_n 0, 1) := by decide +kernel
theorem d_Mo_order_65 : decode b_Mo_order 65 = .ok (.getfield 66, 3) := by decide +kernel
theorem d_Mo_order_68 : decode b_Mo_order 68 = .ok (.iload_n 2, 1) := by decide +kernel
theorem d_Mo_order_69 : decode b_Mo_order 69 = .ok (.baload, 1) := by decide +kernel
theorem d_Mo_order_70 : decode b_Mo_order 70 = .ok (.ifCond .eq 8, 3) := by decide +kernel
theorem d_Mo_order_73 : decode b_Mo_order 73 = .ok (.aload_n 0, 1) := by decide +kernel
theorem d_Mo_order_74 : decode b_Mo_order 74 = .ok (.iload_n 2, 1) := by decide +kernel
theorem d_Mo_order_75 : decode b_Mo_order 75 = .ok (.invokevirtual 161, 3) := by decide +kernel
theorem d_Mo_order_78 : decode b_Mo_order 78 = .ok (.iinc 2 1, 3) := by decide +kernel
theorem d_Mo_order_81 : decode b_Mo_order 81 = .ok (.goto (-25), 3) := by decide +kernel
theorem d_Mo_order_84 : decode b_Mo_order 84 = .ok (.goto (-42), 3) := by decide +kernel
theorem d_Mo_order_87 : decode b_Mo_order 87 = .ok (.aload_n 0, 1) := by decide +kernel
theorem d_Mo_order_88 : decode b_Mo_order 88 = .ok (.iconst 1, 1) := by decide +kernel
theorem d_Mo_order_89 : decode b_Mo_order 89 = .ok (.putfield 137, 3) := by decide +kernel
theorem d_Mo_order_92 : decode b_Mo_order 92 = .ok (.iconst 0, 1) := by decide +kernel
theorem d_Mo_order_93 : decode b_Mo_order 93 = .ok (.istore_n 2, 1) := by decide +kernel
theorem d_Mo_order_94 : decode b_Mo_order 94 = .ok (.iload_n 2, 1) := by decide +kernel
theorem d_Mo_order_95 : decode b_Mo_order 95 = .ok (.bipush 26, 2) := by decide +kernel
theorem d_Mo_order_97 : decode b_Mo_order 97 = .ok (.if_icmp .ge 51, 3) := by decide +kernel
theorem d_Mo_order_100 : decode b_Mo_order 100 = .ok (.aload_n 0, 1) := by decide +kernel
theorem d_Mo_order_101 : decode b_Mo_order 101 = .ok (.getfield 137, 3) := by decide +kernel
theorem d_Mo_order_104 : decode b_Mo_order 104 = .ok (.ifCond .eq 44, 3) := by decide +kernel
theorem d_Mo_order_107 : decode b_Mo_order 107 = .ok (.aload_n 0, 1) := by decide +kernel
theorem d_Mo_order_108 : decode b_Mo_order 108 = .ok (.iconst 0, 1) := by decide +kernel
theorem d_Mo_order_109 : decode b_Mo_order 109 = .ok (.putfield 137, 3) := by decide +kernel
theorem d_Mo_order_112 : decode b_Mo_order 112 = .ok (.iconst 0, 1) := by decide +kernel
theorem d_Mo_order_113 : decode b_Mo_order 113 = .ok (.istore_n 3, 1) := by decide +kernel
theorem d_Mo_order_114 : decode b_Mo_order 114 = .ok (.iload_n 3, 1) := by decide +kernel
theorem d_Mo_order_115 : decode b_Mo_order 115 = .ok (.aload_n 0, 1) := by decide +kernel
theorem d_Mo_order_116 : decode b_Mo_order 116 = .ok (.getfield 128, 3) := by decide +kernel
theorem d_Mo_order_119 : decode b_Mo_order 119 = .ok (.if_icmp .ge 23, 3) := by decide +kernel
theorem d_Mo_order_122 : decode b_Mo_order 122 = .ok (.aload_n 0, 1) := by decide +kernel
theorem d_Mo_order_123 : decode b_Mo_order 123 = .ok (.getfield 66, 3) := by decide +kernel
theorem d_Mo_order_126 : decode b_Mo_order 126 = .ok (.iload_n 3, 1) := by decide +kernel
theorem d_Mo_order_127 : decode b_Mo_order 127 = .ok (.baload, 1) := by decide +kernel
theorem d_Mo_order_128 : decode b_Mo_order 128 = .ok (.ifCond .eq 8, 3) := by decide +kernel
theorem d_Mo_order_131 : decode b_Mo_order 131 = .ok (.aload_n 0, 1) := by decide +kernel
theorem d_Mo_order_132 : decode b_Mo_order 132 = .ok (.iload_n 3, 1) := by decide +kernel
theorem d_Mo_order_133 : decode b_Mo_order 133 = .ok (.invokevirtual 164, 3) := by decide +kernel
theorem d_Mo_order_136 : decode b_Mo_order 136 = .ok (.iinc 3 1, 3) := by decide +kernel
theorem d_Mo_order_139 : decode b_Mo_order 139 = .ok (.goto (-25), 3) := by decide +kernel
theorem d_Mo_order_142 : decode b_Mo_order 142 = .ok (.iinc 2 1, 3) := by decide +kernel
theorem d_Mo_order_145 : decode b_Mo_order 145 = .ok (.goto (-51), 3) := by decide +kernel
theorem d_Mo_order_148 : decode b_Mo_order 148 = .ok (.aload_n 0, 1) := by decide +kernel
theorem d_Mo_order_149 : decode b_Mo_order 149 = .ok (.getfield 137, 3) := by decide +kernel
theorem d_Mo_order_152 : decode b_Mo_order 152 = .ok (.ifCond .ne 7, 3) := by decide +kernel
theorem d_Mo_order_155 : decode b_Mo_order 155 = .ok (.iconst 1, 1) := by decide +kernel
theorem d_Mo_order_156 : decode b_Mo_order 156 = .ok (.goto 4, 3) := by decide +kernel
theorem d_Mo_order_159 : decode b_Mo_order 159 = .ok (.iconst 0, 1) := by decide +kernel
theorem d_Mo_order_160 : decode b_Mo_order 160 = .ok (.ireturn, 1) := by decide +kernel
theorem d_Mo_reachFrom_0 : decode b_Mo_reachFrom 0 = .ok (.bipush 17, 2) := by decide +kernel
theorem d_Mo_reachFrom_2 : decode b_Mo_reachFrom 2 = .ok (.istore_n 2, 1) := by decide +kernel
theorem d_Mo_reachFrom_3 : decode b_Mo_reachFrom 3 = .ok (.iload_n 2, 1) := by decide +kernel
theorem d_Mo_reachFrom_4 : decode b_Mo_reachFrom 4 = .ok (.bipush 29, 2) := by decide +kernel
theorem d_Mo_reachFrom_6 : decode b_Mo_reachFrom 6 = .ok (.if_icmp .ge 35, 3) := by decide +kernel
theorem d_Mo_reachFrom_9 : decode b_Mo_reachFrom 9 = .ok (.aload_n 0, 1) := by decide +kernel
theorem d_Mo_reachFrom_10 : decode b_Mo_reachFrom 10 = .ok (.iload_n 2, 1) := by decide +kernel
theorem d_Mo_reachFrom_11 : decode b_Mo_reachFrom 11 = .ok (.bipush 24, 2) := by decide +kernel
theorem d_Mo_reachFrom_13 : decode b_Mo_reachFrom 13 = .ok (.if_icmp .eq 9, 3) := by decide +kernel
theorem d_Mo_reachFrom_16 : decode b_Mo_reachFrom 16 = .ok (.iload_n 2, 1) := by decide +kernel
theorem d_Mo_reachFrom_17 : decode b_Mo_reachFrom 17 = .ok (.bipush 25, 2) := by decide +kernel
theorem d_Mo_reachFrom_19 : decode b_Mo_reachFrom 19 = .ok (.if_icmp .ne 7, 3) := by decide +kernel
theorem d_Mo_reachFrom_22 : decode b_Mo_reachFrom 22 = .ok (.iconst (-1), 1) := by decide +kernel
theorem d_Mo_reachFrom_23 : decode b_Mo_reachFrom 23 = .ok (.goto 9, 3) := by decide +kernel
theorem d_Mo_reachFrom_26 : decode b_Mo_reachFrom 26 = .ok (.aload_n 0, 1) := by decide +kernel
theorem d_Mo_reachFrom_27 : decode b_Mo_reachFrom 27 = .ok (.iload_n 1, 1) := by decide +kernel
theorem d_Mo_reachFrom_28 : decode b_Mo_reachFrom 28 = .ok (.iload_n 2, 1) := by decide +kernel
theorem d_Mo_reachFrom_29 : decode b_Mo_reachFrom 29 = .ok (.invokevirtual 141, 3) := by decide +kernel
theorem d_Mo_reachFrom_32 : decode b_Mo_reachFrom 32 = .ok (.invokevirtual 144, 3) := by decide +kernel
theorem d_Mo_reachFrom_35 : decode b_Mo_reachFrom 35 = .ok (.iinc 2 1, 3) := by decide +kernel
theorem d_Mo_reachFrom_38 : decode b_Mo_reachFrom 38 = .ok (.goto (-35), 3) := by decide +kernel
theorem d_Mo_reachFrom_41 : decode b_Mo_reachFrom 41 = .ok (.bipush 29, 2) := by decide +kernel
theorem d_Mo_reachFrom_43 : decode b_Mo_reachFrom 43 = .ok (.istore_n 2, 1) := by decide +kernel
theorem d_Mo_reachFrom_44 : decode b_Mo_reachFrom 44 = .ok (.iload_n 2, 1) := by decide +kernel
theorem d_Mo_reachFrom_45 : decode b_Mo_reachFrom 45 = .ok (.bipush 33, 2) := by decide +kernel
theorem d_Mo_reachFrom_47 : decode b_Mo_reachFrom 47 = .ok (.if_icmp .ge 38, 3) := by decide +kernel
theorem d_Mo_reachFrom_50 : decode b_Mo_reachFrom 50 = .ok (.iconst 0, 1) := by decide +kernel
theorem d_Mo_reachFrom_51 : decode b_Mo_reachFrom 51 = .ok (.istore_n 3, 1) := by decide +kernel
theorem d_Mo_reachFrom_52 : decode b_Mo_reachFrom 52 = .ok (.iload_n 3, 1) := by decide +kernel
theorem d_Mo_reachFrom_53 : decode b_Mo_reachFrom 53 = .ok (.aload_n 0, 1) := by decide +kernel
theorem d_Mo_reachFrom_54 : decode b_Mo_reachFrom 54 = .ok (.iload_n 1, 1) := by decide +kernel
theorem d_Mo_reachFrom_55 : decode b_Mo_reachFrom 55 = .ok (.iload_n 2, 1) := by decide +kernel
theorem d_Mo_reachFrom_56 : decode b_Mo_reachFrom 56 = .ok (.invokevirtual 148, 3) := by decide +kernel
theorem d_Mo_reachFrom_59 : decode b_Mo_reachFrom 59 = .ok (.if_icmp .ge 20, 3) := by decide +kernel
theorem d_Mo_reachFrom_62 : decode b_Mo_reachFrom 62 = .ok (.aload_n 0, 1) := by decide +kernel
theorem d_Mo_reachFrom_63 : decode b_Mo_reachFrom 63 = .ok (.aload_n 0, 1) := by decide +kernel
theorem d_Mo_reachFrom_64 : decode b_Mo_reachFrom 64 = .ok (.iload_n 1, 1) := by decide +kernel
theorem d_Mo_reachFrom_65 : decode b_Mo_reachFrom 65 = .ok (.iload_n 2, 1) := by decide +kernel
theorem d_Mo_reachFrom_66 : decode b_Mo_reachFrom 66 = .ok (.iload_n 3, 1) := by decide +kernel
theorem d_Mo_reachFrom_67 : decode b_Mo_reachFrom 67 = .ok (.invokevirtual 151, 3) := by decide +kernel
theorem d_Mo_reachFrom_70 : decode b_Mo_reachFrom 70 = .ok (.invokevirtual 144, 3) := by decide +kernel
theorem d_Mo_reachFrom_73 : decode b_Mo_reachFrom 73 = .ok (.iinc 3 1, 3) := by decide +kernel
theorem d_Mo_reachFrom_76 : decode b_Mo_reachFrom 76 = .ok (.goto (-24), 3) := by decide +kernel
theorem d_Mo_reachFrom_79 : decode b_Mo_reachFrom 79 = .ok (.iinc 2 1, 3) := by decide +kernel
theorem d_Mo_reachFrom_82 : decode b_Mo_reachFrom 82 = .ok (.goto (-38), 3) := by decide +kernel
theorem d_Mo_reachFrom_85 : decode b_Mo_reachFrom 85 = .ok (.iconst 0, 1) := by decide +kernel
theorem d_Mo_reachFrom_86 : decode b_Mo_reachFrom 86 = .ok (.istore_n 2, 1) := by decide +kernel
theorem d_Mo_reachFrom_87 : decode b_Mo_reachFrom 87 = .ok (.iload_n 2, 1) := by decide +kernel
theorem d_Mo_reachFrom_88 : decode b_Mo_reachFrom 88 = .ok (.bipush 12, 2) := by decide +kernel
theorem d_Mo_reachFrom_90 : decode b_Mo_reachFrom 90 = .ok (.if_icmp .ge 33, 3) := by decide +kernel
theorem d_Mo_reachFrom_93 : decode b_Mo_reachFrom 93 = .ok (.aload_n 0, 1) := by decide +kernel
theorem d_Mo_reachFrom_94 : decode b_Mo_reachFrom 94 = .ok (.aload_n 0, 1) := by decide +kernel
theorem d_Mo_reachFrom_95 : decode b_Mo_reachFrom 95 = .ok (.iload_n 1, 1) := by decide +kernel
theorem d_Mo_reachFrom_96 : decode b_Mo_reachFrom 96 = .ok (.bipush 33, 2) := by decide +kernel
theorem d_Mo_reachFrom_98 : decode b_Mo_reachFrom 98 = .ok (.iload_n 2, 1) := by decide +kernel
theorem d_Mo_reachFrom_99 : decode b_Mo_reachFrom 99 = .ok (.invokevirtual 154, 3) := by decide +kernel
theorem d_Mo_reachFrom_102 : decode b_Mo_reachFrom 102 = .ok (.invokevirtual 144, 3) := by decide +kernel
theorem d_Mo_reachFrom_105 : decode b_Mo_reachFrom 105 = .ok (.aload_n 0, 1) := by decide +kernel
theorem d_Mo_reachFrom_106 : decode b_Mo_reachFrom 106 = .ok (.aload_n 0, 1) := by decide +kernel
theorem d_Mo_reachFrom_107 : decode b_Mo_reachFrom 107 = .ok (.iload_n 1, 1) := by decide +kernel
theorem d_Mo_reachFrom_108 : decode b_Mo_reachFrom 108 = .ok (.bipush 34, 2) := by decide +kernel
theorem d_Mo_reachFrom_110 : decode b_Mo_reachFrom 110 = .ok (.iload_n 2, 1) := by decide +kernel
theorem d_Mo_reachFrom_111 : decode b_Mo_reachFrom 111 = .ok (.invokevirtual 154, 3) := by decide +kernel
theorem d_Mo_reachFrom_114 : decode b_Mo_reachFrom 114 = .ok (.invokevirtual 144, 3) := by decide +kernel
theorem d_Mo_reachFrom_117 : decode b_Mo_reachFrom 117 = .ok (.iinc 2 1, 3) := by decide +kernel
theorem d_Mo_reachFrom_120 : decode b_Mo_reachFrom 120 = .ok (.goto (-33), 3) := by decide +kernel
theorem d_Mo_reachFrom_123 : decode b_Mo_reachFrom 123 = .ok (.return_, 1) := by decide +kernel
theorem d_Mo_said_0 : decode b_Mo_said 0 = .ok (.aload_n 0, 1) := by decide +kernel
theorem d_Mo_said_1 : decode b_Mo_said 1 = .ok (.getfield 45, 3) := by decide +kernel
theorem d_Mo_said_4 : decode b_Mo_said 4 = .ok (.bipush 29, 2) := by decide +kernel
theorem d_Mo_said_6 : decode b_Mo_said 6 = .ok (.iload_n 1, 1) := by decide +kernel
theorem d_Mo_said_7 : decode b_Mo_said 7 = .ok (.imul, 1) := by decide +kernel
theorem d_Mo_said_8 : decode b_Mo_said 8 = .ok (.iload_n 2, 1) := by decide +kernel
theorem d_Mo_said_9 : decode b_Mo_said 9 = .ok (.iadd, 1) := by decide +kernel
theorem d_Mo_said_10 : decode b_Mo_said 10 = .ok (.iaload, 1) := by decide +kernel
theorem d_Mo_said_11 : decode b_Mo_said 11 = .ok (.ireturn, 1) := by decide +kernel
theorem d_Mo_reach_0 : decode b_Mo_reach 0 = .ok (.iload_n 1, 1) := by decide +kernel
theorem d_Mo_reach_1 : decode b_Mo_reach 1 = .ok (.ifCond .lt 24, 3) := by decide +kernel
theorem d_Mo_reach_4 : decode b_Mo_reach 4 = .ok (.aload_n 0, 1) := by decide +kernel
theorem d_Mo_reach_5 : decode b_Mo_reach 5 = .ok (.getfield 66, 3) := by decide +kernel
theorem d_Mo_reach_8 : decode b_Mo_reach 8 = .ok (.iload_n 1, 1) := by decide +kernel
theorem d_Mo_reach_9 : decode b_Mo_reach 9 = .ok (.baload, 1) := by decide +kernel
theorem d_Mo_reach_10 : decode b_Mo_reach 10 = .ok (.ifCond .ne 15, 3) := by decide +kernel
theorem d_Mo_reach_13 : decode b_Mo_reach 13 = .ok (.aload_n 0, 1) := by decide +kernel
theorem d_Mo_reach_14 : decode b_Mo_reach 14 = .ok (.getfield 66, 3) := by decide +kernel
theorem d_Mo_reach_17 : decode b_Mo_reach 17 = .ok (.iload_n 1, 1) := by decide +kernel
theorem d_Mo_reach_18 : decode b_Mo_reach 18 = .ok (.iconst 1, 1) := by decide +kernel
theorem d_Mo_reach_19 : decode b_Mo_reach 19 = .ok (.bastore, 1) := by decide +kernel
theorem d_Mo_reach_20 : decode b_Mo_reach 20 = .ok (.aload_n 0, 1) := by decide +kernel
theorem d_Mo_reach_21 : decode b_Mo_reach 21 = .ok (.iconst 1, 1) := by decide +kernel
theorem d_Mo_reach_22 : decode b_Mo_reach 22 = .ok (.putfield 137, 3) := by decide +kernel
theorem d_Mo_reach_25 : decode b_Mo_reach 25 = .ok (.return_, 1) := by decide +kernel
theorem d_Mo_many_0 : decode b_Mo_many 0 = .ok (.aload_n 0, 1) := by decide +kernel
theorem d_Mo_many_1 : decode b_Mo_many 1 = .ok (.getfield 48, 3) := by decide +kernel
theorem d_Mo_many_4 : decode b_Mo_many 4 = .ok (.iconst 4, 1) := by decide +kernel
theorem d_Mo_many_5 : decode b_Mo_many 5 = .ok (.iload_n 1, 1) := by decide +kernel
theorem d_Mo_many_6 : decode b_Mo_many 6 = .ok (.imul, 1) := by decide +kernel
theorem d_Mo_many_7 : decode b_Mo_many 7 = .ok (.iload_n 2, 1) := by decide +kernel
theorem d_Mo_many_8 : decode b_Mo_many 8 = .ok (.iadd, 1) := by decide +kernel
theorem d_Mo_many_9 : decode b_Mo_many 9 = .ok (.bipush 29, 2) := by decide +kernel
theorem d_Mo_many_11 : decode b_Mo_many 11 = .ok (.isub, 1) := by decide +kernel
theorem d_Mo_many_12 : decode b_Mo_many 12 = .ok (.iaload, 1) := by decide +kernel
theorem d_Mo_many_13 : decode b_Mo_many 13 = .ok (.ireturn, 1) := by decide +kernel
theorem d_Mo_listed_0 : decode b_Mo_listed 0 = .ok (.aload_n 0, 1) := by decide +kernel
theorem d_Mo_listed_1 : decode b_Mo_listed 1 = .ok (.getfield 51, 3) := by decide +kernel
theorem d_Mo_listed_4 : decode b_Mo_listed 4 = .ok (.bipush 12, 2) := by decide +kernel
theorem d_Mo_listed_6 : decode b_Mo_listed 6 = .ok (.iload_n 1, 1) := by decide +kernel
theorem d_Mo_listed_7 : decode b_Mo_listed 7 = .ok (.imul, 1) := by decide +kernel
theorem d_Mo_listed_8 : decode b_Mo_listed 8 = .ok (.iconst 3, 1) := by decide +kernel
theorem d_Mo_listed_9 : decode b_Mo_listed 9 = .ok (.iload_n 2, 1) := by decide +kernel
theorem d_Mo_listed_10 : decode b_Mo_listed 10 = .ok (.bipush 29, 2) := by decide +kernel
theorem d_Mo_listed_12 : decode b_Mo_listed 12 = .ok (.isub, 1) := by decide +kernel
theorem d_Mo_listed_13 : decode b_Mo_listed 13 = .ok (.imul, 1) := by decide +kernel
theorem d_Mo_listed_14 : decode b_Mo_listed 14 = .ok (.iadd, 1) := by decide +kernel
theorem d_Mo_listed_15 : decode b_Mo_listed 15 = .ok (.iload_n 3, 1) := by decide +kernel
theorem d_Mo_listed_16 : decode b_Mo_listed 16 = .ok (.iadd, 1) := by decide +kernel
theorem d_Mo_listed_17 : decode b_Mo_listed 17 = .ok (.iaload, 1) := by decide +kernel
theorem d_Mo_listed_18 : decode b_Mo_listed 18 = .ok (.ireturn, 1) := by decide +kernel
theorem d_Mo_byName_0 : decode b_Mo_byName 0 = .ok (.aload_n 0, 1) := by decide +kernel
theorem d_Mo_byName_1 : decode b_Mo_byName 1 = .ok (.getfield 54, 3) := by decide +kernel
theorem d_Mo_byName_4 : decode b_Mo_byName 4 = .ok (.bipush 36, 2) := by decide +kernel
theorem d_Mo_byName_6 : decode b_Mo_byName 6 = .ok (.iload_n 1, 1) := by decide +kernel
theorem d_Mo_byName_7 : decode b_Mo_byName 7 = .ok (.imul, 1) := by decide +kernel
theorem d_Mo_byName_8 : decode b_Mo_byName 8 = .ok (.bipush 12, 2) := by decide +kernel
theorem d_Mo_byName_10 : decode b_Mo_byName 10 = .ok (.iload_n 2, 1) := by decide +kernel
theorem d_Mo_byName_11 : decode b_Mo_byName 11 = .ok (.bipush 33, 2) := by decide +kernel
theorem d_Mo_byName_13 : decode b_Mo_byName 13 = .ok (.isub, 1) := by decide +kernel
theorem d_Mo_byName_14 : decode b_Mo_byName 14 = .ok (.imul, 1) := by decide +kernel
theorem d_Mo_byName_15 : decode b_Mo_byName 15 = .ok (.iadd, 1) := by decide +kernel
theorem d_Mo_byName_16 : decode b_Mo_byName 16 = .ok (.iload_n 3, 1) := by decide +kernel
theorem d_Mo_byName_17 : decode b_Mo_byName 17 = .ok (.iadd, 1) := by decide +kernel
theorem d_Mo_byName_18 : decode b_Mo_byName 18 = .ok (.iaload, 1) := by decide +kernel
theorem d_Mo_byName_19 : decode b_Mo_byName 19 = .ok (.ireturn, 1) := by decide +kernel
theorem d_Mo_lowerFrom_0 : decode b_Mo_lowerFrom 0 = .ok (.bipush 17, 2) := by decide +kernel
theorem d_Mo_lowerFrom_2 : decode b_Mo_lowerFrom 2 = .ok (.istore_n 2, 1) := by decide +kernel
theorem d_Mo_lowerFrom_3 : decode b_Mo_lowerFrom 3 = .ok (.iload_n 2, 1) := by decide +kernel
theorem d_Mo_lowerFrom_4 : decode b_Mo_lowerFrom 4 = .ok (.bipush 22, 2) := by decide +kernel
theorem d_Mo_lowerFrom_6 : decode b_Mo_lowerFrom 6 = .ok (.if_icmp .ge 20, 3) := by decide +kernel
theorem d_Mo_lowerFrom_9 : decode b_Mo_lowerFrom 9 = .ok (.aload_n 0, 1) := by decide +kernel
theorem d_Mo_lowerFrom_10 : decode b_Mo_lowerFrom 10 = .ok (.iload_n 1, 1) := by decide +kernel
theorem d_Mo_lowerFrom_11 : decode b_Mo_lowerFrom 11 = .ok (.aload_n 0, 1) := by decide +kernel
theorem d_Mo_lowerFrom_12 : decode b_Mo_lowerFrom 12 = .ok (.iload_n 1, 1) := by decide +kernel
theorem d_Mo_lowerFrom_13 : decode b_Mo_lowerFrom 13 = .ok (.iload_n 2, 1) := by decide +kernel
theorem d_Mo_lowerFrom_14 : decode b_Mo_lowerFrom 14 = .ok (.invokevirtual 141, 3) := by decide +kernel
theorem d_Mo_lowerFrom_17 : decode b_Mo_lowerFrom 17 = .ok (.invokevirtual 157, 3) := by decide +kernel
theorem d_Mo_lowerFrom_20 : decode b_Mo_lowerFrom 20 = .ok (.iinc 2 1, 3) := by decide +kernel
theorem d_Mo_lowerFrom_23 : decode b_Mo_lowerFrom 23 = .ok (.goto (-20), 3) := by decide +kernel
theorem d_Mo_lowerFrom_26 : decode b_Mo_lowerFrom 26 = .ok (.bipush 29, 2) := by decide +kernel
theorem d_Mo_lowerFrom_28 : decode b_Mo_lowerFrom 28 = .ok (.istore_n 2, 1) := by decide +kernel
theorem d_Mo_lowerFrom_29 : decode b_Mo_lowerFrom 29 = .ok (.iload_n 2, 1) := by decide +kernel
theorem d_Mo_lowerFrom_30 : decode b_Mo_lowerFrom 30 = .ok (.bipush 32, 2) := by decide +kernel
theorem d_Mo_lowerFrom_32 : decode b_Mo_lowerFrom 32 = .ok (.if_icmp .ge 39, 3) := by decide +kernel
theorem d_Mo_lowerFrom_35 : decode b_Mo_lowerFrom 35 = .ok (.iconst 0, 1) := by decide +kernel
theorem d_Mo_lowerFrom_36 : decode b_Mo_lowerFrom 36 = .ok (.istore_n 3, 1) := by decide +kernel
theorem d_Mo_lowerFrom_37 : decode b_Mo_lowerFrom 37 = .ok (.iload_n 3, 1) := by decide +kernel
theorem d_Mo_lowerFrom_38 : decode b_Mo_lowerFrom 38 = .ok (.aload_n 0, 1) := by decide +kernel
theorem d_Mo_lowerFrom_39 : decode b_Mo_lowerFrom 39 = .ok (.iload_n 1, 1) := by decide +kernel
theorem d_Mo_lowerFrom_40 : decode b_Mo_lowerFrom 40 = .ok (.iload_n 2, 1) := by decide +kernel
theorem d_Mo_lowerFrom_41 : decode b_Mo_lowerFrom 41 = .ok (.invokevirtual 148, 3) := by decide +kernel
theorem d_Mo_lowerFrom_44 : decode b_Mo_lowerFrom 44 = .ok (.if_icmp .ge 21, 3) := by decide +kernel
theorem d_Mo_lowerFrom_47 : decode b_Mo_lowerFrom 47 = .ok (.aload_n 0, 1) := by decide +kernel
theorem d_Mo_lowerFrom_48 : decode b_Mo_lowerFrom 48 = .ok (.iload_n 1, 1) := by decide +kernel
theorem d_Mo_lowerFrom_49 : decode b_Mo_lowerFrom 49 = .ok (.aload_n 0, 1) := by decide +kernel
theorem d_Mo_lowerFrom_50 : decode b_Mo_lowerFrom 50 = .ok (.iload_n 1, 1) := by decide +kernel
theorem d_Mo_lowerFrom_51 : decode b_Mo_lowerFrom 51 = .ok (.iload_n 2, 1) := by decide +kernel
theorem d_Mo_lowerFrom_52 : decode b_Mo_lowerFrom 52 = .ok (.iload_n 3, 1) := by decide +kernel
theorem d_Mo_lowerFrom_53 : decode b_Mo_lowerFrom 53 = .ok (.invokevirtual 151, 3) := by decide +kernel
theorem d_Mo_lowerFrom_56 : decode b_Mo_lowerFrom 56 = .ok (.invokevirtual 157, 3) := by decide +kernel
theorem d_Mo_lowerFrom_59 : decode b_Mo_lowerFrom 59 = .ok (.iinc 3 1, 3) := by decide +kernel
theorem d_Mo_lowerFrom_62 : decode b_Mo_lowerFrom 62 = .ok (.goto (-25), 3) := by decide +kernel
theorem d_Mo_lowerFrom_65 : decode b_Mo_lowerFrom 65 = .ok (.iinc 2 1, 3) := by decide +kernel
theorem d_Mo_lowerFrom_68 : decode b_Mo_lowerFrom 68 = .ok (.goto (-39), 3) := by decide +kernel
theorem d_Mo_lowerFrom_71 : decode b_Mo_lowerFrom 71 = .ok (.iconst 0, 1) := by decide +kernel
theorem d_Mo_lowerFrom_72 : decode b_Mo_lowerFrom 72 = .ok (.istore_n 2, 1) := by decide +kernel
theorem d_Mo_lowerFrom_73 : decode b_Mo_lowerFrom 73 = .ok (.iload_n 2, 1) := by decide +kernel
theorem d_Mo_lowerFrom_74 : decode b_Mo_lowerFrom 74 = .ok (.bipush 12, 2) := by decide +kernel
theorem d_Mo_lowerFrom_76 : decode b_Mo_lowerFrom 76 = .ok (.if_icmp .ge 22, 3) := by decide +kernel
theorem d_Mo_lowerFrom_79 : decode b_Mo_lowerFrom 79 = .ok (.aload_n 0, 1) := by decide +kernel
theorem d_Mo_lowerFrom_80 : decode b_Mo_lowerFrom 80 = .ok (.iload_n 1, 1) := by decide +kernel
theorem d_Mo_lowerFrom_81 : decode b_Mo_lowerFrom 81 = .ok (.aload_n 0, 1) := by decide +kernel
theorem d_Mo_lowerFrom_82 : decode b_Mo_lowerFrom 82 = .ok (.iload_n 1, 1) := by decide +kernel
theorem d_Mo_lowerFrom_83 : decode b_Mo_lowerFrom 83 = .ok (.bipush 34, 2) := by decide +kernel
theorem d_Mo_lowerFrom_85 : decode b_Mo_lowerFrom 85 = .ok (.iload_n 2, 1) := by decide +kernel
theorem d_Mo_lowerFrom_86 : decode b_Mo_lowerFrom 86 = .ok (.invokevirtual 154, 3) := by decide +kernel
theorem d_Mo_lowerFrom_89 : decode b_Mo_lowerFrom 89 = .ok (.invokevirtual 157, 3) := by decide +kernel
theorem d_Mo_lowerFrom_92 : decode b_Mo_lowerFrom 92 = .ok (.iinc 2 1, 3) := by decide +kernel
theorem d_Mo_lowerFrom_95 : decode b_Mo_lowerFrom 95 = .ok (.goto (-22), 3) := by decide +kernel
theorem d_Mo_lowerFrom_98 : decode b_Mo_lowerFrom 98 = .ok (.return_, 1) := by decide +kernel
theorem d_Mo_lower_0 : decode b_Mo_lower 0 = .ok (.iload_n 2, 1) := by decide +kernel
theorem d_Mo_lower_1 : decode b_Mo_lower 1 = .ok (.ifCond .lt 37, 3) := by decide +kernel
theorem d_Mo_lower_4 : decode b_Mo_lower 4 = .ok (.aload_n 0, 1) := by decide +kernel
theorem d_Mo_lower_5 : decode b_Mo_lower 5 = .ok (.getfield 69, 3) := by decide +kernel
theorem d_Mo_lower_8 : decode b_Mo_lower 8 = .ok (.iload_n 2, 1) := by decide +kernel
theorem d_Mo_lower_9 : decode b_Mo_lower 9 = .ok (.iaload, 1) := by decide +kernel
theorem d_Mo_lower_10 : decode b_Mo_lower 10 = .ok (.aload_n 0, 1) := by decide +kernel
theorem d_Mo_lower_11 : decode b_Mo_lower 11 = .ok (.getfield 69, 3) := by decide +kernel
theorem d_Mo_lower_14 : decode b_Mo_lower 14 = .ok (.iload_n 1, 1) := by decide +kernel
theorem d_Mo_lower_15 : decode b_Mo_lower 15 = .ok (.iaload, 1) := by decide +kernel
theorem d_Mo_lower_16 : decode b_Mo_lower 16 = .ok (.if_icmp .gt 22, 3) := by decide +kernel
theorem d_Mo_lower_19 : decode b_Mo_lower 19 = .ok (.aload_n 0, 1) := by decide +kernel
theorem d_Mo_lower_20 : decode b_Mo_lower 20 = .ok (.getfield 69, 3) := by decide +kernel
theorem d_Mo_lower_23 : decode b_Mo_lower 23 = .ok (.iload_n 2, 1) := by decide +kernel
theorem d_Mo_lower_24 : decode b_Mo_lower 24 = .ok (.aload_n 0, 1) := by decide +kernel
theorem d_Mo_lower_25 : decode b_Mo_lower 25 = .ok (.getfield 69, 3) := by decide +kernel
theorem d_Mo_lower_28 : decode b_Mo_lower 28 = .ok (.iload_n 1, 1) := by decide +kernel
theorem d_Mo_lower_29 : decode b_Mo_lower 29 = .ok (.iaload, 1) := by decide +kernel
theorem d_Mo_lower_30 : decode b_Mo_lower 30 = .ok (.iconst 1, 1) := by decide +kernel
theorem d_Mo_lower_31 : decode b_Mo_lower 31 = .ok (.iadd, 1) := by decide +kernel
theorem d_Mo_lower_32 : decode b_Mo_lower 32 = .ok (.iastore, 1) := by decide +kernel
theorem d_Mo_lower_33 : decode b_Mo_lower 33 = .ok (.aload_n 0, 1) := by decide +kernel
theorem d_Mo_lower_34 : decode b_Mo_lower 34 = .ok (.iconst 1, 1) := by decide +kernel
theorem d_Mo_lower_35 : decode b_Mo_lower 35 = .ok (.putfield 137, 3) := by decide +kernel
theorem d_Mo_lower_38 : decode b_Mo_lower 38 = .ok (.return_, 1) := by decide +kernel
theorem d_Mo_decideAll_0 : decode b_Mo_decideAll 0 = .ok (.iconst 0, 1) := by decide +kernel
theorem d_Mo_decideAll_1 : decode b_Mo_decideAll 1 = .ok (.istore_n 2, 1) := by decide +kernel
theorem d_Mo_decideAll_2 : decode b_Mo_decideAll 2 = .ok (.iload_n 2, 1) := by decide +kernel
theorem d_Mo_decideAll_3 : decode b_Mo_decideAll 3 = .ok (.iload_n 1, 1) := by decide +kernel
theorem d_Mo_decideAll_4 : decode b_Mo_decideAll 4 = .ok (.if_icmp .gt 68, 3) := by decide +kernel
theorem d_Mo_decideAll_7 : decode b_Mo_decideAll 7 = .ok (.bipush 26, 2) := by decide +kernel
theorem d_Mo_decideAll_9 : decode b_Mo_decideAll 9 = .ok (.istore_n 3, 1) := by decide +kernel
theorem d_Mo_decideAll_10 : decode b_Mo_decideAll 10 = .ok (.iload_n 3, 1) := by decide +kernel
theorem d_Mo_decideAll_11 : decode b_Mo_decideAll 11 = .ok (.ifCond .lt 55, 3) := by decide +kernel
theorem d_Mo_decideAll_14 : decode b_Mo_decideAll 14 = .ok (.iconst 0, 1) := by decide +kernel
theorem d_Mo_decideAll_15 : decode b_Mo_decideAll 15 = .ok (.istore 4, 2) := by decide +kernel
theorem d_Mo_decideAll_17 : decode b_Mo_decideAll 17 = .ok (.iload 4, 2) := by decide +kernel
theorem d_Mo_decideAll_19 : decode b_Mo_decideAll 19 = .ok (.aload_n 0, 1) := by decide +kernel
theorem d_Mo_decideAll_20 : decode b_Mo_decideAll 20 = .ok (.getfield 128, 3) := by decide +kernel
theorem d_Mo_decideAll_23 : decode b_Mo_decideAll 23 = .ok (.if_icmp .ge 37, 3) := by decide +kernel
theorem d_Mo_decideAll_26 : decode b_Mo_decideAll 26 = .ok (.aload_n 0, 1) := by decide +kernel
theorem d_Mo_decideAll_27 : decode b_Mo_decideAll 27 = .ok (.getfield 66, 3) := by decide +kernel
theorem d_Mo_decideAll_30 : decode b_Mo_decideAll 30 = .ok (.iload 4, 2) := by decide +kernel
theorem d_Mo_decideAll_32 : decode b_Mo_decideAll 32 = .ok (.baload, 1) := by decide +kernel
theorem d_Mo_decideAll_33 : decode b_Mo_decideAll 33 = .ok (.ifCond .eq 21, 3) := by decide +kernel
theorem d_Mo_decideAll_36 : decode b_Mo_decideAll 36 = .ok (.aload_n 0, 1) := by decide +kernel
theorem d_Mo_decideAll_37 : decode b_Mo_decideAll 37 = .ok (.getfield 69, 3) := by decide +kernel
theorem d_Mo_decideAll_40 : decode b_Mo_decideAll 40 = .ok (.iload 4, 2) := by decide +kernel
theorem d_Mo_decideAll_42 : decode b_Mo_decideAll 42 = .ok (.iaload, 1) := by decide +kernel
theorem d_Mo_decideAll_43 : decode b_Mo_decideAll 43 = .ok (.iload_n 3, 1) := by decide +kernel
theorem d_Mo_decideAll_44 : decode b_Mo_decideAll 44 = .ok (.if_icmp .ne 10, 3) := by decide +kernel
theorem d_Mo_decideAll_47 : decode b_Mo_decideAll 47 = .ok (.aload_n 0, 1) := by decide +kernel
theorem d_Mo_decideAll_48 : decode b_Mo_decideAll 48 = .ok (.iload 4, 2) := by decide +kernel
theorem d_Mo_decideAll_50 : decode b_Mo_decideAll 50 = .ok (.iload_n 2, 1) := by decide +kernel
theorem d_Mo_decideAll_51 : decode b_Mo_decideAll 51 = .ok (.invokevirtual 248, 3) := by decide +kernel
theorem d_Mo_decideAll_54 : decode b_Mo_decideAll 54 = .ok (.iinc 4 1, 3) := by decide +kernel
theorem d_Mo_decideAll_57 : decode b_Mo_decideAll 57 = .ok (.goto (-40), 3) := by decide +kernel
theorem d_Mo_decideAll_60 : decode b_Mo_decideAll 60 = .ok (.iinc 3 (-1), 3) := by decide +kernel
theorem d_Mo_decideAll_63 : decode b_Mo_decideAll 63 = .ok (.goto (-53), 3) := by decide +kernel
theorem d_Mo_decideAll_66 : decode b_Mo_decideAll 66 = .ok (.iinc 2 1, 3) := by decide +kernel
theorem d_Mo_decideAll_69 : decode b_Mo_decideAll 69 = .ok (.goto (-67), 3) := by decide +kernel
theorem d_Mo_decideAll_72 : decode b_Mo_decideAll 72 = .ok (.return_, 1) := by decide +kernel
theorem d_Mo_decide_0 : decode b_Mo_decide 0 = .ok (.iconst 1, 1) := by decide +kernel
theorem d_Mo_decide_1 : decode b_Mo_decide 1 = .ok (.istore_n 3, 1) := by decide +kernel
theorem d_Mo_decide_2 : decode b_Mo_decide 2 = .ok (.iconst 0, 1) := by decide +kernel
theorem d_Mo_decide_3 : decode b_Mo_decide 3 = .ok (.istore 4, 2) := by decide +kernel
theorem d_Mo_decide_5 : decode b_Mo_decide 5 = .ok (.iload 4, 2) := by decide +kernel
theorem d_Mo_decide_7 : decode b_Mo_decide 7 = .ok (.bipush 36, 2) := by decide +kernel
theorem d_Mo_decide_9 : decode b_Mo_decide 9 = .ok (.if_icmp .ge 30, 3) := by decide +kernel
theorem d_Mo_decide_12 : decode b_Mo_decide 12 = .ok (.iload_n 3, 1) := by decide +kernel
theorem d_Mo_decide_13 : decode b_Mo_decide 13 = .ok (.ifCond .eq 18, 3) := by decide +kernel
theorem d_Mo_decide_16 : decode b_Mo_decide 16 = .ok (.aload_n 0, 1) := by decide +kernel
theorem d_Mo_decide_17 : decode b_Mo_decide 17 = .ok (.iload_n 1, 1) := by decide +kernel
theorem d_Mo_decide_18 : decode b_Mo_decide 18 = .ok (.iload_n 2, 1) := by decide +kernel
theorem d_Mo_decide_19 : decode b_Mo_decide 19 = .ok (.iload 4, 2) := by decide +kernel
theorem d_Mo_decide_21 : decode b_Mo_decide 21 = .ok (.invokevirtual 231, 3) := by decide +kernel
theorem d_Mo_decide_24 : decode b_Mo_decide 24 = .ok (.ifCond .eq 7, 3) := by decide +kernel
theorem d_Mo_decide_27 : decode b_Mo_decide 27 = .ok (.iconst 1, 1) := by decide +kernel
theorem d_Mo_decide_28 : decode b_Mo_decide 28 = .ok (.goto 4, 3) := by decide +kernel
theorem d_Mo_decide_31 : decode b_Mo_decide 31 = .ok (.iconst 0, 1) := by decide +kernel
theorem d_Mo_decide_32 : decode b_Mo_decide 32 = .ok (.istore_n 3, 1) := by decide +kernel
theorem d_Mo_decide_33 : decode b_Mo_decide 33 = .ok (.iinc 4 1, 3) := by decide +kernel
theorem d_Mo_decide_36 : decode b_Mo_decide 36 = .ok (.goto (-31), 3) := by decide +kernel
theorem d_Mo_decide_39 : decode b_Mo_decide 39 = .ok (.aload_n 0, 1) := by decide +kernel
theorem d_Mo_decide_40 : decode b_Mo_decide 40 = .ok (.iload_n 1, 1) := by decide +kernel
theorem d_Mo_decide_41 : decode b_Mo_decide 41 = .ok (.iload_n 2, 1) := by decide +kernel
theorem d_Mo_decide_42 : decode b_Mo_decide 42 = .ok (.invokevirtual 215, 3) := by decide +kernel
theorem d_Mo_decide_45 : decode b_Mo_decide 45 = .ok (.istore 4, 2) := by decide +kernel
theorem d_Mo_decide_47 : decode b_Mo_decide 47 = .ok (.aload_n 0, 1) := by decide +kernel
theorem d_Mo_decide_48 : decode b_Mo_decide 48 = .ok (.iload_n 1, 1) := by decide +kernel
theorem d_Mo_decide_49 : decode b_Mo_decide 49 = .ok (.bipush 27, 2) := by decide +kernel
theorem d_Mo_decide_51 : decode b_Mo_decide 51 = .ok (.invokevirtual 141, 3) := by decide +kernel
theorem d_Mo_decide_54 : decode b_Mo_decide 54 = .ok (.ifCond .lt 21, 3) := by decide +kernel
theorem d_Mo_decide_57 : decode b_Mo_decide 57 = .ok (.aload_n 0, 1) := by decide +kernel
theorem d_Mo_decide_58 : decode b_Mo_decide 58 = .ok (.getfield 7, 3) := by decide +kernel
theorem d_Mo_decide_61 : decode b_Mo_decide 61 = .ok (.iload_n 2, 1) := by decide +kernel
theorem d_Mo_decide_62 : decode b_Mo_decide 62 = .ok (.iaload, 1) := by decide +kernel
theorem d_Mo_decide_63 : decode b_Mo_decide 63 = .ok (.iconst 5, 1) := by decide +kernel
theorem d_Mo_decide_64 : decode b_Mo_decide 64 = .ok (.if_icmp .ne 11, 3) := by decide +kernel
theorem d_Mo_decide_67 : decode b_Mo_decide 67 = .ok (.aload_n 0, 1) := by decide +kernel
theorem d_Mo_decide_68 : decode b_Mo_decide 68 = .ok (.iload_n 2, 1) := by decide +kernel
theorem d_Mo_decide_69 : decode b_Mo_decide 69 = .ok (.invokevirtual 187, 3) := by decide +kernel
theorem d_Mo_decide_72 : decode b_Mo_decide 72 = .ok (.goto 38, 3) := by decide +kernel
theorem d_Mo_decide_75 : decode b_Mo_decide 75 = .ok (.aload_n 0, 1) := by decide +kernel
theorem d_Mo_decide_76 : decode b_Mo_decide 76 = .ok (.iload_n 1, 1) := by decide +kernel
theorem d_Mo_decide_77 : decode b_Mo_decide 77 = .ok (.bipush 28, 2) := by decide +kernel
theorem d_Mo_decide_79 : decode b_Mo_decide 79 = .ok (.invokevirtual 141, 3) := by decide +kernel
theorem d_Mo_decide_82 : decode b_Mo_decide 82 = .ok (.ifCond .lt 26, 3) := by decide +kernel
theorem d_Mo_decide_85 : decode b_Mo_decide 85 = .ok (.aload_n 0, 1) := by decide +kernel
theorem d_Mo_decide_86 : decode b_Mo_decide 86 = .ok (.getfield 7, 3) := by decide +kernel
theorem d_Mo_decide_89 : decode b_Mo_decide 89 = .ok (.iload_n 2, 1) := by decide +kernel
theorem d_Mo_decide_90 : decode b_Mo_decide 90 = .ok (.iaload, 1) := by decide +kernel
theorem d_Mo_decide_91 : decode b_Mo_decide 91 = .ok (.iconst 4, 1) := by decide +kernel
theorem d_Mo_decide_92 : decode b_Mo_decide 92 = .ok (.if_icmp .ne 16, 3) := by decide +kernel
theorem d_Mo_decide_95 : decode b_Mo_decide 95 = .ok (.iconst 1, 1) := by decide +kernel
theorem d_Mo_decide_96 : decode b_Mo_decide 96 = .ok (.aload_n 0, 1) := by decide +kernel
theorem d_Mo_decide_97 : decode b_Mo_decide 97 = .ok (.getfield 17, 3) := by decide +kernel
theorem d_Mo_decide_100 : decode b_Mo_decide 100 = .ok (.iload_n 2, 1) := by decide +kernel
theorem d_Mo_decide_101 : decode b_Mo_decide 101 = .ok (.iaload, 1) := by decide +kernel
theorem d_Mo_decide_102 : decode b_Mo_decide 102 = .ok (.ishl, 1) := by decide +kernel
theorem d_Mo_decide_103 : decode b_Mo_decide 103 = .ok (.iconst 1, 1) := by decide +kernel
theorem d_Mo_decide_104 : decode b_Mo_decide 104 = .ok (.isub, 1) := by decide +kernel
theorem d_Mo_decide_105 : decode b_Mo_decide 105 = .ok (.goto 5, 3) := by decide +kernel
theorem d_Mo_decide_108 : decode b_Mo_decide 108 = .ok (.iload 4, 2) := by decide +kernel
theorem d_Mo_decide_110 : decode b_Mo_decide 110 = .ok (.istore 4, 2) := by decide +kernel
theorem d_Mo_decide_112 : decode b_Mo_decide 112 = .ok (.aload_n 0, 1) := by decide +kernel
theorem d_Mo_decide_113 : decode b_Mo_decide 113 = .ok (.getfield 57, 3) := by decide +kernel
theorem d_Mo_decide_116 : decode b_Mo_decide 116 = .ok (.bipush 40, 2) := by decide +kernel
theorem d_Mo_decide_118 : decode b_Mo_decide 118 = .ok (.iload_n 1, 1) := by decide +kernel
theorem d_Mo_decide_119 : decode b_Mo_decide 119 = .ok (.imul, 1) := by decide +kernel
theorem d_Mo_decide_120 : decode b_Mo_decide 120 = .ok (.iload_n 2, 1) := by decide +kernel
theorem d_Mo_decide_121 : decode b_Mo_decide 121 = .ok (.iadd, 1) := by decide +kernel
theorem d_Mo_decide_122 : decode b_Mo_decide 122 = .ok (.iload_n 3, 1) := by decide +kernel
theorem d_Mo_decide_123 : decode b_Mo_decide 123 = .ok (.bastore, 1) := by decide +kernel
theorem d_Mo_decide_124 : decode b_Mo_decide 124 = .ok (.aload_n 0, 1) := by decide +kernel
theorem d_Mo_decide_125 : decode b_Mo_decide 125 = .ok (.getfield 60, 3) := by decide +kernel
theorem d_Mo_decide_128 : decode b_Mo_decide 128 = .ok (.bipush 40, 2) := by decide +kernel
theorem d_Mo_decide_130 : decode b_Mo_decide 130 = .ok (.iload_n 1, 1) := by decide +kernel
theorem d_Mo_decide_131 : decode b_Mo_decide 131 = .ok (.imul, 1) := by decide +kernel
theorem d_Mo_decide_132 : decode b_Mo_decide 132 = .ok (.iload_n 2, 1) := by decide +kernel
theorem d_Mo_decide_133 : decode b_Mo_decide 133 = .ok (.iadd, 1) := by decide +kernel
theorem d_Mo_decide_134 : decode b_Mo_decide 134 = .ok (.iload_n 3, 1) := by decide +kernel
theorem d_Mo_decide_135 : decode b_Mo_decide 135 = .ok (.ifCond .eq 8, 3) := by decide +kernel
theorem d_Mo_decide_138 : decode b_Mo_decide 138 = .ok (.iload 4, 2) := by decide +kernel
theorem d_Mo_decide_140 : decode b_Mo_decide 140 = .ok (.goto 4, 3) := by decide +kernel
theorem d_Mo_decide_143 : decode b_Mo_decide 143 = .ok (.iconst 0, 1) := by decide +kernel
theorem d_Mo_decide_144 : decode b_Mo_decide 144 = .ok (.iastore, 1) := by decide +kernel
theorem d_Mo_decide_145 : decode b_Mo_decide 145 = .ok (.return_, 1) := by decide +kernel
theorem d_Mo_holds_0 : decode b_Mo_holds 0 = .ok (.iload_n 3, 1) := by decide +kernel
theorem d_Mo_holds_1 : decode b_Mo_holds 1 = .ok (.bipush 32, 2) := by decide +kernel
theorem d_Mo_holds_3 : decode b_Mo_holds 3 = .ok (.if_icmp .le 11, 3) := by decide +kernel
theorem d_Mo_holds_6 : decode b_Mo_holds 6 = .ok (.aload_n 0, 1) := by decide +kernel
theorem d_Mo_holds_7 : decode b_Mo_holds 7 = .ok (.iload_n 1, 1) := by decide +kernel
theorem d_Mo_holds_8 : decode b_Mo_holds 8 = .ok (.iload_n 2, 1) := by decide +kernel
theorem d_Mo_holds_9 : decode b_Mo_holds 9 = .ok (.iload_n 3, 1) := by decide +kernel
theorem d_Mo_holds_10 : decode b_Mo_holds 10 = .ok (.invokevirtual 218, 3) := by decide +kernel
theorem d_Mo_holds_13 : decode b_Mo_holds 13 = .ok (.ireturn, 1) := by decide +kernel
theorem d_Mo_holds_14 : decode b_Mo_holds 14 = .ok (.iload_n 3, 1) := by decide +kernel
theorem d_Mo_holds_15 : decode b_Mo_holds 15 = .ok (.bipush 28, 2) := by decide +kernel
theorem d_Mo_holds_17 : decode b_Mo_holds 17 = .ok (.if_icmp .le 11, 3) := by decide +kernel
theorem d_Mo_holds_20 : decode b_Mo_holds 20 = .ok (.aload_n 0, 1) := by decide +kernel
theorem d_Mo_holds_21 : decode b_Mo_holds 21 = .ok (.iload_n 1, 1) := by decide +kernel
theorem d_Mo_holds_22 : decode b_Mo_holds 22 = .ok (.iload_n 2, 1) := by decide +kernel
theorem d_Mo_holds_23 : decode b_Mo_holds 23 = .ok (.iload_n 3, 1) := by decide +kernel
theorem d_Mo_holds_24 : decode b_Mo_holds 24 = .ok (.invokevirtual 221, 3) := by decide +kernel
theorem d_Mo_holds_27 : decode b_Mo_holds 27 = .ok (.ireturn, 1) := by decide +kernel
theorem d_Mo_holds_28 : decode b_Mo_holds 28 = .ok (.aload_n 0, 1) := by decide +kernel
theorem d_Mo_holds_29 : decode b_Mo_holds 29 = .ok (.iload_n 1, 1) := by decide +kernel
theorem d_Mo_holds_30 : decode b_Mo_holds 30 = .ok (.iload_n 3, 1) := by decide +kernel
theorem d_Mo_holds_31 : decode b_Mo_holds 31 = .ok (.invokevirtual 141, 3) := by decide +kernel
theorem d_Mo_holds_34 : decode b_Mo_holds 34 = .ok (.istore 4, 2) := by decide +kernel
theorem d_Mo_holds_36 : decode b_Mo_holds 36 = .ok (.iload 4, 2) := by decide +kernel
theorem d_Mo_holds_38 : decode b_Mo_holds 38 = .ok (.ifCond .lt 35, 3) := by decide +kernel
theorem d_Mo_holds_41 : decode b_Mo_holds 41 = .ok (.iload_n 3, 1) := by decide +kernel
theorem d_Mo_holds_42 : decode b_Mo_holds 42 = .ok (.bipush 17, 2) := by decide +kernel
theorem d_Mo_holds_44 : decode b_Mo_holds 44 = .ok (.if_icmp .ge 17, 3) := by decide +kernel
theorem d_Mo_holds_47 : decode b_Mo_holds 47 = .ok (.aload_n 0, 1) := by decide +kernel
theorem d_Mo_holds_48 : decode b_Mo_holds 48 = .ok (.iload_n 2, 1) := by decide +kernel
theorem d_Mo_holds_49 : decode b_Mo_holds 49 = .ok (.iload_n 3, 1) := by decide +kernel
theorem d_Mo_holds_50 : decode b_Mo_holds 50 = .ok (.iload 4, 2) := by decide +kernel
theorem d_Mo_holds_52 : decode b_Mo_holds 52 = .ok (.invokevirtual 224, 3) := by decide +kernel
theorem d_Mo_holds_55 : decode b_Mo_holds 55 = .ok (.ifCond .eq 22, 3) := by decide +kernel
theorem d_Mo_holds_58 : decode b_Mo_holds 58 = .ok (.goto 15, 3) := by decide +kernel
theorem d_Mo_holds_61 : decode b_Mo_holds 61 = .ok (.aload_n 0, 1) := by decide +kernel
theorem d_Mo_holds_62 : decode b_Mo_holds 62 = .ok (.iload_n 1, 1) := by decide +kernel
theorem d_Mo_holds_63 : decode b_Mo_holds 63 = .ok (.iload_n 2, 1) := by decide +kernel
theorem d_Mo_holds_64 : decode b_Mo_holds 64 = .ok (.iload_n 3, 1) := by decide +kernel
theorem d_Mo_holds_65 : decode b_Mo_holds 65 = .ok (.iload 4, 2) := by decide +kernel
theorem d_Mo_holds_67 : decode b_Mo_holds 67 = .ok (.invokevirtual 227, 3) := by decide +kernel
theorem d_Mo_holds_70 : decode b_Mo_holds 70 = .ok (.ifCond .eq 7, 3) := by decide +kernel
theorem d_Mo_holds_73 : decode b_Mo_holds 73 = .ok (.iconst 1, 1) := by decide +kernel
theorem d_Mo_holds_74 : decode b_Mo_holds 74 = .ok (.goto 4, 3) := by decide +kernel
theorem d_Mo_holds_77 : decode b_Mo_holds 77 = .ok (.iconst 0, 1) := by decide +kernel
theorem d_Mo_holds_78 : decode b_Mo_holds 78 = .ok (.ireturn, 1) := by decide +kernel
theorem d_Mo_naming_0 : decode b_Mo_naming 0 = .ok (.iconst 1, 1) := by decide +kernel
theorem d_Mo_naming_1 : decode b_Mo_naming 1 = .ok (.istore 4, 2) := by decide +kernel
theorem d_Mo_naming_3 : decode b_Mo_naming 3 = .ok (.iconst 0, 1) := by decide +kernel
theorem d_Mo_naming_4 : decode b_Mo_naming 4 = .ok (.istore 5, 2) := by decide +kernel
theorem d_Mo_naming_6 : decode b_Mo_naming 6 = .ok (.iload 5, 2) := by decide +kernel
theorem d_Mo_naming_8 : decode b_Mo_naming 8 = .ok (.bipush 12, 2) := by decide +kernel
theorem d_Mo_naming_10 : decode b_Mo_naming 10 = .ok (.if_icmp .ge 102, 3) := by decide +kernel
theorem d_Mo_naming_13 : decode b_Mo_naming 13 = .ok (.aload_n 0, 1) := by decide +kernel
theorem d_Mo_naming_14 : decode b_Mo_naming 14 = .ok (.iload_n 1, 1) := by decide +kernel
theorem d_Mo_naming_15 : decode b_Mo_naming 15 = .ok (.iload_n 3, 1) := by decide +kernel
theorem d_Mo_naming_16 : decode b_Mo_naming 16 = .ok (.iload 5, 2) := by decide +kernel
theorem d_Mo_naming_18 : decode b_Mo_naming 18 = .ok (.invokevirtual 154, 3) := by decide +kernel
theorem d_Mo_naming_21 : decode b_Mo_naming 21 = .ok (.istore 6, 2) := by decide +kernel
theorem d_Mo_naming_23 : decode b_Mo_naming 23 = .ok (.aload_n 0, 1) := by decide +kernel
theorem d_Mo_naming_24 : decode b_Mo_naming 24 = .ok (.iload_n 2, 1) := by decide +kernel
theorem d_Mo_naming_25 : decode b_Mo_naming 25 = .ok (.iload 5, 2) := by decide +kernel
theorem d_Mo_naming_27 : decode b_Mo_naming 27 = .ok (.invokevirtual 167, 3) := by decide +kernel
theorem d_Mo_naming_30 : decode b_Mo_naming 30 = .ok (.istore 7, 2) := by decide +kernel
theorem d_Mo_naming_32 : decode b_Mo_naming 32 = .ok (.iload 6, 2) := by decide +kernel
theorem d_Mo_naming_34 : decode b_Mo_naming 34 = .ok (.ifCond .lt 72, 3) := by decide +kernel
theorem d_Mo_naming_37 : decode b_Mo_naming 37 = .ok (.iload 7, 2) := by decide +kernel
theorem d_Mo_naming_39 : decode b_Mo_naming 39 = .ok (.ifCond .lt 67, 3) := by decide +kernel
theorem d_Mo_naming_42 : decode b_Mo_naming 42 = .ok (.iload 4, 2) := by decide +kernel
theorem d_Mo_naming_44 : decode b_Mo_naming 44 = .ok (.ifCond .eq 59, 3) := by decide +kernel
theorem d_Mo_naming_47 : decode b_Mo_naming 47 = .ok (.iload_n 3, 1) := by decide +kernel
theorem d_Mo_naming_48 : decode b_Mo_naming 48 = .ok (.bipush 33, 2) := by decide +kernel
theorem d_Mo_naming_50 : decode b_Mo_naming 50 = .ok (.if_icmp .ne 17, 3) := by decide +kernel
theorem d_Mo_naming_53 : decode b_Mo_naming 53 = .ok (.aload_n 0, 1) := by decide +kernel
theorem d_Mo_naming_54 : decode b_Mo_naming 54 = .ok (.iload 6, 2) := by decide +kernel
theorem d_Mo_naming_56 : decode b_Mo_naming 56 = .ok (.iload 7, 2) := by decide +kernel
theorem d_Mo_naming_58 : decode b_Mo_naming 58 = .ok (.invokevirtual 193, 3) := by decide +kernel
theorem d_Mo_naming_61 : decode b_Mo_naming 61 = .ok (.ifCond .eq 42, 3) := by decide +kernel
theorem d_Mo_naming_64 : decode b_Mo_naming 64 = .ok (.goto 35, 3) := by decide +kernel
theorem d_Mo_naming_67 : decode b_Mo_naming 67 = .ok (.iload_n 3, 1) := by decide +kernel
theorem d_Mo_naming_68 : decode b_Mo_naming 68 = .ok (.bipush 34, 2) := by decide +kernel
theorem d_Mo_naming_70 : decode b_Mo_naming 70 = .ok (.if_icmp .ne 16, 3) := by decide +kernel
theorem d_Mo_naming_73 : decode b_Mo_naming 73 = .ok (.aload_n 0, 1) := by decide +kernel
theorem d_Mo_naming_74 : decode b_Mo_naming 74 = .ok (.iload 6, 2) := by decide +kernel
theorem d_Mo_naming_76 : decode b_Mo_naming 76 = .ok (.iload_n 2, 1) := by decide +kernel
theorem d_Mo_naming_77 : decode b_Mo_naming 77 = .ok (.invokevirtual 193, 3) := by decide +kernel
theorem d_Mo_naming_80 : decode b_Mo_naming 80 = .ok (.ifCond .eq 23, 3) := by decide +kernel
theorem d_Mo_naming_83 : decode b_Mo_naming 83 = .ok (.goto 16, 3) := by decide +kernel
theorem d_Mo_naming_86 : decode b_Mo_naming 86 = .ok (.iload 6, 2) := by decide +kernel
theorem d_Mo_naming_88 : decode b_Mo_naming 88 = .ok (.aload_n 0, 1) := by decide +kernel
theorem d_Mo_naming_89 : decode b_Mo_naming 89 = .ok (.iload_n 2, 1) := by decide +kernel
theorem d_Mo_naming_90 : decode b_Mo_naming 90 = .ok (.invokevirtual 187, 3) := by decide +kernel
theorem d_Mo_naming_93 : decode b_Mo_naming 93 = .ok (.iconst (-1), 1) := by decide +kernel
theorem d_Mo_naming_94 : decode b_Mo_naming 94 = .ok (.ixor, 1) := by decide +kernel
theorem d_Mo_naming_95 : decode b_Mo_naming 95 = .ok (.iand, 1) := by decide +kernel
theorem d_Mo_naming_96 : decode b_Mo_naming 96 = .ok (.ifCond .ne 7, 3) := by decide +kernel
theorem d_Mo_naming_99 : decode b_Mo_naming 99 = .ok (.iconst 1, 1) := by decide +kernel
theorem d_Mo_naming_100 : decode b_Mo_naming 100 = .ok (.goto 4, 3) := by decide +kernel
theorem d_Mo_naming_103 : decode b_Mo_naming 103 = .ok (.iconst 0, 1) := by decide +kernel
theorem d_Mo_naming_104 : decode b_Mo_naming 104 = .ok (.istore 4, 2) := by decide +kernel
theorem d_Mo_naming_106 : decode b_Mo_naming 106 = .ok (.iinc 5 1, 3) := by decide +kernel
theorem d_Mo_naming_109 : decode b_Mo_naming 109 = .ok (.goto (-103), 3) := by decide +kernel
theorem d_Mo_naming_112 : decode b_Mo_naming 112 = .ok (.iload 4, 2) := by decide +kernel
theorem d_Mo_naming_114 : decode b_Mo_naming 114 = .ok (.ireturn, 1) := by decide +kernel
theorem d_Mo_memberOf_0 : decode b_Mo_memberOf 0 = .ok (.aload_n 0, 1) := by decide +kernel
theorem d_Mo_memberOf_1 : decode b_Mo_memberOf 1 = .ok (.getfield 7, 3) := by decide +kernel
theorem d_Mo_memberOf_4 : decode b_Mo_memberOf 4 = .ok (.iload_n 1, 1) := by decide +kernel
theorem d_Mo_memberOf_5 : decode b_Mo_memberOf 5 = .ok (.iaload, 1) := by decide +kernel
theorem d_Mo_memberOf_6 : decode b_Mo_memberOf 6 = .ok (.iconst 5, 1) := by decide +kernel
theorem d_Mo_memberOf_7 : decode b_Mo_memberOf 7 = .ok (.if_icmp .ne 17, 3) := by decide +kernel
theorem d_Mo_memberOf_10 : decode b_Mo_memberOf 10 = .ok (.aload_n 0, 1) := by decide +kernel
theorem d_Mo_memberOf_11 : decode b_Mo_memberOf 11 = .ok (.getfield 23, 3) := by decide +kernel
theorem d_Mo_memberOf_14 : decode b_Mo_memberOf 14 = .ok (.bipush 12, 2) := by decide +kernel
theorem d_Mo_memberOf_16 : decode b_Mo_memberOf 16 = .ok (.iload_n 1, 1) := by decide +kernel
theorem d_Mo_memberOf_17 : decode b_Mo_memberOf 17 = .ok (.imul, 1) := by decide +kernel
theorem d_Mo_memberOf_18 : decode b_Mo_memberOf 18 = .ok (.iload_n 2, 1) := by decide +kernel
theorem d_Mo_memberOf_19 : decode b_Mo_memberOf 19 = .ok (.iadd, 1) := by decide +kernel
theorem d_Mo_memberOf_20 : decode b_Mo_memberOf 20 = .ok (.iaload, 1) := by decide +kernel
theorem d_Mo_memberOf_21 : decode b_Mo_memberOf 21 = .ok (.goto 4, 3) := by decide +kernel
theorem d_Mo_memberOf_24 : decode b_Mo_memberOf 24 = .ok (.iconst (-1), 1) := by decide +kernel
theorem d_Mo_memberOf_25 : decode b_Mo_memberOf 25 = .ok (.ireturn, 1) := by decide +kernel
theorem d_Mo_isValid_0 : decode b_Mo_isValid 0 = .ok (.aload_n 0, 1) := by decide +kernel
theorem d_Mo_isValid_1 : decode b_Mo_isValid 1 = .ok (.getfield 57, 3) := by decide +kernel
theorem d_Mo_isValid_4 : decode b_Mo_isValid 4 = .ok (.bipush 40, 2) := by decide +kernel
theorem d_Mo_isValid_6 : decode b_Mo_isValid 6 = .ok (.iload_n 1, 1) := by decide +kernel
theorem d_Mo_isValid_7 : decode b_Mo_isValid 7 = .ok (.imul, 1) := by decide +kernel
theorem d_Mo_isValid_8 : decode b_Mo_isValid 8 = .ok (.iload_n 2, 1) := by decide +kernel
theorem d_Mo_isValid_9 : decode b_Mo_isValid 9 = .ok (.iadd, 1) := by decide +kernel
theorem d_Mo_isValid_10 : decode b_Mo_isValid 10 = .ok (.baload, 1) := by decide +kernel
theorem d_Mo_isValid_11 : decode b_Mo_isValid 11 = .ok (.ireturn, 1) := by decide +kernel
theorem d_Mo_memberBits_0 : decode b_Mo_memberBits 0 = .ok (.iconst 0, 1) := by decide +kernel
theorem d_Mo_memberBits_1 : decode b_Mo_memberBits 1 = .ok (.istore_n 2, 1) := by decide +kernel
theorem d_Mo_memberBits_2 : decode b_Mo_memberBits 2 = .ok (.iconst 0, 1) := by decide +kernel
theorem d_Mo_memberBits_3 : decode b_Mo_memberBits 3 = .ok (.istore_n 3, 1) := by decide +kernel
theorem d_Mo_memberBits_4 : decode b_Mo_memberBits 4 = .ok (.iload_n 3, 1) := by decide +kernel
theorem d_Mo_memberBits_5 : decode b_Mo_memberBits 5 = .ok (.bipush 12, 2) := by decide +kernel
theorem d_Mo_memberBits_7 : decode b_Mo_memberBits 7 = .ok (.if_icmp .ge 28, 3) := by decide +kernel
theorem d_Mo_memberBits_10 : decode b_Mo_memberBits 10 = .ok (.aload_n 0, 1) := by decide +kernel
theorem d_Mo_memberBits_11 : decode b_Mo_memberBits 11 = .ok (.iload_n 1, 1) := by decide +kernel
theorem d_Mo_memberBits_12 : decode b_Mo_memberBits 12 = .ok (.iload_n 3, 1) := by decide +kernel
theorem d_Mo_memberBits_13 : decode b_Mo_memberBits 13 = .ok (.invokevirtual 167, 3) := by decide +kernel
theorem d_Mo_memberBits_16 : decode b_Mo_memberBits 16 = .ok (.ifCond .lt 11, 3) := by decide +kernel
theorem d_Mo_memberBits_19 : decode b_Mo_memberBits 19 = .ok (.iload_n 2, 1) := by decide +kernel
theorem d_Mo_memberBits_20 : decode b_Mo_memberBits 20 = .ok (.iconst 1, 1) := by decide +kernel
theorem d_Mo_memberBits_21 : decode b_Mo_memberBits 21 = .ok (.iload_n 3, 1) := by decide +kernel
theorem d_Mo_memberBits_22 : decode b_Mo_memberBits 22 = .ok (.ishl, 1) := by decide +kernel
theorem d_Mo_memberBits_23 : decode b_Mo_memberBits 23 = .ok (.ior, 1) := by decide +kernel
theorem d_Mo_memberBits_24 : decode b_Mo_memberBits 24 = .ok (.goto 4, 3) := by decide +kernel
theorem d_Mo_memberBits_27 : decode b_Mo_memberBits 27 = .ok (.iload_n 2, 1) := by decide +kernel
theorem d_Mo_memberBits_28 : decode b_Mo_memberBits 28 = .ok (.istore_n 2, 1) := by decide +kernel
theorem d_Mo_memberBits_29 : decode b_Mo_memberBits 29 = .ok (.iinc 3 1, 3) := by decide +kernel
theorem d_Mo_memberBits_32 : decode b_Mo_memberBits 32 = .ok (.goto (-28), 3) := by decide +kernel
theorem d_Mo_memberBits_35 : decode b_Mo_memberBits 35 = .ok (.iload_n 2, 1) := by decide +kernel
theorem d_Mo_memberBits_36 : decode b_Mo_memberBits 36 = .ok (.ireturn, 1) := by decide +kernel
theorem d_Mo_listing_0 : decode b_Mo_listing 0 = .ok (.aload_n 0, 1) := by decide +kernel
theorem d_Mo_listing_1 : decode b_Mo_listing 1 = .ok (.iload_n 1, 1) := by decide +kernel
theorem d_Mo_listing_2 : decode b_Mo_listing 2 = .ok (.iload_n 3, 1) := by decide +kernel
theorem d_Mo_listing_3 : decode b_Mo_listing 3 = .ok (.invokevirtual 148, 3) := by decide +kernel
theorem d_Mo_listing_6 : decode b_Mo_listing 6 = .ok (.istore 4, 2) := by decide +kernel
theorem d_Mo_listing_8 : decode b_Mo_listing 8 = .ok (.iload_n 3, 1) := by decide +kernel
theorem d_Mo_listing_9 : decode b_Mo_listing 9 = .ok (.bipush 32, 2) := by decide +kernel
theorem d_Mo_listing_11 : decode b_Mo_listing 11 = .ok (.if_icmp .ne 85, 3) := by decide +kernel
theorem d_Mo_listing_14 : decode b_Mo_listing 14 = .ok (.iconst 1, 1) := by decide +kernel
theorem d_Mo_listing_15 : decode b_Mo_listing 15 = .ok (.istore 5, 2) := by decide +kernel
theorem d_Mo_listing_17 : decode b_Mo_listing 17 = .ok (.iconst 0, 1) := by decide +kernel
theorem d_Mo_listing_18 : decode b_Mo_listing 18 = .ok (.istore 6, 2) := by decide +kernel
theorem d_Mo_listing_20 : decode b_Mo_listing 20 = .ok (.iload 6, 2) := by decide +kernel
theorem d_Mo_listing_22 : decode b_Mo_listing 22 = .ok (.iload 4, 2) := by decide +kernel
theorem d_Mo_listing_24 : decode b_Mo_listing 24 = .ok (.if_icmp .ge 69, 3) := by decide +kernel
theorem d_Mo_listing_27 : decode b_Mo_listing 27 = .ok (.aload_n 0, 1) := by decide +kernel
theorem d_Mo_listing_28 : decode b_Mo_listing 28 = .ok (.getfield 7, 3) := by decide +kernel
theorem d_Mo_listing_31 : decode b_Mo_listing 31 = .ok (.iload_n 2, 1) := by decide +kernel
theorem d_Mo_listing_32 : decode b_Mo_listing 32 = .ok (.iaload, 1) := by decide +kernel
theorem d_Mo_listing_33 : decode b_Mo_listing 33 = .ok (.iconst 4, 1) := by decide +kernel
theorem d_Mo_listing_34 : decode b_Mo_listing 34 = .ok (.if_icmp .ne 59, 3) := by decide +kernel
theorem d_Mo_listing_37 : decode b_Mo_listing 37 = .ok (.iload 5, 2) := by decide +kernel
theorem d_Mo_listing_39 : decode b_Mo_listing 39 = .ok (.ifCond .eq 45, 3) := by decide +kernel
theorem d_Mo_listing_42 : decode b_Mo_listing 42 = .ok (.iload 6, 2) := by decide +kernel
theorem d_Mo_listing_44 : decode b_Mo_listing 44 = .ok (.aload_n 0, 1) := by decide +kernel
theorem d_Mo_listing_45 : decode b_Mo_listing 45 = .ok (.getfield 17, 3) := by decide +kernel
theorem d_Mo_listing_48 : decode b_Mo_listing 48 = .ok (.iload_n 2, 1) := by decide +kernel
theorem d_Mo_listing_49 : decode b_Mo_listing 49 = .ok (.iaload, 1) := by decide +kernel
theorem d_Mo_listing_50 : decode b_Mo_listing 50 = .ok (.if_icmp .ge 30, 3) := by decide +kernel
theorem d_Mo_listing_53 : decode b_Mo_listing 53 = .ok (.aload_n 0, 1) := by decide +kernel
theorem d_Mo_listing_54 : decode b_Mo_listing 54 = .ok (.aload_n 0, 1) := by decide +kernel
theorem d_Mo_listing_55 : decode b_Mo_listing 55 = .ok (.iload_n 1, 1) := by decide +kernel
theorem d_Mo_listing_56 : decode b_Mo_listing 56 = .ok (.iload_n 3, 1) := by decide +kernel
theorem d_Mo_listing_57 : decode b_Mo_listing 57 = .ok (.iload 6, 2) := by decide +kernel
theorem d_Mo_listing_59 : decode b_Mo_listing 59 = .ok (.invokevirtual 151, 3) := by decide +kernel
theorem d_Mo_listing_62 : decode b_Mo_listing 62 = .ok (.aload_n 0, 1) := by decide +kernel
theorem d_Mo_listing_63 : decode b_Mo_listing 63 = .ok (.getfield 20, 3) := by decide +kernel
theorem d_Mo_listing_66 : decode b_Mo_listing 66 = .ok (.bipush 8, 2) := by decide +kernel
theorem d_Mo_listing_68 : decode b_Mo_listing 68 = .ok (.iload_n 2, 1) := by decide +kernel
theorem d_Mo_listing_69 : decode b_Mo_listing 69 = .ok (.imul, 1) := by decide +kernel
theorem d_Mo_listing_70 : decode b_Mo_listing 70 = .ok (.iload 6, 2) := by decide +kernel
theorem d_Mo_listing_72 : decode b_Mo_listing 72 = .ok (.iadd, 1) := by decide +kernel
theorem d_Mo_listing_73 : decode b_Mo_listing 73 = .ok (.iaload, 1) := by decide +kernel
theorem d_Mo_listing_74 : decode b_Mo_listing 74 = .ok (.invokevirtual 193, 3) := by decide +kernel
theorem d_Mo_listing_77 : decode b_Mo_listing 77 = .ok (.ifCond .eq 7, 3) := by decide +kernel
theorem d_Mo_listing_80 : decode b_Mo_listing 80 = .ok (.iconst 1, 1) := by decide +kernel
theorem d_Mo_listing_81 : decode b_Mo_listing 81 = .ok (.goto 4, 3) := by decide +kernel
theorem d_Mo_listing_84 : decode b_Mo_listing 84 = .ok (.iconst 0, 1) := by decide +kernel
theorem d_Mo_listing_85 : decode b_Mo_listing 85 = .ok (.istore 5, 2) := by decide +kernel
theorem d_Mo_listing_87 : decode b_Mo_listing 87 = .ok (.iinc 6 1, 3) := by decide +kernel
theorem d_Mo_listing_90 : decode b_Mo_listing 90 = .ok (.goto (-70), 3) := by decide +kernel
theorem d_Mo_listing_93 : decode b_Mo_listing 93 = .ok (.iload 5, 2) := by decide +kernel
theorem d_Mo_listing_95 : decode b_Mo_listing 95 = .ok (.ireturn, 1) := by decide +kernel
theorem d_Mo_listing_96 : decode b_Mo_listing 96 = .ok (.iconst 0, 1) := by decide +kernel
theorem d_Mo_listing_97 : decode b_Mo_listing 97 = .ok (.istore 5, 2) := by decide +kernel
theorem d_Mo_listing_99 : decode b_Mo_listing 99 = .ok (.iconst 0, 1) := by decide +kernel
theorem d_Mo_listing_100 : decode b_Mo_listing 100 = .ok (.istore 6, 2) := by decide +kernel
theorem d_Mo_listing_102 : decode b_Mo_listing 102 = .ok (.iload 6, 2) := by decide +kernel
theorem d_Mo_listing_104 : decode b_Mo_listing 104 = .ok (.iload 4, 2) := by decide +kernel
theorem d_Mo_listing_106 : decode b_Mo_listing 106 = .ok (.if_icmp .ge 35, 3) := by decide +kernel
theorem d_Mo_listing_109 : decode b_Mo_listing 109 = .ok (.iload 5, 2) := by decide +kernel
theorem d_Mo_listing_111 : decode b_Mo_listing 111 = .ok (.aload_n 0, 1) := by decide +kernel
theorem d_Mo_listing_112 : decode b_Mo_listing 112 = .ok (.aload_n 0, 1) := by decide +kernel
theorem d_Mo_listing_113 : decode b_Mo_listing 113 = .ok (.iload_n 1, 1) := by decide +kernel
theorem d_Mo_listing_114 : decode b_Mo_listing 114 = .ok (.iload_n 3, 1) := by decide +kernel
theorem d_Mo_listing_115 : decode b_Mo_listing 115 = .ok (.iload 6, 2) := by decide +kernel
theorem d_Mo_listing_117 : decode b_Mo_listing 117 = .ok (.invokevirtual 151, 3) := by decide +kernel
theorem d_Mo_listing_120 : decode b_Mo_listing 120 = .ok (.iload_n 2, 1) := by decide +kernel
theorem d_Mo_listing_121 : decode b_Mo_listing 121 = .ok (.invokevirtual 193, 3) := by decide +kernel
theorem d_Mo_listing_124 : decode b_Mo_listing 124 = .ok (.ifCond .eq 7, 3) := by decide +kernel
theorem d_Mo_listing_127 : decode b_Mo_listing 127 = .ok (.iconst 1, 1) := by decide +kernel
theorem d_Mo_listing_128 : decode b_Mo_listing 128 = .ok (.goto 4, 3) := by decide +kernel
theorem d_Mo_listing_131 : decode b_Mo_listing 131 = .ok (.iconst 0, 1) := by decide +kernel
theorem d_Mo_listing_132 : decode b_Mo_listing 132 = .ok (.iadd, 1) := by decide +kernel
theorem d_Mo_listing_133 : decode b_Mo_listing 133 = .ok (.istore 5, 2) := by decide +kernel
theorem d_Mo_listing_135 : decode b_Mo_listing 135 = .ok (.iinc 6 1, 3) := by decide +kernel
theorem d_Mo_listing_138 : decode b_Mo_listing 138 = .ok (.goto (-36), 3) := by decide +kernel
theorem d_Mo_listing_141 : decode b_Mo_listing 141 = .ok (.iload 4, 2) := by decide +kernel
theorem d_Mo_listing_143 : decode b_Mo_listing 143 = .ok (.ifCond .eq 39, 3) := by decide +kernel
theorem d_Mo_listing_146 : decode b_Mo_listing 146 = .ok (.iload_n 3, 1) := by decide +kernel
theorem d_Mo_listing_147 : decode b_Mo_listing 147 = .ok (.bipush 29, 2) := by decide +kernel
theorem d_Mo_listing_149 : decode b_Mo_listing 149 = .ok (.if_icmp .ne 13, 3) := by decide +kernel
theorem d_Mo_listing_152 : decode b_Mo_listing 152 = .ok (.iload 5, 2) := by decide +kernel
theorem d_Mo_listing_154 : decode b_Mo_listing 154 = .ok (.iload 4, 2) := by decide +kernel
theorem d_Mo_listing_156 : decode b_Mo_listing 156 = .ok (.if_icmp .ne 30, 3) := by decide +kernel
theorem d_Mo_listing_159 : decode b_Mo_listing 159 = .ok (.goto 23, 3) := by decide +kernel
theorem d_Mo_listing_162 : decode b_Mo_listing 162 = .ok (.iload_n 3, 1) := by decide +kernel
theorem d_Mo_listing_163 : decode b_Mo_listing 163 = .ok (.bipush 30, 2) := by decide +kernel
theorem d_Mo_listing_165 : decode b_Mo_listing 165 = .ok (.if_icmp .ne 11, 3) := by decide +kernel
theorem d_Mo_listing_168 : decode b_Mo_listing 168 = .ok (.iload 5, 2) := by decide +kernel
theorem d_Mo_listing_170 : decode b_Mo_listing 170 = .ok (.ifCond .le 16, 3) := by decide +kernel
theorem d_Mo_listing_173 : decode b_Mo_listing 173 = .ok (.goto 9, 3) := by decide +kernel
theorem d_Mo_listing_176 : decode b_Mo_listing 176 = .ok (.iload 5, 2) := by decide +kernel
theorem d_Mo_listing_178 : decode b_Mo_listing 178 = .ok (.iconst 1, 1) := by decide +kernel
theorem d_Mo_listing_179 : decode b_Mo_listing 179 = .ok (.if_icmp .ne 7, 3) := by decide +kernel
theorem d_Mo_listing_182 : decode b_Mo_listing 182 = .ok (.iconst 1, 1) := by decide +kernel
theorem d_Mo_listing_183 : decode b_Mo_listing 183 = .ok (.goto 4, 3) := by decide +kernel
theorem d_Mo_listing_186 : decode b_Mo_listing 186 = .ok (.iconst 0, 1) := by decide +kernel
theorem d_Mo_listing_187 : decode b_Mo_listing 187 = .ok (.ireturn, 1) := by decide +kernel
theorem d_Mo_plain_0 : decode b_Mo_plain 0 = .ok (.aload_n 0, 1) := by decide +kernel
theorem d_Mo_plain_1 : decode b_Mo_plain 1 = .ok (.getfield 7, 3) := by decide +kernel
theorem d_Mo_plain_4 : decode b_Mo_plain 4 = .ok (.iload_n 1, 1) := by decide +kernel
theorem d_Mo_plain_5 : decode b_Mo_plain 5 = .ok (.iaload, 1) := by decide +kernel
theorem d_Mo_plain_6 : decode b_Mo_plain 6 = .ok (.istore 4, 2) := by decide +kernel
theorem d_Mo_plain_8 : decode b_Mo_plain 8 = .ok (.iload_n 2, 1) := by decide +kernel
theorem d_Mo_plain_9 : decode b_Mo_plain 9 = .ok (.iconst 3, 1) := by decide +kernel
theorem d_Mo_plain_10 : decode b_Mo_plain 10 = .ok (.if_icmp .ge 99, 3) := by decide +kernel
theorem d_Mo_plain_13 : decode b_Mo_plain 13 = .ok (.iload 4, 2) := by decide +kernel
theorem d_Mo_plain_15 : decode b_Mo_plain 15 = .ok (.iconst 2, 1) := by decide +kernel
theorem d_Mo_plain_16 : decode b_Mo_plain 16 = .ok (.if_icmp .ne 28, 3) := by decide +kernel
theorem d_Mo_plain_19 : decode b_Mo_plain 19 = .ok (.aload_n 0, 1) := by decide +kernel
theorem d_Mo_plain_20 : decode b_Mo_plain 20 = .ok (.getfield 13, 3) := by decide +kernel
theorem d_Mo_plain_23 : decode b_Mo_plain 23 = .ok (.iload_n 1, 1) := by decide +kernel
theorem d_Mo_plain_24 : decode b_Mo_plain 24 = .ok (.laload, 1) := by decide +kernel
theorem d_Mo_plain_25 : decode b_Mo_plain 25 = .ok (.ldc2_w 172, 3) := by decide +kernel
theorem d_Mo_plain_28 : decode b_Mo_plain 28 = .ok (.lrem, 1) := by decide +kernel
theorem d_Mo_plain_29 : decode b_Mo_plain 29 = .ok (.lconst 0, 1) := by decide +kernel
theorem d_Mo_plain_30 : decode b_Mo_plain 30 = .ok (.lcmp, 1) := by decide +kernel
theorem d_Mo_plain_31 : decode b_Mo_plain 31 = .ok (.ifCond .ne 13, 3) := by decide +kernel
theorem d_Mo_plain_34 : decode b_Mo_plain 34 = .ok (.iload_n 3, 1) := by decide +kernel
theorem d_Mo_plain_35 : decode b_Mo_plain 35 = .ok (.bipush 63, 2) := by decide +kernel
theorem d_Mo_plain_37 : decode b_Mo_plain 37 = .ok (.if_icmp .le 7, 3) := by decide +kernel
theorem d_Mo_plain_40 : decode b_Mo_plain 40 = .ok (.iconst 1, 1) := by decide +kernel
theorem d_Mo_plain_41 : decode b_Mo_plain 41 = .ok (.goto 4, 3) := by decide +kernel
theorem d_Mo_plain_44 : decode b_Mo_plain 44 = .ok (.iconst 0, 1) := by decide +kernel
theorem d_Mo_plain_45 : decode b_Mo_plain 45 = .ok (.istore 5, 2) := by decide +kernel
theorem d_Mo_plain_47 : decode b_Mo_plain 47 = .ok (.iload_n 2, 1) := by decide +kernel
theorem d_Mo_plain_48 : decode b_Mo_plain 48 = .ok (.ifCond .ne 26, 3) := by decide +kernel
theorem d_Mo_plain_51 : decode b_Mo_plain 51 = .ok (.iload_n 3, 1) := by decide +kernel
theorem d_Mo_plain_52 : decode b_Mo_plain 52 = .ok (.iload 4, 2) := by decide +kernel
theorem d_Mo_plain_54 : decode b_Mo_plain 54 = .ok (.ishr, 1) := by decide +kernel
theorem d_Mo_plain_55 : decode b_Mo_plain 55 = .ok (.iconst 1, 1) := by decide +kernel
theorem d_Mo_plain_56 : decode b_Mo_plain 56 = .ok (.iand, 1) := by decide +kernel
theorem d_Mo_plain_57 : decode b_Mo_plain 57 = .ok (.iconst 1, 1) := by decide +kernel
theorem d_Mo_plain_58 : decode b_Mo_plain 58 = .ok (.if_icmp .eq 8, 3) := by decide +kernel
theorem d_Mo_plain_61 : decode b_Mo_plain 61 = .ok (.iload 5, 2) := by decide +kernel
theorem d_Mo_plain_63 : decode b_Mo_plain 63 = .ok (.ifCond .eq 7, 3) := by decide +kernel
theorem d_Mo_plain_66 : decode b_Mo_plain 66 = .ok (.iconst 1, 1) := by decide +kernel
theorem d_Mo_plain_67 : decode b_Mo_plain 67 = .ok (.goto 41, 3) := by decide +kernel
theorem d_Mo_plain_70 : decode b_Mo_plain 70 = .ok (.iconst 0, 1) := by decide +kernel
theorem d_Mo_plain_71 : decode b_Mo_plain 71 = .ok (.goto 37, 3) := by decide +kernel
theorem d_Mo_plain_74 : decode b_Mo_plain 74 = .ok (.iload_n 2, 1) := by decide +kernel
theorem d_Mo_plain_75 : decode b_Mo_plain 75 = .ok (.iconst 1, 1) := by decide +kernel
theorem d_Mo_plain_76 : decode b_Mo_plain 76 = .ok (.if_icmp .ne 26, 3) := by decide +kernel
theorem d_Mo_plain_79 : decode b_Mo_plain 79 = .ok (.aload_n 0, 1) := by decide +kernel
theorem d_Mo_plain_80 : decode b_Mo_plain 80 = .ok (.getfield 26, 3) := by decide +kernel
theorem d_Mo_plain_83 : decode b_Mo_plain 83 = .ok (.iload_n 3, 1) := by decide +kernel
theorem d_Mo_plain_84 : decode b_Mo_plain 84 = .ok (.iaload, 1) := by decide +kernel
theorem d_Mo_plain_85 : decode b_Mo_plain 85 = .ok (.aload_n 0, 1) := by decide +kernel
theorem d_Mo_plain_86 : decode b_Mo_plain 86 = .ok (.getfield 26, 3) := by decide +kernel
theorem d_Mo_plain_89 : decode b_Mo_plain 89 = .ok (.iload_n 1, 1) := by decide +kernel
theorem d_Mo_plain_90 : decode b_Mo_plain 90 = .ok (.iaload, 1) := by decide +kernel
theorem d_Mo_plain_91 : decode b_Mo_plain 91 = .ok (.if_icmp .ne 7, 3) := by decide +kernel
theorem d_Mo_plain_94 : decode b_Mo_plain 94 = .ok (.iconst 1, 1) := by decide +kernel
theorem d_Mo_plain_95 : decode b_Mo_plain 95 = .ok (.goto 13, 3) := by decide +kernel
theorem d_Mo_plain_98 : decode b_Mo_plain 98 = .ok (.iconst 0, 1) := by decide +kernel
theorem d_Mo_plain_99 : decode b_Mo_plain 99 = .ok (.goto 9, 3) := by decide +kernel
theorem d_Mo_plain_102 : decode b_Mo_plain 102 = .ok (.aload_n 0, 1) := by decide +kernel
theorem d_Mo_plain_103 : decode b_Mo_plain 103 = .ok (.iload_n 1, 1) := by decide +kernel
theorem d_Mo_plain_104 : decode b_Mo_plain 104 = .ok (.iload_n 3, 1) := by decide +kernel
theorem d_Mo_plain_105 : decode b_Mo_plain 105 = .ok (.invokevirtual 174, 3) := by decide +kernel
theorem d_Mo_plain_108 : decode b_Mo_plain 108 = .ok (.ireturn, 1) := by decide +kernel
theorem d_Mo_plain_109 : decode b_Mo_plain 109 = .ok (.iload_n 2, 1) := by decide +kernel
theorem d_Mo_plain_110 : decode b_Mo_plain 110 = .ok (.bipush 8, 2) := by decide +kernel
theorem d_Mo_plain_112 : decode b_Mo_plain 112 = .ok (.if_icmp .ge 106, 3) := by decide +kernel
theorem d_Mo_plain_115 : decode b_Mo_plain 115 = .ok (.aload_n 0, 1) := by decide +kernel
theorem d_Mo_plain_116 : decode b_Mo_plain 116 = .ok (.getfield 13, 3) := by decide +kernel
theorem d_Mo_plain_119 : decode b_Mo_plain 119 = .ok (.iload_n 1, 1) := by decide +kernel
theorem d_Mo_plain_120 : decode b_Mo_plain 120 = .ok (.laload, 1) := by decide +kernel
theorem d_Mo_plain_121 : decode b_Mo_plain 121 = .ok (.lstore 5, 2) := by decide +kernel
theorem d_Mo_plain_123 : decode b_Mo_plain 123 = .ok (.aload_n 0, 1) := by decide +kernel
theorem d_Mo_plain_124 : decode b_Mo_plain 124 = .ok (.getfield 13, 3) := by decide +kernel
theorem d_Mo_plain_127 : decode b_Mo_plain 127 = .ok (.iload_n 3, 1) := by decide +kernel
theorem d_Mo_plain_128 : decode b_Mo_plain 128 = .ok (.laload, 1) := by decide +kernel
theorem d_Mo_plain_129 : decode b_Mo_plain 129 = .ok (.lstore 7, 2) := by decide +kernel
theorem d_Mo_plain_131 : decode b_Mo_plain 131 = .ok (.iload 4, 2) := by decide +kernel
theorem d_Mo_plain_133 : decode b_Mo_plain 133 = .ok (.iconst 2, 1) := by decide +kernel
theorem d_Mo_plain_134 : decode b_Mo_plain 134 = .ok (.if_icmp .ne 78, 3) := by decide +kernel
theorem d_Mo_plain_137 : decode b_Mo_plain 137 = .ok (.iload_n 2, 1) := by decide +kernel
theorem d_Mo_plain_138 : decode b_Mo_plain 138 = .ok (.iconst 3, 1) := by decide +kernel
theorem d_Mo_plain_139 : decode b_Mo_plain 139 = .ok (.if_icmp .ne 14, 3) := by decide +kernel
theorem d_Mo_plain_142 : decode b_Mo_plain 142 = .ok (.lload 5, 2) := by decide +kernel
theorem d_Mo_plain_144 : decode b_Mo_plain 144 = .ok (.lload 7, 2) := by decide +kernel
theorem d_Mo_plain_146 : decode b_Mo_plain 146 = .ok (.lcmp, 1) := by decide +kernel
theorem d_Mo_plain_147 : decode b_Mo_plain 147 = .ok (.ifCond .lt 69, 3) := by decide +kernel
theorem d_Mo_plain_150 : decode b_Mo_plain 150 = .ok (.goto 62, 3) := by decide +kernel
theorem d_Mo_plain_153 : decode b_Mo_plain 153 = .ok (.iload_n 2, 1) := by decide +kernel
theorem d_Mo_plain_154 : decode b_Mo_plain 154 = .ok (.iconst 4, 1) := by decide +kernel
theorem d_Mo_plain_155 : decode b_Mo_plain 155 = .ok (.if_icmp .ne 14, 3) := by decide +kernel
theorem d_Mo_plain_158 : decode b_Mo_plain 158 = .ok (.lload 5, 2) := by decide +kernel
theorem d_Mo_plain_160 : decode b_Mo_plain 160 = .ok (.lload 7, 2) := by decide +kernel
theorem d_Mo_plain_162 : decode b_Mo_plain 162 = .ok (.lcmp, 1) := by decide +kernel
theorem d_Mo_plain_163 : decode b_Mo_plain 163 = .ok (.ifCond .gt 53, 3) := by decide +kernel
theorem d_Mo_plain_166 : decode b_Mo_plain 166 = .ok (.goto 46, 3) := by decide +kernel
theorem d_Mo_plain_169 : decode b_Mo_plain 169 = .ok (.iload_n 2, 1) := by decide +kernel
theorem d_Mo_plain_170 : decode b_Mo_plain 170 = .ok (.iconst 5, 1) := by decide +kernel
theorem d_Mo_plain_171 : decode b_Mo_plain 171 = .ok (.if_icmp .ne 14, 3) := by decide +kernel
theorem d_Mo_plain_174 : decode b_Mo_plain 174 = .ok (.lload 5, 2) := by decide +kernel
theorem d_Mo_plain_176 : decode b_Mo_plain 176 = .ok (.lload 7, 2) := by decide +kernel
theorem d_Mo_plain_178 : decode b_Mo_plain 178 = .ok (.lcmp, 1) := by decide +kernel
theorem d_Mo_plain_179 : decode b_Mo_plain 179 = .ok (.ifCond .le 37, 3) := by decide +kernel
theorem d_Mo_plain_182 : decode b_Mo_plain 182 = .ok (.goto 30, 3) := by decide +kernel
theorem d_Mo_plain_185 : decode b_Mo_plain 185 = .ok (.iload_n 2, 1) := by decide +kernel
theorem d_Mo_plain_186 : decode b_Mo_plain 186 = .ok (.bipush 6, 2) := by decide +kernel
theorem d_Mo_plain_188 : decode b_Mo_plain 188 = .ok (.if_icmp .ne 14, 3) := by decide +kernel
theorem d_Mo_plain_191 : decode b_Mo_plain 191 = .ok (.lload 5, 2) := by decide +kernel
theorem d_Mo_plain_193 : decode b_Mo_plain 193 = .ok (.lload 7, 2) := by decide +kernel
theorem d_Mo_plain_195 : decode b_Mo_plain 195 = .ok (.lcmp, 1) := by decide +kernel
theorem d_Mo_plain_196 : decode b_Mo_plain 196 = .ok (.ifCond .ge 20, 3) := by decide +kernel
theorem d_Mo_plain_199 : decode b_Mo_plain 199 = .ok (.goto 13, 3) := by decide +kernel
theorem d_Mo_plain_202 : decode b_Mo_plain 202 = .ok (.lload 5, 2) := by decide +kernel
theorem d_Mo_plain_204 : decode b_Mo_plain 204 = .ok (.lload 7, 2) := by decide +kernel
theorem d_Mo_plain_206 : decode b_Mo_plain 206 = .ok (.lrem, 1) := by decide +kernel
theorem d_Mo_plain_207 : decode b_Mo_plain 207 = .ok (.lconst 0, 1) := by decide +kernel
theorem d_Mo_plain_208 : decode b_Mo_plain 208 = .ok (.lcmp, 1) := by decide +kernel
theorem d_Mo_plain_209 : decode b_Mo_plain 209 = .ok (.ifCond .ne 7, 3) := by decide +kernel
theorem d_Mo_plain_212 : decode b_Mo_plain 212 = .ok (.iconst 1, 1) := by decide +kernel
theorem d_Mo_plain_213 : decode b_Mo_plain 213 = .ok (.goto 4, 3) := by decide +kernel
theorem d_Mo_plain_216 : decode b_Mo_plain 216 = .ok (.iconst 0, 1) := by decide +kernel
theorem d_Mo_plain_217 : decode b_Mo_plain 217 = .ok (.ireturn, 1) := by decide +kernel
theorem d_Mo_plain_218 : decode b_Mo_plain 218 = .ok (.iload_n 2, 1) := by decide +kernel
theorem d_Mo_plain_219 : decode b_Mo_plain 219 = .ok (.bipush 11, 2) := by decide +kernel
theorem d_Mo_plain_221 : decode b_Mo_plain 221 = .ok (.if_icmp .ge 66, 3) := by decide +kernel
theorem d_Mo_plain_224 : decode b_Mo_plain 224 = .ok (.iload 4, 2) := by decide +kernel
theorem d_Mo_plain_226 : decode b_Mo_plain 226 = .ok (.iconst 3, 1) := by decide +kernel
theorem d_Mo_plain_227 : decode b_Mo_plain 227 = .ok (.if_icmp .ne 54, 3) := by decide +kernel
theorem d_Mo_plain_230 : decode b_Mo_plain 230 = .ok (.iload_n 2, 1) := by decide +kernel
theorem d_Mo_plain_231 : decode b_Mo_plain 231 = .ok (.bipush 8, 2) := by decide +kernel
theorem d_Mo_plain_233 : decode b_Mo_plain 233 = .ok (.if_icmp .ne 15, 3) := by decide +kernel
theorem d_Mo_plain_236 : decode b_Mo_plain 236 = .ok (.aload_n 0, 1) := by decide +kernel
theorem d_Mo_plain_237 : decode b_Mo_plain 237 = .ok (.iload_n 1, 1) := by decide +kernel
theorem d_Mo_plain_238 : decode b_Mo_plain 238 = .ok (.invokevirtual 177, 3) := by decide +kernel
theorem d_Mo_plain_241 : decode b_Mo_plain 241 = .ok (.iload_n 3, 1) := by decide +kernel
theorem d_Mo_plain_242 : decode b_Mo_plain 242 = .ok (.if_icmp .lt 43, 3) := by decide +kernel
theorem d_Mo_plain_245 : decode b_Mo_plain 245 = .ok (.goto 36, 3) := by decide +kernel
theorem d_Mo_plain_248 : decode b_Mo_plain 248 = .ok (.iload_n 2, 1) := by decide +kernel
theorem d_Mo_plain_249 : decode b_Mo_plain 249 = .ok (.bipush 9, 2) := by decide +kernel
theorem d_Mo_plain_251 : decode b_Mo_plain 251 = .ok (.if_icmp .ne 15, 3) := by decide +kernel
theorem d_Mo_plain_254 : decode b_Mo_plain 254 = .ok (.aload_n 0, 1) := by decide +kernel
theorem d_Mo_plain_255 : decode b_Mo_plain 255 = .ok (.iload_n 1, 1) := by decide +kernel
theorem d_Mo_plain_256 : decode b_Mo_plain 256 = .ok (.invokevirtual 177, 3) := by decide +kernel
theorem d_Mo_plain_259 : decode b_Mo_plain 259 = .ok (.iload_n 3, 1) := by decide +kernel
theorem d_Mo_plain_260 : decode b_Mo_plain 260 = .ok (.if_icmp .gt 25, 3) := by decide +kernel
theorem d_Mo_plain_263 : decode b_Mo_plain 263 = .ok (.goto 18, 3) := by decide +kernel
theorem d_Mo_plain_266 : decode b_Mo_plain 266 = .ok (.aload_n 0, 1) := by decide +kernel
theorem d_Mo_plain_267 : decode b_Mo_plain 267 = .ok (.iload_n 3, 1) := by decide +kernel
theorem d_Mo_plain_268 : decode b_Mo_plain 268 = .ok (.aload_n 0, 1) := by decide +kernel
theorem d_Mo_plain_269 : decode b_Mo_plain 269 = .ok (.getfield 13, 3) := by decide +kernel
theorem d_Mo_plain_272 : decode b_Mo_plain 272 = .ok (.iload_n 1, 1) := by decide +kernel
theorem d_Mo_plain_273 : decode b_Mo_plain 273 = .ok (.laload, 1) := by decide +kernel
theorem d_Mo_plain_274 : decode b_Mo_plain 274 = .ok (.l2i, 1) := by decide +kernel
theorem d_Mo_plain_275 : decode b_Mo_plain 275 = .ok (.invokevirtual 181, 3) := by decide +kernel
theorem d_Mo_plain_278 : decode b_Mo_plain 278 = .ok (.ifCond .eq 7, 3) := by decide +kernel
theorem d_Mo_plain_281 : decode b_Mo_plain 281 = .ok (.iconst 1, 1) := by decide +kernel
theorem d_Mo_plain_282 : decode b_Mo_plain 282 = .ok (.goto 4, 3) := by decide +kernel
theorem d_Mo_plain_285 : decode b_Mo_plain 285 = .ok (.iconst 0, 1) := by decide +kernel
theorem d_Mo_plain_286 : decode b_Mo_plain 286 = .ok (.ireturn, 1) := by decide +kernel
theorem d_Mo_plain_287 : decode b_Mo_plain 287 = .ok (.iload_n 2, 1) := by decide +kernel
theorem d_Mo_plain_288 : decode b_Mo_plain 288 = .ok (.bipush 14, 2) := by decide +kernel
theorem d_Mo_plain_290 : decode b_Mo_plain 290 = .ok (.if_icmp .ge 65, 3) := by decide +kernel
theorem d_Mo_plain_293 : decode b_Mo_plain 293 = .ok (.iload 4, 2) := by decide +kernel
theorem d_Mo_plain_295 : decode b_Mo_plain 295 = .ok (.iconst 4, 1) := by decide +kernel
theorem d_Mo_plain_296 : decode b_Mo_plain 296 = .ok (.if_icmp .ne 53, 3) := by decide +kernel
theorem d_Mo_plain_299 : decode b_Mo_plain 299 = .ok (.iload_n 2, 1) := by decide +kernel
theorem d_Mo_plain_300 : decode b_Mo_plain 300 = .ok (.bipush 11, 2) := by decide +kernel
theorem d_Mo_plain_302 : decode b_Mo_plain 302 = .ok (.if_icmp .ne 16, 3) := by decide +kernel
theorem d_Mo_plain_305 : decode b_Mo_plain 305 = .ok (.aload_n 0, 1) := by decide +kernel
theorem d_Mo_plain_306 : decode b_Mo_plain 306 = .ok (.getfield 17, 3) := by decide +kernel
theorem d_Mo_plain_309 : decode b_Mo_plain 309 = .ok (.iload_n 1, 1) := by decide +kernel
theorem d_Mo_plain_310 : decode b_Mo_plain 310 = .ok (.iaload, 1) := by decide +kernel
theorem d_Mo_plain_311 : decode b_Mo_plain 311 = .ok (.iload_n 3, 1) := by decide +kernel
theorem d_Mo_plain_312 : decode b_Mo_plain 312 = .ok (.if_icmp .lt 41, 3) := by decide +kernel
theorem d_Mo_plain_315 : decode b_Mo_plain 315 = .ok (.goto 34, 3) := by decide +kernel
theorem d_Mo_plain_318 : decode b_Mo_plain 318 = .ok (.iload_n 2, 1) := by decide +kernel
theorem d_Mo_plain_319 : decode b_Mo_plain 319 = .ok (.bipush 12, 2) := by decide +kernel
theorem d_Mo_plain_321 : decode b_Mo_plain 321 = .ok (.if_icmp .ne 16, 3) := by decide +kernel
theorem d_Mo_plain_324 : decode b_Mo_plain 324 = .ok (.aload_n 0, 1) := by decide +kernel
theorem d_Mo_plain_325 : decode b_Mo_plain 325 = .ok (.getfield 17, 3) := by decide +kernel
theorem d_Mo_plain_328 : decode b_Mo_plain 328 = .ok (.iload_n 1, 1) := by decide +kernel
theorem d_Mo_plain_329 : decode b_Mo_plain 329 = .ok (.iaload, 1) := by decide +kernel
theorem d_Mo_plain_330 : decode b_Mo_plain 330 = .ok (.iload_n 3, 1) := by decide +kernel
theorem d_Mo_plain_331 : decode b_Mo_plain 331 = .ok (.if_icmp .gt 22, 3) := by decide +kernel
theorem d_Mo_plain_334 : decode b_Mo_plain 334 = .ok (.goto 15, 3) := by decide +kernel
theorem d_Mo_plain_337 : decode b_Mo_plain 337 = .ok (.iload_n 3, 1) := by decide +kernel
theorem d_Mo_plain_338 : decode b_Mo_plain 338 = .ok (.ifCond .eq 11, 3) := by decide +kernel
theorem d_Mo_plain_341 : decode b_Mo_plain 341 = .ok (.aload_n 0, 1) := by decide +kernel
theorem d_Mo_plain_342 : decode b_Mo_plain 342 = .ok (.iload_n 1, 1) := by decide +kernel
theorem d_Mo_plain_343 : decode b_Mo_plain 343 = .ok (.invokevirtual 184, 3) := by decide +kernel
theorem d_Mo_plain_346 : decode b_Mo_plain 346 = .ok (.ifCond .eq 7, 3) := by decide +kernel
theorem d_Mo_plain_349 : decode b_Mo_plain 349 = .ok (.iconst 1, 1) := by decide +kernel
theorem d_Mo_plain_350 : decode b_Mo_plain 350 = .ok (.goto 4, 3) := by decide +kernel
theorem d_Mo_plain_353 : decode b_Mo_plain 353 = .ok (.iconst 0, 1) := by decide +kernel
theorem d_Mo_plain_354 : decode b_Mo_plain 354 = .ok (.ireturn, 1) := by decide +kernel
theorem d_Mo_plain_355 : decode b_Mo_plain 355 = .ok (.aload_n 0, 1) := by decide +kernel
theorem d_Mo_plain_356 : decode b_Mo_plain 356 = .ok (.iload_n 1, 1) := by decide +kernel
theorem d_Mo_plain_357 : decode b_Mo_plain 357 = .ok (.invokevirtual 187, 3) := by decide +kernel
theorem d_Mo_plain_360 : decode b_Mo_plain 360 = .ok (.istore 5, 2) := by decide +kernel
theorem d_Mo_plain_362 : decode b_Mo_plain 362 = .ok (.iload 4, 2) := by decide +kernel
theorem d_Mo_plain_364 : decode b_Mo_plain 364 = .ok (.iconst 5, 1) := by decide +kernel
theorem d_Mo_plain_365 : decode b_Mo_plain 365 = .ok (.if_icmp .ne 50, 3) := by decide +kernel
theorem d_Mo_plain_368 : decode b_Mo_plain 368 = .ok (.iload_n 2, 1) := by decide +kernel
theorem d_Mo_plain_369 : decode b_Mo_plain 369 = .ok (.bipush 14, 2) := by decide +kernel
theorem d_Mo_plain_371 : decode b_Mo_plain 371 = .ok (.if_icmp .ne 16, 3) := by decide +kernel
theorem d_Mo_plain_374 : decode b_Mo_plain 374 = .ok (.aload_n 0, 1) := by decide +kernel
theorem d_Mo_plain_375 : decode b_Mo_plain 375 = .ok (.iload 5, 2) := by decide +kernel
theorem d_Mo_plain_377 : decode b_Mo_plain 377 = .ok (.invokevirtual 190, 3) := by decide +kernel
theorem d_Mo_plain_380 : decode b_Mo_plain 380 = .ok (.iload_n 3, 1) := by decide +kernel
theorem d_Mo_plain_381 : decode b_Mo_plain 381 = .ok (.if_icmp .lt 38, 3) := by decide +kernel
theorem d_Mo_plain_384 : decode b_Mo_plain 384 = .ok (.goto 31, 3) := by decide +kernel
theorem d_Mo_plain_387 : decode b_Mo_plain 387 = .ok (.iload_n 2, 1) := by decide +kernel
theorem d_Mo_plain_388 : decode b_Mo_plain 388 = .ok (.bipush 15, 2) := by decide +kernel
theorem d_Mo_plain_390 : decode b_Mo_plain 390 = .ok (.if_icmp .ne 16, 3) := by decide +kernel
theorem d_Mo_plain_393 : decode b_Mo_plain 393 = .ok (.aload_n 0, 1) := by decide +kernel
theorem d_Mo_plain_394 : decode b_Mo_plain 394 = .ok (.iload 5, 2) := by decide +kernel
theorem d_Mo_plain_396 : decode b_Mo_plain 396 = .ok (.invokevirtual 190, 3) := by decide +kernel
theorem d_Mo_plain_399 : decode b_Mo_plain 399 = .ok (.iload_n 3, 1) := by decide +kernel
theorem d_Mo_plain_400 : decode b_Mo_plain 400 = .ok (.if_icmp .gt 19, 3) := by decide +kernel
theorem d_Mo_plain_403 : decode b_Mo_plain 403 = .ok (.goto 12, 3) := by decide +kernel
theorem d_Mo_plain_406 : decode b_Mo_plain 406 = .ok (.iload_n 3, 1) := by decide +kernel
theorem d_Mo_plain_407 : decode b_Mo_plain 407 = .ok (.iload 5, 2) := by decide +kernel
theorem d_Mo_plain_409 : decode b_Mo_plain 409 = .ok (.iconst (-1), 1) := by decide +kernel
theorem d_Mo_plain_410 : decode b_Mo_plain 410 = .ok (.ixor, 1) := by decide +kernel
theorem d_Mo_plain_411 : decode b_Mo_plain 411 = .ok (.iand, 1) := by decide +kernel
theorem d_Mo_plain_412 : decode b_Mo_plain 412 = .ok (.ifCond .ne 7, 3) := by decide +kernel
theorem d_Mo_plain_415 : decode b_Mo_plain 415 = .ok (.iconst 1, 1) := by decide +kernel
theorem d_Mo_plain_416 : decode b_Mo_plain 416 = .ok (.goto 4, 3) := by decide +kernel
theorem d_Mo_plain_419 : decode b_Mo_plain 419 = .ok (.iconst 0, 1) := by decide +kernel
theorem d_Mo_plain_420 : decode b_Mo_plain 420 = .ok (.ireturn, 1) := by decide +kernel
theorem d_Mo_among_0 : decode b_Mo_among 0 = .ok (.iconst 0, 1) := by decide +kernel
theorem d_Mo_among_1 : decode b_Mo_among 1 = .ok (.istore_n 3, 1) := by decide +kernel
theorem d_Mo_among_2 : decode b_Mo_among 2 = .ok (.iconst 0, 1) := by decide +kernel
theorem d_Mo_among_3 : decode b_Mo_among 3 = .ok (.istore 4, 2) := by decide +kernel
theorem d_Mo_among_5 : decode b_Mo_among 5 = .ok (.iload 4, 2) := by decide +kernel
theorem d_Mo_among_7 : decode b_Mo_among 7 = .ok (.aload_n 0, 1) := by decide +kernel
theorem d_Mo_among_8 : decode b_Mo_among 8 = .ok (.getfield 17, 3) := by decide +kernel
theorem d_Mo_among_11 : decode b_Mo_among 11 = .ok (.iload_n 2, 1) := by decide +kernel
theorem d_Mo_among_12 : decode b_Mo_among 12 = .ok (.iaload, 1) := by decide +kernel
theorem d_Mo_among_13 : decode b_Mo_among 13 = .ok (.if_icmp .ge 45, 3) := by decide +kernel
theorem d_Mo_among_16 : decode b_Mo_among 16 = .ok (.iload_n 3, 1) := by decide +kernel
theorem d_Mo_among_17 : decode b_Mo_among 17 = .ok (.ifCond .ne 29, 3) := by decide +kernel
theorem d_Mo_among_20 : decode b_Mo_among 20 = .ok (.aload_n 0, 1) := by decide +kernel
theorem d_Mo_among_21 : decode b_Mo_among 21 = .ok (.getfield 26, 3) := by decide +kernel
theorem d_Mo_among_24 : decode b_Mo_among 24 = .ok (.aload_n 0, 1) := by decide +kernel
theorem d_Mo_among_25 : decode b_Mo_among 25 = .ok (.getfield 20, 3) := by decide +kernel
theorem d_Mo_among_28 : decode b_Mo_among 28 = .ok (.bipush 8, 2) := by decide +kernel
theorem d_Mo_among_30 : decode b_Mo_among 30 = .ok (.iload_n 2, 1) := by decide +kernel
theorem d_Mo_among_31 : decode b_Mo_among 31 = .ok (.imul, 1) := by decide +kernel
theorem d_Mo_among_32 : decode b_Mo_among 32 = .ok (.iload 4, 2) := by decide +kernel
theorem d_Mo_among_34 : decode b_Mo_among 34 = .ok (.iadd, 1) := by decide +kernel
theorem d_Mo_among_35 : decode b_Mo_among 35 = .ok (.iaload, 1) := by decide +kernel
theorem d_Mo_among_36 : decode b_Mo_among 36 = .ok (.iaload, 1) := by decide +kernel
theorem d_Mo_among_37 : decode b_Mo_among 37 = .ok (.aload_n 0, 1) := by decide +kernel
theorem d_Mo_among_38 : decode b_Mo_among 38 = .ok (.getfield 26, 3) := by decide +kernel
theorem d_Mo_among_41 : decode b_Mo_among 41 = .ok (.iload_n 1, 1) := by decide +kernel
theorem d_Mo_among_42 : decode b_Mo_among 42 = .ok (.iaload, 1) := by decide +kernel
theorem d_Mo_among_43 : decode b_Mo_among 43 = .ok (.if_icmp .ne 7, 3) := by decide +kernel
theorem d_Mo_among_46 : decode b_Mo_among 46 = .ok (.iconst 1, 1) := by decide +kernel
theorem d_Mo_among_47 : decode b_Mo_among 47 = .ok (.goto 4, 3) := by decide +kernel
theorem d_Mo_among_50 : decode b_Mo_among 50 = .ok (.iconst 0, 1) := by decide +kernel
theorem d_Mo_among_51 : decode b_Mo_among 51 = .ok (.istore_n 3, 1) := by decide +kernel
theorem d_Mo_among_52 : decode b_Mo_among 52 = .ok (.iinc 4 1, 3) := by decide +kernel
theorem d_Mo_among_55 : decode b_Mo_among 55 = .ok (.goto (-50), 3) := by decide +kernel
theorem d_Mo_among_58 : decode b_Mo_among 58 = .ok (.iload_n 3, 1) := by decide +kernel
theorem d_Mo_among_59 : decode b_Mo_among 59 = .ok (.ireturn, 1) := by decide +kernel
theorem d_Mo_textLength_0 : decode b_Mo_textLength 0 = .ok (.iconst 0, 1) := by decide +kernel
theorem d_Mo_textLength_1 : decode b_Mo_textLength 1 = .ok (.istore_n 2, 1) := by decide +kernel
theorem d_Mo_textLength_2 : decode b_Mo_textLength 2 = .ok (.aload_n 0, 1) := by decide +kernel
theorem d_Mo_textLength_3 : decode b_Mo_textLength 3 = .ok (.getfield 13, 3) := by decide +kernel
theorem d_Mo_textLength_6 : decode b_Mo_textLength 6 = .ok (.iload_n 1, 1) := by decide +kernel
theorem d_Mo_textLength_7 : decode b_Mo_textLength 7 = .ok (.laload, 1) := by decide +kernel
theorem d_Mo_textLength_8 : decode b_Mo_textLength 8 = .ok (.lstore_n 3, 1) := by decide +kernel
theorem d_Mo_textLength_9 : decode b_Mo_textLength 9 = .ok (.lload_n 3, 1) := by decide +kernel
theorem d_Mo_textLength_10 : decode b_Mo_textLength 10 = .ok (.lconst 0, 1) := by decide +kernel
theorem d_Mo_textLength_11 : decode b_Mo_textLength 11 = .ok (.lcmp, 1) := by decide +kernel
theorem d_Mo_textLength_12 : decode b_Mo_textLength 12 = .ok (.ifCond .le 15, 3) := by decide +kernel
theorem d_Mo_textLength_15 : decode b_Mo_textLength 15 = .ok (.iinc 2 1, 3) := by decide +kernel
theorem d_Mo_textLength_18 : decode b_Mo_textLength 18 = .ok (.lload_n 3, 1) := by decide +kernel
theorem d_Mo_textLength_19 : decode b_Mo_textLength 19 = .ok (.ldc2_w 170, 3) := by decide +kernel
theorem d_Mo_textLength_22 : decode b_Mo_textLength 22 = .ok (.ldiv, 1) := by decide +kernel
theorem d_Mo_textLength_23 : decode b_Mo_textLength 23 = .ok (.lstore_n 3, 1) := by decide +kernel
theorem d_Mo_textLength_24 : decode b_Mo_textLength 24 = .ok (.goto (-15), 3) := by decide +kernel
theorem d_Mo_textLength_27 : decode b_Mo_textLength 27 = .ok (.iload_n 2, 1) := by decide +kernel
theorem d_Mo_textLength_28 : decode b_Mo_textLength 28 = .ok (.ireturn, 1) := by decide +kernel
theorem d_Mo_matches_0 : decode b_Mo_matches 0 = .ok (.iconst 2, 1) := by decide +kernel
theorem d_Mo_matches_1 : decode b_Mo_matches 1 = .ok (.aload_n 0, 1) := by decide +kernel
theorem d_Mo_matches_2 : decode b_Mo_matches 2 = .ok (.getfield 29, 3) := by decide +kernel
theorem d_Mo_matches_5 : decode b_Mo_matches 5 = .ok (.iload_n 1, 1) := by decide +kernel
theorem d_Mo_matches_6 : decode b_Mo_matches 6 = .ok (.iaload, 1) := by decide +kernel
theorem d_Mo_matches_7 : decode b_Mo_matches 7 = .ok (.imul, 1) := by decide +kernel
theorem d_Mo_matches_8 : decode b_Mo_matches 8 = .ok (.istore_n 3, 1) := by decide +kernel
theorem d_Mo_matches_9 : decode b_Mo_matches 9 = .ok (.aload_n 0, 1) := by decide +kernel
theorem d_Mo_matches_10 : decode b_Mo_matches 10 = .ok (.iload_n 1, 1) := by decide +kernel
theorem d_Mo_matches_11 : decode b_Mo_matches 11 = .ok (.iconst 1, 1) := by decide +kernel
theorem d_Mo_matches_12 : decode b_Mo_matches 12 = .ok (.invokevirtual 120, 3) := by decide +kernel
theorem d_Mo_matches_15 : decode b_Mo_matches 15 = .ok (.istore 4, 2) := by decide +kernel
theorem d_Mo_matches_17 : decode b_Mo_matches 17 = .ok (.iload 4, 2) := by decide +kernel
theorem d_Mo_matches_19 : decode b_Mo_matches 19 = .ok (.iload_n 3, 1) := by decide +kernel
theorem d_Mo_matches_20 : decode b_Mo_matches 20 = .ok (.ishr, 1) := by decide +kernel
theorem d_Mo_matches_21 : decode b_Mo_matches 21 = .ok (.iconst 1, 1) := by decide +kernel
theorem d_Mo_matches_22 : decode b_Mo_matches 22 = .ok (.iand, 1) := by decide +kernel
theorem d_Mo_matches_23 : decode b_Mo_matches 23 = .ok (.iconst 1, 1) := by decide +kernel
theorem d_Mo_matches_24 : decode b_Mo_matches 24 = .ok (.if_icmp .ne 7, 3) := by decide +kernel
theorem d_Mo_matches_27 : decode b_Mo_matches 27 = .ok (.iconst 1, 1) := by decide +kernel
theorem d_Mo_matches_28 : decode b_Mo_matches 28 = .ok (.goto 4, 3) := by decide +kernel
theorem d_Mo_matches_31 : decode b_Mo_matches 31 = .ok (.iconst 0, 1) := by decide +kernel
theorem d_Mo_matches_32 : decode b_Mo_matches 32 = .ok (.istore 5, 2) := by decide +kernel
theorem d_Mo_matches_34 : decode b_Mo_matches 34 = .ok (.iload_n 2, 1) := by decide +kernel
theorem d_Mo_matches_35 : decode b_Mo_matches 35 = .ok (.istore 6, 2) := by decide +kernel
theorem d_Mo_matches_37 : decode b_Mo_matches 37 = .ok (.iload 6, 2) := by decide +kernel
theorem d_Mo_matches_39 : decode b_Mo_matches 39 = .ok (.ifCond .le 100, 3) := by decide +kernel
theorem d_Mo_matches_42 : decode b_Mo_matches 42 = .ok (.aload_n 0, 1) := by decide +kernel
theorem d_Mo_matches_43 : decode b_Mo_matches 43 = .ok (.iload_n 1, 1) := by decide +kernel
theorem d_Mo_matches_44 : decode b_Mo_matches 44 = .ok (.iload 4, 2) := by decide +kernel
theorem d_Mo_matches_46 : decode b_Mo_matches 46 = .ok (.iload 6, 2) := by decide +kernel
theorem d_Mo_matches_48 : decode b_Mo_matches 48 = .ok (.iconst 5, 1) := by decide +kernel
theorem d_Mo_matches_49 : decode b_Mo_matches 49 = .ok (.irem, 1) := by decide +kernel
theorem d_Mo_matches_50 : decode b_Mo_matches 50 = .ok (.iconst 1, 1) := by decide +kernel
theorem d_Mo_matches_51 : decode b_Mo_matches 51 = .ok (.isub, 1) := by decide +kernel
theorem d_Mo_matches_52 : decode b_Mo_matches 52 = .ok (.invokevirtual 124, 3) := by decide +kernel
theorem d_Mo_matches_55 : decode b_Mo_matches 55 = .ok (.istore 4, 2) := by decide +kernel
theorem d_Mo_matches_57 : decode b_Mo_matches 57 = .ok (.iload 6, 2) := by decide +kernel
theorem d_Mo_matches_59 : decode b_Mo_matches 59 = .ok (.iconst 5, 1) := by decide +kernel
theorem d_Mo_matches_60 : decode b_Mo_matches 60 = .ok (.idiv, 1) := by decide +kernel
theorem d_Mo_matches_61 : decode b_Mo_matches 61 = .ok (.istore 6, 2) := by decide +kernel
theorem d_Mo_matches_63 : decode b_Mo_matches 63 = .ok (.aload_n 0, 1) := by decide +kernel
theorem d_Mo_matches_64 : decode b_Mo_matches 64 = .ok (.iload_n 1, 1) := by decide +kernel
theorem d_Mo_matches_65 : decode b_Mo_matches 65 = .ok (.aload_n 0, 1) := by decide +kernel
theorem d_Mo_matches_66 : decode b_Mo_matches 66 = .ok (.getfield 38, 3) := by decide +kernel
theorem d_Mo_matches_69 : decode b_Mo_matches 69 = .ok (.iload_n 1, 1) := by decide +kernel
theorem d_Mo_matches_70 : decode b_Mo_matches 70 = .ok (.baload, 1) := by decide +kernel
theorem d_Mo_matches_71 : decode b_Mo_matches 71 = .ok (.ifCond .eq 8, 3) := by decide +kernel
theorem d_Mo_matches_74 : decode b_Mo_matches 74 = .ok (.iload 4, 2) := by decide +kernel
theorem d_Mo_matches_76 : decode b_Mo_matches 76 = .ok (.goto 7, 3) := by decide +kernel
theorem d_Mo_matches_79 : decode b_Mo_matches 79 = .ok (.iload 4, 2) := by decide +kernel
theorem d_Mo_matches_81 : decode b_Mo_matches 81 = .ok (.iconst 1, 1) := by decide +kernel
theorem d_Mo_matches_82 : decode b_Mo_matches 82 = .ok (.ior, 1) := by decide +kernel
theorem d_Mo_matches_83 : decode b_Mo_matches 83 = .ok (.invokevirtual 120, 3) := by decide +kernel
theorem d_Mo_matches_86 : decode b_Mo_matches 86 = .ok (.istore 4, 2) := by decide +kernel
theorem d_Mo_matches_88 : decode b_Mo_matches 88 = .ok (.iload 4, 2) := by decide +kernel
theorem d_Mo_matches_90 : decode b_Mo_matches 90 = .ok (.iload_n 3, 1) := by decide +kernel
theorem d_Mo_matches_91 : decode b_Mo_matches 91 = .ok (.ishr, 1) := by decide +kernel
theorem d_Mo_matches_92 : decode b_Mo_matches 92 = .ok (.iconst 1, 1) := by decide +kernel
theorem d_Mo_matches_93 : decode b_Mo_matches 93 = .ok (.iand, 1) := by decide +kernel
theorem d_Mo_matches_94 : decode b_Mo_matches 94 = .ok (.iconst 1, 1) := by decide +kernel
theorem d_Mo_matches_95 : decode b_Mo_matches 95 = .ok (.if_icmp .ne 7, 3) := by decide +kernel
theorem d_Mo_matches_98 : decode b_Mo_matches 98 = .ok (.iconst 1, 1) := by decide +kernel
theorem d_Mo_matches_99 : decode b_Mo_matches 99 = .ok (.goto 4, 3) := by decide +kernel
theorem d_Mo_matches_102 : decode b_Mo_matches 102 = .ok (.iconst 0, 1) := by decide +kernel
theorem d_Mo_matches_103 : decode b_Mo_matches 103 = .ok (.istore 7, 2) := by decide +kernel
theorem d_Mo_matches_105 : decode b_Mo_matches 105 = .ok (.aload_n 0, 1) := by decide +kernel
theorem d_Mo_matches_106 : decode b_Mo_matches 106 = .ok (.getfield 42, 3) := by decide +kernel
theorem d_Mo_matches_109 : decode b_Mo_matches 109 = .ok (.iload_n 1, 1) := by decide +kernel
theorem d_Mo_matches_110 : decode b_Mo_matches 110 = .ok (.baload, 1) := by decide +kernel
theorem d_Mo_matches_111 : decode b_Mo_matches 111 = .ok (.ifCond .eq 8, 3) := by decide +kernel
theorem d_Mo_matches_114 : decode b_Mo_matches 114 = .ok (.iload 7, 2) := by decide +kernel
theorem d_Mo_matches_116 : decode b_Mo_matches 116 = .ok (.goto 18, 3) := by decide +kernel
theorem d_Mo_matches_119 : decode b_Mo_matches 119 = .ok (.iload 5, 2) := by decide +kernel
theorem d_Mo_matches_121 : decode b_Mo_matches 121 = .ok (.ifCond .ne 8, 3) := by decide +kernel
theorem d_Mo_matches_124 : decode b_Mo_matches 124 = .ok (.iload 7, 2) := by decide +kernel
theorem d_Mo_matches_126 : decode b_Mo_matches 126 = .ok (.ifCond .eq 7, 3) := by decide +kernel
theorem d_Mo_matches_129 : decode b_Mo_matches 129 = .ok (.iconst 1, 1) := by decide +kernel
theorem d_Mo_matches_130 : decode b_Mo_matches 130 = .ok (.goto 4, 3) := by decide +kernel
theorem d_Mo_matches_133 : decode b_Mo_matches 133 = .ok (.iconst 0, 1) := by decide +kernel
theorem d_Mo_matches_134 : decode b_Mo_matches 134 = .ok (.istore 5, 2) := by decide +kernel
theorem d_Mo_matches_136 : decode b_Mo_matches 136 = .ok (.goto (-99), 3) := by decide +kernel
theorem d_Mo_matches_139 : decode b_Mo_matches 139 = .ok (.iload 5, 2) := by decide +kernel
theorem d_Mo_matches_141 : decode b_Mo_matches 141 = .ok (.ireturn, 1) := by decide +kernel
theorem d_Mo_spread_0 : decode b_Mo_spread 0 = .ok (.iload_n 2, 1) := by decide +kernel
theorem d_Mo_spread_1 : decode b_Mo_spread 1 = .ok (.istore_n 3, 1) := by decide +kernel
theorem d_Mo_spread_2 : decode b_Mo_spread 2 = .ok (.iconst 0, 1) := by decide +kernel
theorem d_Mo_spread_3 : decode b_Mo_spread 3 = .ok (.istore 4, 2) := by decide +kernel
theorem d_Mo_spread_5 : decode b_Mo_spread 5 = .ok (.iload 4, 2) := by decide +kernel
theorem d_Mo_spread_7 : decode b_Mo_spread 7 = .ok (.aload_n 0, 1) := by decide +kernel
theorem d_Mo_spread_8 : decode b_Mo_spread 8 = .ok (.getfield 29, 3) := by decide +kernel
theorem d_Mo_spread_11 : decode b_Mo_spread 11 = .ok (.iload_n 1, 1) := by decide +kernel
theorem d_Mo_spread_12 : decode b_Mo_spread 12 = .ok (.iaload, 1) := by decide +kernel
theorem d_Mo_spread_13 : decode b_Mo_spread 13 = .ok (.if_icmp .ge 98, 3) := by decide +kernel
theorem d_Mo_spread_16 : decode b_Mo_spread 16 = .ok (.aload_n 0, 1) := by decide +kernel
theorem d_Mo_spread_17 : decode b_Mo_spread 17 = .ok (.getfield 35, 3) := by decide +kernel
theorem d_Mo_spread_20 : decode b_Mo_spread 20 = .ok (.bipush 6, 2) := by decide +kernel
theorem d_Mo_spread_22 : decode b_Mo_spread 22 = .ok (.iload_n 1, 1) := by decide +kernel
theorem d_Mo_spread_23 : decode b_Mo_spread 23 = .ok (.imul, 1) := by decide +kernel
theorem d_Mo_spread_24 : decode b_Mo_spread 24 = .ok (.iload 4, 2) := by decide +kernel
theorem d_Mo_spread_26 : decode b_Mo_spread 26 = .ok (.iadd, 1) := by decide +kernel
theorem d_Mo_spread_27 : decode b_Mo_spread 27 = .ok (.iaload, 1) := by decide +kernel
theorem d_Mo_spread_28 : decode b_Mo_spread 28 = .ok (.istore 5, 2) := by decide +kernel
theorem d_Mo_spread_30 : decode b_Mo_spread 30 = .ok (.iload_n 3, 1) := by decide +kernel
theorem d_Mo_spread_31 : decode b_Mo_spread 31 = .ok (.iconst 2, 1) := by decide +kernel
theorem d_Mo_spread_32 : decode b_Mo_spread 32 = .ok (.iload 4, 2) := by decide +kernel
theorem d_Mo_spread_34 : decode b_Mo_spread 34 = .ok (.imul, 1) := by decide +kernel
theorem d_Mo_spread_35 : decode b_Mo_spread 35 = .ok (.ishr, 1) := by decide +kernel
theorem d_Mo_spread_36 : decode b_Mo_spread 36 = .ok (.iconst 1, 1) := by decide +kernel
theorem d_Mo_spread_37 : decode b_Mo_spread 37 = .ok (.iand, 1) := by decide +kernel
theorem d_Mo_spread_38 : decode b_Mo_spread 38 = .ok (.iconst 1, 1) := by decide +kernel
theorem d_Mo_spread_39 : decode b_Mo_spread 39 = .ok (.if_icmp .ne 7, 3) := by decide +kernel
theorem d_Mo_spread_42 : decode b_Mo_spread 42 = .ok (.iconst 1, 1) := by decide +kernel
theorem d_Mo_spread_43 : decode b_Mo_spread 43 = .ok (.goto 4, 3) := by decide +kernel
theorem d_Mo_spread_46 : decode b_Mo_spread 46 = .ok (.iconst 0, 1) := by decide +kernel
theorem d_Mo_spread_47 : decode b_Mo_spread 47 = .ok (.istore 6, 2) := by decide +kernel
theorem d_Mo_spread_49 : decode b_Mo_spread 49 = .ok (.iload_n 3, 1) := by decide +kernel
theorem d_Mo_spread_50 : decode b_Mo_spread 50 = .ok (.iconst 2, 1) := by decide +kernel
theorem d_Mo_spread_51 : decode b_Mo_spread 51 = .ok (.iload 4, 2) := by decide +kernel
theorem d_Mo_spread_53 : decode b_Mo_spread 53 = .ok (.imul, 1) := by decide +kernel
theorem d_Mo_spread_54 : decode b_Mo_spread 54 = .ok (.iconst 1, 1) := by decide +kernel
theorem d_Mo_spread_55 : decode b_Mo_spread 55 = .ok (.iadd, 1) := by decide +kernel
theorem d_Mo_spread_56 : decode b_Mo_spread 56 = .ok (.ishr, 1) := by decide +kernel
theorem d_Mo_spread_57 : decode b_Mo_spread 57 = .ok (.iconst 1, 1) := by decide +kernel
theorem d_Mo_spread_58 : decode b_Mo_spread 58 = .ok (.iand, 1) := by decide +kernel
theorem d_Mo_spread_59 : decode b_Mo_spread 59 = .ok (.iconst 1, 1) := by decide +kernel
theorem d_Mo_spread_60 : decode b_Mo_spread 60 = .ok (.if_icmp .ne 7, 3) := by decide +kernel
theorem d_Mo_spread_63 : decode b_Mo_spread 63 = .ok (.iconst 1, 1) := by decide +kernel
theorem d_Mo_spread_64 : decode b_Mo_spread 64 = .ok (.goto 4, 3) := by decide +kernel
theorem d_Mo_spread_67 : decode b_Mo_spread 67 = .ok (.iconst 0, 1) := by decide +kernel
theorem d_Mo_spread_68 : decode b_Mo_spread 68 = .ok (.istore 7, 2) := by decide +kernel
theorem d_Mo_spread_70 : decode b_Mo_spread 70 = .ok (.iload 7, 2) := by decide +kernel
theorem d_Mo_spread_72 : decode b_Mo_spread 72 = .ok (.ifCond .ne 20, 3) := by decide +kernel
theorem d_Mo_spread_75 : decode b_Mo_spread 75 = .ok (.iload 6, 2) := by decide +kernel
theorem d_Mo_spread_77 : decode b_Mo_spread 77 = .ok (.ifCond .eq 26, 3) := by decide +kernel
theorem d_Mo_spread_80 : decode b_Mo_spread 80 = .ok (.iload 5, 2) := by decide +kernel
theorem d_Mo_spread_82 : decode b_Mo_spread 82 = .ok (.iconst 1, 1) := by decide +kernel
theorem d_Mo_spread_83 : decode b_Mo_spread 83 = .ok (.if_icmp .eq 9, 3) := by decide +kernel
theorem d_Mo_spread_86 : decode b_Mo_spread 86 = .ok (.iload 5, 2) := by decide +kernel
theorem d_Mo_spread_88 : decode b_Mo_spread 88 = .ok (.iconst 2, 1) := by decide +kernel
theorem d_Mo_spread_89 : decode b_Mo_spread 89 = .ok (.if_icmp .ne 14, 3) := by decide +kernel
theorem d_Mo_spread_92 : decode b_Mo_spread 92 = .ok (.iload_n 3, 1) := by decide +kernel
theorem d_Mo_spread_93 : decode b_Mo_spread 93 = .ok (.iconst 4, 1) := by decide +kernel
theorem d_Mo_spread_94 : decode b_Mo_spread 94 = .ok (.iconst 2, 1) := by decide +kernel
theorem d_Mo_spread_95 : decode b_Mo_spread 95 = .ok (.iload 4, 2) := by decide +kernel
theorem d_Mo_spread_97 : decode b_Mo_spread 97 = .ok (.imul, 1) := by decide +kernel
theorem d_Mo_spread_98 : decode b_Mo_spread 98 = .ok (.ishl, 1) := by decide +kernel
theorem d_Mo_spread_99 : decode b_Mo_spread 99 = .ok (.ior, 1) := by decide +kernel
theorem d_Mo_spread_100 : decode b_Mo_spread 100 = .ok (.goto 4, 3) := by decide +kernel
theorem d_Mo_spread_103 : decode b_Mo_spread 103 = .ok (.iload_n 3, 1) := by decide +kernel
theorem d_Mo_spread_104 : decode b_Mo_spread 104 = .ok (.istore_n 3, 1) := by decide +kernel
theorem d_Mo_spread_105 : decode b_Mo_spread 105 = .ok (.iinc 4 1, 3) := by decide +kernel
theorem d_Mo_spread_108 : decode b_Mo_spread 108 = .ok (.goto (-103), 3) := by decide +kernel
theorem d_Mo_spread_111 : decode b_Mo_spread 111 = .ok (.iload_n 3, 1) := by decide +kernel
theorem d_Mo_spread_112 : decode b_Mo_spread 112 = .ok (.ireturn, 1) := by decide +kernel
theorem d_Mo_over_0 : decode b_Mo_over 0 = .ok (.iconst 0, 1) := by decide +kernel
theorem d_Mo_over_1 : decode b_Mo_over 1 = .ok (.istore 4, 2) := by decide +kernel
theorem d_Mo_over_3 : decode b_Mo_over 3 = .ok (.iconst 0, 1) := by decide +kernel
theorem d_Mo_over_4 : decode b_Mo_over 4 = .ok (.istore 5, 2) := by decide +kernel
theorem d_Mo_over_6 : decode b_Mo_over 6 = .ok (.iload 5, 2) := by decide +kernel
theorem d_Mo_over_8 : decode b_Mo_over 8 = .ok (.aload_n 0, 1) := by decide +kernel
theorem d_Mo_over_9 : decode b_Mo_over 9 = .ok (.getfield 29, 3) := by decide +kernel
theorem d_Mo_over_12 : decode b_Mo_over 12 = .ok (.iload_n 1, 1) := by decide +kernel
theorem d_Mo_over_13 : decode b_Mo_over 13 = .ok (.iaload, 1) := by decide +kernel
theorem d_Mo_over_14 : decode b_Mo_over 14 = .ok (.if_icmp .ge 127, 3) := by decide +kernel
theorem d_Mo_over_17 : decode b_Mo_over 17 = .ok (.aload_n 0, 1) := by decide +kernel
theorem d_Mo_over_18 : decode b_Mo_over 18 = .ok (.getfield 35, 3) := by decide +kernel
theorem d_Mo_over_21 : decode b_Mo_over 21 = .ok (.bipush 6, 2) := by decide +kernel
theorem d_Mo_over_23 : decode b_Mo_over 23 = .ok (.iload_n 1, 1) := by decide +kernel
theorem d_Mo_over_24 : decode b_Mo_over 24 = .ok (.imul, 1) := by decide +kernel
theorem d_Mo_over_25 : decode b_Mo_over 25 = .ok (.iload 5, 2) := by decide +kernel
theorem d_Mo_over_27 : decode b_Mo_over 27 = .ok (.iadd, 1) := by decide +kernel
theorem d_Mo_over_28 : decode b_Mo_over 28 = .ok (.iaload, 1) := by decide +kernel
theorem d_Mo_over_29 : decode b_Mo_over 29 = .ok (.istore 6, 2) := by decide +kernel
theorem d_Mo_over_31 : decode b_Mo_over 31 = .ok (.aload_n 0, 1) := by decide +kernel
theorem d_Mo_over_32 : decode b_Mo_over 32 = .ok (.getfield 32, 3) := by decide +kernel
theorem d_Mo_over_35 : decode b_Mo_over 35 = .ok (.bipush 6, 2) := by decide +kernel
theorem d_Mo_over_37 : decode b_Mo_over 37 = .ok (.iload_n 1, 1) := by decide +kernel
theorem d_Mo_over_38 : decode b_Mo_over 38 = .ok (.imul, 1) := by decide +kernel
theorem d_Mo_over_39 : decode b_Mo_over 39 = .ok (.iload 5, 2) := by decide +kernel
theorem d_Mo_over_41 : decode b_Mo_over 41 = .ok (.iadd, 1) := by decide +kernel
theorem d_Mo_over_42 : decode b_Mo_over 42 = .ok (.iaload, 1) := by decide +kernel
theorem d_Mo_over_43 : decode b_Mo_over 43 = .ok (.iload_n 3, 1) := by decide +kernel
theorem d_Mo_over_44 : decode b_Mo_over 44 = .ok (.ishr, 1) := by decide +kernel
theorem d_Mo_over_45 : decode b_Mo_over 45 = .ok (.iconst 1, 1) := by decide +kernel
theorem d_Mo_over_46 : decode b_Mo_over 46 = .ok (.iand, 1) := by decide +kernel
theorem d_Mo_over_47 : decode b_Mo_over 47 = .ok (.iconst 1, 1) := by decide +kernel
theorem d_Mo_over_48 : decode b_Mo_over 48 = .ok (.if_icmp .ne 7, 3) := by decide +kernel
theorem d_Mo_over_51 : decode b_Mo_over 51 = .ok (.iconst 1, 1) := by decide +kernel
theorem d_Mo_over_52 : decode b_Mo_over 52 = .ok (.goto 4, 3) := by decide +kernel
theorem d_Mo_over_55 : decode b_Mo_over 55 = .ok (.iconst 0, 1) := by decide +kernel
theorem d_Mo_over_56 : decode b_Mo_over 56 = .ok (.istore 7, 2) := by decide +kernel
theorem d_Mo_over_58 : decode b_Mo_over 58 = .ok (.iload_n 2, 1) := by decide +kernel
theorem d_Mo_over_59 : decode b_Mo_over 59 = .ok (.iconst 2, 1) := by decide +kernel
theorem d_Mo_over_60 : decode b_Mo_over 60 = .ok (.iload 5, 2) := by decide +kernel
theorem d_Mo_over_62 : decode b_Mo_over 62 = .ok (.imul, 1) := by decide +kernel
theorem d_Mo_over_63 : decode b_Mo_over 63 = .ok (.ishr, 1) := by decide +kernel
theorem d_Mo_over_64 : decode b_Mo_over 64 = .ok (.iconst 1, 1) := by decide +kernel
theorem d_Mo_over_65 : decode b_Mo_over 65 = .ok (.iand, 1) := by decide +kernel
theorem d_Mo_over_66 : decode b_Mo_over 66 = .ok (.iconst 1, 1) := by decide +kernel
theorem d_Mo_over_67 : decode b_Mo_over 67 = .ok (.if_icmp .ne 7, 3) := by decide +kernel
theorem d_Mo_over_70 : decode b_Mo_over 70 = .ok (.iconst 1, 1) := by decide +kernel
theorem d_Mo_over_71 : decode b_Mo_over 71 = .ok (.goto 4, 3) := by decide +kernel
theorem d_Mo_over_74 : decode b_Mo_over 74 = .ok (.iconst 0, 1) := by decide +kernel
theorem d_Mo_over_75 : decode b_Mo_over 75 = .ok (.istore 8, 2) := by decide +kernel
theorem d_Mo_over_77 : decode b_Mo_over 77 = .ok (.iload_n 2, 1) := by decide +kernel
theorem d_Mo_over_78 : decode b_Mo_over 78 = .ok (.iconst 2, 1) := by decide +kernel
theorem d_Mo_over_79 : decode b_Mo_over 79 = .ok (.iload 5, 2) := by decide +kernel
theorem d_Mo_over_81 : decode b_Mo_over 81 = .ok (.imul, 1) := by decide +kernel
theorem d_Mo_over_82 : decode b_Mo_over 82 = .ok (.iconst 1, 1) := by decide +kernel
theorem d_Mo_over_83 : decode b_Mo_over 83 = .ok (.iadd, 1) := by decide +kernel
theorem d_Mo_over_84 : decode b_Mo_over 84 = .ok (.ishr, 1) := by decide +kernel
theorem d_Mo_over_85 : decode b_Mo_over 85 = .ok (.iconst 1, 1) := by decide +kernel
theorem d_Mo_over_86 : decode b_Mo_over 86 = .ok (.iand, 1) := by decide +kernel
theorem d_Mo_over_87 : decode b_Mo_over 87 = .ok (.iconst 1, 1) := by decide +kernel
theorem d_Mo_over_88 : decode b_Mo_over 88 = .ok (.if_icmp .ne 13, 3) := by decide +kernel
theorem d_Mo_over_91 : decode b_Mo_over 91 = .ok (.iload 6, 2) := by decide +kernel
theorem d_Mo_over_93 : decode b_Mo_over 93 = .ok (.iconst 1, 1) := by decide +kernel
theorem d_Mo_over_94 : decode b_Mo_over 94 = .ok (.if_icmp .le 7, 3) := by decide +kernel
theorem d_Mo_over_97 : decode b_Mo_over 97 = .ok (.iconst 1, 1) := by decide +kernel
theorem d_Mo_over_98 : decode b_Mo_over 98 = .ok (.goto 4, 3) := by decide +kernel
theorem d_Mo_over_101 : decode b_Mo_over 101 = .ok (.iconst 0, 1) := by decide +kernel
theorem d_Mo_over_102 : decode b_Mo_over 102 = .ok (.istore 9, 2) := by decide +kernel
theorem d_Mo_over_104 : decode b_Mo_over 104 = .ok (.iload 7, 2) := by decide +kernel
theorem d_Mo_over_106 : decode b_Mo_over 106 = .ok (.ifCond .eq 25, 3) := by decide +kernel
theorem d_Mo_over_109 : decode b_Mo_over 109 = .ok (.iload 8, 2) := by decide +kernel
theorem d_Mo_over_111 : decode b_Mo_over 111 = .ok (.ifCond .ne 8, 3) := by decide +kernel
theorem d_Mo_over_114 : decode b_Mo_over 114 = .ok (.iload 9, 2) := by decide +kernel
theorem d_Mo_over_116 : decode b_Mo_over 116 = .ok (.ifCond .eq 15, 3) := by decide +kernel
theorem d_Mo_over_119 : decode b_Mo_over 119 = .ok (.iload 4, 2) := by decide +kernel
theorem d_Mo_over_121 : decode b_Mo_over 121 = .ok (.iconst 2, 1) := by decide +kernel
theorem d_Mo_over_122 : decode b_Mo_over 122 = .ok (.iconst 2, 1) := by decide +kernel
theorem d_Mo_over_123 : decode b_Mo_over 123 = .ok (.iload 5, 2) := by decide +kernel
theorem d_Mo_over_125 : decode b_Mo_over 125 = .ok (.imul, 1) := by decide +kernel
theorem d_Mo_over_126 : decode b_Mo_over 126 = .ok (.ishl, 1) := by decide +kernel
theorem d_Mo_over_127 : decode b_Mo_over 127 = .ok (.ior, 1) := by decide +kernel
theorem d_Mo_over_128 : decode b_Mo_over 128 = .ok (.goto 5, 3) := by decide +kernel
theorem d_Mo_over_131 : decode b_Mo_over 131 = .ok (.iload 4, 2) := by decide +kernel
theorem d_Mo_over_133 : decode b_Mo_over 133 = .ok (.istore 4, 2) := by decide +kernel
theorem d_Mo_over_135 : decode b_Mo_over 135 = .ok (.iinc 5 1, 3) := by decide +kernel
theorem d_Mo_over_138 : decode b_Mo_over 138 = .ok (.goto (-132), 3) := by decide +kernel
theorem d_Mo_over_141 : decode b_Mo_over 141 = .ok (.iload 4, 2) := by decide +kernel
theorem d_Mo_over_143 : decode b_Mo_over 143 = .ok (.ireturn, 1) := by decide +kernel
theorem d_Mo_unique_0 : decode b_Mo_unique 0 = .ok (.iconst 1, 1) := by decide +kernel
theorem d_Mo_unique_1 : decode b_Mo_unique 1 = .ok (.istore_n 2, 1) := by decide +kernel
theorem d_Mo_unique_2 : decode b_Mo_unique 2 = .ok (.iconst 0, 1) := by decide +kernel
theorem d_Mo_unique_3 : decode b_Mo_unique 3 = .ok (.istore_n 3, 1) := by decide +kernel
theorem d_Mo_unique_4 : decode b_Mo_unique 4 = .ok (.iload_n 3, 1) := by decide +kernel
theorem d_Mo_unique_5 : decode b_Mo_unique 5 = .ok (.aload_n 0, 1) := by decide +kernel
theorem d_Mo_unique_6 : decode b_Mo_unique 6 = .ok (.getfield 17, 3) := by decide +kernel
theorem d_Mo_unique_9 : decode b_Mo_unique 9 = .ok (.iload_n 1, 1) := by decide +kernel
theorem d_Mo_unique_10 : decode b_Mo_unique 10 = .ok (.iaload, 1) := by decide +kernel
theorem d_Mo_unique_11 : decode b_Mo_unique 11 = .ok (.if_icmp .ge 70, 3) := by decide +kernel
theorem d_Mo_unique_14 : decode b_Mo_unique 14 = .ok (.iconst 0, 1) := by decide +kernel
theorem d_Mo_unique_15 : decode b_Mo_unique 15 = .ok (.istore 4, 2) := by decide +kernel
theorem d_Mo_unique_17 : decode b_Mo_unique 17 = .ok (.iload 4, 2) := by decide +kernel
theorem d_Mo_unique_19 : decode b_Mo_unique 19 = .ok (.iload_n 3, 1) := by decide +kernel
theorem d_Mo_unique_20 : decode b_Mo_unique 20 = .ok (.if_icmp .ge 55, 3) := by decide +kernel
theorem d_Mo_unique_23 : decode b_Mo_unique 23 = .ok (.iload_n 2, 1) := by decide +kernel
theorem d_Mo_unique_24 : decode b_Mo_unique 24 = .ok (.ifCond .eq 43, 3) := by decide +kernel
theorem d_Mo_unique_27 : decode b_Mo_unique 27 = .ok (.aload_n 0, 1) := by decide +kernel
theorem d_Mo_unique_28 : decode b_Mo_unique 28 = .ok (.getfield 26, 3) := by decide +kernel
theorem d_Mo_unique_31 : decode b_Mo_unique 31 = .ok (.aload_n 0, 1) := by decide +kernel
theorem d_Mo_unique_32 : decode b_Mo_unique 32 = .ok (.getfield 20, 3) := by decide +kernel
theorem d_Mo_unique_35 : decode b_Mo_unique 35 = .ok (.bipush 8, 2) := by decide +kernel
theorem d_Mo_unique_37 : decode b_Mo_unique 37 = .ok (.iload_n 1, 1) := by decide +kernel
theorem d_Mo_unique_38 : decode b_Mo_unique 38 = .ok (.imul, 1) := by decide +kernel
theorem d_Mo_unique_39 : decode b_Mo_unique 39 = .ok (.iload_n 3, 1) := by decide +kernel
theorem d_Mo_unique_40 : decode b_Mo_unique 40 = .ok (.iadd, 1) := by decide +kernel
theorem d_Mo_unique_41 : decode b_Mo_unique 41 = .ok (.iaload, 1) := by decide +kernel
theorem d_Mo_unique_42 : decode b_Mo_unique 42 = .ok (.iaload, 1) := by decide +kernel
theorem d_Mo_unique_43 : decode b_Mo_unique 43 = .ok (.aload_n 0, 1) := by decide +kernel
theorem d_Mo_unique_44 : decode b_Mo_unique 44 = .ok (.getfield 26, 3) := by decide +kernel
theorem d_Mo_unique_47 : decode b_Mo_unique 47 = .ok (.aload_n 0, 1) := by decide +kernel
theorem d_Mo_unique_48 : decode b_Mo_unique 48 = .ok (.getfield 20, 3) := by decide +kernel
theorem d_Mo_unique_51 : decode b_Mo_unique 51 = .ok (.bipush 8, 2) := by decide +kernel
theorem d_Mo_unique_53 : decode b_Mo_unique 53 = .ok (.iload_n 1, 1) := by decide +kernel
theorem d_Mo_unique_54 : decode b_Mo_unique 54 = .ok (.imul, 1) := by decide +kernel
theorem d_Mo_unique_55 : decode b_Mo_unique 55 = .ok (.iload 4, 2) := by decide +kernel
theorem d_Mo_unique_57 : decode b_Mo_unique 57 = .ok (.iadd, 1) := by decide +kernel
theorem d_Mo_unique_58 : decode b_Mo_unique 58 = .ok (.iaload, 1) := by decide +kernel
theorem d_Mo_unique_59 : decode b_Mo_unique 59 = .ok (.iaload, 1) := by decide +kernel
theorem d_Mo_unique_60 : decode b_Mo_unique 60 = .ok (.if_icmp .eq 7, 3) := by decide +kernel
theorem d_Mo_unique_63 : decode b_Mo_unique 63 = .ok (.iconst 1, 1) := by decide +kernel
theorem d_Mo_unique_64 : decode b_Mo_unique 64 = .ok (.goto 4, 3) := by decide +kernel
theorem d_Mo_unique_67 : decode b_Mo_unique 67 = .ok (.iconst 0, 1) := by decide +kernel
theorem d_Mo_unique_68 : decode b_Mo_unique 68 = .ok (.istore_n 2, 1) := by decide +kernel
theorem d_Mo_unique_69 : decode b_Mo_unique 69 = .ok (.iinc 4 1, 3) := by decide +kernel
theorem d_Mo_unique_72 : decode b_Mo_unique 72 = .ok (.goto (-55), 3) := by decide +kernel
theorem d_Mo_unique_75 : decode b_Mo_unique 75 = .ok (.iinc 3 1, 3) := by decide +kernel
theorem d_Mo_unique_78 : decode b_Mo_unique 78 = .ok (.goto (-74), 3) := by decide +kernel
theorem d_Mo_unique_81 : decode b_Mo_unique 81 = .ok (.iload_n 2, 1) := by decide +kernel
theorem d_Mo_unique_82 : decode b_Mo_unique 82 = .ok (.ireturn, 1) := by decide +kernel
theorem d_Mo_countOf_0 : decode b_Mo_countOf 0 = .ok (.iconst 0, 1) := by decide +kernel
theorem d_Mo_countOf_1 : decode b_Mo_countOf 1 = .ok (.istore_n 2, 1) := by decide +kernel
theorem d_Mo_countOf_2 : decode b_Mo_countOf 2 = .ok (.iconst 0, 1) := by decide +kernel
theorem d_Mo_countOf_3 : decode b_Mo_countOf 3 = .ok (.istore_n 3, 1) := by decide +kernel
theorem d_Mo_countOf_4 : decode b_Mo_countOf 4 = .ok (.iload_n 3, 1) := by decide +kernel
theorem d_Mo_countOf_5 : decode b_Mo_countOf 5 = .ok (.bipush 12, 2) := by decide +kernel
theorem d_Mo_countOf_7 : decode b_Mo_countOf 7 = .ok (.if_icmp .ge 17, 3) := by decide +kernel
theorem d_Mo_countOf_10 : decode b_Mo_countOf 10 = .ok (.iload_n 2, 1) := by decide +kernel
theorem d_Mo_countOf_11 : decode b_Mo_countOf 11 = .ok (.iload_n 1, 1) := by decide +kernel
theorem d_Mo_countOf_12 : decode b_Mo_countOf 12 = .ok (.iload_n 3, 1) := by decide +kernel
theorem d_Mo_countOf_13 : decode b_Mo_countOf 13 = .ok (.ishr, 1) := by decide +kernel
theorem d_Mo_countOf_14 : decode b_Mo_countOf 14 = .ok (.iconst 1, 1) := by decide +kernel
theorem d_Mo_countOf_15 : decode b_Mo_countOf 15 = .ok (.iand, 1) := by decide +kernel
theorem d_Mo_countOf_16 : decode b_Mo_countOf 16 = .ok (.iadd, 1) := by decide +kernel
theorem d_Mo_countOf_17 : decode b_Mo_countOf 17 = .ok (.istore_n 2, 1) := by decide +kernel
theorem d_Mo_countOf_18 : decode b_Mo_countOf 18 = .ok (.iinc 3 1, 3) := by decide +kernel
theorem d_Mo_countOf_21 : decode b_Mo_countOf 21 = .ok (.goto (-17), 3) := by decide +kernel
theorem d_Mo_countOf_24 : decode b_Mo_countOf 24 = .ok (.iload_n 2, 1) := by decide +kernel
theorem d_Mo_countOf_25 : decode b_Mo_countOf 25 = .ok (.ireturn, 1) := by decide +kernel
theorem d_Mo_leading_0 : decode b_Mo_leading 0 = .ok (.iload_n 3, 1) := by decide +kernel
theorem d_Mo_leading_1 : decode b_Mo_leading 1 = .ok (.tableswitch 339 17 28 #[63, 339, 79, 79, 105, 113, 148, 339, 198, 239, 271, 305], 63) := by decide +kernel
theorem d_Mo_leading_64 : decode b_Mo_leading 64 = .ok (.aload_n 0, 1) := by decide +kernel
theorem d_Mo_leading_65 : decode b_Mo_leading 65 = .ok (.iload 4, 2) := by decide +kernel
theorem d_Mo_leading_67 : decode b_Mo_leading 67 = .ok (.iload_n 2, 1) := by decide +kernel
theorem d_Mo_leading_68 : decode b_Mo_leading 68 = .ok (.invokevirtual 193, 3) := by decide +kernel
theorem d_Mo_leading_71 : decode b_Mo_leading 71 = .ok (.ifCond .ne 7, 3) := by decide +kernel
theorem d_Mo_leading_74 : decode b_Mo_leading 74 = .ok (.iconst 1, 1) := by decide +kernel
theorem d_Mo_leading_75 : decode b_Mo_leading 75 = .ok (.goto 4, 3) := by decide +kernel
theorem d_Mo_leading_78 : decode b_Mo_leading 78 = .ok (.iconst 0, 1) := by decide +kernel
theorem d_Mo_leading_79 : decode b_Mo_leading 79 = .ok (.ireturn, 1) := by decide +kernel
theorem d_Mo_leading_80 : decode b_Mo_leading 80 = .ok (.aload_n 0, 1) := by decide +kernel
theorem d_Mo_leading_81 : decode b_Mo_leading 81 = .ok (.iload_n 1, 1) := by decide +kernel
theorem d_Mo_leading_82 : decode b_Mo_leading 82 = .ok (.iload_n 2, 1) := by decide +kernel
theorem d_Mo_leading_83 : decode b_Mo_leading 83 = .ok (.iload_n 3, 1) := by decide +kernel
theorem d_Mo_leading_84 : decode b_Mo_leading 84 = .ok (.invokevirtual 205, 3) := by decide +kernel
theorem d_Mo_leading_87 : decode b_Mo_leading 87 = .ok (.ifCond .eq 13, 3) := by decide +kernel
theorem d_Mo_leading_90 : decode b_Mo_leading 90 = .ok (.aload_n 0, 1) := by decide +kernel
theorem d_Mo_leading_91 : decode b_Mo_leading 91 = .ok (.iload 4, 2) := by decide +kernel
theorem d_Mo_leading_93 : decode b_Mo_leading 93 = .ok (.iload_n 2, 1) := by decide +kernel
theorem d_Mo_leading_94 : decode b_Mo_leading 94 = .ok (.invokevirtual 193, 3) := by decide +kernel
theorem d_Mo_leading_97 : decode b_Mo_leading 97 = .ok (.ifCond .eq 7, 3) := by decide +kernel
theorem d_Mo_leading_100 : decode b_Mo_leading 100 = .ok (.iconst 1, 1) := by decide +kernel
theorem d_Mo_leading_101 : decode b_Mo_leading 101 = .ok (.goto 4, 3) := by decide +kernel
theorem d_Mo_leading_104 : decode b_Mo_leading 104 = .ok (.iconst 0, 1) := by decide +kernel
theorem d_Mo_leading_105 : decode b_Mo_leading 105 = .ok (.ireturn, 1) := by decide +kernel
theorem d_Mo_leading_106 : decode b_Mo_leading 106 = .ok (.aload_n 0, 1) := by decide +kernel
theorem d_Mo_leading_107 : decode b_Mo_leading 107 = .ok (.iload 4, 2) := by decide +kernel
theorem d_Mo_leading_109 : decode b_Mo_leading 109 = .ok (.iload_n 2, 1) := by decide +kernel
theorem d_Mo_leading_110 : decode b_Mo_leading 110 = .ok (.invokevirtual 193, 3) := by decide +kernel
theorem d_Mo_leading_113 : decode b_Mo_leading 113 = .ok (.ireturn, 1) := by decide +kernel
theorem d_Mo_leading_114 : decode b_Mo_leading 114 = .ok (.aload_n 0, 1) := by decide +kernel
theorem d_Mo_leading_115 : decode b_Mo_leading 115 = .ok (.getfield 7, 3) := by decide +kernel
theorem d_Mo_leading_118 : decode b_Mo_leading 118 = .ok (.iload_n 2, 1) := by decide +kernel
theorem d_Mo_leading_119 : decode b_Mo_leading 119 = .ok (.iaload, 1) := by decide +kernel
theorem d_Mo_leading_120 : decode b_Mo_leading 120 = .ok (.iconst 4, 1) := by decide +kernel
theorem d_Mo_leading_121 : decode b_Mo_leading 121 = .ok (.if_icmp .ne 22, 3) := by decide +kernel
theorem d_Mo_leading_124 : decode b_Mo_leading 124 = .ok (.aload_n 0, 1) := by decide +kernel
theorem d_Mo_leading_125 : decode b_Mo_leading 125 = .ok (.iload 4, 2) := by decide +kernel
theorem d_Mo_leading_127 : decode b_Mo_leading 127 = .ok (.iload_n 2, 1) := by decide +kernel
theorem d_Mo_leading_128 : decode b_Mo_leading 128 = .ok (.iconst (-1), 1) := by decide +kernel
theorem d_Mo_leading_129 : decode b_Mo_leading 129 = .ok (.aload_n 0, 1) := by decide +kernel
theorem d_Mo_leading_130 : decode b_Mo_leading 130 = .ok (.iload_n 1, 1) := by decide +kernel
theorem d_Mo_leading_131 : decode b_Mo_leading 131 = .ok (.bipush 32, 2) := by decide +kernel
theorem d_Mo_leading_133 : decode b_Mo_leading 133 = .ok (.invokevirtual 148, 3) := by decide +kernel
theorem d_Mo_leading_136 : decode b_Mo_leading 136 = .ok (.ishl, 1) := by decide +kernel
theorem d_Mo_leading_137 : decode b_Mo_leading 137 = .ok (.invokevirtual 209, 3) := by decide +kernel
theorem d_Mo_leading_140 : decode b_Mo_leading 140 = .ok (.ifCond .eq 7, 3) := by decide +kernel
theorem d_Mo_leading_143 : decode b_Mo_leading 143 = .ok (.iconst 1, 1) := by decide +kernel
theorem d_Mo_leading_144 : decode b_Mo_leading 144 = .ok (.goto 4, 3) := by decide +kernel
theorem d_Mo_leading_147 : decode b_Mo_leading 147 = .ok (.iconst 0, 1) := by decide +kernel
theorem d_Mo_leading_148 : decode b_Mo_leading 148 = .ok (.ireturn, 1) := by decide +kernel
theorem d_Mo_leading_149 : decode b_Mo_leading 149 = .ok (.aload_n 0, 1) := by decide +kernel
theorem d_Mo_leading_150 : decode b_Mo_leading 150 = .ok (.getfield 7, 3) := by decide +kernel
theorem d_Mo_leading_153 : decode b_Mo_leading 153 = .ok (.iload_n 2, 1) := by decide +kernel
theorem d_Mo_leading_154 : decode b_Mo_leading 154 = .ok (.iaload, 1) := by decide +kernel
theorem d_Mo_leading_155 : decode b_Mo_leading 155 = .ok (.iconst 4, 1) := by decide +kernel
theorem d_Mo_leading_156 : decode b_Mo_leading 156 = .ok (.if_icmp .ne 37, 3) := by decide +kernel
theorem d_Mo_leading_159 : decode b_Mo_leading 159 = .ok (.aload_n 0, 1) := by decide +kernel
theorem d_Mo_leading_160 : decode b_Mo_leading 160 = .ok (.aload_n 0, 1) := by decide +kernel
theorem d_Mo_leading_161 : decode b_Mo_leading 161 = .ok (.iload_n 1, 1) := by decide +kernel
theorem d_Mo_leading_162 : decode b_Mo_leading 162 = .ok (.iload_n 2, 1) := by decide +kernel
theorem d_Mo_leading_163 : decode b_Mo_leading 163 = .ok (.invokevirtual 196, 3) := by decide +kernel
theorem d_Mo_leading_166 : decode b_Mo_leading 166 = .ok (.invokevirtual 190, 3) := by decide +kernel
theorem d_Mo_leading_169 : decode b_Mo_leading 169 = .ok (.aload_n 0, 1) := by decide +kernel
theorem d_Mo_leading_170 : decode b_Mo_leading 170 = .ok (.iload_n 1, 1) := by decide +kernel
theorem d_Mo_leading_171 : decode b_Mo_leading 171 = .ok (.bipush 24, 2) := by decide +kernel
theorem d_Mo_leading_173 : decode b_Mo_leading 173 = .ok (.invokevirtual 141, 3) := by decide +kernel
theorem d_Mo_leading_176 : decode b_Mo_leading 176 = .ok (.ifCond .ge 7, 3) := by decide +kernel
theorem d_Mo_leading_179 : decode b_Mo_leading 179 = .ok (.iconst 1, 1) := by decide +kernel
theorem d_Mo_leading_180 : decode b_Mo_leading 180 = .ok (.goto 10, 3) := by decide +kernel
theorem d_Mo_leading_183 : decode b_Mo_leading 183 = .ok (.aload_n 0, 1) := by decide +kernel
theorem d_Mo_leading_184 : decode b_Mo_leading 184 = .ok (.iload_n 1, 1) := by decide +kernel
theorem d_Mo_leading_185 : decode b_Mo_leading 185 = .ok (.bipush 24, 2) := by decide +kernel
theorem d_Mo_leading_187 : decode b_Mo_leading 187 = .ok (.invokevirtual 141, 3) := by decide +kernel
theorem d_Mo_leading_190 : decode b_Mo_leading 190 = .ok (.if_icmp .lt 7, 3) := by decide +kernel
theorem d_Mo_leading_193 : decode b_Mo_leading 193 = .ok (.iconst 1, 1) := by decide +kernel
theorem d_Mo_leading_194 : decode b_Mo_leading 194 = .ok (.goto 4, 3) := by decide +kernel
theorem d_Mo_leading_197 : decode b_Mo_leading 197 = .ok (.iconst 0, 1) := by decide +kernel
theorem d_Mo_leading_198 : decode b_Mo_leading 198 = .ok (.ireturn, 1) := by decide +kernel
theorem d_Mo_leading_199 : decode b_Mo_leading 199 = .ok (.aload_n 0, 1) := by decide +kernel
theorem d_Mo_leading_200 : decode b_Mo_leading 200 = .ok (.getfield 7, 3) := by decide +kernel
theorem d_Mo_leading_203 : decode b_Mo_leading 203 = .ok (.iload_n 2, 1) := by decide +kernel
theorem d_Mo_leading_204 : decode b_Mo_leading 204 = .ok (.iaload, 1) := by decide +kernel
theorem d_Mo_leading_205 : decode b_Mo_leading 205 = .ok (.iconst 4, 1) := by decide +kernel
theorem d_Mo_leading_206 : decode b_Mo_leading 206 = .ok (.if_icmp .ne 28, 3) := by decide +kernel
theorem d_Mo_leading_209 : decode b_Mo_leading 209 = .ok (.aload_n 0, 1) := by decide +kernel
theorem d_Mo_leading_210 : decode b_Mo_leading 210 = .ok (.iload_n 1, 1) := by decide +kernel
theorem d_Mo_leading_211 : decode b_Mo_leading 211 = .ok (.bipush 23, 2) := by decide +kernel
theorem d_Mo_leading_213 : decode b_Mo_leading 213 = .ok (.invokevirtual 141, 3) := by decide +kernel
theorem d_Mo_leading_216 : decode b_Mo_leading 216 = .ok (.ifCond .lt 18, 3) := by decide +kernel
theorem d_Mo_leading_219 : decode b_Mo_leading 219 = .ok (.aload_n 0, 1) := by decide +kernel
theorem d_Mo_leading_220 : decode b_Mo_leading 220 = .ok (.aload_n 0, 1) := by decide +kernel
theorem d_Mo_leading_221 : decode b_Mo_leading 221 = .ok (.iload_n 1, 1) := by decide +kernel
theorem d_Mo_leading_222 : decode b_Mo_leading 222 = .ok (.iload_n 2, 1) := by decide +kernel
theorem d_Mo_leading_223 : decode b_Mo_leading 223 = .ok (.invokevirtual 196, 3) := by decide +kernel
theorem d_Mo_leading_226 : decode b_Mo_leading 226 = .ok (.invokevirtual 190, 3) := by decide +kernel
theorem d_Mo_leading_229 : decode b_Mo_leading 229 = .ok (.iload 4, 2) := by decide +kernel
theorem d_Mo_leading_231 : decode b_Mo_leading 231 = .ok (.if_icmp .gt 7, 3) := by decide +kernel
theorem d_Mo_leading_234 : decode b_Mo_leading 234 = .ok (.iconst 1, 1) := by decide +kernel
theorem d_Mo_leading_235 : decode b_Mo_leading 235 = .ok (.goto 4, 3) := by decide +kernel
theorem d_Mo_leading_238 : decode b_Mo_leading 238 = .ok (.iconst 0, 1) := by decide +kernel
theorem d_Mo_leading_239 : decode b_Mo_leading 239 = .ok (.ireturn, 1) := by decide +kernel
theorem d_Mo_leading_240 : decode b_Mo_leading 240 = .ok (.aload_n 0, 1) := by decide +kernel
theorem d_Mo_leading_241 : decode b_Mo_leading 241 = .ok (.getfield 7, 3) := by decide +kernel
theorem d_Mo_leading_244 : decode b_Mo_leading 244 = .ok (.iload_n 2, 1) := by decide +kernel
theorem d_Mo_leading_245 : decode b_Mo_leading 245 = .ok (.iaload, 1) := by decide +kernel
theorem d_Mo_leading_246 : decode b_Mo_leading 246 = .ok (.iconst 5, 1) := by decide +kernel
theorem d_Mo_leading_247 : decode b_Mo_leading 247 = .ok (.if_icmp .ne 19, 3) := by decide +kernel
theorem d_Mo_leading_250 : decode b_Mo_leading 250 = .ok (.aload_n 0, 1) := by decide +kernel
theorem d_Mo_leading_251 : decode b_Mo_leading 251 = .ok (.iload 4, 2) := by decide +kernel
theorem d_Mo_leading_253 : decode b_Mo_leading 253 = .ok (.iload_n 2, 1) := by decide +kernel
theorem d_Mo_leading_254 : decode b_Mo_leading 254 = .ok (.aload_n 0, 1) := by decide +kernel
theorem d_Mo_leading_255 : decode b_Mo_leading 255 = .ok (.iload_n 1, 1) := by decide +kernel
theorem d_Mo_leading_256 : decode b_Mo_leading 256 = .ok (.iload_n 2, 1) := by decide +kernel
theorem d_Mo_leading_257 : decode b_Mo_leading 257 = .ok (.invokevirtual 199, 3) := by decide +kernel
theorem d_Mo_leading_260 : decode b_Mo_leading 260 = .ok (.invokevirtual 212, 3) := by decide +kernel
theorem d_Mo_leading_263 : decode b_Mo_leading 263 = .ok (.ifCond .eq 7, 3) := by decide +kernel
theorem d_Mo_leading_266 : decode b_Mo_leading 266 = .ok (.iconst 1, 1) := by decide +kernel
theorem d_Mo_leading_267 : decode b_Mo_leading 267 = .ok (.goto 4, 3) := by decide +kernel
theorem d_Mo_leading_270 : decode b_Mo_leading 270 = .ok (.iconst 0, 1) := by decide +kernel
theorem d_Mo_leading_271 : decode b_Mo_leading 271 = .ok (.ireturn, 1) := by decide +kernel
theorem d_Mo_leading_272 : decode b_Mo_leading 272 = .ok (.aload_n 0, 1) := by decide +kernel
theorem d_Mo_leading_273 : decode b_Mo_leading 273 = .ok (.getfield 7, 3) := by decide +kernel
theorem d_Mo_leading_276 : decode b_Mo_leading 276 = .ok (.iload_n 2, 1) := by decide +kernel
theorem d_Mo_leading_277 : decode b_Mo_leading 277 = .ok (.iaload, 1) := by decide +kernel
theorem d_Mo_leading_278 : decode b_Mo_leading 278 = .ok (.iconst 5, 1) := by decide +kernel
theorem d_Mo_leading_279 : decode b_Mo_leading 279 = .ok (.if_icmp .ne 21, 3) := by decide +kernel
theorem d_Mo_leading_282 : decode b_Mo_leading 282 = .ok (.aload_n 0, 1) := by decide +kernel
theorem d_Mo_leading_283 : decode b_Mo_leading 283 = .ok (.iload 4, 2) := by decide +kernel
theorem d_Mo_leading_285 : decode b_Mo_leading 285 = .ok (.iload_n 2, 1) := by decide +kernel
theorem d_Mo_leading_286 : decode b_Mo_leading 286 = .ok (.aload_n 0, 1) := by decide +kernel
theorem d_Mo_leading_287 : decode b_Mo_leading 287 = .ok (.iload_n 1, 1) := by decide +kernel
theorem d_Mo_leading_288 : decode b_Mo_leading 288 = .ok (.iload_n 2, 1) := by decide +kernel
theorem d_Mo_leading_289 : decode b_Mo_leading 289 = .ok (.invokevirtual 215, 3) := by decide +kernel
theorem d_Mo_leading_292 : decode b_Mo_leading 292 = .ok (.iconst (-1), 1) := by decide +kernel
theorem d_Mo_leading_293 : decode b_Mo_leading 293 = .ok (.ixor, 1) := by decide +kernel
theorem d_Mo_leading_294 : decode b_Mo_leading 294 = .ok (.invokevirtual 212, 3) := by decide +kernel
theorem d_Mo_leading_297 : decode b_Mo_leading 297 = .ok (.ifCond .eq 7, 3) := by decide +kernel
theorem d_Mo_leading_300 : decode b_Mo_leading 300 = .ok (.iconst 1, 1) := by decide +kernel
theorem d_Mo_leading_301 : decode b_Mo_leading 301 = .ok (.goto 4, 3) := by decide +kernel
theorem d_Mo_leading_304 : decode b_Mo_leading 304 = .ok (.iconst 0, 1) := by decide +kernel
theorem d_Mo_leading_305 : decode b_Mo_leading 305 = .ok (.ireturn, 1) := by decide +kernel
theorem d_Mo_leading_306 : decode b_Mo_leading 306 = .ok (.aload_n 0, 1) := by decide +kernel
theorem d_Mo_leading_307 : decode b_Mo_leading 307 = .ok (.getfield 7, 3) := by decide +kernel
theorem d_Mo_leading_310 : decode b_Mo_leading 310 = .ok (.iload_n 2, 1) := by decide +kernel
theorem d_Mo_leading_311 : decode b_Mo_leading 311 = .ok (.iaload, 1) := by decide +kernel
theorem d_Mo_leading_312 : decode b_Mo_leading 312 = .ok (.iconst 4, 1) := by decide +kernel
theorem d_Mo_leading_313 : decode b_Mo_leading 313 = .ok (.if_icmp .ne 21, 3) := by decide +kernel
theorem d_Mo_leading_316 : decode b_Mo_leading 316 = .ok (.aload_n 0, 1) := by decide +kernel
theorem d_Mo_leading_317 : decode b_Mo_leading 317 = .ok (.iload 4, 2) := by decide +kernel
theorem d_Mo_leading_319 : decode b_Mo_leading 319 = .ok (.iload_n 2, 1) := by decide +kernel
theorem d_Mo_leading_320 : decode b_Mo_leading 320 = .ok (.aload_n 0, 1) := by decide +kernel
theorem d_Mo_leading_321 : decode b_Mo_leading 321 = .ok (.iload_n 1, 1) := by decide +kernel
theorem d_Mo_leading_322 : decode b_Mo_leading 322 = .ok (.iload_n 2, 1) := by decide +kernel
theorem d_Mo_leading_323 : decode b_Mo_leading 323 = .ok (.invokevirtual 215, 3) := by decide +kernel
theorem d_Mo_leading_326 : decode b_Mo_leading 326 = .ok (.iconst (-1), 1) := by decide +kernel
theorem d_Mo_leading_327 : decode b_Mo_leading 327 = .ok (.ixor, 1) := by decide +kernel
theorem d_Mo_leading_328 : decode b_Mo_leading 328 = .ok (.invokevirtual 209, 3) := by decide +kernel
theorem d_Mo_leading_331 : decode b_Mo_leading 331 = .ok (.ifCond .eq 7, 3) := by decide +kernel
theorem d_Mo_leading_334 : decode b_Mo_leading 334 = .ok (.iconst 1, 1) := by decide +kernel
theorem d_Mo_leading_335 : decode b_Mo_leading 335 = .ok (.goto 4, 3) := by decide +kernel
theorem d_Mo_leading_338 : decode b_Mo_leading 338 = .ok (.iconst 0, 1) := by decide +kernel
theorem d_Mo_leading_339 : decode b_Mo_leading 339 = .ok (.ireturn, 1) := by decide +kernel
theorem d_Mo_leading_340 : decode b_Mo_leading 340 = .ok (.iconst 1, 1) := by decide +kernel
theorem d_Mo_leading_341 : decode b_Mo_leading 341 = .ok (.ireturn, 1) := by decide +kernel
theorem d_Mo_turns_0 : decode b_Mo_turns 0 = .ok (.aload_n 0, 1) := by decide +kernel
theorem d_Mo_turns_1 : decode b_Mo_turns 1 = .ok (.iload_n 1, 1) := by decide +kernel
theorem d_Mo_turns_2 : decode b_Mo_turns 2 = .ok (.bipush 18, 2) := by decide +kernel
theorem d_Mo_turns_4 : decode b_Mo_turns 4 = .ok (.invokevirtual 141, 3) := by decide +kernel
theorem d_Mo_turns_7 : decode b_Mo_turns 7 = .ok (.ifCond .lt 33, 3) := by decide +kernel
theorem d_Mo_turns_10 : decode b_Mo_turns 10 = .ok (.aload_n 0, 1) := by decide +kernel
theorem d_Mo_turns_11 : decode b_Mo_turns 11 = .ok (.aload_n 0, 1) := by decide +kernel
theorem d_Mo_turns_12 : decode b_Mo_turns 12 = .ok (.iload_n 1, 1) := by decide +kernel
theorem d_Mo_turns_13 : decode b_Mo_turns 13 = .ok (.bipush 18, 2) := by decide +kernel
theorem d_Mo_turns_15 : decode b_Mo_turns 15 = .ok (.invokevirtual 141, 3) := by decide +kernel
theorem d_Mo_turns_18 : decode b_Mo_turns 18 = .ok (.iload_n 2, 1) := by decide +kernel
theorem d_Mo_turns_19 : decode b_Mo_turns 19 = .ok (.invokevirtual 193, 3) := by decide +kernel
theorem d_Mo_turns_22 : decode b_Mo_turns 22 = .ok (.iload_n 3, 1) := by decide +kernel
theorem d_Mo_turns_23 : decode b_Mo_turns 23 = .ok (.bipush 19, 2) := by decide +kernel
theorem d_Mo_turns_25 : decode b_Mo_turns 25 = .ok (.if_icmp .ne 7, 3) := by decide +kernel
theorem d_Mo_turns_28 : decode b_Mo_turns 28 = .ok (.iconst 1, 1) := by decide +kernel
theorem d_Mo_turns_29 : decode b_Mo_turns 29 = .ok (.goto 4, 3) := by decide +kernel
theorem d_Mo_turns_32 : decode b_Mo_turns 32 = .ok (.iconst 0, 1) := by decide +kernel
theorem d_Mo_turns_33 : decode b_Mo_turns 33 = .ok (.if_icmp .ne 7, 3) := by decide +kernel
theorem d_Mo_turns_36 : decode b_Mo_turns 36 = .ok (.iconst 1, 1) := by decide +kernel
theorem d_Mo_turns_37 : decode b_Mo_turns 37 = .ok (.goto 4, 3) := by decide +kernel
theorem d_Mo_turns_40 : decode b_Mo_turns 40 = .ok (.iconst 0, 1) := by decide +kernel
theorem d_Mo_turns_41 : decode b_Mo_turns 41 = .ok (.ireturn, 1) := by decide +kernel
theorem d_Mo_allElements_0 : decode b_Mo_allElements 0 = .ok (.iconst 1, 1) := by decide +kernel
theorem d_Mo_allElements_1 : decode b_Mo_allElements 1 = .ok (.istore 4, 2) := by decide +kernel
theorem d_Mo_allElements_3 : decode b_Mo_allElements 3 = .ok (.iconst 0, 1) := by decide +kernel
theorem d_Mo_allElements_4 : decode b_Mo_allElements 4 = .ok (.istore 5, 2) := by decide +kernel
theorem d_Mo_allElements_6 : decode b_Mo_allElements 6 = .ok (.iload 5, 2) := by decide +kernel
theorem d_Mo_allElements_8 : decode b_Mo_allElements 8 = .ok (.aload_n 0, 1) := by decide +kernel
theorem d_Mo_allElements_9 : decode b_Mo_allElements 9 = .ok (.getfield 17, 3) := by decide +kernel
theorem d_Mo_allElements_12 : decode b_Mo_allElements 12 = .ok (.iload_n 2, 1) := by decide +kernel
theorem d_Mo_allElements_13 : decode b_Mo_allElements 13 = .ok (.iaload, 1) := by decide +kernel
theorem d_Mo_allElements_14 : decode b_Mo_allElements 14 = .ok (.if_icmp .ge 50, 3) := by decide +kernel
theorem d_Mo_allElements_17 : decode b_Mo_allElements 17 = .ok (.iload 4, 2) := by decide +kernel
theorem d_Mo_allElements_19 : decode b_Mo_allElements 19 = .ok (.ifCond .eq 36, 3) := by decide +kernel
theorem d_Mo_allElements_22 : decode b_Mo_allElements 22 = .ok (.iload_n 3, 1) := by decide +kernel
theorem d_Mo_allElements_23 : decode b_Mo_allElements 23 = .ok (.iload 5, 2) := by decide +kernel
theorem d_Mo_allElements_25 : decode b_Mo_allElements 25 = .ok (.ishr, 1) := by decide +kernel
theorem d_Mo_allElements_26 : decode b_Mo_allElements 26 = .ok (.iconst 1, 1) := by decide +kernel
theorem d_Mo_allElements_27 : decode b_Mo_allElements 27 = .ok (.iand, 1) := by decide +kernel
theorem d_Mo_allElements_28 : decode b_Mo_allElements 28 = .ok (.ifCond .eq 23, 3) := by decide +kernel
theorem d_Mo_allElements_31 : decode b_Mo_allElements 31 = .ok (.aload_n 0, 1) := by decide +kernel
theorem d_Mo_allElements_32 : decode b_Mo_allElements 32 = .ok (.iload_n 1, 1) := by decide +kernel
theorem d_Mo_allElements_33 : decode b_Mo_allElements 33 = .ok (.aload_n 0, 1) := by decide +kernel
theorem d_Mo_allElements_34 : decode b_Mo_allElements 34 = .ok (.getfield 20, 3) := by decide +kernel
theorem d_Mo_allElements_37 : decode b_Mo_allElements 37 = .ok (.bipush 8, 2) := by decide +kernel
theorem d_Mo_allElements_39 : decode b_Mo_allElements 39 = .ok (.iload_n 2, 1) := by decide +kernel
theorem d_Mo_allElements_40 : decode b_Mo_allElements 40 = .ok (.imul, 1) := by decide +kernel
theorem d_Mo_allElements_41 : decode b_Mo_allElements 41 = .ok (.iload 5, 2) := by decide +kernel
theorem d_Mo_allElements_43 : decode b_Mo_allElements 43 = .ok (.iadd, 1) := by decide +kernel
theorem d_Mo_allElements_44 : decode b_Mo_allElements 44 = .ok (.iaload, 1) := by decide +kernel
theorem d_Mo_allElements_45 : decode b_Mo_allElements 45 = .ok (.invokevirtual 193, 3) := by decide +kernel
theorem d_Mo_allElements_48 : decode b_Mo_allElements 48 = .ok (.ifCond .eq 7, 3) := by decide +kernel
theorem d_Mo_allElements_51 : decode b_Mo_allElements 51 = .ok (.iconst 1, 1) := by decide +kernel
theorem d_Mo_allElements_52 : decode b_Mo_allElements 52 = .ok (.goto 4, 3) := by decide +kernel
theorem d_Mo_allElements_55 : decode b_Mo_allElements 55 = .ok (.iconst 0, 1) := by decide +kernel
theorem d_Mo_allElements_56 : decode b_Mo_allElements 56 = .ok (.istore 4, 2) := by decide +kernel
theorem d_Mo_allElements_58 : decode b_Mo_allElements 58 = .ok (.iinc 5 1, 3) := by decide +kernel
theorem d_Mo_allElements_61 : decode b_Mo_allElements 61 = .ok (.goto (-55), 3) := by decide +kernel
theorem d_Mo_allElements_64 : decode b_Mo_allElements 64 = .ok (.iload 4, 2) := by decide +kernel
theorem d_Mo_allElements_66 : decode b_Mo_allElements 66 = .ok (.ireturn, 1) := by decide +kernel
theorem d_Mo_contained_0 : decode b_Mo_contained 0 = .ok (.iconst 0, 1) := by decide +kernel
theorem d_Mo_contained_1 : decode b_Mo_contained 1 = .ok (.istore_n 3, 1) := by decide +kernel
theorem d_Mo_contained_2 : decode b_Mo_contained 2 = .ok (.iconst 0, 1) := by decide +kernel
theorem d_Mo_contained_3 : decode b_Mo_contained 3 = .ok (.istore 4, 2) := by decide +kernel
theorem d_Mo_contained_5 : decode b_Mo_contained 5 = .ok (.iload 4, 2) := by decide +kernel
theorem d_Mo_contained_7 : decode b_Mo_contained 7 = .ok (.aload_n 0, 1) := by decide +kernel
theorem d_Mo_contained_8 : decode b_Mo_contained 8 = .ok (.getfield 17, 3) := by decide +kernel
theorem d_Mo_contained_11 : decode b_Mo_contained 11 = .ok (.iload_n 2, 1) := by decide +kernel
theorem d_Mo_contained_12 : decode b_Mo_contained 12 = .ok (.iaload, 1) := by decide +kernel
theorem d_Mo_contained_13 : decode b_Mo_contained 13 = .ok (.if_icmp .ge 46, 3) := by decide +kernel
theorem d_Mo_contained_16 : decode b_Mo_contained 16 = .ok (.aload_n 0, 1) := by decide +kernel
theorem d_Mo_contained_17 : decode b_Mo_contained 17 = .ok (.aload_n 0, 1) := by decide +kernel
theorem d_Mo_contained_18 : decode b_Mo_contained 18 = .ok (.iload_n 1, 1) := by decide +kernel
theorem d_Mo_contained_19 : decode b_Mo_contained 19 = .ok (.bipush 23, 2) := by decide +kernel
theorem d_Mo_contained_21 : decode b_Mo_contained 21 = .ok (.invokevirtual 141, 3) := by decide +kernel
theorem d_Mo_contained_24 : decode b_Mo_contained 24 = .ok (.aload_n 0, 1) := by decide +kernel
theorem d_Mo_contained_25 : decode b_Mo_contained 25 = .ok (.getfield 20, 3) := by decide +kernel
theorem d_Mo_contained_28 : decode b_Mo_contained 28 = .ok (.bipush 8, 2) := by decide +kernel
theorem d_Mo_contained_30 : decode b_Mo_contained 30 = .ok (.iload_n 2, 1) := by decide +kernel
theorem d_Mo_contained_31 : decode b_Mo_contained 31 = .ok (.imul, 1) := by decide +kernel
theorem d_Mo_contained_32 : decode b_Mo_contained 32 = .ok (.iload 4, 2) := by decide +kernel
theorem d_Mo_contained_34 : decode b_Mo_contained 34 = .ok (.iadd, 1) := by decide +kernel
theorem d_Mo_contained_35 : decode b_Mo_contained 35 = .ok (.iaload, 1) := by decide +kernel
theorem d_Mo_contained_36 : decode b_Mo_contained 36 = .ok (.invokevirtual 193, 3) := by decide +kernel
theorem d_Mo_contained_39 : decode b_Mo_contained 39 = .ok (.ifCond .eq 12, 3) := by decide +kernel
theorem d_Mo_contained_42 : decode b_Mo_contained 42 = .ok (.iload_n 3, 1) := by decide +kernel
theorem d_Mo_contained_43 : decode b_Mo_contained 43 = .ok (.iconst 1, 1) := by decide +kernel
theorem d_Mo_contained_44 : decode b_Mo_contained 44 = .ok (.iload 4, 2) := by decide +kernel
theorem d_Mo_contained_46 : decode b_Mo_contained 46 = .ok (.ishl, 1) := by decide +kernel
theorem d_Mo_contained_47 : decode b_Mo_contained 47 = .ok (.ior, 1) := by decide +kernel
theorem d_Mo_contained_48 : decode b_Mo_contained 48 = .ok (.goto 4, 3) := by decide +kernel
theorem d_Mo_contained_51 : decode b_Mo_contained 51 = .ok (.iload_n 3, 1) := by decide +kernel
theorem d_Mo_contained_52 : decode b_Mo_contained 52 = .ok (.istore_n 3, 1) := by decide +kernel
theorem d_Mo_contained_53 : decode b_Mo_contained 53 = .ok (.iinc 4 1, 3) := by decide +kernel
theorem d_Mo_contained_56 : decode b_Mo_contained 56 = .ok (.goto (-51), 3) := by decide +kernel
theorem d_Mo_contained_59 : decode b_Mo_contained 59 = .ok (.iload_n 3, 1) := by decide +kernel
theorem d_Mo_contained_60 : decode b_Mo_contained 60 = .ok (.ireturn, 1) := by decide +kernel
theorem d_Mo_additional_0 : decode b_Mo_additional 0 = .ok (.aload_n 0, 1) := by decide +kernel
theorem d_Mo_additional_1 : decode b_Mo_additional 1 = .ok (.iload_n 2, 1) := by decide +kernel
theorem d_Mo_additional_2 : decode b_Mo_additional 2 = .ok (.invokevirtual 187, 3) := by decide +kernel
theorem d_Mo_additional_5 : decode b_Mo_additional 5 = .ok (.istore_n 3, 1) := by decide +kernel
theorem d_Mo_additional_6 : decode b_Mo_additional 6 = .ok (.iconst 0, 1) := by decide +kernel
theorem d_Mo_additional_7 : decode b_Mo_additional 7 = .ok (.istore 4, 2) := by decide +kernel
theorem d_Mo_additional_9 : decode b_Mo_additional 9 = .ok (.iload 4, 2) := by decide +kernel
theorem d_Mo_additional_11 : decode b_Mo_additional 11 = .ok (.bipush 12, 2) := by decide +kernel
theorem d_Mo_additional_13 : decode b_Mo_additional 13 = .ok (.if_icmp .ge 34, 3) := by decide +kernel
theorem d_Mo_additional_16 : decode b_Mo_additional 16 = .ok (.aload_n 0, 1) := by decide +kernel
theorem d_Mo_additional_17 : decode b_Mo_additional 17 = .ok (.iload_n 1, 1) := by decide +kernel
theorem d_Mo_additional_18 : decode b_Mo_additional 18 = .ok (.bipush 33, 2) := by decide +kernel
theorem d_Mo_additional_20 : decode b_Mo_additional 20 = .ok (.iload 4, 2) := by decide +kernel
theorem d_Mo_additional_22 : decode b_Mo_additional 22 = .ok (.invokevirtual 154, 3) := by decide +kernel
theorem d_Mo_additional_25 : decode b_Mo_additional 25 = .ok (.ifCond .lt 14, 3) := by decide +kernel
theorem d_Mo_additional_28 : decode b_Mo_additional 28 = .ok (.iload_n 3, 1) := by decide +kernel
theorem d_Mo_additional_29 : decode b_Mo_additional 29 = .ok (.iconst 1, 1) := by decide +kernel
theorem d_Mo_additional_30 : decode b_Mo_additional 30 = .ok (.iload 4, 2) := by decide +kernel
theorem d_Mo_additional_32 : decode b_Mo_additional 32 = .ok (.ishl, 1) := by decide +kernel
theorem d_Mo_additional_33 : decode b_Mo_additional 33 = .ok (.iconst (-1), 1) := by decide +kernel
theorem d_Mo_additional_34 : decode b_Mo_additional 34 = .ok (.ixor, 1) := by decide +kernel
theorem d_Mo_additional_35 : decode b_Mo_additional 35 = .ok (.iand, 1) := by decide +kernel
theorem d_Mo_additional_36 : decode b_Mo_additional 36 = .ok (.goto 4, 3) := by decide +kernel
theorem d_Mo_additional_39 : decode b_Mo_additional 39 = .ok (.iload_n 3, 1) := by decide +kernel
theorem d_Mo_additional_40 : decode b_Mo_additional 40 = .ok (.istore_n 3, 1) := by decide +kernel
theorem d_Mo_additional_41 : decode b_Mo_additional 41 = .ok (.iinc 4 1, 3) := by decide +kernel
theorem d_Mo_additional_44 : decode b_Mo_additional 44 = .ok (.goto (-35), 3) := by decide +kernel
theorem d_Mo_additional_47 : decode b_Mo_additional 47 = .ok (.iload_n 3, 1) := by decide +kernel
theorem d_Mo_additional_48 : decode b_Mo_additional 48 = .ok (.ireturn, 1) := by decide +kernel
theorem d_Mo_allMembers_0 : decode b_Mo_allMembers 0 = .ok (.iconst 1, 1) := by decide +kernel
theorem d_Mo_allMembers_1 : decode b_Mo_allMembers 1 = .ok (.istore 4, 2) := by decide +kernel
theorem d_Mo_allMembers_3 : decode b_Mo_allMembers 3 = .ok (.iconst 0, 1) := by decide +kernel
theorem d_Mo_allMembers_4 : decode b_Mo_allMembers 4 = .ok (.istore 5, 2) := by decide +kernel
theorem d_Mo_allMembers_6 : decode b_Mo_allMembers 6 = .ok (.iload 5, 2) := by decide +kernel
theorem d_Mo_allMembers_8 : decode b_Mo_allMembers 8 = .ok (.bipush 12, 2) := by decide +kernel
theorem d_Mo_allMembers_10 : decode b_Mo_allMembers 10 = .ok (.if_icmp .ge 55, 3) := by decide +kernel
theorem d_Mo_allMembers_13 : decode b_Mo_allMembers 13 = .ok (.iload 4, 2) := by decide +kernel
theorem d_Mo_allMembers_15 : decode b_Mo_allMembers 15 = .ok (.ifCond .eq 41, 3) := by decide +kernel
theorem d_Mo_allMembers_18 : decode b_Mo_allMembers 18 = .ok (.iload_n 3, 1) := by decide +kernel
theorem d_Mo_allMembers_19 : decode b_Mo_allMembers 19 = .ok (.iload 5, 2) := by decide +kernel
theorem d_Mo_allMembers_21 : decode b_Mo_allMembers 21 = .ok (.ishr, 1) := by decide +kernel
theorem d_Mo_allMembers_22 : decode b_Mo_allMembers 22 = .ok (.iconst 1, 1) := by decide +kernel
theorem d_Mo_allMembers_23 : decode b_Mo_allMembers 23 = .ok (.iand, 1) := by decide +kernel
theorem d_Mo_allMembers_24 : decode b_Mo_allMembers 24 = .ok (.ifCond .eq 28, 3) := by decide +kernel
theorem d_Mo_allMembers_27 : decode b_Mo_allMembers 27 = .ok (.aload_n 0, 1) := by decide +kernel
theorem d_Mo_allMembers_28 : decode b_Mo_allMembers 28 = .ok (.iload_n 2, 1) := by decide +kernel
theorem d_Mo_allMembers_29 : decode b_Mo_allMembers 29 = .ok (.iload 5, 2) := by decide +kernel
theorem d_Mo_allMembers_31 : decode b_Mo_allMembers 31 = .ok (.invokevirtual 167, 3) := by decide +kernel
theorem d_Mo_allMembers_34 : decode b_Mo_allMembers 34 = .ok (.ifCond .lt 18, 3) := by decide +kernel
theorem d_Mo_allMembers_37 : decode b_Mo_allMembers 37 = .ok (.aload_n 0, 1) := by decide +kernel
theorem d_Mo_allMembers_38 : decode b_Mo_allMembers 38 = .ok (.iload_n 1, 1) := by decide +kernel
theorem d_Mo_allMembers_39 : decode b_Mo_allMembers 39 = .ok (.aload_n 0, 1) := by decide +kernel
theorem d_Mo_allMembers_40 : decode b_Mo_allMembers 40 = .ok (.iload_n 2, 1) := by decide +kernel
theorem d_Mo_allMembers_41 : decode b_Mo_allMembers 41 = .ok (.iload 5, 2) := by decide +kernel
theorem d_Mo_allMembers_43 : decode b_Mo_allMembers 43 = .ok (.invokevirtual 167, 3) := by decide +kernel
theorem d_Mo_allMembers_46 : decode b_Mo_allMembers 46 = .ok (.invokevirtual 193, 3) := by decide +kernel
theorem d_Mo_allMembers_49 : decode b_Mo_allMembers 49 = .ok (.ifCond .eq 7, 3) := by decide +kernel
theorem d_Mo_allMembers_52 : decode b_Mo_allMembers 52 = .ok (.iconst 1, 1) := by decide +kernel
theorem d_Mo_allMembers_53 : decode b_Mo_allMembers 53 = .ok (.goto 4, 3) := by decide +kernel
theorem d_Mo_allMembers_56 : decode b_Mo_allMembers 56 = .ok (.iconst 0, 1) := by decide +kernel
theorem d_Mo_allMembers_57 : decode b_Mo_allMembers 57 = .ok (.istore 4, 2) := by decide +kernel
theorem d_Mo_allMembers_59 : decode b_Mo_allMembers 59 = .ok (.iinc 5 1, 3) := by decide +kernel
theorem d_Mo_allMembers_62 : decode b_Mo_allMembers 62 = .ok (.goto (-56), 3) := by decide +kernel
theorem d_Mo_allMembers_65 : decode b_Mo_allMembers 65 = .ok (.iload 4, 2) := by decide +kernel
theorem d_Mo_allMembers_67 : decode b_Mo_allMembers 67 = .ok (.ireturn, 1) := by decide +kernel
theorem d_Mo_marksOf_0 : decode b_Mo_marksOf 0 = .ok (.iconst 0, 1) := by decide +kernel
theorem d_Mo_marksOf_1 : decode b_Mo_marksOf 1 = .ok (.istore_n 3, 1) := by decide +kernel
theorem d_Mo_marksOf_2 : decode b_Mo_marksOf 2 = .ok (.aload_n 0, 1) := by decide +kernel
theorem d_Mo_marksOf_3 : decode b_Mo_marksOf 3 = .ok (.getfield 7, 3) := by decide +kernel
theorem d_Mo_marksOf_6 : decode b_Mo_marksOf 6 = .ok (.iload_n 2, 1) := by decide +kernel
theorem d_Mo_marksOf_7 : decode b_Mo_marksOf 7 = .ok (.iaload, 1) := by decide +kernel
theorem d_Mo_marksOf_8 : decode b_Mo_marksOf 8 = .ok (.iconst 4, 1) := by decide +kernel
theorem d_Mo_marksOf_9 : decode b_Mo_marksOf 9 = .ok (.if_icmp .ne 16, 3) := by decide +kernel
theorem d_Mo_marksOf_12 : decode b_Mo_marksOf 12 = .ok (.iconst 1, 1) := by decide +kernel
theorem d_Mo_marksOf_13 : decode b_Mo_marksOf 13 = .ok (.aload_n 0, 1) := by decide +kernel
theorem d_Mo_marksOf_14 : decode b_Mo_marksOf 14 = .ok (.getfield 17, 3) := by decide +kernel
theorem d_Mo_marksOf_17 : decode b_Mo_marksOf 17 = .ok (.iload_n 2, 1) := by decide +kernel
theorem d_Mo_marksOf_18 : decode b_Mo_marksOf 18 = .ok (.iaload, 1) := by decide +kernel
theorem d_Mo_marksOf_19 : decode b_Mo_marksOf 19 = .ok (.ishl, 1) := by decide +kernel
theorem d_Mo_marksOf_20 : decode b_Mo_marksOf 20 = .ok (.iconst 1, 1) := by decide +kernel
theorem d_Mo_marksOf_21 : decode b_Mo_marksOf 21 = .ok (.isub, 1) := by decide +kernel
theorem d_Mo_marksOf_22 : decode b_Mo_marksOf 22 = .ok (.goto 8, 3) := by decide +kernel
theorem d_Mo_marksOf_25 : decode b_Mo_marksOf 25 = .ok (.aload_n 0, 1) := by decide +kernel
theorem d_Mo_marksOf_26 : decode b_Mo_marksOf 26 = .ok (.iload_n 2, 1) := by decide +kernel
theorem d_Mo_marksOf_27 : decode b_Mo_marksOf 27 = .ok (.invokevirtual 187, 3) := by decide +kernel
theorem d_Mo_marksOf_30 : decode b_Mo_marksOf 30 = .ok (.istore 4, 2) := by decide +kernel
theorem d_Mo_marksOf_32 : decode b_Mo_marksOf 32 = .ok (.aload_n 0, 1) := by decide +kernel
theorem d_Mo_marksOf_33 : decode b_Mo_marksOf 33 = .ok (.getfield 7, 3) := by decide +kernel
theorem d_Mo_marksOf_36 : decode b_Mo_marksOf 36 = .ok (.iload_n 2, 1) := by decide +kernel
theorem d_Mo_marksOf_37 : decode b_Mo_marksOf 37 = .ok (.iaload, 1) := by decide +kernel
theorem d_Mo_marksOf_38 : decode b_Mo_marksOf 38 = .ok (.iconst 4, 1) := by decide +kernel
theorem d_Mo_marksOf_39 : decode b_Mo_marksOf 39 = .ok (.if_icmp .ne 63, 3) := by decide +kernel
theorem d_Mo_marksOf_42 : decode b_Mo_marksOf 42 = .ok (.iconst 1, 1) := by decide +kernel
theorem d_Mo_marksOf_43 : decode b_Mo_marksOf 43 = .ok (.aload_n 0, 1) := by decide +kernel
theorem d_Mo_marksOf_44 : decode b_Mo_marksOf 44 = .ok (.iload_n 1, 1) := by decide +kernel
theorem d_Mo_marksOf_45 : decode b_Mo_marksOf 45 = .ok (.bipush 32, 2) := by decide +kernel
theorem d_Mo_marksOf_47 : decode b_Mo_marksOf 47 = .ok (.invokevirtual 148, 3) := by decide +kernel
theorem d_Mo_marksOf_50 : decode b_Mo_marksOf 50 = .ok (.ishl, 1) := by decide +kernel
theorem d_Mo_marksOf_51 : decode b_Mo_marksOf 51 = .ok (.iconst 1, 1) := by decide +kernel
theorem d_Mo_marksOf_52 : decode b_Mo_marksOf 52 = .ok (.isub, 1) := by decide +kernel
theorem d_Mo_marksOf_53 : decode b_Mo_marksOf 53 = .ok (.istore 5, 2) := by decide +kernel
theorem d_Mo_marksOf_55 : decode b_Mo_marksOf 55 = .ok (.aload_n 0, 1) := by decide +kernel
theorem d_Mo_marksOf_56 : decode b_Mo_marksOf 56 = .ok (.iload_n 1, 1) := by decide +kernel
theorem d_Mo_marksOf_57 : decode b_Mo_marksOf 57 = .ok (.bipush 22, 2) := by decide +kernel
theorem d_Mo_marksOf_59 : decode b_Mo_marksOf 59 = .ok (.invokevirtual 141, 3) := by decide +kernel
theorem d_Mo_marksOf_62 : decode b_Mo_marksOf 62 = .ok (.ifCond .lt 8, 3) := by decide +kernel
theorem d_Mo_marksOf_65 : decode b_Mo_marksOf 65 = .ok (.iload 4, 2) := by decide +kernel
theorem d_Mo_marksOf_67 : decode b_Mo_marksOf 67 = .ok (.goto 8, 3) := by decide +kernel
theorem d_Mo_marksOf_70 : decode b_Mo_marksOf 70 = .ok (.iload 5, 2) := by decide +kernel
theorem d_Mo_marksOf_72 : decode b_Mo_marksOf 72 = .ok (.iload 4, 2) := by decide +kernel
theorem d_Mo_marksOf_74 : decode b_Mo_marksOf 74 = .ok (.iand, 1) := by decide +kernel
theorem d_Mo_marksOf_75 : decode b_Mo_marksOf 75 = .ok (.istore_n 3, 1) := by decide +kernel
theorem d_Mo_marksOf_76 : decode b_Mo_marksOf 76 = .ok (.aload_n 0, 1) := by decide +kernel
theorem d_Mo_marksOf_77 : decode b_Mo_marksOf 77 = .ok (.iload_n 1, 1) := by decide +kernel
theorem d_Mo_marksOf_78 : decode b_Mo_marksOf 78 = .ok (.bipush 23, 2) := by decide +kernel
theorem d_Mo_marksOf_80 : decode b_Mo_marksOf 80 = .ok (.invokevirtual 141, 3) := by decide +kernel
theorem d_Mo_marksOf_83 : decode b_Mo_marksOf 83 = .ok (.ifCond .lt 14, 3) := by decide +kernel
theorem d_Mo_marksOf_86 : decode b_Mo_marksOf 86 = .ok (.iload_n 3, 1) := by decide +kernel
theorem d_Mo_marksOf_87 : decode b_Mo_marksOf 87 = .ok (.aload_n 0, 1) := by decide +kernel
theorem d_Mo_marksOf_88 : decode b_Mo_marksOf 88 = .ok (.iload_n 1, 1) := by decide +kernel
theorem d_Mo_marksOf_89 : decode b_Mo_marksOf 89 = .ok (.iload_n 2, 1) := by decide +kernel
theorem d_Mo_marksOf_90 : decode b_Mo_marksOf 90 = .ok (.invokevirtual 196, 3) := by decide +kernel
theorem d_Mo_marksOf_93 : decode b_Mo_marksOf 93 = .ok (.ior, 1) := by decide +kernel
theorem d_Mo_marksOf_94 : decode b_Mo_marksOf 94 = .ok (.goto 4, 3) := by decide +kernel
theorem d_Mo_marksOf_97 : decode b_Mo_marksOf 97 = .ok (.iload_n 3, 1) := by decide +kernel
theorem d_Mo_marksOf_98 : decode b_Mo_marksOf 98 = .ok (.istore_n 3, 1) := by decide +kernel
theorem d_Mo_marksOf_99 : decode b_Mo_marksOf 99 = .ok (.goto 40, 3) := by decide +kernel
theorem d_Mo_marksOf_102 : decode b_Mo_marksOf 102 = .ok (.aload_n 0, 1) := by decide +kernel
theorem d_Mo_marksOf_103 : decode b_Mo_marksOf 103 = .ok (.getfield 7, 3) := by decide +kernel
theorem d_Mo_marksOf_106 : decode b_Mo_marksOf 106 = .ok (.iload_n 2, 1) := by decide +kernel
theorem d_Mo_marksOf_107 : decode b_Mo_marksOf 107 = .ok (.iaload, 1) := by decide +kernel
theorem d_Mo_marksOf_108 : decode b_Mo_marksOf 108 = .ok (.iconst 5, 1) := by decide +kernel
theorem d_Mo_marksOf_109 : decode b_Mo_marksOf 109 = .ok (.if_icmp .ne 30, 3) := by decide +kernel
theorem d_Mo_marksOf_112 : decode b_Mo_marksOf 112 = .ok (.aload_n 0, 1) := by decide +kernel
theorem d_Mo_marksOf_113 : decode b_Mo_marksOf 113 = .ok (.iload_n 1, 1) := by decide +kernel
theorem d_Mo_marksOf_114 : decode b_Mo_marksOf 114 = .ok (.bipush 26, 2) := by decide +kernel
theorem d_Mo_marksOf_116 : decode b_Mo_marksOf 116 = .ok (.invokevirtual 141, 3) := by decide +kernel
theorem d_Mo_marksOf_119 : decode b_Mo_marksOf 119 = .ok (.ifCond .lt 8, 3) := by decide +kernel
theorem d_Mo_marksOf_122 : decode b_Mo_marksOf 122 = .ok (.iload 4, 2) := by decide +kernel
theorem d_Mo_marksOf_124 : decode b_Mo_marksOf 124 = .ok (.goto 14, 3) := by decide +kernel
theorem d_Mo_marksOf_127 : decode b_Mo_marksOf 127 = .ok (.iload 4, 2) := by decide +kernel
theorem d_Mo_marksOf_129 : decode b_Mo_marksOf 129 = .ok (.aload_n 0, 1) := by decide +kernel
theorem d_Mo_marksOf_130 : decode b_Mo_marksOf 130 = .ok (.iload_n 1, 1) := by decide +kernel
theorem d_Mo_marksOf_131 : decode b_Mo_marksOf 131 = .ok (.iload_n 2, 1) := by decide +kernel
theorem d_Mo_marksOf_132 : decode b_Mo_marksOf 132 = .ok (.invokevirtual 199, 3) := by decide +kernel
theorem d_Mo_marksOf_135 : decode b_Mo_marksOf 135 = .ok (.iconst (-1), 1) := by decide +kernel
theorem d_Mo_marksOf_136 : decode b_Mo_marksOf 136 = .ok (.ixor, 1) := by decide +kernel
theorem d_Mo_marksOf_137 : decode b_Mo_marksOf 137 = .ok (.iand, 1) := by decide +kernel
theorem d_Mo_marksOf_138 : decode b_Mo_marksOf 138 = .ok (.istore_n 3, 1) := by decide +kernel
theorem d_Mo_marksOf_139 : decode b_Mo_marksOf 139 = .ok (.iload_n 3, 1) := by decide +kernel
theorem d_Mo_marksOf_140 : decode b_Mo_marksOf 140 = .ok (.aload_n 0, 1) := by decide +kernel
theorem d_Mo_marksOf_141 : decode b_Mo_marksOf 141 = .ok (.aload_n 0, 1) := by decide +kernel
theorem d_Mo_marksOf_142 : decode b_Mo_marksOf 142 = .ok (.iload_n 1, 1) := by decide +kernel
theorem d_Mo_marksOf_143 : decode b_Mo_marksOf 143 = .ok (.bipush 18, 2) := by decide +kernel
theorem d_Mo_marksOf_145 : decode b_Mo_marksOf 145 = .ok (.invokevirtual 141, 3) := by decide +kernel
theorem d_Mo_marksOf_148 : decode b_Mo_marksOf 148 = .ok (.iload_n 2, 1) := by decide +kernel
theorem d_Mo_marksOf_149 : decode b_Mo_marksOf 149 = .ok (.invokevirtual 202, 3) := by decide +kernel
theorem d_Mo_marksOf_152 : decode b_Mo_marksOf 152 = .ok (.ior, 1) := by decide +kernel
theorem d_Mo_marksOf_153 : decode b_Mo_marksOf 153 = .ok (.aload_n 0, 1) := by decide +kernel
theorem d_Mo_marksOf_154 : decode b_Mo_marksOf 154 = .ok (.aload_n 0, 1) := by decide +kernel
theorem d_Mo_marksOf_155 : decode b_Mo_marksOf 155 = .ok (.iload_n 1, 1) := by decide +kernel
theorem d_Mo_marksOf_156 : decode b_Mo_marksOf 156 = .ok (.bipush 21, 2) := by decide +kernel
theorem d_Mo_marksOf_158 : decode b_Mo_marksOf 158 = .ok (.invokevirtual 141, 3) := by decide +kernel
theorem d_Mo_marksOf_161 : decode b_Mo_marksOf 161 = .ok (.iload_n 2, 1) := by decide +kernel
theorem d_Mo_marksOf_162 : decode b_Mo_marksOf 162 = .ok (.invokevirtual 202, 3) := by decide +kernel
theorem d_Mo_marksOf_165 : decode b_Mo_marksOf 165 = .ok (.ior, 1) := by decide +kernel
theorem d_Mo_marksOf_166 : decode b_Mo_marksOf 166 = .ok (.istore_n 3, 1) := by decide +kernel
theorem d_Mo_marksOf_167 : decode b_Mo_marksOf 167 = .ok (.aload_n 0, 1) := by decide +kernel
theorem d_Mo_marksOf_168 : decode b_Mo_marksOf 168 = .ok (.iload_n 1, 1) := by decide +kernel
theorem d_Mo_marksOf_169 : decode b_Mo_marksOf 169 = .ok (.iload_n 2, 1) := by decide +kernel
theorem d_Mo_marksOf_170 : decode b_Mo_marksOf 170 = .ok (.bipush 19, 2) := by decide +kernel
theorem d_Mo_marksOf_172 : decode b_Mo_marksOf 172 = .ok (.invokevirtual 205, 3) := by decide +kernel
theorem d_Mo_marksOf_175 : decode b_Mo_marksOf 175 = .ok (.ifCond .eq 20, 3) := by decide +kernel
theorem d_Mo_marksOf_178 : decode b_Mo_marksOf 178 = .ok (.iload_n 3, 1) := by decide +kernel
theorem d_Mo_marksOf_179 : decode b_Mo_marksOf 179 = .ok (.aload_n 0, 1) := by decide +kernel
theorem d_Mo_marksOf_180 : decode b_Mo_marksOf 180 = .ok (.aload_n 0, 1) := by decide +kernel
theorem d_Mo_marksOf_181 : decode b_Mo_marksOf 181 = .ok (.iload_n 1, 1) := by decide +kernel
theorem d_Mo_marksOf_182 : decode b_Mo_marksOf 182 = .ok (.bipush 19, 2) := by decide +kernel
theorem d_Mo_marksOf_184 : decode b_Mo_marksOf 184 = .ok (.invokevirtual 141, 3) := by decide +kernel
theorem d_Mo_marksOf_187 : decode b_Mo_marksOf 187 = .ok (.iload_n 2, 1) := by decide +kernel
theorem d_Mo_marksOf_188 : decode b_Mo_marksOf 188 = .ok (.invokevirtual 202, 3) := by decide +kernel
theorem d_Mo_marksOf_191 : decode b_Mo_marksOf 191 = .ok (.ior, 1) := by decide +kernel
theorem d_Mo_marksOf_192 : decode b_Mo_marksOf 192 = .ok (.goto 32, 3) := by decide +kernel
theorem d_Mo_marksOf_195 : decode b_Mo_marksOf 195 = .ok (.aload_n 0, 1) := by decide +kernel
theorem d_Mo_marksOf_196 : decode b_Mo_marksOf 196 = .ok (.iload_n 1, 1) := by decide +kernel
theorem d_Mo_marksOf_197 : decode b_Mo_marksOf 197 = .ok (.iload_n 2, 1) := by decide +kernel
theorem d_Mo_marksOf_198 : decode b_Mo_marksOf 198 = .ok (.bipush 20, 2) := by decide +kernel
theorem d_Mo_marksOf_200 : decode b_Mo_marksOf 200 = .ok (.invokevirtual 205, 3) := by decide +kernel
theorem d_Mo_marksOf_203 : decode b_Mo_marksOf 203 = .ok (.ifCond .eq 20, 3) := by decide +kernel
theorem d_Mo_marksOf_206 : decode b_Mo_marksOf 206 = .ok (.iload_n 3, 1) := by decide +kernel
theorem d_Mo_marksOf_207 : decode b_Mo_marksOf 207 = .ok (.aload_n 0, 1) := by decide +kernel
theorem d_Mo_marksOf_208 : decode b_Mo_marksOf 208 = .ok (.aload_n 0, 1) := by decide +kernel
theorem d_Mo_marksOf_209 : decode b_Mo_marksOf 209 = .ok (.iload_n 1, 1) := by decide +kernel
theorem d_Mo_marksOf_210 : decode b_Mo_marksOf 210 = .ok (.bipush 20, 2) := by decide +kernel
theorem d_Mo_marksOf_212 : decode b_Mo_marksOf 212 = .ok (.invokevirtual 141, 3) := by decide +kernel
theorem d_Mo_marksOf_215 : decode b_Mo_marksOf 215 = .ok (.iload_n 2, 1) := by decide +kernel
theorem d_Mo_marksOf_216 : decode b_Mo_marksOf 216 = .ok (.invokevirtual 202, 3) := by decide +kernel
theorem d_Mo_marksOf_219 : decode b_Mo_marksOf 219 = .ok (.ior, 1) := by decide +kernel
theorem d_Mo_marksOf_220 : decode b_Mo_marksOf 220 = .ok (.goto 4, 3) := by decide +kernel
theorem d_Mo_marksOf_223 : decode b_Mo_marksOf 223 = .ok (.iload_n 3, 1) := by decide +kernel
theorem d_Mo_marksOf_224 : decode b_Mo_marksOf 224 = .ok (.istore_n 3, 1) := by decide +kernel
theorem d_Mo_marksOf_225 : decode b_Mo_marksOf 225 = .ok (.bipush 29, 2) := by decide +kernel
theorem d_Mo_marksOf_227 : decode b_Mo_marksOf 227 = .ok (.istore 5, 2) := by decide +kernel
theorem d_Mo_marksOf_229 : decode b_Mo_marksOf 229 = .ok (.iload 5, 2) := by decide +kernel
theorem d_Mo_marksOf_231 : decode b_Mo_marksOf 231 = .ok (.bipush 32, 2) := by decide +kernel
theorem d_Mo_marksOf_233 : decode b_Mo_marksOf 233 = .ok (.if_icmp .ge 47, 3) := by decide +kernel
theorem d_Mo_marksOf_236 : decode b_Mo_marksOf 236 = .ok (.iconst 0, 1) := by decide +kernel
theorem d_Mo_marksOf_237 : decode b_Mo_marksOf 237 = .ok (.istore 6, 2) := by decide +kernel
theorem d_Mo_marksOf_239 : decode b_Mo_marksOf 239 = .ok (.iload 6, 2) := by decide +kernel
theorem d_Mo_marksOf_241 : decode b_Mo_marksOf 241 = .ok (.aload_n 0, 1) := by decide +kernel
theorem d_Mo_marksOf_242 : decode b_Mo_marksOf 242 = .ok (.iload_n 1, 1) := by decide +kernel
theorem d_Mo_marksOf_243 : decode b_Mo_marksOf 243 = .ok (.iload 5, 2) := by decide +kernel
theorem d_Mo_marksOf_245 : decode b_Mo_marksOf 245 = .ok (.invokevirtual 148, 3) := by decide +kernel
theorem d_Mo_marksOf_248 : decode b_Mo_marksOf 248 = .ok (.if_icmp .ge 26, 3) := by decide +kernel
theorem d_Mo_marksOf_251 : decode b_Mo_marksOf 251 = .ok (.iload_n 3, 1) := by decide +kernel
theorem d_Mo_marksOf_252 : decode b_Mo_marksOf 252 = .ok (.aload_n 0, 1) := by decide +kernel
theorem d_Mo_marksOf_253 : decode b_Mo_marksOf 253 = .ok (.aload_n 0, 1) := by decide +kernel
theorem d_Mo_marksOf_254 : decode b_Mo_marksOf 254 = .ok (.iload_n 1, 1) := by decide +kernel
theorem d_Mo_marksOf_255 : decode b_Mo_marksOf 255 = .ok (.iload 5, 2) := by decide +kernel
theorem d_Mo_marksOf_257 : decode b_Mo_marksOf 257 = .ok (.iload 6, 2) := by decide +kernel
theorem d_Mo_marksOf_259 : decode b_Mo_marksOf 259 = .ok (.invokevirtual 151, 3) := by decide +kernel
theorem d_Mo_marksOf_262 : decode b_Mo_marksOf 262 = .ok (.iload_n 2, 1) := by decide +kernel
theorem d_Mo_marksOf_263 : decode b_Mo_marksOf 263 = .ok (.invokevirtual 202, 3) := by decide +kernel
theorem d_Mo_marksOf_266 : decode b_Mo_marksOf 266 = .ok (.ior, 1) := by decide +kernel
theorem d_Mo_marksOf_267 : decode b_Mo_marksOf 267 = .ok (.istore_n 3, 1) := by decide +kernel
theorem d_Mo_marksOf_268 : decode b_Mo_marksOf 268 = .ok (.iinc 6 1, 3) := by decide +kernel
theorem d_Mo_marksOf_271 : decode b_Mo_marksOf 271 = .ok (.goto (-32), 3) := by decide +kernel
theorem d_Mo_marksOf_274 : decode b_Mo_marksOf 274 = .ok (.iinc 5 1, 3) := by decide +kernel
theorem d_Mo_marksOf_277 : decode b_Mo_marksOf 277 = .ok (.goto (-48), 3) := by decide +kernel
theorem d_Mo_marksOf_280 : decode b_Mo_marksOf 280 = .ok (.iconst 0, 1) := by decide +kernel
theorem d_Mo_marksOf_281 : decode b_Mo_marksOf 281 = .ok (.istore 5, 2) := by decide +kernel
theorem d_Mo_marksOf_283 : decode b_Mo_marksOf 283 = .ok (.iload 5, 2) := by decide +kernel
theorem d_Mo_marksOf_285 : decode b_Mo_marksOf 285 = .ok (.bipush 12, 2) := by decide +kernel
theorem d_Mo_marksOf_287 : decode b_Mo_marksOf 287 = .ok (.if_icmp .ge 40, 3) := by decide +kernel
theorem d_Mo_marksOf_290 : decode b_Mo_marksOf 290 = .ok (.aload_n 0, 1) := by decide +kernel
theorem d_Mo_marksOf_291 : decode b_Mo_marksOf 291 = .ok (.iload_n 2, 1) := by decide +kernel
theorem d_Mo_marksOf_292 : decode b_Mo_marksOf 292 = .ok (.iload 5, 2) := by decide +kernel
theorem d_Mo_marksOf_294 : decode b_Mo_marksOf 294 = .ok (.invokevirtual 167, 3) := by decide +kernel
theorem d_Mo_marksOf_297 : decode b_Mo_marksOf 297 = .ok (.ifCond .lt 22, 3) := by decide +kernel
theorem d_Mo_marksOf_300 : decode b_Mo_marksOf 300 = .ok (.iload_n 3, 1) := by decide +kernel
theorem d_Mo_marksOf_301 : decode b_Mo_marksOf 301 = .ok (.aload_n 0, 1) := by decide +kernel
theorem d_Mo_marksOf_302 : decode b_Mo_marksOf 302 = .ok (.aload_n 0, 1) := by decide +kernel
theorem d_Mo_marksOf_303 : decode b_Mo_marksOf 303 = .ok (.iload_n 1, 1) := by decide +kernel
theorem d_Mo_marksOf_304 : decode b_Mo_marksOf 304 = .ok (.bipush 34, 2) := by decide +kernel
theorem d_Mo_marksOf_306 : decode b_Mo_marksOf 306 = .ok (.iload 5, 2) := by decide +kernel
theorem d_Mo_marksOf_308 : decode b_Mo_marksOf 308 = .ok (.invokevirtual 154, 3) := by decide +kernel
theorem d_Mo_marksOf_311 : decode b_Mo_marksOf 311 = .ok (.iload_n 2, 1) := by decide +kernel
theorem d_Mo_marksOf_312 : decode b_Mo_marksOf 312 = .ok (.invokevirtual 202, 3) := by decide +kernel
theorem d_Mo_marksOf_315 : decode b_Mo_marksOf 315 = .ok (.ior, 1) := by decide +kernel
theorem d_Mo_marksOf_316 : decode b_Mo_marksOf 316 = .ok (.goto 4, 3) := by decide +kernel
theorem d_Mo_marksOf_319 : decode b_Mo_marksOf 319 = .ok (.iload_n 3, 1) := by decide +kernel
theorem d_Mo_marksOf_320 : decode b_Mo_marksOf 320 = .ok (.istore_n 3, 1) := by decide +kernel
theorem d_Mo_marksOf_321 : decode b_Mo_marksOf 321 = .ok (.iinc 5 1, 3) := by decide +kernel
theorem d_Mo_marksOf_324 : decode b_Mo_marksOf 324 = .ok (.goto (-41), 3) := by decide +kernel
theorem d_Mo_marksOf_327 : decode b_Mo_marksOf 327 = .ok (.iload_n 3, 1) := by decide +kernel
theorem d_Mo_marksOf_328 : decode b_Mo_marksOf 328 = .ok (.ireturn, 1) := by decide +kernel
theorem d_Mo_marksBy_0 : decode b_Mo_marksBy 0 = .ok (.iload_n 1, 1) := by decide +kernel
theorem d_Mo_marksBy_1 : decode b_Mo_marksBy 1 = .ok (.ifCond .lt 26, 3) := by decide +kernel
theorem d_Mo_marksBy_4 : decode b_Mo_marksBy 4 = .ok (.aload_n 0, 1) := by decide +kernel
theorem d_Mo_marksBy_5 : decode b_Mo_marksBy 5 = .ok (.iload_n 1, 1) := by decide +kernel
theorem d_Mo_marksBy_6 : decode b_Mo_marksBy 6 = .ok (.iload_n 2, 1) := by decide +kernel
theorem d_Mo_marksBy_7 : decode b_Mo_marksBy 7 = .ok (.invokevirtual 193, 3) := by decide +kernel
theorem d_Mo_marksBy_10 : decode b_Mo_marksBy 10 = .ok (.ifCond .eq 17, 3) := by decide +kernel
theorem d_Mo_marksBy_13 : decode b_Mo_marksBy 13 = .ok (.aload_n 0, 1) := by decide +kernel
theorem d_Mo_marksBy_14 : decode b_Mo_marksBy 14 = .ok (.getfield 60, 3) := by decide +kernel
theorem d_Mo_marksBy_17 : decode b_Mo_marksBy 17 = .ok (.bipush 40, 2) := by decide +kernel
theorem d_Mo_marksBy_19 : decode b_Mo_marksBy 19 = .ok (.iload_n 1, 1) := by decide +kernel
theorem d_Mo_marksBy_20 : decode b_Mo_marksBy 20 = .ok (.imul, 1) := by decide +kernel
theorem d_Mo_marksBy_21 : decode b_Mo_marksBy 21 = .ok (.iload_n 2, 1) := by decide +kernel
theorem d_Mo_marksBy_22 : decode b_Mo_marksBy 22 = .ok (.iadd, 1) := by decide +kernel
theorem d_Mo_marksBy_23 : decode b_Mo_marksBy 23 = .ok (.iaload, 1) := by decide +kernel
theorem d_Mo_marksBy_24 : decode b_Mo_marksBy 24 = .ok (.goto 4, 3) := by decide +kernel
theorem d_Mo_marksBy_27 : decode b_Mo_marksBy 27 = .ok (.iconst 0, 1) := by decide +kernel
theorem d_Mo_marksBy_28 : decode b_Mo_marksBy 28 = .ok (.ireturn, 1) := by decide +kernel
theorem d_Mo_askFrom_0 : decode b_Mo_askFrom 0 = .ok (.iconst 0, 1) := by decide +kernel
theorem d_Mo_askFrom_1 : decode b_Mo_askFrom 1 = .ok (.istore_n 2, 1) := by decide +kernel
theorem d_Mo_askFrom_2 : decode b_Mo_askFrom 2 = .ok (.iload_n 1, 1) := by decide +kernel
theorem d_Mo_askFrom_3 : decode b_Mo_askFrom 3 = .ok (.istore_n 3, 1) := by decide +kernel
theorem d_Mo_askFrom_4 : decode b_Mo_askFrom 4 = .ok (.iload_n 3, 1) := by decide +kernel
theorem d_Mo_askFrom_5 : decode b_Mo_askFrom 5 = .ok (.ifCond .lt 120, 3) := by decide +kernel
theorem d_Mo_askFrom_8 : decode b_Mo_askFrom 8 = .ok (.iconst 0, 1) := by decide +kernel
theorem d_Mo_askFrom_9 : decode b_Mo_askFrom 9 = .ok (.istore 4, 2) := by decide +kernel
theorem d_Mo_askFrom_11 : decode b_Mo_askFrom 11 = .ok (.iload 4, 2) := by decide +kernel
theorem d_Mo_askFrom_13 : decode b_Mo_askFrom 13 = .ok (.bipush 27, 2) := by decide +kernel
theorem d_Mo_askFrom_15 : decode b_Mo_askFrom 15 = .ok (.if_icmp .ge 104, 3) := by decide +kernel
theorem d_Mo_askFrom_18 : decode b_Mo_askFrom 18 = .ok (.iconst 0, 1) := by decide +kernel
theorem d_Mo_askFrom_19 : decode b_Mo_askFrom 19 = .ok (.istore 5, 2) := by decide +kernel
theorem d_Mo_askFrom_21 : decode b_Mo_askFrom 21 = .ok (.iload 5, 2) := by decide +kernel
theorem d_Mo_askFrom_23 : decode b_Mo_askFrom 23 = .ok (.aload_n 0, 1) := by decide +kernel
theorem d_Mo_askFrom_24 : decode b_Mo_askFrom 24 = .ok (.getfield 128, 3) := by decide +kernel
theorem d_Mo_askFrom_27 : decode b_Mo_askFrom 27 = .ok (.if_icmp .ge 86, 3) := by decide +kernel
theorem d_Mo_askFrom_30 : decode b_Mo_askFrom 30 = .ok (.aload_n 0, 1) := by decide +kernel
theorem d_Mo_askFrom_31 : decode b_Mo_askFrom 31 = .ok (.getfield 66, 3) := by decide +kernel
theorem d_Mo_askFrom_34 : decode b_Mo_askFrom 34 = .ok (.iload 5, 2) := by decide +kernel
theorem d_Mo_askFrom_36 : decode b_Mo_askFrom 36 = .ok (.baload, 1) := by decide +kernel
theorem d_Mo_askFrom_37 : decode b_Mo_askFrom 37 = .ok (.ifCond .eq 70, 3) := by decide +kernel
theorem d_Mo_askFrom_40 : decode b_Mo_askFrom 40 = .ok (.aload_n 0, 1) := by decide +kernel
theorem d_Mo_askFrom_41 : decode b_Mo_askFrom 41 = .ok (.getfield 69, 3) := by decide +kernel
theorem d_Mo_askFrom_44 : decode b_Mo_askFrom 44 = .ok (.iload 5, 2) := by decide +kernel
theorem d_Mo_askFrom_46 : decode b_Mo_askFrom 46 = .ok (.iaload, 1) := by decide +kernel
theorem d_Mo_askFrom_47 : decode b_Mo_askFrom 47 = .ok (.iload 4, 2) := by decide +kernel
theorem d_Mo_askFrom_49 : decode b_Mo_askFrom 49 = .ok (.if_icmp .ne 58, 3) := by decide +kernel
theorem d_Mo_askFrom_52 : decode b_Mo_askFrom 52 = .ok (.aload_n 0, 1) := by decide +kernel
theorem d_Mo_askFrom_53 : decode b_Mo_askFrom 53 = .ok (.getfield 63, 3) := by decide +kernel
theorem d_Mo_askFrom_56 : decode b_Mo_askFrom 56 = .ok (.bipush 40, 2) := by decide +kernel
theorem d_Mo_askFrom_58 : decode b_Mo_askFrom 58 = .ok (.iload 5, 2) := by decide +kernel
theorem d_Mo_askFrom_60 : decode b_Mo_askFrom 60 = .ok (.imul, 1) := by decide +kernel
theorem d_Mo_askFrom_61 : decode b_Mo_askFrom 61 = .ok (.iload_n 3, 1) := by decide +kernel
theorem d_Mo_askFrom_62 : decode b_Mo_askFrom 62 = .ok (.iadd, 1) := by decide +kernel
theorem d_Mo_askFrom_63 : decode b_Mo_askFrom 63 = .ok (.iaload, 1) := by decide +kernel
theorem d_Mo_askFrom_64 : decode b_Mo_askFrom 64 = .ok (.ifCond .le 43, 3) := by decide +kernel
theorem d_Mo_askFrom_67 : decode b_Mo_askFrom 67 = .ok (.aload_n 0, 1) := by decide +kernel
theorem d_Mo_askFrom_68 : decode b_Mo_askFrom 68 = .ok (.getfield 63, 3) := by decide +kernel
theorem d_Mo_askFrom_71 : decode b_Mo_askFrom 71 = .ok (.bipush 40, 2) := by decide +kernel
theorem d_Mo_askFrom_73 : decode b_Mo_askFrom 73 = .ok (.iload 5, 2) := by decide +kernel
theorem d_Mo_askFrom_75 : decode b_Mo_askFrom 75 = .ok (.imul, 1) := by decide +kernel
theorem d_Mo_askFrom_76 : decode b_Mo_askFrom 76 = .ok (.iload_n 3, 1) := by decide +kernel
theorem d_Mo_askFrom_77 : decode b_Mo_askFrom 77 = .ok (.iadd, 1) := by decide +kernel
theorem d_Mo_askFrom_78 : decode b_Mo_askFrom 78 = .ok (.iaload, 1) := by decide +kernel
theorem d_Mo_askFrom_79 : decode b_Mo_askFrom 79 = .ok (.iload_n 2, 1) := by decide +kernel
theorem d_Mo_askFrom_80 : decode b_Mo_askFrom 80 = .ok (.if_icmp .le 18, 3) := by decide +kernel
theorem d_Mo_askFrom_83 : decode b_Mo_askFrom 83 = .ok (.aload_n 0, 1) := by decide +kernel
theorem d_Mo_askFrom_84 : decode b_Mo_askFrom 84 = .ok (.getfield 63, 3) := by decide +kernel
theorem d_Mo_askFrom_87 : decode b_Mo_askFrom 87 = .ok (.bipush 40, 2) := by decide +kernel
theorem d_Mo_askFrom_89 : decode b_Mo_askFrom 89 = .ok (.iload 5, 2) := by decide +kernel
theorem d_Mo_askFrom_91 : decode b_Mo_askFrom 91 = .ok (.imul, 1) := by decide +kernel
theorem d_Mo_askFrom_92 : decode b_Mo_askFrom 92 = .ok (.iload_n 3, 1) := by decide +kernel
theorem d_Mo_askFrom_93 : decode b_Mo_askFrom 93 = .ok (.iadd, 1) := by decide +kernel
theorem d_Mo_askFrom_94 : decode b_Mo_askFrom 94 = .ok (.iaload, 1) := by decide +kernel
theorem d_Mo_askFrom_95 : decode b_Mo_askFrom 95 = .ok (.goto 4, 3) := by decide +kernel
theorem d_Mo_askFrom_98 : decode b_Mo_askFrom 98 = .ok (.iload_n 2, 1) := by decide +kernel
theorem d_Mo_askFrom_99 : decode b_Mo_askFrom 99 = .ok (.istore_n 2, 1) := by decide +kernel
theorem d_Mo_askFrom_100 : decode b_Mo_askFrom 100 = .ok (.aload_n 0, 1) := by decide +kernel
theorem d_Mo_askFrom_101 : decode b_Mo_askFrom 101 = .ok (.iload 5, 2) := by decide +kernel
theorem d_Mo_askFrom_103 : decode b_Mo_askFrom 103 = .ok (.iload_n 3, 1) := by decide +kernel
theorem d_Mo_askFrom_104 : decode b_Mo_askFrom 104 = .ok (.invokevirtual 251, 3) := by decide +kernel
theorem d_Mo_askFrom_107 : decode b_Mo_askFrom 107 = .ok (.iinc 5 1, 3) := by decide +kernel
theorem d_Mo_askFrom_110 : decode b_Mo_askFrom 110 = .ok (.goto (-89), 3) := by decide +kernel
theorem d_Mo_askFrom_113 : decode b_Mo_askFrom 113 = .ok (.iinc 4 1, 3) := by decide +kernel
theorem d_Mo_askFrom_116 : decode b_Mo_askFrom 116 = .ok (.goto (-105), 3) := by decide +kernel
theorem d_Mo_askFrom_119 : decode b_Mo_askFrom 119 = .ok (.iinc 3 (-1), 3) := by decide +kernel
theorem d_Mo_askFrom_122 : decode b_Mo_askFrom 122 = .ok (.goto (-118), 3) := by decide +kernel
theorem d_Mo_askFrom_125 : decode b_Mo_askFrom 125 = .ok (.iload_n 2, 1) := by decide +kernel
theorem d_Mo_askFrom_126 : decode b_Mo_askFrom 126 = .ok (.ireturn, 1) := by decide +kernel
theorem d_Mo_askAll_0 : decode b_Mo_askAll 0 = .ok (.aload_n 0, 1) := by decide +kernel
theorem d_Mo_askAll_1 : decode b_Mo_askAll 1 = .ok (.getfield 63, 3) := by decide +kernel
theorem d_Mo_askAll_4 : decode b_Mo_askAll 4 = .ok (.bipush 40, 2) := by decide +kernel
theorem d_Mo_askAll_6 : decode b_Mo_askAll 6 = .ok (.iload_n 1, 1) := by decide +kernel
theorem d_Mo_askAll_7 : decode b_Mo_askAll 7 = .ok (.imul, 1) := by decide +kernel
theorem d_Mo_askAll_8 : decode b_Mo_askAll 8 = .ok (.iload_n 2, 1) := by decide +kernel
theorem d_Mo_askAll_9 : decode b_Mo_askAll 9 = .ok (.iadd, 1) := by decide +kernel
theorem d_Mo_askAll_10 : decode b_Mo_askAll 10 = .ok (.iaload, 1) := by decide +kernel
theorem d_Mo_askAll_11 : decode b_Mo_askAll 11 = .ok (.istore_n 3, 1) := by decide +kernel
theorem d_Mo_askAll_12 : decode b_Mo_askAll 12 = .ok (.aload_n 0, 1) := by decide +kernel
theorem d_Mo_askAll_13 : decode b_Mo_askAll 13 = .ok (.aload_n 0, 1) := by decide +kernel
theorem d_Mo_askAll_14 : decode b_Mo_askAll 14 = .ok (.iload_n 1, 1) := by decide +kernel
theorem d_Mo_askAll_15 : decode b_Mo_askAll 15 = .ok (.bipush 17, 2) := by decide +kernel
theorem d_Mo_askAll_17 : decode b_Mo_askAll 17 = .ok (.invokevirtual 141, 3) := by decide +kernel
theorem d_Mo_askAll_20 : decode b_Mo_askAll 20 = .ok (.iload_n 2, 1) := by decide +kernel
theorem d_Mo_askAll_21 : decode b_Mo_askAll 21 = .ok (.iload_n 3, 1) := by decide +kernel
theorem d_Mo_askAll_22 : decode b_Mo_askAll 22 = .ok (.invokevirtual 234, 3) := by decide +kernel
theorem d_Mo_askAll_25 : decode b_Mo_askAll 25 = .ok (.aload_n 0, 1) := by decide +kernel
theorem d_Mo_askAll_26 : decode b_Mo_askAll 26 = .ok (.aload_n 0, 1) := by decide +kernel
theorem d_Mo_askAll_27 : decode b_Mo_askAll 27 = .ok (.iload_n 1, 1) := by decide +kernel
theorem d_Mo_askAll_28 : decode b_Mo_askAll 28 = .ok (.bipush 18, 2) := by decide +kernel
theorem d_Mo_askAll_30 : decode b_Mo_askAll 30 = .ok (.invokevirtual 141, 3) := by decide +kernel
theorem d_Mo_askAll_33 : decode b_Mo_askAll 33 = .ok (.iload_n 2, 1) := by decide +kernel
theorem d_Mo_askAll_34 : decode b_Mo_askAll 34 = .ok (.iload_n 3, 1) := by decide +kernel
theorem d_Mo_askAll_35 : decode b_Mo_askAll 35 = .ok (.invokevirtual 234, 3) := by decide +kernel
theorem d_Mo_askAll_38 : decode b_Mo_askAll 38 = .ok (.aload_n 0, 1) := by decide +kernel
theorem d_Mo_askAll_39 : decode b_Mo_askAll 39 = .ok (.aload_n 0, 1) := by decide +kernel
theorem d_Mo_askAll_40 : decode b_Mo_askAll 40 = .ok (.iload_n 1, 1) := by decide +kernel
theorem d_Mo_askAll_41 : decode b_Mo_askAll 41 = .ok (.iload_n 2, 1) := by decide +kernel
theorem d_Mo_askAll_42 : decode b_Mo_askAll 42 = .ok (.bipush 19, 2) := by decide +kernel
theorem d_Mo_askAll_44 : decode b_Mo_askAll 44 = .ok (.invokevirtual 205, 3) := by decide +kernel
theorem d_Mo_askAll_47 : decode b_Mo_askAll 47 = .ok (.ifCond .eq 13, 3) := by decide +kernel
theorem d_Mo_askAll_50 : decode b_Mo_askAll 50 = .ok (.aload_n 0, 1) := by decide +kernel
theorem d_Mo_askAll_51 : decode b_Mo_askAll 51 = .ok (.iload_n 1, 1) := by decide +kernel
theorem d_Mo_askAll_52 : decode b_Mo_askAll 52 = .ok (.bipush 19, 2) := by decide +kernel
theorem d_Mo_askAll_54 : decode b_Mo_askAll 54 = .ok (.invokevirtual 141, 3) := by decide +kernel
theorem d_Mo_askAll_57 : decode b_Mo_askAll 57 = .ok (.goto 4, 3) := by decide +kernel
theorem d_Mo_askAll_60 : decode b_Mo_askAll 60 = .ok (.iconst (-1), 1) := by decide +kernel
theorem d_Mo_askAll_61 : decode b_Mo_askAll 61 = .ok (.iload_n 2, 1) := by decide +kernel
theorem d_Mo_askAll_62 : decode b_Mo_askAll 62 = .ok (.iload_n 3, 1) := by decide +kernel
theorem d_Mo_askAll_63 : decode b_Mo_askAll 63 = .ok (.invokevirtual 234, 3) := by decide +kernel
theorem d_Mo_askAll_66 : decode b_Mo_askAll 66 = .ok (.aload_n 0, 1) := by decide +kernel
theorem d_Mo_askAll_67 : decode b_Mo_askAll 67 = .ok (.aload_n 0, 1) := by decide +kernel
theorem d_Mo_askAll_68 : decode b_Mo_askAll 68 = .ok (.iload_n 1, 1) := by decide +kernel
theorem d_Mo_askAll_69 : decode b_Mo_askAll 69 = .ok (.iload_n 2, 1) := by decide +kernel
theorem d_Mo_askAll_70 : decode b_Mo_askAll 70 = .ok (.bipush 20, 2) := by decide +kernel
theorem d_Mo_askAll_72 : decode b_Mo_askAll 72 = .ok (.invokevirtual 205, 3) := by decide +kernel
theorem d_Mo_askAll_75 : decode b_Mo_askAll 75 = .ok (.ifCond .eq 13, 3) := by decide +kernel
theorem d_Mo_askAll_78 : decode b_Mo_askAll 78 = .ok (.aload_n 0, 1) := by decide +kernel
theorem d_Mo_askAll_79 : decode b_Mo_askAll 79 = .ok (.iload_n 1, 1) := by decide +kernel
theorem d_Mo_askAll_80 : decode b_Mo_askAll 80 = .ok (.bipush 20, 2) := by decide +kernel
theorem d_Mo_askAll_82 : decode b_Mo_askAll 82 = .ok (.invokevirtual 141, 3) := by decide +kernel
theorem d_Mo_askAll_85 : decode b_Mo_askAll 85 = .ok (.goto 4, 3) := by decide +kernel
theorem d_Mo_askAll_88 : decode b_Mo_askAll 88 = .ok (.iconst (-1), 1) := by decide +kernel
theorem d_Mo_askAll_89 : decode b_Mo_askAll 89 = .ok (.iload_n 2, 1) := by decide +kernel
theorem d_Mo_askAll_90 : decode b_Mo_askAll 90 = .ok (.iload_n 3, 1) := by decide +kernel
theorem d_Mo_askAll_91 : decode b_Mo_askAll 91 = .ok (.invokevirtual 234, 3) := by decide +kernel
theorem d_Mo_askAll_94 : decode b_Mo_askAll 94 = .ok (.aload_n 0, 1) := by decide +kernel
theorem d_Mo_askAll_95 : decode b_Mo_askAll 95 = .ok (.aload_n 0, 1) := by decide +kernel
theorem d_Mo_askAll_96 : decode b_Mo_askAll 96 = .ok (.iload_n 1, 1) := by decide +kernel
theorem d_Mo_askAll_97 : decode b_Mo_askAll 97 = .ok (.bipush 21, 2) := by decide +kernel
theorem d_Mo_askAll_99 : decode b_Mo_askAll 99 = .ok (.invokevirtual 141, 3) := by decide +kernel
theorem d_Mo_askAll_102 : decode b_Mo_askAll 102 = .ok (.iload_n 2, 1) := by decide +kernel
theorem d_Mo_askAll_103 : decode b_Mo_askAll 103 = .ok (.iload_n 3, 1) := by decide +kernel
theorem d_Mo_askAll_104 : decode b_Mo_askAll 104 = .ok (.invokevirtual 234, 3) := by decide +kernel
theorem d_Mo_askAll_107 : decode b_Mo_askAll 107 = .ok (.aload_n 0, 1) := by decide +kernel
theorem d_Mo_askAll_108 : decode b_Mo_askAll 108 = .ok (.aload_n 0, 1) := by decide +kernel
theorem d_Mo_askAll_109 : decode b_Mo_askAll 109 = .ok (.iload_n 1, 1) := by decide +kernel
theorem d_Mo_askAll_110 : decode b_Mo_askAll 110 = .ok (.bipush 22, 2) := by decide +kernel
theorem d_Mo_askAll_112 : decode b_Mo_askAll 112 = .ok (.invokevirtual 141, 3) := by decide +kernel
theorem d_Mo_askAll_115 : decode b_Mo_askAll 115 = .ok (.iload_n 2, 1) := by decide +kernel
theorem d_Mo_askAll_116 : decode b_Mo_askAll 116 = .ok (.iconst (-1), 1) := by decide +kernel
theorem d_Mo_askAll_117 : decode b_Mo_askAll 117 = .ok (.aload_n 0, 1) := by decide +kernel
theorem d_Mo_askAll_118 : decode b_Mo_askAll 118 = .ok (.iload_n 1, 1) := by decide +kernel
theorem d_Mo_askAll_119 : decode b_Mo_askAll 119 = .ok (.bipush 32, 2) := by decide +kernel
theorem d_Mo_askAll_121 : decode b_Mo_askAll 121 = .ok (.invokevirtual 148, 3) := by decide +kernel
theorem d_Mo_askAll_124 : decode b_Mo_askAll 124 = .ok (.ishl, 1) := by decide +kernel
theorem d_Mo_askAll_125 : decode b_Mo_askAll 125 = .ok (.iload_n 3, 1) := by decide +kernel
theorem d_Mo_askAll_126 : decode b_Mo_askAll 126 = .ok (.invokevirtual 238, 3) := by decide +kernel
theorem d_Mo_askAll_129 : decode b_Mo_askAll 129 = .ok (.aload_n 0, 1) := by decide +kernel
theorem d_Mo_askAll_130 : decode b_Mo_askAll 130 = .ok (.aload_n 0, 1) := by decide +kernel
theorem d_Mo_askAll_131 : decode b_Mo_askAll 131 = .ok (.iload_n 1, 1) := by decide +kernel
theorem d_Mo_askAll_132 : decode b_Mo_askAll 132 = .ok (.bipush 23, 2) := by decide +kernel
theorem d_Mo_askAll_134 : decode b_Mo_askAll 134 = .ok (.invokevirtual 141, 3) := by decide +kernel
theorem d_Mo_askAll_137 : decode b_Mo_askAll 137 = .ok (.iload_n 2, 1) := by decide +kernel
theorem d_Mo_askAll_138 : decode b_Mo_askAll 138 = .ok (.iconst (-1), 1) := by decide +kernel
theorem d_Mo_askAll_139 : decode b_Mo_askAll 139 = .ok (.iload_n 3, 1) := by decide +kernel
theorem d_Mo_askAll_140 : decode b_Mo_askAll 140 = .ok (.invokevirtual 238, 3) := by decide +kernel
theorem d_Mo_askAll_143 : decode b_Mo_askAll 143 = .ok (.aload_n 0, 1) := by decide +kernel
theorem d_Mo_askAll_144 : decode b_Mo_askAll 144 = .ok (.aload_n 0, 1) := by decide +kernel
theorem d_Mo_askAll_145 : decode b_Mo_askAll 145 = .ok (.iload_n 1, 1) := by decide +kernel
theorem d_Mo_askAll_146 : decode b_Mo_askAll 146 = .ok (.bipush 26, 2) := by decide +kernel
theorem d_Mo_askAll_148 : decode b_Mo_askAll 148 = .ok (.invokevirtual 141, 3) := by decide +kernel
theorem d_Mo_askAll_151 : decode b_Mo_askAll 151 = .ok (.iload_n 2, 1) := by decide +kernel
theorem d_Mo_askAll_152 : decode b_Mo_askAll 152 = .ok (.aload_n 0, 1) := by decide +kernel
theorem d_Mo_askAll_153 : decode b_Mo_askAll 153 = .ok (.iload_n 1, 1) := by decide +kernel
theorem d_Mo_askAll_154 : decode b_Mo_askAll 154 = .ok (.iload_n 2, 1) := by decide +kernel
theorem d_Mo_askAll_155 : decode b_Mo_askAll 155 = .ok (.invokevirtual 199, 3) := by decide +kernel
theorem d_Mo_askAll_158 : decode b_Mo_askAll 158 = .ok (.iload_n 3, 1) := by decide +kernel
theorem d_Mo_askAll_159 : decode b_Mo_askAll 159 = .ok (.invokevirtual 242, 3) := by decide +kernel
theorem d_Mo_askAll_162 : decode b_Mo_askAll 162 = .ok (.aload_n 0, 1) := by decide +kernel
theorem d_Mo_askAll_163 : decode b_Mo_askAll 163 = .ok (.aload_n 0, 1) := by decide +kernel
theorem d_Mo_askAll_164 : decode b_Mo_askAll 164 = .ok (.iload_n 1, 1) := by decide +kernel
theorem d_Mo_askAll_165 : decode b_Mo_askAll 165 = .ok (.bipush 27, 2) := by decide +kernel
theorem d_Mo_askAll_167 : decode b_Mo_askAll 167 = .ok (.invokevirtual 141, 3) := by decide +kernel
theorem d_Mo_askAll_170 : decode b_Mo_askAll 170 = .ok (.iload_n 2, 1) := by decide +kernel
theorem d_Mo_askAll_171 : decode b_Mo_askAll 171 = .ok (.aload_n 0, 1) := by decide +kernel
theorem d_Mo_askAll_172 : decode b_Mo_askAll 172 = .ok (.iload_n 1, 1) := by decide +kernel
theorem d_Mo_askAll_173 : decode b_Mo_askAll 173 = .ok (.iload_n 2, 1) := by decide +kernel
theorem d_Mo_askAll_174 : decode b_Mo_askAll 174 = .ok (.invokevirtual 215, 3) := by decide +kernel
theorem d_Mo_askAll_177 : decode b_Mo_askAll 177 = .ok (.iconst (-1), 1) := by decide +kernel
theorem d_Mo_askAll_178 : decode b_Mo_askAll 178 = .ok (.ixor, 1) := by decide +kernel
theorem d_Mo_askAll_179 : decode b_Mo_askAll 179 = .ok (.iload_n 3, 1) := by decide +kernel
theorem d_Mo_askAll_180 : decode b_Mo_askAll 180 = .ok (.invokevirtual 242, 3) := by decide +kernel
theorem d_Mo_askAll_183 : decode b_Mo_askAll 183 = .ok (.aload_n 0, 1) := by decide +kernel
theorem d_Mo_askAll_184 : decode b_Mo_askAll 184 = .ok (.aload_n 0, 1) := by decide +kernel
theorem d_Mo_askAll_185 : decode b_Mo_askAll 185 = .ok (.iload_n 1, 1) := by decide +kernel
theorem d_Mo_askAll_186 : decode b_Mo_askAll 186 = .ok (.bipush 28, 2) := by decide +kernel
theorem d_Mo_askAll_188 : decode b_Mo_askAll 188 = .ok (.invokevirtual 141, 3) := by decide +kernel
theorem d_Mo_askAll_191 : decode b_Mo_askAll 191 = .ok (.iload_n 2, 1) := by decide +kernel
theorem d_Mo_askAll_192 : decode b_Mo_askAll 192 = .ok (.aload_n 0, 1) := by decide +kernel
theorem d_Mo_askAll_193 : decode b_Mo_askAll 193 = .ok (.iload_n 1, 1) := by decide +kernel
theorem d_Mo_askAll_194 : decode b_Mo_askAll 194 = .ok (.iload_n 2, 1) := by decide +kernel
theorem d_Mo_askAll_195 : decode b_Mo_askAll 195 = .ok (.invokevirtual 215, 3) := by decide +kernel
theorem d_Mo_askAll_198 : decode b_Mo_askAll 198 = .ok (.iconst (-1), 1) := by decide +kernel
theorem d_Mo_askAll_199 : decode b_Mo_askAll 199 = .ok (.ixor, 1) := by decide +kernel
theorem d_Mo_askAll_200 : decode b_Mo_askAll 200 = .ok (.iload_n 3, 1) := by decide +kernel
theorem d_Mo_askAll_201 : decode b_Mo_askAll 201 = .ok (.invokevirtual 238, 3) := by decide +kernel
theorem d_Mo_askAll_204 : decode b_Mo_askAll 204 = .ok (.bipush 29, 2) := by decide +kernel
theorem d_Mo_askAll_206 : decode b_Mo_askAll 206 = .ok (.istore 4, 2) := by decide +kernel
theorem d_Mo_askAll_208 : decode b_Mo_askAll 208 = .ok (.iload 4, 2) := by decide +kernel
theorem d_Mo_askAll_210 : decode b_Mo_askAll 210 = .ok (.bipush 33, 2) := by decide +kernel
theorem d_Mo_askAll_212 : decode b_Mo_askAll 212 = .ok (.if_icmp .ge 111, 3) := by decide +kernel
theorem d_Mo_askAll_215 : decode b_Mo_askAll 215 = .ok (.iconst 0, 1) := by decide +kernel
theorem d_Mo_askAll_216 : decode b_Mo_askAll 216 = .ok (.istore 5, 2) := by decide +kernel
theorem d_Mo_askAll_218 : decode b_Mo_askAll 218 = .ok (.iload 5, 2) := by decide +kernel
theorem d_Mo_askAll_220 : decode b_Mo_askAll 220 = .ok (.aload_n 0, 1) := by decide +kernel
theorem d_Mo_askAll_221 : decode b_Mo_askAll 221 = .ok (.iload_n 1, 1) := by decide +kernel
theorem d_Mo_askAll_222 : decode b_Mo_askAll 222 = .ok (.iload 4, 2) := by decide +kernel
theorem d_Mo_askAll_224 : decode b_Mo_askAll 224 = .ok (.invokevirtual 148, 3) := by decide +kernel
theorem d_Mo_askAll_227 : decode b_Mo_askAll 227 = .ok (.if_icmp .ge 90, 3) := by decide +kernel
theorem d_Mo_askAll_230 : decode b_Mo_askAll 230 = .ok (.iload 4, 2) := by decide +kernel
theorem d_Mo_askAll_232 : decode b_Mo_askAll 232 = .ok (.bipush 32, 2) := by decide +kernel
theorem d_Mo_askAll_234 : decode b_Mo_askAll 234 = .ok (.if_icmp .lt 24, 3) := by decide +kernel
theorem d_Mo_askAll_237 : decode b_Mo_askAll 237 = .ok (.aload_n 0, 1) := by decide +kernel
theorem d_Mo_askAll_238 : decode b_Mo_askAll 238 = .ok (.getfield 7, 3) := by decide +kernel
theorem d_Mo_askAll_241 : decode b_Mo_askAll 241 = .ok (.iload_n 2, 1) := by decide +kernel
theorem d_Mo_askAll_242 : decode b_Mo_askAll 242 = .ok (.iaload, 1) := by decide +kernel
theorem d_Mo_askAll_243 : decode b_Mo_askAll 243 = .ok (.iconst 4, 1) := by decide +kernel
theorem d_Mo_askAll_244 : decode b_Mo_askAll 244 = .ok (.if_icmp .ne 18, 3) := by decide +kernel
theorem d_Mo_askAll_247 : decode b_Mo_askAll 247 = .ok (.iload 5, 2) := by decide +kernel
theorem d_Mo_askAll_249 : decode b_Mo_askAll 249 = .ok (.aload_n 0, 1) := by decide +kernel
theorem d_Mo_askAll_250 : decode b_Mo_askAll 250 = .ok (.getfield 17, 3) := by decide +kernel
theorem d_Mo_askAll_253 : decode b_Mo_askAll 253 = .ok (.iload_n 2, 1) := by decide +kernel
theorem d_Mo_askAll_254 : decode b_Mo_askAll 254 = .ok (.iaload, 1) := by decide +kernel
theorem d_Mo_askAll_255 : decode b_Mo_askAll 255 = .ok (.if_icmp .ge 7, 3) := by decide +kernel
theorem d_Mo_askAll_258 : decode b_Mo_askAll 258 = .ok (.iconst 1, 1) := by decide +kernel
theorem d_Mo_askAll_259 : decode b_Mo_askAll 259 = .ok (.goto 4, 3) := by decide +kernel
theorem d_Mo_askAll_262 : decode b_Mo_askAll 262 = .ok (.iconst 0, 1) := by decide +kernel
theorem d_Mo_askAll_263 : decode b_Mo_askAll 263 = .ok (.istore 6, 2) := by decide +kernel
theorem d_Mo_askAll_265 : decode b_Mo_askAll 265 = .ok (.aload_n 0, 1) := by decide +kernel
theorem d_Mo_askAll_266 : decode b_Mo_askAll 266 = .ok (.iload 6, 2) := by decide +kernel
theorem d_Mo_askAll_268 : decode b_Mo_askAll 268 = .ok (.ifCond .eq 15, 3) := by decide +kernel
theorem d_Mo_askAll_271 : decode b_Mo_askAll 271 = .ok (.aload_n 0, 1) := by decide +kernel
theorem d_Mo_askAll_272 : decode b_Mo_askAll 272 = .ok (.iload_n 1, 1) := by decide +kernel
theorem d_Mo_askAll_273 : decode b_Mo_askAll 273 = .ok (.iload 4, 2) := by decide +kernel
theorem d_Mo_askAll_275 : decode b_Mo_askAll 275 = .ok (.iload 5, 2) := by decide +kernel
theorem d_Mo_askAll_277 : decode b_Mo_askAll 277 = .ok (.invokevirtual 151, 3) := by decide +kernel
theorem d_Mo_askAll_280 : decode b_Mo_askAll 280 = .ok (.goto 4, 3) := by decide +kernel
theorem d_Mo_askAll_283 : decode b_Mo_askAll 283 = .ok (.iconst (-1), 1) := by decide +kernel
theorem d_Mo_askAll_284 : decode b_Mo_askAll 284 = .ok (.iload 4, 2) := by decide +kernel
theorem d_Mo_askAll_286 : decode b_Mo_askAll 286 = .ok (.bipush 32, 2) := by decide +kernel
theorem d_Mo_askAll_288 : decode b_Mo_askAll 288 = .ok (.if_icmp .ge 7, 3) := by decide +kernel
theorem d_Mo_askAll_291 : decode b_Mo_askAll 291 = .ok (.iload_n 2, 1) := by decide +kernel
theorem d_Mo_askAll_292 : decode b_Mo_askAll 292 = .ok (.goto 15, 3) := by decide +kernel
theorem d_Mo_askAll_295 : decode b_Mo_askAll 295 = .ok (.aload_n 0, 1) := by decide +kernel
theorem d_Mo_askAll_296 : decode b_Mo_askAll 296 = .ok (.getfield 20, 3) := by decide +kernel
theorem d_Mo_askAll_299 : decode b_Mo_askAll 299 = .ok (.bipush 8, 2) := by decide +kernel
theorem d_Mo_askAll_301 : decode b_Mo_askAll 301 = .ok (.iload_n 2, 1) := by decide +kernel
theorem d_Mo_askAll_302 : decode b_Mo_askAll 302 = .ok (.imul, 1) := by decide +kernel
theorem d_Mo_askAll_303 : decode b_Mo_askAll 303 = .ok (.iload 5, 2) := by decide +kernel
theorem d_Mo_askAll_305 : decode b_Mo_askAll 305 = .ok (.iadd, 1) := by decide +kernel
theorem d_Mo_askAll_306 : decode b_Mo_askAll 306 = .ok (.iaload, 1) := by decide +kernel
theorem d_Mo_askAll_307 : decode b_Mo_askAll 307 = .ok (.iload_n 3, 1) := by decide +kernel
theorem d_Mo_askAll_308 : decode b_Mo_askAll 308 = .ok (.invokevirtual 234, 3) := by decide +kernel
theorem d_Mo_askAll_311 : decode b_Mo_askAll 311 = .ok (.iinc 5 1, 3) := by decide +kernel
theorem d_Mo_askAll_314 : decode b_Mo_askAll 314 = .ok (.goto (-96), 3) := by decide +kernel
theorem d_Mo_askAll_317 : decode b_Mo_askAll 317 = .ok (.iinc 4 1, 3) := by decide +kernel
theorem d_Mo_askAll_320 : decode b_Mo_askAll 320 = .ok (.goto (-112), 3) := by decide +kernel
theorem d_Mo_askAll_323 : decode b_Mo_askAll 323 = .ok (.iconst 0, 1) := by decide +kernel
theorem d_Mo_askAll_324 : decode b_Mo_askAll 324 = .ok (.istore 4, 2) := by decide +kernel
theorem d_Mo_askAll_326 : decode b_Mo_askAll 326 = .ok (.iload 4, 2) := by decide +kernel
theorem d_Mo_askAll_328 : decode b_Mo_askAll 328 = .ok (.bipush 12, 2) := by decide +kernel
theorem d_Mo_askAll_330 : decode b_Mo_askAll 330 = .ok (.if_icmp .ge 59, 3) := by decide +kernel
theorem d_Mo_askAll_333 : decode b_Mo_askAll 333 = .ok (.aload_n 0, 1) := by decide +kernel
theorem d_Mo_askAll_334 : decode b_Mo_askAll 334 = .ok (.aload_n 0, 1) := by decide +kernel
theorem d_Mo_askAll_335 : decode b_Mo_askAll 335 = .ok (.iload_n 1, 1) := by decide +kernel
theorem d_Mo_askAll_336 : decode b_Mo_askAll 336 = .ok (.bipush 33, 2) := by decide +kernel
theorem d_Mo_askAll_338 : decode b_Mo_askAll 338 = .ok (.iload 4, 2) := by decide +kernel
theorem d_Mo_askAll_340 : decode b_Mo_askAll 340 = .ok (.invokevirtual 154, 3) := by decide +kernel
theorem d_Mo_askAll_343 : decode b_Mo_askAll 343 = .ok (.aload_n 0, 1) := by decide +kernel
theorem d_Mo_askAll_344 : decode b_Mo_askAll 344 = .ok (.iload_n 2, 1) := by decide +kernel
theorem d_Mo_askAll_345 : decode b_Mo_askAll 345 = .ok (.iload 4, 2) := by decide +kernel
theorem d_Mo_askAll_347 : decode b_Mo_askAll 347 = .ok (.invokevirtual 167, 3) := by decide +kernel
theorem d_Mo_askAll_350 : decode b_Mo_askAll 350 = .ok (.iload_n 3, 1) := by decide +kernel
theorem d_Mo_askAll_351 : decode b_Mo_askAll 351 = .ok (.invokevirtual 234, 3) := by decide +kernel
theorem d_Mo_askAll_354 : decode b_Mo_askAll 354 = .ok (.aload_n 0, 1) := by decide +kernel
theorem d_Mo_askAll_355 : decode b_Mo_askAll 355 = .ok (.aload_n 0, 1) := by decide +kernel
theorem d_Mo_askAll_356 : decode b_Mo_askAll 356 = .ok (.iload_n 2, 1) := by decide +kernel
theorem d_Mo_askAll_357 : decode b_Mo_askAll 357 = .ok (.iload 4, 2) := by decide +kernel
theorem d_Mo_askAll_359 : decode b_Mo_askAll 359 = .ok (.invokevirtual 167, 3) := by decide +kernel
theorem d_Mo_askAll_362 : decode b_Mo_askAll 362 = .ok (.ifCond .lt 15, 3) := by decide +kernel
theorem d_Mo_askAll_365 : decode b_Mo_askAll 365 = .ok (.aload_n 0, 1) := by decide +kernel
theorem d_Mo_askAll_366 : decode b_Mo_askAll 366 = .ok (.iload_n 1, 1) := by decide +kernel
theorem d_Mo_askAll_367 : decode b_Mo_askAll 367 = .ok (.bipush 34, 2) := by decide +kernel
theorem d_Mo_askAll_369 : decode b_Mo_askAll 369 = .ok (.iload 4, 2) := by decide +kernel
theorem d_Mo_askAll_371 : decode b_Mo_askAll 371 = .ok (.invokevirtual 154, 3) := by decide +kernel
theorem d_Mo_askAll_374 : decode b_Mo_askAll 374 = .ok (.goto 4, 3) := by decide +kernel
theorem d_Mo_askAll_377 : decode b_Mo_askAll 377 = .ok (.iconst (-1), 1) := by decide +kernel
theorem d_Mo_askAll_378 : decode b_Mo_askAll 378 = .ok (.iload_n 2, 1) := by decide +kernel
theorem d_Mo_askAll_379 : decode b_Mo_askAll 379 = .ok (.iload_n 3, 1) := by decide +kernel
theorem d_Mo_askAll_380 : decode b_Mo_askAll 380 = .ok (.invokevirtual 234, 3) := by decide +kernel
theorem d_Mo_askAll_383 : decode b_Mo_askAll 383 = .ok (.iinc 4 1, 3) := by decide +kernel
theorem d_Mo_askAll_386 : decode b_Mo_askAll 386 = .ok (.goto (-60), 3) := by decide +kernel
theorem d_Mo_askAll_389 : decode b_Mo_askAll 389 = .ok (.return_, 1) := by decide +kernel
theorem d_Mo_ask_0 : decode b_Mo_ask 0 = .ok (.iload_n 1, 1) := by decide +kernel
theorem d_Mo_ask_1 : decode b_Mo_ask 1 = .ok (.ifCond .lt 36, 3) := by decide +kernel
theorem d_Mo_ask_4 : decode b_Mo_ask 4 = .ok (.iload_n 2, 1) := by decide +kernel
theorem d_Mo_ask_5 : decode b_Mo_ask 5 = .ok (.ifCond .lt 32, 3) := by decide +kernel
theorem d_Mo_ask_8 : decode b_Mo_ask 8 = .ok (.aload_n 0, 1) := by decide +kernel
theorem d_Mo_ask_9 : decode b_Mo_ask 9 = .ok (.getfield 63, 3) := by decide +kernel
theorem d_Mo_ask_12 : decode b_Mo_ask 12 = .ok (.bipush 40, 2) := by decide +kernel
theorem d_Mo_ask_14 : decode b_Mo_ask 14 = .ok (.iload_n 1, 1) := by decide +kernel
theorem d_Mo_ask_15 : decode b_Mo_ask 15 = .ok (.imul, 1) := by decide +kernel
theorem d_Mo_ask_16 : decode b_Mo_ask 16 = .ok (.iload_n 2, 1) := by decide +kernel
theorem d_Mo_ask_17 : decode b_Mo_ask 17 = .ok (.iadd, 1) := by decide +kernel
theorem d_Mo_ask_18 : decode b_Mo_ask 18 = .ok (.iaload, 1) := by decide +kernel
theorem d_Mo_ask_19 : decode b_Mo_ask 19 = .ok (.iload_n 3, 1) := by decide +kernel
theorem d_Mo_ask_20 : decode b_Mo_ask 20 = .ok (.if_icmp .gt 17, 3) := by decide +kernel
theorem d_Mo_ask_23 : decode b_Mo_ask 23 = .ok (.aload_n 0, 1) := by decide +kernel
theorem d_Mo_ask_24 : decode b_Mo_ask 24 = .ok (.getfield 63, 3) := by decide +kernel
theorem d_Mo_ask_27 : decode b_Mo_ask 27 = .ok (.bipush 40, 2) := by decide +kernel
theorem d_Mo_ask_29 : decode b_Mo_ask 29 = .ok (.iload_n 1, 1) := by decide +kernel
theorem d_Mo_ask_30 : decode b_Mo_ask 30 = .ok (.imul, 1) := by decide +kernel
theorem d_Mo_ask_31 : decode b_Mo_ask 31 = .ok (.iload_n 2, 1) := by decide +kernel
theorem d_Mo_ask_32 : decode b_Mo_ask 32 = .ok (.iadd, 1) := by decide +kernel
theorem d_Mo_ask_33 : decode b_Mo_ask 33 = .ok (.iload_n 3, 1) := by decide +kernel
theorem d_Mo_ask_34 : decode b_Mo_ask 34 = .ok (.iconst 1, 1) := by decide +kernel
theorem d_Mo_ask_35 : decode b_Mo_ask 35 = .ok (.iadd, 1) := by decide +kernel
theorem d_Mo_ask_36 : decode b_Mo_ask 36 = .ok (.iastore, 1) := by decide +kernel
theorem d_Mo_ask_37 : decode b_Mo_ask 37 = .ok (.return_, 1) := by decide +kernel
theorem d_Mo_askElements_0 : decode b_Mo_askElements 0 = .ok (.iconst 0, 1) := by decide +kernel
theorem d_Mo_askElements_1 : decode b_Mo_askElements 1 = .ok (.istore 5, 2) := by decide +kernel
theorem d_Mo_askElements_3 : decode b_Mo_askElements 3 = .ok (.iload 5, 2) := by decide +kernel
theorem d_Mo_askElements_5 : decode b_Mo_askElements 5 = .ok (.aload_n 0, 1) := by decide +kernel
theorem d_Mo_askElements_6 : decode b_Mo_askElements 6 = .ok (.getfield 17, 3) := by decide +kernel
theorem d_Mo_askElements_9 : decode b_Mo_askElements 9 = .ok (.iload_n 2, 1) := by decide +kernel
theorem d_Mo_askElements_10 : decode b_Mo_askElements 10 = .ok (.iaload, 1) := by decide +kernel
theorem d_Mo_askElements_11 : decode b_Mo_askElements 11 = .ok (.if_icmp .ge 52, 3) := by decide +kernel
theorem d_Mo_askElements_14 : decode b_Mo_askElements 14 = .ok (.aload_n 0, 1) := by decide +kernel
theorem d_Mo_askElements_15 : decode b_Mo_askElements 15 = .ok (.getfield 7, 3) := by decide +kernel
theorem d_Mo_askElements_18 : decode b_Mo_askElements 18 = .ok (.iload_n 2, 1) := by decide +kernel
theorem d_Mo_askElements_19 : decode b_Mo_askElements 19 = .ok (.iaload, 1) := by decide +kernel
theorem d_Mo_askElements_20 : decode b_Mo_askElements 20 = .ok (.iconst 4, 1) := by decide +kernel
theorem d_Mo_askElements_21 : decode b_Mo_askElements 21 = .ok (.if_icmp .ne 42, 3) := by decide +kernel
theorem d_Mo_askElements_24 : decode b_Mo_askElements 24 = .ok (.aload_n 0, 1) := by decide +kernel
theorem d_Mo_askElements_25 : decode b_Mo_askElements 25 = .ok (.iload_n 3, 1) := by decide +kernel
theorem d_Mo_askElements_26 : decode b_Mo_askElements 26 = .ok (.iload 5, 2) := by decide +kernel
theorem d_Mo_askElements_28 : decode b_Mo_askElements 28 = .ok (.ishr, 1) := by decide +kernel
theorem d_Mo_askElements_29 : decode b_Mo_askElements 29 = .ok (.iconst 1, 1) := by decide +kernel
theorem d_Mo_askElements_30 : decode b_Mo_askElements 30 = .ok (.iand, 1) := by decide +kernel
theorem d_Mo_askElements_31 : decode b_Mo_askElements 31 = .ok (.iconst 1, 1) := by decide +kernel
theorem d_Mo_askElements_32 : decode b_Mo_askElements 32 = .ok (.if_icmp .ne 7, 3) := by decide +kernel
theorem d_Mo_askElements_35 : decode b_Mo_askElements 35 = .ok (.iload_n 1, 1) := by decide +kernel
theorem d_Mo_askElements_36 : decode b_Mo_askElements 36 = .ok (.goto 4, 3) := by decide +kernel
theorem d_Mo_askElements_39 : decode b_Mo_askElements 39 = .ok (.iconst (-1), 1) := by decide +kernel
theorem d_Mo_askElements_40 : decode b_Mo_askElements 40 = .ok (.aload_n 0, 1) := by decide +kernel
theorem d_Mo_askElements_41 : decode b_Mo_askElements 41 = .ok (.getfield 20, 3) := by decide +kernel
theorem d_Mo_askElements_44 : decode b_Mo_askElements 44 = .ok (.bipush 8, 2) := by decide +kernel
theorem d_Mo_askElements_46 : decode b_Mo_askElements 46 = .ok (.iload_n 2, 1) := by decide +kernel
theorem d_Mo_askElements_47 : decode b_Mo_askElements 47 = .ok (.imul, 1) := by decide +kernel
theorem d_Mo_askElements_48 : decode b_Mo_askElements 48 = .ok (.iload 5, 2) := by decide +kernel
theorem d_Mo_askElements_50 : decode b_Mo_askElements 50 = .ok (.iadd, 1) := by decide +kernel
theorem d_Mo_askElements_51 : decode b_Mo_askElements 51 = .ok (.iaload, 1) := by decide +kernel
theorem d_Mo_askElements_52 : decode b_Mo_askElements 52 = .ok (.iload 4, 2) := by decide +kernel
theorem d_Mo_askElements_54 : decode b_Mo_askElements 54 = .ok (.invokevirtual 234, 3) := by decide +kernel
theorem d_Mo_askElements_57 : decode b_Mo_askElements 57 = .ok (.iinc 5 1, 3) := by decide +kernel
theorem d_Mo_askElements_60 : decode b_Mo_askElements 60 = .ok (.goto (-57), 3) := by decide +kernel
theorem d_Mo_askElements_63 : decode b_Mo_askElements 63 = .ok (.return_, 1) := by decide +kernel
theorem d_Mo_askMembers_0 : decode b_Mo_askMembers 0 = .ok (.iconst 0, 1) := by decide +kernel
theorem d_Mo_askMembers_1 : decode b_Mo_askMembers 1 = .ok (.istore 5, 2) := by decide +kernel
theorem d_Mo_askMembers_3 : decode b_Mo_askMembers 3 = .ok (.iload 5, 2) := by decide +kernel
theorem d_Mo_askMembers_5 : decode b_Mo_askMembers 5 = .ok (.bipush 12, 2) := by decide +kernel
theorem d_Mo_askMembers_7 : decode b_Mo_askMembers 7 = .ok (.if_icmp .ge 37, 3) := by decide +kernel
theorem d_Mo_askMembers_10 : decode b_Mo_askMembers 10 = .ok (.aload_n 0, 1) := by decide +kernel
theorem d_Mo_askMembers_11 : decode b_Mo_askMembers 11 = .ok (.iload_n 3, 1) := by decide +kernel
theorem d_Mo_askMembers_12 : decode b_Mo_askMembers 12 = .ok (.iload 5, 2) := by decide +kernel
theorem d_Mo_askMembers_14 : decode b_Mo_askMembers 14 = .ok (.ishr, 1) := by decide +kernel
theorem d_Mo_askMembers_15 : decode b_Mo_askMembers 15 = .ok (.iconst 1, 1) := by decide +kernel
theorem d_Mo_askMembers_16 : decode b_Mo_askMembers 16 = .ok (.iand, 1) := by decide +kernel
theorem d_Mo_askMembers_17 : decode b_Mo_askMembers 17 = .ok (.iconst 1, 1) := by decide +kernel
theorem d_Mo_askMembers_18 : decode b_Mo_askMembers 18 = .ok (.if_icmp .ne 7, 3) := by decide +kernel
theorem d_Mo_askMembers_21 : decode b_Mo_askMembers 21 = .ok (.iload_n 1, 1) := by decide +kernel
theorem d_Mo_askMembers_22 : decode b_Mo_askMembers 22 = .ok (.goto 4, 3) := by decide +kernel
theorem d_Mo_askMembers_25 : decode b_Mo_askMembers 25 = .ok (.iconst (-1), 1) := by decide +kernel
theorem d_Mo_askMembers_26 : decode b_Mo_askMembers 26 = .ok (.aload_n 0, 1) := by decide +kernel
theorem d_Mo_askMembers_27 : decode b_Mo_askMembers 27 = .ok (.iload_n 2, 1) := by decide +kernel
theorem d_Mo_askMembers_28 : decode b_Mo_askMembers 28 = .ok (.iload 5, 2) := by decide +kernel
theorem d_Mo_askMembers_30 : decode b_Mo_askMembers 30 = .ok (.invokevirtual 167, 3) := by decide +kernel
theorem d_Mo_askMembers_33 : decode b_Mo_askMembers 33 = .ok (.iload 4, 2) := by decide +kernel
theorem d_Mo_askMembers_35 : decode b_Mo_askMembers 35 = .ok (.invokevirtual 234, 3) := by decide +kernel
theorem d_Mo_askMembers_38 : decode b_Mo_askMembers 38 = .ok (.iinc 5 1, 3) := by decide +kernel
theorem d_Mo_askMembers_41 : decode b_Mo_askMembers 41 = .ok (.goto (-38), 3) := by decide +kernel
theorem d_Mo_askMembers_44 : decode b_Mo_askMembers 44 = .ok (.return_, 1) := by decide +kernel
theorem d_Mo_noteFaults_0 : decode b_Mo_noteFaults 0 = .ok (.iconst 0, 1) := by decide +kernel
theorem d_Mo_noteFaults_1 : decode b_Mo_noteFaults 1 = .ok (.istore_n 3, 1) := by decide +kernel
theorem d_Mo_noteFaults_2 : decode b_Mo_noteFaults 2 = .ok (.iload_n 3, 1) := by decide +kernel
theorem d_Mo_noteFaults_3 : decode b_Mo_noteFaults 3 = .ok (.bipush 36, 2) := by decide +kernel
theorem d_Mo_noteFaults_5 : decode b_Mo_noteFaults 5 = .ok (.if_icmp .ge 55, 3) := by decide +kernel
theorem d_Mo_noteFaults_8 : decode b_Mo_noteFaults 8 = .ok (.aload_n 0, 1) := by decide +kernel
theorem d_Mo_noteFaults_9 : decode b_Mo_noteFaults 9 = .ok (.iload_n 1, 1) := by decide +kernel
theorem d_Mo_noteFaults_10 : decode b_Mo_noteFaults 10 = .ok (.iload_n 2, 1) := by decide +kernel
theorem d_Mo_noteFaults_11 : decode b_Mo_noteFaults 11 = .ok (.iload_n 3, 1) := by decide +kernel
theorem d_Mo_noteFaults_12 : decode b_Mo_noteFaults 12 = .ok (.invokevirtual 231, 3) := by decide +kernel
theorem d_Mo_noteFaults_15 : decode b_Mo_noteFaults 15 = .ok (.ifCond .ne 39, 3) := by decide +kernel
theorem d_Mo_noteFaults_18 : decode b_Mo_noteFaults 18 = .ok (.aload_n 0, 1) := by decide +kernel
theorem d_Mo_noteFaults_19 : decode b_Mo_noteFaults 19 = .ok (.getfield 72, 3) := by decide +kernel
theorem d_Mo_noteFaults_22 : decode b_Mo_noteFaults 22 = .ok (.bipush 40, 2) := by decide +kernel
theorem d_Mo_noteFaults_24 : decode b_Mo_noteFaults 24 = .ok (.iload_n 1, 1) := by decide +kernel
theorem d_Mo_noteFaults_25 : decode b_Mo_noteFaults 25 = .ok (.imul, 1) := by decide +kernel
theorem d_Mo_noteFaults_26 : decode b_Mo_noteFaults 26 = .ok (.iload_n 2, 1) := by decide +kernel
theorem d_Mo_noteFaults_27 : decode b_Mo_noteFaults 27 = .ok (.iadd, 1) := by decide +kernel
theorem d_Mo_noteFaults_28 : decode b_Mo_noteFaults 28 = .ok (.aload_n 0, 1) := by decide +kernel
theorem d_Mo_noteFaults_29 : decode b_Mo_noteFaults 29 = .ok (.getfield 72, 3) := by decide +kernel
theorem d_Mo_noteFaults_32 : decode b_Mo_noteFaults 32 = .ok (.bipush 40, 2) := by decide +kernel
theorem d_Mo_noteFaults_34 : decode b_Mo_noteFaults 34 = .ok (.iload_n 1, 1) := by decide +kernel
theorem d_Mo_noteFaults_35 : decode b_Mo_noteFaults 35 = .ok (.imul, 1) := by decide +kernel
theorem d_Mo_noteFaults_36 : decode b_Mo_noteFaults 36 = .ok (.iload_n 2, 1) := by decide +kernel
theorem d_Mo_noteFaults_37 : decode b_Mo_noteFaults 37 = .ok (.iadd, 1) := by decide +kernel
theorem d_Mo_noteFaults_38 : decode b_Mo_noteFaults 38 = .ok (.laload, 1) := by decide +kernel
theorem d_Mo_noteFaults_39 : decode b_Mo_noteFaults 39 = .ok (.lconst 1, 1) := by decide +kernel
theorem d_Mo_noteFaults_40 : decode b_Mo_noteFaults 40 = .ok (.iload_n 3, 1) := by decide +kernel
theorem d_Mo_noteFaults_41 : decode b_Mo_noteFaults 41 = .ok (.lshl, 1) := by decide +kernel
theorem d_Mo_noteFaults_42 : decode b_Mo_noteFaults 42 = .ok (.lor, 1) := by decide +kernel
theorem d_Mo_noteFaults_43 : decode b_Mo_noteFaults 43 = .ok (.lastore, 1) := by decide +kernel
theorem d_Mo_noteFaults_44 : decode b_Mo_noteFaults 44 = .ok (.aload_n 0, 1) := by decide +kernel
theorem d_Mo_noteFaults_45 : decode b_Mo_noteFaults 45 = .ok (.dup, 1) := by decide +kernel
theorem d_Mo_noteFaults_46 : decode b_Mo_noteFaults 46 = .ok (.getfield 245, 3) := by decide +kernel
theorem d_Mo_noteFaults_49 : decode b_Mo_noteFaults 49 = .ok (.iconst 1, 1) := by decide +kernel
theorem d_Mo_noteFaults_50 : decode b_Mo_noteFaults 50 = .ok (.iadd, 1) := by decide +kernel
theorem d_Mo_noteFaults_51 : decode b_Mo_noteFaults 51 = .ok (.putfield 245, 3) := by decide +kernel
theorem d_Mo_noteFaults_54 : decode b_Mo_noteFaults 54 = .ok (.iinc 3 1, 3) := by decide +kernel
theorem d_Mo_noteFaults_57 : decode b_Mo_noteFaults 57 = .ok (.goto (-55), 3) := by decide +kernel
theorem d_Mo_noteFaults_60 : decode b_Mo_noteFaults 60 = .ok (.return_, 1) := by decide +kernel
theorem d_Mo_marks_0 : decode b_Mo_marks 0 = .ok (.aload_n 0, 1) := by decide +kernel
theorem d_Mo_marks_1 : decode b_Mo_marks 1 = .ok (.aload_n 0, 1) := by decide +kernel
theorem d_Mo_marks_2 : decode b_Mo_marks 2 = .ok (.iload_n 1, 1) := by decide +kernel
theorem d_Mo_marks_3 : decode b_Mo_marks 3 = .ok (.invokevirtual 131, 3) := by decide +kernel
theorem d_Mo_marks_6 : decode b_Mo_marks 6 = .ok (.ifCond .ne 11, 3) := by decide +kernel
theorem d_Mo_marks_9 : decode b_Mo_marks 9 = .ok (.aload_n 0, 1) := by decide +kernel
theorem d_Mo_marks_10 : decode b_Mo_marks 10 = .ok (.iload_n 2, 1) := by decide +kernel
theorem d_Mo_marks_11 : decode b_Mo_marks 11 = .ok (.invokevirtual 101, 3) := by decide +kernel
theorem d_Mo_marks_14 : decode b_Mo_marks 14 = .ok (.ifCond .eq 7, 3) := by decide +kernel
theorem d_Mo_marks_17 : decode b_Mo_marks 17 = .ok (.iconst 1, 1) := by decide +kernel
theorem d_Mo_marks_18 : decode b_Mo_marks 18 = .ok (.goto 4, 3) := by decide +kernel
theorem d_Mo_marks_21 : decode b_Mo_marks 21 = .ok (.iconst 0, 1) := by decide +kernel
theorem d_Mo_marks_22 : decode b_Mo_marks 22 = .ok (.putfield 78, 3) := by decide +kernel
theorem d_Mo_marks_25 : decode b_Mo_marks 25 = .ok (.aload_n 0, 1) := by decide +kernel
theorem d_Mo_marks_26 : decode b_Mo_marks 26 = .ok (.getfield 78, 3) := by decide +kernel
theorem d_Mo_marks_29 : decode b_Mo_marks 29 = .ok (.ifCond .eq 7, 3) := by decide +kernel
theorem d_Mo_marks_32 : decode b_Mo_marks 32 = .ok (.iconst 0, 1) := by decide +kernel
theorem d_Mo_marks_33 : decode b_Mo_marks 33 = .ok (.goto 32, 3) := by decide +kernel
theorem d_Mo_marks_36 : decode b_Mo_marks 36 = .ok (.aload_n 0, 1) := by decide +kernel
theorem d_Mo_marks_37 : decode b_Mo_marks 37 = .ok (.getfield 63, 3) := by decide +kernel
theorem d_Mo_marks_40 : decode b_Mo_marks 40 = .ok (.bipush 40, 2) := by decide +kernel
theorem d_Mo_marks_42 : decode b_Mo_marks 42 = .ok (.iload_n 1, 1) := by decide +kernel
theorem d_Mo_marks_43 : decode b_Mo_marks 43 = .ok (.imul, 1) := by decide +kernel
theorem d_Mo_marks_44 : decode b_Mo_marks 44 = .ok (.iload_n 2, 1) := by decide +kernel
theorem d_Mo_marks_45 : decode b_Mo_marks 45 = .ok (.iadd, 1) := by decide +kernel
theorem d_Mo_marks_46 : decode b_Mo_marks 46 = .ok (.iaload, 1) := by decide +kernel
theorem d_Mo_marks_47 : decode b_Mo_marks 47 = .ok (.ifCond .ne 7, 3) := by decide +kernel
theorem d_Mo_marks_50 : decode b_Mo_marks 50 = .ok (.iconst (-1), 1) := by decide +kernel
theorem d_Mo_marks_51 : decode b_Mo_marks 51 = .ok (.goto 14, 3) := by decide +kernel
theorem d_Mo_marks_54 : decode b_Mo_marks 54 = .ok (.aload_n 0, 1) := by decide +kernel
theorem d_Mo_marks_55 : decode b_Mo_marks 55 = .ok (.getfield 75, 3) := by decide +kernel
theorem d_Mo_marks_58 : decode b_Mo_marks 58 = .ok (.bipush 40, 2) := by decide +kernel
theorem d_Mo_marks_60 : decode b_Mo_marks 60 = .ok (.iload_n 1, 1) := by decide +kernel
theorem d_Mo_marks_61 : decode b_Mo_marks 61 = .ok (.imul, 1) := by decide +kernel
theorem d_Mo_marks_62 : decode b_Mo_marks 62 = .ok (.iload_n 2, 1) := by decide +kernel
theorem d_Mo_marks_63 : decode b_Mo_marks 63 = .ok (.iadd, 1) := by decide +kernel
theorem d_Mo_marks_64 : decode b_Mo_marks 64 = .ok (.iaload, 1) := by decide +kernel
theorem d_Mo_marks_65 : decode b_Mo_marks 65 = .ok (.ireturn, 1) := by decide +kernel
theorem d_Mo_faults_0 : decode b_Mo_faults 0 = .ok (.aload_n 0, 1) := by decide +kernel
theorem d_Mo_faults_1 : decode b_Mo_faults 1 = .ok (.iconst 0, 1) := by decide +kernel
theorem d_Mo_faults_2 : decode b_Mo_faults 2 = .ok (.putfield 78, 3) := by decide +kernel
theorem d_Mo_faults_5 : decode b_Mo_faults 5 = .ok (.aload_n 0, 1) := by decide +kernel
theorem d_Mo_faults_6 : decode b_Mo_faults 6 = .ok (.getfield 245, 3) := by decide +kernel
theorem d_Mo_faults_9 : decode b_Mo_faults 9 = .ok (.ireturn, 1) := by decide +kernel
theorem d_Mo_fault_0 : decode b_Mo_fault 0 = .ok (.aload_n 0, 1) := by decide +kernel
theorem d_Mo_fault_1 : decode b_Mo_fault 1 = .ok (.iload_n 1, 1) := by decide +kernel
theorem d_Mo_fault_2 : decode b_Mo_fault 2 = .ok (.ifCond .lt 11, 3) := by decide +kernel
theorem d_Mo_fault_5 : decode b_Mo_fault 5 = .ok (.iload_n 1, 1) := by decide +kernel
theorem d_Mo_fault_6 : decode b_Mo_fault 6 = .ok (.aload_n 0, 1) := by decide +kernel
theorem d_Mo_fault_7 : decode b_Mo_fault 7 = .ok (.getfield 245, 3) := by decide +kernel
theorem d_Mo_fault_10 : decode b_Mo_fault 10 = .ok (.if_icmp .lt 7, 3) := by decide +kernel
theorem d_Mo_fault_13 : decode b_Mo_fault 13 = .ok (.iconst 1, 1) := by decide +kernel
theorem d_Mo_fault_14 : decode b_Mo_fault 14 = .ok (.goto 4, 3) := by decide +kernel
theorem d_Mo_fault_17 : decode b_Mo_fault 17 = .ok (.iconst 0, 1) := by decide +kernel
theorem d_Mo_fault_18 : decode b_Mo_fault 18 = .ok (.putfield 78, 3) := by decide +kernel
theorem d_Mo_fault_21 : decode b_Mo_fault 21 = .ok (.iload_n 1, 1) := by decide +kernel
theorem d_Mo_fault_22 : decode b_Mo_fault 22 = .ok (.istore_n 2, 1) := by decide +kernel
theorem d_Mo_fault_23 : decode b_Mo_fault 23 = .ok (.iconst 0, 1) := by decide +kernel
theorem d_Mo_fault_24 : decode b_Mo_fault 24 = .ok (.istore_n 3, 1) := by decide +kernel
theorem d_Mo_fault_25 : decode b_Mo_fault 25 = .ok (.iload_n 3, 1) := by decide +kernel
theorem d_Mo_fault_26 : decode b_Mo_fault 26 = .ok (.sipush 960, 3) := by decide +kernel
theorem d_Mo_fault_29 : decode b_Mo_fault 29 = .ok (.if_icmp .ge 112, 3) := by decide +kernel
theorem d_Mo_fault_32 : decode b_Mo_fault 32 = .ok (.aload_n 0, 1) := by decide +kernel
theorem d_Mo_fault_33 : decode b_Mo_fault 33 = .ok (.getfield 78, 3) := by decide +kernel
theorem d_Mo_fault_36 : decode b_Mo_fault 36 = .ok (.ifCond .ne 105, 3) := by decide +kernel
theorem d_Mo_fault_39 : decode b_Mo_fault 39 = .ok (.iload_n 3, 1) := by decide +kernel
theorem d_Mo_fault_40 : decode b_Mo_fault 40 = .ok (.bipush 24, 2) := by decide +kernel
theorem d_Mo_fault_42 : decode b_Mo_fault 42 = .ok (.idiv, 1) := by decide +kernel
theorem d_Mo_fault_43 : decode b_Mo_fault 43 = .ok (.istore 4, 2) := by decide +kernel
theorem d_Mo_fault_45 : decode b_Mo_fault 45 = .ok (.iload_n 3, 1) := by decide +kernel
theorem d_Mo_fault_46 : decode b_Mo_fault 46 = .ok (.bipush 24, 2) := by decide +kernel
theorem d_Mo_fault_48 : decode b_Mo_fault 48 = .ok (.irem, 1) := by decide +kernel
theorem d_Mo_fault_49 : decode b_Mo_fault 49 = .ok (.istore 5, 2) := by decide +kernel
theorem d_Mo_fault_51 : decode b_Mo_fault 51 = .ok (.iconst 0, 1) := by decide +kernel
theorem d_Mo_fault_52 : decode b_Mo_fault 52 = .ok (.istore 6, 2) := by decide +kernel
theorem d_Mo_fault_54 : decode b_Mo_fault 54 = .ok (.iload 6, 2) := by decide +kernel
theorem d_Mo_fault_56 : decode b_Mo_fault 56 = .ok (.bipush 36, 2) := by decide +kernel
theorem d_Mo_fault_58 : decode b_Mo_fault 58 = .ok (.if_icmp .ge 77, 3) := by decide +kernel
theorem d_Mo_fault_61 : decode b_Mo_fault 61 = .ok (.aload_n 0, 1) := by decide +kernel
theorem d_Mo_fault_62 : decode b_Mo_fault 62 = .ok (.getfield 72, 3) := by decide +kernel
theorem d_Mo_fault_65 : decode b_Mo_fault 65 = .ok (.bipush 40, 2) := by decide +kernel
theorem d_Mo_fault_67 : decode b_Mo_fault 67 = .ok (.iload 5, 2) := by decide +kernel
theorem d_Mo_fault_69 : decode b_Mo_fault 69 = .ok (.imul, 1) := by decide +kernel
theorem d_Mo_fault_70 : decode b_Mo_fault 70 = .ok (.iload 4, 2) := by decide +kernel
theorem d_Mo_fault_72 : decode b_Mo_fault 72 = .ok (.iadd, 1) := by decide +kernel
theorem d_Mo_fault_73 : decode b_Mo_fault 73 = .ok (.laload, 1) := by decide +kernel
theorem d_Mo_fault_74 : decode b_Mo_fault 74 = .ok (.iload 6, 2) := by decide +kernel
theorem d_Mo_fault_76 : decode b_Mo_fault 76 = .ok (.lshr, 1) := by decide +kernel
theorem d_Mo_fault_77 : decode b_Mo_fault 77 = .ok (.lconst 1, 1) := by decide +kernel
theorem d_Mo_fault_78 : decode b_Mo_fault 78 = .ok (.land, 1) := by decide +kernel
theorem d_Mo_fault_79 : decode b_Mo_fault 79 = .ok (.lconst 1, 1) := by decide +kernel
theorem d_Mo_fault_80 : decode b_Mo_fault 80 = .ok (.lcmp, 1) := by decide +kernel
theorem d_Mo_fault_81 : decode b_Mo_fault 81 = .ok (.ifCond .ne 7, 3) := by decide +kernel
theorem d_Mo_fault_84 : decode b_Mo_fault 84 = .ok (.iconst 1, 1) := by decide +kernel
theorem d_Mo_fault_85 : decode b_Mo_fault 85 = .ok (.goto 4, 3) := by decide +kernel
theorem d_Mo_fault_88 : decode b_Mo_fault 88 = .ok (.iconst 0, 1) := by decide +kernel
theorem d_Mo_fault_89 : decode b_Mo_fault 89 = .ok (.istore 7, 2) := by decide +kernel
theorem d_Mo_fault_91 : decode b_Mo_fault 91 = .ok (.iload 7, 2) := by decide +kernel
theorem d_Mo_fault_93 : decode b_Mo_fault 93 = .ok (.ifCond .eq 23, 3) := by decide +kernel
theorem d_Mo_fault_96 : decode b_Mo_fault 96 = .ok (.iload_n 2, 1) := by decide +kernel
theorem d_Mo_fault_97 : decode b_Mo_fault 97 = .ok (.ifCond .ne 19, 3) := by decide +kernel
theorem d_Mo_fault_100 : decode b_Mo_fault 100 = .ok (.sipush 10000, 3) := by decide +kernel
theorem d_Mo_fault_103 : decode b_Mo_fault 103 = .ok (.iload 4, 2) := by decide +kernel
theorem d_Mo_fault_105 : decode b_Mo_fault 105 = .ok (.imul, 1) := by decide +kernel
theorem d_Mo_fault_106 : decode b_Mo_fault 106 = .ok (.bipush 100, 2) := by decide +kernel
theorem d_Mo_fault_108 : decode b_Mo_fault 108 = .ok (.iload 5, 2) := by decide +kernel
theorem d_Mo_fault_110 : decode b_Mo_fault 110 = .ok (.imul, 1) := by decide +kernel
theorem d_Mo_fault_111 : decode b_Mo_fault 111 = .ok (.iadd, 1) := by decide +kernel
theorem d_Mo_fault_112 : decode b_Mo_fault 112 = .ok (.iload 6, 2) := by decide +kernel
theorem d_Mo_fault_114 : decode b_Mo_fault 114 = .ok (.iadd, 1) := by decide +kernel
theorem d_Mo_fault_115 : decode b_Mo_fault 115 = .ok (.ireturn, 1) := by decide +kernel
theorem d_Mo_fault_116 : decode b_Mo_fault 116 = .ok (.iload_n 2, 1) := by decide +kernel
theorem d_Mo_fault_117 : decode b_Mo_fault 117 = .ok (.iload 7, 2) := by decide +kernel
theorem d_Mo_fault_119 : decode b_Mo_fault 119 = .ok (.ifCond .eq 7, 3) := by decide +kernel
theorem d_Mo_fault_122 : decode b_Mo_fault 122 = .ok (.iconst 1, 1) := by decide +kernel
theorem d_Mo_fault_123 : decode b_Mo_fault 123 = .ok (.goto 4, 3) := by decide +kernel
theorem d_Mo_fault_126 : decode b_Mo_fault 126 = .ok (.iconst 0, 1) := by decide +kernel
theorem d_Mo_fault_127 : decode b_Mo_fault 127 = .ok (.isub, 1) := by decide +kernel
theorem d_Mo_fault_128 : decode b_Mo_fault 128 = .ok (.istore_n 2, 1) := by decide +kernel
theorem d_Mo_fault_129 : decode b_Mo_fault 129 = .ok (.iinc 6 1, 3) := by decide +kernel
theorem d_Mo_fault_132 : decode b_Mo_fault 132 = .ok (.goto (-78), 3) := by decide +kernel
theorem d_Mo_fault_135 : decode b_Mo_fault 135 = .ok (.iinc 3 1, 3) := by decide +kernel
theorem d_Mo_fault_138 : decode b_Mo_fault 138 = .ok (.goto (-113), 3) := by decide +kernel
theorem d_Mo_fault_141 : decode b_Mo_fault 141 = .ok (.iconst 0, 1) := by decide +kernel
theorem d_Mo_fault_142 : decode b_Mo_fault 142 = .ok (.ireturn, 1) := by decide +kernel
