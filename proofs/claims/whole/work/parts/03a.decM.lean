theorem dX11_init_0 : decode cX11_init 0 = .ok (.aload_n 0, 1) := by decide +kernel
theorem dX11_init_1 : decode cX11_init 1 = .ok (.invokespecial 1, 3) := by decide +kernel
theorem dX11_init_4 : decode cX11_init 4 = .ok (.aload_n 0, 1) := by decide +kernel
theorem dX11_init_5 : decode cX11_init 5 = .ok (.bipush 40, 2) := by decide +kernel
theorem dX11_init_7 : decode cX11_init 7 = .ok (.newarray .int, 2) := by decide +kernel
theorem dX11_init_9 : decode cX11_init 9 = .ok (.putfield 7, 3) := by decide +kernel
theorem dX11_init_12 : decode cX11_init 12 = .ok (.aload_n 0, 1) := by decide +kernel
theorem dX11_init_13 : decode cX11_init 13 = .ok (.bipush 40, 2) := by decide +kernel
theorem dX11_init_15 : decode cX11_init 15 = .ok (.newarray .int, 2) := by decide +kernel
theorem dX11_init_17 : decode cX11_init 17 = .ok (.putfield 13, 3) := by decide +kernel
theorem dX11_init_20 : decode cX11_init 20 = .ok (.aload_n 0, 1) := by decide +kernel
theorem dX11_init_21 : decode cX11_init 21 = .ok (.bipush 40, 2) := by decide +kernel
theorem dX11_init_23 : decode cX11_init 23 = .ok (.newarray .int, 2) := by decide +kernel
theorem dX11_init_25 : decode cX11_init 25 = .ok (.putfield 16, 3) := by decide +kernel
theorem dX11_init_28 : decode cX11_init 28 = .ok (.aload_n 0, 1) := by decide +kernel
theorem dX11_init_29 : decode cX11_init 29 = .ok (.bipush 40, 2) := by decide +kernel
theorem dX11_init_31 : decode cX11_init 31 = .ok (.newarray .int, 2) := by decide +kernel
theorem dX11_init_33 : decode cX11_init 33 = .ok (.putfield 19, 3) := by decide +kernel
theorem dX11_init_36 : decode cX11_init 36 = .ok (.aload_n 0, 1) := by decide +kernel
theorem dX11_init_37 : decode cX11_init 37 = .ok (.bipush 40, 2) := by decide +kernel
theorem dX11_init_39 : decode cX11_init 39 = .ok (.newarray .int, 2) := by decide +kernel
theorem dX11_init_41 : decode cX11_init 41 = .ok (.putfield 22, 3) := by decide +kernel
theorem dX11_init_44 : decode cX11_init 44 = .ok (.aload_n 0, 1) := by decide +kernel
theorem dX11_init_45 : decode cX11_init 45 = .ok (.bipush 6, 2) := by decide +kernel
theorem dX11_init_47 : decode cX11_init 47 = .ok (.newarray .int, 2) := by decide +kernel
theorem dX11_init_49 : decode cX11_init 49 = .ok (.putfield 25, 3) := by decide +kernel
theorem dX11_init_52 : decode cX11_init 52 = .ok (.aload_n 0, 1) := by decide +kernel
theorem dX11_init_53 : decode cX11_init 53 = .ok (.bipush 12, 2) := by decide +kernel
theorem dX11_init_55 : decode cX11_init 55 = .ok (.newarray .int, 2) := by decide +kernel
theorem dX11_init_57 : decode cX11_init 57 = .ok (.putfield 28, 3) := by decide +kernel
theorem dX11_init_60 : decode cX11_init 60 = .ok (.aload_n 0, 1) := by decide +kernel
theorem dX11_init_61 : decode cX11_init 61 = .ok (.iconst 4, 1) := by decide +kernel
theorem dX11_init_62 : decode cX11_init 62 = .ok (.newarray .int, 2) := by decide +kernel
theorem dX11_init_64 : decode cX11_init 64 = .ok (.putfield 31, 3) := by decide +kernel
theorem dX11_init_67 : decode cX11_init 67 = .ok (.aload_n 0, 1) := by decide +kernel
theorem dX11_init_68 : decode cX11_init 68 = .ok (.iconst 4, 1) := by decide +kernel
theorem dX11_init_69 : decode cX11_init 69 = .ok (.newarray .int, 2) := by decide +kernel
theorem dX11_init_71 : decode cX11_init 71 = .ok (.putfield 34, 3) := by decide +kernel
theorem dX11_init_74 : decode cX11_init 74 = .ok (.aload_n 0, 1) := by decide +kernel
theorem dX11_init_75 : decode cX11_init 75 = .ok (.bipush 36, 2) := by decide +kernel
theorem dX11_init_77 : decode cX11_init 77 = .ok (.newarray .int, 2) := by decide +kernel
theorem dX11_init_79 : decode cX11_init 79 = .ok (.putfield 37, 3) := by decide +kernel
theorem dX11_init_82 : decode cX11_init 82 = .ok (.aload_n 0, 1) := by decide +kernel
theorem dX11_init_83 : decode cX11_init 83 = .ok (.bipush 16, 2) := by decide +kernel
theorem dX11_init_85 : decode cX11_init 85 = .ok (.newarray .int, 2) := by decide +kernel
theorem dX11_init_87 : decode cX11_init 87 = .ok (.putfield 40, 3) := by decide +kernel
theorem dX11_init_90 : decode cX11_init 90 = .ok (.aload_n 0, 1) := by decide +kernel
theorem dX11_init_91 : decode cX11_init 91 = .ok (.bipush 16, 2) := by decide +kernel
theorem dX11_init_93 : decode cX11_init 93 = .ok (.newarray .int, 2) := by decide +kernel
theorem dX11_init_95 : decode cX11_init 95 = .ok (.putfield 43, 3) := by decide +kernel
theorem dX11_init_98 : decode cX11_init 98 = .ok (.aload_n 0, 1) := by decide +kernel
theorem dX11_init_99 : decode cX11_init 99 = .ok (.bipush 16, 2) := by decide +kernel
theorem dX11_init_101 : decode cX11_init 101 = .ok (.newarray .int, 2) := by decide +kernel
theorem dX11_init_103 : decode cX11_init 103 = .ok (.putfield 46, 3) := by decide +kernel
theorem dX11_init_106 : decode cX11_init 106 = .ok (.aload_n 0, 1) := by decide +kernel
theorem dX11_init_107 : decode cX11_init 107 = .ok (.bipush 16, 2) := by decide +kernel
theorem dX11_init_109 : decode cX11_init 109 = .ok (.newarray .int, 2) := by decide +kernel
theorem dX11_init_111 : decode cX11_init 111 = .ok (.putfield 49, 3) := by decide +kernel
theorem dX11_init_114 : decode cX11_init 114 = .ok (.aload_n 0, 1) := by decide +kernel
theorem dX11_init_115 : decode cX11_init 115 = .ok (.bipush 16, 2) := by decide +kernel
theorem dX11_init_117 : decode cX11_init 117 = .ok (.newarray .int, 2) := by decide +kernel
theorem dX11_init_119 : decode cX11_init 119 = .ok (.putfield 52, 3) := by decide +kernel
theorem dX11_init_122 : decode cX11_init 122 = .ok (.aload_n 0, 1) := by decide +kernel
theorem dX11_init_123 : decode cX11_init 123 = .ok (.bipush 6, 2) := by decide +kernel
theorem dX11_init_125 : decode cX11_init 125 = .ok (.newarray .int, 2) := by decide +kernel
theorem dX11_init_127 : decode cX11_init 127 = .ok (.putfield 55, 3) := by decide +kernel
theorem dX11_init_130 : decode cX11_init 130 = .ok (.aload_n 0, 1) := by decide +kernel
theorem dX11_init_131 : decode cX11_init 131 = .ok (.bipush 6, 2) := by decide +kernel
theorem dX11_init_133 : decode cX11_init 133 = .ok (.newarray .int, 2) := by decide +kernel
theorem dX11_init_135 : decode cX11_init 135 = .ok (.putfield 58, 3) := by decide +kernel
theorem dX11_init_138 : decode cX11_init 138 = .ok (.aload_n 0, 1) := by decide +kernel
theorem dX11_init_139 : decode cX11_init 139 = .ok (.sipush 300, 3) := by decide +kernel
theorem dX11_init_142 : decode cX11_init 142 = .ok (.newarray .byte, 2) := by decide +kernel
theorem dX11_init_144 : decode cX11_init 144 = .ok (.putfield 61, 3) := by decide +kernel
theorem dX11_init_147 : decode cX11_init 147 = .ok (.aload_n 0, 1) := by decide +kernel
theorem dX11_init_148 : decode cX11_init 148 = .ok (.iconst (-1), 1) := by decide +kernel
theorem dX11_init_149 : decode cX11_init 149 = .ok (.putfield 65, 3) := by decide +kernel
theorem dX11_init_152 : decode cX11_init 152 = .ok (.aload_n 0, 1) := by decide +kernel
theorem dX11_init_153 : decode cX11_init 153 = .ok (.iconst 4, 1) := by decide +kernel
theorem dX11_init_154 : decode cX11_init 154 = .ok (.newarray .int, 2) := by decide +kernel
theorem dX11_init_156 : decode cX11_init 156 = .ok (.putfield 69, 3) := by decide +kernel
theorem dX11_init_159 : decode cX11_init 159 = .ok (.aload_n 0, 1) := by decide +kernel
theorem dX11_init_160 : decode cX11_init 160 = .ok (.bipush 16, 2) := by decide +kernel
theorem dX11_init_162 : decode cX11_init 162 = .ok (.newarray .int, 2) := by decide +kernel
theorem dX11_init_164 : decode cX11_init 164 = .ok (.putfield 72, 3) := by decide +kernel
theorem dX11_init_167 : decode cX11_init 167 = .ok (.aload_n 0, 1) := by decide +kernel
theorem dX11_init_168 : decode cX11_init 168 = .ok (.bipush 16, 2) := by decide +kernel
theorem dX11_init_170 : decode cX11_init 170 = .ok (.newarray .boolean, 2) := by decide +kernel
theorem dX11_init_172 : decode cX11_init 172 = .ok (.putfield 75, 3) := by decide +kernel
theorem dX11_init_175 : decode cX11_init 175 = .ok (.aload_n 0, 1) := by decide +kernel
theorem dX11_init_176 : decode cX11_init 176 = .ok (.bipush 64, 2) := by decide +kernel
theorem dX11_init_178 : decode cX11_init 178 = .ok (.newarray .boolean, 2) := by decide +kernel
theorem dX11_init_180 : decode cX11_init 180 = .ok (.putfield 79, 3) := by decide +kernel
theorem dX11_init_183 : decode cX11_init 183 = .ok (.aload_n 0, 1) := by decide +kernel
theorem dX11_init_184 : decode cX11_init 184 = .ok (.sipush 384, 3) := by decide +kernel
theorem dX11_init_187 : decode cX11_init 187 = .ok (.newarray .int, 2) := by decide +kernel
theorem dX11_init_189 : decode cX11_init 189 = .ok (.putfield 82, 3) := by decide +kernel
theorem dX11_init_192 : decode cX11_init 192 = .ok (.aload_n 0, 1) := by decide +kernel
theorem dX11_init_193 : decode cX11_init 193 = .ok (.sipush 384, 3) := by decide +kernel
theorem dX11_init_196 : decode cX11_init 196 = .ok (.newarray .int, 2) := by decide +kernel
theorem dX11_init_198 : decode cX11_init 198 = .ok (.putfield 85, 3) := by decide +kernel
theorem dX11_init_201 : decode cX11_init 201 = .ok (.aload_n 0, 1) := by decide +kernel
theorem dX11_init_202 : decode cX11_init 202 = .ok (.bipush 64, 2) := by decide +kernel
theorem dX11_init_204 : decode cX11_init 204 = .ok (.newarray .int, 2) := by decide +kernel
theorem dX11_init_206 : decode cX11_init 206 = .ok (.putfield 88, 3) := by decide +kernel
theorem dX11_init_209 : decode cX11_init 209 = .ok (.aload_n 0, 1) := by decide +kernel
theorem dX11_init_210 : decode cX11_init 210 = .ok (.bipush 64, 2) := by decide +kernel
theorem dX11_init_212 : decode cX11_init 212 = .ok (.newarray .int, 2) := by decide +kernel
theorem dX11_init_214 : decode cX11_init 214 = .ok (.putfield 91, 3) := by decide +kernel
theorem dX11_init_217 : decode cX11_init 217 = .ok (.aload_n 0, 1) := by decide +kernel
theorem dX11_init_218 : decode cX11_init 218 = .ok (.bipush 20, 2) := by decide +kernel
theorem dX11_init_220 : decode cX11_init 220 = .ok (.newarray .int, 2) := by decide +kernel
theorem dX11_init_222 : decode cX11_init 222 = .ok (.putfield 94, 3) := by decide +kernel
theorem dX11_init_225 : decode cX11_init 225 = .ok (.aload_n 0, 1) := by decide +kernel
theorem dX11_init_226 : decode cX11_init 226 = .ok (.bipush 16, 2) := by decide +kernel
theorem dX11_init_228 : decode cX11_init 228 = .ok (.newarray .int, 2) := by decide +kernel
theorem dX11_init_230 : decode cX11_init 230 = .ok (.putfield 97, 3) := by decide +kernel
theorem dX11_init_233 : decode cX11_init 233 = .ok (.iconst 0, 1) := by decide +kernel
theorem dX11_init_234 : decode cX11_init 234 = .ok (.istore_n 1, 1) := by decide +kernel
theorem dX11_init_235 : decode cX11_init 235 = .ok (.iload_n 1, 1) := by decide +kernel
theorem dX11_init_236 : decode cX11_init 236 = .ok (.iconst 4, 1) := by decide +kernel
theorem dX11_init_237 : decode cX11_init 237 = .ok (.if_icmp .ge 16, 3) := by decide +kernel
theorem dX11_init_240 : decode cX11_init 240 = .ok (.aload_n 0, 1) := by decide +kernel
theorem dX11_init_241 : decode cX11_init 241 = .ok (.getfield 31, 3) := by decide +kernel
theorem dX11_init_244 : decode cX11_init 244 = .ok (.iload_n 1, 1) := by decide +kernel
theorem dX11_init_245 : decode cX11_init 245 = .ok (.iconst 3, 1) := by decide +kernel
theorem dX11_init_246 : decode cX11_init 246 = .ok (.iastore, 1) := by decide +kernel
theorem dX11_init_247 : decode cX11_init 247 = .ok (.iinc 1 1, 3) := by decide +kernel
theorem dX11_init_250 : decode cX11_init 250 = .ok (.goto (-15), 3) := by decide +kernel
theorem dX11_init_253 : decode cX11_init 253 = .ok (.aload_n 0, 1) := by decide +kernel
theorem dX11_init_254 : decode cX11_init 254 = .ok (.invokevirtual 100, 3) := by decide +kernel
theorem dX11_init_257 : decode cX11_init 257 = .ok (.aload_n 0, 1) := by decide +kernel
theorem dX11_init_258 : decode cX11_init 258 = .ok (.invokevirtual 103, 3) := by decide +kernel
theorem dX11_init_261 : decode cX11_init 261 = .ok (.return_, 1) := by decide +kernel
theorem dX11_thrown_0 : decode cX11_thrown 0 = .ok (.aload_n 0, 1) := by decide +kernel
theorem dX11_thrown_1 : decode cX11_thrown 1 = .ok (.getfield 106, 3) := by decide +kernel
theorem dX11_thrown_4 : decode cX11_thrown 4 = .ok (.ireturn, 1) := by decide +kernel
theorem dX11_within_0 : decode cX11_within 0 = .ok (.iload_n 0, 1) := by decide +kernel
theorem dX11_within_1 : decode cX11_within 1 = .ok (.iload_n 1, 1) := by decide +kernel
theorem dX11_within_2 : decode cX11_within 2 = .ok (.if_icmp .lt 12, 3) := by decide +kernel
theorem dX11_within_5 : decode cX11_within 5 = .ok (.iload_n 0, 1) := by decide +kernel
theorem dX11_within_6 : decode cX11_within 6 = .ok (.iload_n 2, 1) := by decide +kernel
theorem dX11_within_7 : decode cX11_within 7 = .ok (.if_icmp .gt 7, 3) := by decide +kernel
theorem dX11_within_10 : decode cX11_within 10 = .ok (.iconst 1, 1) := by decide +kernel
theorem dX11_within_11 : decode cX11_within 11 = .ok (.goto 4, 3) := by decide +kernel
theorem dX11_within_14 : decode cX11_within 14 = .ok (.iconst 0, 1) := by decide +kernel
theorem dX11_within_15 : decode cX11_within 15 = .ok (.ireturn, 1) := by decide +kernel
theorem dX11_track_0 : decode cX11_track 0 = .ok (.aload_n 0, 1) := by decide +kernel
theorem dX11_track_1 : decode cX11_track 1 = .ok (.iconst 0, 1) := by decide +kernel
theorem dX11_track_2 : decode cX11_track 2 = .ok (.putfield 106, 3) := by decide +kernel
theorem dX11_track_5 : decode cX11_track 5 = .ok (.iload_n 1, 1) := by decide +kernel
theorem dX11_track_6 : decode cX11_track 6 = .ok (.iconst 5, 1) := by decide +kernel
theorem dX11_track_7 : decode cX11_track 7 = .ok (.bipush 40, 2) := by decide +kernel
theorem dX11_track_9 : decode cX11_track 9 = .ok (.invokestatic 109, 3) := by decide +kernel
theorem dX11_track_12 : decode cX11_track 12 = .ok (.ifCond .eq 20, 3) := by decide +kernel
theorem dX11_track_15 : decode cX11_track 15 = .ok (.iload_n 2, 1) := by decide +kernel
theorem dX11_track_16 : decode cX11_track 16 = .ok (.iconst 2, 1) := by decide +kernel
theorem dX11_track_17 : decode cX11_track 17 = .ok (.bipush 6, 2) := by decide +kernel
theorem dX11_track_19 : decode cX11_track 19 = .ok (.invokestatic 109, 3) := by decide +kernel
theorem dX11_track_22 : decode cX11_track 22 = .ok (.ifCond .eq 10, 3) := by decide +kernel
theorem dX11_track_25 : decode cX11_track 25 = .ok (.aload_n 0, 1) := by decide +kernel
theorem dX11_track_26 : decode cX11_track 26 = .ok (.getfield 113, 3) := by decide +kernel
theorem dX11_track_29 : decode cX11_track 29 = .ok (.ifCond .eq 5, 3) := by decide +kernel
theorem dX11_track_32 : decode cX11_track 32 = .ok (.iconst 0, 1) := by decide +kernel
theorem dX11_track_33 : decode cX11_track 33 = .ok (.ireturn, 1) := by decide +kernel
theorem dX11_track_34 : decode cX11_track 34 = .ok (.aload_n 0, 1) := by decide +kernel
theorem dX11_track_35 : decode cX11_track 35 = .ok (.iload_n 1, 1) := by decide +kernel
theorem dX11_track_36 : decode cX11_track 36 = .ok (.putfield 117, 3) := by decide +kernel
theorem dX11_track_39 : decode cX11_track 39 = .ok (.aload_n 0, 1) := by decide +kernel
theorem dX11_track_40 : decode cX11_track 40 = .ok (.iload_n 2, 1) := by decide +kernel
theorem dX11_track_41 : decode cX11_track 41 = .ok (.putfield 120, 3) := by decide +kernel
theorem dX11_track_44 : decode cX11_track 44 = .ok (.iconst 0, 1) := by decide +kernel
theorem dX11_track_45 : decode cX11_track 45 = .ok (.istore_n 3, 1) := by decide +kernel
theorem dX11_track_46 : decode cX11_track 46 = .ok (.iload_n 3, 1) := by decide +kernel
theorem dX11_track_47 : decode cX11_track 47 = .ok (.iload_n 1, 1) := by decide +kernel
theorem dX11_track_48 : decode cX11_track 48 = .ok (.if_icmp .ge 48, 3) := by decide +kernel
theorem dX11_track_51 : decode cX11_track 51 = .ok (.aload_n 0, 1) := by decide +kernel
theorem dX11_track_52 : decode cX11_track 52 = .ok (.getfield 7, 3) := by decide +kernel
theorem dX11_track_55 : decode cX11_track 55 = .ok (.iload_n 3, 1) := by decide +kernel
theorem dX11_track_56 : decode cX11_track 56 = .ok (.sipush 200, 3) := by decide +kernel
theorem dX11_track_59 : decode cX11_track 59 = .ok (.iastore, 1) := by decide +kernel
theorem dX11_track_60 : decode cX11_track 60 = .ok (.aload_n 0, 1) := by decide +kernel
theorem dX11_track_61 : decode cX11_track 61 = .ok (.getfield 13, 3) := by decide +kernel
theorem dX11_track_64 : decode cX11_track 64 = .ok (.iload_n 3, 1) := by decide +kernel
theorem dX11_track_65 : decode cX11_track 65 = .ok (.iconst 0, 1) := by decide +kernel
theorem dX11_track_66 : decode cX11_track 66 = .ok (.iastore, 1) := by decide +kernel
theorem dX11_track_67 : decode cX11_track 67 = .ok (.aload_n 0, 1) := by decide +kernel
theorem dX11_track_68 : decode cX11_track 68 = .ok (.getfield 16, 3) := by decide +kernel
theorem dX11_track_71 : decode cX11_track 71 = .ok (.iload_n 3, 1) := by decide +kernel
theorem dX11_track_72 : decode cX11_track 72 = .ok (.iconst 0, 1) := by decide +kernel
theorem dX11_track_73 : decode cX11_track 73 = .ok (.iastore, 1) := by decide +kernel
theorem dX11_track_74 : decode cX11_track 74 = .ok (.aload_n 0, 1) := by decide +kernel
theorem dX11_track_75 : decode cX11_track 75 = .ok (.getfield 19, 3) := by decide +kernel
theorem dX11_track_78 : decode cX11_track 78 = .ok (.iload_n 3, 1) := by decide +kernel
theorem dX11_track_79 : decode cX11_track 79 = .ok (.sipush 500, 3) := by decide +kernel
theorem dX11_track_82 : decode cX11_track 82 = .ok (.iastore, 1) := by decide +kernel
theorem dX11_track_83 : decode cX11_track 83 = .ok (.aload_n 0, 1) := by decide +kernel
theorem dX11_track_84 : decode cX11_track 84 = .ok (.getfield 22, 3) := by decide +kernel
theorem dX11_track_87 : decode cX11_track 87 = .ok (.iload_n 3, 1) := by decide +kernel
theorem dX11_track_88 : decode cX11_track 88 = .ok (.iconst 0, 1) := by decide +kernel
theorem dX11_track_89 : decode cX11_track 89 = .ok (.iastore, 1) := by decide +kernel
theorem dX11_track_90 : decode cX11_track 90 = .ok (.iinc 3 1, 3) := by decide +kernel
theorem dX11_track_93 : decode cX11_track 93 = .ok (.goto (-47), 3) := by decide +kernel
theorem dX11_track_96 : decode cX11_track 96 = .ok (.iconst 0, 1) := by decide +kernel
theorem dX11_track_97 : decode cX11_track 97 = .ok (.istore_n 3, 1) := by decide +kernel
theorem dX11_track_98 : decode cX11_track 98 = .ok (.iload_n 3, 1) := by decide +kernel
theorem dX11_track_99 : decode cX11_track 99 = .ok (.iload_n 2, 1) := by decide +kernel
theorem dX11_track_100 : decode cX11_track 100 = .ok (.if_icmp .ge 22, 3) := by decide +kernel
theorem dX11_track_103 : decode cX11_track 103 = .ok (.aload_n 0, 1) := by decide +kernel
theorem dX11_track_104 : decode cX11_track 104 = .ok (.getfield 25, 3) := by decide +kernel
theorem dX11_track_107 : decode cX11_track 107 = .ok (.iload_n 3, 1) := by decide +kernel
theorem dX11_track_108 : decode cX11_track 108 = .ok (.iload_n 3, 1) := by decide +kernel
theorem dX11_track_109 : decode cX11_track 109 = .ok (.iload_n 1, 1) := by decide +kernel
theorem dX11_track_110 : decode cX11_track 110 = .ok (.imul, 1) := by decide +kernel
theorem dX11_track_111 : decode cX11_track 111 = .ok (.iload_n 2, 1) := by decide +kernel
theorem dX11_track_112 : decode cX11_track 112 = .ok (.iconst 1, 1) := by decide +kernel
theorem dX11_track_113 : decode cX11_track 113 = .ok (.isub, 1) := by decide +kernel
theorem dX11_track_114 : decode cX11_track 114 = .ok (.idiv, 1) := by decide +kernel
theorem dX11_track_115 : decode cX11_track 115 = .ok (.iastore, 1) := by decide +kernel
theorem dX11_track_116 : decode cX11_track 116 = .ok (.iinc 3 1, 3) := by decide +kernel
theorem dX11_track_119 : decode cX11_track 119 = .ok (.goto (-21), 3) := by decide +kernel
theorem dX11_track_122 : decode cX11_track 122 = .ok (.iconst 0, 1) := by decide +kernel
theorem dX11_track_123 : decode cX11_track 123 = .ok (.istore_n 3, 1) := by decide +kernel
theorem dX11_track_124 : decode cX11_track 124 = .ok (.iload_n 3, 1) := by decide +kernel
theorem dX11_track_125 : decode cX11_track 125 = .ok (.bipush 12, 2) := by decide +kernel
theorem dX11_track_127 : decode cX11_track 127 = .ok (.if_icmp .ge 16, 3) := by decide +kernel
theorem dX11_track_130 : decode cX11_track 130 = .ok (.aload_n 0, 1) := by decide +kernel
theorem dX11_track_131 : decode cX11_track 131 = .ok (.getfield 28, 3) := by decide +kernel
theorem dX11_track_134 : decode cX11_track 134 = .ok (.iload_n 3, 1) := by decide +kernel
theorem dX11_track_135 : decode cX11_track 135 = .ok (.iconst 0, 1) := by decide +kernel
theorem dX11_track_136 : decode cX11_track 136 = .ok (.iastore, 1) := by decide +kernel
theorem dX11_track_137 : decode cX11_track 137 = .ok (.iinc 3 1, 3) := by decide +kernel
theorem dX11_track_140 : decode cX11_track 140 = .ok (.goto (-16), 3) := by decide +kernel
theorem dX11_track_143 : decode cX11_track 143 = .ok (.iconst 1, 1) := by decide +kernel
theorem dX11_track_144 : decode cX11_track 144 = .ok (.ireturn, 1) := by decide +kernel
theorem dX11_isCell_0 : decode cX11_isCell 0 = .ok (.iload_n 1, 1) := by decide +kernel
theorem dX11_isCell_1 : decode cX11_isCell 1 = .ok (.iconst 0, 1) := by decide +kernel
theorem dX11_isCell_2 : decode cX11_isCell 2 = .ok (.aload_n 0, 1) := by decide +kernel
theorem dX11_isCell_3 : decode cX11_isCell 3 = .ok (.getfield 117, 3) := by decide +kernel
theorem dX11_isCell_6 : decode cX11_isCell 6 = .ok (.iconst 1, 1) := by decide +kernel
theorem dX11_isCell_7 : decode cX11_isCell 7 = .ok (.isub, 1) := by decide +kernel
theorem dX11_isCell_8 : decode cX11_isCell 8 = .ok (.invokestatic 109, 3) := by decide +kernel
theorem dX11_isCell_11 : decode cX11_isCell 11 = .ok (.ireturn, 1) := by decide +kernel
theorem dX11_bend_0 : decode cX11_bend 0 = .ok (.aload_n 0, 1) := by decide +kernel
theorem dX11_bend_1 : decode cX11_bend 1 = .ok (.iconst 0, 1) := by decide +kernel
theorem dX11_bend_2 : decode cX11_bend 2 = .ok (.putfield 106, 3) := by decide +kernel
theorem dX11_bend_5 : decode cX11_bend 5 = .ok (.aload_n 0, 1) := by decide +kernel
theorem dX11_bend_6 : decode cX11_bend 6 = .ok (.iload_n 1, 1) := by decide +kernel
theorem dX11_bend_7 : decode cX11_bend 7 = .ok (.invokevirtual 123, 3) := by decide +kernel
theorem dX11_bend_10 : decode cX11_bend 10 = .ok (.ifCond .eq 43, 3) := by decide +kernel
theorem dX11_bend_13 : decode cX11_bend 13 = .ok (.iload_n 2, 1) := by decide +kernel
theorem dX11_bend_14 : decode cX11_bend 14 = .ok (.bipush 50, 2) := by decide +kernel
theorem dX11_bend_16 : decode cX11_bend 16 = .ok (.sipush 500, 3) := by decide +kernel
theorem dX11_bend_19 : decode cX11_bend 19 = .ok (.invokestatic 109, 3) := by decide +kernel
theorem dX11_bend_22 : decode cX11_bend 22 = .ok (.ifCond .eq 31, 3) := by decide +kernel
theorem dX11_bend_25 : decode cX11_bend 25 = .ok (.iload_n 3, 1) := by decide +kernel
theorem dX11_bend_26 : decode cX11_bend 26 = .ok (.iconst 0, 1) := by decide +kernel
theorem dX11_bend_27 : decode cX11_bend 27 = .ok (.bipush 9, 2) := by decide +kernel
theorem dX11_bend_29 : decode cX11_bend 29 = .ok (.invokestatic 109, 3) := by decide +kernel
theorem dX11_bend_32 : decode cX11_bend 32 = .ok (.ifCond .eq 21, 3) := by decide +kernel
theorem dX11_bend_35 : decode cX11_bend 35 = .ok (.iload 4, 2) := by decide +kernel
theorem dX11_bend_37 : decode cX11_bend 37 = .ok (.iconst 0, 1) := by decide +kernel
theorem dX11_bend_38 : decode cX11_bend 38 = .ok (.bipush 9, 2) := by decide +kernel
theorem dX11_bend_40 : decode cX11_bend 40 = .ok (.invokestatic 109, 3) := by decide +kernel
theorem dX11_bend_43 : decode cX11_bend 43 = .ok (.ifCond .eq 10, 3) := by decide +kernel
theorem dX11_bend_46 : decode cX11_bend 46 = .ok (.aload_n 0, 1) := by decide +kernel
theorem dX11_bend_47 : decode cX11_bend 47 = .ok (.invokevirtual 127, 3) := by decide +kernel
theorem dX11_bend_50 : decode cX11_bend 50 = .ok (.ifCond .eq 5, 3) := by decide +kernel
theorem dX11_bend_53 : decode cX11_bend 53 = .ok (.iconst 0, 1) := by decide +kernel
theorem dX11_bend_54 : decode cX11_bend 54 = .ok (.ireturn, 1) := by decide +kernel
theorem dX11_bend_55 : decode cX11_bend 55 = .ok (.aload_n 0, 1) := by decide +kernel
theorem dX11_bend_56 : decode cX11_bend 56 = .ok (.getfield 7, 3) := by decide +kernel
theorem dX11_bend_59 : decode cX11_bend 59 = .ok (.iload_n 1, 1) := by decide +kernel
theorem dX11_bend_60 : decode cX11_bend 60 = .ok (.iload_n 2, 1) := by decide +kernel
theorem dX11_bend_61 : decode cX11_bend 61 = .ok (.iastore, 1) := by decide +kernel
theorem dX11_bend_62 : decode cX11_bend 62 = .ok (.aload_n 0, 1) := by decide +kernel
theorem dX11_bend_63 : decode cX11_bend 63 = .ok (.getfield 13, 3) := by decide +kernel
theorem dX11_bend_66 : decode cX11_bend 66 = .ok (.iload_n 1, 1) := by decide +kernel
theorem dX11_bend_67 : decode cX11_bend 67 = .ok (.iload_n 3, 1) := by decide +kernel
theorem dX11_bend_68 : decode cX11_bend 68 = .ok (.iastore, 1) := by decide +kernel
theorem dX11_bend_69 : decode cX11_bend 69 = .ok (.aload_n 0, 1) := by decide +kernel
theorem dX11_bend_70 : decode cX11_bend 70 = .ok (.getfield 16, 3) := by decide +kernel
theorem dX11_bend_73 : decode cX11_bend 73 = .ok (.iload_n 1, 1) := by decide +kernel
theorem dX11_bend_74 : decode cX11_bend 74 = .ok (.iload 4, 2) := by decide +kernel
theorem dX11_bend_76 : decode cX11_bend 76 = .ok (.iastore, 1) := by decide +kernel
theorem dX11_bend_77 : decode cX11_bend 77 = .ok (.iconst 1, 1) := by decide +kernel
theorem dX11_bend_78 : decode cX11_bend 78 = .ok (.ireturn, 1) := by decide +kernel
theorem dX11_bounded_0 : decode cX11_bounded 0 = .ok (.iload_n 0, 1) := by decide +kernel
theorem dX11_bounded_1 : decode cX11_bounded 1 = .ok (.iload_n 1, 1) := by decide +kernel
theorem dX11_bounded_2 : decode cX11_bounded 2 = .ok (.if_icmp .ge 7, 3) := by decide +kernel
theorem dX11_bounded_5 : decode cX11_bounded 5 = .ok (.iload_n 1, 1) := by decide +kernel
theorem dX11_bounded_6 : decode cX11_bounded 6 = .ok (.goto 13, 3) := by decide +kernel
theorem dX11_bounded_9 : decode cX11_bounded 9 = .ok (.iload_n 0, 1) := by decide +kernel
theorem dX11_bounded_10 : decode cX11_bounded 10 = .ok (.iload_n 2, 1) := by decide +kernel
theorem dX11_bounded_11 : decode cX11_bounded 11 = .ok (.if_icmp .le 7, 3) := by decide +kernel
theorem dX11_bounded_14 : decode cX11_bounded 14 = .ok (.iload_n 2, 1) := by decide +kernel
theorem dX11_bounded_15 : decode cX11_bounded 15 = .ok (.goto 4, 3) := by decide +kernel
theorem dX11_bounded_18 : decode cX11_bounded 18 = .ok (.iload_n 0, 1) := by decide +kernel
theorem dX11_bounded_19 : decode cX11_bounded 19 = .ok (.ireturn, 1) := by decide +kernel
theorem dX11_weather_0 : decode cX11_weather 0 = .ok (.aload_n 0, 1) := by decide +kernel
theorem dX11_weather_1 : decode cX11_weather 1 = .ok (.iconst 0, 1) := by decide +kernel
theorem dX11_weather_2 : decode cX11_weather 2 = .ok (.putfield 106, 3) := by decide +kernel
theorem dX11_weather_5 : decode cX11_weather 5 = .ok (.aload_n 0, 1) := by decide +kernel
theorem dX11_weather_6 : decode cX11_weather 6 = .ok (.getfield 117, 3) := by decide +kernel
theorem dX11_weather_9 : decode cX11_weather 9 = .ok (.ifCond .eq 34, 3) := by decide +kernel
theorem dX11_weather_12 : decode cX11_weather 12 = .ok (.iload_n 1, 1) := by decide +kernel
theorem dX11_weather_13 : decode cX11_weather 13 = .ok (.iconst 1, 1) := by decide +kernel
theorem dX11_weather_14 : decode cX11_weather 14 = .ok (.sipush 600, 3) := by decide +kernel
theorem dX11_weather_17 : decode cX11_weather 17 = .ok (.invokestatic 109, 3) := by decide +kernel
theorem dX11_weather_20 : decode cX11_weather 20 = .ok (.ifCond .eq 23, 3) := by decide +kernel
theorem dX11_weather_23 : decode cX11_weather 23 = .ok (.iload_n 2, 1) := by decide +kernel
theorem dX11_weather_24 : decode cX11_weather 24 = .ok (.bipush (-30), 2) := by decide +kernel
theorem dX11_weather_26 : decode cX11_weather 26 = .ok (.bipush 30, 2) := by decide +kernel
theorem dX11_weather_28 : decode cX11_weather 28 = .ok (.invokestatic 109, 3) := by decide +kernel
theorem dX11_weather_31 : decode cX11_weather 31 = .ok (.ifCond .eq 12, 3) := by decide +kernel
theorem dX11_weather_34 : decode cX11_weather 34 = .ok (.iload_n 3, 1) := by decide +kernel
theorem dX11_weather_35 : decode cX11_weather 35 = .ok (.iconst 0, 1) := by decide +kernel
theorem dX11_weather_36 : decode cX11_weather 36 = .ok (.iconst 3, 1) := by decide +kernel
theorem dX11_weather_37 : decode cX11_weather 37 = .ok (.invokestatic 109, 3) := by decide +kernel
theorem dX11_weather_40 : decode cX11_weather 40 = .ok (.ifCond .ne 5, 3) := by decide +kernel
theorem dX11_weather_43 : decode cX11_weather 43 = .ok (.iconst 0, 1) := by decide +kernel
theorem dX11_weather_44 : decode cX11_weather 44 = .ok (.ireturn, 1) := by decide +kernel
theorem dX11_weather_45 : decode cX11_weather 45 = .ok (.iconst 0, 1) := by decide +kernel
theorem dX11_weather_46 : decode cX11_weather 46 = .ok (.istore 4, 2) := by decide +kernel
theorem dX11_weather_48 : decode cX11_weather 48 = .ok (.iload 4, 2) := by decide +kernel
theorem dX11_weather_50 : decode cX11_weather 50 = .ok (.iload_n 1, 1) := by decide +kernel
theorem dX11_weather_51 : decode cX11_weather 51 = .ok (.if_icmp .ge 60, 3) := by decide +kernel
theorem dX11_weather_54 : decode cX11_weather 54 = .ok (.iconst 0, 1) := by decide +kernel
theorem dX11_weather_55 : decode cX11_weather 55 = .ok (.istore 5, 2) := by decide +kernel
theorem dX11_weather_57 : decode cX11_weather 57 = .ok (.iload 5, 2) := by decide +kernel
theorem dX11_weather_59 : decode cX11_weather 59 = .ok (.aload_n 0, 1) := by decide +kernel
theorem dX11_weather_60 : decode cX11_weather 60 = .ok (.getfield 117, 3) := by decide +kernel
theorem dX11_weather_63 : decode cX11_weather 63 = .ok (.if_icmp .ge 42, 3) := by decide +kernel
theorem dX11_weather_66 : decode cX11_weather 66 = .ok (.aload_n 0, 1) := by decide +kernel
theorem dX11_weather_67 : decode cX11_weather 67 = .ok (.getfield 19, 3) := by decide +kernel
theorem dX11_weather_70 : decode cX11_weather 70 = .ok (.iload 5, 2) := by decide +kernel
theorem dX11_weather_72 : decode cX11_weather 72 = .ok (.aload_n 0, 1) := by decide +kernel
theorem dX11_weather_73 : decode cX11_weather 73 = .ok (.getfield 19, 3) := by decide +kernel
theorem dX11_weather_76 : decode cX11_weather 76 = .ok (.iload 5, 2) := by decide +kernel
theorem dX11_weather_78 : decode cX11_weather 78 = .ok (.iaload, 1) := by decide +kernel
theorem dX11_weather_79 : decode cX11_weather 79 = .ok (.iload_n 2, 1) := by decide +kernel
theorem dX11_weather_80 : decode cX11_weather 80 = .ok (.isub, 1) := by decide +kernel
theorem dX11_weather_81 : decode cX11_weather 81 = .ok (.aload_n 0, 1) := by decide +kernel
theorem dX11_weather_82 : decode cX11_weather 82 = .ok (.getfield 16, 3) := by decide +kernel
theorem dX11_weather_85 : decode cX11_weather 85 = .ok (.iload 5, 2) := by decide +kernel
theorem dX11_weather_87 : decode cX11_weather 87 = .ok (.iaload, 1) := by decide +kernel
theorem dX11_weather_88 : decode cX11_weather 88 = .ok (.iload_n 3, 1) := by decide +kernel
theorem dX11_weather_89 : decode cX11_weather 89 = .ok (.imul, 1) := by decide +kernel
theorem dX11_weather_90 : decode cX11_weather 90 = .ok (.isub, 1) := by decide +kernel
theorem dX11_weather_91 : decode cX11_weather 91 = .ok (.iconst 0, 1) := by decide +kernel
theorem dX11_weather_92 : decode cX11_weather 92 = .ok (.sipush 1000, 3) := by decide +kernel
theorem dX11_weather_95 : decode cX11_weather 95 = .ok (.invokestatic 131, 3) := by decide +kernel
theorem dX11_weather_98 : decode cX11_weather 98 = .ok (.iastore, 1) := by decide +kernel
theorem dX11_weather_99 : decode cX11_weather 99 = .ok (.iinc 5 1, 3) := by decide +kernel
theorem dX11_weather_102 : decode cX11_weather 102 = .ok (.goto (-45), 3) := by decide +kernel
theorem dX11_weather_105 : decode cX11_weather 105 = .ok (.iinc 4 1, 3) := by decide +kernel
theorem dX11_weather_108 : decode cX11_weather 108 = .ok (.goto (-60), 3) := by decide +kernel
theorem dX11_weather_111 : decode cX11_weather 111 = .ok (.iconst 1, 1) := by decide +kernel
theorem dX11_weather_112 : decode cX11_weather 112 = .ok (.ireturn, 1) := by decide +kernel
theorem dX11_water_0 : decode cX11_water 0 = .ok (.aload_n 0, 1) := by decide +kernel
theorem dX11_water_1 : decode cX11_water 1 = .ok (.iconst 0, 1) := by decide +kernel
theorem dX11_water_2 : decode cX11_water 2 = .ok (.putfield 106, 3) := by decide +kernel
theorem dX11_water_5 : decode cX11_water 5 = .ok (.aload_n 0, 1) := by decide +kernel
theorem dX11_water_6 : decode cX11_water 6 = .ok (.getfield 117, 3) := by decide +kernel
theorem dX11_water_9 : decode cX11_water 9 = .ok (.ifCond .eq 20, 3) := by decide +kernel
theorem dX11_water_12 : decode cX11_water 12 = .ok (.iload_n 1, 1) := by decide +kernel
theorem dX11_water_13 : decode cX11_water 13 = .ok (.ifCond .lt 16, 3) := by decide +kernel
theorem dX11_water_16 : decode cX11_water 16 = .ok (.iload_n 2, 1) := by decide +kernel
theorem dX11_water_17 : decode cX11_water 17 = .ok (.aload_n 0, 1) := by decide +kernel
theorem dX11_water_18 : decode cX11_water 18 = .ok (.getfield 117, 3) := by decide +kernel
theorem dX11_water_21 : decode cX11_water 21 = .ok (.if_icmp .gt 8, 3) := by decide +kernel
theorem dX11_water_24 : decode cX11_water 24 = .ok (.iload_n 1, 1) := by decide +kernel
theorem dX11_water_25 : decode cX11_water 25 = .ok (.iload_n 2, 1) := by decide +kernel
theorem dX11_water_26 : decode cX11_water 26 = .ok (.if_icmp .lt 5, 3) := by decide +kernel
theorem dX11_water_29 : decode cX11_water 29 = .ok (.iconst 0, 1) := by decide +kernel
theorem dX11_water_30 : decode cX11_water 30 = .ok (.ireturn, 1) := by decide +kernel
theorem dX11_water_31 : decode cX11_water 31 = .ok (.iload_n 1, 1) := by decide +kernel
theorem dX11_water_32 : decode cX11_water 32 = .ok (.istore_n 3, 1) := by decide +kernel
theorem dX11_water_33 : decode cX11_water 33 = .ok (.iload_n 3, 1) := by decide +kernel
theorem dX11_water_34 : decode cX11_water 34 = .ok (.iload_n 2, 1) := by decide +kernel
theorem dX11_water_35 : decode cX11_water 35 = .ok (.if_icmp .ge 38, 3) := by decide +kernel
theorem dX11_water_38 : decode cX11_water 38 = .ok (.aload_n 0, 1) := by decide +kernel
theorem dX11_water_39 : decode cX11_water 39 = .ok (.getfield 22, 3) := by decide +kernel
theorem dX11_water_42 : decode cX11_water 42 = .ok (.iload_n 3, 1) := by decide +kernel
theorem dX11_water_43 : decode cX11_water 43 = .ok (.iconst 0, 1) := by decide +kernel
theorem dX11_water_44 : decode cX11_water 44 = .ok (.iastore, 1) := by decide +kernel
theorem dX11_water_45 : decode cX11_water 45 = .ok (.aload_n 0, 1) := by decide +kernel
theorem dX11_water_46 : decode cX11_water 46 = .ok (.getfield 19, 3) := by decide +kernel
theorem dX11_water_49 : decode cX11_water 49 = .ok (.iload_n 3, 1) := by decide +kernel
theorem dX11_water_50 : decode cX11_water 50 = .ok (.aload_n 0, 1) := by decide +kernel
theorem dX11_water_51 : decode cX11_water 51 = .ok (.getfield 19, 3) := by decide +kernel
theorem dX11_water_54 : decode cX11_water 54 = .ok (.iload_n 3, 1) := by decide +kernel
theorem dX11_water_55 : decode cX11_water 55 = .ok (.iaload, 1) := by decide +kernel
theorem dX11_water_56 : decode cX11_water 56 = .ok (.bipush 100, 2) := by decide +kernel
theorem dX11_water_58 : decode cX11_water 58 = .ok (.isub, 1) := by decide +kernel
theorem dX11_water_59 : decode cX11_water 59 = .ok (.iconst 0, 1) := by decide +kernel
theorem dX11_water_60 : decode cX11_water 60 = .ok (.sipush 1000, 3) := by decide +kernel
theorem dX11_water_63 : decode cX11_water 63 = .ok (.invokestatic 131, 3) := by decide +kernel
theorem dX11_water_66 : decode cX11_water 66 = .ok (.iastore, 1) := by decide +kernel
theorem dX11_water_67 : decode cX11_water 67 = .ok (.iinc 3 1, 3) := by decide +kernel
theorem dX11_water_70 : decode cX11_water 70 = .ok (.goto (-37), 3) := by decide +kernel
theorem dX11_water_73 : decode cX11_water 73 = .ok (.iconst 1, 1) := by decide +kernel
theorem dX11_water_74 : decode cX11_water 74 = .ok (.ireturn, 1) := by decide +kernel
theorem dX11_cell_0 : decode cX11_cell 0 = .ok (.aload_n 0, 1) := by decide +kernel
theorem dX11_cell_1 : decode cX11_cell 1 = .ok (.iconst 0, 1) := by decide +kernel
theorem dX11_cell_2 : decode cX11_cell 2 = .ok (.putfield 106, 3) := by decide +kernel
theorem dX11_cell_5 : decode cX11_cell 5 = .ok (.aload_n 0, 1) := by decide +kernel
theorem dX11_cell_6 : decode cX11_cell 6 = .ok (.iload_n 1, 1) := by decide +kernel
theorem dX11_cell_7 : decode cX11_cell 7 = .ok (.invokevirtual 123, 3) := by decide +kernel
theorem dX11_cell_10 : decode cX11_cell 10 = .ok (.ifCond .ne 5, 3) := by decide +kernel
theorem dX11_cell_13 : decode cX11_cell 13 = .ok (.iconst (-1), 1) := by decide +kernel
theorem dX11_cell_14 : decode cX11_cell 14 = .ok (.ireturn, 1) := by decide +kernel
theorem dX11_cell_15 : decode cX11_cell 15 = .ok (.iload_n 2, 1) := by decide +kernel
theorem dX11_cell_16 : decode cX11_cell 16 = .ok (.tableswitch 71 0 4 #[36, 43, 50, 57, 64], 36) := by decide +kernel
theorem dX11_cell_52 : decode cX11_cell 52 = .ok (.aload_n 0, 1) := by decide +kernel
theorem dX11_cell_53 : decode cX11_cell 53 = .ok (.getfield 7, 3) := by decide +kernel
theorem dX11_cell_56 : decode cX11_cell 56 = .ok (.iload_n 1, 1) := by decide +kernel
theorem dX11_cell_57 : decode cX11_cell 57 = .ok (.iaload, 1) := by decide +kernel
theorem dX11_cell_58 : decode cX11_cell 58 = .ok (.ireturn, 1) := by decide +kernel
theorem dX11_cell_59 : decode cX11_cell 59 = .ok (.aload_n 0, 1) := by decide +kernel
theorem dX11_cell_60 : decode cX11_cell 60 = .ok (.getfield 13, 3) := by decide +kernel
theorem dX11_cell_63 : decode cX11_cell 63 = .ok (.iload_n 1, 1) := by decide +kernel
theorem dX11_cell_64 : decode cX11_cell 64 = .ok (.iaload, 1) := by decide +kernel
theorem dX11_cell_65 : decode cX11_cell 65 = .ok (.ireturn, 1) := by decide +kernel
theorem dX11_cell_66 : decode cX11_cell 66 = .ok (.aload_n 0, 1) := by decide +kernel
theorem dX11_cell_67 : decode cX11_cell 67 = .ok (.getfield 16, 3) := by decide +kernel
theorem dX11_cell_70 : decode cX11_cell 70 = .ok (.iload_n 1, 1) := by decide +kernel
theorem dX11_cell_71 : decode cX11_cell 71 = .ok (.iaload, 1) := by decide +kernel
theorem dX11_cell_72 : decode cX11_cell 72 = .ok (.ireturn, 1) := by decide +kernel
theorem dX11_cell_73 : decode cX11_cell 73 = .ok (.aload_n 0, 1) := by decide +kernel
theorem dX11_cell_74 : decode cX11_cell 74 = .ok (.getfield 19, 3) := by decide +kernel
theorem dX11_cell_77 : decode cX11_cell 77 = .ok (.iload_n 1, 1) := by decide +kernel
theorem dX11_cell_78 : decode cX11_cell 78 = .ok (.iaload, 1) := by decide +kernel
theorem dX11_cell_79 : decode cX11_cell 79 = .ok (.ireturn, 1) := by decide +kernel
theorem dX11_cell_80 : decode cX11_cell 80 = .ok (.aload_n 0, 1) := by decide +kernel
theorem dX11_cell_81 : decode cX11_cell 81 = .ok (.getfield 22, 3) := by decide +kernel
theorem dX11_cell_84 : decode cX11_cell 84 = .ok (.iload_n 1, 1) := by decide +kernel
theorem dX11_cell_85 : decode cX11_cell 85 = .ok (.iaload, 1) := by decide +kernel
theorem dX11_cell_86 : decode cX11_cell 86 = .ok (.ireturn, 1) := by decide +kernel
theorem dX11_cell_87 : decode cX11_cell 87 = .ok (.iconst (-1), 1) := by decide +kernel
theorem dX11_cell_88 : decode cX11_cell 88 = .ok (.ireturn, 1) := by decide +kernel
theorem dX11_eye_0 : decode cX11_eye 0 = .ok (.aload_n 0, 1) := by decide +kernel
theorem dX11_eye_1 : decode cX11_eye 1 = .ok (.iconst 0, 1) := by decide +kernel
theorem dX11_eye_2 : decode cX11_eye 2 = .ok (.putfield 106, 3) := by decide +kernel
theorem dX11_eye_5 : decode cX11_eye 5 = .ok (.iload_n 1, 1) := by decide +kernel
theorem dX11_eye_6 : decode cX11_eye 6 = .ok (.iconst 1, 1) := by decide +kernel
theorem dX11_eye_7 : decode cX11_eye 7 = .ok (.aload_n 0, 1) := by decide +kernel
theorem dX11_eye_8 : decode cX11_eye 8 = .ok (.getfield 120, 3) := by decide +kernel
theorem dX11_eye_11 : decode cX11_eye 11 = .ok (.iconst 1, 1) := by decide +kernel
theorem dX11_eye_12 : decode cX11_eye 12 = .ok (.isub, 1) := by decide +kernel
theorem dX11_eye_13 : decode cX11_eye 13 = .ok (.invokestatic 109, 3) := by decide +kernel
theorem dX11_eye_16 : decode cX11_eye 16 = .ok (.ifCond .eq 29, 3) := by decide +kernel
theorem dX11_eye_19 : decode cX11_eye 19 = .ok (.iload_n 2, 1) := by decide +kernel
theorem dX11_eye_20 : decode cX11_eye 20 = .ok (.iconst 0, 1) := by decide +kernel
theorem dX11_eye_21 : decode cX11_eye 21 = .ok (.iconst 1, 1) := by decide +kernel
theorem dX11_eye_22 : decode cX11_eye 22 = .ok (.invokestatic 109, 3) := by decide +kernel
theorem dX11_eye_25 : decode cX11_eye 25 = .ok (.ifCond .eq 20, 3) := by decide +kernel
theorem dX11_eye_28 : decode cX11_eye 28 = .ok (.iload_n 3, 1) := by decide +kernel
theorem dX11_eye_29 : decode cX11_eye 29 = .ok (.bipush (-50), 2) := by decide +kernel
theorem dX11_eye_31 : decode cX11_eye 31 = .ok (.bipush 50, 2) := by decide +kernel
theorem dX11_eye_33 : decode cX11_eye 33 = .ok (.invokestatic 109, 3) := by decide +kernel
theorem dX11_eye_36 : decode cX11_eye 36 = .ok (.ifCond .ne 11, 3) := by decide +kernel
theorem dX11_eye_39 : decode cX11_eye 39 = .ok (.iload_n 3, 1) := by decide +kernel
theorem dX11_eye_40 : decode cX11_eye 40 = .ok (.bipush 100, 2) := by decide +kernel
theorem dX11_eye_42 : decode cX11_eye 42 = .ok (.if_icmp .eq 5, 3) := by decide +kernel
theorem dX11_eye_45 : decode cX11_eye 45 = .ok (.iconst 0, 1) := by decide +kernel
theorem dX11_eye_46 : decode cX11_eye 46 = .ok (.ireturn, 1) := by decide +kernel
theorem dX11_eye_47 : decode cX11_eye 47 = .ok (.aload_n 0, 1) := by decide +kernel
theorem dX11_eye_48 : decode cX11_eye 48 = .ok (.getfield 28, 3) := by decide +kernel
theorem dX11_eye_51 : decode cX11_eye 51 = .ok (.iconst 2, 1) := by decide +kernel
theorem dX11_eye_52 : decode cX11_eye 52 = .ok (.iload_n 1, 1) := by decide +kernel
theorem dX11_eye_53 : decode cX11_eye 53 = .ok (.imul, 1) := by decide +kernel
theorem dX11_eye_54 : decode cX11_eye 54 = .ok (.iload_n 2, 1) := by decide +kernel
theorem dX11_eye_55 : decode cX11_eye 55 = .ok (.iadd, 1) := by decide +kernel
theorem dX11_eye_56 : decode cX11_eye 56 = .ok (.iload_n 3, 1) := by decide +kernel
theorem dX11_eye_57 : decode cX11_eye 57 = .ok (.iastore, 1) := by decide +kernel
theorem dX11_eye_58 : decode cX11_eye 58 = .ok (.iconst 1, 1) := by decide +kernel
theorem dX11_eye_59 : decode cX11_eye 59 = .ok (.ireturn, 1) := by decide +kernel
theorem dX11_runners_0 : decode cX11_runners 0 = .ok (.aload_n 0, 1) := by decide +kernel
theorem dX11_runners_1 : decode cX11_runners 1 = .ok (.iconst 0, 1) := by decide +kernel
theorem dX11_runners_2 : decode cX11_runners 2 = .ok (.putfield 106, 3) := by decide +kernel
theorem dX11_runners_5 : decode cX11_runners 5 = .ok (.iload_n 1, 1) := by decide +kernel
theorem dX11_runners_6 : decode cX11_runners 6 = .ok (.iconst 0, 1) := by decide +kernel
theorem dX11_runners_7 : decode cX11_runners 7 = .ok (.iconst 3, 1) := by decide +kernel
theorem dX11_runners_8 : decode cX11_runners 8 = .ok (.invokestatic 109, 3) := by decide +kernel
theorem dX11_runners_11 : decode cX11_runners 11 = .ok (.ifCond .eq 27, 3) := by decide +kernel
theorem dX11_runners_14 : decode cX11_runners 14 = .ok (.iload_n 2, 1) := by decide +kernel
theorem dX11_runners_15 : decode cX11_runners 15 = .ok (.iconst 0, 1) := by decide +kernel
theorem dX11_runners_16 : decode cX11_runners 16 = .ok (.iconst 3, 1) := by decide +kernel
theorem dX11_runners_17 : decode cX11_runners 17 = .ok (.invokestatic 109, 3) := by decide +kernel
theorem dX11_runners_20 : decode cX11_runners 20 = .ok (.ifCond .eq 18, 3) := by decide +kernel
theorem dX11_runners_23 : decode cX11_runners 23 = .ok (.iload_n 3, 1) := by decide +kernel
theorem dX11_runners_24 : decode cX11_runners 24 = .ok (.bipush 9, 2) := by decide +kernel
theorem dX11_runners_26 : decode cX11_runners 26 = .ok (.if_icmp .gt 12, 3) := by decide +kernel
theorem dX11_runners_29 : decode cX11_runners 29 = .ok (.iload_n 3, 1) := by decide +kernel
theorem dX11_runners_30 : decode cX11_runners 30 = .ok (.ifCond .ge 10, 3) := by decide +kernel
theorem dX11_runners_33 : decode cX11_runners 33 = .ok (.iload_n 2, 1) := by decide +kernel
theorem dX11_runners_34 : decode cX11_runners 34 = .ok (.iconst 3, 1) := by decide +kernel
theorem dX11_runners_35 : decode cX11_runners 35 = .ok (.if_icmp .eq 5, 3) := by decide +kernel
theorem dX11_runners_38 : decode cX11_runners 38 = .ok (.iconst 0, 1) := by decide +kernel
theorem dX11_runners_39 : decode cX11_runners 39 = .ok (.ireturn, 1) := by decide +kernel
theorem dX11_runners_40 : decode cX11_runners 40 = .ok (.aload_n 0, 1) := by decide +kernel
theorem dX11_runners_41 : decode cX11_runners 41 = .ok (.getfield 31, 3) := by decide +kernel
theorem dX11_runners_44 : decode cX11_runners 44 = .ok (.iload_n 1, 1) := by decide +kernel
theorem dX11_runners_45 : decode cX11_runners 45 = .ok (.iload_n 2, 1) := by decide +kernel
theorem dX11_runners_46 : decode cX11_runners 46 = .ok (.iastore, 1) := by decide +kernel
theorem dX11_runners_47 : decode cX11_runners 47 = .ok (.aload_n 0, 1) := by decide +kernel
theorem dX11_runners_48 : decode cX11_runners 48 = .ok (.getfield 34, 3) := by decide +kernel
theorem dX11_runners_51 : decode cX11_runners 51 = .ok (.iload_n 1, 1) := by decide +kernel
theorem dX11_runners_52 : decode cX11_runners 52 = .ok (.iload_n 2, 1) := by decide +kernel
theorem dX11_runners_53 : decode cX11_runners 53 = .ok (.iconst 3, 1) := by decide +kernel
theorem dX11_runners_54 : decode cX11_runners 54 = .ok (.if_icmp .ne 7, 3) := by decide +kernel
theorem dX11_runners_57 : decode cX11_runners 57 = .ok (.iconst 0, 1) := by decide +kernel
theorem dX11_runners_58 : decode cX11_runners 58 = .ok (.goto 4, 3) := by decide +kernel
theorem dX11_runners_61 : decode cX11_runners 61 = .ok (.iload_n 3, 1) := by decide +kernel
theorem dX11_runners_62 : decode cX11_runners 62 = .ok (.iastore, 1) := by decide +kernel
theorem dX11_runners_63 : decode cX11_runners 63 = .ok (.iload 4, 2) := by decide +kernel
theorem dX11_runners_65 : decode cX11_runners 65 = .ok (.istore 6, 2) := by decide +kernel
theorem dX11_runners_67 : decode cX11_runners 67 = .ok (.iconst 0, 1) := by decide +kernel
theorem dX11_runners_68 : decode cX11_runners 68 = .ok (.istore 7, 2) := by decide +kernel
theorem dX11_runners_70 : decode cX11_runners 70 = .ok (.iload 7, 2) := by decide +kernel
theorem dX11_runners_72 : decode cX11_runners 72 = .ok (.aload_n 0, 1) := by decide +kernel
theorem dX11_runners_73 : decode cX11_runners 73 = .ok (.getfield 34, 3) := by decide +kernel
theorem dX11_runners_76 : decode cX11_runners 76 = .ok (.iload_n 1, 1) := by decide +kernel
theorem dX11_runners_77 : decode cX11_runners 77 = .ok (.iaload, 1) := by decide +kernel
theorem dX11_runners_78 : decode cX11_runners 78 = .ok (.if_icmp .ge 51, 3) := by decide +kernel
theorem dX11_runners_81 : decode cX11_runners 81 = .ok (.aload_n 0, 1) := by decide +kernel
theorem dX11_runners_82 : decode cX11_runners 82 = .ok (.getfield 37, 3) := by decide +kernel
theorem dX11_runners_85 : decode cX11_runners 85 = .ok (.bipush 9, 2) := by decide +kernel
theorem dX11_runners_87 : decode cX11_runners 87 = .ok (.iload_n 1, 1) := by decide +kernel
theorem dX11_runners_88 : decode cX11_runners 88 = .ok (.imul, 1) := by decide +kernel
theorem dX11_runners_89 : decode cX11_runners 89 = .ok (.iload 7, 2) := by decide +kernel
theorem dX11_runners_91 : decode cX11_runners 91 = .ok (.iadd, 1) := by decide +kernel
theorem dX11_runners_92 : decode cX11_runners 92 = .ok (.iload_n 2, 1) := by decide +kernel
theorem dX11_runners_93 : decode cX11_runners 93 = .ok (.ifCond .ne 9, 3) := by decide +kernel
theorem dX11_runners_96 : decode cX11_runners 96 = .ok (.iload 6, 2) := by decide +kernel
theorem dX11_runners_98 : decode cX11_runners 98 = .ok (.i2b, 1) := by decide +kernel
theorem dX11_runners_99 : decode cX11_runners 99 = .ok (.goto 16, 3) := by decide +kernel
theorem dX11_runners_102 : decode cX11_runners 102 = .ok (.iload_n 2, 1) := by decide +kernel
theorem dX11_runners_103 : decode cX11_runners 103 = .ok (.iconst 1, 1) := by decide +kernel
theorem dX11_runners_104 : decode cX11_runners 104 = .ok (.if_icmp .ne 9, 3) := by decide +kernel
theorem dX11_runners_107 : decode cX11_runners 107 = .ok (.iload 6, 2) := by decide +kernel
theorem dX11_runners_109 : decode cX11_runners 109 = .ok (.i2s, 1) := by decide +kernel
theorem dX11_runners_110 : decode cX11_runners 110 = .ok (.goto 5, 3) := by decide +kernel
theorem dX11_runners_113 : decode cX11_runners 113 = .ok (.iload 6, 2) := by decide +kernel
theorem dX11_runners_115 : decode cX11_runners 115 = .ok (.iastore, 1) := by decide +kernel
theorem dX11_runners_116 : decode cX11_runners 116 = .ok (.iload 6, 2) := by decide +kernel
theorem dX11_runners_118 : decode cX11_runners 118 = .ok (.iload 5, 2) := by decide +kernel
theorem dX11_runners_120 : decode cX11_runners 120 = .ok (.iadd, 1) := by decide +kernel
theorem dX11_runners_121 : decode cX11_runners 121 = .ok (.istore 6, 2) := by decide +kernel
theorem dX11_runners_123 : decode cX11_runners 123 = .ok (.iinc 7 1, 3) := by decide +kernel
theorem dX11_runners_126 : decode cX11_runners 126 = .ok (.goto (-56), 3) := by decide +kernel
theorem dX11_runners_129 : decode cX11_runners 129 = .ok (.iconst 1, 1) := by decide +kernel
theorem dX11_runners_130 : decode cX11_runners 130 = .ok (.ireturn, 1) := by decide +kernel
theorem dX11_copy_0 : decode cX11_copy 0 = .ok (.aload_n 0, 1) := by decide +kernel
theorem dX11_copy_1 : decode cX11_copy 1 = .ok (.iconst 0, 1) := by decide +kernel
theorem dX11_copy_2 : decode cX11_copy 2 = .ok (.putfield 106, 3) := by decide +kernel
theorem dX11_copy_5 : decode cX11_copy 5 = .ok (.iload_n 1, 1) := by decide +kernel
theorem dX11_copy_6 : decode cX11_copy 6 = .ok (.iconst 0, 1) := by decide +kernel
theorem dX11_copy_7 : decode cX11_copy 7 = .ok (.iconst 3, 1) := by decide +kernel
theorem dX11_copy_8 : decode cX11_copy 8 = .ok (.invokestatic 109, 3) := by decide +kernel
theorem dX11_copy_11 : decode cX11_copy 11 = .ok (.ifCond .eq 12, 3) := by decide +kernel
theorem dX11_copy_14 : decode cX11_copy 14 = .ok (.iload_n 3, 1) := by decide +kernel
theorem dX11_copy_15 : decode cX11_copy 15 = .ok (.iconst 0, 1) := by decide +kernel
theorem dX11_copy_16 : decode cX11_copy 16 = .ok (.iconst 3, 1) := by decide +kernel
theorem dX11_copy_17 : decode cX11_copy 17 = .ok (.invokestatic 109, 3) := by decide +kernel
theorem dX11_copy_20 : decode cX11_copy 20 = .ok (.ifCond .ne 5, 3) := by decide +kernel
theorem dX11_copy_23 : decode cX11_copy 23 = .ok (.iconst (-1), 1) := by decide +kernel
theorem dX11_copy_24 : decode cX11_copy 24 = .ok (.ireturn, 1) := by decide +kernel
theorem dX11_copy_25 : decode cX11_copy 25 = .ok (.aload_n 0, 1) := by decide +kernel
theorem dX11_copy_26 : decode cX11_copy 26 = .ok (.getfield 31, 3) := by decide +kernel
theorem dX11_copy_29 : decode cX11_copy 29 = .ok (.iload_n 1, 1) := by decide +kernel
theorem dX11_copy_30 : decode cX11_copy 30 = .ok (.iaload, 1) := by decide +kernel
theorem dX11_copy_31 : decode cX11_copy 31 = .ok (.iconst 3, 1) := by decide +kernel
theorem dX11_copy_32 : decode cX11_copy 32 = .ok (.if_icmp .eq 13, 3) := by decide +kernel
theorem dX11_copy_35 : decode cX11_copy 35 = .ok (.aload_n 0, 1) := by decide +kernel
theorem dX11_copy_36 : decode cX11_copy 36 = .ok (.getfield 31, 3) := by decide +kernel
theorem dX11_copy_39 : decode cX11_copy 39 = .ok (.iload_n 3, 1) := by decide +kernel
theorem dX11_copy_40 : decode cX11_copy 40 = .ok (.iaload, 1) := by decide +kernel
theorem dX11_copy_41 : decode cX11_copy 41 = .ok (.iconst 3, 1) := by decide +kernel
theorem dX11_copy_42 : decode cX11_copy 42 = .ok (.if_icmp .ne 6, 3) := by decide +kernel
theorem dX11_copy_45 : decode cX11_copy 45 = .ok (.bipush (-2), 2) := by decide +kernel
theorem dX11_copy_47 : decode cX11_copy 47 = .ok (.ireturn, 1) := by decide +kernel
theorem dX11_copy_48 : decode cX11_copy 48 = .ok (.aload_n 0, 1) := by decide +kernel
theorem dX11_copy_49 : decode cX11_copy 49 = .ok (.getfield 31, 3) := by decide +kernel
theorem dX11_copy_52 : decode cX11_copy 52 = .ok (.iload_n 1, 1) := by decide +kernel
theorem dX11_copy_53 : decode cX11_copy 53 = .ok (.iaload, 1) := by decide +kernel
theorem dX11_copy_54 : decode cX11_copy 54 = .ok (.aload_n 0, 1) := by decide +kernel
theorem dX11_copy_55 : decode cX11_copy 55 = .ok (.getfield 31, 3) := by decide +kernel
theorem dX11_copy_58 : decode cX11_copy 58 = .ok (.iload_n 3, 1) := by decide +kernel
theorem dX11_copy_59 : decode cX11_copy 59 = .ok (.iaload, 1) := by decide +kernel
theorem dX11_copy_60 : decode cX11_copy 60 = .ok (.if_icmp .eq 6, 3) := by decide +kernel
theorem dX11_copy_63 : decode cX11_copy 63 = .ok (.bipush (-3), 2) := by decide +kernel
theorem dX11_copy_65 : decode cX11_copy 65 = .ok (.ireturn, 1) := by decide +kernel
theorem dX11_copy_66 : decode cX11_copy 66 = .ok (.iload 5, 2) := by decide +kernel
theorem dX11_copy_68 : decode cX11_copy 68 = .ok (.ifCond .lt 39, 3) := by decide +kernel
theorem dX11_copy_71 : decode cX11_copy 71 = .ok (.iload_n 2, 1) := by decide +kernel
theorem dX11_copy_72 : decode cX11_copy 72 = .ok (.ifCond .lt 35, 3) := by decide +kernel
theorem dX11_copy_75 : decode cX11_copy 75 = .ok (.iload 4, 2) := by decide +kernel
theorem dX11_copy_77 : decode cX11_copy 77 = .ok (.ifCond .lt 30, 3) := by decide +kernel
theorem dX11_copy_80 : decode cX11_copy 80 = .ok (.iload_n 2, 1) := by decide +kernel
theorem dX11_copy_81 : decode cX11_copy 81 = .ok (.aload_n 0, 1) := by decide +kernel
theorem dX11_copy_82 : decode cX11_copy 82 = .ok (.getfield 34, 3) := by decide +kernel
theorem dX11_copy_85 : decode cX11_copy 85 = .ok (.iload_n 1, 1) := by decide +kernel
theorem dX11_copy_86 : decode cX11_copy 86 = .ok (.iaload, 1) := by decide +kernel
theorem dX11_copy_87 : decode cX11_copy 87 = .ok (.iload 5, 2) := by decide +kernel
theorem dX11_copy_89 : decode cX11_copy 89 = .ok (.isub, 1) := by decide +kernel
theorem dX11_copy_90 : decode cX11_copy 90 = .ok (.if_icmp .gt 17, 3) := by decide +kernel
theorem dX11_copy_93 : decode cX11_copy 93 = .ok (.iload 4, 2) := by decide +kernel
theorem dX11_copy_95 : decode cX11_copy 95 = .ok (.aload_n 0, 1) := by decide +kernel
theorem dX11_copy_96 : decode cX11_copy 96 = .ok (.getfield 34, 3) := by decide +kernel
theorem dX11_copy_99 : decode cX11_copy 99 = .ok (.iload_n 3, 1) := by decide +kernel
theorem dX11_copy_100 : decode cX11_copy 100 = .ok (.iaload, 1) := by decide +kernel
theorem dX11_copy_101 : decode cX11_copy 101 = .ok (.iload 5, 2) := by decide +kernel
theorem dX11_copy_103 : decode cX11_copy 103 = .ok (.isub, 1) := by decide +kernel
theorem dX11_copy_104 : decode cX11_copy 104 = .ok (.if_icmp .le 6, 3) := by decide +kernel
theorem dX11_copy_107 : decode cX11_copy 107 = .ok (.bipush (-4), 2) := by decide +kernel
theorem dX11_copy_109 : decode cX11_copy 109 = .ok (.ireturn, 1) := by decide +kernel
theorem dX11_copy_110 : decode cX11_copy 110 = .ok (.iload_n 1, 1) := by decide +kernel
theorem dX11_copy_111 : decode cX11_copy 111 = .ok (.iload_n 3, 1) := by decide +kernel
theorem dX11_copy_112 : decode cX11_copy 112 = .ok (.if_icmp .ne 13, 3) := by decide +kernel
theorem dX11_copy_115 : decode cX11_copy 115 = .ok (.iload 4, 2) := by decide +kernel
theorem dX11_copy_117 : decode cX11_copy 117 = .ok (.iload_n 2, 1) := by decide +kernel
theorem dX11_copy_118 : decode cX11_copy 118 = .ok (.if_icmp .le 7, 3) := by decide +kernel
theorem dX11_copy_121 : decode cX11_copy 121 = .ok (.iconst 1, 1) := by decide +kernel
theorem dX11_copy_122 : decode cX11_copy 122 = .ok (.goto 4, 3) := by decide +kernel
theorem dX11_copy_125 : decode cX11_copy 125 = .ok (.iconst 0, 1) := by decide +kernel
theorem dX11_copy_126 : decode cX11_copy 126 = .ok (.istore 6, 2) := by decide +kernel
theorem dX11_copy_128 : decode cX11_copy 128 = .ok (.iconst 0, 1) := by decide +kernel
theorem dX11_copy_129 : decode cX11_copy 129 = .ok (.istore 7, 2) := by decide +kernel
theorem dX11_copy_131 : decode cX11_copy 131 = .ok (.iload 7, 2) := by decide +kernel
theorem dX11_copy_133 : decode cX11_copy 133 = .ok (.iload 5, 2) := by decide +kernel
theorem dX11_copy_135 : decode cX11_copy 135 = .ok (.if_icmp .ge 57, 3) := by decide +kernel
theorem dX11_copy_138 : decode cX11_copy 138 = .ok (.iload 6, 2) := by decide +kernel
theorem dX11_copy_140 : decode cX11_copy 140 = .ok (.ifCond .eq 13, 3) := by decide +kernel
theorem dX11_copy_143 : decode cX11_copy 143 = .ok (.iload 5, 2) := by decide +kernel
theorem dX11_copy_145 : decode cX11_copy 145 = .ok (.iconst 1, 1) := by decide +kernel
theorem dX11_copy_146 : decode cX11_copy 146 = .ok (.isub, 1) := by decide +kernel
theorem dX11_copy_147 : decode cX11_copy 147 = .ok (.iload 7, 2) := by decide +kernel
theorem dX11_copy_149 : decode cX11_copy 149 = .ok (.isub, 1) := by decide +kernel
theorem dX11_copy_150 : decode cX11_copy 150 = .ok (.goto 5, 3) := by decide +kernel
theorem dX11_copy_153 : decode cX11_copy 153 = .ok (.iload 7, 2) := by decide +kernel
theorem dX11_copy_155 : decode cX11_copy 155 = .ok (.istore 8, 2) := by decide +kernel
theorem dX11_copy_157 : decode cX11_copy 157 = .ok (.aload_n 0, 1) := by decide +kernel
theorem dX11_copy_158 : decode cX11_copy 158 = .ok (.getfield 37, 3) := by decide +kernel
theorem dX11_copy_161 : decode cX11_copy 161 = .ok (.bipush 9, 2) := by decide +kernel
theorem dX11_copy_163 : decode cX11_copy 163 = .ok (.iload_n 3, 1) := by decide +kernel
theorem dX11_copy_164 : decode cX11_copy 164 = .ok (.imul, 1) := by decide +kernel
theorem dX11_copy_165 : decode cX11_copy 165 = .ok (.iload 4, 2) := by decide +kernel
theorem dX11_copy_167 : decode cX11_copy 167 = .ok (.iadd, 1) := by decide +kernel
theorem dX11_copy_168 : decode cX11_copy 168 = .ok (.iload 8, 2) := by decide +kernel
theorem dX11_copy_170 : decode cX11_copy 170 = .ok (.iadd, 1) := by decide +kernel
theorem dX11_copy_171 : decode cX11_copy 171 = .ok (.aload_n 0, 1) := by decide +kernel
theorem dX11_copy_172 : decode cX11_copy 172 = .ok (.getfield 37, 3) := by decide +kernel
theorem dX11_copy_175 : decode cX11_copy 175 = .ok (.bipush 9, 2) := by decide +kernel
theorem dX11_copy_177 : decode cX11_copy 177 = .ok (.iload_n 1, 1) := by decide +kernel
theorem dX11_copy_178 : decode cX11_copy 178 = .ok (.imul, 1) := by decide +kernel
theorem dX11_copy_179 : decode cX11_copy 179 = .ok (.iload_n 2, 1) := by decide +kernel
theorem dX11_copy_180 : decode cX11_copy 180 = .ok (.iadd, 1) := by decide +kernel
theorem dX11_copy_181 : decode cX11_copy 181 = .ok (.iload 8, 2) := by decide +kernel
theorem dX11_copy_183 : decode cX11_copy 183 = .ok (.iadd, 1) := by decide +kernel
theorem dX11_copy_184 : decode cX11_copy 184 = .ok (.iaload, 1) := by decide +kernel
theorem dX11_copy_185 : decode cX11_copy 185 = .ok (.iastore, 1) := by decide +kernel
theorem dX11_copy_186 : decode cX11_copy 186 = .ok (.iinc 7 1, 3) := by decide +kernel
theorem dX11_copy_189 : decode cX11_copy 189 = .ok (.goto (-58), 3) := by decide +kernel
theorem dX11_copy_192 : decode cX11_copy 192 = .ok (.iload 5, 2) := by decide +kernel
theorem dX11_copy_194 : decode cX11_copy 194 = .ok (.ireturn, 1) := by decide +kernel
theorem dX11_glideOf_0 : decode cX11_glideOf 0 = .ok (.iload_n 2, 1) := by decide +kernel
theorem dX11_glideOf_1 : decode cX11_glideOf 1 = .ok (.bipush 125, 2) := by decide +kernel
theorem dX11_glideOf_3 : decode cX11_glideOf 3 = .ok (.idiv, 1) := by decide +kernel
theorem dX11_glideOf_4 : decode cX11_glideOf 4 = .ok (.istore_n 3, 1) := by decide +kernel
theorem dX11_glideOf_5 : decode cX11_glideOf 5 = .ok (.iload_n 3, 1) := by decide +kernel
theorem dX11_glideOf_6 : decode cX11_glideOf 6 = .ok (.aload_n 0, 1) := by decide +kernel
theorem dX11_glideOf_7 : decode cX11_glideOf 7 = .ok (.getfield 34, 3) := by decide +kernel
theorem dX11_glideOf_10 : decode cX11_glideOf 10 = .ok (.iload_n 1, 1) := by decide +kernel
theorem dX11_glideOf_11 : decode cX11_glideOf 11 = .ok (.iaload, 1) := by decide +kernel
theorem dX11_glideOf_12 : decode cX11_glideOf 12 = .ok (.if_icmp .lt 7, 3) := by decide +kernel
theorem dX11_glideOf_15 : decode cX11_glideOf 15 = .ok (.iconst 0, 1) := by decide +kernel
theorem dX11_glideOf_16 : decode cX11_glideOf 16 = .ok (.goto 23, 3) := by decide +kernel
theorem dX11_glideOf_19 : decode cX11_glideOf 19 = .ok (.aload_n 0, 1) := by decide +kernel
theorem dX11_glideOf_20 : decode cX11_glideOf 20 = .ok (.getfield 37, 3) := by decide +kernel
theorem dX11_glideOf_23 : decode cX11_glideOf 23 = .ok (.bipush 9, 2) := by decide +kernel
theorem dX11_glideOf_25 : decode cX11_glideOf 25 = .ok (.iload_n 1, 1) := by decide +kernel
theorem dX11_glideOf_26 : decode cX11_glideOf 26 = .ok (.imul, 1) := by decide +kernel
theorem dX11_glideOf_27 : decode cX11_glideOf 27 = .ok (.iload_n 3, 1) := by decide +kernel
theorem dX11_glideOf_28 : decode cX11_glideOf 28 = .ok (.iadd, 1) := by decide +kernel
theorem dX11_glideOf_29 : decode cX11_glideOf 29 = .ok (.iaload, 1) := by decide +kernel
theorem dX11_glideOf_30 : decode cX11_glideOf 30 = .ok (.sipush (-200), 3) := by decide +kernel
theorem dX11_glideOf_33 : decode cX11_glideOf 33 = .ok (.sipush 200, 3) := by decide +kernel
theorem dX11_glideOf_36 : decode cX11_glideOf 36 = .ok (.invokestatic 131, 3) := by decide +kernel
theorem dX11_glideOf_39 : decode cX11_glideOf 39 = .ok (.ireturn, 1) := by decide +kernel
theorem dX11_glide_0 : decode cX11_glide 0 = .ok (.iload_n 1, 1) := by decide +kernel
theorem dX11_glide_1 : decode cX11_glide 1 = .ok (.iconst 0, 1) := by decide +kernel
theorem dX11_glide_2 : decode cX11_glide 2 = .ok (.iconst 3, 1) := by decide +kernel
theorem dX11_glide_3 : decode cX11_glide 3 = .ok (.invokestatic 109, 3) := by decide +kernel
theorem dX11_glide_6 : decode cX11_glide 6 = .ok (.ifCond .eq 18, 3) := by decide +kernel
theorem dX11_glide_9 : decode cX11_glide 9 = .ok (.iload_n 2, 1) := by decide +kernel
theorem dX11_glide_10 : decode cX11_glide 10 = .ok (.iconst 0, 1) := by decide +kernel
theorem dX11_glide_11 : decode cX11_glide 11 = .ok (.sipush 1000, 3) := by decide +kernel
theorem dX11_glide_14 : decode cX11_glide 14 = .ok (.invokestatic 109, 3) := by decide +kernel
theorem dX11_glide_17 : decode cX11_glide 17 = .ok (.ifCond .eq 7, 3) := by decide +kernel
theorem dX11_glide_20 : decode cX11_glide 20 = .ok (.iconst 1, 1) := by decide +kernel
theorem dX11_glide_21 : decode cX11_glide 21 = .ok (.goto 4, 3) := by decide +kernel
theorem dX11_glide_24 : decode cX11_glide 24 = .ok (.iconst 0, 1) := by decide +kernel
theorem dX11_glide_25 : decode cX11_glide 25 = .ok (.istore_n 3, 1) := by decide +kernel
theorem dX11_glide_26 : decode cX11_glide 26 = .ok (.aload_n 0, 1) := by decide +kernel
theorem dX11_glide_27 : decode cX11_glide 27 = .ok (.iload_n 3, 1) := by decide +kernel
theorem dX11_glide_28 : decode cX11_glide 28 = .ok (.ifCond .eq 7, 3) := by decide +kernel
theorem dX11_glide_31 : decode cX11_glide 31 = .ok (.iconst 0, 1) := by decide +kernel
theorem dX11_glide_32 : decode cX11_glide 32 = .ok (.goto 4, 3) := by decide +kernel
theorem dX11_glide_35 : decode cX11_glide 35 = .ok (.iconst 1, 1) := by decide +kernel
theorem dX11_glide_36 : decode cX11_glide 36 = .ok (.putfield 106, 3) := by decide +kernel
theorem dX11_glide_39 : decode cX11_glide 39 = .ok (.iload_n 3, 1) := by decide +kernel
theorem dX11_glide_40 : decode cX11_glide 40 = .ok (.ifCond .eq 12, 3) := by decide +kernel
theorem dX11_glide_43 : decode cX11_glide 43 = .ok (.aload_n 0, 1) := by decide +kernel
theorem dX11_glide_44 : decode cX11_glide 44 = .ok (.iload_n 1, 1) := by decide +kernel
theorem dX11_glide_45 : decode cX11_glide 45 = .ok (.iload_n 2, 1) := by decide +kernel
theorem dX11_glide_46 : decode cX11_glide 46 = .ok (.invokevirtual 135, 3) := by decide +kernel
theorem dX11_glide_49 : decode cX11_glide 49 = .ok (.goto 4, 3) := by decide +kernel
theorem dX11_glide_52 : decode cX11_glide 52 = .ok (.iconst 0, 1) := by decide +kernel
theorem dX11_glide_53 : decode cX11_glide 53 = .ok (.ireturn, 1) := by decide +kernel
theorem dX11_sled_0 : decode cX11_sled 0 = .ok (.aload_n 0, 1) := by decide +kernel
theorem dX11_sled_1 : decode cX11_sled 1 = .ok (.iconst 0, 1) := by decide +kernel
theorem dX11_sled_2 : decode cX11_sled 2 = .ok (.putfield 106, 3) := by decide +kernel
theorem dX11_sled_5 : decode cX11_sled 5 = .ok (.aload_n 0, 1) := by decide +kernel
theorem dX11_sled_6 : decode cX11_sled 6 = .ok (.getfield 139, 3) := by decide +kernel
theorem dX11_sled_9 : decode cX11_sled 9 = .ok (.bipush 16, 2) := by decide +kernel
theorem dX11_sled_11 : decode cX11_sled 11 = .ok (.if_icmp .eq 44, 3) := by decide +kernel
theorem dX11_sled_14 : decode cX11_sled 14 = .ok (.iload_n 1, 1) := by decide +kernel
theorem dX11_sled_15 : decode cX11_sled 15 = .ok (.iconst 0, 1) := by decide +kernel
theorem dX11_sled_16 : decode cX11_sled 16 = .ok (.iconst 3, 1) := by decide +kernel
theorem dX11_sled_17 : decode cX11_sled 17 = .ok (.invokestatic 109, 3) := by decide +kernel
theorem dX11_sled_20 : decode cX11_sled 20 = .ok (.ifCond .eq 35, 3) := by decide +kernel
theorem dX11_sled_23 : decode cX11_sled 23 = .ok (.iload_n 2, 1) := by decide +kernel
theorem dX11_sled_24 : decode cX11_sled 24 = .ok (.bipush 50, 2) := by decide +kernel
theorem dX11_sled_26 : decode cX11_sled 26 = .ok (.sipush 200, 3) := by decide +kernel
theorem dX11_sled_29 : decode cX11_sled 29 = .ok (.invokestatic 109, 3) := by decide +kernel
theorem dX11_sled_32 : decode cX11_sled 32 = .ok (.ifCond .eq 23, 3) := by decide +kernel
theorem dX11_sled_35 : decode cX11_sled 35 = .ok (.iload_n 3, 1) := by decide +kernel
theorem dX11_sled_36 : decode cX11_sled 36 = .ok (.iconst 0, 1) := by decide +kernel
theorem dX11_sled_37 : decode cX11_sled 37 = .ok (.iconst 3, 1) := by decide +kernel
theorem dX11_sled_38 : decode cX11_sled 38 = .ok (.invokestatic 109, 3) := by decide +kernel
theorem dX11_sled_41 : decode cX11_sled 41 = .ok (.ifCond .eq 14, 3) := by decide +kernel
theorem dX11_sled_44 : decode cX11_sled 44 = .ok (.iload 4, 2) := by decide +kernel
theorem dX11_sled_46 : decode cX11_sled 46 = .ok (.iconst 0, 1) := by decide +kernel
theorem dX11_sled_47 : decode cX11_sled 47 = .ok (.bipush 9, 2) := by decide +kernel
theorem dX11_sled_49 : decode cX11_sled 49 = .ok (.invokestatic 109, 3) := by decide +kernel
theorem dX11_sled_52 : decode cX11_sled 52 = .ok (.ifCond .ne 5, 3) := by decide +kernel
theorem dX11_sled_55 : decode cX11_sled 55 = .ok (.iconst (-1), 1) := by decide +kernel
theorem dX11_sled_56 : decode cX11_sled 56 = .ok (.ireturn, 1) := by decide +kernel
theorem dX11_sled_57 : decode cX11_sled 57 = .ok (.aload_n 0, 1) := by decide +kernel
theorem dX11_sled_58 : decode cX11_sled 58 = .ok (.getfield 40, 3) := by decide +kernel
theorem dX11_sled_61 : decode cX11_sled 61 = .ok (.aload_n 0, 1) := by decide +kernel
theorem dX11_sled_62 : decode cX11_sled 62 = .ok (.getfield 139, 3) := by decide +kernel
theorem dX11_sled_65 : decode cX11_sled 65 = .ok (.iload_n 1, 1) := by decide +kernel
theorem dX11_sled_66 : decode cX11_sled 66 = .ok (.iastore, 1) := by decide +kernel
theorem dX11_sled_67 : decode cX11_sled 67 = .ok (.aload_n 0, 1) := by decide +kernel
theorem dX11_sled_68 : decode cX11_sled 68 = .ok (.getfield 43, 3) := by decide +kernel
theorem dX11_sled_71 : decode cX11_sled 71 = .ok (.aload_n 0, 1) := by decide +kernel
theorem dX11_sled_72 : decode cX11_sled 72 = .ok (.getfield 139, 3) := by decide +kernel
theorem dX11_sled_75 : decode cX11_sled 75 = .ok (.iload_n 2, 1) := by decide +kernel
theorem dX11_sled_76 : decode cX11_sled 76 = .ok (.iastore, 1) := by decide +kernel
theorem dX11_sled_77 : decode cX11_sled 77 = .ok (.aload_n 0, 1) := by decide +kernel
theorem dX11_sled_78 : decode cX11_sled 78 = .ok (.getfield 46, 3) := by decide +kernel
theorem dX11_sled_81 : decode cX11_sled 81 = .ok (.aload_n 0, 1) := by decide +kernel
theorem dX11_sled_82 : decode cX11_sled 82 = .ok (.getfield 139, 3) := by decide +kernel
theorem dX11_sled_85 : decode cX11_sled 85 = .ok (.iload_n 3, 1) := by decide +kernel
theorem dX11_sled_86 : decode cX11_sled 86 = .ok (.iastore, 1) := by decide +kernel
theorem dX11_sled_87 : decode cX11_sled 87 = .ok (.aload_n 0, 1) := by decide +kernel
theorem dX11_sled_88 : decode cX11_sled 88 = .ok (.getfield 49, 3) := by decide +kernel
theorem dX11_sled_91 : decode cX11_sled 91 = .ok (.aload_n 0, 1) := by decide +kernel
theorem dX11_sled_92 : decode cX11_sled 92 = .ok (.getfield 139, 3) := by decide +kernel
theorem dX11_sled_95 : decode cX11_sled 95 = .ok (.iload 4, 2) := by decide +kernel
theorem dX11_sled_97 : decode cX11_sled 97 = .ok (.iastore, 1) := by decide +kernel
theorem dX11_sled_98 : decode cX11_sled 98 = .ok (.aload_n 0, 1) := by decide +kernel
theorem dX11_sled_99 : decode cX11_sled 99 = .ok (.dup, 1) := by decide +kernel
theorem dX11_sled_100 : decode cX11_sled 100 = .ok (.getfield 139, 3) := by decide +kernel
theorem dX11_sled_103 : decode cX11_sled 103 = .ok (.iconst 1, 1) := by decide +kernel
theorem dX11_sled_104 : decode cX11_sled 104 = .ok (.iadd, 1) := by decide +kernel
theorem dX11_sled_105 : decode cX11_sled 105 = .ok (.putfield 139, 3) := by decide +kernel
theorem dX11_sled_108 : decode cX11_sled 108 = .ok (.aload_n 0, 1) := by decide +kernel
theorem dX11_sled_109 : decode cX11_sled 109 = .ok (.getfield 139, 3) := by decide +kernel
theorem dX11_sled_112 : decode cX11_sled 112 = .ok (.iconst 1, 1) := by decide +kernel
theorem dX11_sled_113 : decode cX11_sled 113 = .ok (.isub, 1) := by decide +kernel
theorem dX11_sled_114 : decode cX11_sled 114 = .ok (.ireturn, 1) := by decide +kernel
theorem dX11_timeOf_0 : decode cX11_timeOf 0 = .ok (.aload_n 0, 1) := by decide +kernel
theorem dX11_timeOf_1 : decode cX11_timeOf 1 = .ok (.getfield 7, 3) := by decide +kernel
theorem dX11_timeOf_4 : decode cX11_timeOf 4 = .ok (.iload_n 1, 1) := by decide +kernel
theorem dX11_timeOf_5 : decode cX11_timeOf 5 = .ok (.iaload, 1) := by decide +kernel
theorem dX11_timeOf_6 : decode cX11_timeOf 6 = .ok (.sipush 1000, 3) := by decide +kernel
theorem dX11_timeOf_9 : decode cX11_timeOf 9 = .ok (.aload_n 0, 1) := by decide +kernel
theorem dX11_timeOf_10 : decode cX11_timeOf 10 = .ok (.getfield 19, 3) := by decide +kernel
theorem dX11_timeOf_13 : decode cX11_timeOf 13 = .ok (.iload_n 1, 1) := by decide +kernel
theorem dX11_timeOf_14 : decode cX11_timeOf 14 = .ok (.iaload, 1) := by decide +kernel
theorem dX11_timeOf_15 : decode cX11_timeOf 15 = .ok (.isub, 1) := by decide +kernel
theorem dX11_timeOf_16 : decode cX11_timeOf 16 = .ok (.bipush 8, 2) := by decide +kernel
theorem dX11_timeOf_18 : decode cX11_timeOf 18 = .ok (.idiv, 1) := by decide +kernel
theorem dX11_timeOf_19 : decode cX11_timeOf 19 = .ok (.iadd, 1) := by decide +kernel
theorem dX11_timeOf_20 : decode cX11_timeOf 20 = .ok (.iconst 2, 1) := by decide +kernel
theorem dX11_timeOf_21 : decode cX11_timeOf 21 = .ok (.aload_n 0, 1) := by decide +kernel
theorem dX11_timeOf_22 : decode cX11_timeOf 22 = .ok (.getfield 22, 3) := by decide +kernel
theorem dX11_timeOf_25 : decode cX11_timeOf 25 = .ok (.iload_n 1, 1) := by decide +kernel
theorem dX11_timeOf_26 : decode cX11_timeOf 26 = .ok (.iaload, 1) := by decide +kernel
theorem dX11_timeOf_27 : decode cX11_timeOf 27 = .ok (.imul, 1) := by decide +kernel
theorem dX11_timeOf_28 : decode cX11_timeOf 28 = .ok (.iadd, 1) := by decide +kernel
theorem dX11_timeOf_29 : decode cX11_timeOf 29 = .ok (.aload_n 0, 1) := by decide +kernel
theorem dX11_timeOf_30 : decode cX11_timeOf 30 = .ok (.iload_n 3, 1) := by decide +kernel
theorem dX11_timeOf_31 : decode cX11_timeOf 31 = .ok (.aload_n 0, 1) := by decide +kernel
theorem dX11_timeOf_32 : decode cX11_timeOf 32 = .ok (.getfield 19, 3) := by decide +kernel
theorem dX11_timeOf_35 : decode cX11_timeOf 35 = .ok (.iload_n 1, 1) := by decide +kernel
theorem dX11_timeOf_36 : decode cX11_timeOf 36 = .ok (.iaload, 1) := by decide +kernel
theorem dX11_timeOf_37 : decode cX11_timeOf 37 = .ok (.invokevirtual 135, 3) := by decide +kernel
theorem dX11_timeOf_40 : decode cX11_timeOf 40 = .ok (.iadd, 1) := by decide +kernel
theorem dX11_timeOf_41 : decode cX11_timeOf 41 = .ok (.bipush 9, 2) := by decide +kernel
theorem dX11_timeOf_43 : decode cX11_timeOf 43 = .ok (.iload 4, 2) := by decide +kernel
theorem dX11_timeOf_45 : decode cX11_timeOf 45 = .ok (.isub, 1) := by decide +kernel
theorem dX11_timeOf_46 : decode cX11_timeOf 46 = .ok (.aload_n 0, 1) := by decide +kernel
theorem dX11_timeOf_47 : decode cX11_timeOf 47 = .ok (.getfield 13, 3) := by decide +kernel
theorem dX11_timeOf_50 : decode cX11_timeOf 50 = .ok (.iload_n 1, 1) := by decide +kernel
theorem dX11_timeOf_51 : decode cX11_timeOf 51 = .ok (.iaload, 1) := by decide +kernel
theorem dX11_timeOf_52 : decode cX11_timeOf 52 = .ok (.imul, 1) := by decide +kernel
theorem dX11_timeOf_53 : decode cX11_timeOf 53 = .ok (.iadd, 1) := by decide +kernel
theorem dX11_timeOf_54 : decode cX11_timeOf 54 = .ok (.iload_n 2, 1) := by decide +kernel
theorem dX11_timeOf_55 : decode cX11_timeOf 55 = .ok (.bipush 8, 2) := by decide +kernel
theorem dX11_timeOf_57 : decode cX11_timeOf 57 = .ok (.idiv, 1) := by decide +kernel
theorem dX11_timeOf_58 : decode cX11_timeOf 58 = .ok (.isub, 1) := by decide +kernel
theorem dX11_timeOf_59 : decode cX11_timeOf 59 = .ok (.istore 5, 2) := by decide +kernel
theorem dX11_timeOf_61 : decode cX11_timeOf 61 = .ok (.iload 5, 2) := by decide +kernel
theorem dX11_timeOf_63 : decode cX11_timeOf 63 = .ok (.iconst 1, 1) := by decide +kernel
theorem dX11_timeOf_64 : decode cX11_timeOf 64 = .ok (.if_icmp .ge 7, 3) := by decide +kernel
theorem dX11_timeOf_67 : decode cX11_timeOf 67 = .ok (.iconst 1, 1) := by decide +kernel
theorem dX11_timeOf_68 : decode cX11_timeOf 68 = .ok (.goto 5, 3) := by decide +kernel
theorem dX11_timeOf_71 : decode cX11_timeOf 71 = .ok (.iload 5, 2) := by decide +kernel
theorem dX11_timeOf_73 : decode cX11_timeOf 73 = .ok (.ireturn, 1) := by decide +kernel
theorem dX11_standard_0 : decode cX11_standard 0 = .ok (.aload_n 0, 1) := by decide +kernel
theorem dX11_standard_1 : decode cX11_standard 1 = .ok (.iconst 0, 1) := by decide +kernel
theorem dX11_standard_2 : decode cX11_standard 2 = .ok (.putfield 106, 3) := by decide +kernel
theorem dX11_standard_5 : decode cX11_standard 5 = .ok (.iconst 0, 1) := by decide +kernel
theorem dX11_standard_6 : decode cX11_standard 6 = .ok (.istore_n 1, 1) := by decide +kernel
theorem dX11_standard_7 : decode cX11_standard 7 = .ok (.iconst 0, 1) := by decide +kernel
theorem dX11_standard_8 : decode cX11_standard 8 = .ok (.istore_n 2, 1) := by decide +kernel
theorem dX11_standard_9 : decode cX11_standard 9 = .ok (.iload_n 2, 1) := by decide +kernel
theorem dX11_standard_10 : decode cX11_standard 10 = .ok (.aload_n 0, 1) := by decide +kernel
theorem dX11_standard_11 : decode cX11_standard 11 = .ok (.getfield 117, 3) := by decide +kernel
theorem dX11_standard_14 : decode cX11_standard 14 = .ok (.if_icmp .ge 21, 3) := by decide +kernel
theorem dX11_standard_17 : decode cX11_standard 17 = .ok (.iload_n 1, 1) := by decide +kernel
theorem dX11_standard_18 : decode cX11_standard 18 = .ok (.aload_n 0, 1) := by decide +kernel
theorem dX11_standard_19 : decode cX11_standard 19 = .ok (.iload_n 2, 1) := by decide +kernel
theorem dX11_standard_20 : decode cX11_standard 20 = .ok (.bipush 100, 2) := by decide +kernel
theorem dX11_standard_22 : decode cX11_standard 22 = .ok (.iconst 0, 1) := by decide +kernel
theorem dX11_standard_23 : decode cX11_standard 23 = .ok (.iconst 5, 1) := by decide +kernel
theorem dX11_standard_24 : decode cX11_standard 24 = .ok (.invokevirtual 142, 3) := by decide +kernel
theorem dX11_standard_27 : decode cX11_standard 27 = .ok (.iadd, 1) := by decide +kernel
theorem dX11_standard_28 : decode cX11_standard 28 = .ok (.istore_n 1, 1) := by decide +kernel
theorem dX11_standard_29 : decode cX11_standard 29 = .ok (.iinc 2 1, 3) := by decide +kernel
theorem dX11_standard_32 : decode cX11_standard 32 = .ok (.goto (-23), 3) := by decide +kernel
theorem dX11_standard_35 : decode cX11_standard 35 = .ok (.iload_n 1, 1) := by decide +kernel
theorem dX11_standard_36 : decode cX11_standard 36 = .ok (.ireturn, 1) := by decide +kernel
theorem dX11_normal_0 : decode cX11_normal 0 = .ok (.aload_n 0, 1) := by decide +kernel
theorem dX11_normal_1 : decode cX11_normal 1 = .ok (.getfield 58, 3) := by decide +kernel
theorem dX11_normal_4 : decode cX11_normal 4 = .ok (.iconst 0, 1) := by decide +kernel
theorem dX11_normal_5 : decode cX11_normal 5 = .ok (.sipush 200, 3) := by decide +kernel
theorem dX11_normal_8 : decode cX11_normal 8 = .ok (.iastore, 1) := by decide +kernel
theorem dX11_normal_9 : decode cX11_normal 9 = .ok (.aload_n 0, 1) := by decide +kernel
theorem dX11_normal_10 : decode cX11_normal 10 = .ok (.getfield 58, 3) := by decide +kernel
theorem dX11_normal_13 : decode cX11_normal 13 = .ok (.iconst 1, 1) := by decide +kernel
theorem dX11_normal_14 : decode cX11_normal 14 = .ok (.bipush 100, 2) := by decide +kernel
theorem dX11_normal_16 : decode cX11_normal 16 = .ok (.iastore, 1) := by decide +kernel
theorem dX11_normal_17 : decode cX11_normal 17 = .ok (.aload_n 0, 1) := by decide +kernel
theorem dX11_normal_18 : decode cX11_normal 18 = .ok (.getfield 58, 3) := by decide +kernel
theorem dX11_normal_21 : decode cX11_normal 21 = .ok (.iconst 2, 1) := by decide +kernel
theorem dX11_normal_22 : decode cX11_normal 22 = .ok (.iconst 0, 1) := by decide +kernel
theorem dX11_normal_23 : decode cX11_normal 23 = .ok (.iastore, 1) := by decide +kernel
theorem dX11_normal_24 : decode cX11_normal 24 = .ok (.aload_n 0, 1) := by decide +kernel
theorem dX11_normal_25 : decode cX11_normal 25 = .ok (.getfield 58, 3) := by decide +kernel
theorem dX11_normal_28 : decode cX11_normal 28 = .ok (.iconst 3, 1) := by decide +kernel
theorem dX11_normal_29 : decode cX11_normal 29 = .ok (.bipush 16, 2) := by decide +kernel
theorem dX11_normal_31 : decode cX11_normal 31 = .ok (.iastore, 1) := by decide +kernel
theorem dX11_normal_32 : decode cX11_normal 32 = .ok (.aload_n 0, 1) := by decide +kernel
theorem dX11_normal_33 : decode cX11_normal 33 = .ok (.getfield 58, 3) := by decide +kernel
theorem dX11_normal_36 : decode cX11_normal 36 = .ok (.iconst 4, 1) := by decide +kernel
theorem dX11_normal_37 : decode cX11_normal 37 = .ok (.iconst 4, 1) := by decide +kernel
theorem dX11_normal_38 : decode cX11_normal 38 = .ok (.iastore, 1) := by decide +kernel
theorem dX11_normal_39 : decode cX11_normal 39 = .ok (.aload_n 0, 1) := by decide +kernel
theorem dX11_normal_40 : decode cX11_normal 40 = .ok (.getfield 58, 3) := by decide +kernel
theorem dX11_normal_43 : decode cX11_normal 43 = .ok (.iconst 5, 1) := by decide +kernel
theorem dX11_normal_44 : decode cX11_normal 44 = .ok (.iconst 0, 1) := by decide +kernel
theorem dX11_normal_45 : decode cX11_normal 45 = .ok (.iastore, 1) := by decide +kernel
theorem dX11_normal_46 : decode cX11_normal 46 = .ok (.return_, 1) := by decide +kernel
theorem dX11_takes_0 : decode cX11_takes 0 = .ok (.iconst 0, 1) := by decide +kernel
theorem dX11_takes_1 : decode cX11_takes 1 = .ok (.istore_n 1, 1) := by decide +kernel
theorem dX11_takes_2 : decode cX11_takes 2 = .ok (.iload_n 1, 1) := by decide +kernel
theorem dX11_takes_3 : decode cX11_takes 3 = .ok (.bipush 6, 2) := by decide +kernel
theorem dX11_takes_5 : decode cX11_takes 5 = .ok (.if_icmp .ge 21, 3) := by decide +kernel
theorem dX11_takes_8 : decode cX11_takes 8 = .ok (.aload_n 0, 1) := by decide +kernel
theorem dX11_takes_9 : decode cX11_takes 9 = .ok (.getfield 55, 3) := by decide +kernel
theorem dX11_takes_12 : decode cX11_takes 12 = .ok (.iload_n 1, 1) := by decide +kernel
theorem dX11_takes_13 : decode cX11_takes 13 = .ok (.aload_n 0, 1) := by decide +kernel
theorem dX11_takes_14 : decode cX11_takes 14 = .ok (.getfield 58, 3) := by decide +kernel
theorem dX11_takes_17 : decode cX11_takes 17 = .ok (.iload_n 1, 1) := by decide +kernel
theorem dX11_takes_18 : decode cX11_takes 18 = .ok (.iaload, 1) := by decide +kernel
theorem dX11_takes_19 : decode cX11_takes 19 = .ok (.iastore, 1) := by decide +kernel
theorem dX11_takes_20 : decode cX11_takes 20 = .ok (.iinc 1 1, 3) := by decide +kernel
theorem dX11_takes_23 : decode cX11_takes 23 = .ok (.goto (-21), 3) := by decide +kernel
theorem dX11_takes_26 : decode cX11_takes 26 = .ok (.return_, 1) := by decide +kernel
theorem dX11_feed_0 : decode cX11_feed 0 = .ok (.aload_n 0, 1) := by decide +kernel
theorem dX11_feed_1 : decode cX11_feed 1 = .ok (.iconst 0, 1) := by decide +kernel
theorem dX11_feed_2 : decode cX11_feed 2 = .ok (.putfield 106, 3) := by decide +kernel
theorem dX11_feed_5 : decode cX11_feed 5 = .ok (.aload_n 0, 1) := by decide +kernel
theorem dX11_feed_6 : decode cX11_feed 6 = .ok (.getfield 146, 3) := by decide +kernel
theorem dX11_feed_9 : decode cX11_feed 9 = .ok (.sipush 280, 3) := by decide +kernel
theorem dX11_feed_12 : decode cX11_feed 12 = .ok (.if_icmp .le 5, 3) := by decide +kernel
theorem dX11_feed_15 : decode cX11_feed 15 = .ok (.iconst (-1), 1) := by decide +kernel
theorem dX11_feed_16 : decode cX11_feed 16 = .ok (.ireturn, 1) := by decide +kernel
theorem dX11_feed_17 : decode cX11_feed 17 = .ok (.iconst 0, 1) := by decide +kernel
theorem dX11_feed_18 : decode cX11_feed 18 = .ok (.istore 6, 2) := by decide +kernel
theorem dX11_feed_20 : decode cX11_feed 20 = .ok (.iload 6, 2) := by decide +kernel
theorem dX11_feed_22 : decode cX11_feed 22 = .ok (.bipush 20, 2) := by decide +kernel
theorem dX11_feed_24 : decode cX11_feed 24 = .ok (.if_icmp .ge 90, 3) := by decide +kernel
theorem dX11_feed_27 : decode cX11_feed 27 = .ok (.iload 6, 2) := by decide +kernel
theorem dX11_feed_29 : decode cX11_feed 29 = .ok (.iconst 4, 1) := by decide +kernel
theorem dX11_feed_30 : decode cX11_feed 30 = .ok (.if_icmp .ge 7, 3) := by decide +kernel
theorem dX11_feed_33 : decode cX11_feed 33 = .ok (.iload_n 1, 1) := by decide +kernel
theorem dX11_feed_34 : decode cX11_feed 34 = .ok (.goto 39, 3) := by decide +kernel
theorem dX11_feed_37 : decode cX11_feed 37 = .ok (.iload 6, 2) := by decide +kernel
theorem dX11_feed_39 : decode cX11_feed 39 = .ok (.bipush 8, 2) := by decide +kernel
theorem dX11_feed_41 : decode cX11_feed 41 = .ok (.if_icmp .ge 7, 3) := by decide +kernel
theorem dX11_feed_44 : decode cX11_feed 44 = .ok (.iload_n 2, 1) := by decide +kernel
theorem dX11_feed_45 : decode cX11_feed 45 = .ok (.goto 28, 3) := by decide +kernel
theorem dX11_feed_48 : decode cX11_feed 48 = .ok (.iload 6, 2) := by decide +kernel
theorem dX11_feed_50 : decode cX11_feed 50 = .ok (.bipush 12, 2) := by decide +kernel
theorem dX11_feed_52 : decode cX11_feed 52 = .ok (.if_icmp .ge 7, 3) := by decide +kernel
theorem dX11_feed_55 : decode cX11_feed 55 = .ok (.iload_n 3, 1) := by decide +kernel
theorem dX11_feed_56 : decode cX11_feed 56 = .ok (.goto 17, 3) := by decide +kernel
theorem dX11_feed_59 : decode cX11_feed 59 = .ok (.iload 6, 2) := by decide +kernel
theorem dX11_feed_61 : decode cX11_feed 61 = .ok (.bipush 16, 2) := by decide +kernel
theorem dX11_feed_63 : decode cX11_feed 63 = .ok (.if_icmp .ge 8, 3) := by decide +kernel
theorem dX11_feed_66 : decode cX11_feed 66 = .ok (.iload 4, 2) := by decide +kernel
theorem dX11_feed_68 : decode cX11_feed 68 = .ok (.goto 5, 3) := by decide +kernel
theorem dX11_feed_71 : decode cX11_feed 71 = .ok (.iload 5, 2) := by decide +kernel
theorem dX11_feed_73 : decode cX11_feed 73 = .ok (.istore 7, 2) := by decide +kernel
theorem dX11_feed_75 : decode cX11_feed 75 = .ok (.aload_n 0, 1) := by decide +kernel
theorem dX11_feed_76 : decode cX11_feed 76 = .ok (.getfield 61, 3) := by decide +kernel
theorem dX11_feed_79 : decode cX11_feed 79 = .ok (.aload_n 0, 1) := by decide +kernel
theorem dX11_feed_80 : decode cX11_feed 80 = .ok (.getfield 146, 3) := by decide +kernel
theorem dX11_feed_83 : decode cX11_feed 83 = .ok (.iload 7, 2) := by decide +kernel
theorem dX11_feed_85 : decode cX11_feed 85 = .ok (.bipush 24, 2) := by decide +kernel
theorem dX11_feed_87 : decode cX11_feed 87 = .ok (.bipush 8, 2) := by decide +kernel
theorem dX11_feed_89 : decode cX11_feed 89 = .ok (.iload 6, 2) := by decide +kernel
theorem dX11_feed_91 : decode cX11_feed 91 = .ok (.iconst 4, 1) := by decide +kernel
theorem dX11_feed_92 : decode cX11_feed 92 = .ok (.irem, 1) := by decide +kernel
theorem dX11_feed_93 : decode cX11_feed 93 = .ok (.imul, 1) := by decide +kernel
theorem dX11_feed_94 : decode cX11_feed 94 = .ok (.isub, 1) := by decide +kernel
theorem dX11_feed_95 : decode cX11_feed 95 = .ok (.ishr, 1) := by decide +kernel
theorem dX11_feed_96 : decode cX11_feed 96 = .ok (.i2b, 1) := by decide +kernel
theorem dX11_feed_97 : decode cX11_feed 97 = .ok (.bastore, 1) := by decide +kernel
theorem dX11_feed_98 : decode cX11_feed 98 = .ok (.aload_n 0, 1) := by decide +kernel
theorem dX11_feed_99 : decode cX11_feed 99 = .ok (.dup, 1) := by decide +kernel
theorem dX11_feed_100 : decode cX11_feed 100 = .ok (.getfield 146, 3) := by decide +kernel
theorem dX11_feed_103 : decode cX11_feed 103 = .ok (.iconst 1, 1) := by decide +kernel
theorem dX11_feed_104 : decode cX11_feed 104 = .ok (.iadd, 1) := by decide +kernel
theorem dX11_feed_105 : decode cX11_feed 105 = .ok (.putfield 146, 3) := by decide +kernel
theorem dX11_feed_108 : decode cX11_feed 108 = .ok (.iinc 6 1, 3) := by decide +kernel
theorem dX11_feed_111 : decode cX11_feed 111 = .ok (.goto (-91), 3) := by decide +kernel
theorem dX11_feed_114 : decode cX11_feed 114 = .ok (.aload_n 0, 1) := by decide +kernel
theorem dX11_feed_115 : decode cX11_feed 115 = .ok (.getfield 146, 3) := by decide +kernel
theorem dX11_feed_118 : decode cX11_feed 118 = .ok (.ireturn, 1) := by decide +kernel
theorem dX11_end_0 : decode cX11_end 0 = .ok (.aload_n 0, 1) := by decide +kernel
theorem dX11_end_1 : decode cX11_end 1 = .ok (.iconst 0, 1) := by decide +kernel
theorem dX11_end_2 : decode cX11_end 2 = .ok (.putfield 106, 3) := by decide +kernel
theorem dX11_end_5 : decode cX11_end 5 = .ok (.iload_n 1, 1) := by decide +kernel
theorem dX11_end_6 : decode cX11_end 6 = .ok (.iconst 0, 1) := by decide +kernel
theorem dX11_end_7 : decode cX11_end 7 = .ok (.aload_n 0, 1) := by decide +kernel
theorem dX11_end_8 : decode cX11_end 8 = .ok (.getfield 146, 3) := by decide +kernel
theorem dX11_end_11 : decode cX11_end 11 = .ok (.invokestatic 109, 3) := by decide +kernel
theorem dX11_end_14 : decode cX11_end 14 = .ok (.ifCond .ne 5, 3) := by decide +kernel
theorem dX11_end_17 : decode cX11_end 17 = .ok (.iconst (-1), 1) := by decide +kernel
theorem dX11_end_18 : decode cX11_end 18 = .ok (.ireturn, 1) := by decide +kernel
theorem dX11_end_19 : decode cX11_end 19 = .ok (.aload_n 0, 1) := by decide +kernel
theorem dX11_end_20 : decode cX11_end 20 = .ok (.iload_n 1, 1) := by decide +kernel
theorem dX11_end_21 : decode cX11_end 21 = .ok (.putfield 146, 3) := by decide +kernel
theorem dX11_end_24 : decode cX11_end 24 = .ok (.iload_n 1, 1) := by decide +kernel
theorem dX11_end_25 : decode cX11_end 25 = .ok (.ireturn, 1) := by decide +kernel
theorem dX11_byteAt_0 : decode cX11_byteAt 0 = .ok (.iload_n 1, 1) := by decide +kernel
theorem dX11_byteAt_1 : decode cX11_byteAt 1 = .ok (.aload_n 0, 1) := by decide +kernel
theorem dX11_byteAt_2 : decode cX11_byteAt 2 = .ok (.getfield 146, 3) := by decide +kernel
theorem dX11_byteAt_5 : decode cX11_byteAt 5 = .ok (.if_icmp .ge 16, 3) := by decide +kernel
theorem dX11_byteAt_8 : decode cX11_byteAt 8 = .ok (.aload_n 0, 1) := by decide +kernel
theorem dX11_byteAt_9 : decode cX11_byteAt 9 = .ok (.getfield 61, 3) := by decide +kernel
theorem dX11_byteAt_12 : decode cX11_byteAt 12 = .ok (.iload_n 1, 1) := by decide +kernel
theorem dX11_byteAt_13 : decode cX11_byteAt 13 = .ok (.baload, 1) := by decide +kernel
theorem dX11_byteAt_14 : decode cX11_byteAt 14 = .ok (.sipush 255, 3) := by decide +kernel
theorem dX11_byteAt_17 : decode cX11_byteAt 17 = .ok (.iand, 1) := by decide +kernel
theorem dX11_byteAt_18 : decode cX11_byteAt 18 = .ok (.goto 4, 3) := by decide +kernel
theorem dX11_byteAt_21 : decode cX11_byteAt 21 = .ok (.iconst 0, 1) := by decide +kernel
theorem dX11_byteAt_22 : decode cX11_byteAt 22 = .ok (.ireturn, 1) := by decide +kernel
theorem dX11_isSmall_0 : decode cX11_isSmall 0 = .ok (.iload_n 0, 1) := by decide +kernel
theorem dX11_isSmall_1 : decode cX11_isSmall 1 = .ok (.bipush 97, 2) := by decide +kernel
theorem dX11_isSmall_3 : decode cX11_isSmall 3 = .ok (.if_icmp .lt 13, 3) := by decide +kernel
theorem dX11_isSmall_6 : decode cX11_isSmall 6 = .ok (.iload_n 0, 1) := by decide +kernel
theorem dX11_isSmall_7 : decode cX11_isSmall 7 = .ok (.bipush 122, 2) := by decide +kernel
theorem dX11_isSmall_9 : decode cX11_isSmall 9 = .ok (.if_icmp .gt 7, 3) := by decide +kernel
theorem dX11_isSmall_12 : decode cX11_isSmall 12 = .ok (.iconst 1, 1) := by decide +kernel
theorem dX11_isSmall_13 : decode cX11_isSmall 13 = .ok (.goto 4, 3) := by decide +kernel
theorem dX11_isSmall_16 : decode cX11_isSmall 16 = .ok (.iconst 0, 1) := by decide +kernel
theorem dX11_isSmall_17 : decode cX11_isSmall 17 = .ok (.ireturn, 1) := by decide +kernel
theorem dX11_isDigit_0 : decode cX11_isDigit 0 = .ok (.iload_n 0, 1) := by decide +kernel
theorem dX11_isDigit_1 : decode cX11_isDigit 1 = .ok (.bipush 48, 2) := by decide +kernel
theorem dX11_isDigit_3 : decode cX11_isDigit 3 = .ok (.if_icmp .lt 13, 3) := by decide +kernel
theorem dX11_isDigit_6 : decode cX11_isDigit 6 = .ok (.iload_n 0, 1) := by decide +kernel
theorem dX11_isDigit_7 : decode cX11_isDigit 7 = .ok (.bipush 57, 2) := by decide +kernel
theorem dX11_isDigit_9 : decode cX11_isDigit 9 = .ok (.if_icmp .gt 7, 3) := by decide +kernel
theorem dX11_isDigit_12 : decode cX11_isDigit 12 = .ok (.iconst 1, 1) := by decide +kernel
theorem dX11_isDigit_13 : decode cX11_isDigit 13 = .ok (.goto 4, 3) := by decide +kernel
theorem dX11_isDigit_16 : decode cX11_isDigit 16 = .ok (.iconst 0, 1) := by decide +kernel
theorem dX11_isDigit_17 : decode cX11_isDigit 17 = .ok (.ireturn, 1) := by decide +kernel
theorem dX11_token_0 : decode cX11_token 0 = .ok (.aload_n 0, 1) := by decide +kernel
theorem dX11_token_1 : decode cX11_token 1 = .ok (.aload_n 0, 1) := by decide +kernel
theorem dX11_token_2 : decode cX11_token 2 = .ok (.getfield 149, 3) := by decide +kernel
theorem dX11_token_5 : decode cX11_token 5 = .ok (.putfield 152, 3) := by decide +kernel
theorem dX11_token_8 : decode cX11_token 8 = .ok (.aload_n 0, 1) := by decide +kernel
theorem dX11_token_9 : decode cX11_token 9 = .ok (.aload_n 0, 1) := by decide +kernel
theorem dX11_token_10 : decode cX11_token 10 = .ok (.getfield 152, 3) := by decide +kernel
theorem dX11_token_13 : decode cX11_token 13 = .ok (.invokevirtual 155, 3) := by decide +kernel
theorem dX11_token_16 : decode cX11_token 16 = .ok (.bipush 32, 2) := by decide +kernel
theorem dX11_token_18 : decode cX11_token 18 = .ok (.if_icmp .eq 16, 3) := by decide +kernel
theorem dX11_token_21 : decode cX11_token 21 = .ok (.aload_n 0, 1) := by decide +kernel
theorem dX11_token_22 : decode cX11_token 22 = .ok (.aload_n 0, 1) := by decide +kernel
theorem dX11_token_23 : decode cX11_token 23 = .ok (.getfield 152, 3) := by decide +kernel
theorem dX11_token_26 : decode cX11_token 26 = .ok (.invokevirtual 155, 3) := by decide +kernel
theorem dX11_token_29 : decode cX11_token 29 = .ok (.bipush 10, 2) := by decide +kernel
theorem dX11_token_31 : decode cX11_token 31 = .ok (.if_icmp .ne 16, 3) := by decide +kernel
theorem dX11_token_34 : decode cX11_token 34 = .ok (.aload_n 0, 1) := by decide +kernel
theorem dX11_token_35 : decode cX11_token 35 = .ok (.dup, 1) := by decide +kernel
theorem dX11_token_36 : decode cX11_token 36 = .ok (.getfield 152, 3) := by decide +kernel
theorem dX11_token_39 : decode cX11_token 39 = .ok (.iconst 1, 1) := by decide +kernel
theorem dX11_token_40 : decode cX11_token 40 = .ok (.iadd, 1) := by decide +kernel
theorem dX11_token_41 : decode cX11_token 41 = .ok (.putfield 152, 3) := by decide +kernel
theorem dX11_token_44 : decode cX11_token 44 = .ok (.goto (-36), 3) := by decide +kernel
theorem dX11_token_47 : decode cX11_token 47 = .ok (.aload_n 0, 1) := by decide +kernel
theorem dX11_token_48 : decode cX11_token 48 = .ok (.aload_n 0, 1) := by decide +kernel
theorem dX11_token_49 : decode cX11_token 49 = .ok (.getfield 152, 3) := by decide +kernel
theorem dX11_token_52 : decode cX11_token 52 = .ok (.putfield 149, 3) := by decide +kernel
theorem dX11_token_55 : decode cX11_token 55 = .ok (.aload_n 0, 1) := by decide +kernel
theorem dX11_token_56 : decode cX11_token 56 = .ok (.aload_n 0, 1) := by decide +kernel
theorem dX11_token_57 : decode cX11_token 57 = .ok (.getfield 152, 3) := by decide +kernel
theorem dX11_token_60 : decode cX11_token 60 = .ok (.invokevirtual 155, 3) := by decide +kernel
theorem dX11_token_63 : decode cX11_token 63 = .ok (.invokestatic 159, 3) := by decide +kernel
theorem dX11_token_66 : decode cX11_token 66 = .ok (.ifCond .eq 30, 3) := by decide +kernel
theorem dX11_token_69 : decode cX11_token 69 = .ok (.aload_n 0, 1) := by decide +kernel
theorem dX11_token_70 : decode cX11_token 70 = .ok (.aload_n 0, 1) := by decide +kernel
theorem dX11_token_71 : decode cX11_token 71 = .ok (.getfield 149, 3) := by decide +kernel
theorem dX11_token_74 : decode cX11_token 74 = .ok (.invokevirtual 155, 3) := by decide +kernel
theorem dX11_token_77 : decode cX11_token 77 = .ok (.invokestatic 159, 3) := by decide +kernel
theorem dX11_token_80 : decode cX11_token 80 = .ok (.ifCond .eq 78, 3) := by decide +kernel
theorem dX11_token_83 : decode cX11_token 83 = .ok (.aload_n 0, 1) := by decide +kernel
theorem dX11_token_84 : decode cX11_token 84 = .ok (.dup, 1) := by decide +kernel
theorem dX11_token_85 : decode cX11_token 85 = .ok (.getfield 149, 3) := by decide +kernel
theorem dX11_token_88 : decode cX11_token 88 = .ok (.iconst 1, 1) := by decide +kernel
theorem dX11_token_89 : decode cX11_token 89 = .ok (.iadd, 1) := by decide +kernel
theorem dX11_token_90 : decode cX11_token 90 = .ok (.putfield 149, 3) := by decide +kernel
theorem dX11_token_93 : decode cX11_token 93 = .ok (.goto (-24), 3) := by decide +kernel
theorem dX11_token_96 : decode cX11_token 96 = .ok (.aload_n 0, 1) := by decide +kernel
theorem dX11_token_97 : decode cX11_token 97 = .ok (.aload_n 0, 1) := by decide +kernel
theorem dX11_token_98 : decode cX11_token 98 = .ok (.getfield 152, 3) := by decide +kernel
theorem dX11_token_101 : decode cX11_token 101 = .ok (.invokevirtual 155, 3) := by decide +kernel
theorem dX11_token_104 : decode cX11_token 104 = .ok (.invokestatic 162, 3) := by decide +kernel
theorem dX11_token_107 : decode cX11_token 107 = .ok (.ifCond .eq 30, 3) := by decide +kernel
theorem dX11_token_110 : decode cX11_token 110 = .ok (.aload_n 0, 1) := by decide +kernel
theorem dX11_token_111 : decode cX11_token 111 = .ok (.aload_n 0, 1) := by decide +kernel
theorem dX11_token_112 : decode cX11_token 112 = .ok (.getfield 149, 3) := by decide +kernel
theorem dX11_token_115 : decode cX11_token 115 = .ok (.invokevirtual 155, 3) := by decide +kernel
theorem dX11_token_118 : decode cX11_token 118 = .ok (.invokestatic 162, 3) := by decide +kernel
theorem dX11_token_121 : decode cX11_token 121 = .ok (.ifCond .eq 37, 3) := by decide +kernel
theorem dX11_token_124 : decode cX11_token 124 = .ok (.aload_n 0, 1) := by decide +kernel
theorem dX11_token_125 : decode cX11_token 125 = .ok (.dup, 1) := by decide +kernel
theorem dX11_token_126 : decode cX11_token 126 = .ok (.getfield 149, 3) := by decide +kernel
theorem dX11_token_129 : decode cX11_token 129 = .ok (.iconst 1, 1) := by decide +kernel
theorem dX11_token_130 : decode cX11_token 130 = .ok (.iadd, 1) := by decide +kernel
theorem dX11_token_131 : decode cX11_token 131 = .ok (.putfield 149, 3) := by decide +kernel
theorem dX11_token_134 : decode cX11_token 134 = .ok (.goto (-24), 3) := by decide +kernel
theorem dX11_token_137 : decode cX11_token 137 = .ok (.aload_n 0, 1) := by decide +kernel
theorem dX11_token_138 : decode cX11_token 138 = .ok (.getfield 152, 3) := by decide +kernel
theorem dX11_token_141 : decode cX11_token 141 = .ok (.aload_n 0, 1) := by decide +kernel
theorem dX11_token_142 : decode cX11_token 142 = .ok (.getfield 146, 3) := by decide +kernel
theorem dX11_token_145 : decode cX11_token 145 = .ok (.if_icmp .ge 13, 3) := by decide +kernel
theorem dX11_token_148 : decode cX11_token 148 = .ok (.aload_n 0, 1) := by decide +kernel
theorem dX11_token_149 : decode cX11_token 149 = .ok (.dup, 1) := by decide +kernel
theorem dX11_token_150 : decode cX11_token 150 = .ok (.getfield 149, 3) := by decide +kernel
theorem dX11_token_153 : decode cX11_token 153 = .ok (.iconst 1, 1) := by decide +kernel
theorem dX11_token_154 : decode cX11_token 154 = .ok (.iadd, 1) := by decide +kernel
theorem dX11_token_155 : decode cX11_token 155 = .ok (.putfield 149, 3) := by decide +kernel
theorem dX11_token_158 : decode cX11_token 158 = .ok (.return_, 1) := by decide +kernel
theorem dX11_is_0 : decode cX11_is 0 = .ok (.aload_n 0, 1) := by decide +kernel
theorem dX11_is_1 : decode cX11_is 1 = .ok (.getfield 149, 3) := by decide +kernel
theorem dX11_is_4 : decode cX11_is 4 = .ok (.aload_n 0, 1) := by decide +kernel
theorem dX11_is_5 : decode cX11_is 5 = .ok (.getfield 152, 3) := by decide +kernel
theorem dX11_is_8 : decode cX11_is 8 = .ok (.isub, 1) := by decide +kernel
theorem dX11_is_9 : decode cX11_is 9 = .ok (.aload_n 1, 1) := by decide +kernel
theorem dX11_is_10 : decode cX11_is 10 = .ok (.invokevirtual 165, 3) := by decide +kernel
theorem dX11_is_13 : decode cX11_is 13 = .ok (.if_icmp .ne 7, 3) := by decide +kernel
theorem dX11_is_16 : decode cX11_is 16 = .ok (.iconst 1, 1) := by decide +kernel
theorem dX11_is_17 : decode cX11_is 17 = .ok (.goto 4, 3) := by decide +kernel
theorem dX11_is_20 : decode cX11_is 20 = .ok (.iconst 0, 1) := by decide +kernel
theorem dX11_is_21 : decode cX11_is 21 = .ok (.istore_n 2, 1) := by decide +kernel
theorem dX11_is_22 : decode cX11_is 22 = .ok (.iconst 0, 1) := by decide +kernel
theorem dX11_is_23 : decode cX11_is 23 = .ok (.istore_n 3, 1) := by decide +kernel
theorem dX11_is_24 : decode cX11_is 24 = .ok (.iload_n 3, 1) := by decide +kernel
theorem dX11_is_25 : decode cX11_is 25 = .ok (.aload_n 1, 1) := by decide +kernel
theorem dX11_is_26 : decode cX11_is 26 = .ok (.invokevirtual 165, 3) := by decide +kernel
theorem dX11_is_29 : decode cX11_is 29 = .ok (.if_icmp .ge 37, 3) := by decide +kernel
theorem dX11_is_32 : decode cX11_is 32 = .ok (.iload_n 2, 1) := by decide +kernel
theorem dX11_is_33 : decode cX11_is 33 = .ok (.ifCond .eq 33, 3) := by decide +kernel
theorem dX11_is_36 : decode cX11_is 36 = .ok (.aload_n 0, 1) := by decide +kernel
theorem dX11_is_37 : decode cX11_is 37 = .ok (.aload_n 0, 1) := by decide +kernel
theorem dX11_is_38 : decode cX11_is 38 = .ok (.getfield 152, 3) := by decide +kernel
theorem dX11_is_41 : decode cX11_is 41 = .ok (.iload_n 3, 1) := by decide +kernel
theorem dX11_is_42 : decode cX11_is 42 = .ok (.iadd, 1) := by decide +kernel
theorem dX11_is_43 : decode cX11_is 43 = .ok (.invokevirtual 155, 3) := by decide +kernel
theorem dX11_is_46 : decode cX11_is 46 = .ok (.aload_n 1, 1) := by decide +kernel
theorem dX11_is_47 : decode cX11_is 47 = .ok (.iload_n 3, 1) := by decide +kernel
theorem dX11_is_48 : decode cX11_is 48 = .ok (.invokevirtual 171, 3) := by decide +kernel
theorem dX11_is_51 : decode cX11_is 51 = .ok (.if_icmp .ne 7, 3) := by decide +kernel
theorem dX11_is_54 : decode cX11_is 54 = .ok (.iconst 1, 1) := by decide +kernel
theorem dX11_is_55 : decode cX11_is 55 = .ok (.goto 4, 3) := by decide +kernel
theorem dX11_is_58 : decode cX11_is 58 = .ok (.iconst 0, 1) := by decide +kernel
theorem dX11_is_59 : decode cX11_is 59 = .ok (.istore_n 2, 1) := by decide +kernel
theorem dX11_is_60 : decode cX11_is 60 = .ok (.iinc 3 1, 3) := by decide +kernel
theorem dX11_is_63 : decode cX11_is 63 = .ok (.goto (-39), 3) := by decide +kernel
theorem dX11_is_66 : decode cX11_is 66 = .ok (.iload_n 2, 1) := by decide +kernel
theorem dX11_is_67 : decode cX11_is 67 = .ok (.ireturn, 1) := by decide +kernel
theorem dX11_fault_0 : decode cX11_fault 0 = .ok (.aload_n 0, 1) := by decide +kernel
theorem dX11_fault_1 : decode cX11_fault 1 = .ok (.aload_n 0, 1) := by decide +kernel
theorem dX11_fault_2 : decode cX11_fault 2 = .ok (.getfield 152, 3) := by decide +kernel
theorem dX11_fault_5 : decode cX11_fault 5 = .ok (.putfield 65, 3) := by decide +kernel
theorem dX11_fault_8 : decode cX11_fault 8 = .ok (.iload_n 1, 1) := by decide +kernel
theorem dX11_fault_9 : decode cX11_fault 9 = .ok (.ireturn, 1) := by decide +kernel
theorem dX11_lawAtHand_0 : decode cX11_lawAtHand 0 = .ok (.aload_n 0, 1) := by decide +kernel
theorem dX11_lawAtHand_1 : decode cX11_lawAtHand 1 = .ok (.ldc 175, 2) := by decide +kernel
theorem dX11_lawAtHand_3 : decode cX11_lawAtHand 3 = .ok (.invokevirtual 176, 3) := by decide +kernel
theorem dX11_lawAtHand_6 : decode cX11_lawAtHand 6 = .ok (.ifCond .eq 7, 3) := by decide +kernel
theorem dX11_lawAtHand_9 : decode cX11_lawAtHand 9 = .ok (.iconst 0, 1) := by decide +kernel
theorem dX11_lawAtHand_10 : decode cX11_lawAtHand 10 = .ok (.goto 83, 3) := by decide +kernel
theorem dX11_lawAtHand_13 : decode cX11_lawAtHand 13 = .ok (.aload_n 0, 1) := by decide +kernel
theorem dX11_lawAtHand_14 : decode cX11_lawAtHand 14 = .ok (.ldc 180, 2) := by decide +kernel
theorem dX11_lawAtHand_16 : decode cX11_lawAtHand 16 = .ok (.invokevirtual 176, 3) := by decide +kernel
theorem dX11_lawAtHand_19 : decode cX11_lawAtHand 19 = .ok (.ifCond .eq 7, 3) := by decide +kernel
theorem dX11_lawAtHand_22 : decode cX11_lawAtHand 22 = .ok (.iconst 1, 1) := by decide +kernel
theorem dX11_lawAtHand_23 : decode cX11_lawAtHand 23 = .ok (.goto 70, 3) := by decide +kernel
theorem dX11_lawAtHand_26 : decode cX11_lawAtHand 26 = .ok (.aload_n 0, 1) := by decide +kernel
theorem dX11_lawAtHand_27 : decode cX11_lawAtHand 27 = .ok (.ldc 182, 2) := by decide +kernel
theorem dX11_lawAtHand_29 : decode cX11_lawAtHand 29 = .ok (.invokevirtual 176, 3) := by decide +kernel
theorem dX11_lawAtHand_32 : decode cX11_lawAtHand 32 = .ok (.ifCond .eq 7, 3) := by decide +kernel
theorem dX11_lawAtHand_35 : decode cX11_lawAtHand 35 = .ok (.iconst 2, 1) := by decide +kernel
theorem dX11_lawAtHand_36 : decode cX11_lawAtHand 36 = .ok (.goto 57, 3) := by decide +kernel
theorem dX11_lawAtHand_39 : decode cX11_lawAtHand 39 = .ok (.aload_n 0, 1) := by decide +kernel
theorem dX11_lawAtHand_40 : decode cX11_lawAtHand 40 = .ok (.ldc 184, 2) := by decide +kernel
theorem dX11_lawAtHand_42 : decode cX11_lawAtHand 42 = .ok (.invokevirtual 176, 3) := by decide +kernel
theorem dX11_lawAtHand_45 : decode cX11_lawAtHand 45 = .ok (.ifCond .eq 7, 3) := by decide +kernel
theorem dX11_lawAtHand_48 : decode cX11_lawAtHand 48 = .ok (.iconst 3, 1) := by decide +kernel
theorem dX11_lawAtHand_49 : decode cX11_lawAtHand 49 = .ok (.goto 44, 3) := by decide +kernel
theorem dX11_lawAtHand_52 : decode cX11_lawAtHand 52 = .ok (.aload_n 0, 1) := by decide +kernel
theorem dX11_lawAtHand_53 : decode cX11_lawAtHand 53 = .ok (.ldc 186, 2) := by decide +kernel
theorem dX11_lawAtHand_55 : decode cX11_lawAtHand 55 = .ok (.invokevirtual 176, 3) := by decide +kernel
theorem dX11_lawAtHand_58 : decode cX11_lawAtHand 58 = .ok (.ifCond .eq 7, 3) := by decide +kernel
theorem dX11_lawAtHand_61 : decode cX11_lawAtHand 61 = .ok (.iconst 4, 1) := by decide +kernel
theorem dX11_lawAtHand_62 : decode cX11_lawAtHand 62 = .ok (.goto 31, 3) := by decide +kernel
theorem dX11_lawAtHand_65 : decode cX11_lawAtHand 65 = .ok (.aload_n 0, 1) := by decide +kernel
theorem dX11_lawAtHand_66 : decode cX11_lawAtHand 66 = .ok (.ldc 188, 2) := by decide +kernel
theorem dX11_lawAtHand_68 : decode cX11_lawAtHand 68 = .ok (.invokevirtual 176, 3) := by decide +kernel
theorem dX11_lawAtHand_71 : decode cX11_lawAtHand 71 = .ok (.ifCond .eq 7, 3) := by decide +kernel
theorem dX11_lawAtHand_74 : decode cX11_lawAtHand 74 = .ok (.iconst 5, 1) := by decide +kernel
theorem dX11_lawAtHand_75 : decode cX11_lawAtHand 75 = .ok (.goto 18, 3) := by decide +kernel
theorem dX11_lawAtHand_78 : decode cX11_lawAtHand 78 = .ok (.aload_n 0, 1) := by decide +kernel
theorem dX11_lawAtHand_79 : decode cX11_lawAtHand 79 = .ok (.ldc 190, 2) := by decide +kernel
theorem dX11_lawAtHand_81 : decode cX11_lawAtHand 81 = .ok (.invokevirtual 176, 3) := by decide +kernel
theorem dX11_lawAtHand_84 : decode cX11_lawAtHand 84 = .ok (.ifCond .eq 8, 3) := by decide +kernel
theorem dX11_lawAtHand_87 : decode cX11_lawAtHand 87 = .ok (.bipush 6, 2) := by decide +kernel
theorem dX11_lawAtHand_89 : decode cX11_lawAtHand 89 = .ok (.goto 4, 3) := by decide +kernel
theorem dX11_lawAtHand_92 : decode cX11_lawAtHand 92 = .ok (.iconst (-1), 1) := by decide +kernel
theorem dX11_lawAtHand_93 : decode cX11_lawAtHand 93 = .ok (.ireturn, 1) := by decide +kernel
theorem dX11_least_0 : decode cX11_least 0 = .ok (.iload_n 0, 1) := by decide +kernel
theorem dX11_least_1 : decode cX11_least 1 = .ok (.ifCond .ne 8, 3) := by decide +kernel
theorem dX11_least_4 : decode cX11_least 4 = .ok (.bipush 50, 2) := by decide +kernel
theorem dX11_least_6 : decode cX11_least 6 = .ok (.goto 13, 3) := by decide +kernel
theorem dX11_least_9 : decode cX11_least 9 = .ok (.iload_n 0, 1) := by decide +kernel
theorem dX11_least_10 : decode cX11_least 10 = .ok (.iconst 2, 1) := by decide +kernel
theorem dX11_least_11 : decode cX11_least 11 = .ok (.if_icmp .le 7, 3) := by decide +kernel
theorem dX11_least_14 : decode cX11_least 14 = .ok (.iconst 1, 1) := by decide +kernel
theorem dX11_least_15 : decode cX11_least 15 = .ok (.goto 4, 3) := by decide +kernel
theorem dX11_least_18 : decode cX11_least 18 = .ok (.iconst 0, 1) := by decide +kernel
theorem dX11_least_19 : decode cX11_least 19 = .ok (.ireturn, 1) := by decide +kernel
theorem dX11_most_0 : decode cX11_most 0 = .ok (.iload_n 0, 1) := by decide +kernel
theorem dX11_most_1 : decode cX11_most 1 = .ok (.ifCond .ne 9, 3) := by decide +kernel
theorem dX11_most_4 : decode cX11_most 4 = .ok (.sipush 200, 3) := by decide +kernel
theorem dX11_most_7 : decode cX11_most 7 = .ok (.goto 24, 3) := by decide +kernel
theorem dX11_most_10 : decode cX11_most 10 = .ok (.iload_n 0, 1) := by decide +kernel
theorem dX11_most_11 : decode cX11_most 11 = .ok (.iconst 1, 1) := by decide +kernel
theorem dX11_most_12 : decode cX11_most 12 = .ok (.if_icmp .ne 8, 3) := by decide +kernel
theorem dX11_most_15 : decode cX11_most 15 = .ok (.bipush 100, 2) := by decide +kernel
theorem dX11_most_17 : decode cX11_most 17 = .ok (.goto 14, 3) := by decide +kernel
theorem dX11_most_20 : decode cX11_most 20 = .ok (.iload_n 0, 1) := by decide +kernel
theorem dX11_most_21 : decode cX11_most 21 = .ok (.iconst 4, 1) := by decide +kernel
theorem dX11_most_22 : decode cX11_most 22 = .ok (.if_icmp .ne 7, 3) := by decide +kernel
theorem dX11_most_25 : decode cX11_most 25 = .ok (.iconst 4, 1) := by decide +kernel
theorem dX11_most_26 : decode cX11_most 26 = .ok (.goto 5, 3) := by decide +kernel
theorem dX11_most_29 : decode cX11_most 29 = .ok (.bipush 16, 2) := by decide +kernel
theorem dX11_most_31 : decode cX11_most 31 = .ok (.ireturn, 1) := by decide +kernel
theorem dX11_one_0 : decode cX11_one 0 = .ok (.aload_n 0, 1) := by decide +kernel
theorem dX11_one_1 : decode cX11_one 1 = .ok (.invokevirtual 192, 3) := by decide +kernel
theorem dX11_one_4 : decode cX11_one 4 = .ok (.istore_n 1, 1) := by decide +kernel
theorem dX11_one_5 : decode cX11_one 5 = .ok (.iload_n 1, 1) := by decide +kernel
theorem dX11_one_6 : decode cX11_one 6 = .ok (.iconst (-1), 1) := by decide +kernel
theorem dX11_one_7 : decode cX11_one 7 = .ok (.if_icmp .ne 9, 3) := by decide +kernel
theorem dX11_one_10 : decode cX11_one 10 = .ok (.aload_n 0, 1) := by decide +kernel
theorem dX11_one_11 : decode cX11_one 11 = .ok (.iconst 1, 1) := by decide +kernel
theorem dX11_one_12 : decode cX11_one 12 = .ok (.invokevirtual 195, 3) := by decide +kernel
theorem dX11_one_15 : decode cX11_one 15 = .ok (.ireturn, 1) := by decide +kernel
theorem dX11_one_16 : decode cX11_one 16 = .ok (.aload_n 0, 1) := by decide +kernel
theorem dX11_one_17 : decode cX11_one 17 = .ok (.invokevirtual 198, 3) := by decide +kernel
theorem dX11_one_20 : decode cX11_one 20 = .ok (.iload_n 1, 1) := by decide +kernel
theorem dX11_one_21 : decode cX11_one 21 = .ok (.iconst 4, 1) := by decide +kernel
theorem dX11_one_22 : decode cX11_one 22 = .ok (.if_icmp .le 16, 3) := by decide +kernel
theorem dX11_one_25 : decode cX11_one 25 = .ok (.aload_n 0, 1) := by decide +kernel
theorem dX11_one_26 : decode cX11_one 26 = .ok (.getfield 58, 3) := by decide +kernel
theorem dX11_one_29 : decode cX11_one 29 = .ok (.iconst 5, 1) := by decide +kernel
theorem dX11_one_30 : decode cX11_one 30 = .ok (.bipush 6, 2) := by decide +kernel
theorem dX11_one_32 : decode cX11_one 32 = .ok (.iload_n 1, 1) := by decide +kernel
theorem dX11_one_33 : decode cX11_one 33 = .ok (.isub, 1) := by decide +kernel
theorem dX11_one_34 : decode cX11_one 34 = .ok (.iastore, 1) := by decide +kernel
theorem dX11_one_35 : decode cX11_one 35 = .ok (.goto 103, 3) := by decide +kernel
theorem dX11_one_38 : decode cX11_one 38 = .ok (.aload_n 0, 1) := by decide +kernel
theorem dX11_one_39 : decode cX11_one 39 = .ok (.aload_n 0, 1) := by decide +kernel
theorem dX11_one_40 : decode cX11_one 40 = .ok (.getfield 152, 3) := by decide +kernel
theorem dX11_one_43 : decode cX11_one 43 = .ok (.invokevirtual 155, 3) := by decide +kernel
theorem dX11_one_46 : decode cX11_one 46 = .ok (.invokestatic 162, 3) := by decide +kernel
theorem dX11_one_49 : decode cX11_one 49 = .ok (.ifCond .eq 16, 3) := by decide +kernel
theorem dX11_one_52 : decode cX11_one 52 = .ok (.aload_n 0, 1) := by decide +kernel
theorem dX11_one_53 : decode cX11_one 53 = .ok (.getfield 149, 3) := by decide +kernel
theorem dX11_one_56 : decode cX11_one 56 = .ok (.aload_n 0, 1) := by decide +kernel
theorem dX11_one_57 : decode cX11_one 57 = .ok (.getfield 152, 3) := by decide +kernel
theorem dX11_one_60 : decode cX11_one 60 = .ok (.isub, 1) := by decide +kernel
theorem dX11_one_61 : decode cX11_one 61 = .ok (.iconst 4, 1) := by decide +kernel
theorem dX11_one_62 : decode cX11_one 62 = .ok (.if_icmp .le 9, 3) := by decide +kernel
theorem dX11_one_65 : decode cX11_one 65 = .ok (.aload_n 0, 1) := by decide +kernel
theorem dX11_one_66 : decode cX11_one 66 = .ok (.iconst 1, 1) := by decide +kernel
theorem dX11_one_67 : decode cX11_one 67 = .ok (.invokevirtual 195, 3) := by decide +kernel
theorem dX11_one_70 : decode cX11_one 70 = .ok (.ireturn, 1) := by decide +kernel
theorem dX11_one_71 : decode cX11_one 71 = .ok (.iconst 0, 1) := by decide +kernel
theorem dX11_one_72 : decode cX11_one 72 = .ok (.istore_n 2, 1) := by decide +kernel
theorem dX11_one_73 : decode cX11_one 73 = .ok (.aload_n 0, 1) := by decide +kernel
theorem dX11_one_74 : decode cX11_one 74 = .ok (.getfield 152, 3) := by decide +kernel
theorem dX11_one_77 : decode cX11_one 77 = .ok (.istore_n 3, 1) := by decide +kernel
theorem dX11_one_78 : decode cX11_one 78 = .ok (.iload_n 3, 1) := by decide +kernel
theorem dX11_one_79 : decode cX11_one 79 = .ok (.aload_n 0, 1) := by decide +kernel
theorem dX11_one_80 : decode cX11_one 80 = .ok (.getfield 149, 3) := by decide +kernel
theorem dX11_one_83 : decode cX11_one 83 = .ok (.if_icmp .ge 23, 3) := by decide +kernel
theorem dX11_one_86 : decode cX11_one 86 = .ok (.bipush 10, 2) := by decide +kernel
theorem dX11_one_88 : decode cX11_one 88 = .ok (.iload_n 2, 1) := by decide +kernel
theorem dX11_one_89 : decode cX11_one 89 = .ok (.imul, 1) := by decide +kernel
theorem dX11_one_90 : decode cX11_one 90 = .ok (.aload_n 0, 1) := by decide +kernel
theorem dX11_one_91 : decode cX11_one 91 = .ok (.iload_n 3, 1) := by decide +kernel
theorem dX11_one_92 : decode cX11_one 92 = .ok (.invokevirtual 155, 3) := by decide +kernel
theorem dX11_one_95 : decode cX11_one 95 = .ok (.iadd, 1) := by decide +kernel
theorem dX11_one_96 : decode cX11_one 96 = .ok (.bipush 48, 2) := by decide +kernel
theorem dX11_one_98 : decode cX11_one 98 = .ok (.isub, 1) := by decide +kernel
theorem dX11_one_99 : decode cX11_one 99 = .ok (.istore_n 2, 1) := by decide +kernel
theorem dX11_one_100 : decode cX11_one 100 = .ok (.iinc 3 1, 3) := by decide +kernel
theorem dX11_one_103 : decode cX11_one 103 = .ok (.goto (-25), 3) := by decide +kernel
theorem dX11_one_106 : decode cX11_one 106 = .ok (.iload_n 2, 1) := by decide +kernel
theorem dX11_one_107 : decode cX11_one 107 = .ok (.iload_n 1, 1) := by decide +kernel
theorem dX11_one_108 : decode cX11_one 108 = .ok (.invokestatic 201, 3) := by decide +kernel
theorem dX11_one_111 : decode cX11_one 111 = .ok (.iload_n 1, 1) := by decide +kernel
theorem dX11_one_112 : decode cX11_one 112 = .ok (.invokestatic 204, 3) := by decide +kernel
theorem dX11_one_115 : decode cX11_one 115 = .ok (.invokestatic 109, 3) := by decide +kernel
theorem dX11_one_118 : decode cX11_one 118 = .ok (.ifCond .ne 9, 3) := by decide +kernel
theorem dX11_one_121 : decode cX11_one 121 = .ok (.aload_n 0, 1) := by decide +kernel
theorem dX11_one_122 : decode cX11_one 122 = .ok (.iconst 2, 1) := by decide +kernel
theorem dX11_one_123 : decode cX11_one 123 = .ok (.invokevirtual 195, 3) := by decide +kernel
theorem dX11_one_126 : decode cX11_one 126 = .ok (.ireturn, 1) := by decide +kernel
theorem dX11_one_127 : decode cX11_one 127 = .ok (.aload_n 0, 1) := by decide +kernel
theorem dX11_one_128 : decode cX11_one 128 = .ok (.getfield 58, 3) := by decide +kernel
theorem dX11_one_131 : decode cX11_one 131 = .ok (.iload_n 1, 1) := by decide +kernel
theorem dX11_one_132 : decode cX11_one 132 = .ok (.iload_n 2, 1) := by decide +kernel
theorem dX11_one_133 : decode cX11_one 133 = .ok (.iastore, 1) := by decide +kernel
theorem dX11_one_134 : decode cX11_one 134 = .ok (.aload_n 0, 1) := by decide +kernel
theorem dX11_one_135 : decode cX11_one 135 = .ok (.invokevirtual 198, 3) := by decide +kernel
theorem dX11_one_138 : decode cX11_one 138 = .ok (.aload_n 0, 1) := by decide +kernel
theorem dX11_one_139 : decode cX11_one 139 = .ok (.ldc 207, 2) := by decide +kernel
theorem dX11_one_141 : decode cX11_one 141 = .ok (.invokevirtual 176, 3) := by decide +kernel
theorem dX11_one_144 : decode cX11_one 144 = .ok (.ifCond .ne 9, 3) := by decide +kernel
theorem dX11_one_147 : decode cX11_one 147 = .ok (.aload_n 0, 1) := by decide +kernel
theorem dX11_one_148 : decode cX11_one 148 = .ok (.iconst 1, 1) := by decide +kernel
theorem dX11_one_149 : decode cX11_one 149 = .ok (.invokevirtual 195, 3) := by decide +kernel
theorem dX11_one_152 : decode cX11_one 152 = .ok (.ireturn, 1) := by decide +kernel
theorem dX11_one_153 : decode cX11_one 153 = .ok (.aload_n 0, 1) := by decide +kernel
theorem dX11_one_154 : decode cX11_one 154 = .ok (.invokevirtual 198, 3) := by decide +kernel
theorem dX11_one_157 : decode cX11_one 157 = .ok (.iconst 0, 1) := by decide +kernel
theorem dX11_one_158 : decode cX11_one 158 = .ok (.ireturn, 1) := by decide +kernel
theorem dX11_laws_0 : decode cX11_laws 0 = .ok (.aload_n 0, 1) := by decide +kernel
theorem dX11_laws_1 : decode cX11_laws 1 = .ok (.iconst 0, 1) := by decide +kernel
theorem dX11_laws_2 : decode cX11_laws 2 = .ok (.putfield 106, 3) := by decide +kernel
theorem dX11_laws_5 : decode cX11_laws 5 = .ok (.aload_n 0, 1) := by decide +kernel
theorem dX11_laws_6 : decode cX11_laws 6 = .ok (.invokevirtual 127, 3) := by decide +kernel
theorem dX11_laws_9 : decode cX11_laws 9 = .ok (.ifCond .eq 5, 3) := by decide +kernel
theorem dX11_laws_12 : decode cX11_laws 12 = .ok (.iconst (-1), 1) := by decide +kernel
theorem dX11_laws_13 : decode cX11_laws 13 = .ok (.ireturn, 1) := by decide +kernel
theorem dX11_laws_14 : decode cX11_laws 14 = .ok (.aload_n 0, 1) := by decide +kernel
theorem dX11_laws_15 : decode cX11_laws 15 = .ok (.invokevirtual 100, 3) := by decide +kernel
theorem dX11_laws_18 : decode cX11_laws 18 = .ok (.aload_n 0, 1) := by decide +kernel
theorem dX11_laws_19 : decode cX11_laws 19 = .ok (.iconst (-1), 1) := by decide +kernel
theorem dX11_laws_20 : decode cX11_laws 20 = .ok (.putfield 65, 3) := by decide +kernel
theorem dX11_laws_23 : decode cX11_laws 23 = .ok (.aload_n 0, 1) := by decide +kernel
theorem dX11_laws_24 : decode cX11_laws 24 = .ok (.iconst 0, 1) := by decide +kernel
theorem dX11_laws_25 : decode cX11_laws 25 = .ok (.putfield 149, 3) := by decide +kernel
theorem dX11_laws_28 : decode cX11_laws 28 = .ok (.aload_n 0, 1) := by decide +kernel
theorem dX11_laws_29 : decode cX11_laws 29 = .ok (.invokevirtual 198, 3) := by decide +kernel
theorem dX11_laws_32 : decode cX11_laws 32 = .ok (.iconst 0, 1) := by decide +kernel
theorem dX11_laws_33 : decode cX11_laws 33 = .ok (.istore_n 1, 1) := by decide +kernel
theorem dX11_laws_34 : decode cX11_laws 34 = .ok (.iload_n 1, 1) := by decide +kernel
theorem dX11_laws_35 : decode cX11_laws 35 = .ok (.ifCond .ne 22, 3) := by decide +kernel
theorem dX11_laws_38 : decode cX11_laws 38 = .ok (.aload_n 0, 1) := by decide +kernel
theorem dX11_laws_39 : decode cX11_laws 39 = .ok (.getfield 152, 3) := by decide +kernel
theorem dX11_laws_42 : decode cX11_laws 42 = .ok (.aload_n 0, 1) := by decide +kernel
theorem dX11_laws_43 : decode cX11_laws 43 = .ok (.getfield 146, 3) := by decide +kernel
theorem dX11_laws_46 : decode cX11_laws 46 = .ok (.if_icmp .ge 11, 3) := by decide +kernel
theorem dX11_laws_49 : decode cX11_laws 49 = .ok (.aload_n 0, 1) := by decide +kernel
theorem dX11_laws_50 : decode cX11_laws 50 = .ok (.invokevirtual 209, 3) := by decide +kernel
theorem dX11_laws_53 : decode cX11_laws 53 = .ok (.istore_n 1, 1) := by decide +kernel
theorem dX11_laws_54 : decode cX11_laws 54 = .ok (.goto (-20), 3) := by decide +kernel
theorem dX11_laws_57 : decode cX11_laws 57 = .ok (.aload_n 0, 1) := by decide +kernel
theorem dX11_laws_58 : decode cX11_laws 58 = .ok (.iconst 0, 1) := by decide +kernel
theorem dX11_laws_59 : decode cX11_laws 59 = .ok (.putfield 146, 3) := by decide +kernel
theorem dX11_laws_62 : decode cX11_laws 62 = .ok (.iload_n 1, 1) := by decide +kernel
theorem dX11_laws_63 : decode cX11_laws 63 = .ok (.ifCond .ne 7, 3) := by decide +kernel
theorem dX11_laws_66 : decode cX11_laws 66 = .ok (.aload_n 0, 1) := by decide +kernel
theorem dX11_laws_67 : decode cX11_laws 67 = .ok (.invokevirtual 103, 3) := by decide +kernel
theorem dX11_laws_70 : decode cX11_laws 70 = .ok (.iload_n 1, 1) := by decide +kernel
theorem dX11_laws_71 : decode cX11_laws 71 = .ok (.ireturn, 1) := by decide +kernel
theorem dX11_place_0 : decode cX11_place 0 = .ok (.aload_n 0, 1) := by decide +kernel
theorem dX11_place_1 : decode cX11_place 1 = .ok (.iconst 0, 1) := by decide +kernel
theorem dX11_place_2 : decode cX11_place 2 = .ok (.putfield 106, 3) := by decide +kernel
theorem dX11_place_5 : decode cX11_place 5 = .ok (.aload_n 0, 1) := by decide +kernel
theorem dX11_place_6 : decode cX11_place 6 = .ok (.getfield 65, 3) := by decide +kernel
theorem dX11_place_9 : decode cX11_place 9 = .ok (.ireturn, 1) := by decide +kernel
theorem dX11_law_0 : decode cX11_law 0 = .ok (.aload_n 0, 1) := by decide +kernel
theorem dX11_law_1 : decode cX11_law 1 = .ok (.iconst 0, 1) := by decide +kernel
theorem dX11_law_2 : decode cX11_law 2 = .ok (.putfield 106, 3) := by decide +kernel
theorem dX11_law_5 : decode cX11_law 5 = .ok (.iload_n 1, 1) := by decide +kernel
theorem dX11_law_6 : decode cX11_law 6 = .ok (.iconst 0, 1) := by decide +kernel
theorem dX11_law_7 : decode cX11_law 7 = .ok (.iconst 5, 1) := by decide +kernel
theorem dX11_law_8 : decode cX11_law 8 = .ok (.invokestatic 109, 3) := by decide +kernel
theorem dX11_law_11 : decode cX11_law 11 = .ok (.ifCond .eq 12, 3) := by decide +kernel
theorem dX11_law_14 : decode cX11_law 14 = .ok (.aload_n 0, 1) := by decide +kernel
theorem dX11_law_15 : decode cX11_law 15 = .ok (.getfield 55, 3) := by decide +kernel
theorem dX11_law_18 : decode cX11_law 18 = .ok (.iload_n 1, 1) := by decide +kernel
theorem dX11_law_19 : decode cX11_law 19 = .ok (.iaload, 1) := by decide +kernel
theorem dX11_law_20 : decode cX11_law 20 = .ok (.goto 4, 3) := by decide +kernel
theorem dX11_law_23 : decode cX11_law 23 = .ok (.iconst (-1), 1) := by decide +kernel
theorem dX11_law_24 : decode cX11_law 24 = .ok (.ireturn, 1) := by decide +kernel
theorem dX11_isOn_0 : decode cX11_isOn 0 = .ok (.aload_n 0, 1) := by decide +kernel
theorem dX11_isOn_1 : decode cX11_isOn 1 = .ok (.getfield 113, 3) := by decide +kernel
theorem dX11_isOn_4 : decode cX11_isOn 4 = .ok (.ifCond .eq 29, 3) := by decide +kernel
theorem dX11_isOn_7 : decode cX11_isOn 7 = .ok (.aload_n 0, 1) := by decide +kernel
theorem dX11_isOn_8 : decode cX11_isOn 8 = .ok (.getfield 212, 3) := by decide +kernel
theorem dX11_isOn_11 : decode cX11_isOn 11 = .ok (.ifCond .le 22, 3) := by decide +kernel
theorem dX11_isOn_14 : decode cX11_isOn 14 = .ok (.aload_n 0, 1) := by decide +kernel
theorem dX11_isOn_15 : decode cX11_isOn 15 = .ok (.getfield 69, 3) := by decide +kernel
theorem dX11_isOn_18 : decode cX11_isOn 18 = .ok (.aload_n 0, 1) := by decide +kernel
theorem dX11_isOn_19 : decode cX11_isOn 19 = .ok (.getfield 212, 3) := by decide +kernel
theorem dX11_isOn_22 : decode cX11_isOn 22 = .ok (.iconst 1, 1) := by decide +kernel
theorem dX11_isOn_23 : decode cX11_isOn 23 = .ok (.isub, 1) := by decide +kernel
theorem dX11_isOn_24 : decode cX11_isOn 24 = .ok (.iaload, 1) := by decide +kernel
theorem dX11_isOn_25 : decode cX11_isOn 25 = .ok (.iconst 1, 1) := by decide +kernel
theorem dX11_isOn_26 : decode cX11_isOn 26 = .ok (.if_icmp .ne 7, 3) := by decide +kernel
theorem dX11_isOn_29 : decode cX11_isOn 29 = .ok (.iconst 1, 1) := by decide +kernel
theorem dX11_isOn_30 : decode cX11_isOn 30 = .ok (.goto 4, 3) := by decide +kernel
theorem dX11_isOn_33 : decode cX11_isOn 33 = .ok (.iconst 0, 1) := by decide +kernel
theorem dX11_isOn_34 : decode cX11_isOn 34 = .ok (.ireturn, 1) := by decide +kernel
theorem dX11_race_0 : decode cX11_race 0 = .ok (.aload_n 0, 1) := by decide +kernel
theorem dX11_race_1 : decode cX11_race 1 = .ok (.iconst 0, 1) := by decide +kernel
theorem dX11_race_2 : decode cX11_race 2 = .ok (.putfield 106, 3) := by decide +kernel
theorem dX11_race_5 : decode cX11_race 5 = .ok (.aload_n 0, 1) := by decide +kernel
theorem dX11_race_6 : decode cX11_race 6 = .ok (.getfield 117, 3) := by decide +kernel
theorem dX11_race_9 : decode cX11_race 9 = .ok (.ifCond .eq 10, 3) := by decide +kernel
theorem dX11_race_12 : decode cX11_race 12 = .ok (.aload_n 0, 1) := by decide +kernel
theorem dX11_race_13 : decode cX11_race 13 = .ok (.invokevirtual 127, 3) := by decide +kernel
theorem dX11_race_16 : decode cX11_race 16 = .ok (.ifCond .eq 5, 3) := by decide +kernel
theorem dX11_race_19 : decode cX11_race 19 = .ok (.iconst 0, 1) := by decide +kernel
theorem dX11_race_20 : decode cX11_race 20 = .ok (.ireturn, 1) := by decide +kernel
theorem dX11_race_21 : decode cX11_race 21 = .ok (.aload_n 0, 1) := by decide +kernel
theorem dX11_race_22 : decode cX11_race 22 = .ok (.iconst 1, 1) := by decide +kernel
theorem dX11_race_23 : decode cX11_race 23 = .ok (.putfield 113, 3) := by decide +kernel
theorem dX11_race_26 : decode cX11_race 26 = .ok (.aload_n 0, 1) := by decide +kernel
theorem dX11_race_27 : decode cX11_race 27 = .ok (.invokevirtual 214, 3) := by decide +kernel
theorem dX11_race_30 : decode cX11_race 30 = .ok (.iconst 1, 1) := by decide +kernel
theorem dX11_race_31 : decode cX11_race 31 = .ok (.ireturn, 1) := by decide +kernel
theorem dX11_clears_0 : decode cX11_clears 0 = .ok (.aload_n 0, 1) := by decide +kernel
theorem dX11_clears_1 : decode cX11_clears 1 = .ok (.iconst 0, 1) := by decide +kernel
theorem dX11_clears_2 : decode cX11_clears 2 = .ok (.putfield 212, 3) := by decide +kernel
theorem dX11_clears_5 : decode cX11_clears 5 = .ok (.aload_n 0, 1) := by decide +kernel
theorem dX11_clears_6 : decode cX11_clears 6 = .ok (.iconst 0, 1) := by decide +kernel
theorem dX11_clears_7 : decode cX11_clears 7 = .ok (.putfield 217, 3) := by decide +kernel
theorem dX11_clears_10 : decode cX11_clears 10 = .ok (.aload_n 0, 1) := by decide +kernel
theorem dX11_clears_11 : decode cX11_clears 11 = .ok (.iconst 0, 1) := by decide +kernel
theorem dX11_clears_12 : decode cX11_clears 12 = .ok (.putfield 220, 3) := by decide +kernel
theorem dX11_clears_15 : decode cX11_clears 15 = .ok (.aload_n 0, 1) := by decide +kernel
theorem dX11_clears_16 : decode cX11_clears 16 = .ok (.iconst 0, 1) := by decide +kernel
theorem dX11_clears_17 : decode cX11_clears 17 = .ok (.putfield 223, 3) := by decide +kernel
theorem dX11_clears_20 : decode cX11_clears 20 = .ok (.iconst 0, 1) := by decide +kernel
theorem dX11_clears_21 : decode cX11_clears 21 = .ok (.istore_n 1, 1) := by decide +kernel
theorem dX11_clears_22 : decode cX11_clears 22 = .ok (.iload_n 1, 1) := by decide +kernel
theorem dX11_clears_23 : decode cX11_clears 23 = .ok (.bipush 16, 2) := by decide +kernel
theorem dX11_clears_25 : decode cX11_clears 25 = .ok (.if_icmp .ge 16, 3) := by decide +kernel
theorem dX11_clears_28 : decode cX11_clears 28 = .ok (.aload_n 0, 1) := by decide +kernel
theorem dX11_clears_29 : decode cX11_clears 29 = .ok (.getfield 75, 3) := by decide +kernel
theorem dX11_clears_32 : decode cX11_clears 32 = .ok (.iload_n 1, 1) := by decide +kernel
theorem dX11_clears_33 : decode cX11_clears 33 = .ok (.iconst 0, 1) := by decide +kernel
theorem dX11_clears_34 : decode cX11_clears 34 = .ok (.bastore, 1) := by decide +kernel
theorem dX11_clears_35 : decode cX11_clears 35 = .ok (.iinc 1 1, 3) := by decide +kernel
theorem dX11_clears_38 : decode cX11_clears 38 = .ok (.goto (-16), 3) := by decide +kernel
theorem dX11_clears_41 : decode cX11_clears 41 = .ok (.iconst 0, 1) := by decide +kernel
theorem dX11_clears_42 : decode cX11_clears 42 = .ok (.istore_n 1, 1) := by decide +kernel
theorem dX11_clears_43 : decode cX11_clears 43 = .ok (.iload_n 1, 1) := by decide +kernel
theorem dX11_clears_44 : decode cX11_clears 44 = .ok (.bipush 64, 2) := by decide +kernel
theorem dX11_clears_46 : decode cX11_clears 46 = .ok (.if_icmp .ge 16, 3) := by decide +kernel
theorem dX11_clears_49 : decode cX11_clears 49 = .ok (.aload_n 0, 1) := by decide +kernel
theorem dX11_clears_50 : decode cX11_clears 50 = .ok (.getfield 79, 3) := by decide +kernel
theorem dX11_clears_53 : decode cX11_clears 53 = .ok (.iload_n 1, 1) := by decide +kernel
theorem dX11_clears_54 : decode cX11_clears 54 = .ok (.iconst 0, 1) := by decide +kernel
theorem dX11_clears_55 : decode cX11_clears 55 = .ok (.bastore, 1) := by decide +kernel
theorem dX11_clears_56 : decode cX11_clears 56 = .ok (.iinc 1 1, 3) := by decide +kernel
theorem dX11_clears_59 : decode cX11_clears 59 = .ok (.goto (-16), 3) := by decide +kernel
theorem dX11_clears_62 : decode cX11_clears 62 = .ok (.iconst 0, 1) := by decide +kernel
theorem dX11_clears_63 : decode cX11_clears 63 = .ok (.istore_n 1, 1) := by decide +kernel
theorem dX11_clears_64 : decode cX11_clears 64 = .ok (.iload_n 1, 1) := by decide +kernel
theorem dX11_clears_65 : decode cX11_clears 65 = .ok (.iconst 4, 1) := by decide +kernel
theorem dX11_clears_66 : decode cX11_clears 66 = .ok (.if_icmp .ge 16, 3) := by decide +kernel
theorem dX11_clears_69 : decode cX11_clears 69 = .ok (.aload_n 0, 1) := by decide +kernel
theorem dX11_clears_70 : decode cX11_clears 70 = .ok (.getfield 69, 3) := by decide +kernel
theorem dX11_clears_73 : decode cX11_clears 73 = .ok (.iload_n 1, 1) := by decide +kernel
theorem dX11_clears_74 : decode cX11_clears 74 = .ok (.iconst 0, 1) := by decide +kernel
theorem dX11_clears_75 : decode cX11_clears 75 = .ok (.iastore, 1) := by decide +kernel
theorem dX11_clears_76 : decode cX11_clears 76 = .ok (.iinc 1 1, 3) := by decide +kernel
theorem dX11_clears_79 : decode cX11_clears 79 = .ok (.goto (-15), 3) := by decide +kernel
theorem dX11_clears_82 : decode cX11_clears 82 = .ok (.return_, 1) := by decide +kernel
theorem dX11_isEntered_0 : decode cX11_isEntered 0 = .ok (.aload_n 0, 1) := by decide +kernel
theorem dX11_isEntered_1 : decode cX11_isEntered 1 = .ok (.getfield 113, 3) := by decide +kernel
theorem dX11_isEntered_4 : decode cX11_isEntered 4 = .ok (.ifCond .eq 30, 3) := by decide +kernel
theorem dX11_isEntered_7 : decode cX11_isEntered 7 = .ok (.iload_n 1, 1) := by decide +kernel
theorem dX11_isEntered_8 : decode cX11_isEntered 8 = .ok (.iconst 0, 1) := by decide +kernel
theorem dX11_isEntered_9 : decode cX11_isEntered 9 = .ok (.aload_n 0, 1) := by decide +kernel
theorem dX11_isEntered_10 : decode cX11_isEntered 10 = .ok (.getfield 139, 3) := by decide +kernel
theorem dX11_isEntered_13 : decode cX11_isEntered 13 = .ok (.iconst 1, 1) := by decide +kernel
theorem dX11_isEntered_14 : decode cX11_isEntered 14 = .ok (.isub, 1) := by decide +kernel
theorem dX11_isEntered_15 : decode cX11_isEntered 15 = .ok (.invokestatic 109, 3) := by decide +kernel
theorem dX11_isEntered_18 : decode cX11_isEntered 18 = .ok (.ifCond .eq 16, 3) := by decide +kernel
theorem dX11_isEntered_21 : decode cX11_isEntered 21 = .ok (.aload_n 0, 1) := by decide +kernel
theorem dX11_isEntered_22 : decode cX11_isEntered 22 = .ok (.getfield 75, 3) := by decide +kernel
theorem dX11_isEntered_25 : decode cX11_isEntered 25 = .ok (.iload_n 1, 1) := by decide +kernel
theorem dX11_isEntered_26 : decode cX11_isEntered 26 = .ok (.baload, 1) := by decide +kernel
theorem dX11_isEntered_27 : decode cX11_isEntered 27 = .ok (.ifCond .eq 7, 3) := by decide +kernel
theorem dX11_isEntered_30 : decode cX11_isEntered 30 = .ok (.iconst 1, 1) := by decide +kernel
theorem dX11_isEntered_31 : decode cX11_isEntered 31 = .ok (.goto 4, 3) := by decide +kernel
theorem dX11_isEntered_34 : decode cX11_isEntered 34 = .ok (.iconst 0, 1) := by decide +kernel
theorem dX11_isEntered_35 : decode cX11_isEntered 35 = .ok (.ireturn, 1) := by decide +kernel
theorem dX11_begin_0 : decode cX11_begin 0 = .ok (.aload_n 0, 1) := by decide +kernel
theorem dX11_begin_1 : decode cX11_begin 1 = .ok (.iconst 0, 1) := by decide +kernel
theorem dX11_begin_2 : decode cX11_begin 2 = .ok (.putfield 106, 3) := by decide +kernel
theorem dX11_begin_5 : decode cX11_begin 5 = .ok (.aload_n 0, 1) := by decide +kernel
theorem dX11_begin_6 : decode cX11_begin 6 = .ok (.getfield 113, 3) := by decide +kernel
theorem dX11_begin_9 : decode cX11_begin 9 = .ok (.ifCond .eq 33, 3) := by decide +kernel
theorem dX11_begin_12 : decode cX11_begin 12 = .ok (.aload_n 0, 1) := by decide +kernel
theorem dX11_begin_13 : decode cX11_begin 13 = .ok (.invokevirtual 127, 3) := by decide +kernel
theorem dX11_begin_16 : decode cX11_begin 16 = .ok (.ifCond .ne 26, 3) := by decide +kernel
theorem dX11_begin_19 : decode cX11_begin 19 = .ok (.aload_n 0, 1) := by decide +kernel
theorem dX11_begin_20 : decode cX11_begin 20 = .ok (.getfield 212, 3) := by decide +kernel
theorem dX11_begin_23 : decode cX11_begin 23 = .ok (.aload_n 0, 1) := by decide +kernel
theorem dX11_begin_24 : decode cX11_begin 24 = .ok (.getfield 55, 3) := by decide +kernel
theorem dX11_begin_27 : decode cX11_begin 27 = .ok (.iconst 4, 1) := by decide +kernel
theorem dX11_begin_28 : decode cX11_begin 28 = .ok (.iaload, 1) := by decide +kernel
theorem dX11_begin_29 : decode cX11_begin 29 = .ok (.iconst 1, 1) := by decide +kernel
theorem dX11_begin_30 : decode cX11_begin 30 = .ok (.isub, 1) := by decide +kernel
theorem dX11_begin_31 : decode cX11_begin 31 = .ok (.if_icmp .gt 11, 3) := by decide +kernel
theorem dX11_begin_34 : decode cX11_begin 34 = .ok (.aload_n 0, 1) := by decide +kernel
theorem dX11_begin_35 : decode cX11_begin 35 = .ok (.getfield 212, 3) := by decide +kernel
theorem dX11_begin_38 : decode cX11_begin 38 = .ok (.iconst 3, 1) := by decide +kernel
theorem dX11_begin_39 : decode cX11_begin 39 = .ok (.if_icmp .le 5, 3) := by decide +kernel
theorem dX11_begin_42 : decode cX11_begin 42 = .ok (.iconst (-1), 1) := by decide +kernel
theorem dX11_begin_43 : decode cX11_begin 43 = .ok (.ireturn, 1) := by decide +kernel
theorem dX11_begin_44 : decode cX11_begin 44 = .ok (.iconst 0, 1) := by decide +kernel
theorem dX11_begin_45 : decode cX11_begin 45 = .ok (.istore_n 2, 1) := by decide +kernel
theorem dX11_begin_46 : decode cX11_begin 46 = .ok (.aload_n 0, 1) := by decide +kernel
theorem dX11_begin_47 : decode cX11_begin 47 = .ok (.getfield 212, 3) := by decide +kernel
theorem dX11_begin_50 : decode cX11_begin 50 = .ok (.ifCond .ne 50, 3) := by decide +kernel
theorem dX11_begin_53 : decode cX11_begin 53 = .ok (.iconst 0, 1) := by decide +kernel
theorem dX11_begin_54 : decode cX11_begin 54 = .ok (.istore_n 3, 1) := by decide +kernel
theorem dX11_begin_55 : decode cX11_begin 55 = .ok (.iload_n 3, 1) := by decide +kernel
theorem dX11_begin_56 : decode cX11_begin 56 = .ok (.aload_n 0, 1) := by decide +kernel
theorem dX11_begin_57 : decode cX11_begin 57 = .ok (.getfield 139, 3) := by decide +kernel
theorem dX11_begin_60 : decode cX11_begin 60 = .ok (.if_icmp .ge 37, 3) := by decide +kernel
theorem dX11_begin_63 : decode cX11_begin 63 = .ok (.aload_n 0, 1) := by decide +kernel
theorem dX11_begin_64 : decode cX11_begin 64 = .ok (.getfield 43, 3) := by decide +kernel
theorem dX11_begin_67 : decode cX11_begin 67 = .ok (.iload_n 3, 1) := by decide +kernel
theorem dX11_begin_68 : decode cX11_begin 68 = .ok (.iaload, 1) := by decide +kernel
theorem dX11_begin_69 : decode cX11_begin 69 = .ok (.aload_n 0, 1) := by decide +kernel
theorem dX11_begin_70 : decode cX11_begin 70 = .ok (.getfield 55, 3) := by decide +kernel
theorem dX11_begin_73 : decode cX11_begin 73 = .ok (.iconst 0, 1) := by decide +kernel
theorem dX11_begin_74 : decode cX11_begin 74 = .ok (.iaload, 1) := by decide +kernel
theorem dX11_begin_75 : decode cX11_begin 75 = .ok (.if_icmp .le 6, 3) := by decide +kernel
theorem dX11_begin_78 : decode cX11_begin 78 = .ok (.goto 13, 3) := by decide +kernel
theorem dX11_begin_81 : decode cX11_begin 81 = .ok (.aload_n 0, 1) := by decide +kernel
theorem dX11_begin_82 : decode cX11_begin 82 = .ok (.getfield 97, 3) := by decide +kernel
theorem dX11_begin_85 : decode cX11_begin 85 = .ok (.iload_n 2, 1) := by decide +kernel
theorem dX11_begin_86 : decode cX11_begin 86 = .ok (.iload_n 3, 1) := by decide +kernel
theorem dX11_begin_87 : decode cX11_begin 87 = .ok (.iastore, 1) := by decide +kernel
theorem dX11_begin_88 : decode cX11_begin 88 = .ok (.iinc 2 1, 3) := by decide +kernel
theorem dX11_begin_91 : decode cX11_begin 91 = .ok (.iinc 3 1, 3) := by decide +kernel
theorem dX11_begin_94 : decode cX11_begin 94 = .ok (.goto (-39), 3) := by decide +kernel
theorem dX11_begin_97 : decode cX11_begin 97 = .ok (.goto 65, 3) := by decide +kernel
theorem dX11_begin_100 : decode cX11_begin 100 = .ok (.iconst 1, 1) := by decide +kernel
theorem dX11_begin_101 : decode cX11_begin 101 = .ok (.istore_n 3, 1) := by decide +kernel
theorem dX11_begin_102 : decode cX11_begin 102 = .ok (.iload_n 3, 1) := by decide +kernel
theorem dX11_begin_103 : decode cX11_begin 103 = .ok (.aload_n 0, 1) := by decide +kernel
theorem dX11_begin_104 : decode cX11_begin 104 = .ok (.getfield 139, 3) := by decide +kernel
theorem dX11_begin_107 : decode cX11_begin 107 = .ok (.if_icmp .gt 55, 3) := by decide +kernel
theorem dX11_begin_110 : decode cX11_begin 110 = .ok (.iconst 0, 1) := by decide +kernel
theorem dX11_begin_111 : decode cX11_begin 111 = .ok (.istore 4, 2) := by decide +kernel
theorem dX11_begin_113 : decode cX11_begin 113 = .ok (.iload 4, 2) := by decide +kernel
theorem dX11_begin_115 : decode cX11_begin 115 = .ok (.aload_n 0, 1) := by decide +kernel
theorem dX11_begin_116 : decode cX11_begin 116 = .ok (.getfield 139, 3) := by decide +kernel
theorem dX11_begin_119 : decode cX11_begin 119 = .ok (.if_icmp .ge 37, 3) := by decide +kernel
theorem dX11_begin_122 : decode cX11_begin 122 = .ok (.aload_n 0, 1) := by decide +kernel
theorem dX11_begin_123 : decode cX11_begin 123 = .ok (.iload 4, 2) := by decide +kernel
theorem dX11_begin_125 : decode cX11_begin 125 = .ok (.aload_n 0, 1) := by decide +kernel
theorem dX11_begin_126 : decode cX11_begin 126 = .ok (.getfield 223, 3) := by decide +kernel
theorem dX11_begin_129 : decode cX11_begin 129 = .ok (.invokevirtual 226, 3) := by decide +kernel
theorem dX11_begin_132 : decode cX11_begin 132 = .ok (.iload_n 3, 1) := by decide +kernel
theorem dX11_begin_133 : decode cX11_begin 133 = .ok (.if_icmp .eq 6, 3) := by decide +kernel
theorem dX11_begin_136 : decode cX11_begin 136 = .ok (.goto 14, 3) := by decide +kernel
theorem dX11_begin_139 : decode cX11_begin 139 = .ok (.aload_n 0, 1) := by decide +kernel
theorem dX11_begin_140 : decode cX11_begin 140 = .ok (.getfield 97, 3) := by decide +kernel
theorem dX11_begin_143 : decode cX11_begin 143 = .ok (.iload_n 2, 1) := by decide +kernel
theorem dX11_begin_144 : decode cX11_begin 144 = .ok (.iload 4, 2) := by decide +kernel
theorem dX11_begin_146 : decode cX11_begin 146 = .ok (.iastore, 1) := by decide +kernel
theorem dX11_begin_147 : decode cX11_begin 147 = .ok (.iinc 2 1, 3) := by decide +kernel
theorem dX11_begin_150 : decode cX11_begin 150 = .ok (.iinc 4 1, 3) := by decide +kernel
theorem dX11_begin_153 : decode cX11_begin 153 = .ok (.goto (-40), 3) := by decide +kernel
theorem dX11_begin_156 : decode cX11_begin 156 = .ok (.iinc 3 1, 3) := by decide +kernel
theorem dX11_begin_159 : decode cX11_begin 159 = .ok (.goto (-57), 3) := by decide +kernel
theorem dX11_begin_162 : decode cX11_begin 162 = .ok (.iload_n 2, 1) := by decide +kernel
theorem dX11_begin_163 : decode cX11_begin 163 = .ok (.ifCond .ne 5, 3) := by decide +kernel
theorem dX11_begin_166 : decode cX11_begin 166 = .ok (.iconst (-1), 1) := by decide +kernel
theorem dX11_begin_167 : decode cX11_begin 167 = .ok (.ireturn, 1) := by decide +kernel
theorem dX11_begin_168 : decode cX11_begin 168 = .ok (.aload_n 0, 1) := by decide +kernel
theorem dX11_begin_169 : decode cX11_begin 169 = .ok (.getfield 212, 3) := by decide +kernel
theorem dX11_begin_172 : decode cX11_begin 172 = .ok (.ifCond .ne 12, 3) := by decide +kernel
theorem dX11_begin_175 : decode cX11_begin 175 = .ok (.aload_n 0, 1) := by decide +kernel
theorem dX11_begin_176 : decode cX11_begin 176 = .ok (.iload_n 1, 1) := by decide +kernel
theorem dX11_begin_177 : decode cX11_begin 177 = .ok (.iload_n 2, 1) := by decide +kernel
theorem dX11_begin_178 : decode cX11_begin 178 = .ok (.invokevirtual 229, 3) := by decide +kernel
theorem dX11_begin_181 : decode cX11_begin 181 = .ok (.goto 27, 3) := by decide +kernel
theorem dX11_begin_184 : decode cX11_begin 184 = .ok (.aload_n 0, 1) := by decide +kernel
theorem dX11_begin_185 : decode cX11_begin 185 = .ok (.iload_n 2, 1) := by decide +kernel
theorem dX11_begin_186 : decode cX11_begin 186 = .ok (.aload_n 0, 1) := by decide +kernel
theorem dX11_begin_187 : decode cX11_begin 187 = .ok (.getfield 55, 3) := by decide +kernel
theorem dX11_begin_190 : decode cX11_begin 190 = .ok (.iconst 3, 1) := by decide +kernel
theorem dX11_begin_191 : decode cX11_begin 191 = .ok (.iaload, 1) := by decide +kernel
theorem dX11_begin_192 : decode cX11_begin 192 = .ok (.if_icmp .ge 7, 3) := by decide +kernel
theorem dX11_begin_195 : decode cX11_begin 195 = .ok (.iload_n 2, 1) := by decide +kernel
theorem dX11_begin_196 : decode cX11_begin 196 = .ok (.goto 9, 3) := by decide +kernel
theorem dX11_begin_199 : decode cX11_begin 199 = .ok (.aload_n 0, 1) := by decide +kernel
theorem dX11_begin_200 : decode cX11_begin 200 = .ok (.getfield 55, 3) := by decide +kernel
theorem dX11_begin_203 : decode cX11_begin 203 = .ok (.iconst 3, 1) := by decide +kernel
theorem dX11_begin_204 : decode cX11_begin 204 = .ok (.iaload, 1) := by decide +kernel
theorem dX11_begin_205 : decode cX11_begin 205 = .ok (.invokevirtual 233, 3) := by decide +kernel
theorem dX11_begin_208 : decode cX11_begin 208 = .ok (.aload_n 0, 1) := by decide +kernel
theorem dX11_begin_209 : decode cX11_begin 209 = .ok (.iconst 0, 1) := by decide +kernel
theorem dX11_begin_210 : decode cX11_begin 210 = .ok (.putfield 220, 3) := by decide +kernel
theorem dX11_begin_213 : decode cX11_begin 213 = .ok (.aload_n 0, 1) := by decide +kernel
theorem dX11_begin_214 : decode cX11_begin 214 = .ok (.getfield 69, 3) := by decide +kernel
theorem dX11_begin_217 : decode cX11_begin 217 = .ok (.aload_n 0, 1) := by decide +kernel
theorem dX11_begin_218 : decode cX11_begin 218 = .ok (.getfield 212, 3) := by decide +kernel
theorem dX11_begin_221 : decode cX11_begin 221 = .ok (.iconst 1, 1) := by decide +kernel
theorem dX11_begin_222 : decode cX11_begin 222 = .ok (.iastore, 1) := by decide +kernel
theorem dX11_begin_223 : decode cX11_begin 223 = .ok (.aload_n 0, 1) := by decide +kernel
theorem dX11_begin_224 : decode cX11_begin 224 = .ok (.dup, 1) := by decide +kernel
theorem dX11_begin_225 : decode cX11_begin 225 = .ok (.getfield 212, 3) := by decide +kernel
theorem dX11_begin_228 : decode cX11_begin 228 = .ok (.iconst 1, 1) := by decide +kernel
theorem dX11_begin_229 : decode cX11_begin 229 = .ok (.iadd, 1) := by decide +kernel
theorem dX11_begin_230 : decode cX11_begin 230 = .ok (.putfield 212, 3) := by decide +kernel
theorem dX11_begin_233 : decode cX11_begin 233 = .ok (.aload_n 0, 1) := by decide +kernel
theorem dX11_begin_234 : decode cX11_begin 234 = .ok (.getfield 212, 3) := by decide +kernel
theorem dX11_begin_237 : decode cX11_begin 237 = .ok (.iconst 1, 1) := by decide +kernel
theorem dX11_begin_238 : decode cX11_begin 238 = .ok (.isub, 1) := by decide +kernel
theorem dX11_begin_239 : decode cX11_begin 239 = .ok (.ireturn, 1) := by decide +kernel
theorem dX11_draws_0 : decode cX11_draws 0 = .ok (.aload_n 0, 1) := by decide +kernel
theorem dX11_draws_1 : decode cX11_draws 1 = .ok (.iload_n 2, 1) := by decide +kernel
theorem dX11_draws_2 : decode cX11_draws 2 = .ok (.putfield 217, 3) := by decide +kernel
theorem dX11_draws_5 : decode cX11_draws 5 = .ok (.iload_n 1, 1) := by decide +kernel
theorem dX11_draws_6 : decode cX11_draws 6 = .ok (.istore_n 3, 1) := by decide +kernel
theorem dX11_draws_7 : decode cX11_draws 7 = .ok (.iload_n 2, 1) := by decide +kernel
theorem dX11_draws_8 : decode cX11_draws 8 = .ok (.istore 4, 2) := by decide +kernel
theorem dX11_draws_10 : decode cX11_draws 10 = .ok (.iconst 0, 1) := by decide +kernel
theorem dX11_draws_11 : decode cX11_draws 11 = .ok (.istore 5, 2) := by decide +kernel
theorem dX11_draws_13 : decode cX11_draws 13 = .ok (.iload 5, 2) := by decide +kernel
theorem dX11_draws_15 : decode cX11_draws 15 = .ok (.iload_n 2, 1) := by decide +kernel
theorem dX11_draws_16 : decode cX11_draws 16 = .ok (.if_icmp .ge 22, 3) := by decide +kernel
theorem dX11_draws_19 : decode cX11_draws 19 = .ok (.aload_n 0, 1) := by decide +kernel
theorem dX11_draws_20 : decode cX11_draws 20 = .ok (.getfield 75, 3) := by decide +kernel
theorem dX11_draws_23 : decode cX11_draws 23 = .ok (.aload_n 0, 1) := by decide +kernel
theorem dX11_draws_24 : decode cX11_draws 24 = .ok (.getfield 97, 3) := by decide +kernel
theorem dX11_draws_27 : decode cX11_draws 27 = .ok (.iload 5, 2) := by decide +kernel
theorem dX11_draws_29 : decode cX11_draws 29 = .ok (.iaload, 1) := by decide +kernel
theorem dX11_draws_30 : decode cX11_draws 30 = .ok (.iconst 1, 1) := by decide +kernel
theorem dX11_draws_31 : decode cX11_draws 31 = .ok (.bastore, 1) := by decide +kernel
theorem dX11_draws_32 : decode cX11_draws 32 = .ok (.iinc 5 1, 3) := by decide +kernel
theorem dX11_draws_35 : decode cX11_draws 35 = .ok (.goto (-22), 3) := by decide +kernel
theorem dX11_draws_38 : decode cX11_draws 38 = .ok (.iconst 0, 1) := by decide +kernel
theorem dX11_draws_39 : decode cX11_draws 39 = .ok (.istore 5, 2) := by decide +kernel
theorem dX11_draws_41 : decode cX11_draws 41 = .ok (.iload 5, 2) := by decide +kernel
theorem dX11_draws_43 : decode cX11_draws 43 = .ok (.iload_n 2, 1) := by decide +kernel
theorem dX11_draws_44 : decode cX11_draws 44 = .ok (.if_icmp .ge 77, 3) := by decide +kernel
theorem dX11_draws_47 : decode cX11_draws 47 = .ok (.iload_n 3, 1) := by decide +kernel
theorem dX11_draws_48 : decode cX11_draws 48 = .ok (.ldc 237, 2) := by decide +kernel
theorem dX11_draws_50 : decode cX11_draws 50 = .ok (.imul, 1) := by decide +kernel
theorem dX11_draws_51 : decode cX11_draws 51 = .ok (.sipush 12345, 3) := by decide +kernel
theorem dX11_draws_54 : decode cX11_draws 54 = .ok (.iadd, 1) := by decide +kernel
theorem dX11_draws_55 : decode cX11_draws 55 = .ok (.istore_n 3, 1) := by decide +kernel
theorem dX11_draws_56 : decode cX11_draws 56 = .ok (.iload_n 3, 1) := by decide +kernel
theorem dX11_draws_57 : decode cX11_draws 57 = .ok (.bipush 16, 2) := by decide +kernel
theorem dX11_draws_59 : decode cX11_draws 59 = .ok (.iushr, 1) := by decide +kernel
theorem dX11_draws_60 : decode cX11_draws 60 = .ok (.iload 4, 2) := by decide +kernel
theorem dX11_draws_62 : decode cX11_draws 62 = .ok (.irem, 1) := by decide +kernel
theorem dX11_draws_63 : decode cX11_draws 63 = .ok (.istore 6, 2) := by decide +kernel
theorem dX11_draws_65 : decode cX11_draws 65 = .ok (.aload_n 0, 1) := by decide +kernel
theorem dX11_draws_66 : decode cX11_draws 66 = .ok (.getfield 72, 3) := by decide +kernel
theorem dX11_draws_69 : decode cX11_draws 69 = .ok (.iload 5, 2) := by decide +kernel
theorem dX11_draws_71 : decode cX11_draws 71 = .ok (.aload_n 0, 1) := by decide +kernel
theorem dX11_draws_72 : decode cX11_draws 72 = .ok (.getfield 97, 3) := by decide +kernel
theorem dX11_draws_75 : decode cX11_draws 75 = .ok (.iload 6, 2) := by decide +kernel
theorem dX11_draws_77 : decode cX11_draws 77 = .ok (.iaload, 1) := by decide +kernel
theorem dX11_draws_78 : decode cX11_draws 78 = .ok (.iastore, 1) := by decide +kernel
theorem dX11_draws_79 : decode cX11_draws 79 = .ok (.iinc 4 (-1), 3) := by decide +kernel
theorem dX11_draws_82 : decode cX11_draws 82 = .ok (.iload 6, 2) := by decide +kernel
theorem dX11_draws_84 : decode cX11_draws 84 = .ok (.istore 7, 2) := by decide +kernel
theorem dX11_draws_86 : decode cX11_draws 86 = .ok (.iload 7, 2) := by decide +kernel
theorem dX11_draws_88 : decode cX11_draws 88 = .ok (.iload 4, 2) := by decide +kernel
theorem dX11_draws_90 : decode cX11_draws 90 = .ok (.if_icmp .ge 25, 3) := by decide +kernel
theorem dX11_draws_93 : decode cX11_draws 93 = .ok (.aload_n 0, 1) := by decide +kernel
theorem dX11_draws_94 : decode cX11_draws 94 = .ok (.getfield 97, 3) := by decide +kernel
theorem dX11_draws_97 : decode cX11_draws 97 = .ok (.iload 7, 2) := by decide +kernel
theorem dX11_draws_99 : decode cX11_draws 99 = .ok (.aload_n 0, 1) := by decide +kernel
theorem dX11_draws_100 : decode cX11_draws 100 = .ok (.getfield 97, 3) := by decide +kernel
theorem dX11_draws_103 : decode cX11_draws 103 = .ok (.iload 7, 2) := by decide +kernel
theorem dX11_draws_105 : decode cX11_draws 105 = .ok (.iconst 1, 1) := by decide +kernel
theorem dX11_draws_106 : decode cX11_draws 106 = .ok (.iadd, 1) := by decide +kernel
theorem dX11_draws_107 : decode cX11_draws 107 = .ok (.iaload, 1) := by decide +kernel
theorem dX11_draws_108 : decode cX11_draws 108 = .ok (.iastore, 1) := by decide +kernel
theorem dX11_draws_109 : decode cX11_draws 109 = .ok (.iinc 7 1, 3) := by decide +kernel
theorem dX11_draws_112 : decode cX11_draws 112 = .ok (.goto (-26), 3) := by decide +kernel
theorem dX11_draws_115 : decode cX11_draws 115 = .ok (.iinc 5 1, 3) := by decide +kernel
theorem dX11_draws_118 : decode cX11_draws 118 = .ok (.goto (-77), 3) := by decide +kernel
theorem dX11_draws_121 : decode cX11_draws 121 = .ok (.return_, 1) := by decide +kernel
theorem dX11_turns_0 : decode cX11_turns 0 = .ok (.aload_n 0, 1) := by decide +kernel
theorem dX11_turns_1 : decode cX11_turns 1 = .ok (.iload_n 1, 1) := by decide +kernel
theorem dX11_turns_2 : decode cX11_turns 2 = .ok (.putfield 217, 3) := by decide +kernel
theorem dX11_turns_5 : decode cX11_turns 5 = .ok (.aload_n 0, 1) := by decide +kernel
theorem dX11_turns_6 : decode cX11_turns 6 = .ok (.getfield 55, 3) := by decide +kernel
theorem dX11_turns_9 : decode cX11_turns 9 = .ok (.iconst 2, 1) := by decide +kernel
theorem dX11_turns_10 : decode cX11_turns 10 = .ok (.iaload, 1) := by decide +kernel
theorem dX11_turns_11 : decode cX11_turns 11 = .ok (.iload_n 1, 1) := by decide +kernel
theorem dX11_turns_12 : decode cX11_turns 12 = .ok (.if_icmp .ge 12, 3) := by decide +kernel
theorem dX11_turns_15 : decode cX11_turns 15 = .ok (.aload_n 0, 1) := by decide +kernel
theorem dX11_turns_16 : decode cX11_turns 16 = .ok (.getfield 55, 3) := by decide +kernel
theorem dX11_turns_19 : decode cX11_turns 19 = .ok (.iconst 2, 1) := by decide +kernel
theorem dX11_turns_20 : decode cX11_turns 20 = .ok (.iaload, 1) := by decide +kernel
theorem dX11_turns_21 : decode cX11_turns 21 = .ok (.goto 4, 3) := by decide +kernel
theorem dX11_turns_24 : decode cX11_turns 24 = .ok (.iload_n 1, 1) := by decide +kernel
theorem dX11_turns_25 : decode cX11_turns 25 = .ok (.istore_n 2, 1) := by decide +kernel
theorem dX11_turns_26 : decode cX11_turns 26 = .ok (.iconst 0, 1) := by decide +kernel
theorem dX11_turns_27 : decode cX11_turns 27 = .ok (.istore_n 3, 1) := by decide +kernel
theorem dX11_turns_28 : decode cX11_turns 28 = .ok (.iload_n 3, 1) := by decide +kernel
theorem dX11_turns_29 : decode cX11_turns 29 = .ok (.iload_n 1, 1) := by decide +kernel
theorem dX11_turns_30 : decode cX11_turns 30 = .ok (.if_icmp .ge 39, 3) := by decide +kernel
theorem dX11_turns_33 : decode cX11_turns 33 = .ok (.aload_n 0, 1) := by decide +kernel
theorem dX11_turns_34 : decode cX11_turns 34 = .ok (.getfield 72, 3) := by decide +kernel
theorem dX11_turns_37 : decode cX11_turns 37 = .ok (.iload_n 3, 1) := by decide +kernel
theorem dX11_turns_38 : decode cX11_turns 38 = .ok (.iload_n 3, 1) := by decide +kernel
theorem dX11_turns_39 : decode cX11_turns 39 = .ok (.iload_n 2, 1) := by decide +kernel
theorem dX11_turns_40 : decode cX11_turns 40 = .ok (.if_icmp .ge 16, 3) := by decide +kernel
theorem dX11_turns_43 : decode cX11_turns 43 = .ok (.aload_n 0, 1) := by decide +kernel
theorem dX11_turns_44 : decode cX11_turns 44 = .ok (.getfield 97, 3) := by decide +kernel
theorem dX11_turns_47 : decode cX11_turns 47 = .ok (.iload_n 2, 1) := by decide +kernel
theorem dX11_turns_48 : decode cX11_turns 48 = .ok (.iconst 1, 1) := by decide +kernel
theorem dX11_turns_49 : decode cX11_turns 49 = .ok (.isub, 1) := by decide +kernel
theorem dX11_turns_50 : decode cX11_turns 50 = .ok (.iload_n 3, 1) := by decide +kernel
theorem dX11_turns_51 : decode cX11_turns 51 = .ok (.isub, 1) := by decide +kernel
theorem dX11_turns_52 : decode cX11_turns 52 = .ok (.iaload, 1) := by decide +kernel
theorem dX11_turns_53 : decode cX11_turns 53 = .ok (.goto 9, 3) := by decide +kernel
theorem dX11_turns_56 : decode cX11_turns 56 = .ok (.aload_n 0, 1) := by decide +kernel
theorem dX11_turns_57 : decode cX11_turns 57 = .ok (.getfield 97, 3) := by decide +kernel
theorem dX11_turns_60 : decode cX11_turns 60 = .ok (.iload_n 3, 1) := by decide +kernel
theorem dX11_turns_61 : decode cX11_turns 61 = .ok (.iaload, 1) := by decide +kernel
theorem dX11_turns_62 : decode cX11_turns 62 = .ok (.iastore, 1) := by decide +kernel
theorem dX11_turns_63 : decode cX11_turns 63 = .ok (.iinc 3 1, 3) := by decide +kernel
theorem dX11_turns_66 : decode cX11_turns 66 = .ok (.goto (-38), 3) := by decide +kernel
theorem dX11_turns_69 : decode cX11_turns 69 = .ok (.return_, 1) := by decide +kernel
theorem dX11_order_0 : decode cX11_order 0 = .ok (.aload_n 0, 1) := by decide +kernel
theorem dX11_order_1 : decode cX11_order 1 = .ok (.iconst 0, 1) := by decide +kernel
theorem dX11_order_2 : decode cX11_order 2 = .ok (.putfield 106, 3) := by decide +kernel
theorem dX11_order_5 : decode cX11_order 5 = .ok (.aload_n 0, 1) := by decide +kernel
theorem dX11_order_6 : decode cX11_order 6 = .ok (.getfield 113, 3) := by decide +kernel
theorem dX11_order_9 : decode cX11_order 9 = .ok (.ifCond .eq 26, 3) := by decide +kernel
theorem dX11_order_12 : decode cX11_order 12 = .ok (.iload_n 1, 1) := by decide +kernel
theorem dX11_order_13 : decode cX11_order 13 = .ok (.iconst 0, 1) := by decide +kernel
theorem dX11_order_14 : decode cX11_order 14 = .ok (.aload_n 0, 1) := by decide +kernel
theorem dX11_order_15 : decode cX11_order 15 = .ok (.getfield 217, 3) := by decide +kernel
theorem dX11_order_18 : decode cX11_order 18 = .ok (.iconst 1, 1) := by decide +kernel
theorem dX11_order_19 : decode cX11_order 19 = .ok (.isub, 1) := by decide +kernel
theorem dX11_order_20 : decode cX11_order 20 = .ok (.invokestatic 109, 3) := by decide +kernel
theorem dX11_order_23 : decode cX11_order 23 = .ok (.ifCond .eq 12, 3) := by decide +kernel
theorem dX11_order_26 : decode cX11_order 26 = .ok (.aload_n 0, 1) := by decide +kernel
theorem dX11_order_27 : decode cX11_order 27 = .ok (.getfield 72, 3) := by decide +kernel
theorem dX11_order_30 : decode cX11_order 30 = .ok (.iload_n 1, 1) := by decide +kernel
theorem dX11_order_31 : decode cX11_order 31 = .ok (.iaload, 1) := by decide +kernel
theorem dX11_order_32 : decode cX11_order 32 = .ok (.goto 4, 3) := by decide +kernel
theorem dX11_order_35 : decode cX11_order 35 = .ok (.iconst (-1), 1) := by decide +kernel
theorem dX11_order_36 : decode cX11_order 36 = .ok (.ireturn, 1) := by decide +kernel
theorem dX11_start_0 : decode cX11_start 0 = .ok (.aload_n 0, 1) := by decide +kernel
theorem dX11_start_1 : decode cX11_start 1 = .ok (.iconst 0, 1) := by decide +kernel
theorem dX11_start_2 : decode cX11_start 2 = .ok (.putfield 106, 3) := by decide +kernel
theorem dX11_start_5 : decode cX11_start 5 = .ok (.aload_n 0, 1) := by decide +kernel
theorem dX11_start_6 : decode cX11_start 6 = .ok (.invokevirtual 127, 3) := by decide +kernel
theorem dX11_start_9 : decode cX11_start 9 = .ok (.ifCond .ne 5, 3) := by decide +kernel
theorem dX11_start_12 : decode cX11_start 12 = .ok (.iconst (-1), 1) := by decide +kernel
theorem dX11_start_13 : decode cX11_start 13 = .ok (.ireturn, 1) := by decide +kernel
theorem dX11_start_14 : decode cX11_start 14 = .ok (.aload_n 0, 1) := by decide +kernel
theorem dX11_start_15 : decode cX11_start 15 = .ok (.getfield 212, 3) := by decide +kernel
theorem dX11_start_18 : decode cX11_start 18 = .ok (.iconst 1, 1) := by decide +kernel
theorem dX11_start_19 : decode cX11_start 19 = .ok (.isub, 1) := by decide +kernel
theorem dX11_start_20 : decode cX11_start 20 = .ok (.istore_n 1, 1) := by decide +kernel
theorem dX11_start_21 : decode cX11_start 21 = .ok (.aload_n 0, 1) := by decide +kernel
theorem dX11_start_22 : decode cX11_start 22 = .ok (.getfield 72, 3) := by decide +kernel
theorem dX11_start_25 : decode cX11_start 25 = .ok (.aload_n 0, 1) := by decide +kernel
theorem dX11_start_26 : decode cX11_start 26 = .ok (.getfield 220, 3) := by decide +kernel
theorem dX11_start_29 : decode cX11_start 29 = .ok (.iaload, 1) := by decide +kernel
theorem dX11_start_30 : decode cX11_start 30 = .ok (.istore_n 2, 1) := by decide +kernel
theorem dX11_start_31 : decode cX11_start 31 = .ok (.bipush 16, 2) := by decide +kernel
theorem dX11_start_33 : decode cX11_start 33 = .ok (.iload_n 1, 1) := by decide +kernel
theorem dX11_start_34 : decode cX11_start 34 = .ok (.imul, 1) := by decide +kernel
theorem dX11_start_35 : decode cX11_start 35 = .ok (.iload_n 2, 1) := by decide +kernel
theorem dX11_start_36 : decode cX11_start 36 = .ok (.iadd, 1) := by decide +kernel
theorem dX11_start_37 : decode cX11_start 37 = .ok (.istore_n 3, 1) := by decide +kernel
theorem dX11_start_38 : decode cX11_start 38 = .ok (.aload_n 0, 1) := by decide +kernel
theorem dX11_start_39 : decode cX11_start 39 = .ok (.getfield 91, 3) := by decide +kernel
theorem dX11_start_42 : decode cX11_start 42 = .ok (.iload_n 3, 1) := by decide +kernel
theorem dX11_start_43 : decode cX11_start 43 = .ok (.aload_n 0, 1) := by decide +kernel
theorem dX11_start_44 : decode cX11_start 44 = .ok (.invokevirtual 238, 3) := by decide +kernel
theorem dX11_start_47 : decode cX11_start 47 = .ok (.iastore, 1) := by decide +kernel
theorem dX11_start_48 : decode cX11_start 48 = .ok (.iconst 0, 1) := by decide +kernel
theorem dX11_start_49 : decode cX11_start 49 = .ok (.istore 4, 2) := by decide +kernel
theorem dX11_start_51 : decode cX11_start 51 = .ok (.iconst 0, 1) := by decide +kernel
theorem dX11_start_52 : decode cX11_start 52 = .ok (.istore 5, 2) := by decide +kernel
theorem dX11_start_54 : decode cX11_start 54 = .ok (.iconst 0, 1) := by decide +kernel
theorem dX11_start_55 : decode cX11_start 55 = .ok (.istore 6, 2) := by decide +kernel
theorem dX11_start_57 : decode cX11_start 57 = .ok (.iload 6, 2) := by decide +kernel
theorem dX11_start_59 : decode cX11_start 59 = .ok (.aload_n 0, 1) := by decide +kernel
theorem dX11_start_60 : decode cX11_start 60 = .ok (.getfield 117, 3) := by decide +kernel
theorem dX11_start_63 : decode cX11_start 63 = .ok (.if_icmp .gt 135, 3) := by decide +kernel
theorem dX11_start_66 : decode cX11_start 66 = .ok (.iload 5, 2) := by decide +kernel
theorem dX11_start_68 : decode cX11_start 68 = .ok (.aload_n 0, 1) := by decide +kernel
theorem dX11_start_69 : decode cX11_start 69 = .ok (.getfield 120, 3) := by decide +kernel
theorem dX11_start_72 : decode cX11_start 72 = .ok (.if_icmp .ge 27, 3) := by decide +kernel
theorem dX11_start_75 : decode cX11_start 75 = .ok (.aload_n 0, 1) := by decide +kernel
theorem dX11_start_76 : decode cX11_start 76 = .ok (.getfield 25, 3) := by decide +kernel
theorem dX11_start_79 : decode cX11_start 79 = .ok (.iload 5, 2) := by decide +kernel
theorem dX11_start_81 : decode cX11_start 81 = .ok (.iaload, 1) := by decide +kernel
theorem dX11_start_82 : decode cX11_start 82 = .ok (.iload 6, 2) := by decide +kernel
theorem dX11_start_84 : decode cX11_start 84 = .ok (.if_icmp .ne 15, 3) := by decide +kernel
theorem dX11_start_87 : decode cX11_start 87 = .ok (.aload_n 0, 1) := by decide +kernel
theorem dX11_start_88 : decode cX11_start 88 = .ok (.iload_n 3, 1) := by decide +kernel
theorem dX11_start_89 : decode cX11_start 89 = .ok (.iload 5, 2) := by decide +kernel
theorem dX11_start_91 : decode cX11_start 91 = .ok (.iload 4, 2) := by decide +kernel
theorem dX11_start_93 : decode cX11_start 93 = .ok (.invokevirtual 241, 3) := by decide +kernel
theorem dX11_start_96 : decode cX11_start 96 = .ok (.iinc 5 1, 3) := by decide +kernel
theorem dX11_start_99 : decode cX11_start 99 = .ok (.iload 6, 2) := by decide +kernel
theorem dX11_start_101 : decode cX11_start 101 = .ok (.aload_n 0, 1) := by decide +kernel
theorem dX11_start_102 : decode cX11_start 102 = .ok (.getfield 117, 3) := by decide +kernel
theorem dX11_start_105 : decode cX11_start 105 = .ok (.if_icmp .ge 87, 3) := by decide +kernel
theorem dX11_start_108 : decode cX11_start 108 = .ok (.iload 4, 2) := by decide +kernel
theorem dX11_start_110 : decode cX11_start 110 = .ok (.aload_n 0, 1) := by decide +kernel
theorem dX11_start_111 : decode cX11_start 111 = .ok (.iload 6, 2) := by decide +kernel
theorem dX11_start_113 : decode cX11_start 113 = .ok (.aload_n 0, 1) := by decide +kernel
theorem dX11_start_114 : decode cX11_start 114 = .ok (.getfield 43, 3) := by decide +kernel
theorem dX11_start_117 : decode cX11_start 117 = .ok (.iload_n 2, 1) := by decide +kernel
theorem dX11_start_118 : decode cX11_start 118 = .ok (.iaload, 1) := by decide +kernel
theorem dX11_start_119 : decode cX11_start 119 = .ok (.aload_n 0, 1) := by decide +kernel
theorem dX11_start_120 : decode cX11_start 120 = .ok (.getfield 46, 3) := by decide +kernel
theorem dX11_start_123 : decode cX11_start 123 = .ok (.iload_n 2, 1) := by decide +kernel
theorem dX11_start_124 : decode cX11_start 124 = .ok (.iaload, 1) := by decide +kernel
theorem dX11_start_125 : decode cX11_start 125 = .ok (.aload_n 0, 1) := by decide +kernel
theorem dX11_start_126 : decode cX11_start 126 = .ok (.getfield 49, 3) := by decide +kernel
theorem dX11_start_129 : decode cX11_start 129 = .ok (.iload_n 2, 1) := by decide +kernel
theorem dX11_start_130 : decode cX11_start 130 = .ok (.iaload, 1) := by decide +kernel
theorem dX11_start_131 : decode cX11_start 131 = .ok (.invokevirtual 142, 3) := by decide +kernel
theorem dX11_start_134 : decode cX11_start 134 = .ok (.iadd, 1) := by decide +kernel
theorem dX11_start_135 : decode cX11_start 135 = .ok (.istore 4, 2) := by decide +kernel
theorem dX11_start_137 : decode cX11_start 137 = .ok (.aload_n 0, 1) := by decide +kernel
theorem dX11_start_138 : decode cX11_start 138 = .ok (.getfield 22, 3) := by decide +kernel
theorem dX11_start_141 : decode cX11_start 141 = .ok (.iload 6, 2) := by decide +kernel
theorem dX11_start_143 : decode cX11_start 143 = .ok (.aload_n 0, 1) := by decide +kernel
theorem dX11_start_144 : decode cX11_start 144 = .ok (.getfield 22, 3) := by decide +kernel
theorem dX11_start_147 : decode cX11_start 147 = .ok (.iload 6, 2) := by decide +kernel
theorem dX11_start_149 : decode cX11_start 149 = .ok (.iaload, 1) := by decide +kernel
theorem dX11_start_150 : decode cX11_start 150 = .ok (.iconst 1, 1) := by decide +kernel
theorem dX11_start_151 : decode cX11_start 151 = .ok (.iadd, 1) := by decide +kernel
theorem dX11_start_152 : decode cX11_start 152 = .ok (.aload_n 0, 1) := by decide +kernel
theorem dX11_start_153 : decode cX11_start 153 = .ok (.getfield 43, 3) := by decide +kernel
theorem dX11_start_156 : decode cX11_start 156 = .ok (.iload_n 2, 1) := by decide +kernel
theorem dX11_start_157 : decode cX11_start 157 = .ok (.iaload, 1) := by decide +kernel
theorem dX11_start_158 : decode cX11_start 158 = .ok (.bipush 64, 2) := by decide +kernel
theorem dX11_start_160 : decode cX11_start 160 = .ok (.idiv, 1) := by decide +kernel
theorem dX11_start_161 : decode cX11_start 161 = .ok (.iadd, 1) := by decide +kernel
theorem dX11_start_162 : decode cX11_start 162 = .ok (.iconst 0, 1) := by decide +kernel
theorem dX11_start_163 : decode cX11_start 163 = .ok (.bipush 100, 2) := by decide +kernel
theorem dX11_start_165 : decode cX11_start 165 = .ok (.invokestatic 131, 3) := by decide +kernel
theorem dX11_start_168 : decode cX11_start 168 = .ok (.iastore, 1) := by decide +kernel
theorem dX11_start_169 : decode cX11_start 169 = .ok (.aload_n 0, 1) := by decide +kernel
theorem dX11_start_170 : decode cX11_start 170 = .ok (.getfield 19, 3) := by decide +kernel
theorem dX11_start_173 : decode cX11_start 173 = .ok (.iload 6, 2) := by decide +kernel
theorem dX11_start_175 : decode cX11_start 175 = .ok (.aload_n 0, 1) := by decide +kernel
theorem dX11_start_176 : decode cX11_start 176 = .ok (.getfield 19, 3) := by decide +kernel
theorem dX11_start_179 : decode cX11_start 179 = .ok (.iload 6, 2) := by decide +kernel
theorem dX11_start_181 : decode cX11_start 181 = .ok (.iaload, 1) := by decide +kernel
theorem dX11_start_182 : decode cX11_start 182 = .ok (.iconst 2, 1) := by decide +kernel
theorem dX11_start_183 : decode cX11_start 183 = .ok (.isub, 1) := by decide +kernel
theorem dX11_start_184 : decode cX11_start 184 = .ok (.iconst 0, 1) := by decide +kernel
theorem dX11_start_185 : decode cX11_start 185 = .ok (.sipush 1000, 3) := by decide +kernel
theorem dX11_start_188 : decode cX11_start 188 = .ok (.invokestatic 131, 3) := by decide +kernel
theorem dX11_start_191 : decode cX11_start 191 = .ok (.iastore, 1) := by decide +kernel
theorem dX11_start_192 : decode cX11_start 192 = .ok (.iinc 6 1, 3) := by decide +kernel
theorem dX11_start_195 : decode cX11_start 195 = .ok (.goto (-138), 3) := by decide +kernel
theorem dX11_start_198 : decode cX11_start 198 = .ok (.aload_n 0, 1) := by decide +kernel
theorem dX11_start_199 : decode cX11_start 199 = .ok (.getfield 120, 3) := by decide +kernel
theorem dX11_start_202 : decode cX11_start 202 = .ok (.iconst 1, 1) := by decide +kernel
theorem dX11_start_203 : decode cX11_start 203 = .ok (.isub, 1) := by decide +kernel
theorem dX11_start_204 : decode cX11_start 204 = .ok (.istore 6, 2) := by decide +kernel
theorem dX11_start_206 : decode cX11_start 206 = .ok (.aload_n 0, 1) := by decide +kernel
theorem dX11_start_207 : decode cX11_start 207 = .ok (.getfield 82, 3) := by decide +kernel
theorem dX11_start_210 : decode cX11_start 210 = .ok (.bipush 6, 2) := by decide +kernel
theorem dX11_start_212 : decode cX11_start 212 = .ok (.iload_n 3, 1) := by decide +kernel
theorem dX11_start_213 : decode cX11_start 213 = .ok (.imul, 1) := by decide +kernel
theorem dX11_start_214 : decode cX11_start 214 = .ok (.iload 6, 2) := by decide +kernel
theorem dX11_start_216 : decode cX11_start 216 = .ok (.iadd, 1) := by decide +kernel
theorem dX11_start_217 : decode cX11_start 217 = .ok (.iaload, 1) := by decide +kernel
theorem dX11_start_218 : decode cX11_start 218 = .ok (.ldc 245, 2) := by decide +kernel
theorem dX11_start_220 : decode cX11_start 220 = .ok (.if_icmp .ne 9, 3) := by decide +kernel
theorem dX11_start_223 : decode cX11_start 223 = .ok (.iinc 6 (-1), 3) := by decide +kernel
theorem dX11_start_226 : decode cX11_start 226 = .ok (.goto (-20), 3) := by decide +kernel
theorem dX11_start_229 : decode cX11_start 229 = .ok (.aload_n 0, 1) := by decide +kernel
theorem dX11_start_230 : decode cX11_start 230 = .ok (.getfield 88, 3) := by decide +kernel
theorem dX11_start_233 : decode cX11_start 233 = .ok (.iload_n 3, 1) := by decide +kernel
theorem dX11_start_234 : decode cX11_start 234 = .ok (.aload_n 0, 1) := by decide +kernel
theorem dX11_start_235 : decode cX11_start 235 = .ok (.getfield 82, 3) := by decide +kernel
theorem dX11_start_238 : decode cX11_start 238 = .ok (.bipush 6, 2) := by decide +kernel
theorem dX11_start_240 : decode cX11_start 240 = .ok (.iload_n 3, 1) := by decide +kernel
theorem dX11_start_241 : decode cX11_start 241 = .ok (.imul, 1) := by decide +kernel
theorem dX11_start_242 : decode cX11_start 242 = .ok (.iload 6, 2) := by decide +kernel
theorem dX11_start_244 : decode cX11_start 244 = .ok (.iadd, 1) := by decide +kernel
theorem dX11_start_245 : decode cX11_start 245 = .ok (.iaload, 1) := by decide +kernel
theorem dX11_start_246 : decode cX11_start 246 = .ok (.iload 6, 2) := by decide +kernel
theorem dX11_start_248 : decode cX11_start 248 = .ok (.aload_n 0, 1) := by decide +kernel
theorem dX11_start_249 : decode cX11_start 249 = .ok (.getfield 120, 3) := by decide +kernel
theorem dX11_start_252 : decode cX11_start 252 = .ok (.iconst 1, 1) := by decide +kernel
theorem dX11_start_253 : decode cX11_start 253 = .ok (.isub, 1) := by decide +kernel
theorem dX11_start_254 : decode cX11_start 254 = .ok (.if_icmp .ge 9, 3) := by decide +kernel
theorem dX11_start_257 : decode cX11_start 257 = .ok (.sipush 10000, 3) := by decide +kernel
theorem dX11_start_260 : decode cX11_start 260 = .ok (.goto 4, 3) := by decide +kernel
theorem dX11_start_263 : decode cX11_start 263 = .ok (.iconst 0, 1) := by decide +kernel
theorem dX11_start_264 : decode cX11_start 264 = .ok (.iadd, 1) := by decide +kernel
theorem dX11_start_265 : decode cX11_start 265 = .ok (.iastore, 1) := by decide +kernel
theorem dX11_start_266 : decode cX11_start 266 = .ok (.aload_n 0, 1) := by decide +kernel
theorem dX11_start_267 : decode cX11_start 267 = .ok (.getfield 79, 3) := by decide +kernel
theorem dX11_start_270 : decode cX11_start 270 = .ok (.iload_n 3, 1) := by decide +kernel
theorem dX11_start_271 : decode cX11_start 271 = .ok (.iconst 1, 1) := by decide +kernel
theorem dX11_start_272 : decode cX11_start 272 = .ok (.bastore, 1) := by decide +kernel
theorem dX11_start_273 : decode cX11_start 273 = .ok (.aload_n 0, 1) := by decide +kernel
theorem dX11_start_274 : decode cX11_start 274 = .ok (.dup, 1) := by decide +kernel
theorem dX11_start_275 : decode cX11_start 275 = .ok (.getfield 220, 3) := by decide +kernel
theorem dX11_start_278 : decode cX11_start 278 = .ok (.iconst 1, 1) := by decide +kernel
theorem dX11_start_279 : decode cX11_start 279 = .ok (.iadd, 1) := by decide +kernel
theorem dX11_start_280 : decode cX11_start 280 = .ok (.putfield 220, 3) := by decide +kernel
theorem dX11_start_283 : decode cX11_start 283 = .ok (.aload_n 0, 1) := by decide +kernel
theorem dX11_start_284 : decode cX11_start 284 = .ok (.getfield 220, 3) := by decide +kernel
theorem dX11_start_287 : decode cX11_start 287 = .ok (.aload_n 0, 1) := by decide +kernel
theorem dX11_start_288 : decode cX11_start 288 = .ok (.getfield 217, 3) := by decide +kernel
theorem dX11_start_291 : decode cX11_start 291 = .ok (.if_icmp .ne 30, 3) := by decide +kernel
theorem dX11_start_294 : decode cX11_start 294 = .ok (.aload_n 0, 1) := by decide +kernel
theorem dX11_start_295 : decode cX11_start 295 = .ok (.getfield 69, 3) := by decide +kernel
theorem dX11_start_298 : decode cX11_start 298 = .ok (.iload_n 1, 1) := by decide +kernel
theorem dX11_start_299 : decode cX11_start 299 = .ok (.iconst 2, 1) := by decide +kernel
theorem dX11_start_300 : decode cX11_start 300 = .ok (.iastore, 1) := by decide +kernel
theorem dX11_start_301 : decode cX11_start 301 = .ok (.aload_n 0, 1) := by decide +kernel
theorem dX11_start_302 : decode cX11_start 302 = .ok (.getfield 94, 3) := by decide +kernel
theorem dX11_start_305 : decode cX11_start 305 = .ok (.aload_n 0, 1) := by decide +kernel
theorem dX11_start_306 : decode cX11_start 306 = .ok (.getfield 223, 3) := by decide +kernel
theorem dX11_start_309 : decode cX11_start 309 = .ok (.iload_n 1, 1) := by decide +kernel
theorem dX11_start_310 : decode cX11_start 310 = .ok (.iastore, 1) := by decide +kernel
theorem dX11_start_311 : decode cX11_start 311 = .ok (.aload_n 0, 1) := by decide +kernel
theorem dX11_start_312 : decode cX11_start 312 = .ok (.dup, 1) := by decide +kernel
theorem dX11_start_313 : decode cX11_start 313 = .ok (.getfield 223, 3) := by decide +kernel
theorem dX11_start_316 : decode cX11_start 316 = .ok (.iconst 1, 1) := by decide +kernel
theorem dX11_start_317 : decode cX11_start 317 = .ok (.iadd, 1) := by decide +kernel
theorem dX11_start_318 : decode cX11_start 318 = .ok (.putfield 223, 3) := by decide +kernel
theorem dX11_start_321 : decode cX11_start 321 = .ok (.aload_n 0, 1) := by decide +kernel
theorem dX11_start_322 : decode cX11_start 322 = .ok (.getfield 88, 3) := by decide +kernel
theorem dX11_start_325 : decode cX11_start 325 = .ok (.iload_n 3, 1) := by decide +kernel
theorem dX11_start_326 : decode cX11_start 326 = .ok (.iaload, 1) := by decide +kernel
theorem dX11_start_327 : decode cX11_start 327 = .ok (.ireturn, 1) := by decide +kernel
theorem dX11_passes_0 : decode cX11_passes 0 = .ok (.aload_n 0, 1) := by decide +kernel
theorem dX11_passes_1 : decode cX11_passes 1 = .ok (.getfield 28, 3) := by decide +kernel
theorem dX11_passes_4 : decode cX11_passes 4 = .ok (.iconst 2, 1) := by decide +kernel
theorem dX11_passes_5 : decode cX11_passes 5 = .ok (.iload_n 2, 1) := by decide +kernel
theorem dX11_passes_6 : decode cX11_passes 6 = .ok (.imul, 1) := by decide +kernel
theorem dX11_passes_7 : decode cX11_passes 7 = .ok (.iaload, 1) := by decide +kernel
theorem dX11_passes_8 : decode cX11_passes 8 = .ok (.istore 4, 2) := by decide +kernel
theorem dX11_passes_10 : decode cX11_passes 10 = .ok (.aload_n 0, 1) := by decide +kernel
theorem dX11_passes_11 : decode cX11_passes 11 = .ok (.getfield 28, 3) := by decide +kernel
theorem dX11_passes_14 : decode cX11_passes 14 = .ok (.iconst 2, 1) := by decide +kernel
theorem dX11_passes_15 : decode cX11_passes 15 = .ok (.iload_n 2, 1) := by decide +kernel
theorem dX11_passes_16 : decode cX11_passes 16 = .ok (.imul, 1) := by decide +kernel
theorem dX11_passes_17 : decode cX11_passes 17 = .ok (.iconst 1, 1) := by decide +kernel
theorem dX11_passes_18 : decode cX11_passes 18 = .ok (.iadd, 1) := by decide +kernel
theorem dX11_passes_19 : decode cX11_passes 19 = .ok (.iaload, 1) := by decide +kernel
theorem dX11_passes_20 : decode cX11_passes 20 = .ok (.istore 5, 2) := by decide +kernel
theorem dX11_passes_22 : decode cX11_passes 22 = .ok (.iload_n 2, 1) := by decide +kernel
theorem dX11_passes_23 : decode cX11_passes 23 = .ok (.ifCond .ne 7, 3) := by decide +kernel
theorem dX11_passes_26 : decode cX11_passes 26 = .ok (.iconst 1, 1) := by decide +kernel
theorem dX11_passes_27 : decode cX11_passes 27 = .ok (.goto 4, 3) := by decide +kernel
theorem dX11_passes_30 : decode cX11_passes 30 = .ok (.iconst 0, 1) := by decide +kernel
theorem dX11_passes_31 : decode cX11_passes 31 = .ok (.istore 6, 2) := by decide +kernel
theorem dX11_passes_33 : decode cX11_passes 33 = .ok (.aload_n 0, 1) := by decide +kernel
theorem dX11_passes_34 : decode cX11_passes 34 = .ok (.getfield 82, 3) := by decide +kernel
theorem dX11_passes_37 : decode cX11_passes 37 = .ok (.bipush 6, 2) := by decide +kernel
theorem dX11_passes_39 : decode cX11_passes 39 = .ok (.iload_n 1, 1) := by decide +kernel
theorem dX11_passes_40 : decode cX11_passes 40 = .ok (.imul, 1) := by decide +kernel
theorem dX11_passes_41 : decode cX11_passes 41 = .ok (.iload_n 2, 1) := by decide +kernel
theorem dX11_passes_42 : decode cX11_passes 42 = .ok (.iadd, 1) := by decide +kernel
theorem dX11_passes_43 : decode cX11_passes 43 = .ok (.iload 6, 2) := by decide +kernel
theorem dX11_passes_45 : decode cX11_passes 45 = .ok (.ifCond .eq 7, 3) := by decide +kernel
theorem dX11_passes_48 : decode cX11_passes 48 = .ok (.iconst 0, 1) := by decide +kernel
theorem dX11_passes_49 : decode cX11_passes 49 = .ok (.goto 33, 3) := by decide +kernel
theorem dX11_passes_52 : decode cX11_passes 52 = .ok (.iload 4, 2) := by decide +kernel
theorem dX11_passes_54 : decode cX11_passes 54 = .ok (.bipush 100, 2) := by decide +kernel
theorem dX11_passes_56 : decode cX11_passes 56 = .ok (.if_icmp .eq 10, 3) := by decide +kernel
theorem dX11_passes_59 : decode cX11_passes 59 = .ok (.iload_n 3, 1) := by decide +kernel
theorem dX11_passes_60 : decode cX11_passes 60 = .ok (.iload 4, 2) := by decide +kernel
theorem dX11_passes_62 : decode cX11_passes 62 = .ok (.iadd, 1) := by decide +kernel
theorem dX11_passes_63 : decode cX11_passes 63 = .ok (.goto 19, 3) := by decide +kernel
theorem dX11_passes_66 : decode cX11_passes 66 = .ok (.iload 5, 2) := by decide +kernel
theorem dX11_passes_68 : decode cX11_passes 68 = .ok (.bipush 100, 2) := by decide +kernel
theorem dX11_passes_70 : decode cX11_passes 70 = .ok (.if_icmp .eq 10, 3) := by decide +kernel
theorem dX11_passes_73 : decode cX11_passes 73 = .ok (.iload_n 3, 1) := by decide +kernel
theorem dX11_passes_74 : decode cX11_passes 74 = .ok (.iload 5, 2) := by decide +kernel
theorem dX11_passes_76 : decode cX11_passes 76 = .ok (.iadd, 1) := by decide +kernel
theorem dX11_passes_77 : decode cX11_passes 77 = .ok (.goto 5, 3) := by decide +kernel
theorem dX11_passes_80 : decode cX11_passes 80 = .ok (.ldc 245, 2) := by decide +kernel
theorem dX11_passes_82 : decode cX11_passes 82 = .ok (.iastore, 1) := by decide +kernel
theorem dX11_passes_83 : decode cX11_passes 83 = .ok (.aload_n 0, 1) := by decide +kernel
theorem dX11_passes_84 : decode cX11_passes 84 = .ok (.getfield 85, 3) := by decide +kernel
theorem dX11_passes_87 : decode cX11_passes 87 = .ok (.bipush 6, 2) := by decide +kernel
theorem dX11_passes_89 : decode cX11_passes 89 = .ok (.iload_n 1, 1) := by decide +kernel
theorem dX11_passes_90 : decode cX11_passes 90 = .ok (.imul, 1) := by decide +kernel
theorem dX11_passes_91 : decode cX11_passes 91 = .ok (.iload_n 2, 1) := by decide +kernel
theorem dX11_passes_92 : decode cX11_passes 92 = .ok (.iadd, 1) := by decide +kernel
theorem dX11_passes_93 : decode cX11_passes 93 = .ok (.iload 6, 2) := by decide +kernel
theorem dX11_passes_95 : decode cX11_passes 95 = .ok (.ifCond .ne 17, 3) := by decide +kernel
theorem dX11_passes_98 : decode cX11_passes 98 = .ok (.iload 4, 2) := by decide +kernel
theorem dX11_passes_100 : decode cX11_passes 100 = .ok (.bipush 100, 2) := by decide +kernel
theorem dX11_passes_102 : decode cX11_passes 102 = .ok (.if_icmp .eq 10, 3) := by decide +kernel
theorem dX11_passes_105 : decode cX11_passes 105 = .ok (.iload 5, 2) := by decide +kernel
theorem dX11_passes_107 : decode cX11_passes 107 = .ok (.bipush 100, 2) := by decide +kernel
theorem dX11_passes_109 : decode cX11_passes 109 = .ok (.if_icmp .ne 7, 3) := by decide +kernel
theorem dX11_passes_112 : decode cX11_passes 112 = .ok (.iconst 0, 1) := by decide +kernel
theorem dX11_passes_113 : decode cX11_passes 113 = .ok (.goto 23, 3) := by decide +kernel
theorem dX11_passes_116 : decode cX11_passes 116 = .ok (.iload 4, 2) := by decide +kernel
theorem dX11_passes_118 : decode cX11_passes 118 = .ok (.iload 5, 2) := by decide +kernel
theorem dX11_passes_120 : decode cX11_passes 120 = .ok (.if_icmp .le 11, 3) := by decide +kernel
theorem dX11_passes_123 : decode cX11_passes 123 = .ok (.iload 4, 2) := by decide +kernel
theorem dX11_passes_125 : decode cX11_passes 125 = .ok (.iload 5, 2) := by decide +kernel
theorem dX11_passes_127 : decode cX11_passes 127 = .ok (.isub, 1) := by decide +kernel
theorem dX11_passes_128 : decode cX11_passes 128 = .ok (.goto 8, 3) := by decide +kernel
theorem dX11_passes_131 : decode cX11_passes 131 = .ok (.iload 5, 2) := by decide +kernel
theorem dX11_passes_133 : decode cX11_passes 133 = .ok (.iload 4, 2) := by decide +kernel
theorem dX11_passes_135 : decode cX11_passes 135 = .ok (.isub, 1) := by decide +kernel
theorem dX11_passes_136 : decode cX11_passes 136 = .ok (.iastore, 1) := by decide +kernel
theorem dX11_passes_137 : decode cX11_passes 137 = .ok (.return_, 1) := by decide +kernel
theorem dX11_shut_0 : decode cX11_shut 0 = .ok (.aload_n 0, 1) := by decide +kernel
theorem dX11_shut_1 : decode cX11_shut 1 = .ok (.iconst 0, 1) := by decide +kernel
theorem dX11_shut_2 : decode cX11_shut 2 = .ok (.putfield 106, 3) := by decide +kernel
theorem dX11_shut_5 : decode cX11_shut 5 = .ok (.aload_n 0, 1) := by decide +kernel
theorem dX11_shut_6 : decode cX11_shut 6 = .ok (.invokevirtual 127, 3) := by decide +kernel
theorem dX11_shut_9 : decode cX11_shut 9 = .ok (.ifCond .ne 5, 3) := by decide +kernel
theorem dX11_shut_12 : decode cX11_shut 12 = .ok (.iconst (-1), 1) := by decide +kernel
theorem dX11_shut_13 : decode cX11_shut 13 = .ok (.ireturn, 1) := by decide +kernel
theorem dX11_shut_14 : decode cX11_shut 14 = .ok (.aload_n 0, 1) := by decide +kernel
theorem dX11_shut_15 : decode cX11_shut 15 = .ok (.getfield 69, 3) := by decide +kernel
theorem dX11_shut_18 : decode cX11_shut 18 = .ok (.aload_n 0, 1) := by decide +kernel
theorem dX11_shut_19 : decode cX11_shut 19 = .ok (.getfield 212, 3) := by decide +kernel
theorem dX11_shut_22 : decode cX11_shut 22 = .ok (.iconst 1, 1) := by decide +kernel
theorem dX11_shut_23 : decode cX11_shut 23 = .ok (.isub, 1) := by decide +kernel
theorem dX11_shut_24 : decode cX11_shut 24 = .ok (.iconst 3, 1) := by decide +kernel
theorem dX11_shut_25 : decode cX11_shut 25 = .ok (.iastore, 1) := by decide +kernel
theorem dX11_shut_26 : decode cX11_shut 26 = .ok (.aload_n 0, 1) := by decide +kernel
theorem dX11_shut_27 : decode cX11_shut 27 = .ok (.getfield 220, 3) := by decide +kernel
theorem dX11_shut_30 : decode cX11_shut 30 = .ok (.ireturn, 1) := by decide +kernel
theorem dX11_touch_0 : decode cX11_touch 0 = .ok (.aload_n 0, 1) := by decide +kernel
theorem dX11_touch_1 : decode cX11_touch 1 = .ok (.iconst 0, 1) := by decide +kernel
theorem dX11_touch_2 : decode cX11_touch 2 = .ok (.putfield 106, 3) := by decide +kernel
theorem dX11_touch_5 : decode cX11_touch 5 = .ok (.iload_n 2, 1) := by decide +kernel
theorem dX11_touch_6 : decode cX11_touch 6 = .ok (.iconst 0, 1) := by decide +kernel
theorem dX11_touch_7 : decode cX11_touch 7 = .ok (.sipush 200, 3) := by decide +kernel
theorem dX11_touch_10 : decode cX11_touch 10 = .ok (.invokestatic 109, 3) := by decide +kernel
theorem dX11_touch_13 : decode cX11_touch 13 = .ok (.ifCond .eq 33, 3) := by decide +kernel
theorem dX11_touch_16 : decode cX11_touch 16 = .ok (.aload_n 0, 1) := by decide +kernel
theorem dX11_touch_17 : decode cX11_touch 17 = .ok (.iload_n 1, 1) := by decide +kernel
theorem dX11_touch_18 : decode cX11_touch 18 = .ok (.invokevirtual 246, 3) := by decide +kernel
theorem dX11_touch_21 : decode cX11_touch 21 = .ok (.ifCond .eq 25, 3) := by decide +kernel
theorem dX11_touch_24 : decode cX11_touch 24 = .ok (.iload_n 2, 1) := by decide +kernel
theorem dX11_touch_25 : decode cX11_touch 25 = .ok (.aload_n 0, 1) := by decide +kernel
theorem dX11_touch_26 : decode cX11_touch 26 = .ok (.getfield 55, 3) := by decide +kernel
theorem dX11_touch_29 : decode cX11_touch 29 = .ok (.iconst 1, 1) := by decide +kernel
theorem dX11_touch_30 : decode cX11_touch 30 = .ok (.iaload, 1) := by decide +kernel
theorem dX11_touch_31 : decode cX11_touch 31 = .ok (.if_icmp .le 15, 3) := by decide +kernel
theorem dX11_touch_34 : decode cX11_touch 34 = .ok (.aload_n 0, 1) := by decide +kernel
theorem dX11_touch_35 : decode cX11_touch 35 = .ok (.iload_n 1, 1) := by decide +kernel
theorem dX11_touch_36 : decode cX11_touch 36 = .ok (.aload_n 0, 1) := by decide +kernel
theorem dX11_touch_37 : decode cX11_touch 37 = .ok (.getfield 223, 3) := by decide +kernel
theorem dX11_touch_40 : decode cX11_touch 40 = .ok (.invokevirtual 249, 3) := by decide +kernel
theorem dX11_touch_43 : decode cX11_touch 43 = .ok (.ifCond .eq 5, 3) := by decide +kernel
theorem dX11_touch_46 : decode cX11_touch 46 = .ok (.iconst 0, 1) := by decide +kernel
theorem dX11_touch_47 : decode cX11_touch 47 = .ok (.ireturn, 1) := by decide +kernel
theorem dX11_touch_48 : decode cX11_touch 48 = .ok (.aload_n 0, 1) := by decide +kernel
theorem dX11_touch_49 : decode cX11_touch 49 = .ok (.getfield 94, 3) := by decide +kernel
theorem dX11_touch_52 : decode cX11_touch 52 = .ok (.aload_n 0, 1) := by decide +kernel
theorem dX11_touch_53 : decode cX11_touch 53 = .ok (.getfield 223, 3) := by decide +kernel
theorem dX11_touch_56 : decode cX11_touch 56 = .ok (.bipush 10, 2) := by decide +kernel
theorem dX11_touch_58 : decode cX11_touch 58 = .ok (.iload_n 1, 1) := by decide +kernel
theorem dX11_touch_59 : decode cX11_touch 59 = .ok (.iadd, 1) := by decide +kernel
theorem dX11_touch_60 : decode cX11_touch 60 = .ok (.iastore, 1) := by decide +kernel
theorem dX11_touch_61 : decode cX11_touch 61 = .ok (.aload_n 0, 1) := by decide +kernel
theorem dX11_touch_62 : decode cX11_touch 62 = .ok (.dup, 1) := by decide +kernel
theorem dX11_touch_63 : decode cX11_touch 63 = .ok (.getfield 223, 3) := by decide +kernel
theorem dX11_touch_66 : decode cX11_touch 66 = .ok (.iconst 1, 1) := by decide +kernel
theorem dX11_touch_67 : decode cX11_touch 67 = .ok (.iadd, 1) := by decide +kernel
theorem dX11_touch_68 : decode cX11_touch 68 = .ok (.putfield 223, 3) := by decide +kernel
theorem dX11_touch_71 : decode cX11_touch 71 = .ok (.iconst 1, 1) := by decide +kernel
theorem dX11_touch_72 : decode cX11_touch 72 = .ok (.ireturn, 1) := by decide +kernel
theorem dX11_isStruck_0 : decode cX11_isStruck 0 = .ok (.iconst 0, 1) := by decide +kernel
theorem dX11_isStruck_1 : decode cX11_isStruck 1 = .ok (.istore_n 3, 1) := by decide +kernel
theorem dX11_isStruck_2 : decode cX11_isStruck 2 = .ok (.iconst 0, 1) := by decide +kernel
theorem dX11_isStruck_3 : decode cX11_isStruck 3 = .ok (.istore 4, 2) := by decide +kernel
theorem dX11_isStruck_5 : decode cX11_isStruck 5 = .ok (.iload 4, 2) := by decide +kernel
theorem dX11_isStruck_7 : decode cX11_isStruck 7 = .ok (.iload_n 2, 1) := by decide +kernel
theorem dX11_isStruck_8 : decode cX11_isStruck 8 = .ok (.if_icmp .ge 33, 3) := by decide +kernel
theorem dX11_isStruck_11 : decode cX11_isStruck 11 = .ok (.iload_n 3, 1) := by decide +kernel
theorem dX11_isStruck_12 : decode cX11_isStruck 12 = .ok (.ifCond .ne 17, 3) := by decide +kernel
theorem dX11_isStruck_15 : decode cX11_isStruck 15 = .ok (.aload_n 0, 1) := by decide +kernel
theorem dX11_isStruck_16 : decode cX11_isStruck 16 = .ok (.getfield 94, 3) := by decide +kernel
theorem dX11_isStruck_19 : decode cX11_isStruck 19 = .ok (.iload 4, 2) := by decide +kernel
theorem dX11_isStruck_21 : decode cX11_isStruck 21 = .ok (.iaload, 1) := by decide +kernel
theorem dX11_isStruck_22 : decode cX11_isStruck 22 = .ok (.bipush 10, 2) := by decide +kernel
theorem dX11_isStruck_24 : decode cX11_isStruck 24 = .ok (.iload_n 1, 1) := by decide +kernel
theorem dX11_isStruck_25 : decode cX11_isStruck 25 = .ok (.iadd, 1) := by decide +kernel
theorem dX11_isStruck_26 : decode cX11_isStruck 26 = .ok (.if_icmp .ne 7, 3) := by decide +kernel
theorem dX11_isStruck_29 : decode cX11_isStruck 29 = .ok (.iconst 1, 1) := by decide +kernel
theorem dX11_isStruck_30 : decode cX11_isStruck 30 = .ok (.goto 4, 3) := by decide +kernel
theorem dX11_isStruck_33 : decode cX11_isStruck 33 = .ok (.iconst 0, 1) := by decide +kernel
theorem dX11_isStruck_34 : decode cX11_isStruck 34 = .ok (.istore_n 3, 1) := by decide +kernel
theorem dX11_isStruck_35 : decode cX11_isStruck 35 = .ok (.iinc 4 1, 3) := by decide +kernel
theorem dX11_isStruck_38 : decode cX11_isStruck 38 = .ok (.goto (-33), 3) := by decide +kernel
theorem dX11_isStruck_41 : decode cX11_isStruck 41 = .ok (.iload_n 3, 1) := by decide +kernel
theorem dX11_isStruck_42 : decode cX11_isStruck 42 = .ok (.ireturn, 1) := by decide +kernel
theorem dX11_hasCome_0 : decode cX11_hasCome 0 = .ok (.aload_n 0, 1) := by decide +kernel
theorem dX11_hasCome_1 : decode cX11_hasCome 1 = .ok (.getfield 113, 3) := by decide +kernel
theorem dX11_hasCome_4 : decode cX11_hasCome 4 = .ok (.ifCond .eq 69, 3) := by decide +kernel
theorem dX11_hasCome_7 : decode cX11_hasCome 7 = .ok (.iload_n 1, 1) := by decide +kernel
theorem dX11_hasCome_8 : decode cX11_hasCome 8 = .ok (.iconst 0, 1) := by decide +kernel
theorem dX11_hasCome_9 : decode cX11_hasCome 9 = .ok (.aload_n 0, 1) := by decide +kernel
theorem dX11_hasCome_10 : decode cX11_hasCome 10 = .ok (.getfield 212, 3) := by decide +kernel
theorem dX11_hasCome_13 : decode cX11_hasCome 13 = .ok (.iconst 1, 1) := by decide +kernel
theorem dX11_hasCome_14 : decode cX11_hasCome 14 = .ok (.isub, 1) := by decide +kernel
theorem dX11_hasCome_15 : decode cX11_hasCome 15 = .ok (.invokestatic 109, 3) := by decide +kernel
theorem dX11_hasCome_18 : decode cX11_hasCome 18 = .ok (.ifCond .eq 55, 3) := by decide +kernel
theorem dX11_hasCome_21 : decode cX11_hasCome 21 = .ok (.aload_n 0, 1) := by decide +kernel
theorem dX11_hasCome_22 : decode cX11_hasCome 22 = .ok (.getfield 69, 3) := by decide +kernel
theorem dX11_hasCome_25 : decode cX11_hasCome 25 = .ok (.iload_n 1, 1) := by decide +kernel
theorem dX11_hasCome_26 : decode cX11_hasCome 26 = .ok (.iaload, 1) := by decide +kernel
theorem dX11_hasCome_27 : decode cX11_hasCome 27 = .ok (.iconst 1, 1) := by decide +kernel
theorem dX11_hasCome_28 : decode cX11_hasCome 28 = .ok (.if_icmp .eq 13, 3) := by decide +kernel
theorem dX11_hasCome_31 : decode cX11_hasCome 31 = .ok (.aload_n 0, 1) := by decide +kernel
theorem dX11_hasCome_32 : decode cX11_hasCome 32 = .ok (.getfield 69, 3) := by decide +kernel
theorem dX11_hasCome_35 : decode cX11_hasCome 35 = .ok (.iload_n 1, 1) := by decide +kernel
theorem dX11_hasCome_36 : decode cX11_hasCome 36 = .ok (.iaload, 1) := by decide +kernel
theorem dX11_hasCome_37 : decode cX11_hasCome 37 = .ok (.iconst 2, 1) := by decide +kernel
theorem dX11_hasCome_38 : decode cX11_hasCome 38 = .ok (.if_icmp .ne 35, 3) := by decide +kernel
theorem dX11_hasCome_41 : decode cX11_hasCome 41 = .ok (.iload_n 2, 1) := by decide +kernel
theorem dX11_hasCome_42 : decode cX11_hasCome 42 = .ok (.iconst 0, 1) := by decide +kernel
theorem dX11_hasCome_43 : decode cX11_hasCome 43 = .ok (.aload_n 0, 1) := by decide +kernel
theorem dX11_hasCome_44 : decode cX11_hasCome 44 = .ok (.getfield 139, 3) := by decide +kernel
theorem dX11_hasCome_47 : decode cX11_hasCome 47 = .ok (.iconst 1, 1) := by decide +kernel
theorem dX11_hasCome_48 : decode cX11_hasCome 48 = .ok (.isub, 1) := by decide +kernel
theorem dX11_hasCome_49 : decode cX11_hasCome 49 = .ok (.invokestatic 109, 3) := by decide +kernel
theorem dX11_hasCome_52 : decode cX11_hasCome 52 = .ok (.ifCond .eq 21, 3) := by decide +kernel
theorem dX11_hasCome_55 : decode cX11_hasCome 55 = .ok (.aload_n 0, 1) := by decide +kernel
theorem dX11_hasCome_56 : decode cX11_hasCome 56 = .ok (.getfield 79, 3) := by decide +kernel
theorem dX11_hasCome_59 : decode cX11_hasCome 59 = .ok (.bipush 16, 2) := by decide +kernel
theorem dX11_hasCome_61 : decode cX11_hasCome 61 = .ok (.iload_n 1, 1) := by decide +kernel
theorem dX11_hasCome_62 : decode cX11_hasCome 62 = .ok (.imul, 1) := by decide +kernel
theorem dX11_hasCome_63 : decode cX11_hasCome 63 = .ok (.iload_n 2, 1) := by decide +kernel
theorem dX11_hasCome_64 : decode cX11_hasCome 64 = .ok (.iadd, 1) := by decide +kernel
theorem dX11_hasCome_65 : decode cX11_hasCome 65 = .ok (.baload, 1) := by decide +kernel
theorem dX11_hasCome_66 : decode cX11_hasCome 66 = .ok (.ifCond .eq 7, 3) := by decide +kernel
theorem dX11_hasCome_69 : decode cX11_hasCome 69 = .ok (.iconst 1, 1) := by decide +kernel
theorem dX11_hasCome_70 : decode cX11_hasCome 70 = .ok (.goto 4, 3) := by decide +kernel
theorem dX11_hasCome_73 : decode cX11_hasCome 73 = .ok (.iconst 0, 1) := by decide +kernel
theorem dX11_hasCome_74 : decode cX11_hasCome 74 = .ok (.ireturn, 1) := by decide +kernel
theorem dX11_time_0 : decode cX11_time 0 = .ok (.aload_n 0, 1) := by decide +kernel
theorem dX11_time_1 : decode cX11_time 1 = .ok (.iconst 0, 1) := by decide +kernel
theorem dX11_time_2 : decode cX11_time 2 = .ok (.putfield 106, 3) := by decide +kernel
theorem dX11_time_5 : decode cX11_time 5 = .ok (.aload_n 0, 1) := by decide +kernel
theorem dX11_time_6 : decode cX11_time 6 = .ok (.iload_n 1, 1) := by decide +kernel
theorem dX11_time_7 : decode cX11_time 7 = .ok (.iload_n 2, 1) := by decide +kernel
theorem dX11_time_8 : decode cX11_time 8 = .ok (.invokevirtual 253, 3) := by decide +kernel
theorem dX11_time_11 : decode cX11_time 11 = .ok (.ifCond .eq 17, 3) := by decide +kernel
theorem dX11_time_14 : decode cX11_time 14 = .ok (.iload_n 3, 1) := by decide +kernel
theorem dX11_time_15 : decode cX11_time 15 = .ok (.iconst 0, 1) := by decide +kernel
theorem dX11_time_16 : decode cX11_time 16 = .ok (.aload_n 0, 1) := by decide +kernel
theorem dX11_time_17 : decode cX11_time 17 = .ok (.getfield 120, 3) := by decide +kernel
theorem dX11_time_20 : decode cX11_time 20 = .ok (.iconst 1, 1) := by decide +kernel
theorem dX11_time_21 : decode cX11_time 21 = .ok (.isub, 1) := by decide +kernel
theorem dX11_time_22 : decode cX11_time 22 = .ok (.invokestatic 109, 3) := by decide +kernel
theorem dX11_time_25 : decode cX11_time 25 = .ok (.ifCond .ne 5, 3) := by decide +kernel
theorem dX11_time_28 : decode cX11_time 28 = .ok (.iconst (-1), 1) := by decide +kernel
theorem dX11_time_29 : decode cX11_time 29 = .ok (.ireturn, 1) := by decide +kernel
theorem dX11_time_30 : decode cX11_time 30 = .ok (.aload_n 0, 1) := by decide +kernel
theorem dX11_time_31 : decode cX11_time 31 = .ok (.getfield 82, 3) := by decide +kernel
theorem dX11_time_34 : decode cX11_time 34 = .ok (.bipush 6, 2) := by decide +kernel
theorem dX11_time_36 : decode cX11_time 36 = .ok (.bipush 16, 2) := by decide +kernel
theorem dX11_time_38 : decode cX11_time 38 = .ok (.iload_n 1, 1) := by decide +kernel
theorem dX11_time_39 : decode cX11_time 39 = .ok (.imul, 1) := by decide +kernel
theorem dX11_time_40 : decode cX11_time 40 = .ok (.iload_n 2, 1) := by decide +kernel
theorem dX11_time_41 : decode cX11_time 41 = .ok (.iadd, 1) := by decide +kernel
theorem dX11_time_42 : decode cX11_time 42 = .ok (.imul, 1) := by decide +kernel
theorem dX11_time_43 : decode cX11_time 43 = .ok (.iload_n 3, 1) := by decide +kernel
theorem dX11_time_44 : decode cX11_time 44 = .ok (.iadd, 1) := by decide +kernel
theorem dX11_time_45 : decode cX11_time 45 = .ok (.iaload, 1) := by decide +kernel
theorem dX11_time_46 : decode cX11_time 46 = .ok (.istore 4, 2) := by decide +kernel
theorem dX11_time_48 : decode cX11_time 48 = .ok (.iload 4, 2) := by decide +kernel
theorem dX11_time_50 : decode cX11_time 50 = .ok (.ldc 245, 2) := by decide +kernel
theorem dX11_time_52 : decode cX11_time 52 = .ok (.if_icmp .ne 7, 3) := by decide +kernel
theorem dX11_time_55 : decode cX11_time 55 = .ok (.iconst (-1), 1) := by decide +kernel
theorem dX11_time_56 : decode cX11_time 56 = .ok (.goto 5, 3) := by decide +kernel
theorem dX11_time_59 : decode cX11_time 59 = .ok (.iload 4, 2) := by decide +kernel
theorem dX11_time_61 : decode cX11_time 61 = .ok (.ireturn, 1) := by decide +kernel
theorem dX11_twice_0 : decode cX11_twice 0 = .ok (.aload_n 0, 1) := by decide +kernel
theorem dX11_twice_1 : decode cX11_twice 1 = .ok (.iconst 0, 1) := by decide +kernel
theorem dX11_twice_2 : decode cX11_twice 2 = .ok (.putfield 106, 3) := by decide +kernel
theorem dX11_twice_5 : decode cX11_twice 5 = .ok (.aload_n 0, 1) := by decide +kernel
theorem dX11_twice_6 : decode cX11_twice 6 = .ok (.iload_n 1, 1) := by decide +kernel
theorem dX11_twice_7 : decode cX11_twice 7 = .ok (.iload_n 2, 1) := by decide +kernel
theorem dX11_twice_8 : decode cX11_twice 8 = .ok (.invokevirtual 253, 3) := by decide +kernel
theorem dX11_twice_11 : decode cX11_twice 11 = .ok (.ifCond .eq 36, 3) := by decide +kernel
theorem dX11_twice_14 : decode cX11_twice 14 = .ok (.iload_n 3, 1) := by decide +kernel
theorem dX11_twice_15 : decode cX11_twice 15 = .ok (.iconst 0, 1) := by decide +kernel
theorem dX11_twice_16 : decode cX11_twice 16 = .ok (.aload_n 0, 1) := by decide +kernel
theorem dX11_twice_17 : decode cX11_twice 17 = .ok (.getfield 120, 3) := by decide +kernel
theorem dX11_twice_20 : decode cX11_twice 20 = .ok (.iconst 1, 1) := by decide +kernel
theorem dX11_twice_21 : decode cX11_twice 21 = .ok (.isub, 1) := by decide +kernel
theorem dX11_twice_22 : decode cX11_twice 22 = .ok (.invokestatic 109, 3) := by decide +kernel
theorem dX11_twice_25 : decode cX11_twice 25 = .ok (.ifCond .eq 22, 3) := by decide +kernel
theorem dX11_twice_28 : decode cX11_twice 28 = .ok (.aload_n 0, 1) := by decide +kernel
theorem dX11_twice_29 : decode cX11_twice 29 = .ok (.getfield 85, 3) := by decide +kernel
theorem dX11_twice_32 : decode cX11_twice 32 = .ok (.bipush 6, 2) := by decide +kernel
theorem dX11_twice_34 : decode cX11_twice 34 = .ok (.bipush 16, 2) := by decide +kernel
theorem dX11_twice_36 : decode cX11_twice 36 = .ok (.iload_n 1, 1) := by decide +kernel
theorem dX11_twice_37 : decode cX11_twice 37 = .ok (.imul, 1) := by decide +kernel
theorem dX11_twice_38 : decode cX11_twice 38 = .ok (.iload_n 2, 1) := by decide +kernel
theorem dX11_twice_39 : decode cX11_twice 39 = .ok (.iadd, 1) := by decide +kernel
theorem dX11_twice_40 : decode cX11_twice 40 = .ok (.imul, 1) := by decide +kernel
theorem dX11_twice_41 : decode cX11_twice 41 = .ok (.iload_n 3, 1) := by decide +kernel
theorem dX11_twice_42 : decode cX11_twice 42 = .ok (.iadd, 1) := by decide +kernel
theorem dX11_twice_43 : decode cX11_twice 43 = .ok (.iaload, 1) := by decide +kernel
theorem dX11_twice_44 : decode cX11_twice 44 = .ok (.goto 4, 3) := by decide +kernel
theorem dX11_twice_47 : decode cX11_twice 47 = .ok (.iconst (-1), 1) := by decide +kernel
theorem dX11_twice_48 : decode cX11_twice 48 = .ok (.ireturn, 1) := by decide +kernel
theorem dX11_sumOf_0 : decode cX11_sumOf 0 = .ok (.aload_n 0, 1) := by decide +kernel
theorem dX11_sumOf_1 : decode cX11_sumOf 1 = .ok (.iload_n 1, 1) := by decide +kernel
theorem dX11_sumOf_2 : decode cX11_sumOf 2 = .ok (.invokevirtual 246, 3) := by decide +kernel
theorem dX11_sumOf_5 : decode cX11_sumOf 5 = .ok (.ifCond .eq 12, 3) := by decide +kernel
theorem dX11_sumOf_8 : decode cX11_sumOf 8 = .ok (.aload_n 0, 1) := by decide +kernel
theorem dX11_sumOf_9 : decode cX11_sumOf 9 = .ok (.iload_n 1, 1) := by decide +kernel
theorem dX11_sumOf_10 : decode cX11_sumOf 10 = .ok (.iload_n 2, 1) := by decide +kernel
theorem dX11_sumOf_11 : decode cX11_sumOf 11 = .ok (.invokevirtual 249, 3) := by decide +kernel
theorem dX11_sumOf_14 : decode cX11_sumOf 14 = .ok (.ifCond .eq 5, 3) := by decide +kernel
theorem dX11_sumOf_17 : decode cX11_sumOf 17 = .ok (.iconst (-1), 1) := by decide +kernel
theorem dX11_sumOf_18 : decode cX11_sumOf 18 = .ok (.ireturn, 1) := by decide +kernel
theorem dX11_sumOf_19 : decode cX11_sumOf 19 = .ok (.iconst 0, 1) := by decide +kernel
theorem dX11_sumOf_20 : decode cX11_sumOf 20 = .ok (.istore_n 3, 1) := by decide +kernel
theorem dX11_sumOf_21 : decode cX11_sumOf 21 = .ok (.iconst 0, 1) := by decide +kernel
theorem dX11_sumOf_22 : decode cX11_sumOf 22 = .ok (.istore 4, 2) := by decide +kernel
theorem dX11_sumOf_24 : decode cX11_sumOf 24 = .ok (.iconst 0, 1) := by decide +kernel
theorem dX11_sumOf_25 : decode cX11_sumOf 25 = .ok (.istore 5, 2) := by decide +kernel
theorem dX11_sumOf_27 : decode cX11_sumOf 27 = .ok (.iload 5, 2) := by decide +kernel
theorem dX11_sumOf_29 : decode cX11_sumOf 29 = .ok (.iload_n 2, 1) := by decide +kernel
theorem dX11_sumOf_30 : decode cX11_sumOf 30 = .ok (.if_icmp .ge 65, 3) := by decide +kernel
theorem dX11_sumOf_33 : decode cX11_sumOf 33 = .ok (.aload_n 0, 1) := by decide +kernel
theorem dX11_sumOf_34 : decode cX11_sumOf 34 = .ok (.getfield 94, 3) := by decide +kernel
theorem dX11_sumOf_37 : decode cX11_sumOf 37 = .ok (.iload 5, 2) := by decide +kernel
theorem dX11_sumOf_39 : decode cX11_sumOf 39 = .ok (.iaload, 1) := by decide +kernel
theorem dX11_sumOf_40 : decode cX11_sumOf 40 = .ok (.istore 6, 2) := by decide +kernel
theorem dX11_sumOf_42 : decode cX11_sumOf 42 = .ok (.iload 6, 2) := by decide +kernel
theorem dX11_sumOf_44 : decode cX11_sumOf 44 = .ok (.bipush 10, 2) := by decide +kernel
theorem dX11_sumOf_46 : decode cX11_sumOf 46 = .ok (.if_icmp .lt 6, 3) := by decide +kernel
theorem dX11_sumOf_49 : decode cX11_sumOf 49 = .ok (.goto 40, 3) := by decide +kernel
theorem dX11_sumOf_52 : decode cX11_sumOf 52 = .ok (.aload_n 0, 1) := by decide +kernel
theorem dX11_sumOf_53 : decode cX11_sumOf 53 = .ok (.getfield 79, 3) := by decide +kernel
theorem dX11_sumOf_56 : decode cX11_sumOf 56 = .ok (.bipush 16, 2) := by decide +kernel
theorem dX11_sumOf_58 : decode cX11_sumOf 58 = .ok (.iload 6, 2) := by decide +kernel
theorem dX11_sumOf_60 : decode cX11_sumOf 60 = .ok (.imul, 1) := by decide +kernel
theorem dX11_sumOf_61 : decode cX11_sumOf 61 = .ok (.iload_n 1, 1) := by decide +kernel
theorem dX11_sumOf_62 : decode cX11_sumOf 62 = .ok (.iadd, 1) := by decide +kernel
theorem dX11_sumOf_63 : decode cX11_sumOf 63 = .ok (.baload, 1) := by decide +kernel
theorem dX11_sumOf_64 : decode cX11_sumOf 64 = .ok (.ifCond .ne 5, 3) := by decide +kernel
theorem dX11_sumOf_67 : decode cX11_sumOf 67 = .ok (.iconst (-1), 1) := by decide +kernel
theorem dX11_sumOf_68 : decode cX11_sumOf 68 = .ok (.ireturn, 1) := by decide +kernel
theorem dX11_sumOf_69 : decode cX11_sumOf 69 = .ok (.iinc 3 1, 3) := by decide +kernel
theorem dX11_sumOf_72 : decode cX11_sumOf 72 = .ok (.iload 4, 2) := by decide +kernel
theorem dX11_sumOf_74 : decode cX11_sumOf 74 = .ok (.aload_n 0, 1) := by decide +kernel
theorem dX11_sumOf_75 : decode cX11_sumOf 75 = .ok (.getfield 88, 3) := by decide +kernel
theorem dX11_sumOf_78 : decode cX11_sumOf 78 = .ok (.bipush 16, 2) := by decide +kernel
theorem dX11_sumOf_80 : decode cX11_sumOf 80 = .ok (.iload 6, 2) := by decide +kernel
theorem dX11_sumOf_82 : decode cX11_sumOf 82 = .ok (.imul, 1) := by decide +kernel
theorem dX11_sumOf_83 : decode cX11_sumOf 83 = .ok (.iload_n 1, 1) := by decide +kernel
theorem dX11_sumOf_84 : decode cX11_sumOf 84 = .ok (.iadd, 1) := by decide +kernel
theorem dX11_sumOf_85 : decode cX11_sumOf 85 = .ok (.iaload, 1) := by decide +kernel
theorem dX11_sumOf_86 : decode cX11_sumOf 86 = .ok (.iadd, 1) := by decide +kernel
theorem dX11_sumOf_87 : decode cX11_sumOf 87 = .ok (.istore 4, 2) := by decide +kernel
theorem dX11_sumOf_89 : decode cX11_sumOf 89 = .ok (.iinc 5 1, 3) := by decide +kernel
theorem dX11_sumOf_92 : decode cX11_sumOf 92 = .ok (.goto (-65), 3) := by decide +kernel
theorem dX11_sumOf_95 : decode cX11_sumOf 95 = .ok (.iload_n 3, 1) := by decide +kernel
theorem dX11_sumOf_96 : decode cX11_sumOf 96 = .ok (.ifCond .ne 7, 3) := by decide +kernel
theorem dX11_sumOf_99 : decode cX11_sumOf 99 = .ok (.iconst (-1), 1) := by decide +kernel
theorem dX11_sumOf_100 : decode cX11_sumOf 100 = .ok (.goto 5, 3) := by decide +kernel
theorem dX11_sumOf_103 : decode cX11_sumOf 103 = .ok (.iload 4, 2) := by decide +kernel
theorem dX11_sumOf_105 : decode cX11_sumOf 105 = .ok (.ireturn, 1) := by decide +kernel
theorem dX11_isRanked_0 : decode cX11_isRanked 0 = .ok (.aload_n 0, 1) := by decide +kernel
theorem dX11_isRanked_1 : decode cX11_isRanked 1 = .ok (.iload_n 1, 1) := by decide +kernel
theorem dX11_isRanked_2 : decode cX11_isRanked 2 = .ok (.invokevirtual 246, 3) := by decide +kernel
theorem dX11_isRanked_5 : decode cX11_isRanked 5 = .ok (.ifCond .eq 12, 3) := by decide +kernel
theorem dX11_isRanked_8 : decode cX11_isRanked 8 = .ok (.aload_n 0, 1) := by decide +kernel
theorem dX11_isRanked_9 : decode cX11_isRanked 9 = .ok (.iload_n 1, 1) := by decide +kernel
theorem dX11_isRanked_10 : decode cX11_isRanked 10 = .ok (.iload_n 2, 1) := by decide +kernel
theorem dX11_isRanked_11 : decode cX11_isRanked 11 = .ok (.invokevirtual 249, 3) := by decide +kernel
theorem dX11_isRanked_14 : decode cX11_isRanked 14 = .ok (.ifCond .eq 5, 3) := by decide +kernel
theorem dX11_isRanked_17 : decode cX11_isRanked 17 = .ok (.iconst 0, 1) := by decide +kernel
theorem dX11_isRanked_18 : decode cX11_isRanked 18 = .ok (.ireturn, 1) := by decide +kernel
theorem dX11_isRanked_19 : decode cX11_isRanked 19 = .ok (.iconst 0, 1) := by decide +kernel
theorem dX11_isRanked_20 : decode cX11_isRanked 20 = .ok (.istore_n 3, 1) := by decide +kernel
theorem dX11_isRanked_21 : decode cX11_isRanked 21 = .ok (.iconst 0, 1) := by decide +kernel
theorem dX11_isRanked_22 : decode cX11_isRanked 22 = .ok (.istore 4, 2) := by decide +kernel
theorem dX11_isRanked_24 : decode cX11_isRanked 24 = .ok (.iload 4, 2) := by decide +kernel
theorem dX11_isRanked_26 : decode cX11_isRanked 26 = .ok (.iload_n 2, 1) := by decide +kernel
theorem dX11_isRanked_27 : decode cX11_isRanked 27 = .ok (.if_icmp .ge 49, 3) := by decide +kernel
theorem dX11_isRanked_30 : decode cX11_isRanked 30 = .ok (.aload_n 0, 1) := by decide +kernel
theorem dX11_isRanked_31 : decode cX11_isRanked 31 = .ok (.getfield 94, 3) := by decide +kernel
theorem dX11_isRanked_34 : decode cX11_isRanked 34 = .ok (.iload 4, 2) := by decide +kernel
theorem dX11_isRanked_36 : decode cX11_isRanked 36 = .ok (.iaload, 1) := by decide +kernel
theorem dX11_isRanked_37 : decode cX11_isRanked 37 = .ok (.bipush 10, 2) := by decide +kernel
theorem dX11_isRanked_39 : decode cX11_isRanked 39 = .ok (.if_icmp .lt 6, 3) := by decide +kernel
theorem dX11_isRanked_42 : decode cX11_isRanked 42 = .ok (.goto 28, 3) := by decide +kernel
theorem dX11_isRanked_45 : decode cX11_isRanked 45 = .ok (.aload_n 0, 1) := by decide +kernel
theorem dX11_isRanked_46 : decode cX11_isRanked 46 = .ok (.getfield 79, 3) := by decide +kernel
theorem dX11_isRanked_49 : decode cX11_isRanked 49 = .ok (.bipush 16, 2) := by decide +kernel
theorem dX11_isRanked_51 : decode cX11_isRanked 51 = .ok (.aload_n 0, 1) := by decide +kernel
theorem dX11_isRanked_52 : decode cX11_isRanked 52 = .ok (.getfield 94, 3) := by decide +kernel
theorem dX11_isRanked_55 : decode cX11_isRanked 55 = .ok (.iload 4, 2) := by decide +kernel
theorem dX11_isRanked_57 : decode cX11_isRanked 57 = .ok (.iaload, 1) := by decide +kernel
theorem dX11_isRanked_58 : decode cX11_isRanked 58 = .ok (.imul, 1) := by decide +kernel
theorem dX11_isRanked_59 : decode cX11_isRanked 59 = .ok (.iload_n 1, 1) := by decide +kernel
theorem dX11_isRanked_60 : decode cX11_isRanked 60 = .ok (.iadd, 1) := by decide +kernel
theorem dX11_isRanked_61 : decode cX11_isRanked 61 = .ok (.baload, 1) := by decide +kernel
theorem dX11_isRanked_62 : decode cX11_isRanked 62 = .ok (.ifCond .ne 5, 3) := by decide +kernel
theorem dX11_isRanked_65 : decode cX11_isRanked 65 = .ok (.iconst 0, 1) := by decide +kernel
theorem dX11_isRanked_66 : decode cX11_isRanked 66 = .ok (.ireturn, 1) := by decide +kernel
theorem dX11_isRanked_67 : decode cX11_isRanked 67 = .ok (.iinc 3 1, 3) := by decide +kernel
theorem dX11_isRanked_70 : decode cX11_isRanked 70 = .ok (.iinc 4 1, 3) := by decide +kernel
theorem dX11_isRanked_73 : decode cX11_isRanked 73 = .ok (.goto (-49), 3) := by decide +kernel
theorem dX11_isRanked_76 : decode cX11_isRanked 76 = .ok (.iload_n 3, 1) := by decide +kernel
theorem dX11_isRanked_77 : decode cX11_isRanked 77 = .ok (.ifCond .le 7, 3) := by decide +kernel
theorem dX11_isRanked_80 : decode cX11_isRanked 80 = .ok (.iconst 1, 1) := by decide +kernel
theorem dX11_isRanked_81 : decode cX11_isRanked 81 = .ok (.goto 4, 3) := by decide +kernel
theorem dX11_isRanked_84 : decode cX11_isRanked 84 = .ok (.iconst 0, 1) := by decide +kernel
theorem dX11_isRanked_85 : decode cX11_isRanked 85 = .ok (.ireturn, 1) := by decide +kernel
theorem dX11_rankOf_0 : decode cX11_rankOf 0 = .ok (.aload_n 0, 1) := by decide +kernel
theorem dX11_rankOf_1 : decode cX11_rankOf 1 = .ok (.iload_n 1, 1) := by decide +kernel
theorem dX11_rankOf_2 : decode cX11_rankOf 2 = .ok (.iload_n 2, 1) := by decide +kernel
theorem dX11_rankOf_3 : decode cX11_rankOf 3 = .ok (.invokevirtual 256, 3) := by decide +kernel
theorem dX11_rankOf_6 : decode cX11_rankOf 6 = .ok (.ifCond .ne 5, 3) := by decide +kernel
theorem dX11_rankOf_9 : decode cX11_rankOf 9 = .ok (.iconst (-1), 1) := by decide +kernel
theorem dX11_rankOf_10 : decode cX11_rankOf 10 = .ok (.ireturn, 1) := by decide +kernel
theorem dX11_rankOf_11 : decode cX11_rankOf 11 = .ok (.iconst 1, 1) := by decide +kernel
theorem dX11_rankOf_12 : decode cX11_rankOf 12 = .ok (.istore_n 3, 1) := by decide +kernel
theorem dX11_rankOf_13 : decode cX11_rankOf 13 = .ok (.iconst 0, 1) := by decide +kernel
theorem dX11_rankOf_14 : decode cX11_rankOf 14 = .ok (.istore 4, 2) := by decide +kernel
theorem dX11_rankOf_16 : decode cX11_rankOf 16 = .ok (.iload 4, 2) := by decide +kernel
theorem dX11_rankOf_18 : decode cX11_rankOf 18 = .ok (.aload_n 0, 1) := by decide +kernel
theorem dX11_rankOf_19 : decode cX11_rankOf 19 = .ok (.getfield 139, 3) := by decide +kernel
theorem dX11_rankOf_22 : decode cX11_rankOf 22 = .ok (.if_icmp .ge 43, 3) := by decide +kernel
theorem dX11_rankOf_25 : decode cX11_rankOf 25 = .ok (.iload_n 3, 1) := by decide +kernel
theorem dX11_rankOf_26 : decode cX11_rankOf 26 = .ok (.aload_n 0, 1) := by decide +kernel
theorem dX11_rankOf_27 : decode cX11_rankOf 27 = .ok (.iload 4, 2) := by decide +kernel
theorem dX11_rankOf_29 : decode cX11_rankOf 29 = .ok (.iload_n 2, 1) := by decide +kernel
theorem dX11_rankOf_30 : decode cX11_rankOf 30 = .ok (.invokevirtual 256, 3) := by decide +kernel
theorem dX11_rankOf_33 : decode cX11_rankOf 33 = .ok (.ifCond .eq 23, 3) := by decide +kernel
theorem dX11_rankOf_36 : decode cX11_rankOf 36 = .ok (.aload_n 0, 1) := by decide +kernel
theorem dX11_rankOf_37 : decode cX11_rankOf 37 = .ok (.iload 4, 2) := by decide +kernel
theorem dX11_rankOf_39 : decode cX11_rankOf 39 = .ok (.iload_n 2, 1) := by decide +kernel
theorem dX11_rankOf_40 : decode cX11_rankOf 40 = .ok (.invokevirtual 259, 3) := by decide +kernel
theorem dX11_rankOf_43 : decode cX11_rankOf 43 = .ok (.aload_n 0, 1) := by decide +kernel
theorem dX11_rankOf_44 : decode cX11_rankOf 44 = .ok (.iload_n 1, 1) := by decide +kernel
theorem dX11_rankOf_45 : decode cX11_rankOf 45 = .ok (.iload_n 2, 1) := by decide +kernel
theorem dX11_rankOf_46 : decode cX11_rankOf 46 = .ok (.invokevirtual 259, 3) := by decide +kernel
theorem dX11_rankOf_49 : decode cX11_rankOf 49 = .ok (.if_icmp .ge 7, 3) := by decide +kernel
theorem dX11_rankOf_52 : decode cX11_rankOf 52 = .ok (.iconst 1, 1) := by decide +kernel
theorem dX11_rankOf_53 : decode cX11_rankOf 53 = .ok (.goto 4, 3) := by decide +kernel
theorem dX11_rankOf_56 : decode cX11_rankOf 56 = .ok (.iconst 0, 1) := by decide +kernel
theorem dX11_rankOf_57 : decode cX11_rankOf 57 = .ok (.iadd, 1) := by decide +kernel
theorem dX11_rankOf_58 : decode cX11_rankOf 58 = .ok (.istore_n 3, 1) := by decide +kernel
theorem dX11_rankOf_59 : decode cX11_rankOf 59 = .ok (.iinc 4 1, 3) := by decide +kernel
theorem dX11_rankOf_62 : decode cX11_rankOf 62 = .ok (.goto (-46), 3) := by decide +kernel
theorem dX11_rankOf_65 : decode cX11_rankOf 65 = .ok (.iload_n 3, 1) := by decide +kernel
theorem dX11_rankOf_66 : decode cX11_rankOf 66 = .ok (.ireturn, 1) := by decide +kernel
theorem dX11_sum_0 : decode cX11_sum 0 = .ok (.aload_n 0, 1) := by decide +kernel
theorem dX11_sum_1 : decode cX11_sum 1 = .ok (.iconst 0, 1) := by decide +kernel
theorem dX11_sum_2 : decode cX11_sum 2 = .ok (.putfield 106, 3) := by decide +kernel
theorem dX11_sum_5 : decode cX11_sum 5 = .ok (.aload_n 0, 1) := by decide +kernel
theorem dX11_sum_6 : decode cX11_sum 6 = .ok (.getfield 113, 3) := by decide +kernel
theorem dX11_sum_9 : decode cX11_sum 9 = .ok (.ifCond .eq 33, 3) := by decide +kernel
theorem dX11_sum_12 : decode cX11_sum 12 = .ok (.iload_n 2, 1) := by decide +kernel
theorem dX11_sum_13 : decode cX11_sum 13 = .ok (.iconst 0, 1) := by decide +kernel
theorem dX11_sum_14 : decode cX11_sum 14 = .ok (.aload_n 0, 1) := by decide +kernel
theorem dX11_sum_15 : decode cX11_sum 15 = .ok (.getfield 223, 3) := by decide +kernel
theorem dX11_sum_18 : decode cX11_sum 18 = .ok (.invokestatic 109, 3) := by decide +kernel
theorem dX11_sum_21 : decode cX11_sum 21 = .ok (.ifCond .eq 21, 3) := by decide +kernel
theorem dX11_sum_24 : decode cX11_sum 24 = .ok (.aload_n 0, 1) := by decide +kernel
theorem dX11_sum_25 : decode cX11_sum 25 = .ok (.iload_n 1, 1) := by decide +kernel
theorem dX11_sum_26 : decode cX11_sum 26 = .ok (.iload_n 2, 1) := by decide +kernel
theorem dX11_sum_27 : decode cX11_sum 27 = .ok (.invokevirtual 256, 3) := by decide +kernel
theorem dX11_sum_30 : decode cX11_sum 30 = .ok (.ifCond .eq 12, 3) := by decide +kernel
theorem dX11_sum_33 : decode cX11_sum 33 = .ok (.aload_n 0, 1) := by decide +kernel
theorem dX11_sum_34 : decode cX11_sum 34 = .ok (.iload_n 1, 1) := by decide +kernel
theorem dX11_sum_35 : decode cX11_sum 35 = .ok (.iload_n 2, 1) := by decide +kernel
theorem dX11_sum_36 : decode cX11_sum 36 = .ok (.invokevirtual 259, 3) := by decide +kernel
theorem dX11_sum_39 : decode cX11_sum 39 = .ok (.goto 4, 3) := by decide +kernel
theorem dX11_sum_42 : decode cX11_sum 42 = .ok (.iconst (-1), 1) := by decide +kernel
theorem dX11_sum_43 : decode cX11_sum 43 = .ok (.ireturn, 1) := by decide +kernel
theorem dX11_rank_0 : decode cX11_rank 0 = .ok (.aload_n 0, 1) := by decide +kernel
theorem dX11_rank_1 : decode cX11_rank 1 = .ok (.iconst 0, 1) := by decide +kernel
theorem dX11_rank_2 : decode cX11_rank 2 = .ok (.putfield 106, 3) := by decide +kernel
theorem dX11_rank_5 : decode cX11_rank 5 = .ok (.aload_n 0, 1) := by decide +kernel
theorem dX11_rank_6 : decode cX11_rank 6 = .ok (.getfield 113, 3) := by decide +kernel
theorem dX11_rank_9 : decode cX11_rank 9 = .ok (.ifCond .eq 24, 3) := by decide +kernel
theorem dX11_rank_12 : decode cX11_rank 12 = .ok (.iload_n 2, 1) := by decide +kernel
theorem dX11_rank_13 : decode cX11_rank 13 = .ok (.iconst 0, 1) := by decide +kernel
theorem dX11_rank_14 : decode cX11_rank 14 = .ok (.aload_n 0, 1) := by decide +kernel
theorem dX11_rank_15 : decode cX11_rank 15 = .ok (.getfield 223, 3) := by decide +kernel
theorem dX11_rank_18 : decode cX11_rank 18 = .ok (.invokestatic 109, 3) := by decide +kernel
theorem dX11_rank_21 : decode cX11_rank 21 = .ok (.ifCond .eq 12, 3) := by decide +kernel
theorem dX11_rank_24 : decode cX11_rank 24 = .ok (.aload_n 0, 1) := by decide +kernel
theorem dX11_rank_25 : decode cX11_rank 25 = .ok (.iload_n 1, 1) := by decide +kernel
theorem dX11_rank_26 : decode cX11_rank 26 = .ok (.iload_n 2, 1) := by decide +kernel
theorem dX11_rank_27 : decode cX11_rank 27 = .ok (.invokevirtual 226, 3) := by decide +kernel
theorem dX11_rank_30 : decode cX11_rank 30 = .ok (.goto 4, 3) := by decide +kernel
theorem dX11_rank_33 : decode cX11_rank 33 = .ok (.iconst (-1), 1) := by decide +kernel
theorem dX11_rank_34 : decode cX11_rank 34 = .ok (.ireturn, 1) := by decide +kernel
theorem dX11_ice_0 : decode cX11_ice 0 = .ok (.aload_n 0, 1) := by decide +kernel
theorem dX11_ice_1 : decode cX11_ice 1 = .ok (.iload_n 1, 1) := by decide +kernel
theorem dX11_ice_2 : decode cX11_ice 2 = .ok (.iload_n 2, 1) := by decide +kernel
theorem dX11_ice_3 : decode cX11_ice 3 = .ok (.invokevirtual 253, 3) := by decide +kernel
theorem dX11_ice_6 : decode cX11_ice 6 = .ok (.ifCond .eq 17, 3) := by decide +kernel
theorem dX11_ice_9 : decode cX11_ice 9 = .ok (.aload_n 0, 1) := by decide +kernel
theorem dX11_ice_10 : decode cX11_ice 10 = .ok (.getfield 69, 3) := by decide +kernel
theorem dX11_ice_13 : decode cX11_ice 13 = .ok (.iload_n 1, 1) := by decide +kernel
theorem dX11_ice_14 : decode cX11_ice 14 = .ok (.iaload, 1) := by decide +kernel
theorem dX11_ice_15 : decode cX11_ice 15 = .ok (.iconst 2, 1) := by decide +kernel
theorem dX11_ice_16 : decode cX11_ice 16 = .ok (.if_icmp .ne 7, 3) := by decide +kernel
theorem dX11_ice_19 : decode cX11_ice 19 = .ok (.iconst 1, 1) := by decide +kernel
theorem dX11_ice_20 : decode cX11_ice 20 = .ok (.goto 4, 3) := by decide +kernel
theorem dX11_ice_23 : decode cX11_ice 23 = .ok (.iconst 0, 1) := by decide +kernel
theorem dX11_ice_24 : decode cX11_ice 24 = .ok (.istore_n 3, 1) := by decide +kernel
theorem dX11_ice_25 : decode cX11_ice 25 = .ok (.aload_n 0, 1) := by decide +kernel
theorem dX11_ice_26 : decode cX11_ice 26 = .ok (.iload_n 3, 1) := by decide +kernel
theorem dX11_ice_27 : decode cX11_ice 27 = .ok (.ifCond .eq 7, 3) := by decide +kernel
theorem dX11_ice_30 : decode cX11_ice 30 = .ok (.iconst 0, 1) := by decide +kernel
theorem dX11_ice_31 : decode cX11_ice 31 = .ok (.goto 4, 3) := by decide +kernel
theorem dX11_ice_34 : decode cX11_ice 34 = .ok (.iconst 1, 1) := by decide +kernel
theorem dX11_ice_35 : decode cX11_ice 35 = .ok (.putfield 106, 3) := by decide +kernel
theorem dX11_ice_38 : decode cX11_ice 38 = .ok (.iload_n 3, 1) := by decide +kernel
theorem dX11_ice_39 : decode cX11_ice 39 = .ok (.ifCond .ne 5, 3) := by decide +kernel
theorem dX11_ice_42 : decode cX11_ice 42 = .ok (.iconst 0, 1) := by decide +kernel
theorem dX11_ice_43 : decode cX11_ice 43 = .ok (.ireturn, 1) := by decide +kernel
theorem dX11_ice_44 : decode cX11_ice 44 = .ok (.iconst 0, 1) := by decide +kernel
theorem dX11_ice_45 : decode cX11_ice 45 = .ok (.istore 4, 2) := by decide +kernel
theorem dX11_ice_47 : decode cX11_ice 47 = .ok (.iconst 0, 1) := by decide +kernel
theorem dX11_ice_48 : decode cX11_ice 48 = .ok (.istore 5, 2) := by decide +kernel
theorem dX11_ice_50 : decode cX11_ice 50 = .ok (.iload 5, 2) := by decide +kernel
theorem dX11_ice_52 : decode cX11_ice 52 = .ok (.bipush 16, 2) := by decide +kernel
theorem dX11_ice_54 : decode cX11_ice 54 = .ok (.if_icmp .ge 57, 3) := by decide +kernel
theorem dX11_ice_57 : decode cX11_ice 57 = .ok (.iload 4, 2) := by decide +kernel
theorem dX11_ice_59 : decode cX11_ice 59 = .ok (.aload_n 0, 1) := by decide +kernel
theorem dX11_ice_60 : decode cX11_ice 60 = .ok (.getfield 79, 3) := by decide +kernel
theorem dX11_ice_63 : decode cX11_ice 63 = .ok (.bipush 16, 2) := by decide +kernel
theorem dX11_ice_65 : decode cX11_ice 65 = .ok (.iload_n 1, 1) := by decide +kernel
theorem dX11_ice_66 : decode cX11_ice 66 = .ok (.imul, 1) := by decide +kernel
theorem dX11_ice_67 : decode cX11_ice 67 = .ok (.iload 5, 2) := by decide +kernel
theorem dX11_ice_69 : decode cX11_ice 69 = .ok (.iadd, 1) := by decide +kernel
theorem dX11_ice_70 : decode cX11_ice 70 = .ok (.baload, 1) := by decide +kernel
theorem dX11_ice_71 : decode cX11_ice 71 = .ok (.ifCond .eq 30, 3) := by decide +kernel
theorem dX11_ice_74 : decode cX11_ice 74 = .ok (.aload_n 0, 1) := by decide +kernel
theorem dX11_ice_75 : decode cX11_ice 75 = .ok (.getfield 91, 3) := by decide +kernel
theorem dX11_ice_78 : decode cX11_ice 78 = .ok (.bipush 16, 2) := by decide +kernel
theorem dX11_ice_80 : decode cX11_ice 80 = .ok (.iload_n 1, 1) := by decide +kernel
theorem dX11_ice_81 : decode cX11_ice 81 = .ok (.imul, 1) := by decide +kernel
theorem dX11_ice_82 : decode cX11_ice 82 = .ok (.iload_n 2, 1) := by decide +kernel
theorem dX11_ice_83 : decode cX11_ice 83 = .ok (.iadd, 1) := by decide +kernel
theorem dX11_ice_84 : decode cX11_ice 84 = .ok (.iaload, 1) := by decide +kernel
theorem dX11_ice_85 : decode cX11_ice 85 = .ok (.aload_n 0, 1) := by decide +kernel
theorem dX11_ice_86 : decode cX11_ice 86 = .ok (.getfield 91, 3) := by decide +kernel
theorem dX11_ice_89 : decode cX11_ice 89 = .ok (.bipush 16, 2) := by decide +kernel
theorem dX11_ice_91 : decode cX11_ice 91 = .ok (.iload_n 1, 1) := by decide +kernel
theorem dX11_ice_92 : decode cX11_ice 92 = .ok (.imul, 1) := by decide +kernel
theorem dX11_ice_93 : decode cX11_ice 93 = .ok (.iload 5, 2) := by decide +kernel
theorem dX11_ice_95 : decode cX11_ice 95 = .ok (.iadd, 1) := by decide +kernel
theorem dX11_ice_96 : decode cX11_ice 96 = .ok (.iaload, 1) := by decide +kernel
theorem dX11_ice_97 : decode cX11_ice 97 = .ok (.isub, 1) := by decide +kernel
theorem dX11_ice_98 : decode cX11_ice 98 = .ok (.goto 4, 3) := by decide +kernel
theorem dX11_ice_101 : decode cX11_ice 101 = .ok (.iconst 0, 1) := by decide +kernel
theorem dX11_ice_102 : decode cX11_ice 102 = .ok (.iadd, 1) := by decide +kernel
theorem dX11_ice_103 : decode cX11_ice 103 = .ok (.istore 4, 2) := by decide +kernel
theorem dX11_ice_105 : decode cX11_ice 105 = .ok (.iinc 5 1, 3) := by decide +kernel
theorem dX11_ice_108 : decode cX11_ice 108 = .ok (.goto (-58), 3) := by decide +kernel
theorem dX11_ice_111 : decode cX11_ice 111 = .ok (.iload 4, 2) := by decide +kernel
theorem dX11_ice_113 : decode cX11_ice 113 = .ok (.ireturn, 1) := by decide +kernel
theorem dX11_timeAt_0 : decode cX11_timeAt 0 = .ok (.aload_n 0, 1) := by decide +kernel
theorem dX11_timeAt_1 : decode cX11_timeAt 1 = .ok (.getfield 82, 3) := by decide +kernel
theorem dX11_timeAt_4 : decode cX11_timeAt 4 = .ok (.bipush 6, 2) := by decide +kernel
theorem dX11_timeAt_6 : decode cX11_timeAt 6 = .ok (.bipush 16, 2) := by decide +kernel
theorem dX11_timeAt_8 : decode cX11_timeAt 8 = .ok (.iload_n 1, 1) := by decide +kernel
theorem dX11_timeAt_9 : decode cX11_timeAt 9 = .ok (.imul, 1) := by decide +kernel
theorem dX11_timeAt_10 : decode cX11_timeAt 10 = .ok (.iload_n 2, 1) := by decide +kernel
theorem dX11_timeAt_11 : decode cX11_timeAt 11 = .ok (.iadd, 1) := by decide +kernel
theorem dX11_timeAt_12 : decode cX11_timeAt 12 = .ok (.imul, 1) := by decide +kernel
theorem dX11_timeAt_13 : decode cX11_timeAt 13 = .ok (.iload_n 3, 1) := by decide +kernel
theorem dX11_timeAt_14 : decode cX11_timeAt 14 = .ok (.iadd, 1) := by decide +kernel
theorem dX11_timeAt_15 : decode cX11_timeAt 15 = .ok (.iaload, 1) := by decide +kernel
theorem dX11_timeAt_16 : decode cX11_timeAt 16 = .ok (.ireturn, 1) := by decide +kernel
theorem dX11_lost_0 : decode cX11_lost 0 = .ok (.aload_n 0, 1) := by decide +kernel
theorem dX11_lost_1 : decode cX11_lost 1 = .ok (.iconst 0, 1) := by decide +kernel
theorem dX11_lost_2 : decode cX11_lost 2 = .ok (.putfield 106, 3) := by decide +kernel
theorem dX11_lost_5 : decode cX11_lost 5 = .ok (.aload_n 0, 1) := by decide +kernel
theorem dX11_lost_6 : decode cX11_lost 6 = .ok (.iload_n 1, 1) := by decide +kernel
theorem dX11_lost_7 : decode cX11_lost 7 = .ok (.iload_n 2, 1) := by decide +kernel
theorem dX11_lost_8 : decode cX11_lost 8 = .ok (.invokevirtual 253, 3) := by decide +kernel
theorem dX11_lost_11 : decode cX11_lost 11 = .ok (.ifCond .eq 27, 3) := by decide +kernel
theorem dX11_lost_14 : decode cX11_lost 14 = .ok (.aload_n 0, 1) := by decide +kernel
theorem dX11_lost_15 : decode cX11_lost 15 = .ok (.getfield 69, 3) := by decide +kernel
theorem dX11_lost_18 : decode cX11_lost 18 = .ok (.iload_n 1, 1) := by decide +kernel
theorem dX11_lost_19 : decode cX11_lost 19 = .ok (.iaload, 1) := by decide +kernel
theorem dX11_lost_20 : decode cX11_lost 20 = .ok (.iconst 2, 1) := by decide +kernel
theorem dX11_lost_21 : decode cX11_lost 21 = .ok (.if_icmp .ne 17, 3) := by decide +kernel
theorem dX11_lost_24 : decode cX11_lost 24 = .ok (.iload_n 3, 1) := by decide +kernel
theorem dX11_lost_25 : decode cX11_lost 25 = .ok (.iconst 0, 1) := by decide +kernel
theorem dX11_lost_26 : decode cX11_lost 26 = .ok (.aload_n 0, 1) := by decide +kernel
theorem dX11_lost_27 : decode cX11_lost 27 = .ok (.getfield 120, 3) := by decide +kernel
theorem dX11_lost_30 : decode cX11_lost 30 = .ok (.iconst 2, 1) := by decide +kernel
theorem dX11_lost_31 : decode cX11_lost 31 = .ok (.isub, 1) := by decide +kernel
theorem dX11_lost_32 : decode cX11_lost 32 = .ok (.invokestatic 109, 3) := by decide +kernel
theorem dX11_lost_35 : decode cX11_lost 35 = .ok (.ifCond .ne 5, 3) := by decide +kernel
theorem dX11_lost_38 : decode cX11_lost 38 = .ok (.iconst (-1), 1) := by decide +kernel
theorem dX11_lost_39 : decode cX11_lost 39 = .ok (.ireturn, 1) := by decide +kernel
theorem dX11_lost_40 : decode cX11_lost 40 = .ok (.iload_n 3, 1) := by decide +kernel
theorem dX11_lost_41 : decode cX11_lost 41 = .ok (.istore 4, 2) := by decide +kernel
theorem dX11_lost_43 : decode cX11_lost 43 = .ok (.aload_n 0, 1) := by decide +kernel
theorem dX11_lost_44 : decode cX11_lost 44 = .ok (.iload_n 1, 1) := by decide +kernel
theorem dX11_lost_45 : decode cX11_lost 45 = .ok (.iload_n 2, 1) := by decide +kernel
theorem dX11_lost_46 : decode cX11_lost 46 = .ok (.iload 4, 2) := by decide +kernel
theorem dX11_lost_48 : decode cX11_lost 48 = .ok (.invokevirtual 262, 3) := by decide +kernel
theorem dX11_lost_51 : decode cX11_lost 51 = .ok (.ldc 245, 2) := by decide +kernel
theorem dX11_lost_53 : decode cX11_lost 53 = .ok (.if_icmp .ne 9, 3) := by decide +kernel
theorem dX11_lost_56 : decode cX11_lost 56 = .ok (.iinc 4 (-1), 3) := by decide +kernel
theorem dX11_lost_59 : decode cX11_lost 59 = .ok (.goto (-16), 3) := by decide +kernel
theorem dX11_lost_62 : decode cX11_lost 62 = .ok (.iload_n 3, 1) := by decide +kernel
theorem dX11_lost_63 : decode cX11_lost 63 = .ok (.iconst 1, 1) := by decide +kernel
theorem dX11_lost_64 : decode cX11_lost 64 = .ok (.iadd, 1) := by decide +kernel
theorem dX11_lost_65 : decode cX11_lost 65 = .ok (.istore 5, 2) := by decide +kernel
theorem dX11_lost_67 : decode cX11_lost 67 = .ok (.iload 5, 2) := by decide +kernel
theorem dX11_lost_69 : decode cX11_lost 69 = .ok (.aload_n 0, 1) := by decide +kernel
theorem dX11_lost_70 : decode cX11_lost 70 = .ok (.getfield 120, 3) := by decide +kernel
theorem dX11_lost_73 : decode cX11_lost 73 = .ok (.if_icmp .ge 22, 3) := by decide +kernel
theorem dX11_lost_76 : decode cX11_lost 76 = .ok (.aload_n 0, 1) := by decide +kernel
theorem dX11_lost_77 : decode cX11_lost 77 = .ok (.iload_n 1, 1) := by decide +kernel
theorem dX11_lost_78 : decode cX11_lost 78 = .ok (.iload_n 2, 1) := by decide +kernel
theorem dX11_lost_79 : decode cX11_lost 79 = .ok (.iload 5, 2) := by decide +kernel
theorem dX11_lost_81 : decode cX11_lost 81 = .ok (.invokevirtual 262, 3) := by decide +kernel
theorem dX11_lost_84 : decode cX11_lost 84 = .ok (.ldc 245, 2) := by decide +kernel
theorem dX11_lost_86 : decode cX11_lost 86 = .ok (.if_icmp .ne 9, 3) := by decide +kernel
theorem dX11_lost_89 : decode cX11_lost 89 = .ok (.iinc 5 1, 3) := by decide +kernel
theorem dX11_lost_92 : decode cX11_lost 92 = .ok (.goto (-25), 3) := by decide +kernel
theorem dX11_lost_95 : decode cX11_lost 95 = .ok (.iload 5, 2) := by decide +kernel
theorem dX11_lost_97 : decode cX11_lost 97 = .ok (.aload_n 0, 1) := by decide +kernel
theorem dX11_lost_98 : decode cX11_lost 98 = .ok (.getfield 120, 3) := by decide +kernel
theorem dX11_lost_101 : decode cX11_lost 101 = .ok (.if_icmp .ne 5, 3) := by decide +kernel
theorem dX11_lost_104 : decode cX11_lost 104 = .ok (.iconst (-1), 1) := by decide +kernel
theorem dX11_lost_105 : decode cX11_lost 105 = .ok (.ireturn, 1) := by decide +kernel
theorem dX11_lost_106 : decode cX11_lost 106 = .ok (.aload_n 0, 1) := by decide +kernel
theorem dX11_lost_107 : decode cX11_lost 107 = .ok (.iload_n 1, 1) := by decide +kernel
theorem dX11_lost_108 : decode cX11_lost 108 = .ok (.iload_n 2, 1) := by decide +kernel
theorem dX11_lost_109 : decode cX11_lost 109 = .ok (.iload 5, 2) := by decide +kernel
theorem dX11_lost_111 : decode cX11_lost 111 = .ok (.invokevirtual 262, 3) := by decide +kernel
theorem dX11_lost_114 : decode cX11_lost 114 = .ok (.aload_n 0, 1) := by decide +kernel
theorem dX11_lost_115 : decode cX11_lost 115 = .ok (.iload_n 1, 1) := by decide +kernel
theorem dX11_lost_116 : decode cX11_lost 116 = .ok (.iload_n 2, 1) := by decide +kernel
theorem dX11_lost_117 : decode cX11_lost 117 = .ok (.iload 4, 2) := by decide +kernel
theorem dX11_lost_119 : decode cX11_lost 119 = .ok (.invokevirtual 262, 3) := by decide +kernel
theorem dX11_lost_122 : decode cX11_lost 122 = .ok (.isub, 1) := by decide +kernel
theorem dX11_lost_123 : decode cX11_lost 123 = .ok (.istore 6, 2) := by decide +kernel
theorem dX11_lost_125 : decode cX11_lost 125 = .ok (.iload 6, 2) := by decide +kernel
theorem dX11_lost_127 : decode cX11_lost 127 = .ok (.istore 7, 2) := by decide +kernel
theorem dX11_lost_129 : decode cX11_lost 129 = .ok (.iconst 0, 1) := by decide +kernel
theorem dX11_lost_130 : decode cX11_lost 130 = .ok (.istore 8, 2) := by decide +kernel
theorem dX11_lost_132 : decode cX11_lost 132 = .ok (.iload 8, 2) := by decide +kernel
theorem dX11_lost_134 : decode cX11_lost 134 = .ok (.aload_n 0, 1) := by decide +kernel
theorem dX11_lost_135 : decode cX11_lost 135 = .ok (.getfield 139, 3) := by decide +kernel
theorem dX11_lost_138 : decode cX11_lost 138 = .ok (.if_icmp .ge 81, 3) := by decide +kernel
theorem dX11_lost_141 : decode cX11_lost 141 = .ok (.aload_n 0, 1) := by decide +kernel
theorem dX11_lost_142 : decode cX11_lost 142 = .ok (.getfield 79, 3) := by decide +kernel
theorem dX11_lost_145 : decode cX11_lost 145 = .ok (.bipush 16, 2) := by decide +kernel
theorem dX11_lost_147 : decode cX11_lost 147 = .ok (.iload_n 1, 1) := by decide +kernel
theorem dX11_lost_148 : decode cX11_lost 148 = .ok (.imul, 1) := by decide +kernel
theorem dX11_lost_149 : decode cX11_lost 149 = .ok (.iload 8, 2) := by decide +kernel
theorem dX11_lost_151 : decode cX11_lost 151 = .ok (.iadd, 1) := by decide +kernel
theorem dX11_lost_152 : decode cX11_lost 152 = .ok (.baload, 1) := by decide +kernel
theorem dX11_lost_153 : decode cX11_lost 153 = .ok (.ifCond .eq 60, 3) := by decide +kernel
theorem dX11_lost_156 : decode cX11_lost 156 = .ok (.aload_n 0, 1) := by decide +kernel
theorem dX11_lost_157 : decode cX11_lost 157 = .ok (.iload_n 1, 1) := by decide +kernel
theorem dX11_lost_158 : decode cX11_lost 158 = .ok (.iload 8, 2) := by decide +kernel
theorem dX11_lost_160 : decode cX11_lost 160 = .ok (.iload 4, 2) := by decide +kernel
theorem dX11_lost_162 : decode cX11_lost 162 = .ok (.invokevirtual 262, 3) := by decide +kernel
theorem dX11_lost_165 : decode cX11_lost 165 = .ok (.ldc 245, 2) := by decide +kernel
theorem dX11_lost_167 : decode cX11_lost 167 = .ok (.if_icmp .eq 46, 3) := by decide +kernel
theorem dX11_lost_170 : decode cX11_lost 170 = .ok (.aload_n 0, 1) := by decide +kernel
theorem dX11_lost_171 : decode cX11_lost 171 = .ok (.iload_n 1, 1) := by decide +kernel
theorem dX11_lost_172 : decode cX11_lost 172 = .ok (.iload 8, 2) := by decide +kernel
theorem dX11_lost_174 : decode cX11_lost 174 = .ok (.iload 5, 2) := by decide +kernel
theorem dX11_lost_176 : decode cX11_lost 176 = .ok (.invokevirtual 262, 3) := by decide +kernel
theorem dX11_lost_179 : decode cX11_lost 179 = .ok (.ldc 245, 2) := by decide +kernel
theorem dX11_lost_181 : decode cX11_lost 181 = .ok (.if_icmp .ne 6, 3) := by decide +kernel
theorem dX11_lost_184 : decode cX11_lost 184 = .ok (.goto 29, 3) := by decide +kernel
theorem dX11_lost_187 : decode cX11_lost 187 = .ok (.iload 6, 2) := by decide +kernel
theorem dX11_lost_189 : decode cX11_lost 189 = .ok (.aload_n 0, 1) := by decide +kernel
theorem dX11_lost_190 : decode cX11_lost 190 = .ok (.iload_n 1, 1) := by decide +kernel
theorem dX11_lost_191 : decode cX11_lost 191 = .ok (.iload 8, 2) := by decide +kernel
theorem dX11_lost_193 : decode cX11_lost 193 = .ok (.iload 5, 2) := by decide +kernel
theorem dX11_lost_195 : decode cX11_lost 195 = .ok (.invokevirtual 262, 3) := by decide +kernel
theorem dX11_lost_198 : decode cX11_lost 198 = .ok (.aload_n 0, 1) := by decide +kernel
theorem dX11_lost_199 : decode cX11_lost 199 = .ok (.iload_n 1, 1) := by decide +kernel
theorem dX11_lost_200 : decode cX11_lost 200 = .ok (.iload 8, 2) := by decide +kernel
theorem dX11_lost_202 : decode cX11_lost 202 = .ok (.iload 4, 2) := by decide +kernel
theorem dX11_lost_204 : decode cX11_lost 204 = .ok (.invokevirtual 262, 3) := by decide +kernel
theorem dX11_lost_207 : decode cX11_lost 207 = .ok (.isub, 1) := by decide +kernel
theorem dX11_lost_208 : decode cX11_lost 208 = .ok (.invokestatic 265, 3) := by decide +kernel
theorem dX11_lost_211 : decode cX11_lost 211 = .ok (.istore 6, 2) := by decide +kernel
theorem dX11_lost_213 : decode cX11_lost 213 = .ok (.iinc 8 1, 3) := by decide +kernel
theorem dX11_lost_216 : decode cX11_lost 216 = .ok (.goto (-84), 3) := by decide +kernel
theorem dX11_lost_219 : decode cX11_lost 219 = .ok (.iload 7, 2) := by decide +kernel
theorem dX11_lost_221 : decode cX11_lost 221 = .ok (.iload 6, 2) := by decide +kernel
theorem dX11_lost_223 : decode cX11_lost 223 = .ok (.isub, 1) := by decide +kernel
theorem dX11_lost_224 : decode cX11_lost 224 = .ok (.istore 8, 2) := by decide +kernel
theorem dX11_lost_226 : decode cX11_lost 226 = .ok (.iload 8, 2) := by decide +kernel
theorem dX11_lost_228 : decode cX11_lost 228 = .ok (.iload 5, 2) := by decide +kernel
theorem dX11_lost_230 : decode cX11_lost 230 = .ok (.iload 4, 2) := by decide +kernel
theorem dX11_lost_232 : decode cX11_lost 232 = .ok (.isub, 1) := by decide +kernel
theorem dX11_lost_233 : decode cX11_lost 233 = .ok (.idiv, 1) := by decide +kernel
theorem dX11_lost_234 : decode cX11_lost 234 = .ok (.iload_n 3, 1) := by decide +kernel
theorem dX11_lost_235 : decode cX11_lost 235 = .ok (.iload 4, 2) := by decide +kernel
theorem dX11_lost_237 : decode cX11_lost 237 = .ok (.isub, 1) := by decide +kernel
theorem dX11_lost_238 : decode cX11_lost 238 = .ok (.iload 8, 2) := by decide +kernel
theorem dX11_lost_240 : decode cX11_lost 240 = .ok (.iload 5, 2) := by decide +kernel
theorem dX11_lost_242 : decode cX11_lost 242 = .ok (.iload 4, 2) := by decide +kernel
theorem dX11_lost_244 : decode cX11_lost 244 = .ok (.isub, 1) := by decide +kernel
theorem dX11_lost_245 : decode cX11_lost 245 = .ok (.irem, 1) := by decide +kernel
theorem dX11_lost_246 : decode cX11_lost 246 = .ok (.if_icmp .ge 7, 3) := by decide +kernel
theorem dX11_lost_249 : decode cX11_lost 249 = .ok (.iconst 1, 1) := by decide +kernel
theorem dX11_lost_250 : decode cX11_lost 250 = .ok (.goto 4, 3) := by decide +kernel
theorem dX11_lost_253 : decode cX11_lost 253 = .ok (.iconst 0, 1) := by decide +kernel
theorem dX11_lost_254 : decode cX11_lost 254 = .ok (.iadd, 1) := by decide +kernel
theorem dX11_lost_255 : decode cX11_lost 255 = .ok (.ireturn, 1) := by decide +kernel
theorem dX11_pointsOf_0 : decode cX11_pointsOf 0 = .ok (.iload_n 0, 1) := by decide +kernel
theorem dX11_pointsOf_1 : decode cX11_pointsOf 1 = .ok (.iconst 1, 1) := by decide +kernel
theorem dX11_pointsOf_2 : decode cX11_pointsOf 2 = .ok (.if_icmp .ne 8, 3) := by decide +kernel
theorem dX11_pointsOf_5 : decode cX11_pointsOf 5 = .ok (.bipush 25, 2) := by decide +kernel
theorem dX11_pointsOf_7 : decode cX11_pointsOf 7 = .ok (.goto 57, 3) := by decide +kernel
theorem dX11_pointsOf_10 : decode cX11_pointsOf 10 = .ok (.iload_n 0, 1) := by decide +kernel
theorem dX11_pointsOf_11 : decode cX11_pointsOf 11 = .ok (.iconst 2, 1) := by decide +kernel
theorem dX11_pointsOf_12 : decode cX11_pointsOf 12 = .ok (.if_icmp .ne 8, 3) := by decide +kernel
theorem dX11_pointsOf_15 : decode cX11_pointsOf 15 = .ok (.bipush 20, 2) := by decide +kernel
theorem dX11_pointsOf_17 : decode cX11_pointsOf 17 = .ok (.goto 47, 3) := by decide +kernel
theorem dX11_pointsOf_20 : decode cX11_pointsOf 20 = .ok (.iload_n 0, 1) := by decide +kernel
theorem dX11_pointsOf_21 : decode cX11_pointsOf 21 = .ok (.iconst 3, 1) := by decide +kernel
theorem dX11_pointsOf_22 : decode cX11_pointsOf 22 = .ok (.if_icmp .ne 8, 3) := by decide +kernel
theorem dX11_pointsOf_25 : decode cX11_pointsOf 25 = .ok (.bipush 16, 2) := by decide +kernel
theorem dX11_pointsOf_27 : decode cX11_pointsOf 27 = .ok (.goto 37, 3) := by decide +kernel
theorem dX11_pointsOf_30 : decode cX11_pointsOf 30 = .ok (.iload_n 0, 1) := by decide +kernel
theorem dX11_pointsOf_31 : decode cX11_pointsOf 31 = .ok (.iconst 4, 1) := by decide +kernel
theorem dX11_pointsOf_32 : decode cX11_pointsOf 32 = .ok (.if_icmp .ne 8, 3) := by decide +kernel
theorem dX11_pointsOf_35 : decode cX11_pointsOf 35 = .ok (.bipush 13, 2) := by decide +kernel
theorem dX11_pointsOf_37 : decode cX11_pointsOf 37 = .ok (.goto 27, 3) := by decide +kernel
theorem dX11_pointsOf_40 : decode cX11_pointsOf 40 = .ok (.iload_n 0, 1) := by decide +kernel
theorem dX11_pointsOf_41 : decode cX11_pointsOf 41 = .ok (.iconst 5, 1) := by decide +kernel
theorem dX11_pointsOf_42 : decode cX11_pointsOf 42 = .ok (.if_icmp .ne 8, 3) := by decide +kernel
theorem dX11_pointsOf_45 : decode cX11_pointsOf 45 = .ok (.bipush 11, 2) := by decide +kernel
theorem dX11_pointsOf_47 : decode cX11_pointsOf 47 = .ok (.goto 17, 3) := by decide +kernel
theorem dX11_pointsOf_50 : decode cX11_pointsOf 50 = .ok (.iload_n 0, 1) := by decide +kernel
theorem dX11_pointsOf_51 : decode cX11_pointsOf 51 = .ok (.bipush 15, 2) := by decide +kernel
theorem dX11_pointsOf_53 : decode cX11_pointsOf 53 = .ok (.if_icmp .le 7, 3) := by decide +kernel
theorem dX11_pointsOf_56 : decode cX11_pointsOf 56 = .ok (.iconst 0, 1) := by decide +kernel
theorem dX11_pointsOf_57 : decode cX11_pointsOf 57 = .ok (.goto 7, 3) := by decide +kernel
theorem dX11_pointsOf_60 : decode cX11_pointsOf 60 = .ok (.bipush 16, 2) := by decide +kernel
theorem dX11_pointsOf_62 : decode cX11_pointsOf 62 = .ok (.iload_n 0, 1) := by decide +kernel
theorem dX11_pointsOf_63 : decode cX11_pointsOf 63 = .ok (.isub, 1) := by decide +kernel
theorem dX11_pointsOf_64 : decode cX11_pointsOf 64 = .ok (.ireturn, 1) := by decide +kernel
theorem dX11_close_0 : decode cX11_close 0 = .ok (.aload_n 0, 1) := by decide +kernel
theorem dX11_close_1 : decode cX11_close 1 = .ok (.iconst 0, 1) := by decide +kernel
theorem dX11_close_2 : decode cX11_close 2 = .ok (.putfield 106, 3) := by decide +kernel
theorem dX11_close_5 : decode cX11_close 5 = .ok (.iconst 0, 1) := by decide +kernel
theorem dX11_close_6 : decode cX11_close 6 = .ok (.istore_n 1, 1) := by decide +kernel
theorem dX11_close_7 : decode cX11_close 7 = .ok (.iconst 0, 1) := by decide +kernel
theorem dX11_close_8 : decode cX11_close 8 = .ok (.istore_n 2, 1) := by decide +kernel
theorem dX11_close_9 : decode cX11_close 9 = .ok (.iload_n 2, 1) := by decide +kernel
theorem dX11_close_10 : decode cX11_close 10 = .ok (.aload_n 0, 1) := by decide +kernel
theorem dX11_close_11 : decode cX11_close 11 = .ok (.getfield 212, 3) := by decide +kernel
theorem dX11_close_14 : decode cX11_close 14 = .ok (.if_icmp .ge 29, 3) := by decide +kernel
theorem dX11_close_17 : decode cX11_close 17 = .ok (.iload_n 1, 1) := by decide +kernel
theorem dX11_close_18 : decode cX11_close 18 = .ok (.ifCond .ne 13, 3) := by decide +kernel
theorem dX11_close_21 : decode cX11_close 21 = .ok (.aload_n 0, 1) := by decide +kernel
theorem dX11_close_22 : decode cX11_close 22 = .ok (.getfield 69, 3) := by decide +kernel
theorem dX11_close_25 : decode cX11_close 25 = .ok (.iload_n 2, 1) := by decide +kernel
theorem dX11_close_26 : decode cX11_close 26 = .ok (.iaload, 1) := by decide +kernel
theorem dX11_close_27 : decode cX11_close 27 = .ok (.iconst 2, 1) := by decide +kernel
theorem dX11_close_28 : decode cX11_close 28 = .ok (.if_icmp .ne 7, 3) := by decide +kernel
theorem dX11_close_31 : decode cX11_close 31 = .ok (.iconst 1, 1) := by decide +kernel
theorem dX11_close_32 : decode cX11_close 32 = .ok (.goto 4, 3) := by decide +kernel
theorem dX11_close_35 : decode cX11_close 35 = .ok (.iconst 0, 1) := by decide +kernel
theorem dX11_close_36 : decode cX11_close 36 = .ok (.istore_n 1, 1) := by decide +kernel
theorem dX11_close_37 : decode cX11_close 37 = .ok (.iinc 2 1, 3) := by decide +kernel
theorem dX11_close_40 : decode cX11_close 40 = .ok (.goto (-31), 3) := by decide +kernel
theorem dX11_close_43 : decode cX11_close 43 = .ok (.aload_n 0, 1) := by decide +kernel
theorem dX11_close_44 : decode cX11_close 44 = .ok (.getfield 113, 3) := by decide +kernel
theorem dX11_close_47 : decode cX11_close 47 = .ok (.ifCond .eq 14, 3) := by decide +kernel
theorem dX11_close_50 : decode cX11_close 50 = .ok (.aload_n 0, 1) := by decide +kernel
theorem dX11_close_51 : decode cX11_close 51 = .ok (.invokevirtual 127, 3) := by decide +kernel
theorem dX11_close_54 : decode cX11_close 54 = .ok (.ifCond .ne 7, 3) := by decide +kernel
theorem dX11_close_57 : decode cX11_close 57 = .ok (.iload_n 1, 1) := by decide +kernel
theorem dX11_close_58 : decode cX11_close 58 = .ok (.ifCond .ne 5, 3) := by decide +kernel
theorem dX11_close_61 : decode cX11_close 61 = .ok (.iconst (-1), 1) := by decide +kernel
theorem dX11_close_62 : decode cX11_close 62 = .ok (.ireturn, 1) := by decide +kernel
theorem dX11_close_63 : decode cX11_close 63 = .ok (.iconst 0, 1) := by decide +kernel
theorem dX11_close_64 : decode cX11_close 64 = .ok (.istore_n 2, 1) := by decide +kernel
theorem dX11_close_65 : decode cX11_close 65 = .ok (.iconst 0, 1) := by decide +kernel
theorem dX11_close_66 : decode cX11_close 66 = .ok (.istore_n 3, 1) := by decide +kernel
theorem dX11_close_67 : decode cX11_close 67 = .ok (.iload_n 3, 1) := by decide +kernel
theorem dX11_close_68 : decode cX11_close 68 = .ok (.aload_n 0, 1) := by decide +kernel
theorem dX11_close_69 : decode cX11_close 69 = .ok (.getfield 139, 3) := by decide +kernel
theorem dX11_close_72 : decode cX11_close 72 = .ok (.if_icmp .ge 143, 3) := by decide +kernel
theorem dX11_close_75 : decode cX11_close 75 = .ok (.aload_n 0, 1) := by decide +kernel
theorem dX11_close_76 : decode cX11_close 76 = .ok (.iload_n 3, 1) := by decide +kernel
theorem dX11_close_77 : decode cX11_close 77 = .ok (.aload_n 0, 1) := by decide +kernel
theorem dX11_close_78 : decode cX11_close 78 = .ok (.getfield 223, 3) := by decide +kernel
theorem dX11_close_81 : decode cX11_close 81 = .ok (.invokevirtual 226, 3) := by decide +kernel
theorem dX11_close_84 : decode cX11_close 84 = .ok (.istore 4, 2) := by decide +kernel
theorem dX11_close_86 : decode cX11_close 86 = .ok (.iload 4, 2) := by decide +kernel
theorem dX11_close_88 : decode cX11_close 88 = .ok (.iconst (-1), 1) := by decide +kernel
theorem dX11_close_89 : decode cX11_close 89 = .ok (.if_icmp .ne 6, 3) := by decide +kernel
theorem dX11_close_92 : decode cX11_close 92 = .ok (.goto 117, 3) := by decide +kernel
theorem dX11_close_95 : decode cX11_close 95 = .ok (.iinc 2 1, 3) := by decide +kernel
theorem dX11_close_98 : decode cX11_close 98 = .ok (.iconst 0, 1) := by decide +kernel
theorem dX11_close_99 : decode cX11_close 99 = .ok (.istore 5, 2) := by decide +kernel
theorem dX11_close_101 : decode cX11_close 101 = .ok (.iconst 0, 1) := by decide +kernel
theorem dX11_close_102 : decode cX11_close 102 = .ok (.istore 6, 2) := by decide +kernel
theorem dX11_close_104 : decode cX11_close 104 = .ok (.iload 6, 2) := by decide +kernel
theorem dX11_close_106 : decode cX11_close 106 = .ok (.aload_n 0, 1) := by decide +kernel
theorem dX11_close_107 : decode cX11_close 107 = .ok (.getfield 139, 3) := by decide +kernel
theorem dX11_close_110 : decode cX11_close 110 = .ok (.if_icmp .ge 34, 3) := by decide +kernel
theorem dX11_close_113 : decode cX11_close 113 = .ok (.iload 5, 2) := by decide +kernel
theorem dX11_close_115 : decode cX11_close 115 = .ok (.aload_n 0, 1) := by decide +kernel
theorem dX11_close_116 : decode cX11_close 116 = .ok (.iload 6, 2) := by decide +kernel
theorem dX11_close_118 : decode cX11_close 118 = .ok (.aload_n 0, 1) := by decide +kernel
theorem dX11_close_119 : decode cX11_close 119 = .ok (.getfield 223, 3) := by decide +kernel
theorem dX11_close_122 : decode cX11_close 122 = .ok (.invokevirtual 226, 3) := by decide +kernel
theorem dX11_close_125 : decode cX11_close 125 = .ok (.iload 4, 2) := by decide +kernel
theorem dX11_close_127 : decode cX11_close 127 = .ok (.if_icmp .ne 7, 3) := by decide +kernel
theorem dX11_close_130 : decode cX11_close 130 = .ok (.iconst 1, 1) := by decide +kernel
theorem dX11_close_131 : decode cX11_close 131 = .ok (.goto 4, 3) := by decide +kernel
theorem dX11_close_134 : decode cX11_close 134 = .ok (.iconst 0, 1) := by decide +kernel
theorem dX11_close_135 : decode cX11_close 135 = .ok (.iadd, 1) := by decide +kernel
theorem dX11_close_136 : decode cX11_close 136 = .ok (.istore 5, 2) := by decide +kernel
theorem dX11_close_138 : decode cX11_close 138 = .ok (.iinc 6 1, 3) := by decide +kernel
theorem dX11_close_141 : decode cX11_close 141 = .ok (.goto (-37), 3) := by decide +kernel
theorem dX11_close_144 : decode cX11_close 144 = .ok (.iconst 0, 1) := by decide +kernel
theorem dX11_close_145 : decode cX11_close 145 = .ok (.istore 6, 2) := by decide +kernel
theorem dX11_close_147 : decode cX11_close 147 = .ok (.iload 4, 2) := by decide +kernel
theorem dX11_close_149 : decode cX11_close 149 = .ok (.istore 7, 2) := by decide +kernel
theorem dX11_close_151 : decode cX11_close 151 = .ok (.iload 7, 2) := by decide +kernel
theorem dX11_close_153 : decode cX11_close 153 = .ok (.iload 4, 2) := by decide +kernel
theorem dX11_close_155 : decode cX11_close 155 = .ok (.iload 5, 2) := by decide +kernel
theorem dX11_close_157 : decode cX11_close 157 = .ok (.iadd, 1) := by decide +kernel
theorem dX11_close_158 : decode cX11_close 158 = .ok (.if_icmp .ge 19, 3) := by decide +kernel
theorem dX11_close_161 : decode cX11_close 161 = .ok (.iload 6, 2) := by decide +kernel
theorem dX11_close_163 : decode cX11_close 163 = .ok (.iload 7, 2) := by decide +kernel
theorem dX11_close_165 : decode cX11_close 165 = .ok (.invokestatic 270, 3) := by decide +kernel
theorem dX11_close_168 : decode cX11_close 168 = .ok (.iadd, 1) := by decide +kernel
theorem dX11_close_169 : decode cX11_close 169 = .ok (.istore 6, 2) := by decide +kernel
theorem dX11_close_171 : decode cX11_close 171 = .ok (.iinc 7 1, 3) := by decide +kernel
theorem dX11_close_174 : decode cX11_close 174 = .ok (.goto (-23), 3) := by decide +kernel
theorem dX11_close_177 : decode cX11_close 177 = .ok (.aload_n 0, 1) := by decide +kernel
theorem dX11_close_178 : decode cX11_close 178 = .ok (.getfield 52, 3) := by decide +kernel
theorem dX11_close_181 : decode cX11_close 181 = .ok (.iload_n 3, 1) := by decide +kernel
theorem dX11_close_182 : decode cX11_close 182 = .ok (.dup2, 1) := by decide +kernel
theorem dX11_close_183 : decode cX11_close 183 = .ok (.iaload, 1) := by decide +kernel
theorem dX11_close_184 : decode cX11_close 184 = .ok (.aload_n 0, 1) := by decide +kernel
theorem dX11_close_185 : decode cX11_close 185 = .ok (.getfield 55, 3) := by decide +kernel
theorem dX11_close_188 : decode cX11_close 188 = .ok (.iconst 5, 1) := by decide +kernel
theorem dX11_close_189 : decode cX11_close 189 = .ok (.iaload, 1) := by decide +kernel
theorem dX11_close_190 : decode cX11_close 190 = .ok (.iconst 1, 1) := by decide +kernel
theorem dX11_close_191 : decode cX11_close 191 = .ok (.if_icmp .ne 11, 3) := by decide +kernel
theorem dX11_close_194 : decode cX11_close 194 = .ok (.iload 6, 2) := by decide +kernel
theorem dX11_close_196 : decode cX11_close 196 = .ok (.iload 5, 2) := by decide +kernel
theorem dX11_close_198 : decode cX11_close 198 = .ok (.idiv, 1) := by decide +kernel
theorem dX11_close_199 : decode cX11_close 199 = .ok (.goto 8, 3) := by decide +kernel
theorem dX11_close_202 : decode cX11_close 202 = .ok (.iload 4, 2) := by decide +kernel
theorem dX11_close_204 : decode cX11_close 204 = .ok (.invokestatic 270, 3) := by decide +kernel
theorem dX11_close_207 : decode cX11_close 207 = .ok (.iadd, 1) := by decide +kernel
theorem dX11_close_208 : decode cX11_close 208 = .ok (.iastore, 1) := by decide +kernel
theorem dX11_close_209 : decode cX11_close 209 = .ok (.iinc 3 1, 3) := by decide +kernel
theorem dX11_close_212 : decode cX11_close 212 = .ok (.goto (-145), 3) := by decide +kernel
theorem dX11_close_215 : decode cX11_close 215 = .ok (.aload_n 0, 1) := by decide +kernel
theorem dX11_close_216 : decode cX11_close 216 = .ok (.iconst 0, 1) := by decide +kernel
theorem dX11_close_217 : decode cX11_close 217 = .ok (.putfield 113, 3) := by decide +kernel
theorem dX11_close_220 : decode cX11_close 220 = .ok (.aload_n 0, 1) := by decide +kernel
theorem dX11_close_221 : decode cX11_close 221 = .ok (.invokevirtual 214, 3) := by decide +kernel
theorem dX11_close_224 : decode cX11_close 224 = .ok (.aload_n 0, 1) := by decide +kernel
theorem dX11_close_225 : decode cX11_close 225 = .ok (.dup, 1) := by decide +kernel
theorem dX11_close_226 : decode cX11_close 226 = .ok (.getfield 273, 3) := by decide +kernel
theorem dX11_close_229 : decode cX11_close 229 = .ok (.iconst 1, 1) := by decide +kernel
theorem dX11_close_230 : decode cX11_close 230 = .ok (.iadd, 1) := by decide +kernel
theorem dX11_close_231 : decode cX11_close 231 = .ok (.putfield 273, 3) := by decide +kernel
theorem dX11_close_234 : decode cX11_close 234 = .ok (.iload_n 2, 1) := by decide +kernel
theorem dX11_close_235 : decode cX11_close 235 = .ok (.ireturn, 1) := by decide +kernel
theorem dX11_points_0 : decode cX11_points 0 = .ok (.aload_n 0, 1) := by decide +kernel
theorem dX11_points_1 : decode cX11_points 1 = .ok (.iconst 0, 1) := by decide +kernel
theorem dX11_points_2 : decode cX11_points 2 = .ok (.putfield 106, 3) := by decide +kernel
theorem dX11_points_5 : decode cX11_points 5 = .ok (.iload_n 1, 1) := by decide +kernel
theorem dX11_points_6 : decode cX11_points 6 = .ok (.ifCond .ne 28, 3) := by decide +kernel
theorem dX11_points_9 : decode cX11_points 9 = .ok (.iload_n 2, 1) := by decide +kernel
theorem dX11_points_10 : decode cX11_points 10 = .ok (.iconst 0, 1) := by decide +kernel
theorem dX11_points_11 : decode cX11_points 11 = .ok (.aload_n 0, 1) := by decide +kernel
theorem dX11_points_12 : decode cX11_points 12 = .ok (.getfield 139, 3) := by decide +kernel
theorem dX11_points_15 : decode cX11_points 15 = .ok (.iconst 1, 1) := by decide +kernel
theorem dX11_points_16 : decode cX11_points 16 = .ok (.isub, 1) := by decide +kernel
theorem dX11_points_17 : decode cX11_points 17 = .ok (.invokestatic 109, 3) := by decide +kernel
theorem dX11_points_20 : decode cX11_points 20 = .ok (.ifCond .eq 12, 3) := by decide +kernel
theorem dX11_points_23 : decode cX11_points 23 = .ok (.aload_n 0, 1) := by decide +kernel
theorem dX11_points_24 : decode cX11_points 24 = .ok (.getfield 52, 3) := by decide +kernel
theorem dX11_points_27 : decode cX11_points 27 = .ok (.iload_n 2, 1) := by decide +kernel
theorem dX11_points_28 : decode cX11_points 28 = .ok (.iaload, 1) := by decide +kernel
theorem dX11_points_29 : decode cX11_points 29 = .ok (.goto 4, 3) := by decide +kernel
theorem dX11_points_32 : decode cX11_points 32 = .ok (.iconst (-1), 1) := by decide +kernel
theorem dX11_points_33 : decode cX11_points 33 = .ok (.ireturn, 1) := by decide +kernel
theorem dX11_points_34 : decode cX11_points 34 = .ok (.iload_n 1, 1) := by decide +kernel
theorem dX11_points_35 : decode cX11_points 35 = .ok (.iconst 1, 1) := by decide +kernel
theorem dX11_points_36 : decode cX11_points 36 = .ok (.if_icmp .ne 12, 3) := by decide +kernel
theorem dX11_points_39 : decode cX11_points 39 = .ok (.iload_n 2, 1) := by decide +kernel
theorem dX11_points_40 : decode cX11_points 40 = .ok (.iconst 0, 1) := by decide +kernel
theorem dX11_points_41 : decode cX11_points 41 = .ok (.iconst 3, 1) := by decide +kernel
theorem dX11_points_42 : decode cX11_points 42 = .ok (.invokestatic 109, 3) := by decide +kernel
theorem dX11_points_45 : decode cX11_points 45 = .ok (.ifCond .ne 5, 3) := by decide +kernel
theorem dX11_points_48 : decode cX11_points 48 = .ok (.iconst (-1), 1) := by decide +kernel
theorem dX11_points_49 : decode cX11_points 49 = .ok (.ireturn, 1) := by decide +kernel
theorem dX11_points_50 : decode cX11_points 50 = .ok (.iconst 0, 1) := by decide +kernel
theorem dX11_points_51 : decode cX11_points 51 = .ok (.istore_n 3, 1) := by decide +kernel
theorem dX11_points_52 : decode cX11_points 52 = .ok (.iconst 0, 1) := by decide +kernel
theorem dX11_points_53 : decode cX11_points 53 = .ok (.istore 4, 2) := by decide +kernel
theorem dX11_points_55 : decode cX11_points 55 = .ok (.iload 4, 2) := by decide +kernel
theorem dX11_points_57 : decode cX11_points 57 = .ok (.aload_n 0, 1) := by decide +kernel
theorem dX11_points_58 : decode cX11_points 58 = .ok (.getfield 139, 3) := by decide +kernel
theorem dX11_points_61 : decode cX11_points 61 = .ok (.if_icmp .ge 34, 3) := by decide +kernel
theorem dX11_points_64 : decode cX11_points 64 = .ok (.iload_n 3, 1) := by decide +kernel
theorem dX11_points_65 : decode cX11_points 65 = .ok (.aload_n 0, 1) := by decide +kernel
theorem dX11_points_66 : decode cX11_points 66 = .ok (.getfield 40, 3) := by decide +kernel
theorem dX11_points_69 : decode cX11_points 69 = .ok (.iload 4, 2) := by decide +kernel
theorem dX11_points_71 : decode cX11_points 71 = .ok (.iaload, 1) := by decide +kernel
theorem dX11_points_72 : decode cX11_points 72 = .ok (.iload_n 2, 1) := by decide +kernel
theorem dX11_points_73 : decode cX11_points 73 = .ok (.if_icmp .ne 13, 3) := by decide +kernel
theorem dX11_points_76 : decode cX11_points 76 = .ok (.aload_n 0, 1) := by decide +kernel
theorem dX11_points_77 : decode cX11_points 77 = .ok (.getfield 52, 3) := by decide +kernel
theorem dX11_points_80 : decode cX11_points 80 = .ok (.iload 4, 2) := by decide +kernel
theorem dX11_points_82 : decode cX11_points 82 = .ok (.iaload, 1) := by decide +kernel
theorem dX11_points_83 : decode cX11_points 83 = .ok (.goto 4, 3) := by decide +kernel
theorem dX11_points_86 : decode cX11_points 86 = .ok (.iconst 0, 1) := by decide +kernel
theorem dX11_points_87 : decode cX11_points 87 = .ok (.iadd, 1) := by decide +kernel
theorem dX11_points_88 : decode cX11_points 88 = .ok (.istore_n 3, 1) := by decide +kernel
theorem dX11_points_89 : decode cX11_points 89 = .ok (.iinc 4 1, 3) := by decide +kernel
theorem dX11_points_92 : decode cX11_points 92 = .ok (.goto (-37), 3) := by decide +kernel
theorem dX11_points_95 : decode cX11_points 95 = .ok (.iload_n 3, 1) := by decide +kernel
theorem dX11_points_96 : decode cX11_points 96 = .ok (.ireturn, 1) := by decide +kernel
theorem dX11_count_0 : decode cX11_count 0 = .ok (.aload_n 0, 1) := by decide +kernel
theorem dX11_count_1 : decode cX11_count 1 = .ok (.iconst 0, 1) := by decide +kernel
theorem dX11_count_2 : decode cX11_count 2 = .ok (.putfield 106, 3) := by decide +kernel
theorem dX11_count_5 : decode cX11_count 5 = .ok (.iconst 0, 1) := by decide +kernel
theorem dX11_count_6 : decode cX11_count 6 = .ok (.istore_n 2, 1) := by decide +kernel
theorem dX11_count_7 : decode cX11_count 7 = .ok (.iload_n 1, 1) := by decide +kernel
theorem dX11_count_8 : decode cX11_count 8 = .ok (.tableswitch 208 0 10 #[60, 65, 70, 75, 80, 93, 129, 147, 163, 168, 173], 60) := by decide +kernel
theorem dX11_count_68 : decode cX11_count 68 = .ok (.aload_n 0, 1) := by decide +kernel
theorem dX11_count_69 : decode cX11_count 69 = .ok (.getfield 117, 3) := by decide +kernel
theorem dX11_count_72 : decode cX11_count 72 = .ok (.ireturn, 1) := by decide +kernel
theorem dX11_count_73 : decode cX11_count 73 = .ok (.aload_n 0, 1) := by decide +kernel
theorem dX11_count_74 : decode cX11_count 74 = .ok (.getfield 120, 3) := by decide +kernel
theorem dX11_count_77 : decode cX11_count 77 = .ok (.ireturn, 1) := by decide +kernel
theorem dX11_count_78 : decode cX11_count 78 = .ok (.aload_n 0, 1) := by decide +kernel
theorem dX11_count_79 : decode cX11_count 79 = .ok (.getfield 139, 3) := by decide +kernel
theorem dX11_count_82 : decode cX11_count 82 = .ok (.ireturn, 1) := by decide +kernel
theorem dX11_count_83 : decode cX11_count 83 = .ok (.aload_n 0, 1) := by decide +kernel
theorem dX11_count_84 : decode cX11_count 84 = .ok (.getfield 146, 3) := by decide +kernel
theorem dX11_count_87 : decode cX11_count 87 = .ok (.ireturn, 1) := by decide +kernel
theorem dX11_count_88 : decode cX11_count 88 = .ok (.aload_n 0, 1) := by decide +kernel
theorem dX11_count_89 : decode cX11_count 89 = .ok (.getfield 113, 3) := by decide +kernel
theorem dX11_count_92 : decode cX11_count 92 = .ok (.ifCond .eq 7, 3) := by decide +kernel
theorem dX11_count_95 : decode cX11_count 95 = .ok (.iconst 1, 1) := by decide +kernel
theorem dX11_count_96 : decode cX11_count 96 = .ok (.goto 4, 3) := by decide +kernel
theorem dX11_count_99 : decode cX11_count 99 = .ok (.iconst 0, 1) := by decide +kernel
theorem dX11_count_100 : decode cX11_count 100 = .ok (.ireturn, 1) := by decide +kernel
theorem dX11_count_101 : decode cX11_count 101 = .ok (.iconst 0, 1) := by decide +kernel
theorem dX11_count_102 : decode cX11_count 102 = .ok (.istore_n 3, 1) := by decide +kernel
theorem dX11_count_103 : decode cX11_count 103 = .ok (.iload_n 3, 1) := by decide +kernel
theorem dX11_count_104 : decode cX11_count 104 = .ok (.aload_n 0, 1) := by decide +kernel
theorem dX11_count_105 : decode cX11_count 105 = .ok (.getfield 212, 3) := by decide +kernel
theorem dX11_count_108 : decode cX11_count 108 = .ok (.if_icmp .ge 27, 3) := by decide +kernel
theorem dX11_count_111 : decode cX11_count 111 = .ok (.iload_n 2, 1) := by decide +kernel
theorem dX11_count_112 : decode cX11_count 112 = .ok (.aload_n 0, 1) := by decide +kernel
theorem dX11_count_113 : decode cX11_count 113 = .ok (.getfield 69, 3) := by decide +kernel
theorem dX11_count_116 : decode cX11_count 116 = .ok (.iload_n 3, 1) := by decide +kernel
theorem dX11_count_117 : decode cX11_count 117 = .ok (.iaload, 1) := by decide +kernel
theorem dX11_count_118 : decode cX11_count 118 = .ok (.iconst 2, 1) := by decide +kernel
theorem dX11_count_119 : decode cX11_count 119 = .ok (.if_icmp .ne 7, 3) := by decide +kernel
theorem dX11_count_122 : decode cX11_count 122 = .ok (.iconst 1, 1) := by decide +kernel
theorem dX11_count_123 : decode cX11_count 123 = .ok (.goto 4, 3) := by decide +kernel
theorem dX11_count_126 : decode cX11_count 126 = .ok (.iconst 0, 1) := by decide +kernel
theorem dX11_count_127 : decode cX11_count 127 = .ok (.iadd, 1) := by decide +kernel
theorem dX11_count_128 : decode cX11_count 128 = .ok (.istore_n 2, 1) := by decide +kernel
theorem dX11_count_129 : decode cX11_count 129 = .ok (.iinc 3 1, 3) := by decide +kernel
theorem dX11_count_132 : decode cX11_count 132 = .ok (.goto (-29), 3) := by decide +kernel
theorem dX11_count_135 : decode cX11_count 135 = .ok (.iload_n 2, 1) := by decide +kernel
theorem dX11_count_136 : decode cX11_count 136 = .ok (.ireturn, 1) := by decide +kernel
theorem dX11_count_137 : decode cX11_count 137 = .ok (.aload_n 0, 1) := by decide +kernel
theorem dX11_count_138 : decode cX11_count 138 = .ok (.invokevirtual 127, 3) := by decide +kernel
theorem dX11_count_141 : decode cX11_count 141 = .ok (.ifCond .eq 12, 3) := by decide +kernel
theorem dX11_count_144 : decode cX11_count 144 = .ok (.aload_n 0, 1) := by decide +kernel
theorem dX11_count_145 : decode cX11_count 145 = .ok (.getfield 212, 3) := by decide +kernel
theorem dX11_count_148 : decode cX11_count 148 = .ok (.iconst 1, 1) := by decide +kernel
theorem dX11_count_149 : decode cX11_count 149 = .ok (.isub, 1) := by decide +kernel
theorem dX11_count_150 : decode cX11_count 150 = .ok (.goto 4, 3) := by decide +kernel
theorem dX11_count_153 : decode cX11_count 153 = .ok (.iconst (-1), 1) := by decide +kernel
theorem dX11_count_154 : decode cX11_count 154 = .ok (.ireturn, 1) := by decide +kernel
theorem dX11_count_155 : decode cX11_count 155 = .ok (.aload_n 0, 1) := by decide +kernel
theorem dX11_count_156 : decode cX11_count 156 = .ok (.invokevirtual 127, 3) := by decide +kernel
theorem dX11_count_159 : decode cX11_count 159 = .ok (.ifCond .eq 10, 3) := by decide +kernel
theorem dX11_count_162 : decode cX11_count 162 = .ok (.aload_n 0, 1) := by decide +kernel
theorem dX11_count_163 : decode cX11_count 163 = .ok (.getfield 220, 3) := by decide +kernel
theorem dX11_count_166 : decode cX11_count 166 = .ok (.goto 4, 3) := by decide +kernel
theorem dX11_count_169 : decode cX11_count 169 = .ok (.iconst 0, 1) := by decide +kernel
theorem dX11_count_170 : decode cX11_count 170 = .ok (.ireturn, 1) := by decide +kernel
theorem dX11_count_171 : decode cX11_count 171 = .ok (.aload_n 0, 1) := by decide +kernel
theorem dX11_count_172 : decode cX11_count 172 = .ok (.getfield 223, 3) := by decide +kernel
theorem dX11_count_175 : decode cX11_count 175 = .ok (.ireturn, 1) := by decide +kernel
theorem dX11_count_176 : decode cX11_count 176 = .ok (.aload_n 0, 1) := by decide +kernel
theorem dX11_count_177 : decode cX11_count 177 = .ok (.getfield 273, 3) := by decide +kernel
theorem dX11_count_180 : decode cX11_count 180 = .ok (.ireturn, 1) := by decide +kernel
theorem dX11_count_181 : decode cX11_count 181 = .ok (.iconst 0, 1) := by decide +kernel
theorem dX11_count_182 : decode cX11_count 182 = .ok (.istore_n 3, 1) := by decide +kernel
theorem dX11_count_183 : decode cX11_count 183 = .ok (.iload_n 3, 1) := by decide +kernel
theorem dX11_count_184 : decode cX11_count 184 = .ok (.aload_n 0, 1) := by decide +kernel
theorem dX11_count_185 : decode cX11_count 185 = .ok (.getfield 139, 3) := by decide +kernel
theorem dX11_count_188 : decode cX11_count 188 = .ok (.if_icmp .ge 26, 3) := by decide +kernel
theorem dX11_count_191 : decode cX11_count 191 = .ok (.iload_n 2, 1) := by decide +kernel
theorem dX11_count_192 : decode cX11_count 192 = .ok (.aload_n 0, 1) := by decide +kernel
theorem dX11_count_193 : decode cX11_count 193 = .ok (.getfield 75, 3) := by decide +kernel
theorem dX11_count_196 : decode cX11_count 196 = .ok (.iload_n 3, 1) := by decide +kernel
theorem dX11_count_197 : decode cX11_count 197 = .ok (.baload, 1) := by decide +kernel
theorem dX11_count_198 : decode cX11_count 198 = .ok (.ifCond .eq 7, 3) := by decide +kernel
theorem dX11_count_201 : decode cX11_count 201 = .ok (.iconst 1, 1) := by decide +kernel
theorem dX11_count_202 : decode cX11_count 202 = .ok (.goto 4, 3) := by decide +kernel
theorem dX11_count_205 : decode cX11_count 205 = .ok (.iconst 0, 1) := by decide +kernel
theorem dX11_count_206 : decode cX11_count 206 = .ok (.iadd, 1) := by decide +kernel
theorem dX11_count_207 : decode cX11_count 207 = .ok (.istore_n 2, 1) := by decide +kernel
theorem dX11_count_208 : decode cX11_count 208 = .ok (.iinc 3 1, 3) := by decide +kernel
theorem dX11_count_211 : decode cX11_count 211 = .ok (.goto (-28), 3) := by decide +kernel
theorem dX11_count_214 : decode cX11_count 214 = .ok (.iload_n 2, 1) := by decide +kernel
theorem dX11_count_215 : decode cX11_count 215 = .ok (.ireturn, 1) := by decide +kernel
theorem dX11_count_216 : decode cX11_count 216 = .ok (.iconst (-1), 1) := by decide +kernel
theorem dX11_count_217 : decode cX11_count 217 = .ok (.ireturn, 1) := by decide +kernel
