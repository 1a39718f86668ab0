theorem dL_below_0 : decode cL_below 0 = .ok (.iload_n 0, 1) := by decide +kernel
theorem dL_below_1 : decode cL_below 1 = .ok (.ldc 7, 2) := by decide +kernel
theorem dL_below_3 : decode cL_below 3 = .ok (.iand, 1) := by decide +kernel
theorem dL_below_4 : decode cL_below 4 = .ok (.iload_n 1, 1) := by decide +kernel
theorem dL_below_5 : decode cL_below 5 = .ok (.irem, 1) := by decide +kernel
theorem dL_below_6 : decode cL_below 6 = .ok (.ireturn, 1) := by decide +kernel
theorem dL_cell_0 : decode cL_cell 0 = .ok (.iload_n 1, 1) := by decide +kernel
theorem dL_cell_1 : decode cL_cell 1 = .ok (.aload_n 0, 1) := by decide +kernel
theorem dL_cell_2 : decode cL_cell 2 = .ok (.arraylength, 1) := by decide +kernel
theorem dL_cell_3 : decode cL_cell 3 = .ok (.if_icmp .ge 9, 3) := by decide +kernel
theorem dL_cell_6 : decode cL_cell 6 = .ok (.aload_n 0, 1) := by decide +kernel
theorem dL_cell_7 : decode cL_cell 7 = .ok (.iload_n 1, 1) := by decide +kernel
theorem dL_cell_8 : decode cL_cell 8 = .ok (.iaload, 1) := by decide +kernel
theorem dL_cell_9 : decode cL_cell 9 = .ok (.goto 9, 3) := by decide +kernel
theorem dL_cell_12 : decode cL_cell 12 = .ok (.ldc 8, 2) := by decide +kernel
theorem dL_cell_14 : decode cL_cell 14 = .ok (.iload_n 1, 1) := by decide +kernel
theorem dL_cell_15 : decode cL_cell 15 = .ok (.iconst 3, 1) := by decide +kernel
theorem dL_cell_16 : decode cL_cell 16 = .ok (.iadd, 1) := by decide +kernel
theorem dL_cell_17 : decode cL_cell 17 = .ok (.imul, 1) := by decide +kernel
theorem dL_cell_18 : decode cL_cell 18 = .ok (.ireturn, 1) := by decide +kernel
theorem dL_name_0 : decode cL_name 0 = .ok (.iload_n 1, 1) := by decide +kernel
theorem dL_name_1 : decode cL_name 1 = .ok (.iconst 4, 1) := by decide +kernel
theorem dL_name_2 : decode cL_name 2 = .ok (.invokestatic 9, 3) := by decide +kernel
theorem dL_name_5 : decode cL_name 5 = .ok (.tableswitch 65 0 2 #[27, 36, 45], 27) := by decide +kernel
theorem dL_name_32 : decode cL_name 32 = .ok (.iload_n 1, 1) := by decide +kernel
theorem dL_name_33 : decode cL_name 33 = .ok (.iconst 2, 1) := by decide +kernel
theorem dL_name_34 : decode cL_name 34 = .ok (.ishr, 1) := by decide +kernel
theorem dL_name_35 : decode cL_name 35 = .ok (.bipush 16, 2) := by decide +kernel
theorem dL_name_37 : decode cL_name 37 = .ok (.invokestatic 9, 3) := by decide +kernel
theorem dL_name_40 : decode cL_name 40 = .ok (.ireturn, 1) := by decide +kernel
theorem dL_name_41 : decode cL_name 41 = .ok (.iload_n 1, 1) := by decide +kernel
theorem dL_name_42 : decode cL_name 42 = .ok (.iconst 2, 1) := by decide +kernel
theorem dL_name_43 : decode cL_name 43 = .ok (.ishr, 1) := by decide +kernel
theorem dL_name_44 : decode cL_name 44 = .ok (.ldc 15, 2) := by decide +kernel
theorem dL_name_46 : decode cL_name 46 = .ok (.invokestatic 9, 3) := by decide +kernel
theorem dL_name_49 : decode cL_name 49 = .ok (.ireturn, 1) := by decide +kernel
theorem dL_name_50 : decode cL_name 50 = .ok (.iload_n 1, 1) := by decide +kernel
theorem dL_name_51 : decode cL_name 51 = .ok (.iconst 2, 1) := by decide +kernel
theorem dL_name_52 : decode cL_name 52 = .ok (.ishr, 1) := by decide +kernel
theorem dL_name_53 : decode cL_name 53 = .ok (.bipush 8, 2) := by decide +kernel
theorem dL_name_55 : decode cL_name 55 = .ok (.invokestatic 9, 3) := by decide +kernel
theorem dL_name_58 : decode cL_name 58 = .ok (.bipush 13, 2) := by decide +kernel
theorem dL_name_60 : decode cL_name 60 = .ok (.ishl, 1) := by decide +kernel
theorem dL_name_61 : decode cL_name 61 = .ok (.iload_n 1, 1) := by decide +kernel
theorem dL_name_62 : decode cL_name 62 = .ok (.iconst 5, 1) := by decide +kernel
theorem dL_name_63 : decode cL_name 63 = .ok (.ishr, 1) := by decide +kernel
theorem dL_name_64 : decode cL_name 64 = .ok (.iconst 4, 1) := by decide +kernel
theorem dL_name_65 : decode cL_name 65 = .ok (.invokestatic 9, 3) := by decide +kernel
theorem dL_name_68 : decode cL_name 68 = .ok (.iadd, 1) := by decide +kernel
theorem dL_name_69 : decode cL_name 69 = .ok (.ireturn, 1) := by decide +kernel
theorem dL_name_70 : decode cL_name 70 = .ok (.aload_n 0, 1) := by decide +kernel
theorem dL_name_71 : decode cL_name 71 = .ok (.getfield 16, 3) := by decide +kernel
theorem dL_name_74 : decode cL_name 74 = .ok (.iload_n 1, 1) := by decide +kernel
theorem dL_name_75 : decode cL_name 75 = .ok (.iconst 3, 1) := by decide +kernel
theorem dL_name_76 : decode cL_name 76 = .ok (.ishr, 1) := by decide +kernel
theorem dL_name_77 : decode cL_name 77 = .ok (.iconst 2, 1) := by decide +kernel
theorem dL_name_78 : decode cL_name 78 = .ok (.invokestatic 9, 3) := by decide +kernel
theorem dL_name_81 : decode cL_name 81 = .ok (.aaload, 1) := by decide +kernel
theorem dL_name_82 : decode cL_name 82 = .ok (.astore_n 2, 1) := by decide +kernel
theorem dL_name_83 : decode cL_name 83 = .ok (.aload_n 2, 1) := by decide +kernel
theorem dL_name_84 : decode cL_name 84 = .ok (.arraylength, 1) := by decide +kernel
theorem dL_name_85 : decode cL_name 85 = .ok (.ifCond .ne 13, 3) := by decide +kernel
theorem dL_name_88 : decode cL_name 88 = .ok (.iload_n 1, 1) := by decide +kernel
theorem dL_name_89 : decode cL_name 89 = .ok (.iconst 2, 1) := by decide +kernel
theorem dL_name_90 : decode cL_name 90 = .ok (.ishr, 1) := by decide +kernel
theorem dL_name_91 : decode cL_name 91 = .ok (.sipush 300, 3) := by decide +kernel
theorem dL_name_94 : decode cL_name 94 = .ok (.invokestatic 9, 3) := by decide +kernel
theorem dL_name_97 : decode cL_name 97 = .ok (.ireturn, 1) := by decide +kernel
theorem dL_name_98 : decode cL_name 98 = .ok (.aload_n 2, 1) := by decide +kernel
theorem dL_name_99 : decode cL_name 99 = .ok (.iload_n 1, 1) := by decide +kernel
theorem dL_name_100 : decode cL_name 100 = .ok (.iconst 4, 1) := by decide +kernel
theorem dL_name_101 : decode cL_name 101 = .ok (.ishr, 1) := by decide +kernel
theorem dL_name_102 : decode cL_name 102 = .ok (.aload_n 2, 1) := by decide +kernel
theorem dL_name_103 : decode cL_name 103 = .ok (.arraylength, 1) := by decide +kernel
theorem dL_name_104 : decode cL_name 104 = .ok (.invokestatic 9, 3) := by decide +kernel
theorem dL_name_107 : decode cL_name 107 = .ok (.iaload, 1) := by decide +kernel
theorem dL_name_108 : decode cL_name 108 = .ok (.iload_n 1, 1) := by decide +kernel
theorem dL_name_109 : decode cL_name 109 = .ok (.bipush 6, 2) := by decide +kernel
theorem dL_name_111 : decode cL_name 111 = .ok (.ishr, 1) := by decide +kernel
theorem dL_name_112 : decode cL_name 112 = .ok (.iconst 3, 1) := by decide +kernel
theorem dL_name_113 : decode cL_name 113 = .ok (.invokestatic 9, 3) := by decide +kernel
theorem dL_name_116 : decode cL_name 116 = .ok (.ifCond .ne 7, 3) := by decide +kernel
theorem dL_name_119 : decode cL_name 119 = .ok (.iconst 0, 1) := by decide +kernel
theorem dL_name_120 : decode cL_name 120 = .ok (.goto 13, 3) := by decide +kernel
theorem dL_name_123 : decode cL_name 123 = .ok (.iconst 1, 1) := by decide +kernel
theorem dL_name_124 : decode cL_name 124 = .ok (.iload_n 1, 1) := by decide +kernel
theorem dL_name_125 : decode cL_name 125 = .ok (.iconst 5, 1) := by decide +kernel
theorem dL_name_126 : decode cL_name 126 = .ok (.ishr, 1) := by decide +kernel
theorem dL_name_127 : decode cL_name 127 = .ok (.bipush 16, 2) := by decide +kernel
theorem dL_name_129 : decode cL_name 129 = .ok (.invokestatic 9, 3) := by decide +kernel
theorem dL_name_132 : decode cL_name 132 = .ok (.ishl, 1) := by decide +kernel
theorem dL_name_133 : decode cL_name 133 = .ok (.ixor, 1) := by decide +kernel
theorem dL_name_134 : decode cL_name 134 = .ok (.ireturn, 1) := by decide +kernel
theorem dL_act_0 : decode cL_act 0 = .ok (.iload_n 2, 1) := by decide +kernel
theorem dL_act_1 : decode cL_act 1 = .ok (.iconst 2, 1) := by decide +kernel
theorem dL_act_2 : decode cL_act 2 = .ok (.ishr, 1) := by decide +kernel
theorem dL_act_3 : decode cL_act 3 = .ok (.iconst 2, 1) := by decide +kernel
theorem dL_act_4 : decode cL_act 4 = .ok (.invokestatic 9, 3) := by decide +kernel
theorem dL_act_7 : decode cL_act 7 = .ok (.istore_n 3, 1) := by decide +kernel
theorem dL_act_8 : decode cL_act 8 = .ok (.aload_n 1, 1) := by decide +kernel
theorem dL_act_9 : decode cL_act 9 = .ok (.iload_n 2, 1) := by decide +kernel
theorem dL_act_10 : decode cL_act 10 = .ok (.iconst 3, 1) := by decide +kernel
theorem dL_act_11 : decode cL_act 11 = .ok (.ishr, 1) := by decide +kernel
theorem dL_act_12 : decode cL_act 12 = .ok (.invokestatic 22, 3) := by decide +kernel
theorem dL_act_15 : decode cL_act 15 = .ok (.istore 4, 2) := by decide +kernel
theorem dL_act_17 : decode cL_act 17 = .ok (.aload_n 1, 1) := by decide +kernel
theorem dL_act_18 : decode cL_act 18 = .ok (.iload_n 3, 1) := by decide +kernel
theorem dL_act_19 : decode cL_act 19 = .ok (.iload 4, 2) := by decide +kernel
theorem dL_act_21 : decode cL_act 21 = .ok (.invokevirtual 26, 3) := by decide +kernel
theorem dL_act_24 : decode cL_act 24 = .ok (.istore 5, 2) := by decide +kernel
theorem dL_act_26 : decode cL_act 26 = .ok (.iload_n 2, 1) := by decide +kernel
theorem dL_act_27 : decode cL_act 27 = .ok (.bipush 12, 2) := by decide +kernel
theorem dL_act_29 : decode cL_act 29 = .ok (.invokestatic 9, 3) := by decide +kernel
theorem dL_act_32 : decode cL_act 32 = .ok (.tableswitch 676 0 3 #[32, 96, 240, 542], 32) := by decide +kernel
theorem dL_act_64 : decode cL_act 64 = .ok (.iload 5, 2) := by decide +kernel
theorem dL_act_66 : decode cL_act 66 = .ok (.ifCond .ge 8, 3) := by decide +kernel
theorem dL_act_69 : decode cL_act 69 = .ok (.bipush (-9), 2) := by decide +kernel
theorem dL_act_71 : decode cL_act 71 = .ok (.goto 12, 3) := by decide +kernel
theorem dL_act_74 : decode cL_act 74 = .ok (.aload_n 1, 1) := by decide +kernel
theorem dL_act_75 : decode cL_act 75 = .ok (.getfield 29, 3) := by decide +kernel
theorem dL_act_78 : decode cL_act 78 = .ok (.iload_n 3, 1) := by decide +kernel
theorem dL_act_79 : decode cL_act 79 = .ok (.aaload, 1) := by decide +kernel
theorem dL_act_80 : decode cL_act 80 = .ok (.iload 5, 2) := by decide +kernel
theorem dL_act_82 : decode cL_act 82 = .ok (.iaload, 1) := by decide +kernel
theorem dL_act_83 : decode cL_act 83 = .ok (.istore 7, 2) := by decide +kernel
theorem dL_act_85 : decode cL_act 85 = .ok (.iload 5, 2) := by decide +kernel
theorem dL_act_87 : decode cL_act 87 = .ok (.ifCond .lt 10, 3) := by decide +kernel
theorem dL_act_90 : decode cL_act 90 = .ok (.aload_n 1, 1) := by decide +kernel
theorem dL_act_91 : decode cL_act 91 = .ok (.iload_n 3, 1) := by decide +kernel
theorem dL_act_92 : decode cL_act 92 = .ok (.iload 4, 2) := by decide +kernel
theorem dL_act_94 : decode cL_act 94 = .ok (.invokevirtual 32, 3) := by decide +kernel
theorem dL_act_97 : decode cL_act 97 = .ok (.aload_n 0, 1) := by decide +kernel
theorem dL_act_98 : decode cL_act 98 = .ok (.iload_n 3, 1) := by decide +kernel
theorem dL_act_99 : decode cL_act 99 = .ok (.iload 4, 2) := by decide +kernel
theorem dL_act_101 : decode cL_act 101 = .ok (.invokevirtual 36, 3) := by decide +kernel
theorem dL_act_104 : decode cL_act 104 = .ok (.istore 6, 2) := by decide +kernel
theorem dL_act_106 : decode cL_act 106 = .ok (.goto 9, 3) := by decide +kernel
theorem dL_act_109 : decode cL_act 109 = .ok (.astore 8, 2) := by decide +kernel
theorem dL_act_111 : decode cL_act 111 = .ok (.bipush (-9), 2) := by decide +kernel
theorem dL_act_113 : decode cL_act 113 = .ok (.istore 6, 2) := by decide +kernel
theorem dL_act_115 : decode cL_act 115 = .ok (.iload 6, 2) := by decide +kernel
theorem dL_act_117 : decode cL_act 117 = .ok (.iload 7, 2) := by decide +kernel
theorem dL_act_119 : decode cL_act 119 = .ok (.if_icmp .ne 7, 3) := by decide +kernel
theorem dL_act_122 : decode cL_act 122 = .ok (.iconst 1, 1) := by decide +kernel
theorem dL_act_123 : decode cL_act 123 = .ok (.goto 4, 3) := by decide +kernel
theorem dL_act_126 : decode cL_act 126 = .ok (.iconst 0, 1) := by decide +kernel
theorem dL_act_127 : decode cL_act 127 = .ok (.ireturn, 1) := by decide +kernel
theorem dL_act_128 : decode cL_act 128 = .ok (.iload_n 2, 1) := by decide +kernel
theorem dL_act_129 : decode cL_act 129 = .ok (.bipush 7, 2) := by decide +kernel
theorem dL_act_131 : decode cL_act 131 = .ok (.ishr, 1) := by decide +kernel
theorem dL_act_132 : decode cL_act 132 = .ok (.iconst 3, 1) := by decide +kernel
theorem dL_act_133 : decode cL_act 133 = .ok (.invokestatic 9, 3) := by decide +kernel
theorem dL_act_136 : decode cL_act 136 = .ok (.ifCond .le 5, 3) := by decide +kernel
theorem dL_act_139 : decode cL_act 139 = .ok (.iconst 1, 1) := by decide +kernel
theorem dL_act_140 : decode cL_act 140 = .ok (.ireturn, 1) := by decide +kernel
theorem dL_act_141 : decode cL_act 141 = .ok (.iload_n 2, 1) := by decide +kernel
theorem dL_act_142 : decode cL_act 142 = .ok (.iconst 5, 1) := by decide +kernel
theorem dL_act_143 : decode cL_act 143 = .ok (.ishr, 1) := by decide +kernel
theorem dL_act_144 : decode cL_act 144 = .ok (.iconst 2, 1) := by decide +kernel
theorem dL_act_145 : decode cL_act 145 = .ok (.invokestatic 9, 3) := by decide +kernel
theorem dL_act_148 : decode cL_act 148 = .ok (.ifCond .ne 16, 3) := by decide +kernel
theorem dL_act_151 : decode cL_act 151 = .ok (.iconst 1, 1) := by decide +kernel
theorem dL_act_152 : decode cL_act 152 = .ok (.iload_n 2, 1) := by decide +kernel
theorem dL_act_153 : decode cL_act 153 = .ok (.iconst 4, 1) := by decide +kernel
theorem dL_act_154 : decode cL_act 154 = .ok (.ishr, 1) := by decide +kernel
theorem dL_act_155 : decode cL_act 155 = .ok (.bipush 16, 2) := by decide +kernel
theorem dL_act_157 : decode cL_act 157 = .ok (.invokestatic 9, 3) := by decide +kernel
theorem dL_act_160 : decode cL_act 160 = .ok (.ishl, 1) := by decide +kernel
theorem dL_act_161 : decode cL_act 161 = .ok (.goto 11, 3) := by decide +kernel
theorem dL_act_164 : decode cL_act 164 = .ok (.iload_n 2, 1) := by decide +kernel
theorem dL_act_165 : decode cL_act 165 = .ok (.iconst 4, 1) := by decide +kernel
theorem dL_act_166 : decode cL_act 166 = .ok (.ishr, 1) := by decide +kernel
theorem dL_act_167 : decode cL_act 167 = .ok (.ldc 15, 2) := by decide +kernel
theorem dL_act_169 : decode cL_act 169 = .ok (.invokestatic 9, 3) := by decide +kernel
theorem dL_act_172 : decode cL_act 172 = .ok (.istore 8, 2) := by decide +kernel
theorem dL_act_174 : decode cL_act 174 = .ok (.aload_n 1, 1) := by decide +kernel
theorem dL_act_175 : decode cL_act 175 = .ok (.getfield 16, 3) := by decide +kernel
theorem dL_act_178 : decode cL_act 178 = .ok (.iload_n 3, 1) := by decide +kernel
theorem dL_act_179 : decode cL_act 179 = .ok (.aaload, 1) := by decide +kernel
theorem dL_act_180 : decode cL_act 180 = .ok (.invokevirtual 42, 3) := by decide +kernel
theorem dL_act_183 : decode cL_act 183 = .ok (.checkcast 43, 3) := by decide +kernel
theorem dL_act_186 : decode cL_act 186 = .ok (.astore 9, 2) := by decide +kernel
theorem dL_act_188 : decode cL_act 188 = .ok (.iconst 0, 1) := by decide +kernel
theorem dL_act_189 : decode cL_act 189 = .ok (.istore 10, 2) := by decide +kernel
theorem dL_act_191 : decode cL_act 191 = .ok (.iload 10, 2) := by decide +kernel
theorem dL_act_193 : decode cL_act 193 = .ok (.aload 9, 2) := by decide +kernel
theorem dL_act_195 : decode cL_act 195 = .ok (.arraylength, 1) := by decide +kernel
theorem dL_act_196 : decode cL_act 196 = .ok (.if_icmp .ge 19, 3) := by decide +kernel
theorem dL_act_199 : decode cL_act 199 = .ok (.aload 9, 2) := by decide +kernel
theorem dL_act_201 : decode cL_act 201 = .ok (.iload 10, 2) := by decide +kernel
theorem dL_act_203 : decode cL_act 203 = .ok (.dup2, 1) := by decide +kernel
theorem dL_act_204 : decode cL_act 204 = .ok (.iaload, 1) := by decide +kernel
theorem dL_act_205 : decode cL_act 205 = .ok (.iload 8, 2) := by decide +kernel
theorem dL_act_207 : decode cL_act 207 = .ok (.ixor, 1) := by decide +kernel
theorem dL_act_208 : decode cL_act 208 = .ok (.iastore, 1) := by decide +kernel
theorem dL_act_209 : decode cL_act 209 = .ok (.iinc 10 1, 3) := by decide +kernel
theorem dL_act_212 : decode cL_act 212 = .ok (.goto (-21), 3) := by decide +kernel
theorem dL_act_215 : decode cL_act 215 = .ok (.aload_n 1, 1) := by decide +kernel
theorem dL_act_216 : decode cL_act 216 = .ok (.getfield 16, 3) := by decide +kernel
theorem dL_act_219 : decode cL_act 219 = .ok (.iload_n 3, 1) := by decide +kernel
theorem dL_act_220 : decode cL_act 220 = .ok (.aload 9, 2) := by decide +kernel
theorem dL_act_222 : decode cL_act 222 = .ok (.aastore, 1) := by decide +kernel
theorem dL_act_223 : decode cL_act 223 = .ok (.aload 9, 2) := by decide +kernel
theorem dL_act_225 : decode cL_act 225 = .ok (.arraylength, 1) := by decide +kernel
theorem dL_act_226 : decode cL_act 226 = .ok (.ifCond .ne 8, 3) := by decide +kernel
theorem dL_act_229 : decode cL_act 229 = .ok (.bipush (-9), 2) := by decide +kernel
theorem dL_act_231 : decode cL_act 231 = .ok (.goto 8, 3) := by decide +kernel
theorem dL_act_234 : decode cL_act 234 = .ok (.aload 9, 2) := by decide +kernel
theorem dL_act_236 : decode cL_act 236 = .ok (.invokestatic 48, 3) := by decide +kernel
theorem dL_act_239 : decode cL_act 239 = .ok (.istore 7, 2) := by decide +kernel
theorem dL_act_241 : decode cL_act 241 = .ok (.aload_n 0, 1) := by decide +kernel
theorem dL_act_242 : decode cL_act 242 = .ok (.iload_n 3, 1) := by decide +kernel
theorem dL_act_243 : decode cL_act 243 = .ok (.iload 8, 2) := by decide +kernel
theorem dL_act_245 : decode cL_act 245 = .ok (.invokevirtual 52, 3) := by decide +kernel
theorem dL_act_248 : decode cL_act 248 = .ok (.istore 6, 2) := by decide +kernel
theorem dL_act_250 : decode cL_act 250 = .ok (.goto 9, 3) := by decide +kernel
theorem dL_act_253 : decode cL_act 253 = .ok (.astore 10, 2) := by decide +kernel
theorem dL_act_255 : decode cL_act 255 = .ok (.bipush (-9), 2) := by decide +kernel
theorem dL_act_257 : decode cL_act 257 = .ok (.istore 6, 2) := by decide +kernel
theorem dL_act_259 : decode cL_act 259 = .ok (.iload 6, 2) := by decide +kernel
theorem dL_act_261 : decode cL_act 261 = .ok (.iload 7, 2) := by decide +kernel
theorem dL_act_263 : decode cL_act 263 = .ok (.if_icmp .ne 7, 3) := by decide +kernel
theorem dL_act_266 : decode cL_act 266 = .ok (.iconst 1, 1) := by decide +kernel
theorem dL_act_267 : decode cL_act 267 = .ok (.goto 4, 3) := by decide +kernel
theorem dL_act_270 : decode cL_act 270 = .ok (.iconst 0, 1) := by decide +kernel
theorem dL_act_271 : decode cL_act 271 = .ok (.ireturn, 1) := by decide +kernel
theorem dL_act_272 : decode cL_act 272 = .ok (.iload_n 2, 1) := by decide +kernel
theorem dL_act_273 : decode cL_act 273 = .ok (.iconst 4, 1) := by decide +kernel
theorem dL_act_274 : decode cL_act 274 = .ok (.ishr, 1) := by decide +kernel
theorem dL_act_275 : decode cL_act 275 = .ok (.iconst 4, 1) := by decide +kernel
theorem dL_act_276 : decode cL_act 276 = .ok (.invokestatic 9, 3) := by decide +kernel
theorem dL_act_279 : decode cL_act 279 = .ok (.istore 8, 2) := by decide +kernel
theorem dL_act_281 : decode cL_act 281 = .ok (.iconst 0, 1) := by decide +kernel
theorem dL_act_282 : decode cL_act 282 = .ok (.istore 7, 2) := by decide +kernel
theorem dL_act_284 : decode cL_act 284 = .ok (.aload_n 1, 1) := by decide +kernel
theorem dL_act_285 : decode cL_act 285 = .ok (.getfield 16, 3) := by decide +kernel
theorem dL_act_288 : decode cL_act 288 = .ok (.iload_n 3, 1) := by decide +kernel
theorem dL_act_289 : decode cL_act 289 = .ok (.aaload, 1) := by decide +kernel
theorem dL_act_290 : decode cL_act 290 = .ok (.astore 9, 2) := by decide +kernel
theorem dL_act_292 : decode cL_act 292 = .ok (.aload 9, 2) := by decide +kernel
theorem dL_act_294 : decode cL_act 294 = .ok (.arraylength, 1) := by decide +kernel
theorem dL_act_295 : decode cL_act 295 = .ok (.istore 10, 2) := by decide +kernel
theorem dL_act_297 : decode cL_act 297 = .ok (.iconst 0, 1) := by decide +kernel
theorem dL_act_298 : decode cL_act 298 = .ok (.istore 11, 2) := by decide +kernel
theorem dL_act_300 : decode cL_act 300 = .ok (.iload 11, 2) := by decide +kernel
theorem dL_act_302 : decode cL_act 302 = .ok (.iload 10, 2) := by decide +kernel
theorem dL_act_304 : decode cL_act 304 = .ok (.if_icmp .ge 38, 3) := by decide +kernel
theorem dL_act_307 : decode cL_act 307 = .ok (.aload 9, 2) := by decide +kernel
theorem dL_act_309 : decode cL_act 309 = .ok (.iload 11, 2) := by decide +kernel
theorem dL_act_311 : decode cL_act 311 = .ok (.iaload, 1) := by decide +kernel
theorem dL_act_312 : decode cL_act 312 = .ok (.istore 12, 2) := by decide +kernel
theorem dL_act_314 : decode cL_act 314 = .ok (.iload 7, 2) := by decide +kernel
theorem dL_act_316 : decode cL_act 316 = .ok (.aload_n 1, 1) := by decide +kernel
theorem dL_act_317 : decode cL_act 317 = .ok (.iconst 1, 1) := by decide +kernel
theorem dL_act_318 : decode cL_act 318 = .ok (.iload_n 3, 1) := by decide +kernel
theorem dL_act_319 : decode cL_act 319 = .ok (.isub, 1) := by decide +kernel
theorem dL_act_320 : decode cL_act 320 = .ok (.iload 12, 2) := by decide +kernel
theorem dL_act_322 : decode cL_act 322 = .ok (.invokevirtual 26, 3) := by decide +kernel
theorem dL_act_325 : decode cL_act 325 = .ok (.ifCond .lt 7, 3) := by decide +kernel
theorem dL_act_328 : decode cL_act 328 = .ok (.iconst 1, 1) := by decide +kernel
theorem dL_act_329 : decode cL_act 329 = .ok (.goto 4, 3) := by decide +kernel
theorem dL_act_332 : decode cL_act 332 = .ok (.iconst 0, 1) := by decide +kernel
theorem dL_act_333 : decode cL_act 333 = .ok (.iadd, 1) := by decide +kernel
theorem dL_act_334 : decode cL_act 334 = .ok (.istore 7, 2) := by decide +kernel
theorem dL_act_336 : decode cL_act 336 = .ok (.iinc 11 1, 3) := by decide +kernel
theorem dL_act_339 : decode cL_act 339 = .ok (.goto (-39), 3) := by decide +kernel
theorem dL_act_342 : decode cL_act 342 = .ok (.aload_n 1, 1) := by decide +kernel
theorem dL_act_343 : decode cL_act 343 = .ok (.getfield 16, 3) := by decide +kernel
theorem dL_act_346 : decode cL_act 346 = .ok (.iconst 0, 1) := by decide +kernel
theorem dL_act_347 : decode cL_act 347 = .ok (.aaload, 1) := by decide +kernel
theorem dL_act_348 : decode cL_act 348 = .ok (.arraylength, 1) := by decide +kernel
theorem dL_act_349 : decode cL_act 349 = .ok (.aload_n 1, 1) := by decide +kernel
theorem dL_act_350 : decode cL_act 350 = .ok (.getfield 16, 3) := by decide +kernel
theorem dL_act_353 : decode cL_act 353 = .ok (.iconst 1, 1) := by decide +kernel
theorem dL_act_354 : decode cL_act 354 = .ok (.aaload, 1) := by decide +kernel
theorem dL_act_355 : decode cL_act 355 = .ok (.arraylength, 1) := by decide +kernel
theorem dL_act_356 : decode cL_act 356 = .ok (.iadd, 1) := by decide +kernel
theorem dL_act_357 : decode cL_act 357 = .ok (.iload 7, 2) := by decide +kernel
theorem dL_act_359 : decode cL_act 359 = .ok (.isub, 1) := by decide +kernel
theorem dL_act_360 : decode cL_act 360 = .ok (.bipush 24, 2) := by decide +kernel
theorem dL_act_362 : decode cL_act 362 = .ok (.if_icmp .gt 7, 3) := by decide +kernel
theorem dL_act_365 : decode cL_act 365 = .ok (.iconst 1, 1) := by decide +kernel
theorem dL_act_366 : decode cL_act 366 = .ok (.goto 4, 3) := by decide +kernel
theorem dL_act_369 : decode cL_act 369 = .ok (.iconst 0, 1) := by decide +kernel
theorem dL_act_370 : decode cL_act 370 = .ok (.istore 9, 2) := by decide +kernel
theorem dL_act_372 : decode cL_act 372 = .ok (.iload 9, 2) := by decide +kernel
theorem dL_act_374 : decode cL_act 374 = .ok (.ifCond .eq 164, 3) := by decide +kernel
theorem dL_act_377 : decode cL_act 377 = .ok (.iconst 0, 1) := by decide +kernel
theorem dL_act_378 : decode cL_act 378 = .ok (.istore 10, 2) := by decide +kernel
theorem dL_act_380 : decode cL_act 380 = .ok (.iload 10, 2) := by decide +kernel
theorem dL_act_382 : decode cL_act 382 = .ok (.aload_n 1, 1) := by decide +kernel
theorem dL_act_383 : decode cL_act 383 = .ok (.getfield 16, 3) := by decide +kernel
theorem dL_act_386 : decode cL_act 386 = .ok (.iload_n 3, 1) := by decide +kernel
theorem dL_act_387 : decode cL_act 387 = .ok (.aaload, 1) := by decide +kernel
theorem dL_act_388 : decode cL_act 388 = .ok (.arraylength, 1) := by decide +kernel
theorem dL_act_389 : decode cL_act 389 = .ok (.if_icmp .ge 131, 3) := by decide +kernel
theorem dL_act_392 : decode cL_act 392 = .ok (.aload_n 1, 1) := by decide +kernel
theorem dL_act_393 : decode cL_act 393 = .ok (.getfield 29, 3) := by decide +kernel
theorem dL_act_396 : decode cL_act 396 = .ok (.iload_n 3, 1) := by decide +kernel
theorem dL_act_397 : decode cL_act 397 = .ok (.aaload, 1) := by decide +kernel
theorem dL_act_398 : decode cL_act 398 = .ok (.iload 10, 2) := by decide +kernel
theorem dL_act_400 : decode cL_act 400 = .ok (.iaload, 1) := by decide +kernel
theorem dL_act_401 : decode cL_act 401 = .ok (.istore 11, 2) := by decide +kernel
theorem dL_act_403 : decode cL_act 403 = .ok (.aload_n 1, 1) := by decide +kernel
theorem dL_act_404 : decode cL_act 404 = .ok (.iconst 1, 1) := by decide +kernel
theorem dL_act_405 : decode cL_act 405 = .ok (.iload_n 3, 1) := by decide +kernel
theorem dL_act_406 : decode cL_act 406 = .ok (.isub, 1) := by decide +kernel
theorem dL_act_407 : decode cL_act 407 = .ok (.aload_n 1, 1) := by decide +kernel
theorem dL_act_408 : decode cL_act 408 = .ok (.getfield 16, 3) := by decide +kernel
theorem dL_act_411 : decode cL_act 411 = .ok (.iload_n 3, 1) := by decide +kernel
theorem dL_act_412 : decode cL_act 412 = .ok (.aaload, 1) := by decide +kernel
theorem dL_act_413 : decode cL_act 413 = .ok (.iload 10, 2) := by decide +kernel
theorem dL_act_415 : decode cL_act 415 = .ok (.iaload, 1) := by decide +kernel
theorem dL_act_416 : decode cL_act 416 = .ok (.invokevirtual 26, 3) := by decide +kernel
theorem dL_act_419 : decode cL_act 419 = .ok (.istore 12, 2) := by decide +kernel
theorem dL_act_421 : decode cL_act 421 = .ok (.iload 12, 2) := by decide +kernel
theorem dL_act_423 : decode cL_act 423 = .ok (.ifCond .ge 8, 3) := by decide +kernel
theorem dL_act_426 : decode cL_act 426 = .ok (.iload 11, 2) := by decide +kernel
theorem dL_act_428 : decode cL_act 428 = .ok (.goto 14, 3) := by decide +kernel
theorem dL_act_431 : decode cL_act 431 = .ok (.aload_n 1, 1) := by decide +kernel
theorem dL_act_432 : decode cL_act 432 = .ok (.getfield 29, 3) := by decide +kernel
theorem dL_act_435 : decode cL_act 435 = .ok (.iconst 1, 1) := by decide +kernel
theorem dL_act_436 : decode cL_act 436 = .ok (.iload_n 3, 1) := by decide +kernel
theorem dL_act_437 : decode cL_act 437 = .ok (.isub, 1) := by decide +kernel
theorem dL_act_438 : decode cL_act 438 = .ok (.aaload, 1) := by decide +kernel
theorem dL_act_439 : decode cL_act 439 = .ok (.iload 12, 2) := by decide +kernel
theorem dL_act_441 : decode cL_act 441 = .ok (.iaload, 1) := by decide +kernel
theorem dL_act_442 : decode cL_act 442 = .ok (.istore 13, 2) := by decide +kernel
theorem dL_act_444 : decode cL_act 444 = .ok (.iconst 4, 1) := by decide +kernel
theorem dL_act_445 : decode cL_act 445 = .ok (.newarray .int, 2) := by decide +kernel
theorem dL_act_447 : decode cL_act 447 = .ok (.dup, 1) := by decide +kernel
theorem dL_act_448 : decode cL_act 448 = .ok (.iconst 0, 1) := by decide +kernel
theorem dL_act_449 : decode cL_act 449 = .ok (.iload 11, 2) := by decide +kernel
theorem dL_act_451 : decode cL_act 451 = .ok (.iastore, 1) := by decide +kernel
theorem dL_act_452 : decode cL_act 452 = .ok (.dup, 1) := by decide +kernel
theorem dL_act_453 : decode cL_act 453 = .ok (.iconst 1, 1) := by decide +kernel
theorem dL_act_454 : decode cL_act 454 = .ok (.iload 13, 2) := by decide +kernel
theorem dL_act_456 : decode cL_act 456 = .ok (.iastore, 1) := by decide +kernel
theorem dL_act_457 : decode cL_act 457 = .ok (.dup, 1) := by decide +kernel
theorem dL_act_458 : decode cL_act 458 = .ok (.iconst 2, 1) := by decide +kernel
theorem dL_act_459 : decode cL_act 459 = .ok (.sipush 999, 3) := by decide +kernel
theorem dL_act_462 : decode cL_act 462 = .ok (.iload 11, 2) := by decide +kernel
theorem dL_act_464 : decode cL_act 464 = .ok (.iload 13, 2) := by decide +kernel
theorem dL_act_466 : decode cL_act 466 = .ok (.iadd, 1) := by decide +kernel
theorem dL_act_467 : decode cL_act 467 = .ok (.invokestatic 55, 3) := by decide +kernel
theorem dL_act_470 : decode cL_act 470 = .ok (.iastore, 1) := by decide +kernel
theorem dL_act_471 : decode cL_act 471 = .ok (.dup, 1) := by decide +kernel
theorem dL_act_472 : decode cL_act 472 = .ok (.iconst 3, 1) := by decide +kernel
theorem dL_act_473 : decode cL_act 473 = .ok (.iload 11, 2) := by decide +kernel
theorem dL_act_475 : decode cL_act 475 = .ok (.iload 13, 2) := by decide +kernel
theorem dL_act_477 : decode cL_act 477 = .ok (.invokestatic 55, 3) := by decide +kernel
theorem dL_act_480 : decode cL_act 480 = .ok (.iastore, 1) := by decide +kernel
theorem dL_act_481 : decode cL_act 481 = .ok (.astore 14, 2) := by decide +kernel
theorem dL_act_483 : decode cL_act 483 = .ok (.aload_n 1, 1) := by decide +kernel
theorem dL_act_484 : decode cL_act 484 = .ok (.iconst 1, 1) := by decide +kernel
theorem dL_act_485 : decode cL_act 485 = .ok (.iload_n 3, 1) := by decide +kernel
theorem dL_act_486 : decode cL_act 486 = .ok (.isub, 1) := by decide +kernel
theorem dL_act_487 : decode cL_act 487 = .ok (.aload_n 1, 1) := by decide +kernel
theorem dL_act_488 : decode cL_act 488 = .ok (.getfield 16, 3) := by decide +kernel
theorem dL_act_491 : decode cL_act 491 = .ok (.iload_n 3, 1) := by decide +kernel
theorem dL_act_492 : decode cL_act 492 = .ok (.aaload, 1) := by decide +kernel
theorem dL_act_493 : decode cL_act 493 = .ok (.iload 10, 2) := by decide +kernel
theorem dL_act_495 : decode cL_act 495 = .ok (.iaload, 1) := by decide +kernel
theorem dL_act_496 : decode cL_act 496 = .ok (.iload 12, 2) := by decide +kernel
theorem dL_act_498 : decode cL_act 498 = .ok (.ifCond .ge 8, 3) := by decide +kernel
theorem dL_act_501 : decode cL_act 501 = .ok (.iload 11, 2) := by decide +kernel
theorem dL_act_503 : decode cL_act 503 = .ok (.goto 8, 3) := by decide +kernel
theorem dL_act_506 : decode cL_act 506 = .ok (.aload 14, 2) := by decide +kernel
theorem dL_act_508 : decode cL_act 508 = .ok (.iload 8, 2) := by decide +kernel
theorem dL_act_510 : decode cL_act 510 = .ok (.iaload, 1) := by decide +kernel
theorem dL_act_511 : decode cL_act 511 = .ok (.invokevirtual 60, 3) := by decide +kernel
theorem dL_act_514 : decode cL_act 514 = .ok (.iinc 10 1, 3) := by decide +kernel
theorem dL_act_517 : decode cL_act 517 = .ok (.goto (-137), 3) := by decide +kernel
theorem dL_act_520 : decode cL_act 520 = .ok (.aload_n 1, 1) := by decide +kernel
theorem dL_act_521 : decode cL_act 521 = .ok (.getfield 16, 3) := by decide +kernel
theorem dL_act_524 : decode cL_act 524 = .ok (.iload_n 3, 1) := by decide +kernel
theorem dL_act_525 : decode cL_act 525 = .ok (.iconst 0, 1) := by decide +kernel
theorem dL_act_526 : decode cL_act 526 = .ok (.newarray .int, 2) := by decide +kernel
theorem dL_act_528 : decode cL_act 528 = .ok (.aastore, 1) := by decide +kernel
theorem dL_act_529 : decode cL_act 529 = .ok (.aload_n 1, 1) := by decide +kernel
theorem dL_act_530 : decode cL_act 530 = .ok (.getfield 29, 3) := by decide +kernel
theorem dL_act_533 : decode cL_act 533 = .ok (.iload_n 3, 1) := by decide +kernel
theorem dL_act_534 : decode cL_act 534 = .ok (.iconst 0, 1) := by decide +kernel
theorem dL_act_535 : decode cL_act 535 = .ok (.newarray .int, 2) := by decide +kernel
theorem dL_act_537 : decode cL_act 537 = .ok (.aastore, 1) := by decide +kernel
theorem dL_act_538 : decode cL_act 538 = .ok (.aload_n 0, 1) := by decide +kernel
theorem dL_act_539 : decode cL_act 539 = .ok (.iload_n 3, 1) := by decide +kernel
theorem dL_act_540 : decode cL_act 540 = .ok (.iload 8, 2) := by decide +kernel
theorem dL_act_542 : decode cL_act 542 = .ok (.invokevirtual 64, 3) := by decide +kernel
theorem dL_act_545 : decode cL_act 545 = .ok (.iload 7, 2) := by decide +kernel
theorem dL_act_547 : decode cL_act 547 = .ok (.if_icmp .ne 12, 3) := by decide +kernel
theorem dL_act_550 : decode cL_act 550 = .ok (.iload 9, 2) := by decide +kernel
theorem dL_act_552 : decode cL_act 552 = .ok (.ifCond .eq 7, 3) := by decide +kernel
theorem dL_act_555 : decode cL_act 555 = .ok (.iconst 1, 1) := by decide +kernel
theorem dL_act_556 : decode cL_act 556 = .ok (.goto 4, 3) := by decide +kernel
theorem dL_act_559 : decode cL_act 559 = .ok (.iconst 0, 1) := by decide +kernel
theorem dL_act_560 : decode cL_act 560 = .ok (.ireturn, 1) := by decide +kernel
theorem dL_act_561 : decode cL_act 561 = .ok (.astore 10, 2) := by decide +kernel
theorem dL_act_563 : decode cL_act 563 = .ok (.iload 9, 2) := by decide +kernel
theorem dL_act_565 : decode cL_act 565 = .ok (.ifCond .ne 7, 3) := by decide +kernel
theorem dL_act_568 : decode cL_act 568 = .ok (.iconst 1, 1) := by decide +kernel
theorem dL_act_569 : decode cL_act 569 = .ok (.goto 4, 3) := by decide +kernel
theorem dL_act_572 : decode cL_act 572 = .ok (.iconst 0, 1) := by decide +kernel
theorem dL_act_573 : decode cL_act 573 = .ok (.ireturn, 1) := by decide +kernel
theorem dL_act_574 : decode cL_act 574 = .ok (.aload_n 1, 1) := by decide +kernel
theorem dL_act_575 : decode cL_act 575 = .ok (.getfield 16, 3) := by decide +kernel
theorem dL_act_578 : decode cL_act 578 = .ok (.iconst 1, 1) := by decide +kernel
theorem dL_act_579 : decode cL_act 579 = .ok (.iload_n 3, 1) := by decide +kernel
theorem dL_act_580 : decode cL_act 580 = .ok (.isub, 1) := by decide +kernel
theorem dL_act_581 : decode cL_act 581 = .ok (.aaload, 1) := by decide +kernel
theorem dL_act_582 : decode cL_act 582 = .ok (.arraylength, 1) := by decide +kernel
theorem dL_act_583 : decode cL_act 583 = .ok (.ifCond .ne 7, 3) := by decide +kernel
theorem dL_act_586 : decode cL_act 586 = .ok (.iconst 1, 1) := by decide +kernel
theorem dL_act_587 : decode cL_act 587 = .ok (.goto 4, 3) := by decide +kernel
theorem dL_act_590 : decode cL_act 590 = .ok (.iconst 0, 1) := by decide +kernel
theorem dL_act_591 : decode cL_act 591 = .ok (.istore 8, 2) := by decide +kernel
theorem dL_act_593 : decode cL_act 593 = .ok (.iconst 0, 1) := by decide +kernel
theorem dL_act_594 : decode cL_act 594 = .ok (.istore 7, 2) := by decide +kernel
theorem dL_act_596 : decode cL_act 596 = .ok (.aload_n 1, 1) := by decide +kernel
theorem dL_act_597 : decode cL_act 597 = .ok (.getfield 16, 3) := by decide +kernel
theorem dL_act_600 : decode cL_act 600 = .ok (.iload_n 3, 1) := by decide +kernel
theorem dL_act_601 : decode cL_act 601 = .ok (.aaload, 1) := by decide +kernel
theorem dL_act_602 : decode cL_act 602 = .ok (.arraylength, 1) := by decide +kernel
theorem dL_act_603 : decode cL_act 603 = .ok (.iconst 1, 1) := by decide +kernel
theorem dL_act_604 : decode cL_act 604 = .ok (.isub, 1) := by decide +kernel
theorem dL_act_605 : decode cL_act 605 = .ok (.istore 9, 2) := by decide +kernel
theorem dL_act_607 : decode cL_act 607 = .ok (.iload 9, 2) := by decide +kernel
theorem dL_act_609 : decode cL_act 609 = .ok (.ifCond .lt 63, 3) := by decide +kernel
theorem dL_act_612 : decode cL_act 612 = .ok (.iload 8, 2) := by decide +kernel
theorem dL_act_614 : decode cL_act 614 = .ok (.ifCond .eq 58, 3) := by decide +kernel
theorem dL_act_617 : decode cL_act 617 = .ok (.aload_n 1, 1) := by decide +kernel
theorem dL_act_618 : decode cL_act 618 = .ok (.getfield 16, 3) := by decide +kernel
theorem dL_act_621 : decode cL_act 621 = .ok (.iload_n 3, 1) := by decide +kernel
theorem dL_act_622 : decode cL_act 622 = .ok (.aaload, 1) := by decide +kernel
theorem dL_act_623 : decode cL_act 623 = .ok (.iload 9, 2) := by decide +kernel
theorem dL_act_625 : decode cL_act 625 = .ok (.iaload, 1) := by decide +kernel
theorem dL_act_626 : decode cL_act 626 = .ok (.istore 10, 2) := by decide +kernel
theorem dL_act_628 : decode cL_act 628 = .ok (.iload 10, 2) := by decide +kernel
theorem dL_act_630 : decode cL_act 630 = .ok (.iload 4, 2) := by decide +kernel
theorem dL_act_632 : decode cL_act 632 = .ok (.if_icmp .ge 6, 3) := by decide +kernel
theorem dL_act_635 : decode cL_act 635 = .ok (.goto 31, 3) := by decide +kernel
theorem dL_act_638 : decode cL_act 638 = .ok (.aload_n 1, 1) := by decide +kernel
theorem dL_act_639 : decode cL_act 639 = .ok (.iconst 1, 1) := by decide +kernel
theorem dL_act_640 : decode cL_act 640 = .ok (.iload_n 3, 1) := by decide +kernel
theorem dL_act_641 : decode cL_act 641 = .ok (.isub, 1) := by decide +kernel
theorem dL_act_642 : decode cL_act 642 = .ok (.iload 10, 2) := by decide +kernel
theorem dL_act_644 : decode cL_act 644 = .ok (.aload_n 1, 1) := by decide +kernel
theorem dL_act_645 : decode cL_act 645 = .ok (.getfield 29, 3) := by decide +kernel
theorem dL_act_648 : decode cL_act 648 = .ok (.iload_n 3, 1) := by decide +kernel
theorem dL_act_649 : decode cL_act 649 = .ok (.aaload, 1) := by decide +kernel
theorem dL_act_650 : decode cL_act 650 = .ok (.iload 9, 2) := by decide +kernel
theorem dL_act_652 : decode cL_act 652 = .ok (.iaload, 1) := by decide +kernel
theorem dL_act_653 : decode cL_act 653 = .ok (.invokevirtual 60, 3) := by decide +kernel
theorem dL_act_656 : decode cL_act 656 = .ok (.aload_n 1, 1) := by decide +kernel
theorem dL_act_657 : decode cL_act 657 = .ok (.iload_n 3, 1) := by decide +kernel
theorem dL_act_658 : decode cL_act 658 = .ok (.iload 10, 2) := by decide +kernel
theorem dL_act_660 : decode cL_act 660 = .ok (.invokevirtual 32, 3) := by decide +kernel
theorem dL_act_663 : decode cL_act 663 = .ok (.iinc 7 1, 3) := by decide +kernel
theorem dL_act_666 : decode cL_act 666 = .ok (.iinc 9 (-1), 3) := by decide +kernel
theorem dL_act_669 : decode cL_act 669 = .ok (.goto (-62), 3) := by decide +kernel
theorem dL_act_672 : decode cL_act 672 = .ok (.aload_n 0, 1) := by decide +kernel
theorem dL_act_673 : decode cL_act 673 = .ok (.iload_n 3, 1) := by decide +kernel
theorem dL_act_674 : decode cL_act 674 = .ok (.iload 4, 2) := by decide +kernel
theorem dL_act_676 : decode cL_act 676 = .ok (.invokevirtual 67, 3) := by decide +kernel
theorem dL_act_679 : decode cL_act 679 = .ok (.iload 7, 2) := by decide +kernel
theorem dL_act_681 : decode cL_act 681 = .ok (.if_icmp .ne 12, 3) := by decide +kernel
theorem dL_act_684 : decode cL_act 684 = .ok (.iload 8, 2) := by decide +kernel
theorem dL_act_686 : decode cL_act 686 = .ok (.ifCond .eq 7, 3) := by decide +kernel
theorem dL_act_689 : decode cL_act 689 = .ok (.iconst 1, 1) := by decide +kernel
theorem dL_act_690 : decode cL_act 690 = .ok (.goto 4, 3) := by decide +kernel
theorem dL_act_693 : decode cL_act 693 = .ok (.iconst 0, 1) := by decide +kernel
theorem dL_act_694 : decode cL_act 694 = .ok (.ireturn, 1) := by decide +kernel
theorem dL_act_695 : decode cL_act 695 = .ok (.astore 9, 2) := by decide +kernel
theorem dL_act_697 : decode cL_act 697 = .ok (.iload 8, 2) := by decide +kernel
theorem dL_act_699 : decode cL_act 699 = .ok (.ifCond .ne 7, 3) := by decide +kernel
theorem dL_act_702 : decode cL_act 702 = .ok (.iconst 1, 1) := by decide +kernel
theorem dL_act_703 : decode cL_act 703 = .ok (.goto 4, 3) := by decide +kernel
theorem dL_act_706 : decode cL_act 706 = .ok (.iconst 0, 1) := by decide +kernel
theorem dL_act_707 : decode cL_act 707 = .ok (.ireturn, 1) := by decide +kernel
theorem dL_act_708 : decode cL_act 708 = .ok (.iload_n 2, 1) := by decide +kernel
theorem dL_act_709 : decode cL_act 709 = .ok (.iconst 4, 1) := by decide +kernel
theorem dL_act_710 : decode cL_act 710 = .ok (.ishr, 1) := by decide +kernel
theorem dL_act_711 : decode cL_act 711 = .ok (.iload_n 2, 1) := by decide +kernel
theorem dL_act_712 : decode cL_act 712 = .ok (.bipush 6, 2) := by decide +kernel
theorem dL_act_714 : decode cL_act 714 = .ok (.ishr, 1) := by decide +kernel
theorem dL_act_715 : decode cL_act 715 = .ok (.iconst 3, 1) := by decide +kernel
theorem dL_act_716 : decode cL_act 716 = .ok (.invokestatic 9, 3) := by decide +kernel
theorem dL_act_719 : decode cL_act 719 = .ok (.ifCond .ne 9, 3) := by decide +kernel
theorem dL_act_722 : decode cL_act 722 = .ok (.sipush 1000, 3) := by decide +kernel
theorem dL_act_725 : decode cL_act 725 = .ok (.goto 5, 3) := by decide +kernel
theorem dL_act_728 : decode cL_act 728 = .ok (.bipush 20, 2) := by decide +kernel
theorem dL_act_730 : decode cL_act 730 = .ok (.invokestatic 9, 3) := by decide +kernel
theorem dL_act_733 : decode cL_act 733 = .ok (.istore 8, 2) := by decide +kernel
theorem dL_act_735 : decode cL_act 735 = .ok (.iload 5, 2) := by decide +kernel
theorem dL_act_737 : decode cL_act 737 = .ok (.ifCond .lt 15, 3) := by decide +kernel
theorem dL_act_740 : decode cL_act 740 = .ok (.aload_n 1, 1) := by decide +kernel
theorem dL_act_741 : decode cL_act 741 = .ok (.getfield 29, 3) := by decide +kernel
theorem dL_act_744 : decode cL_act 744 = .ok (.iload_n 3, 1) := by decide +kernel
theorem dL_act_745 : decode cL_act 745 = .ok (.aaload, 1) := by decide +kernel
theorem dL_act_746 : decode cL_act 746 = .ok (.iload 5, 2) := by decide +kernel
theorem dL_act_748 : decode cL_act 748 = .ok (.iaload, 1) := by decide +kernel
theorem dL_act_749 : decode cL_act 749 = .ok (.goto 21, 3) := by decide +kernel
theorem dL_act_752 : decode cL_act 752 = .ok (.aload_n 1, 1) := by decide +kernel
theorem dL_act_753 : decode cL_act 753 = .ok (.getfield 16, 3) := by decide +kernel
theorem dL_act_756 : decode cL_act 756 = .ok (.iload_n 3, 1) := by decide +kernel
theorem dL_act_757 : decode cL_act 757 = .ok (.aaload, 1) := by decide +kernel
theorem dL_act_758 : decode cL_act 758 = .ok (.arraylength, 1) := by decide +kernel
theorem dL_act_759 : decode cL_act 759 = .ok (.bipush 24, 2) := by decide +kernel
theorem dL_act_761 : decode cL_act 761 = .ok (.if_icmp .ne 8, 3) := by decide +kernel
theorem dL_act_764 : decode cL_act 764 = .ok (.bipush (-9), 2) := by decide +kernel
theorem dL_act_766 : decode cL_act 766 = .ok (.goto 4, 3) := by decide +kernel
theorem dL_act_769 : decode cL_act 769 = .ok (.iconst (-1), 1) := by decide +kernel
theorem dL_act_770 : decode cL_act 770 = .ok (.istore 7, 2) := by decide +kernel
theorem dL_act_772 : decode cL_act 772 = .ok (.iload 7, 2) := by decide +kernel
theorem dL_act_774 : decode cL_act 774 = .ok (.bipush (-9), 2) := by decide +kernel
theorem dL_act_776 : decode cL_act 776 = .ok (.if_icmp .le 12, 3) := by decide +kernel
theorem dL_act_779 : decode cL_act 779 = .ok (.aload_n 1, 1) := by decide +kernel
theorem dL_act_780 : decode cL_act 780 = .ok (.iload_n 3, 1) := by decide +kernel
theorem dL_act_781 : decode cL_act 781 = .ok (.iload 4, 2) := by decide +kernel
theorem dL_act_783 : decode cL_act 783 = .ok (.iload 8, 2) := by decide +kernel
theorem dL_act_785 : decode cL_act 785 = .ok (.invokevirtual 60, 3) := by decide +kernel
theorem dL_act_788 : decode cL_act 788 = .ok (.aload_n 0, 1) := by decide +kernel
theorem dL_act_789 : decode cL_act 789 = .ok (.iload_n 3, 1) := by decide +kernel
theorem dL_act_790 : decode cL_act 790 = .ok (.iload 4, 2) := by decide +kernel
theorem dL_act_792 : decode cL_act 792 = .ok (.iload 8, 2) := by decide +kernel
theorem dL_act_794 : decode cL_act 794 = .ok (.invokevirtual 70, 3) := by decide +kernel
theorem dL_act_797 : decode cL_act 797 = .ok (.istore 6, 2) := by decide +kernel
theorem dL_act_799 : decode cL_act 799 = .ok (.goto 9, 3) := by decide +kernel
theorem dL_act_802 : decode cL_act 802 = .ok (.astore 9, 2) := by decide +kernel
theorem dL_act_804 : decode cL_act 804 = .ok (.bipush (-9), 2) := by decide +kernel
theorem dL_act_806 : decode cL_act 806 = .ok (.istore 6, 2) := by decide +kernel
theorem dL_act_808 : decode cL_act 808 = .ok (.iload 6, 2) := by decide +kernel
theorem dL_act_810 : decode cL_act 810 = .ok (.iload 7, 2) := by decide +kernel
theorem dL_act_812 : decode cL_act 812 = .ok (.if_icmp .ne 7, 3) := by decide +kernel
theorem dL_act_815 : decode cL_act 815 = .ok (.iconst 1, 1) := by decide +kernel
theorem dL_act_816 : decode cL_act 816 = .ok (.goto 4, 3) := by decide +kernel
theorem dL_act_819 : decode cL_act 819 = .ok (.iconst 0, 1) := by decide +kernel
theorem dL_act_820 : decode cL_act 820 = .ok (.ireturn, 1) := by decide +kernel
theorem dL_build_0 : decode cL_build 0 = .ok (.new 17, 3) := by decide +kernel
theorem dL_build_3 : decode cL_build 3 = .ok (.dup, 1) := by decide +kernel
theorem dL_build_4 : decode cL_build 4 = .ok (.invokespecial 73, 3) := by decide +kernel
theorem dL_build_7 : decode cL_build 7 = .ok (.astore_n 2, 1) := by decide +kernel
theorem dL_build_8 : decode cL_build 8 = .ok (.aload_n 1, 1) := by decide +kernel
theorem dL_build_9 : decode cL_build 9 = .ok (.iconst 0, 1) := by decide +kernel
theorem dL_build_10 : decode cL_build 10 = .ok (.invokestatic 74, 3) := by decide +kernel
theorem dL_build_13 : decode cL_build 13 = .ok (.bipush 30, 2) := by decide +kernel
theorem dL_build_15 : decode cL_build 15 = .ok (.invokestatic 9, 3) := by decide +kernel
theorem dL_build_18 : decode cL_build 18 = .ok (.istore_n 3, 1) := by decide +kernel
theorem dL_build_19 : decode cL_build 19 = .ok (.iconst 0, 1) := by decide +kernel
theorem dL_build_20 : decode cL_build 20 = .ok (.istore 4, 2) := by decide +kernel
theorem dL_build_22 : decode cL_build 22 = .ok (.iload 4, 2) := by decide +kernel
theorem dL_build_24 : decode cL_build 24 = .ok (.iload_n 3, 1) := by decide +kernel
theorem dL_build_25 : decode cL_build 25 = .ok (.if_icmp .ge 152, 3) := by decide +kernel
theorem dL_build_28 : decode cL_build 28 = .ok (.aload_n 1, 1) := by decide +kernel
theorem dL_build_29 : decode cL_build 29 = .ok (.iconst 1, 1) := by decide +kernel
theorem dL_build_30 : decode cL_build 30 = .ok (.iload 4, 2) := by decide +kernel
theorem dL_build_32 : decode cL_build 32 = .ok (.bipush 15, 2) := by decide +kernel
theorem dL_build_34 : decode cL_build 34 = .ok (.irem, 1) := by decide +kernel
theorem dL_build_35 : decode cL_build 35 = .ok (.iadd, 1) := by decide +kernel
theorem dL_build_36 : decode cL_build 36 = .ok (.invokestatic 74, 3) := by decide +kernel
theorem dL_build_39 : decode cL_build 39 = .ok (.iload 4, 2) := by decide +kernel
theorem dL_build_41 : decode cL_build 41 = .ok (.bipush 15, 2) := by decide +kernel
theorem dL_build_43 : decode cL_build 43 = .ok (.idiv, 1) := by decide +kernel
theorem dL_build_44 : decode cL_build 44 = .ok (.bipush 7, 2) := by decide +kernel
theorem dL_build_46 : decode cL_build 46 = .ok (.imul, 1) := by decide +kernel
theorem dL_build_47 : decode cL_build 47 = .ok (.ishr, 1) := by decide +kernel
theorem dL_build_48 : decode cL_build 48 = .ok (.bipush 57, 2) := by decide +kernel
theorem dL_build_50 : decode cL_build 50 = .ok (.iload 4, 2) := by decide +kernel
theorem dL_build_52 : decode cL_build 52 = .ok (.imul, 1) := by decide +kernel
theorem dL_build_53 : decode cL_build 53 = .ok (.iadd, 1) := by decide +kernel
theorem dL_build_54 : decode cL_build 54 = .ok (.istore 5, 2) := by decide +kernel
theorem dL_build_56 : decode cL_build 56 = .ok (.aload_n 1, 1) := by decide +kernel
theorem dL_build_57 : decode cL_build 57 = .ok (.iconst 0, 1) := by decide +kernel
theorem dL_build_58 : decode cL_build 58 = .ok (.invokestatic 74, 3) := by decide +kernel
theorem dL_build_61 : decode cL_build 61 = .ok (.iconst 5, 1) := by decide +kernel
theorem dL_build_62 : decode cL_build 62 = .ok (.ishr, 1) := by decide +kernel
theorem dL_build_63 : decode cL_build 63 = .ok (.iconst 3, 1) := by decide +kernel
theorem dL_build_64 : decode cL_build 64 = .ok (.invokestatic 9, 3) := by decide +kernel
theorem dL_build_67 : decode cL_build 67 = .ok (.ifCond .ne 7, 3) := by decide +kernel
theorem dL_build_70 : decode cL_build 70 = .ok (.iconst 0, 1) := by decide +kernel
theorem dL_build_71 : decode cL_build 71 = .ok (.goto 7, 3) := by decide +kernel
theorem dL_build_74 : decode cL_build 74 = .ok (.iload 4, 2) := by decide +kernel
theorem dL_build_76 : decode cL_build 76 = .ok (.iconst 2, 1) := by decide +kernel
theorem dL_build_77 : decode cL_build 77 = .ok (.irem, 1) := by decide +kernel
theorem dL_build_78 : decode cL_build 78 = .ok (.istore 6, 2) := by decide +kernel
theorem dL_build_80 : decode cL_build 80 = .ok (.aload_n 2, 1) := by decide +kernel
theorem dL_build_81 : decode cL_build 81 = .ok (.iload 5, 2) := by decide +kernel
theorem dL_build_83 : decode cL_build 83 = .ok (.invokestatic 22, 3) := by decide +kernel
theorem dL_build_86 : decode cL_build 86 = .ok (.istore 7, 2) := by decide +kernel
theorem dL_build_88 : decode cL_build 88 = .ok (.iload 5, 2) := by decide +kernel
theorem dL_build_90 : decode cL_build 90 = .ok (.bipush 6, 2) := by decide +kernel
theorem dL_build_92 : decode cL_build 92 = .ok (.ishr, 1) := by decide +kernel
theorem dL_build_93 : decode cL_build 93 = .ok (.sipush 1000, 3) := by decide +kernel
theorem dL_build_96 : decode cL_build 96 = .ok (.invokestatic 9, 3) := by decide +kernel
theorem dL_build_99 : decode cL_build 99 = .ok (.istore 8, 2) := by decide +kernel
theorem dL_build_101 : decode cL_build 101 = .ok (.aload_n 2, 1) := by decide +kernel
theorem dL_build_102 : decode cL_build 102 = .ok (.getfield 16, 3) := by decide +kernel
theorem dL_build_105 : decode cL_build 105 = .ok (.iload 6, 2) := by decide +kernel
theorem dL_build_107 : decode cL_build 107 = .ok (.aaload, 1) := by decide +kernel
theorem dL_build_108 : decode cL_build 108 = .ok (.arraylength, 1) := by decide +kernel
theorem dL_build_109 : decode cL_build 109 = .ok (.bipush 24, 2) := by decide +kernel
theorem dL_build_111 : decode cL_build 111 = .ok (.if_icmp .ne 6, 3) := by decide +kernel
theorem dL_build_114 : decode cL_build 114 = .ok (.goto 63, 3) := by decide +kernel
theorem dL_build_117 : decode cL_build 117 = .ok (.aload_n 2, 1) := by decide +kernel
theorem dL_build_118 : decode cL_build 118 = .ok (.iload 6, 2) := by decide +kernel
theorem dL_build_120 : decode cL_build 120 = .ok (.iload 7, 2) := by decide +kernel
theorem dL_build_122 : decode cL_build 122 = .ok (.invokevirtual 26, 3) := by decide +kernel
theorem dL_build_125 : decode cL_build 125 = .ok (.istore 9, 2) := by decide +kernel
theorem dL_build_127 : decode cL_build 127 = .ok (.aload_n 0, 1) := by decide +kernel
theorem dL_build_128 : decode cL_build 128 = .ok (.iload 6, 2) := by decide +kernel
theorem dL_build_130 : decode cL_build 130 = .ok (.iload 7, 2) := by decide +kernel
theorem dL_build_132 : decode cL_build 132 = .ok (.iload 8, 2) := by decide +kernel
theorem dL_build_134 : decode cL_build 134 = .ok (.invokevirtual 70, 3) := by decide +kernel
theorem dL_build_137 : decode cL_build 137 = .ok (.iload 9, 2) := by decide +kernel
theorem dL_build_139 : decode cL_build 139 = .ok (.ifCond .ge 7, 3) := by decide +kernel
theorem dL_build_142 : decode cL_build 142 = .ok (.iconst (-1), 1) := by decide +kernel
theorem dL_build_143 : decode cL_build 143 = .ok (.goto 13, 3) := by decide +kernel
theorem dL_build_146 : decode cL_build 146 = .ok (.aload_n 2, 1) := by decide +kernel
theorem dL_build_147 : decode cL_build 147 = .ok (.getfield 29, 3) := by decide +kernel
theorem dL_build_150 : decode cL_build 150 = .ok (.iload 6, 2) := by decide +kernel
theorem dL_build_152 : decode cL_build 152 = .ok (.aaload, 1) := by decide +kernel
theorem dL_build_153 : decode cL_build 153 = .ok (.iload 9, 2) := by decide +kernel
theorem dL_build_155 : decode cL_build 155 = .ok (.iaload, 1) := by decide +kernel
theorem dL_build_156 : decode cL_build 156 = .ok (.if_icmp .eq 5, 3) := by decide +kernel
theorem dL_build_159 : decode cL_build 159 = .ok (.aconst_null, 1) := by decide +kernel
theorem dL_build_160 : decode cL_build 160 = .ok (.areturn, 1) := by decide +kernel
theorem dL_build_161 : decode cL_build 161 = .ok (.aload_n 2, 1) := by decide +kernel
theorem dL_build_162 : decode cL_build 162 = .ok (.iload 6, 2) := by decide +kernel
theorem dL_build_164 : decode cL_build 164 = .ok (.iload 7, 2) := by decide +kernel
theorem dL_build_166 : decode cL_build 166 = .ok (.iload 8, 2) := by decide +kernel
theorem dL_build_168 : decode cL_build 168 = .ok (.invokevirtual 60, 3) := by decide +kernel
theorem dL_build_171 : decode cL_build 171 = .ok (.iinc 4 1, 3) := by decide +kernel
theorem dL_build_174 : decode cL_build 174 = .ok (.goto (-152), 3) := by decide +kernel
theorem dL_build_177 : decode cL_build 177 = .ok (.aload_n 2, 1) := by decide +kernel
theorem dL_build_178 : decode cL_build 178 = .ok (.areturn, 1) := by decide +kernel
theorem dL_law_0 : decode cL_law 0 = .ok (.new 37, 3) := by decide +kernel
theorem dL_law_3 : decode cL_law 3 = .ok (.dup, 1) := by decide +kernel
theorem dL_law_4 : decode cL_law 4 = .ok (.invokespecial 78, 3) := by decide +kernel
theorem dL_law_7 : decode cL_law 7 = .ok (.astore_n 1, 1) := by decide +kernel
theorem dL_law_8 : decode cL_law 8 = .ok (.aload_n 1, 1) := by decide +kernel
theorem dL_law_9 : decode cL_law 9 = .ok (.aload_n 0, 1) := by decide +kernel
theorem dL_law_10 : decode cL_law 10 = .ok (.invokestatic 79, 3) := by decide +kernel
theorem dL_law_13 : decode cL_law 13 = .ok (.astore_n 2, 1) := by decide +kernel
theorem dL_law_14 : decode cL_law 14 = .ok (.aload_n 2, 1) := by decide +kernel
theorem dL_law_15 : decode cL_law 15 = .ok (.ifnonnull 5, 3) := by decide +kernel
theorem dL_law_18 : decode cL_law 18 = .ok (.iconst 0, 1) := by decide +kernel
theorem dL_law_19 : decode cL_law 19 = .ok (.ireturn, 1) := by decide +kernel
theorem dL_law_20 : decode cL_law 20 = .ok (.iconst 0, 1) := by decide +kernel
theorem dL_law_21 : decode cL_law 21 = .ok (.istore_n 3, 1) := by decide +kernel
theorem dL_law_22 : decode cL_law 22 = .ok (.iload_n 3, 1) := by decide +kernel
theorem dL_law_23 : decode cL_law 23 = .ok (.bipush 10, 2) := by decide +kernel
theorem dL_law_25 : decode cL_law 25 = .ok (.if_icmp .ge 1085, 3) := by decide +kernel
theorem dL_law_28 : decode cL_law 28 = .ok (.aload_n 0, 1) := by decide +kernel
theorem dL_law_29 : decode cL_law 29 = .ok (.iload_n 3, 1) := by decide +kernel
theorem dL_law_30 : decode cL_law 30 = .ok (.invokestatic 74, 3) := by decide +kernel
theorem dL_law_33 : decode cL_law 33 = .ok (.iconst 2, 1) := by decide +kernel
theorem dL_law_34 : decode cL_law 34 = .ok (.ishr, 1) := by decide +kernel
theorem dL_law_35 : decode cL_law 35 = .ok (.bipush 53, 2) := by decide +kernel
theorem dL_law_37 : decode cL_law 37 = .ok (.iload_n 3, 1) := by decide +kernel
theorem dL_law_38 : decode cL_law 38 = .ok (.imul, 1) := by decide +kernel
theorem dL_law_39 : decode cL_law 39 = .ok (.iadd, 1) := by decide +kernel
theorem dL_law_40 : decode cL_law 40 = .ok (.istore 4, 2) := by decide +kernel
theorem dL_law_42 : decode cL_law 42 = .ok (.iconst 0, 1) := by decide +kernel
theorem dL_law_43 : decode cL_law 43 = .ok (.istore 5, 2) := by decide +kernel
theorem dL_law_45 : decode cL_law 45 = .ok (.iload 5, 2) := by decide +kernel
theorem dL_law_47 : decode cL_law 47 = .ok (.iconst 3, 1) := by decide +kernel
theorem dL_law_48 : decode cL_law 48 = .ok (.if_icmp .ge 32, 3) := by decide +kernel
theorem dL_law_51 : decode cL_law 51 = .ok (.aload_n 1, 1) := by decide +kernel
theorem dL_law_52 : decode cL_law 52 = .ok (.aload_n 2, 1) := by decide +kernel
theorem dL_law_53 : decode cL_law 53 = .ok (.iload 4, 2) := by decide +kernel
theorem dL_law_55 : decode cL_law 55 = .ok (.iconst 3, 1) := by decide +kernel
theorem dL_law_56 : decode cL_law 56 = .ok (.iload 5, 2) := by decide +kernel
theorem dL_law_58 : decode cL_law 58 = .ok (.imul, 1) := by decide +kernel
theorem dL_law_59 : decode cL_law 59 = .ok (.ishr, 1) := by decide +kernel
theorem dL_law_60 : decode cL_law 60 = .ok (.bipush 29, 2) := by decide +kernel
theorem dL_law_62 : decode cL_law 62 = .ok (.iload 5, 2) := by decide +kernel
theorem dL_law_64 : decode cL_law 64 = .ok (.imul, 1) := by decide +kernel
theorem dL_law_65 : decode cL_law 65 = .ok (.iadd, 1) := by decide +kernel
theorem dL_law_66 : decode cL_law 66 = .ok (.invokestatic 83, 3) := by decide +kernel
theorem dL_law_69 : decode cL_law 69 = .ok (.ifCond .ne 5, 3) := by decide +kernel
theorem dL_law_72 : decode cL_law 72 = .ok (.iconst 0, 1) := by decide +kernel
theorem dL_law_73 : decode cL_law 73 = .ok (.ireturn, 1) := by decide +kernel
theorem dL_law_74 : decode cL_law 74 = .ok (.iinc 5 1, 3) := by decide +kernel
theorem dL_law_77 : decode cL_law 77 = .ok (.goto (-32), 3) := by decide +kernel
theorem dL_law_80 : decode cL_law 80 = .ok (.aload_n 1, 1) := by decide +kernel
theorem dL_law_81 : decode cL_law 81 = .ok (.invokevirtual 87, 3) := by decide +kernel
theorem dL_law_84 : decode cL_law 84 = .ok (.lstore 5, 2) := by decide +kernel
theorem dL_law_86 : decode cL_law 86 = .ok (.iconst 0, 1) := by decide +kernel
theorem dL_law_87 : decode cL_law 87 = .ok (.istore 7, 2) := by decide +kernel
theorem dL_law_89 : decode cL_law 89 = .ok (.iload 7, 2) := by decide +kernel
theorem dL_law_91 : decode cL_law 91 = .ok (.iconst 2, 1) := by decide +kernel
theorem dL_law_92 : decode cL_law 92 = .ok (.if_icmp .ge 713, 3) := by decide +kernel
theorem dL_law_95 : decode cL_law 95 = .ok (.aload_n 1, 1) := by decide +kernel
theorem dL_law_96 : decode cL_law 96 = .ok (.iload 7, 2) := by decide +kernel
theorem dL_law_98 : decode cL_law 98 = .ok (.iconst 0, 1) := by decide +kernel
theorem dL_law_99 : decode cL_law 99 = .ok (.invokevirtual 91, 3) := by decide +kernel
theorem dL_law_102 : decode cL_law 102 = .ok (.istore 8, 2) := by decide +kernel
theorem dL_law_104 : decode cL_law 104 = .ok (.aload_n 1, 1) := by decide +kernel
theorem dL_law_105 : decode cL_law 105 = .ok (.iload 7, 2) := by decide +kernel
theorem dL_law_107 : decode cL_law 107 = .ok (.iconst 1, 1) := by decide +kernel
theorem dL_law_108 : decode cL_law 108 = .ok (.invokevirtual 91, 3) := by decide +kernel
theorem dL_law_111 : decode cL_law 111 = .ok (.iconst 0, 1) := by decide +kernel
theorem dL_law_112 : decode cL_law 112 = .ok (.iload 8, 2) := by decide +kernel
theorem dL_law_114 : decode cL_law 114 = .ok (.iconst 1, 1) := by decide +kernel
theorem dL_law_115 : decode cL_law 115 = .ok (.isub, 1) := by decide +kernel
theorem dL_law_116 : decode cL_law 116 = .ok (.invokestatic 94, 3) := by decide +kernel
theorem dL_law_119 : decode cL_law 119 = .ok (.if_icmp .ne 19, 3) := by decide +kernel
theorem dL_law_122 : decode cL_law 122 = .ok (.iload 8, 2) := by decide +kernel
theorem dL_law_124 : decode cL_law 124 = .ok (.iconst 2, 1) := by decide +kernel
theorem dL_law_125 : decode cL_law 125 = .ok (.if_icmp .ge 15, 3) := by decide +kernel
theorem dL_law_128 : decode cL_law 128 = .ok (.aload_n 1, 1) := by decide +kernel
theorem dL_law_129 : decode cL_law 129 = .ok (.iload 7, 2) := by decide +kernel
theorem dL_law_131 : decode cL_law 131 = .ok (.invokevirtual 97, 3) := by decide +kernel
theorem dL_law_134 : decode cL_law 134 = .ok (.iconst (-1), 1) := by decide +kernel
theorem dL_law_135 : decode cL_law 135 = .ok (.if_icmp .eq 5, 3) := by decide +kernel
theorem dL_law_138 : decode cL_law 138 = .ok (.iconst 0, 1) := by decide +kernel
theorem dL_law_139 : decode cL_law 139 = .ok (.ireturn, 1) := by decide +kernel
theorem dL_law_140 : decode cL_law 140 = .ok (.iconst 0, 1) := by decide +kernel
theorem dL_law_141 : decode cL_law 141 = .ok (.istore 9, 2) := by decide +kernel
theorem dL_law_143 : decode cL_law 143 = .ok (.iconst 0, 1) := by decide +kernel
theorem dL_law_144 : decode cL_law 144 = .ok (.istore 10, 2) := by decide +kernel
theorem dL_law_146 : decode cL_law 146 = .ok (.iconst 0, 1) := by decide +kernel
theorem dL_law_147 : decode cL_law 147 = .ok (.istore 11, 2) := by decide +kernel
theorem dL_law_149 : decode cL_law 149 = .ok (.iload 11, 2) := by decide +kernel
theorem dL_law_151 : decode cL_law 151 = .ok (.iload 8, 2) := by decide +kernel
theorem dL_law_153 : decode cL_law 153 = .ok (.if_icmp .ge 239, 3) := by decide +kernel
theorem dL_law_156 : decode cL_law 156 = .ok (.aload_n 1, 1) := by decide +kernel
theorem dL_law_157 : decode cL_law 157 = .ok (.iload 7, 2) := by decide +kernel
theorem dL_law_159 : decode cL_law 159 = .ok (.iload 11, 2) := by decide +kernel
theorem dL_law_161 : decode cL_law 161 = .ok (.invokevirtual 101, 3) := by decide +kernel
theorem dL_law_164 : decode cL_law 164 = .ok (.istore 12, 2) := by decide +kernel
theorem dL_law_166 : decode cL_law 166 = .ok (.aload_n 1, 1) := by decide +kernel
theorem dL_law_167 : decode cL_law 167 = .ok (.iload 7, 2) := by decide +kernel
theorem dL_law_169 : decode cL_law 169 = .ok (.iload 12, 2) := by decide +kernel
theorem dL_law_171 : decode cL_law 171 = .ok (.iconst 0, 1) := by decide +kernel
theorem dL_law_172 : decode cL_law 172 = .ok (.invokevirtual 104, 3) := by decide +kernel
theorem dL_law_175 : decode cL_law 175 = .ok (.istore 13, 2) := by decide +kernel
theorem dL_law_177 : decode cL_law 177 = .ok (.aload_n 1, 1) := by decide +kernel
theorem dL_law_178 : decode cL_law 178 = .ok (.iload 7, 2) := by decide +kernel
theorem dL_law_180 : decode cL_law 180 = .ok (.iload 12, 2) := by decide +kernel
theorem dL_law_182 : decode cL_law 182 = .ok (.iconst 1, 1) := by decide +kernel
theorem dL_law_183 : decode cL_law 183 = .ok (.invokevirtual 104, 3) := by decide +kernel
theorem dL_law_186 : decode cL_law 186 = .ok (.iload 12, 2) := by decide +kernel
theorem dL_law_188 : decode cL_law 188 = .ok (.if_icmp .ne 54, 3) := by decide +kernel
theorem dL_law_191 : decode cL_law 191 = .ok (.aload_n 1, 1) := by decide +kernel
theorem dL_law_192 : decode cL_law 192 = .ok (.iload 7, 2) := by decide +kernel
theorem dL_law_194 : decode cL_law 194 = .ok (.iload 12, 2) := by decide +kernel
theorem dL_law_196 : decode cL_law 196 = .ok (.iconst 2, 1) := by decide +kernel
theorem dL_law_197 : decode cL_law 197 = .ok (.invokevirtual 104, 3) := by decide +kernel
theorem dL_law_200 : decode cL_law 200 = .ok (.iconst (-1), 1) := by decide +kernel
theorem dL_law_201 : decode cL_law 201 = .ok (.if_icmp .ne 41, 3) := by decide +kernel
theorem dL_law_204 : decode cL_law 204 = .ok (.aload_n 1, 1) := by decide +kernel
theorem dL_law_205 : decode cL_law 205 = .ok (.iload 7, 2) := by decide +kernel
theorem dL_law_207 : decode cL_law 207 = .ok (.iload 12, 2) := by decide +kernel
theorem dL_law_209 : decode cL_law 209 = .ok (.invokevirtual 107, 3) := by decide +kernel
theorem dL_law_212 : decode cL_law 212 = .ok (.iload 12, 2) := by decide +kernel
theorem dL_law_214 : decode cL_law 214 = .ok (.if_icmp .ne 28, 3) := by decide +kernel
theorem dL_law_217 : decode cL_law 217 = .ok (.aload_n 1, 1) := by decide +kernel
theorem dL_law_218 : decode cL_law 218 = .ok (.iload 7, 2) := by decide +kernel
theorem dL_law_220 : decode cL_law 220 = .ok (.iload 12, 2) := by decide +kernel
theorem dL_law_222 : decode cL_law 222 = .ok (.invokevirtual 110, 3) := by decide +kernel
theorem dL_law_225 : decode cL_law 225 = .ok (.ifCond .lt 17, 3) := by decide +kernel
theorem dL_law_228 : decode cL_law 228 = .ok (.aload_n 1, 1) := by decide +kernel
theorem dL_law_229 : decode cL_law 229 = .ok (.iload 7, 2) := by decide +kernel
theorem dL_law_231 : decode cL_law 231 = .ok (.iload 12, 2) := by decide +kernel
theorem dL_law_233 : decode cL_law 233 = .ok (.invokevirtual 110, 3) := by decide +kernel
theorem dL_law_236 : decode cL_law 236 = .ok (.sipush 999, 3) := by decide +kernel
theorem dL_law_239 : decode cL_law 239 = .ok (.if_icmp .le 5, 3) := by decide +kernel
theorem dL_law_242 : decode cL_law 242 = .ok (.iconst 0, 1) := by decide +kernel
theorem dL_law_243 : decode cL_law 243 = .ok (.ireturn, 1) := by decide +kernel
theorem dL_law_244 : decode cL_law 244 = .ok (.aload_n 1, 1) := by decide +kernel
theorem dL_law_245 : decode cL_law 245 = .ok (.iload 7, 2) := by decide +kernel
theorem dL_law_247 : decode cL_law 247 = .ok (.iload 12, 2) := by decide +kernel
theorem dL_law_249 : decode cL_law 249 = .ok (.iconst 1, 1) := by decide +kernel
theorem dL_law_250 : decode cL_law 250 = .ok (.invokevirtual 112, 3) := by decide +kernel
theorem dL_law_253 : decode cL_law 253 = .ok (.iload 11, 2) := by decide +kernel
theorem dL_law_255 : decode cL_law 255 = .ok (.iconst 1, 1) := by decide +kernel
theorem dL_law_256 : decode cL_law 256 = .ok (.iadd, 1) := by decide +kernel
theorem dL_law_257 : decode cL_law 257 = .ok (.iload 8, 2) := by decide +kernel
theorem dL_law_259 : decode cL_law 259 = .ok (.if_icmp .ge 16, 3) := by decide +kernel
theorem dL_law_262 : decode cL_law 262 = .ok (.aload_n 1, 1) := by decide +kernel
theorem dL_law_263 : decode cL_law 263 = .ok (.iload 7, 2) := by decide +kernel
theorem dL_law_265 : decode cL_law 265 = .ok (.iload 11, 2) := by decide +kernel
theorem dL_law_267 : decode cL_law 267 = .ok (.iconst 1, 1) := by decide +kernel
theorem dL_law_268 : decode cL_law 268 = .ok (.iadd, 1) := by decide +kernel
theorem dL_law_269 : decode cL_law 269 = .ok (.invokevirtual 101, 3) := by decide +kernel
theorem dL_law_272 : decode cL_law 272 = .ok (.goto 4, 3) := by decide +kernel
theorem dL_law_275 : decode cL_law 275 = .ok (.iconst (-1), 1) := by decide +kernel
theorem dL_law_276 : decode cL_law 276 = .ok (.if_icmp .ne 54, 3) := by decide +kernel
theorem dL_law_279 : decode cL_law 279 = .ok (.aload_n 1, 1) := by decide +kernel
theorem dL_law_280 : decode cL_law 280 = .ok (.iload 7, 2) := by decide +kernel
theorem dL_law_282 : decode cL_law 282 = .ok (.iload 12, 2) := by decide +kernel
theorem dL_law_284 : decode cL_law 284 = .ok (.iconst 0, 1) := by decide +kernel
theorem dL_law_285 : decode cL_law 285 = .ok (.invokevirtual 112, 3) := by decide +kernel
theorem dL_law_288 : decode cL_law 288 = .ok (.iload 11, 2) := by decide +kernel
theorem dL_law_290 : decode cL_law 290 = .ok (.ifCond .le 16, 3) := by decide +kernel
theorem dL_law_293 : decode cL_law 293 = .ok (.aload_n 1, 1) := by decide +kernel
theorem dL_law_294 : decode cL_law 294 = .ok (.iload 7, 2) := by decide +kernel
theorem dL_law_296 : decode cL_law 296 = .ok (.iload 11, 2) := by decide +kernel
theorem dL_law_298 : decode cL_law 298 = .ok (.iconst 1, 1) := by decide +kernel
theorem dL_law_299 : decode cL_law 299 = .ok (.isub, 1) := by decide +kernel
theorem dL_law_300 : decode cL_law 300 = .ok (.invokevirtual 101, 3) := by decide +kernel
theorem dL_law_303 : decode cL_law 303 = .ok (.goto 4, 3) := by decide +kernel
theorem dL_law_306 : decode cL_law 306 = .ok (.iconst (-1), 1) := by decide +kernel
theorem dL_law_307 : decode cL_law 307 = .ok (.if_icmp .ne 23, 3) := by decide +kernel
theorem dL_law_310 : decode cL_law 310 = .ok (.iload 11, 2) := by decide +kernel
theorem dL_law_312 : decode cL_law 312 = .ok (.ifCond .le 20, 3) := by decide +kernel
theorem dL_law_315 : decode cL_law 315 = .ok (.aload_n 1, 1) := by decide +kernel
theorem dL_law_316 : decode cL_law 316 = .ok (.iload 7, 2) := by decide +kernel
theorem dL_law_318 : decode cL_law 318 = .ok (.iload 11, 2) := by decide +kernel
theorem dL_law_320 : decode cL_law 320 = .ok (.iconst 1, 1) := by decide +kernel
theorem dL_law_321 : decode cL_law 321 = .ok (.isub, 1) := by decide +kernel
theorem dL_law_322 : decode cL_law 322 = .ok (.invokevirtual 101, 3) := by decide +kernel
theorem dL_law_325 : decode cL_law 325 = .ok (.iload 12, 2) := by decide +kernel
theorem dL_law_327 : decode cL_law 327 = .ok (.if_icmp .lt 5, 3) := by decide +kernel
theorem dL_law_330 : decode cL_law 330 = .ok (.iconst 0, 1) := by decide +kernel
theorem dL_law_331 : decode cL_law 331 = .ok (.ireturn, 1) := by decide +kernel
theorem dL_law_332 : decode cL_law 332 = .ok (.iload 9, 2) := by decide +kernel
theorem dL_law_334 : decode cL_law 334 = .ok (.iload 13, 2) := by decide +kernel
theorem dL_law_336 : decode cL_law 336 = .ok (.invokestatic 94, 3) := by decide +kernel
theorem dL_law_339 : decode cL_law 339 = .ok (.istore 9, 2) := by decide +kernel
theorem dL_law_341 : decode cL_law 341 = .ok (.iload 10, 2) := by decide +kernel
theorem dL_law_343 : decode cL_law 343 = .ok (.iload 13, 2) := by decide +kernel
theorem dL_law_345 : decode cL_law 345 = .ok (.iadd, 1) := by decide +kernel
theorem dL_law_346 : decode cL_law 346 = .ok (.istore 10, 2) := by decide +kernel
theorem dL_law_348 : decode cL_law 348 = .ok (.iconst 0, 1) := by decide +kernel
theorem dL_law_349 : decode cL_law 349 = .ok (.istore 14, 2) := by decide +kernel
theorem dL_law_351 : decode cL_law 351 = .ok (.iload 14, 2) := by decide +kernel
theorem dL_law_353 : decode cL_law 353 = .ok (.iload 11, 2) := by decide +kernel
theorem dL_law_355 : decode cL_law 355 = .ok (.if_icmp .ge 31, 3) := by decide +kernel
theorem dL_law_358 : decode cL_law 358 = .ok (.aload_n 1, 1) := by decide +kernel
theorem dL_law_359 : decode cL_law 359 = .ok (.iload 7, 2) := by decide +kernel
theorem dL_law_361 : decode cL_law 361 = .ok (.iload 14, 2) := by decide +kernel
theorem dL_law_363 : decode cL_law 363 = .ok (.invokevirtual 101, 3) := by decide +kernel
theorem dL_law_366 : decode cL_law 366 = .ok (.iload 12, 2) := by decide +kernel
theorem dL_law_368 : decode cL_law 368 = .ok (.ixor, 1) := by decide +kernel
theorem dL_law_369 : decode cL_law 369 = .ok (.aload_n 1, 1) := by decide +kernel
theorem dL_law_370 : decode cL_law 370 = .ok (.iload 7, 2) := by decide +kernel
theorem dL_law_372 : decode cL_law 372 = .ok (.invokevirtual 97, 3) := by decide +kernel
theorem dL_law_375 : decode cL_law 375 = .ok (.if_icmp .le 5, 3) := by decide +kernel
theorem dL_law_378 : decode cL_law 378 = .ok (.iconst 0, 1) := by decide +kernel
theorem dL_law_379 : decode cL_law 379 = .ok (.ireturn, 1) := by decide +kernel
theorem dL_law_380 : decode cL_law 380 = .ok (.iinc 14 1, 3) := by decide +kernel
theorem dL_law_383 : decode cL_law 383 = .ok (.goto (-32), 3) := by decide +kernel
theorem dL_law_386 : decode cL_law 386 = .ok (.iinc 11 1, 3) := by decide +kernel
theorem dL_law_389 : decode cL_law 389 = .ok (.goto (-240), 3) := by decide +kernel
theorem dL_law_392 : decode cL_law 392 = .ok (.aload_n 1, 1) := by decide +kernel
theorem dL_law_393 : decode cL_law 393 = .ok (.iload 7, 2) := by decide +kernel
theorem dL_law_395 : decode cL_law 395 = .ok (.iconst 2, 1) := by decide +kernel
theorem dL_law_396 : decode cL_law 396 = .ok (.invokevirtual 91, 3) := by decide +kernel
theorem dL_law_399 : decode cL_law 399 = .ok (.iload 9, 2) := by decide +kernel
theorem dL_law_401 : decode cL_law 401 = .ok (.if_icmp .ne 41, 3) := by decide +kernel
theorem dL_law_404 : decode cL_law 404 = .ok (.aload_n 1, 1) := by decide +kernel
theorem dL_law_405 : decode cL_law 405 = .ok (.iload 7, 2) := by decide +kernel
theorem dL_law_407 : decode cL_law 407 = .ok (.iconst 3, 1) := by decide +kernel
theorem dL_law_408 : decode cL_law 408 = .ok (.invokevirtual 91, 3) := by decide +kernel
theorem dL_law_411 : decode cL_law 411 = .ok (.iload 10, 2) := by decide +kernel
theorem dL_law_413 : decode cL_law 413 = .ok (.if_icmp .ne 29, 3) := by decide +kernel
theorem dL_law_416 : decode cL_law 416 = .ok (.aload_n 1, 1) := by decide +kernel
theorem dL_law_417 : decode cL_law 417 = .ok (.iload 7, 2) := by decide +kernel
theorem dL_law_419 : decode cL_law 419 = .ok (.invokevirtual 116, 3) := by decide +kernel
theorem dL_law_422 : decode cL_law 422 = .ok (.iload 8, 2) := by decide +kernel
theorem dL_law_424 : decode cL_law 424 = .ok (.ifCond .ne 7, 3) := by decide +kernel
theorem dL_law_427 : decode cL_law 427 = .ok (.dconst 0, 1) := by decide +kernel
theorem dL_law_428 : decode cL_law 428 = .ok (.goto 10, 3) := by decide +kernel
theorem dL_law_431 : decode cL_law 431 = .ok (.iload 10, 2) := by decide +kernel
theorem dL_law_433 : decode cL_law 433 = .ok (.i2d, 1) := by decide +kernel
theorem dL_law_434 : decode cL_law 434 = .ok (.iload 8, 2) := by decide +kernel
theorem dL_law_436 : decode cL_law 436 = .ok (.i2d, 1) := by decide +kernel
theorem dL_law_437 : decode cL_law 437 = .ok (.ddiv, 1) := by decide +kernel
theorem dL_law_438 : decode cL_law 438 = .ok (.dcmp .l, 1) := by decide +kernel
theorem dL_law_439 : decode cL_law 439 = .ok (.ifCond .eq 5, 3) := by decide +kernel
theorem dL_law_442 : decode cL_law 442 = .ok (.iconst 0, 1) := by decide +kernel
theorem dL_law_443 : decode cL_law 443 = .ok (.ireturn, 1) := by decide +kernel
theorem dL_law_444 : decode cL_law 444 = .ok (.iload 8, 2) := by decide +kernel
theorem dL_law_446 : decode cL_law 446 = .ok (.iconst 1, 1) := by decide +kernel
theorem dL_law_447 : decode cL_law 447 = .ok (.if_icmp .le 28, 3) := by decide +kernel
theorem dL_law_450 : decode cL_law 450 = .ok (.bipush 31, 2) := by decide +kernel
theorem dL_law_452 : decode cL_law 452 = .ok (.aload_n 1, 1) := by decide +kernel
theorem dL_law_453 : decode cL_law 453 = .ok (.iload 7, 2) := by decide +kernel
theorem dL_law_455 : decode cL_law 455 = .ok (.invokevirtual 97, 3) := by decide +kernel
theorem dL_law_458 : decode cL_law 458 = .ok (.invokestatic 120, 3) := by decide +kernel
theorem dL_law_461 : decode cL_law 461 = .ok (.isub, 1) := by decide +kernel
theorem dL_law_462 : decode cL_law 462 = .ok (.aload_n 1, 1) := by decide +kernel
theorem dL_law_463 : decode cL_law 463 = .ok (.iload 7, 2) := by decide +kernel
theorem dL_law_465 : decode cL_law 465 = .ok (.iconst 0, 1) := by decide +kernel
theorem dL_law_466 : decode cL_law 466 = .ok (.iconst 0, 1) := by decide +kernel
theorem dL_law_467 : decode cL_law 467 = .ok (.invokevirtual 125, 3) := by decide +kernel
theorem dL_law_470 : decode cL_law 470 = .ok (.if_icmp .eq 5, 3) := by decide +kernel
theorem dL_law_473 : decode cL_law 473 = .ok (.iconst 0, 1) := by decide +kernel
theorem dL_law_474 : decode cL_law 474 = .ok (.ireturn, 1) := by decide +kernel
theorem dL_law_475 : decode cL_law 475 = .ok (.iconst 0, 1) := by decide +kernel
theorem dL_law_476 : decode cL_law 476 = .ok (.istore 11, 2) := by decide +kernel
theorem dL_law_478 : decode cL_law 478 = .ok (.iload 11, 2) := by decide +kernel
theorem dL_law_480 : decode cL_law 480 = .ok (.iconst 2, 1) := by decide +kernel
theorem dL_law_481 : decode cL_law 481 = .ok (.iload 8, 2) := by decide +kernel
theorem dL_law_483 : decode cL_law 483 = .ok (.imul, 1) := by decide +kernel
theorem dL_law_484 : decode cL_law 484 = .ok (.iconst 1, 1) := by decide +kernel
theorem dL_law_485 : decode cL_law 485 = .ok (.isub, 1) := by decide +kernel
theorem dL_law_486 : decode cL_law 486 = .ok (.if_icmp .ge 313, 3) := by decide +kernel
theorem dL_law_489 : decode cL_law 489 = .ok (.aload_n 1, 1) := by decide +kernel
theorem dL_law_490 : decode cL_law 490 = .ok (.iload 7, 2) := by decide +kernel
theorem dL_law_492 : decode cL_law 492 = .ok (.iload 11, 2) := by decide +kernel
theorem dL_law_494 : decode cL_law 494 = .ok (.iconst 0, 1) := by decide +kernel
theorem dL_law_495 : decode cL_law 495 = .ok (.invokevirtual 125, 3) := by decide +kernel
theorem dL_law_498 : decode cL_law 498 = .ok (.istore 12, 2) := by decide +kernel
theorem dL_law_500 : decode cL_law 500 = .ok (.iload 12, 2) := by decide +kernel
theorem dL_law_502 : decode cL_law 502 = .ok (.ifCond .ge 68, 3) := by decide +kernel
theorem dL_law_505 : decode cL_law 505 = .ok (.aload_n 1, 1) := by decide +kernel
theorem dL_law_506 : decode cL_law 506 = .ok (.iload 7, 2) := by decide +kernel
theorem dL_law_508 : decode cL_law 508 = .ok (.iload 11, 2) := by decide +kernel
theorem dL_law_510 : decode cL_law 510 = .ok (.iconst 1, 1) := by decide +kernel
theorem dL_law_511 : decode cL_law 511 = .ok (.invokevirtual 125, 3) := by decide +kernel
theorem dL_law_514 : decode cL_law 514 = .ok (.iconst 1, 1) := by decide +kernel
theorem dL_law_515 : decode cL_law 515 = .ok (.if_icmp .ne 53, 3) := by decide +kernel
theorem dL_law_518 : decode cL_law 518 = .ok (.aload_n 1, 1) := by decide +kernel
theorem dL_law_519 : decode cL_law 519 = .ok (.iload 7, 2) := by decide +kernel
theorem dL_law_521 : decode cL_law 521 = .ok (.iload 11, 2) := by decide +kernel
theorem dL_law_523 : decode cL_law 523 = .ok (.iconst 2, 1) := by decide +kernel
theorem dL_law_524 : decode cL_law 524 = .ok (.invokevirtual 125, 3) := by decide +kernel
theorem dL_law_527 : decode cL_law 527 = .ok (.aload_n 1, 1) := by decide +kernel
theorem dL_law_528 : decode cL_law 528 = .ok (.iload 7, 2) := by decide +kernel
theorem dL_law_530 : decode cL_law 530 = .ok (.iload 11, 2) := by decide +kernel
theorem dL_law_532 : decode cL_law 532 = .ok (.iconst 3, 1) := by decide +kernel
theorem dL_law_533 : decode cL_law 533 = .ok (.invokevirtual 125, 3) := by decide +kernel
theorem dL_law_536 : decode cL_law 536 = .ok (.if_icmp .ne 32, 3) := by decide +kernel
theorem dL_law_539 : decode cL_law 539 = .ok (.aload_n 1, 1) := by decide +kernel
theorem dL_law_540 : decode cL_law 540 = .ok (.iload 7, 2) := by decide +kernel
theorem dL_law_542 : decode cL_law 542 = .ok (.aload_n 1, 1) := by decide +kernel
theorem dL_law_543 : decode cL_law 543 = .ok (.iload 7, 2) := by decide +kernel
theorem dL_law_545 : decode cL_law 545 = .ok (.iload 11, 2) := by decide +kernel
theorem dL_law_547 : decode cL_law 547 = .ok (.iconst 2, 1) := by decide +kernel
theorem dL_law_548 : decode cL_law 548 = .ok (.invokevirtual 125, 3) := by decide +kernel
theorem dL_law_551 : decode cL_law 551 = .ok (.iconst 0, 1) := by decide +kernel
theorem dL_law_552 : decode cL_law 552 = .ok (.invokevirtual 104, 3) := by decide +kernel
theorem dL_law_555 : decode cL_law 555 = .ok (.aload_n 1, 1) := by decide +kernel
theorem dL_law_556 : decode cL_law 556 = .ok (.iload 7, 2) := by decide +kernel
theorem dL_law_558 : decode cL_law 558 = .ok (.iload 11, 2) := by decide +kernel
theorem dL_law_560 : decode cL_law 560 = .ok (.bipush 6, 2) := by decide +kernel
theorem dL_law_562 : decode cL_law 562 = .ok (.invokevirtual 125, 3) := by decide +kernel
theorem dL_law_565 : decode cL_law 565 = .ok (.if_icmp .eq 228, 3) := by decide +kernel
theorem dL_law_568 : decode cL_law 568 = .ok (.iconst 0, 1) := by decide +kernel
theorem dL_law_569 : decode cL_law 569 = .ok (.ireturn, 1) := by decide +kernel
theorem dL_law_570 : decode cL_law 570 = .ok (.aload_n 1, 1) := by decide +kernel
theorem dL_law_571 : decode cL_law 571 = .ok (.iload 7, 2) := by decide +kernel
theorem dL_law_573 : decode cL_law 573 = .ok (.iload 11, 2) := by decide +kernel
theorem dL_law_575 : decode cL_law 575 = .ok (.iconst 4, 1) := by decide +kernel
theorem dL_law_576 : decode cL_law 576 = .ok (.invokevirtual 125, 3) := by decide +kernel
theorem dL_law_579 : decode cL_law 579 = .ok (.istore 13, 2) := by decide +kernel
theorem dL_law_581 : decode cL_law 581 = .ok (.aload_n 1, 1) := by decide +kernel
theorem dL_law_582 : decode cL_law 582 = .ok (.iload 7, 2) := by decide +kernel
theorem dL_law_584 : decode cL_law 584 = .ok (.iload 11, 2) := by decide +kernel
theorem dL_law_586 : decode cL_law 586 = .ok (.iconst 5, 1) := by decide +kernel
theorem dL_law_587 : decode cL_law 587 = .ok (.invokevirtual 125, 3) := by decide +kernel
theorem dL_law_590 : decode cL_law 590 = .ok (.istore 14, 2) := by decide +kernel
theorem dL_law_592 : decode cL_law 592 = .ok (.aload_n 1, 1) := by decide +kernel
theorem dL_law_593 : decode cL_law 593 = .ok (.iload 7, 2) := by decide +kernel
theorem dL_law_595 : decode cL_law 595 = .ok (.iload 13, 2) := by decide +kernel
theorem dL_law_597 : decode cL_law 597 = .ok (.iconst 1, 1) := by decide +kernel
theorem dL_law_598 : decode cL_law 598 = .ok (.invokevirtual 125, 3) := by decide +kernel
theorem dL_law_601 : decode cL_law 601 = .ok (.aload_n 1, 1) := by decide +kernel
theorem dL_law_602 : decode cL_law 602 = .ok (.iload 7, 2) := by decide +kernel
theorem dL_law_604 : decode cL_law 604 = .ok (.iload 14, 2) := by decide +kernel
theorem dL_law_606 : decode cL_law 606 = .ok (.iconst 1, 1) := by decide +kernel
theorem dL_law_607 : decode cL_law 607 = .ok (.invokevirtual 125, 3) := by decide +kernel
theorem dL_law_610 : decode cL_law 610 = .ok (.iadd, 1) := by decide +kernel
theorem dL_law_611 : decode cL_law 611 = .ok (.aload_n 1, 1) := by decide +kernel
theorem dL_law_612 : decode cL_law 612 = .ok (.iload 7, 2) := by decide +kernel
theorem dL_law_614 : decode cL_law 614 = .ok (.iload 11, 2) := by decide +kernel
theorem dL_law_616 : decode cL_law 616 = .ok (.iconst 1, 1) := by decide +kernel
theorem dL_law_617 : decode cL_law 617 = .ok (.invokevirtual 125, 3) := by decide +kernel
theorem dL_law_620 : decode cL_law 620 = .ok (.if_icmp .ne 171, 3) := by decide +kernel
theorem dL_law_623 : decode cL_law 623 = .ok (.aload_n 1, 1) := by decide +kernel
theorem dL_law_624 : decode cL_law 624 = .ok (.iload 7, 2) := by decide +kernel
theorem dL_law_626 : decode cL_law 626 = .ok (.iload 13, 2) := by decide +kernel
theorem dL_law_628 : decode cL_law 628 = .ok (.iconst 2, 1) := by decide +kernel
theorem dL_law_629 : decode cL_law 629 = .ok (.invokevirtual 125, 3) := by decide +kernel
theorem dL_law_632 : decode cL_law 632 = .ok (.aload_n 1, 1) := by decide +kernel
theorem dL_law_633 : decode cL_law 633 = .ok (.iload 7, 2) := by decide +kernel
theorem dL_law_635 : decode cL_law 635 = .ok (.iload 11, 2) := by decide +kernel
theorem dL_law_637 : decode cL_law 637 = .ok (.iconst 2, 1) := by decide +kernel
theorem dL_law_638 : decode cL_law 638 = .ok (.invokevirtual 125, 3) := by decide +kernel
theorem dL_law_641 : decode cL_law 641 = .ok (.if_icmp .ne 150, 3) := by decide +kernel
theorem dL_law_644 : decode cL_law 644 = .ok (.aload_n 1, 1) := by decide +kernel
theorem dL_law_645 : decode cL_law 645 = .ok (.iload 7, 2) := by decide +kernel
theorem dL_law_647 : decode cL_law 647 = .ok (.iload 14, 2) := by decide +kernel
theorem dL_law_649 : decode cL_law 649 = .ok (.iconst 3, 1) := by decide +kernel
theorem dL_law_650 : decode cL_law 650 = .ok (.invokevirtual 125, 3) := by decide +kernel
theorem dL_law_653 : decode cL_law 653 = .ok (.aload_n 1, 1) := by decide +kernel
theorem dL_law_654 : decode cL_law 654 = .ok (.iload 7, 2) := by decide +kernel
theorem dL_law_656 : decode cL_law 656 = .ok (.iload 11, 2) := by decide +kernel
theorem dL_law_658 : decode cL_law 658 = .ok (.iconst 3, 1) := by decide +kernel
theorem dL_law_659 : decode cL_law 659 = .ok (.invokevirtual 125, 3) := by decide +kernel
theorem dL_law_662 : decode cL_law 662 = .ok (.if_icmp .ne 129, 3) := by decide +kernel
theorem dL_law_665 : decode cL_law 665 = .ok (.aload_n 1, 1) := by decide +kernel
theorem dL_law_666 : decode cL_law 666 = .ok (.iload 7, 2) := by decide +kernel
theorem dL_law_668 : decode cL_law 668 = .ok (.iload 13, 2) := by decide +kernel
theorem dL_law_670 : decode cL_law 670 = .ok (.iconst 3, 1) := by decide +kernel
theorem dL_law_671 : decode cL_law 671 = .ok (.invokevirtual 125, 3) := by decide +kernel
theorem dL_law_674 : decode cL_law 674 = .ok (.aload_n 1, 1) := by decide +kernel
theorem dL_law_675 : decode cL_law 675 = .ok (.iload 7, 2) := by decide +kernel
theorem dL_law_677 : decode cL_law 677 = .ok (.iload 14, 2) := by decide +kernel
theorem dL_law_679 : decode cL_law 679 = .ok (.iconst 2, 1) := by decide +kernel
theorem dL_law_680 : decode cL_law 680 = .ok (.invokevirtual 125, 3) := by decide +kernel
theorem dL_law_683 : decode cL_law 683 = .ok (.if_icmp .ge 108, 3) := by decide +kernel
theorem dL_law_686 : decode cL_law 686 = .ok (.aload_n 1, 1) := by decide +kernel
theorem dL_law_687 : decode cL_law 687 = .ok (.iload 7, 2) := by decide +kernel
theorem dL_law_689 : decode cL_law 689 = .ok (.iload 13, 2) := by decide +kernel
theorem dL_law_691 : decode cL_law 691 = .ok (.iconst 0, 1) := by decide +kernel
theorem dL_law_692 : decode cL_law 692 = .ok (.invokevirtual 125, 3) := by decide +kernel
theorem dL_law_695 : decode cL_law 695 = .ok (.iload 12, 2) := by decide +kernel
theorem dL_law_697 : decode cL_law 697 = .ok (.if_icmp .ge 94, 3) := by decide +kernel
theorem dL_law_700 : decode cL_law 700 = .ok (.aload_n 1, 1) := by decide +kernel
theorem dL_law_701 : decode cL_law 701 = .ok (.iload 7, 2) := by decide +kernel
theorem dL_law_703 : decode cL_law 703 = .ok (.iload 14, 2) := by decide +kernel
theorem dL_law_705 : decode cL_law 705 = .ok (.iconst 0, 1) := by decide +kernel
theorem dL_law_706 : decode cL_law 706 = .ok (.invokevirtual 125, 3) := by decide +kernel
theorem dL_law_709 : decode cL_law 709 = .ok (.iload 12, 2) := by decide +kernel
theorem dL_law_711 : decode cL_law 711 = .ok (.if_icmp .ge 80, 3) := by decide +kernel
theorem dL_law_714 : decode cL_law 714 = .ok (.aload_n 1, 1) := by decide +kernel
theorem dL_law_715 : decode cL_law 715 = .ok (.iload 7, 2) := by decide +kernel
theorem dL_law_717 : decode cL_law 717 = .ok (.iload 13, 2) := by decide +kernel
theorem dL_law_719 : decode cL_law 719 = .ok (.bipush 6, 2) := by decide +kernel
theorem dL_law_721 : decode cL_law 721 = .ok (.invokevirtual 125, 3) := by decide +kernel
theorem dL_law_724 : decode cL_law 724 = .ok (.aload_n 1, 1) := by decide +kernel
theorem dL_law_725 : decode cL_law 725 = .ok (.iload 7, 2) := by decide +kernel
theorem dL_law_727 : decode cL_law 727 = .ok (.iload 11, 2) := by decide +kernel
theorem dL_law_729 : decode cL_law 729 = .ok (.bipush 6, 2) := by decide +kernel
theorem dL_law_731 : decode cL_law 731 = .ok (.invokevirtual 125, 3) := by decide +kernel
theorem dL_law_734 : decode cL_law 734 = .ok (.iconst 1, 1) := by decide +kernel
theorem dL_law_735 : decode cL_law 735 = .ok (.iadd, 1) := by decide +kernel
theorem dL_law_736 : decode cL_law 736 = .ok (.if_icmp .ne 55, 3) := by decide +kernel
theorem dL_law_739 : decode cL_law 739 = .ok (.aload_n 1, 1) := by decide +kernel
theorem dL_law_740 : decode cL_law 740 = .ok (.iload 7, 2) := by decide +kernel
theorem dL_law_742 : decode cL_law 742 = .ok (.iload 14, 2) := by decide +kernel
theorem dL_law_744 : decode cL_law 744 = .ok (.bipush 6, 2) := by decide +kernel
theorem dL_law_746 : decode cL_law 746 = .ok (.invokevirtual 125, 3) := by decide +kernel
theorem dL_law_749 : decode cL_law 749 = .ok (.aload_n 1, 1) := by decide +kernel
theorem dL_law_750 : decode cL_law 750 = .ok (.iload 7, 2) := by decide +kernel
theorem dL_law_752 : decode cL_law 752 = .ok (.iload 11, 2) := by decide +kernel
theorem dL_law_754 : decode cL_law 754 = .ok (.bipush 6, 2) := by decide +kernel
theorem dL_law_756 : decode cL_law 756 = .ok (.invokevirtual 125, 3) := by decide +kernel
theorem dL_law_759 : decode cL_law 759 = .ok (.iconst 1, 1) := by decide +kernel
theorem dL_law_760 : decode cL_law 760 = .ok (.iadd, 1) := by decide +kernel
theorem dL_law_761 : decode cL_law 761 = .ok (.if_icmp .ne 30, 3) := by decide +kernel
theorem dL_law_764 : decode cL_law 764 = .ok (.aload_n 1, 1) := by decide +kernel
theorem dL_law_765 : decode cL_law 765 = .ok (.aload_n 1, 1) := by decide +kernel
theorem dL_law_766 : decode cL_law 766 = .ok (.iload 7, 2) := by decide +kernel
theorem dL_law_768 : decode cL_law 768 = .ok (.iload 11, 2) := by decide +kernel
theorem dL_law_770 : decode cL_law 770 = .ok (.iconst 2, 1) := by decide +kernel
theorem dL_law_771 : decode cL_law 771 = .ok (.invokevirtual 125, 3) := by decide +kernel
theorem dL_law_774 : decode cL_law 774 = .ok (.aload_n 1, 1) := by decide +kernel
theorem dL_law_775 : decode cL_law 775 = .ok (.iload 7, 2) := by decide +kernel
theorem dL_law_777 : decode cL_law 777 = .ok (.iload 11, 2) := by decide +kernel
theorem dL_law_779 : decode cL_law 779 = .ok (.iconst 3, 1) := by decide +kernel
theorem dL_law_780 : decode cL_law 780 = .ok (.invokevirtual 125, 3) := by decide +kernel
theorem dL_law_783 : decode cL_law 783 = .ok (.invokevirtual 128, 3) := by decide +kernel
theorem dL_law_786 : decode cL_law 786 = .ok (.iload 12, 2) := by decide +kernel
theorem dL_law_788 : decode cL_law 788 = .ok (.if_icmp .eq 5, 3) := by decide +kernel
theorem dL_law_791 : decode cL_law 791 = .ok (.iconst 0, 1) := by decide +kernel
theorem dL_law_792 : decode cL_law 792 = .ok (.ireturn, 1) := by decide +kernel
theorem dL_law_793 : decode cL_law 793 = .ok (.iinc 11 1, 3) := by decide +kernel
theorem dL_law_796 : decode cL_law 796 = .ok (.goto (-318), 3) := by decide +kernel
theorem dL_law_799 : decode cL_law 799 = .ok (.iinc 7 1, 3) := by decide +kernel
theorem dL_law_802 : decode cL_law 802 = .ok (.goto (-713), 3) := by decide +kernel
theorem dL_law_805 : decode cL_law 805 = .ok (.aload_n 1, 1) := by decide +kernel
theorem dL_law_806 : decode cL_law 806 = .ok (.invokevirtual 87, 3) := by decide +kernel
theorem dL_law_809 : decode cL_law 809 = .ok (.lload 5, 2) := by decide +kernel
theorem dL_law_811 : decode cL_law 811 = .ok (.lcmp, 1) := by decide +kernel
theorem dL_law_812 : decode cL_law 812 = .ok (.ifCond .eq 5, 3) := by decide +kernel
theorem dL_law_815 : decode cL_law 815 = .ok (.iconst 0, 1) := by decide +kernel
theorem dL_law_816 : decode cL_law 816 = .ok (.ireturn, 1) := by decide +kernel
theorem dL_law_817 : decode cL_law 817 = .ok (.iload 4, 2) := by decide +kernel
theorem dL_law_819 : decode cL_law 819 = .ok (.iconst 4, 1) := by decide +kernel
theorem dL_law_820 : decode cL_law 820 = .ok (.ishr, 1) := by decide +kernel
theorem dL_law_821 : decode cL_law 821 = .ok (.iconst 2, 1) := by decide +kernel
theorem dL_law_822 : decode cL_law 822 = .ok (.invokestatic 9, 3) := by decide +kernel
theorem dL_law_825 : decode cL_law 825 = .ok (.istore 7, 2) := by decide +kernel
theorem dL_law_827 : decode cL_law 827 = .ok (.aload_n 1, 1) := by decide +kernel
theorem dL_law_828 : decode cL_law 828 = .ok (.iload 7, 2) := by decide +kernel
theorem dL_law_830 : decode cL_law 830 = .ok (.iconst 0, 1) := by decide +kernel
theorem dL_law_831 : decode cL_law 831 = .ok (.invokevirtual 91, 3) := by decide +kernel
theorem dL_law_834 : decode cL_law 834 = .ok (.istore 8, 2) := by decide +kernel
theorem dL_law_836 : decode cL_law 836 = .ok (.iload 8, 2) := by decide +kernel
theorem dL_law_838 : decode cL_law 838 = .ok (.ifCond .ne 6, 3) := by decide +kernel
theorem dL_law_841 : decode cL_law 841 = .ok (.goto 263, 3) := by decide +kernel
theorem dL_law_844 : decode cL_law 844 = .ok (.iload 4, 2) := by decide +kernel
theorem dL_law_846 : decode cL_law 846 = .ok (.iconst 3, 1) := by decide +kernel
theorem dL_law_847 : decode cL_law 847 = .ok (.ishr, 1) := by decide +kernel
theorem dL_law_848 : decode cL_law 848 = .ok (.ldc 15, 2) := by decide +kernel
theorem dL_law_850 : decode cL_law 850 = .ok (.invokestatic 9, 3) := by decide +kernel
theorem dL_law_853 : decode cL_law 853 = .ok (.istore 9, 2) := by decide +kernel
theorem dL_law_855 : decode cL_law 855 = .ok (.aload_n 1, 1) := by decide +kernel
theorem dL_law_856 : decode cL_law 856 = .ok (.iload 7, 2) := by decide +kernel
theorem dL_law_858 : decode cL_law 858 = .ok (.iconst 2, 1) := by decide +kernel
theorem dL_law_859 : decode cL_law 859 = .ok (.invokevirtual 91, 3) := by decide +kernel
theorem dL_law_862 : decode cL_law 862 = .ok (.istore 10, 2) := by decide +kernel
theorem dL_law_864 : decode cL_law 864 = .ok (.aload_n 1, 1) := by decide +kernel
theorem dL_law_865 : decode cL_law 865 = .ok (.iload 7, 2) := by decide +kernel
theorem dL_law_867 : decode cL_law 867 = .ok (.iconst 3, 1) := by decide +kernel
theorem dL_law_868 : decode cL_law 868 = .ok (.invokevirtual 91, 3) := by decide +kernel
theorem dL_law_871 : decode cL_law 871 = .ok (.istore 11, 2) := by decide +kernel
theorem dL_law_873 : decode cL_law 873 = .ok (.aload_n 1, 1) := by decide +kernel
theorem dL_law_874 : decode cL_law 874 = .ok (.iload 7, 2) := by decide +kernel
theorem dL_law_876 : decode cL_law 876 = .ok (.iload 9, 2) := by decide +kernel
theorem dL_law_878 : decode cL_law 878 = .ok (.invokevirtual 52, 3) := by decide +kernel
theorem dL_law_881 : decode cL_law 881 = .ok (.pop, 1) := by decide +kernel
theorem dL_law_882 : decode cL_law 882 = .ok (.aload_n 1, 1) := by decide +kernel
theorem dL_law_883 : decode cL_law 883 = .ok (.iload 7, 2) := by decide +kernel
theorem dL_law_885 : decode cL_law 885 = .ok (.iconst 0, 1) := by decide +kernel
theorem dL_law_886 : decode cL_law 886 = .ok (.invokevirtual 91, 3) := by decide +kernel
theorem dL_law_889 : decode cL_law 889 = .ok (.iload 8, 2) := by decide +kernel
theorem dL_law_891 : decode cL_law 891 = .ok (.if_icmp .ne 27, 3) := by decide +kernel
theorem dL_law_894 : decode cL_law 894 = .ok (.aload_n 1, 1) := by decide +kernel
theorem dL_law_895 : decode cL_law 895 = .ok (.iload 7, 2) := by decide +kernel
theorem dL_law_897 : decode cL_law 897 = .ok (.iconst 2, 1) := by decide +kernel
theorem dL_law_898 : decode cL_law 898 = .ok (.invokevirtual 91, 3) := by decide +kernel
theorem dL_law_901 : decode cL_law 901 = .ok (.iload 10, 2) := by decide +kernel
theorem dL_law_903 : decode cL_law 903 = .ok (.if_icmp .ne 15, 3) := by decide +kernel
theorem dL_law_906 : decode cL_law 906 = .ok (.aload_n 1, 1) := by decide +kernel
theorem dL_law_907 : decode cL_law 907 = .ok (.iload 7, 2) := by decide +kernel
theorem dL_law_909 : decode cL_law 909 = .ok (.iconst 3, 1) := by decide +kernel
theorem dL_law_910 : decode cL_law 910 = .ok (.invokevirtual 91, 3) := by decide +kernel
theorem dL_law_913 : decode cL_law 913 = .ok (.iload 11, 2) := by decide +kernel
theorem dL_law_915 : decode cL_law 915 = .ok (.if_icmp .eq 5, 3) := by decide +kernel
theorem dL_law_918 : decode cL_law 918 = .ok (.iconst 0, 1) := by decide +kernel
theorem dL_law_919 : decode cL_law 919 = .ok (.ireturn, 1) := by decide +kernel
theorem dL_law_920 : decode cL_law 920 = .ok (.aload_n 1, 1) := by decide +kernel
theorem dL_law_921 : decode cL_law 921 = .ok (.iload 7, 2) := by decide +kernel
theorem dL_law_923 : decode cL_law 923 = .ok (.iload 9, 2) := by decide +kernel
theorem dL_law_925 : decode cL_law 925 = .ok (.invokevirtual 52, 3) := by decide +kernel
theorem dL_law_928 : decode cL_law 928 = .ok (.pop, 1) := by decide +kernel
theorem dL_law_929 : decode cL_law 929 = .ok (.aload_n 1, 1) := by decide +kernel
theorem dL_law_930 : decode cL_law 930 = .ok (.invokevirtual 87, 3) := by decide +kernel
theorem dL_law_933 : decode cL_law 933 = .ok (.lload 5, 2) := by decide +kernel
theorem dL_law_935 : decode cL_law 935 = .ok (.lcmp, 1) := by decide +kernel
theorem dL_law_936 : decode cL_law 936 = .ok (.ifCond .eq 5, 3) := by decide +kernel
theorem dL_law_939 : decode cL_law 939 = .ok (.iconst 0, 1) := by decide +kernel
theorem dL_law_940 : decode cL_law 940 = .ok (.ireturn, 1) := by decide +kernel
theorem dL_law_941 : decode cL_law 941 = .ok (.aload_n 1, 1) := by decide +kernel
theorem dL_law_942 : decode cL_law 942 = .ok (.iconst 1, 1) := by decide +kernel
theorem dL_law_943 : decode cL_law 943 = .ok (.iload 7, 2) := by decide +kernel
theorem dL_law_945 : decode cL_law 945 = .ok (.isub, 1) := by decide +kernel
theorem dL_law_946 : decode cL_law 946 = .ok (.iconst 0, 1) := by decide +kernel
theorem dL_law_947 : decode cL_law 947 = .ok (.invokevirtual 91, 3) := by decide +kernel
theorem dL_law_950 : decode cL_law 950 = .ok (.ifCond .le 6, 3) := by decide +kernel
theorem dL_law_953 : decode cL_law 953 = .ok (.goto 151, 3) := by decide +kernel
theorem dL_law_956 : decode cL_law 956 = .ok (.iload 4, 2) := by decide +kernel
theorem dL_law_958 : decode cL_law 958 = .ok (.iconst 5, 1) := by decide +kernel
theorem dL_law_959 : decode cL_law 959 = .ok (.ishr, 1) := by decide +kernel
theorem dL_law_960 : decode cL_law 960 = .ok (.ldc 15, 2) := by decide +kernel
theorem dL_law_962 : decode cL_law 962 = .ok (.invokestatic 9, 3) := by decide +kernel
theorem dL_law_965 : decode cL_law 965 = .ok (.istore 12, 2) := by decide +kernel
theorem dL_law_967 : decode cL_law 967 = .ok (.aload_n 1, 1) := by decide +kernel
theorem dL_law_968 : decode cL_law 968 = .ok (.iload 7, 2) := by decide +kernel
theorem dL_law_970 : decode cL_law 970 = .ok (.iload 12, 2) := by decide +kernel
theorem dL_law_972 : decode cL_law 972 = .ok (.invokevirtual 67, 3) := by decide +kernel
theorem dL_law_975 : decode cL_law 975 = .ok (.istore 13, 2) := by decide +kernel
theorem dL_law_977 : decode cL_law 977 = .ok (.aload_n 1, 1) := by decide +kernel
theorem dL_law_978 : decode cL_law 978 = .ok (.iload 7, 2) := by decide +kernel
theorem dL_law_980 : decode cL_law 980 = .ok (.iconst 0, 1) := by decide +kernel
theorem dL_law_981 : decode cL_law 981 = .ok (.invokevirtual 91, 3) := by decide +kernel
theorem dL_law_984 : decode cL_law 984 = .ok (.iload 8, 2) := by decide +kernel
theorem dL_law_986 : decode cL_law 986 = .ok (.iload 13, 2) := by decide +kernel
theorem dL_law_988 : decode cL_law 988 = .ok (.isub, 1) := by decide +kernel
theorem dL_law_989 : decode cL_law 989 = .ok (.if_icmp .ne 81, 3) := by decide +kernel
theorem dL_law_992 : decode cL_law 992 = .ok (.aload_n 1, 1) := by decide +kernel
theorem dL_law_993 : decode cL_law 993 = .ok (.iconst 1, 1) := by decide +kernel
theorem dL_law_994 : decode cL_law 994 = .ok (.iload 7, 2) := by decide +kernel
theorem dL_law_996 : decode cL_law 996 = .ok (.isub, 1) := by decide +kernel
theorem dL_law_997 : decode cL_law 997 = .ok (.iconst 0, 1) := by decide +kernel
theorem dL_law_998 : decode cL_law 998 = .ok (.invokevirtual 91, 3) := by decide +kernel
theorem dL_law_1001 : decode cL_law 1001 = .ok (.iload 13, 2) := by decide +kernel
theorem dL_law_1003 : decode cL_law 1003 = .ok (.if_icmp .ne 67, 3) := by decide +kernel
theorem dL_law_1006 : decode cL_law 1006 = .ok (.aload_n 1, 1) := by decide +kernel
theorem dL_law_1007 : decode cL_law 1007 = .ok (.iconst 0, 1) := by decide +kernel
theorem dL_law_1008 : decode cL_law 1008 = .ok (.invokevirtual 131, 3) := by decide +kernel
theorem dL_law_1011 : decode cL_law 1011 = .ok (.iload 8, 2) := by decide +kernel
theorem dL_law_1013 : decode cL_law 1013 = .ok (.if_icmp .ne 57, 3) := by decide +kernel
theorem dL_law_1016 : decode cL_law 1016 = .ok (.aload_n 1, 1) := by decide +kernel
theorem dL_law_1017 : decode cL_law 1017 = .ok (.iconst 3, 1) := by decide +kernel
theorem dL_law_1018 : decode cL_law 1018 = .ok (.invokevirtual 131, 3) := by decide +kernel
theorem dL_law_1021 : decode cL_law 1021 = .ok (.iload 11, 2) := by decide +kernel
theorem dL_law_1023 : decode cL_law 1023 = .ok (.if_icmp .ne 47, 3) := by decide +kernel
theorem dL_law_1026 : decode cL_law 1026 = .ok (.iload 13, 2) := by decide +kernel
theorem dL_law_1028 : decode cL_law 1028 = .ok (.ifCond .le 17, 3) := by decide +kernel
theorem dL_law_1031 : decode cL_law 1031 = .ok (.aload_n 1, 1) := by decide +kernel
theorem dL_law_1032 : decode cL_law 1032 = .ok (.iconst 1, 1) := by decide +kernel
theorem dL_law_1033 : decode cL_law 1033 = .ok (.iload 7, 2) := by decide +kernel
theorem dL_law_1035 : decode cL_law 1035 = .ok (.isub, 1) := by decide +kernel
theorem dL_law_1036 : decode cL_law 1036 = .ok (.iconst 0, 1) := by decide +kernel
theorem dL_law_1037 : decode cL_law 1037 = .ok (.invokevirtual 101, 3) := by decide +kernel
theorem dL_law_1040 : decode cL_law 1040 = .ok (.iload 12, 2) := by decide +kernel
theorem dL_law_1042 : decode cL_law 1042 = .ok (.if_icmp .lt 28, 3) := by decide +kernel
theorem dL_law_1045 : decode cL_law 1045 = .ok (.iload 13, 2) := by decide +kernel
theorem dL_law_1047 : decode cL_law 1047 = .ok (.iload 8, 2) := by decide +kernel
theorem dL_law_1049 : decode cL_law 1049 = .ok (.if_icmp .ge 23, 3) := by decide +kernel
theorem dL_law_1052 : decode cL_law 1052 = .ok (.aload_n 1, 1) := by decide +kernel
theorem dL_law_1053 : decode cL_law 1053 = .ok (.iload 7, 2) := by decide +kernel
theorem dL_law_1055 : decode cL_law 1055 = .ok (.iload 8, 2) := by decide +kernel
theorem dL_law_1057 : decode cL_law 1057 = .ok (.iload 13, 2) := by decide +kernel
theorem dL_law_1059 : decode cL_law 1059 = .ok (.isub, 1) := by decide +kernel
theorem dL_law_1060 : decode cL_law 1060 = .ok (.iconst 1, 1) := by decide +kernel
theorem dL_law_1061 : decode cL_law 1061 = .ok (.isub, 1) := by decide +kernel
theorem dL_law_1062 : decode cL_law 1062 = .ok (.invokevirtual 101, 3) := by decide +kernel
theorem dL_law_1065 : decode cL_law 1065 = .ok (.iload 12, 2) := by decide +kernel
theorem dL_law_1067 : decode cL_law 1067 = .ok (.if_icmp .lt 5, 3) := by decide +kernel
theorem dL_law_1070 : decode cL_law 1070 = .ok (.iconst 0, 1) := by decide +kernel
theorem dL_law_1071 : decode cL_law 1071 = .ok (.ireturn, 1) := by decide +kernel
theorem dL_law_1072 : decode cL_law 1072 = .ok (.aload_n 1, 1) := by decide +kernel
theorem dL_law_1073 : decode cL_law 1073 = .ok (.iconst 1, 1) := by decide +kernel
theorem dL_law_1074 : decode cL_law 1074 = .ok (.iload 7, 2) := by decide +kernel
theorem dL_law_1076 : decode cL_law 1076 = .ok (.isub, 1) := by decide +kernel
theorem dL_law_1077 : decode cL_law 1077 = .ok (.iload 4, 2) := by decide +kernel
theorem dL_law_1079 : decode cL_law 1079 = .ok (.bipush 6, 2) := by decide +kernel
theorem dL_law_1081 : decode cL_law 1081 = .ok (.ishr, 1) := by decide +kernel
theorem dL_law_1082 : decode cL_law 1082 = .ok (.iconst 4, 1) := by decide +kernel
theorem dL_law_1083 : decode cL_law 1083 = .ok (.invokestatic 9, 3) := by decide +kernel
theorem dL_law_1086 : decode cL_law 1086 = .ok (.invokevirtual 64, 3) := by decide +kernel
theorem dL_law_1089 : decode cL_law 1089 = .ok (.ifCond .ne 13, 3) := by decide +kernel
theorem dL_law_1092 : decode cL_law 1092 = .ok (.aload_n 1, 1) := by decide +kernel
theorem dL_law_1093 : decode cL_law 1093 = .ok (.invokevirtual 87, 3) := by decide +kernel
theorem dL_law_1096 : decode cL_law 1096 = .ok (.lload 5, 2) := by decide +kernel
theorem dL_law_1098 : decode cL_law 1098 = .ok (.lcmp, 1) := by decide +kernel
theorem dL_law_1099 : decode cL_law 1099 = .ok (.ifCond .eq 5, 3) := by decide +kernel
theorem dL_law_1102 : decode cL_law 1102 = .ok (.iconst 0, 1) := by decide +kernel
theorem dL_law_1103 : decode cL_law 1103 = .ok (.ireturn, 1) := by decide +kernel
theorem dL_law_1104 : decode cL_law 1104 = .ok (.iinc 3 1, 3) := by decide +kernel
theorem dL_law_1107 : decode cL_law 1107 = .ok (.goto (-1085), 3) := by decide +kernel
theorem dL_law_1110 : decode cL_law 1110 = .ok (.aload_n 2, 1) := by decide +kernel
theorem dL_law_1111 : decode cL_law 1111 = .ok (.aload_n 1, 1) := by decide +kernel
theorem dL_law_1112 : decode cL_law 1112 = .ok (.invokevirtual 134, 3) := by decide +kernel
theorem dL_law_1115 : decode cL_law 1115 = .ok (.ireturn, 1) := by decide +kernel
