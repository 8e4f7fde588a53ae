theorem dX0_init_0 : decode cX0_init 0 = .ok (.aload_n 0, 1) := by decide +kernel
theorem dX0_init_1 : decode cX0_init 1 = .ok (.invokespecial 1, 3) := by decide +kernel
theorem dX0_init_4 : decode cX0_init 4 = .ok (.return_, 1) := by decide +kernel
theorem dX0_becomes_0 : decode cX0_becomes 0 = .ok (.aload_n 0, 1) := by decide +kernel
theorem dX0_becomes_1 : decode cX0_becomes 1 = .ok (.iload_n 1, 1) := by decide +kernel
theorem dX0_becomes_2 : decode cX0_becomes 2 = .ok (.putfield 7, 3) := by decide +kernel
theorem dX0_becomes_5 : decode cX0_becomes 5 = .ok (.aload_n 0, 1) := by decide +kernel
theorem dX0_becomes_6 : decode cX0_becomes 6 = .ok (.iload_n 2, 1) := by decide +kernel
theorem dX0_becomes_7 : decode cX0_becomes 7 = .ok (.putfield 13, 3) := by decide +kernel
theorem dX0_becomes_10 : decode cX0_becomes 10 = .ok (.aload_n 0, 1) := by decide +kernel
theorem dX0_becomes_11 : decode cX0_becomes 11 = .ok (.iload_n 3, 1) := by decide +kernel
theorem dX0_becomes_12 : decode cX0_becomes 12 = .ok (.putfield 16, 3) := by decide +kernel
theorem dX0_becomes_15 : decode cX0_becomes 15 = .ok (.aload_n 0, 1) := by decide +kernel
theorem dX0_becomes_16 : decode cX0_becomes 16 = .ok (.iload 4, 2) := by decide +kernel
theorem dX0_becomes_18 : decode cX0_becomes 18 = .ok (.putfield 19, 3) := by decide +kernel
theorem dX0_becomes_21 : decode cX0_becomes 21 = .ok (.aload_n 0, 1) := by decide +kernel
theorem dX0_becomes_22 : decode cX0_becomes 22 = .ok (.iload 5, 2) := by decide +kernel
theorem dX0_becomes_24 : decode cX0_becomes 24 = .ok (.putfield 22, 3) := by decide +kernel
theorem dX0_becomes_27 : decode cX0_becomes 27 = .ok (.return_, 1) := by decide +kernel
theorem dX1_init_0 : decode cX1_init 0 = .ok (.aload_n 0, 1) := by decide +kernel
theorem dX1_init_1 : decode cX1_init 1 = .ok (.invokespecial 3, 3) := by decide +kernel
theorem dX1_init_4 : decode cX1_init 4 = .ok (.aload_n 0, 1) := by decide +kernel
theorem dX1_init_5 : decode cX1_init 5 = .ok (.aload_n 1, 1) := by decide +kernel
theorem dX1_init_6 : decode cX1_init 6 = .ok (.putfield 9, 3) := by decide +kernel
theorem dX1_init_9 : decode cX1_init 9 = .ok (.aload_n 0, 1) := by decide +kernel
theorem dX1_init_10 : decode cX1_init 10 = .ok (.aload_n 2, 1) := by decide +kernel
theorem dX1_init_11 : decode cX1_init 11 = .ok (.putfield 15, 3) := by decide +kernel
theorem dX1_init_14 : decode cX1_init 14 = .ok (.aload_n 0, 1) := by decide +kernel
theorem dX1_init_15 : decode cX1_init 15 = .ok (.aload_n 3, 1) := by decide +kernel
theorem dX1_init_16 : decode cX1_init 16 = .ok (.putfield 19, 3) := by decide +kernel
theorem dX1_init_19 : decode cX1_init 19 = .ok (.return_, 1) := by decide +kernel
theorem dX1_does_0 : decode cX1_does 0 = .ok (.aload_n 0, 1) := by decide +kernel
theorem dX1_does_1 : decode cX1_does 1 = .ok (.aload_n 1, 1) := by decide +kernel
theorem dX1_does_2 : decode cX1_does 2 = .ok (.aload_n 2, 1) := by decide +kernel
theorem dX1_does_3 : decode cX1_does 3 = .ok (.invokevirtual 23, 3) := by decide +kernel
theorem dX1_does_6 : decode cX1_does 6 = .ok (.istore_n 3, 1) := by decide +kernel
theorem dX1_does_7 : decode cX1_does 7 = .ok (.iload_n 3, 1) := by decide +kernel
theorem dX1_does_8 : decode cX1_does 8 = .ok (.ifCond .ge 5, 3) := by decide +kernel
theorem dX1_does_11 : decode cX1_does 11 = .ok (.iload_n 3, 1) := by decide +kernel
theorem dX1_does_12 : decode cX1_does 12 = .ok (.ireturn, 1) := by decide +kernel
theorem dX1_does_13 : decode cX1_does 13 = .ok (.aload_n 1, 1) := by decide +kernel
theorem dX1_does_14 : decode cX1_does 14 = .ok (.getfield 27, 3) := by decide +kernel
theorem dX1_does_17 : decode cX1_does 17 = .ok (.getfield 33, 3) := by decide +kernel
theorem dX1_does_20 : decode cX1_does 20 = .ok (.istore 4, 2) := by decide +kernel
theorem dX1_does_22 : decode cX1_does 22 = .ok (.aload_n 2, 1) := by decide +kernel
theorem dX1_does_23 : decode cX1_does 23 = .ok (.getfield 39, 3) := by decide +kernel
theorem dX1_does_26 : decode cX1_does 26 = .ok (.tableswitch 189 107 119 #[165, 189, 189, 66, 189, 189, 189, 130, 107, 189, 189, 189, 149], 66) := by decide +kernel
theorem dX1_does_92 : decode cX1_does 92 = .ok (.aload_n 1, 1) := by decide +kernel
theorem dX1_does_93 : decode cX1_does 93 = .ok (.invokevirtual 44, 3) := by decide +kernel
theorem dX1_does_96 : decode cX1_does 96 = .ok (.istore 5, 2) := by decide +kernel
theorem dX1_does_98 : decode cX1_does 98 = .ok (.aload_n 1, 1) := by decide +kernel
theorem dX1_does_99 : decode cX1_does 99 = .ok (.iload 5, 2) := by decide +kernel
theorem dX1_does_101 : decode cX1_does 101 = .ok (.aload_n 2, 1) := by decide +kernel
theorem dX1_does_102 : decode cX1_does 102 = .ok (.getfield 48, 3) := by decide +kernel
theorem dX1_does_105 : decode cX1_does 105 = .ok (.aload_n 2, 1) := by decide +kernel
theorem dX1_does_106 : decode cX1_does 106 = .ok (.getfield 51, 3) := by decide +kernel
theorem dX1_does_109 : decode cX1_does 109 = .ok (.aload_n 2, 1) := by decide +kernel
theorem dX1_does_110 : decode cX1_does 110 = .ok (.getfield 54, 3) := by decide +kernel
theorem dX1_does_113 : decode cX1_does 113 = .ok (.invokevirtual 57, 3) := by decide +kernel
theorem dX1_does_116 : decode cX1_does 116 = .ok (.aload_n 0, 1) := by decide +kernel
theorem dX1_does_117 : decode cX1_does 117 = .ok (.getfield 9, 3) := by decide +kernel
theorem dX1_does_120 : decode cX1_does 120 = .ok (.aload_n 1, 1) := by decide +kernel
theorem dX1_does_121 : decode cX1_does 121 = .ok (.aload_n 2, 1) := by decide +kernel
theorem dX1_does_122 : decode cX1_does 122 = .ok (.getfield 61, 3) := by decide +kernel
theorem dX1_does_125 : decode cX1_does 125 = .ok (.iload 5, 2) := by decide +kernel
theorem dX1_does_127 : decode cX1_does 127 = .ok (.invokevirtual 64, 3) := by decide +kernel
theorem dX1_does_130 : decode cX1_does 130 = .ok (.goto 93, 3) := by decide +kernel
theorem dX1_does_133 : decode cX1_does 133 = .ok (.aload_n 0, 1) := by decide +kernel
theorem dX1_does_134 : decode cX1_does 134 = .ok (.getfield 9, 3) := by decide +kernel
theorem dX1_does_137 : decode cX1_does 137 = .ok (.aload_n 1, 1) := by decide +kernel
theorem dX1_does_138 : decode cX1_does 138 = .ok (.aload_n 2, 1) := by decide +kernel
theorem dX1_does_139 : decode cX1_does 139 = .ok (.getfield 48, 3) := by decide +kernel
theorem dX1_does_142 : decode cX1_does 142 = .ok (.aload_n 2, 1) := by decide +kernel
theorem dX1_does_143 : decode cX1_does 143 = .ok (.getfield 51, 3) := by decide +kernel
theorem dX1_does_146 : decode cX1_does 146 = .ok (.aload_n 2, 1) := by decide +kernel
theorem dX1_does_147 : decode cX1_does 147 = .ok (.getfield 54, 3) := by decide +kernel
theorem dX1_does_150 : decode cX1_does 150 = .ok (.invokevirtual 70, 3) := by decide +kernel
theorem dX1_does_153 : decode cX1_does 153 = .ok (.goto 70, 3) := by decide +kernel
theorem dX1_does_156 : decode cX1_does 156 = .ok (.aload_n 0, 1) := by decide +kernel
theorem dX1_does_157 : decode cX1_does 157 = .ok (.getfield 9, 3) := by decide +kernel
theorem dX1_does_160 : decode cX1_does 160 = .ok (.aload_n 1, 1) := by decide +kernel
theorem dX1_does_161 : decode cX1_does 161 = .ok (.aload_n 2, 1) := by decide +kernel
theorem dX1_does_162 : decode cX1_does 162 = .ok (.getfield 48, 3) := by decide +kernel
theorem dX1_does_165 : decode cX1_does 165 = .ok (.aload_n 2, 1) := by decide +kernel
theorem dX1_does_166 : decode cX1_does 166 = .ok (.getfield 51, 3) := by decide +kernel
theorem dX1_does_169 : decode cX1_does 169 = .ok (.invokevirtual 64, 3) := by decide +kernel
theorem dX1_does_172 : decode cX1_does 172 = .ok (.goto 51, 3) := by decide +kernel
theorem dX1_does_175 : decode cX1_does 175 = .ok (.aload_n 1, 1) := by decide +kernel
theorem dX1_does_176 : decode cX1_does 176 = .ok (.getfield 74, 3) := by decide +kernel
theorem dX1_does_179 : decode cX1_does 179 = .ok (.aload_n 2, 1) := by decide +kernel
theorem dX1_does_180 : decode cX1_does 180 = .ok (.getfield 48, 3) := by decide +kernel
theorem dX1_does_183 : decode cX1_does 183 = .ok (.aload_n 2, 1) := by decide +kernel
theorem dX1_does_184 : decode cX1_does 184 = .ok (.getfield 51, 3) := by decide +kernel
theorem dX1_does_187 : decode cX1_does 187 = .ok (.iastore, 1) := by decide +kernel
theorem dX1_does_188 : decode cX1_does 188 = .ok (.goto 35, 3) := by decide +kernel
theorem dX1_does_191 : decode cX1_does 191 = .ok (.aload_n 0, 1) := by decide +kernel
theorem dX1_does_192 : decode cX1_does 192 = .ok (.getfield 9, 3) := by decide +kernel
theorem dX1_does_195 : decode cX1_does 195 = .ok (.aload_n 1, 1) := by decide +kernel
theorem dX1_does_196 : decode cX1_does 196 = .ok (.aload_n 2, 1) := by decide +kernel
theorem dX1_does_197 : decode cX1_does 197 = .ok (.getfield 51, 3) := by decide +kernel
theorem dX1_does_200 : decode cX1_does 200 = .ok (.aload_n 1, 1) := by decide +kernel
theorem dX1_does_201 : decode cX1_does 201 = .ok (.getfield 74, 3) := by decide +kernel
theorem dX1_does_204 : decode cX1_does 204 = .ok (.aload_n 2, 1) := by decide +kernel
theorem dX1_does_205 : decode cX1_does 205 = .ok (.getfield 48, 3) := by decide +kernel
theorem dX1_does_208 : decode cX1_does 208 = .ok (.iaload, 1) := by decide +kernel
theorem dX1_does_209 : decode cX1_does 209 = .ok (.invokevirtual 64, 3) := by decide +kernel
theorem dX1_does_212 : decode cX1_does 212 = .ok (.goto 11, 3) := by decide +kernel
theorem dX1_does_215 : decode cX1_does 215 = .ok (.aload_n 0, 1) := by decide +kernel
theorem dX1_does_216 : decode cX1_does 216 = .ok (.getfield 15, 3) := by decide +kernel
theorem dX1_does_219 : decode cX1_does 219 = .ok (.aload_n 1, 1) := by decide +kernel
theorem dX1_does_220 : decode cX1_does 220 = .ok (.invokevirtual 78, 3) := by decide +kernel
theorem dX1_does_223 : decode cX1_does 223 = .ok (.aload_n 2, 1) := by decide +kernel
theorem dX1_does_224 : decode cX1_does 224 = .ok (.getfield 39, 3) := by decide +kernel
theorem dX1_does_227 : decode cX1_does 227 = .ok (.bipush 119, 2) := by decide +kernel
theorem dX1_does_229 : decode cX1_does 229 = .ok (.if_icmp .eq 34, 3) := by decide +kernel
theorem dX1_does_232 : decode cX1_does 232 = .ok (.aload_n 2, 1) := by decide +kernel
theorem dX1_does_233 : decode cX1_does 233 = .ok (.getfield 39, 3) := by decide +kernel
theorem dX1_does_236 : decode cX1_does 236 = .ok (.bipush 116, 2) := by decide +kernel
theorem dX1_does_238 : decode cX1_does 238 = .ok (.if_icmp .eq 25, 3) := by decide +kernel
theorem dX1_does_241 : decode cX1_does 241 = .ok (.aload_n 1, 1) := by decide +kernel
theorem dX1_does_242 : decode cX1_does 242 = .ok (.getfield 84, 3) := by decide +kernel
theorem dX1_does_245 : decode cX1_does 245 = .ok (.getfield 88, 3) := by decide +kernel
theorem dX1_does_248 : decode cX1_does 248 = .ok (.aload_n 1, 1) := by decide +kernel
theorem dX1_does_249 : decode cX1_does 249 = .ok (.getfield 93, 3) := by decide +kernel
theorem dX1_does_252 : decode cX1_does 252 = .ok (.if_icmp .lt 11, 3) := by decide +kernel
theorem dX1_does_255 : decode cX1_does 255 = .ok (.aload_n 0, 1) := by decide +kernel
theorem dX1_does_256 : decode cX1_does 256 = .ok (.getfield 15, 3) := by decide +kernel
theorem dX1_does_259 : decode cX1_does 259 = .ok (.aload_n 1, 1) := by decide +kernel
theorem dX1_does_260 : decode cX1_does 260 = .ok (.invokevirtual 78, 3) := by decide +kernel
theorem dX1_does_263 : decode cX1_does 263 = .ok (.aload_n 1, 1) := by decide +kernel
theorem dX1_does_264 : decode cX1_does 264 = .ok (.getfield 27, 3) := by decide +kernel
theorem dX1_does_267 : decode cX1_does 267 = .ok (.getfield 33, 3) := by decide +kernel
theorem dX1_does_270 : decode cX1_does 270 = .ok (.iload 4, 2) := by decide +kernel
theorem dX1_does_272 : decode cX1_does 272 = .ok (.isub, 1) := by decide +kernel
theorem dX1_does_273 : decode cX1_does 273 = .ok (.ireturn, 1) := by decide +kernel
theorem dX1_refuses_0 : decode cX1_refuses 0 = .ok (.aload_n 2, 1) := by decide +kernel
theorem dX1_refuses_1 : decode cX1_refuses 1 = .ok (.getfield 39, 3) := by decide +kernel
theorem dX1_refuses_4 : decode cX1_refuses 4 = .ok (.tableswitch 152 107 119 #[121, 152, 152, 68, 152, 152, 152, 93, 75, 135, 152, 152, 107], 68) := by decide +kernel
theorem dX1_refuses_72 : decode cX1_refuses 72 = .ok (.aload_n 0, 1) := by decide +kernel
theorem dX1_refuses_73 : decode cX1_refuses 73 = .ok (.aload_n 1, 1) := by decide +kernel
theorem dX1_refuses_74 : decode cX1_refuses 74 = .ok (.aload_n 2, 1) := by decide +kernel
theorem dX1_refuses_75 : decode cX1_refuses 75 = .ok (.invokevirtual 96, 3) := by decide +kernel
theorem dX1_refuses_78 : decode cX1_refuses 78 = .ok (.ireturn, 1) := by decide +kernel
theorem dX1_refuses_79 : decode cX1_refuses 79 = .ok (.aload_n 0, 1) := by decide +kernel
theorem dX1_refuses_80 : decode cX1_refuses 80 = .ok (.aload_n 1, 1) := by decide +kernel
theorem dX1_refuses_81 : decode cX1_refuses 81 = .ok (.aload_n 2, 1) := by decide +kernel
theorem dX1_refuses_82 : decode cX1_refuses 82 = .ok (.getfield 48, 3) := by decide +kernel
theorem dX1_refuses_85 : decode cX1_refuses 85 = .ok (.aload_n 2, 1) := by decide +kernel
theorem dX1_refuses_86 : decode cX1_refuses 86 = .ok (.getfield 51, 3) := by decide +kernel
theorem dX1_refuses_89 : decode cX1_refuses 89 = .ok (.aload_n 2, 1) := by decide +kernel
theorem dX1_refuses_90 : decode cX1_refuses 90 = .ok (.getfield 54, 3) := by decide +kernel
theorem dX1_refuses_93 : decode cX1_refuses 93 = .ok (.invokevirtual 99, 3) := by decide +kernel
theorem dX1_refuses_96 : decode cX1_refuses 96 = .ok (.ireturn, 1) := by decide +kernel
theorem dX1_refuses_97 : decode cX1_refuses 97 = .ok (.aload_n 0, 1) := by decide +kernel
theorem dX1_refuses_98 : decode cX1_refuses 98 = .ok (.aload_n 1, 1) := by decide +kernel
theorem dX1_refuses_99 : decode cX1_refuses 99 = .ok (.aload_n 2, 1) := by decide +kernel
theorem dX1_refuses_100 : decode cX1_refuses 100 = .ok (.getfield 48, 3) := by decide +kernel
theorem dX1_refuses_103 : decode cX1_refuses 103 = .ok (.aload_n 2, 1) := by decide +kernel
theorem dX1_refuses_104 : decode cX1_refuses 104 = .ok (.getfield 51, 3) := by decide +kernel
theorem dX1_refuses_107 : decode cX1_refuses 107 = .ok (.invokevirtual 103, 3) := by decide +kernel
theorem dX1_refuses_110 : decode cX1_refuses 110 = .ok (.ireturn, 1) := by decide +kernel
theorem dX1_refuses_111 : decode cX1_refuses 111 = .ok (.aload_n 0, 1) := by decide +kernel
theorem dX1_refuses_112 : decode cX1_refuses 112 = .ok (.aload_n 1, 1) := by decide +kernel
theorem dX1_refuses_113 : decode cX1_refuses 113 = .ok (.aload_n 2, 1) := by decide +kernel
theorem dX1_refuses_114 : decode cX1_refuses 114 = .ok (.getfield 48, 3) := by decide +kernel
theorem dX1_refuses_117 : decode cX1_refuses 117 = .ok (.aload_n 2, 1) := by decide +kernel
theorem dX1_refuses_118 : decode cX1_refuses 118 = .ok (.getfield 51, 3) := by decide +kernel
theorem dX1_refuses_121 : decode cX1_refuses 121 = .ok (.invokevirtual 107, 3) := by decide +kernel
theorem dX1_refuses_124 : decode cX1_refuses 124 = .ok (.ireturn, 1) := by decide +kernel
theorem dX1_refuses_125 : decode cX1_refuses 125 = .ok (.aload_n 0, 1) := by decide +kernel
theorem dX1_refuses_126 : decode cX1_refuses 126 = .ok (.aload_n 1, 1) := by decide +kernel
theorem dX1_refuses_127 : decode cX1_refuses 127 = .ok (.aload_n 2, 1) := by decide +kernel
theorem dX1_refuses_128 : decode cX1_refuses 128 = .ok (.getfield 48, 3) := by decide +kernel
theorem dX1_refuses_131 : decode cX1_refuses 131 = .ok (.aload_n 2, 1) := by decide +kernel
theorem dX1_refuses_132 : decode cX1_refuses 132 = .ok (.getfield 51, 3) := by decide +kernel
theorem dX1_refuses_135 : decode cX1_refuses 135 = .ok (.invokevirtual 110, 3) := by decide +kernel
theorem dX1_refuses_138 : decode cX1_refuses 138 = .ok (.ireturn, 1) := by decide +kernel
theorem dX1_refuses_139 : decode cX1_refuses 139 = .ok (.aload_n 1, 1) := by decide +kernel
theorem dX1_refuses_140 : decode cX1_refuses 140 = .ok (.getfield 84, 3) := by decide +kernel
theorem dX1_refuses_143 : decode cX1_refuses 143 = .ok (.getfield 88, 3) := by decide +kernel
theorem dX1_refuses_146 : decode cX1_refuses 146 = .ok (.ifCond .ne 8, 3) := by decide +kernel
theorem dX1_refuses_149 : decode cX1_refuses 149 = .ok (.bipush (-2), 2) := by decide +kernel
theorem dX1_refuses_151 : decode cX1_refuses 151 = .ok (.goto 4, 3) := by decide +kernel
theorem dX1_refuses_154 : decode cX1_refuses 154 = .ok (.iconst 0, 1) := by decide +kernel
theorem dX1_refuses_155 : decode cX1_refuses 155 = .ok (.ireturn, 1) := by decide +kernel
theorem dX1_refuses_156 : decode cX1_refuses 156 = .ok (.iconst (-1), 1) := by decide +kernel
theorem dX1_refuses_157 : decode cX1_refuses 157 = .ok (.ireturn, 1) := by decide +kernel
theorem dX1_refusesMake_0 : decode cX1_refusesMake 0 = .ok (.aload_n 2, 1) := by decide +kernel
theorem dX1_refusesMake_1 : decode cX1_refusesMake 1 = .ok (.getfield 48, 3) := by decide +kernel
theorem dX1_refusesMake_4 : decode cX1_refusesMake 4 = .ok (.iconst 0, 1) := by decide +kernel
theorem dX1_refusesMake_5 : decode cX1_refusesMake 5 = .ok (.iconst 4, 1) := by decide +kernel
theorem dX1_refusesMake_6 : decode cX1_refusesMake 6 = .ok (.invokestatic 113, 3) := by decide +kernel
theorem dX1_refusesMake_9 : decode cX1_refusesMake 9 = .ok (.ifCond .eq 41, 3) := by decide +kernel
theorem dX1_refusesMake_12 : decode cX1_refusesMake 12 = .ok (.aload_n 2, 1) := by decide +kernel
theorem dX1_refusesMake_13 : decode cX1_refusesMake 13 = .ok (.getfield 51, 3) := by decide +kernel
theorem dX1_refusesMake_16 : decode cX1_refusesMake 16 = .ok (.iconst 1, 1) := by decide +kernel
theorem dX1_refusesMake_17 : decode cX1_refusesMake 17 = .ok (.bipush 9, 2) := by decide +kernel
theorem dX1_refusesMake_19 : decode cX1_refusesMake 19 = .ok (.invokestatic 113, 3) := by decide +kernel
theorem dX1_refusesMake_22 : decode cX1_refusesMake 22 = .ok (.ifCond .eq 28, 3) := by decide +kernel
theorem dX1_refusesMake_25 : decode cX1_refusesMake 25 = .ok (.aload_n 2, 1) := by decide +kernel
theorem dX1_refusesMake_26 : decode cX1_refusesMake 26 = .ok (.getfield 54, 3) := by decide +kernel
theorem dX1_refusesMake_29 : decode cX1_refusesMake 29 = .ok (.iconst 0, 1) := by decide +kernel
theorem dX1_refusesMake_30 : decode cX1_refusesMake 30 = .ok (.bipush 7, 2) := by decide +kernel
theorem dX1_refusesMake_32 : decode cX1_refusesMake 32 = .ok (.invokestatic 113, 3) := by decide +kernel
theorem dX1_refusesMake_35 : decode cX1_refusesMake 35 = .ok (.ifCond .eq 15, 3) := by decide +kernel
theorem dX1_refusesMake_38 : decode cX1_refusesMake 38 = .ok (.aload_n 2, 1) := by decide +kernel
theorem dX1_refusesMake_39 : decode cX1_refusesMake 39 = .ok (.getfield 61, 3) := by decide +kernel
theorem dX1_refusesMake_42 : decode cX1_refusesMake 42 = .ok (.iconst 0, 1) := by decide +kernel
theorem dX1_refusesMake_43 : decode cX1_refusesMake 43 = .ok (.iconst 5, 1) := by decide +kernel
theorem dX1_refusesMake_44 : decode cX1_refusesMake 44 = .ok (.invokestatic 113, 3) := by decide +kernel
theorem dX1_refusesMake_47 : decode cX1_refusesMake 47 = .ok (.ifCond .ne 5, 3) := by decide +kernel
theorem dX1_refusesMake_50 : decode cX1_refusesMake 50 = .ok (.iconst (-1), 1) := by decide +kernel
theorem dX1_refusesMake_51 : decode cX1_refusesMake 51 = .ok (.ireturn, 1) := by decide +kernel
theorem dX1_refusesMake_52 : decode cX1_refusesMake 52 = .ok (.aload_n 1, 1) := by decide +kernel
theorem dX1_refusesMake_53 : decode cX1_refusesMake 53 = .ok (.invokevirtual 44, 3) := by decide +kernel
theorem dX1_refusesMake_56 : decode cX1_refusesMake 56 = .ok (.iconst (-1), 1) := by decide +kernel
theorem dX1_refusesMake_57 : decode cX1_refusesMake 57 = .ok (.if_icmp .ne 8, 3) := by decide +kernel
theorem dX1_refusesMake_60 : decode cX1_refusesMake 60 = .ok (.bipush (-2), 2) := by decide +kernel
theorem dX1_refusesMake_62 : decode cX1_refusesMake 62 = .ok (.goto 4, 3) := by decide +kernel
theorem dX1_refusesMake_65 : decode cX1_refusesMake 65 = .ok (.iconst 0, 1) := by decide +kernel
theorem dX1_refusesMake_66 : decode cX1_refusesMake 66 = .ok (.ireturn, 1) := by decide +kernel
theorem dX1_refusesSet_0 : decode cX1_refusesSet 0 = .ok (.aload_n 1, 1) := by decide +kernel
theorem dX1_refusesSet_1 : decode cX1_refusesSet 1 = .ok (.iload_n 2, 1) := by decide +kernel
theorem dX1_refusesSet_2 : decode cX1_refusesSet 2 = .ok (.iload_n 3, 1) := by decide +kernel
theorem dX1_refusesSet_3 : decode cX1_refusesSet 3 = .ok (.invokevirtual 117, 3) := by decide +kernel
theorem dX1_refusesSet_6 : decode cX1_refusesSet 6 = .ok (.ifCond .eq 12, 3) := by decide +kernel
theorem dX1_refusesSet_9 : decode cX1_refusesSet 9 = .ok (.aload_n 1, 1) := by decide +kernel
theorem dX1_refusesSet_10 : decode cX1_refusesSet 10 = .ok (.iload 4, 2) := by decide +kernel
theorem dX1_refusesSet_12 : decode cX1_refusesSet 12 = .ok (.invokevirtual 121, 3) := by decide +kernel
theorem dX1_refusesSet_15 : decode cX1_refusesSet 15 = .ok (.ifCond .ne 5, 3) := by decide +kernel
theorem dX1_refusesSet_18 : decode cX1_refusesSet 18 = .ok (.iconst (-1), 1) := by decide +kernel
theorem dX1_refusesSet_19 : decode cX1_refusesSet 19 = .ok (.ireturn, 1) := by decide +kernel
theorem dX1_refusesSet_20 : decode cX1_refusesSet 20 = .ok (.aload_n 1, 1) := by decide +kernel
theorem dX1_refusesSet_21 : decode cX1_refusesSet 21 = .ok (.iload_n 2, 1) := by decide +kernel
theorem dX1_refusesSet_22 : decode cX1_refusesSet 22 = .ok (.iload_n 3, 1) := by decide +kernel
theorem dX1_refusesSet_23 : decode cX1_refusesSet 23 = .ok (.invokevirtual 125, 3) := by decide +kernel
theorem dX1_refusesSet_26 : decode cX1_refusesSet 26 = .ok (.iload 4, 2) := by decide +kernel
theorem dX1_refusesSet_28 : decode cX1_refusesSet 28 = .ok (.if_icmp .ne 6, 3) := by decide +kernel
theorem dX1_refusesSet_31 : decode cX1_refusesSet 31 = .ok (.bipush (-2), 2) := by decide +kernel
theorem dX1_refusesSet_33 : decode cX1_refusesSet 33 = .ok (.ireturn, 1) := by decide +kernel
theorem dX1_refusesSet_34 : decode cX1_refusesSet 34 = .ok (.aload_n 0, 1) := by decide +kernel
theorem dX1_refusesSet_35 : decode cX1_refusesSet 35 = .ok (.getfield 19, 3) := by decide +kernel
theorem dX1_refusesSet_38 : decode cX1_refusesSet 38 = .ok (.aload_n 1, 1) := by decide +kernel
theorem dX1_refusesSet_39 : decode cX1_refusesSet 39 = .ok (.invokevirtual 129, 3) := by decide +kernel
theorem dX1_refusesSet_42 : decode cX1_refusesSet 42 = .ok (.istore 5, 2) := by decide +kernel
theorem dX1_refusesSet_44 : decode cX1_refusesSet 44 = .ok (.iload 5, 2) := by decide +kernel
theorem dX1_refusesSet_46 : decode cX1_refusesSet 46 = .ok (.iload_n 2, 1) := by decide +kernel
theorem dX1_refusesSet_47 : decode cX1_refusesSet 47 = .ok (.invokestatic 135, 3) := by decide +kernel
theorem dX1_refusesSet_50 : decode cX1_refusesSet 50 = .ok (.ifCond .eq 17, 3) := by decide +kernel
theorem dX1_refusesSet_53 : decode cX1_refusesSet 53 = .ok (.iload 5, 2) := by decide +kernel
theorem dX1_refusesSet_55 : decode cX1_refusesSet 55 = .ok (.iload 4, 2) := by decide +kernel
theorem dX1_refusesSet_57 : decode cX1_refusesSet 57 = .ok (.invokestatic 135, 3) := by decide +kernel
theorem dX1_refusesSet_60 : decode cX1_refusesSet 60 = .ok (.ifCond .eq 7, 3) := by decide +kernel
theorem dX1_refusesSet_63 : decode cX1_refusesSet 63 = .ok (.iconst 0, 1) := by decide +kernel
theorem dX1_refusesSet_64 : decode cX1_refusesSet 64 = .ok (.goto 5, 3) := by decide +kernel
theorem dX1_refusesSet_67 : decode cX1_refusesSet 67 = .ok (.bipush (-3), 2) := by decide +kernel
theorem dX1_refusesSet_69 : decode cX1_refusesSet 69 = .ok (.ireturn, 1) := by decide +kernel
theorem dX1_refusesRoot_0 : decode cX1_refusesRoot 0 = .ok (.iload_n 2, 1) := by decide +kernel
theorem dX1_refusesRoot_1 : decode cX1_refusesRoot 1 = .ok (.iconst 0, 1) := by decide +kernel
theorem dX1_refusesRoot_2 : decode cX1_refusesRoot 2 = .ok (.iconst 5, 1) := by decide +kernel
theorem dX1_refusesRoot_3 : decode cX1_refusesRoot 3 = .ok (.invokestatic 113, 3) := by decide +kernel
theorem dX1_refusesRoot_6 : decode cX1_refusesRoot 6 = .ok (.ifCond .eq 11, 3) := by decide +kernel
theorem dX1_refusesRoot_9 : decode cX1_refusesRoot 9 = .ok (.aload_n 1, 1) := by decide +kernel
theorem dX1_refusesRoot_10 : decode cX1_refusesRoot 10 = .ok (.iload_n 3, 1) := by decide +kernel
theorem dX1_refusesRoot_11 : decode cX1_refusesRoot 11 = .ok (.invokevirtual 121, 3) := by decide +kernel
theorem dX1_refusesRoot_14 : decode cX1_refusesRoot 14 = .ok (.ifCond .ne 5, 3) := by decide +kernel
theorem dX1_refusesRoot_17 : decode cX1_refusesRoot 17 = .ok (.iconst (-1), 1) := by decide +kernel
theorem dX1_refusesRoot_18 : decode cX1_refusesRoot 18 = .ok (.ireturn, 1) := by decide +kernel
theorem dX1_refusesRoot_19 : decode cX1_refusesRoot 19 = .ok (.aload_n 1, 1) := by decide +kernel
theorem dX1_refusesRoot_20 : decode cX1_refusesRoot 20 = .ok (.getfield 138, 3) := by decide +kernel
theorem dX1_refusesRoot_23 : decode cX1_refusesRoot 23 = .ok (.iload_n 2, 1) := by decide +kernel
theorem dX1_refusesRoot_24 : decode cX1_refusesRoot 24 = .ok (.iaload, 1) := by decide +kernel
theorem dX1_refusesRoot_25 : decode cX1_refusesRoot 25 = .ok (.iload_n 3, 1) := by decide +kernel
theorem dX1_refusesRoot_26 : decode cX1_refusesRoot 26 = .ok (.if_icmp .ne 6, 3) := by decide +kernel
theorem dX1_refusesRoot_29 : decode cX1_refusesRoot 29 = .ok (.bipush (-2), 2) := by decide +kernel
theorem dX1_refusesRoot_31 : decode cX1_refusesRoot 31 = .ok (.ireturn, 1) := by decide +kernel
theorem dX1_refusesRoot_32 : decode cX1_refusesRoot 32 = .ok (.aload_n 0, 1) := by decide +kernel
theorem dX1_refusesRoot_33 : decode cX1_refusesRoot 33 = .ok (.getfield 19, 3) := by decide +kernel
theorem dX1_refusesRoot_36 : decode cX1_refusesRoot 36 = .ok (.aload_n 1, 1) := by decide +kernel
theorem dX1_refusesRoot_37 : decode cX1_refusesRoot 37 = .ok (.invokevirtual 129, 3) := by decide +kernel
theorem dX1_refusesRoot_40 : decode cX1_refusesRoot 40 = .ok (.iload_n 3, 1) := by decide +kernel
theorem dX1_refusesRoot_41 : decode cX1_refusesRoot 41 = .ok (.invokestatic 135, 3) := by decide +kernel
theorem dX1_refusesRoot_44 : decode cX1_refusesRoot 44 = .ok (.ifCond .eq 7, 3) := by decide +kernel
theorem dX1_refusesRoot_47 : decode cX1_refusesRoot 47 = .ok (.iconst 0, 1) := by decide +kernel
theorem dX1_refusesRoot_48 : decode cX1_refusesRoot 48 = .ok (.goto 5, 3) := by decide +kernel
theorem dX1_refusesRoot_51 : decode cX1_refusesRoot 51 = .ok (.bipush (-3), 2) := by decide +kernel
theorem dX1_refusesRoot_53 : decode cX1_refusesRoot 53 = .ok (.ireturn, 1) := by decide +kernel
theorem dX1_refusesWeak_0 : decode cX1_refusesWeak 0 = .ok (.iload_n 2, 1) := by decide +kernel
theorem dX1_refusesWeak_1 : decode cX1_refusesWeak 1 = .ok (.iconst 0, 1) := by decide +kernel
theorem dX1_refusesWeak_2 : decode cX1_refusesWeak 2 = .ok (.iconst 3, 1) := by decide +kernel
theorem dX1_refusesWeak_3 : decode cX1_refusesWeak 3 = .ok (.invokestatic 113, 3) := by decide +kernel
theorem dX1_refusesWeak_6 : decode cX1_refusesWeak 6 = .ok (.ifCond .eq 11, 3) := by decide +kernel
theorem dX1_refusesWeak_9 : decode cX1_refusesWeak 9 = .ok (.aload_n 1, 1) := by decide +kernel
theorem dX1_refusesWeak_10 : decode cX1_refusesWeak 10 = .ok (.iload_n 3, 1) := by decide +kernel
theorem dX1_refusesWeak_11 : decode cX1_refusesWeak 11 = .ok (.invokevirtual 121, 3) := by decide +kernel
theorem dX1_refusesWeak_14 : decode cX1_refusesWeak 14 = .ok (.ifCond .ne 6, 3) := by decide +kernel
theorem dX1_refusesWeak_17 : decode cX1_refusesWeak 17 = .ok (.bipush (-4), 2) := by decide +kernel
theorem dX1_refusesWeak_19 : decode cX1_refusesWeak 19 = .ok (.ireturn, 1) := by decide +kernel
theorem dX1_refusesWeak_20 : decode cX1_refusesWeak 20 = .ok (.aload_n 1, 1) := by decide +kernel
theorem dX1_refusesWeak_21 : decode cX1_refusesWeak 21 = .ok (.getfield 74, 3) := by decide +kernel
theorem dX1_refusesWeak_24 : decode cX1_refusesWeak 24 = .ok (.iload_n 2, 1) := by decide +kernel
theorem dX1_refusesWeak_25 : decode cX1_refusesWeak 25 = .ok (.iaload, 1) := by decide +kernel
theorem dX1_refusesWeak_26 : decode cX1_refusesWeak 26 = .ok (.iload_n 3, 1) := by decide +kernel
theorem dX1_refusesWeak_27 : decode cX1_refusesWeak 27 = .ok (.if_icmp .ne 6, 3) := by decide +kernel
theorem dX1_refusesWeak_30 : decode cX1_refusesWeak 30 = .ok (.bipush (-2), 2) := by decide +kernel
theorem dX1_refusesWeak_32 : decode cX1_refusesWeak 32 = .ok (.ireturn, 1) := by decide +kernel
theorem dX1_refusesWeak_33 : decode cX1_refusesWeak 33 = .ok (.aload_n 0, 1) := by decide +kernel
theorem dX1_refusesWeak_34 : decode cX1_refusesWeak 34 = .ok (.getfield 19, 3) := by decide +kernel
theorem dX1_refusesWeak_37 : decode cX1_refusesWeak 37 = .ok (.aload_n 1, 1) := by decide +kernel
theorem dX1_refusesWeak_38 : decode cX1_refusesWeak 38 = .ok (.invokevirtual 129, 3) := by decide +kernel
theorem dX1_refusesWeak_41 : decode cX1_refusesWeak 41 = .ok (.iload_n 3, 1) := by decide +kernel
theorem dX1_refusesWeak_42 : decode cX1_refusesWeak 42 = .ok (.invokestatic 135, 3) := by decide +kernel
theorem dX1_refusesWeak_45 : decode cX1_refusesWeak 45 = .ok (.ifCond .eq 7, 3) := by decide +kernel
theorem dX1_refusesWeak_48 : decode cX1_refusesWeak 48 = .ok (.iconst 0, 1) := by decide +kernel
theorem dX1_refusesWeak_49 : decode cX1_refusesWeak 49 = .ok (.goto 5, 3) := by decide +kernel
theorem dX1_refusesWeak_52 : decode cX1_refusesWeak 52 = .ok (.bipush (-3), 2) := by decide +kernel
theorem dX1_refusesWeak_54 : decode cX1_refusesWeak 54 = .ok (.ireturn, 1) := by decide +kernel
theorem dX1_refusesWake_0 : decode cX1_refusesWake 0 = .ok (.iload_n 2, 1) := by decide +kernel
theorem dX1_refusesWake_1 : decode cX1_refusesWake 1 = .ok (.iconst 0, 1) := by decide +kernel
theorem dX1_refusesWake_2 : decode cX1_refusesWake 2 = .ok (.iconst 3, 1) := by decide +kernel
theorem dX1_refusesWake_3 : decode cX1_refusesWake 3 = .ok (.invokestatic 113, 3) := by decide +kernel
theorem dX1_refusesWake_6 : decode cX1_refusesWake 6 = .ok (.ifCond .eq 12, 3) := by decide +kernel
theorem dX1_refusesWake_9 : decode cX1_refusesWake 9 = .ok (.iload_n 3, 1) := by decide +kernel
theorem dX1_refusesWake_10 : decode cX1_refusesWake 10 = .ok (.iconst 0, 1) := by decide +kernel
theorem dX1_refusesWake_11 : decode cX1_refusesWake 11 = .ok (.iconst 5, 1) := by decide +kernel
theorem dX1_refusesWake_12 : decode cX1_refusesWake 12 = .ok (.invokestatic 113, 3) := by decide +kernel
theorem dX1_refusesWake_15 : decode cX1_refusesWake 15 = .ok (.ifCond .ne 5, 3) := by decide +kernel
theorem dX1_refusesWake_18 : decode cX1_refusesWake 18 = .ok (.iconst (-1), 1) := by decide +kernel
theorem dX1_refusesWake_19 : decode cX1_refusesWake 19 = .ok (.ireturn, 1) := by decide +kernel
theorem dX1_refusesWake_20 : decode cX1_refusesWake 20 = .ok (.aload_n 1, 1) := by decide +kernel
theorem dX1_refusesWake_21 : decode cX1_refusesWake 21 = .ok (.getfield 74, 3) := by decide +kernel
theorem dX1_refusesWake_24 : decode cX1_refusesWake 24 = .ok (.iload_n 2, 1) := by decide +kernel
theorem dX1_refusesWake_25 : decode cX1_refusesWake 25 = .ok (.iaload, 1) := by decide +kernel
theorem dX1_refusesWake_26 : decode cX1_refusesWake 26 = .ok (.iconst (-1), 1) := by decide +kernel
theorem dX1_refusesWake_27 : decode cX1_refusesWake 27 = .ok (.if_icmp .ne 6, 3) := by decide +kernel
theorem dX1_refusesWake_30 : decode cX1_refusesWake 30 = .ok (.bipush (-3), 2) := by decide +kernel
theorem dX1_refusesWake_32 : decode cX1_refusesWake 32 = .ok (.ireturn, 1) := by decide +kernel
theorem dX1_refusesWake_33 : decode cX1_refusesWake 33 = .ok (.aload_n 1, 1) := by decide +kernel
theorem dX1_refusesWake_34 : decode cX1_refusesWake 34 = .ok (.getfield 138, 3) := by decide +kernel
theorem dX1_refusesWake_37 : decode cX1_refusesWake 37 = .ok (.iload_n 3, 1) := by decide +kernel
theorem dX1_refusesWake_38 : decode cX1_refusesWake 38 = .ok (.iaload, 1) := by decide +kernel
theorem dX1_refusesWake_39 : decode cX1_refusesWake 39 = .ok (.aload_n 1, 1) := by decide +kernel
theorem dX1_refusesWake_40 : decode cX1_refusesWake 40 = .ok (.getfield 74, 3) := by decide +kernel
theorem dX1_refusesWake_43 : decode cX1_refusesWake 43 = .ok (.iload_n 2, 1) := by decide +kernel
theorem dX1_refusesWake_44 : decode cX1_refusesWake 44 = .ok (.iaload, 1) := by decide +kernel
theorem dX1_refusesWake_45 : decode cX1_refusesWake 45 = .ok (.if_icmp .ne 8, 3) := by decide +kernel
theorem dX1_refusesWake_48 : decode cX1_refusesWake 48 = .ok (.bipush (-2), 2) := by decide +kernel
theorem dX1_refusesWake_50 : decode cX1_refusesWake 50 = .ok (.goto 4, 3) := by decide +kernel
theorem dX1_refusesWake_53 : decode cX1_refusesWake 53 = .ok (.iconst 0, 1) := by decide +kernel
theorem dX1_refusesWake_54 : decode cX1_refusesWake 54 = .ok (.ireturn, 1) := by decide +kernel
theorem dX1_isIn_0 : decode cX1_isIn 0 = .ok (.iload_n 1, 1) := by decide +kernel
theorem dX1_isIn_1 : decode cX1_isIn 1 = .ok (.iconst (-1), 1) := by decide +kernel
theorem dX1_isIn_2 : decode cX1_isIn 2 = .ok (.if_icmp .eq 12, 3) := by decide +kernel
theorem dX1_isIn_5 : decode cX1_isIn 5 = .ok (.iload_n 0, 1) := by decide +kernel
theorem dX1_isIn_6 : decode cX1_isIn 6 = .ok (.iload_n 1, 1) := by decide +kernel
theorem dX1_isIn_7 : decode cX1_isIn 7 = .ok (.invokestatic 141, 3) := by decide +kernel
theorem dX1_isIn_10 : decode cX1_isIn 10 = .ok (.iconst 1, 1) := by decide +kernel
theorem dX1_isIn_11 : decode cX1_isIn 11 = .ok (.if_icmp .ne 7, 3) := by decide +kernel
theorem dX1_isIn_14 : decode cX1_isIn 14 = .ok (.iconst 1, 1) := by decide +kernel
theorem dX1_isIn_15 : decode cX1_isIn 15 = .ok (.goto 4, 3) := by decide +kernel
theorem dX1_isIn_18 : decode cX1_isIn 18 = .ok (.iconst 0, 1) := by decide +kernel
theorem dX1_isIn_19 : decode cX1_isIn 19 = .ok (.ireturn, 1) := by decide +kernel
theorem dX1_isWithin_0 : decode cX1_isWithin 0 = .ok (.iload_n 0, 1) := by decide +kernel
theorem dX1_isWithin_1 : decode cX1_isWithin 1 = .ok (.iload_n 1, 1) := by decide +kernel
theorem dX1_isWithin_2 : decode cX1_isWithin 2 = .ok (.if_icmp .lt 12, 3) := by decide +kernel
theorem dX1_isWithin_5 : decode cX1_isWithin 5 = .ok (.iload_n 0, 1) := by decide +kernel
theorem dX1_isWithin_6 : decode cX1_isWithin 6 = .ok (.iload_n 2, 1) := by decide +kernel
theorem dX1_isWithin_7 : decode cX1_isWithin 7 = .ok (.if_icmp .gt 7, 3) := by decide +kernel
theorem dX1_isWithin_10 : decode cX1_isWithin 10 = .ok (.iconst 1, 1) := by decide +kernel
theorem dX1_isWithin_11 : decode cX1_isWithin 11 = .ok (.goto 4, 3) := by decide +kernel
theorem dX1_isWithin_14 : decode cX1_isWithin 14 = .ok (.iconst 0, 1) := by decide +kernel
theorem dX1_isWithin_15 : decode cX1_isWithin 15 = .ok (.ireturn, 1) := by decide +kernel
theorem dX2_init_0 : decode cX2_init 0 = .ok (.aload_n 0, 1) := by decide +kernel
theorem dX2_init_1 : decode cX2_init 1 = .ok (.invokespecial 3, 3) := by decide +kernel
theorem dX2_init_4 : decode cX2_init 4 = .ok (.aload_n 0, 1) := by decide +kernel
theorem dX2_init_5 : decode cX2_init 5 = .ok (.bipush 24, 2) := by decide +kernel
theorem dX2_init_7 : decode cX2_init 7 = .ok (.newarray .int, 2) := by decide +kernel
theorem dX2_init_9 : decode cX2_init 9 = .ok (.putfield 9, 3) := by decide +kernel
theorem dX2_init_12 : decode cX2_init 12 = .ok (.return_, 1) := by decide +kernel
theorem dX2_laysField_0 : decode cX2_laysField 0 = .ok (.aload_n 1, 1) := by decide +kernel
theorem dX2_laysField_1 : decode cX2_laysField 1 = .ok (.iload_n 2, 1) := by decide +kernel
theorem dX2_laysField_2 : decode cX2_laysField 2 = .ok (.iload_n 3, 1) := by decide +kernel
theorem dX2_laysField_3 : decode cX2_laysField 3 = .ok (.invokevirtual 15, 3) := by decide +kernel
theorem dX2_laysField_6 : decode cX2_laysField 6 = .ok (.istore 5, 2) := by decide +kernel
theorem dX2_laysField_8 : decode cX2_laysField 8 = .ok (.aload_n 1, 1) := by decide +kernel
theorem dX2_laysField_9 : decode cX2_laysField 9 = .ok (.iload_n 2, 1) := by decide +kernel
theorem dX2_laysField_10 : decode cX2_laysField 10 = .ok (.iload_n 3, 1) := by decide +kernel
theorem dX2_laysField_11 : decode cX2_laysField 11 = .ok (.iload 4, 2) := by decide +kernel
theorem dX2_laysField_13 : decode cX2_laysField 13 = .ok (.invokevirtual 21, 3) := by decide +kernel
theorem dX2_laysField_16 : decode cX2_laysField 16 = .ok (.aload_n 0, 1) := by decide +kernel
theorem dX2_laysField_17 : decode cX2_laysField 17 = .ok (.aload_n 1, 1) := by decide +kernel
theorem dX2_laysField_18 : decode cX2_laysField 18 = .ok (.iload 5, 2) := by decide +kernel
theorem dX2_laysField_20 : decode cX2_laysField 20 = .ok (.iload 4, 2) := by decide +kernel
theorem dX2_laysField_22 : decode cX2_laysField 22 = .ok (.invokevirtual 25, 3) := by decide +kernel
theorem dX2_laysField_25 : decode cX2_laysField 25 = .ok (.return_, 1) := by decide +kernel
theorem dX2_laysRoot_0 : decode cX2_laysRoot 0 = .ok (.aload_n 1, 1) := by decide +kernel
theorem dX2_laysRoot_1 : decode cX2_laysRoot 1 = .ok (.getfield 29, 3) := by decide +kernel
theorem dX2_laysRoot_4 : decode cX2_laysRoot 4 = .ok (.iload_n 2, 1) := by decide +kernel
theorem dX2_laysRoot_5 : decode cX2_laysRoot 5 = .ok (.iaload, 1) := by decide +kernel
theorem dX2_laysRoot_6 : decode cX2_laysRoot 6 = .ok (.istore 4, 2) := by decide +kernel
theorem dX2_laysRoot_8 : decode cX2_laysRoot 8 = .ok (.aload_n 1, 1) := by decide +kernel
theorem dX2_laysRoot_9 : decode cX2_laysRoot 9 = .ok (.getfield 29, 3) := by decide +kernel
theorem dX2_laysRoot_12 : decode cX2_laysRoot 12 = .ok (.iload_n 2, 1) := by decide +kernel
theorem dX2_laysRoot_13 : decode cX2_laysRoot 13 = .ok (.iload_n 3, 1) := by decide +kernel
theorem dX2_laysRoot_14 : decode cX2_laysRoot 14 = .ok (.iastore, 1) := by decide +kernel
theorem dX2_laysRoot_15 : decode cX2_laysRoot 15 = .ok (.aload_n 0, 1) := by decide +kernel
theorem dX2_laysRoot_16 : decode cX2_laysRoot 16 = .ok (.aload_n 1, 1) := by decide +kernel
theorem dX2_laysRoot_17 : decode cX2_laysRoot 17 = .ok (.iload 4, 2) := by decide +kernel
theorem dX2_laysRoot_19 : decode cX2_laysRoot 19 = .ok (.iload_n 3, 1) := by decide +kernel
theorem dX2_laysRoot_20 : decode cX2_laysRoot 20 = .ok (.invokevirtual 25, 3) := by decide +kernel
theorem dX2_laysRoot_23 : decode cX2_laysRoot 23 = .ok (.return_, 1) := by decide +kernel
theorem dX2_recounts_0 : decode cX2_recounts 0 = .ok (.iload_n 3, 1) := by decide +kernel
theorem dX2_recounts_1 : decode cX2_recounts 1 = .ok (.iconst (-1), 1) := by decide +kernel
theorem dX2_recounts_2 : decode cX2_recounts 2 = .ok (.if_icmp .eq 21, 3) := by decide +kernel
theorem dX2_recounts_5 : decode cX2_recounts 5 = .ok (.aload_n 1, 1) := by decide +kernel
theorem dX2_recounts_6 : decode cX2_recounts 6 = .ok (.getfield 32, 3) := by decide +kernel
theorem dX2_recounts_9 : decode cX2_recounts 9 = .ok (.iload_n 3, 1) := by decide +kernel
theorem dX2_recounts_10 : decode cX2_recounts 10 = .ok (.dup2, 1) := by decide +kernel
theorem dX2_recounts_11 : decode cX2_recounts 11 = .ok (.iaload, 1) := by decide +kernel
theorem dX2_recounts_12 : decode cX2_recounts 12 = .ok (.iconst 1, 1) := by decide +kernel
theorem dX2_recounts_13 : decode cX2_recounts 13 = .ok (.iadd, 1) := by decide +kernel
theorem dX2_recounts_14 : decode cX2_recounts 14 = .ok (.iastore, 1) := by decide +kernel
theorem dX2_recounts_15 : decode cX2_recounts 15 = .ok (.aload_n 1, 1) := by decide +kernel
theorem dX2_recounts_16 : decode cX2_recounts 16 = .ok (.getfield 35, 3) := by decide +kernel
theorem dX2_recounts_19 : decode cX2_recounts 19 = .ok (.iload_n 3, 1) := by decide +kernel
theorem dX2_recounts_20 : decode cX2_recounts 20 = .ok (.invokevirtual 39, 3) := by decide +kernel
theorem dX2_recounts_23 : decode cX2_recounts 23 = .ok (.aload_n 0, 1) := by decide +kernel
theorem dX2_recounts_24 : decode cX2_recounts 24 = .ok (.aload_n 1, 1) := by decide +kernel
theorem dX2_recounts_25 : decode cX2_recounts 25 = .ok (.iload_n 2, 1) := by decide +kernel
theorem dX2_recounts_26 : decode cX2_recounts 26 = .ok (.invokevirtual 45, 3) := by decide +kernel
theorem dX2_recounts_29 : decode cX2_recounts 29 = .ok (.return_, 1) := by decide +kernel
theorem dX2_countsDown_0 : decode cX2_countsDown 0 = .ok (.aload_n 0, 1) := by decide +kernel
theorem dX2_countsDown_1 : decode cX2_countsDown 1 = .ok (.iconst 0, 1) := by decide +kernel
theorem dX2_countsDown_2 : decode cX2_countsDown 2 = .ok (.putfield 49, 3) := by decide +kernel
theorem dX2_countsDown_5 : decode cX2_countsDown 5 = .ok (.iload_n 2, 1) := by decide +kernel
theorem dX2_countsDown_6 : decode cX2_countsDown 6 = .ok (.istore_n 3, 1) := by decide +kernel
theorem dX2_countsDown_7 : decode cX2_countsDown 7 = .ok (.iconst 0, 1) := by decide +kernel
theorem dX2_countsDown_8 : decode cX2_countsDown 8 = .ok (.istore 4, 2) := by decide +kernel
theorem dX2_countsDown_10 : decode cX2_countsDown 10 = .ok (.iload 4, 2) := by decide +kernel
theorem dX2_countsDown_12 : decode cX2_countsDown 12 = .ok (.ldc 53, 2) := by decide +kernel
theorem dX2_countsDown_14 : decode cX2_countsDown 14 = .ok (.if_icmp .ge 41, 3) := by decide +kernel
theorem dX2_countsDown_17 : decode cX2_countsDown 17 = .ok (.iload_n 3, 1) := by decide +kernel
theorem dX2_countsDown_18 : decode cX2_countsDown 18 = .ok (.iconst (-1), 1) := by decide +kernel
theorem dX2_countsDown_19 : decode cX2_countsDown 19 = .ok (.if_icmp .ne 10, 3) := by decide +kernel
theorem dX2_countsDown_22 : decode cX2_countsDown 22 = .ok (.aload_n 0, 1) := by decide +kernel
theorem dX2_countsDown_23 : decode cX2_countsDown 23 = .ok (.getfield 49, 3) := by decide +kernel
theorem dX2_countsDown_26 : decode cX2_countsDown 26 = .ok (.ifCond .le 29, 3) := by decide +kernel
theorem dX2_countsDown_29 : decode cX2_countsDown 29 = .ok (.iload_n 3, 1) := by decide +kernel
theorem dX2_countsDown_30 : decode cX2_countsDown 30 = .ok (.iconst (-1), 1) := by decide +kernel
theorem dX2_countsDown_31 : decode cX2_countsDown 31 = .ok (.if_icmp .eq 12, 3) := by decide +kernel
theorem dX2_countsDown_34 : decode cX2_countsDown 34 = .ok (.aload_n 0, 1) := by decide +kernel
theorem dX2_countsDown_35 : decode cX2_countsDown 35 = .ok (.aload_n 1, 1) := by decide +kernel
theorem dX2_countsDown_36 : decode cX2_countsDown 36 = .ok (.iload_n 3, 1) := by decide +kernel
theorem dX2_countsDown_37 : decode cX2_countsDown 37 = .ok (.invokevirtual 54, 3) := by decide +kernel
theorem dX2_countsDown_40 : decode cX2_countsDown 40 = .ok (.goto 8, 3) := by decide +kernel
theorem dX2_countsDown_43 : decode cX2_countsDown 43 = .ok (.aload_n 0, 1) := by decide +kernel
theorem dX2_countsDown_44 : decode cX2_countsDown 44 = .ok (.aload_n 1, 1) := by decide +kernel
theorem dX2_countsDown_45 : decode cX2_countsDown 45 = .ok (.invokevirtual 58, 3) := by decide +kernel
theorem dX2_countsDown_48 : decode cX2_countsDown 48 = .ok (.istore_n 3, 1) := by decide +kernel
theorem dX2_countsDown_49 : decode cX2_countsDown 49 = .ok (.iinc 4 1, 3) := by decide +kernel
theorem dX2_countsDown_52 : decode cX2_countsDown 52 = .ok (.goto (-42), 3) := by decide +kernel
theorem dX2_countsDown_55 : decode cX2_countsDown 55 = .ok (.return_, 1) := by decide +kernel
theorem dX2_countsOneDown_0 : decode cX2_countsOneDown 0 = .ok (.aload_n 1, 1) := by decide +kernel
theorem dX2_countsOneDown_1 : decode cX2_countsOneDown 1 = .ok (.getfield 32, 3) := by decide +kernel
theorem dX2_countsOneDown_4 : decode cX2_countsOneDown 4 = .ok (.iload_n 2, 1) := by decide +kernel
theorem dX2_countsOneDown_5 : decode cX2_countsOneDown 5 = .ok (.dup2, 1) := by decide +kernel
theorem dX2_countsOneDown_6 : decode cX2_countsOneDown 6 = .ok (.iaload, 1) := by decide +kernel
theorem dX2_countsOneDown_7 : decode cX2_countsOneDown 7 = .ok (.iconst 1, 1) := by decide +kernel
theorem dX2_countsOneDown_8 : decode cX2_countsOneDown 8 = .ok (.isub, 1) := by decide +kernel
theorem dX2_countsOneDown_9 : decode cX2_countsOneDown 9 = .ok (.iastore, 1) := by decide +kernel
theorem dX2_countsOneDown_10 : decode cX2_countsOneDown 10 = .ok (.aload_n 1, 1) := by decide +kernel
theorem dX2_countsOneDown_11 : decode cX2_countsOneDown 11 = .ok (.getfield 32, 3) := by decide +kernel
theorem dX2_countsOneDown_14 : decode cX2_countsOneDown 14 = .ok (.iload_n 2, 1) := by decide +kernel
theorem dX2_countsOneDown_15 : decode cX2_countsOneDown 15 = .ok (.iaload, 1) := by decide +kernel
theorem dX2_countsOneDown_16 : decode cX2_countsOneDown 16 = .ok (.ifCond .le 22, 3) := by decide +kernel
theorem dX2_countsOneDown_19 : decode cX2_countsOneDown 19 = .ok (.aload_n 1, 1) := by decide +kernel
theorem dX2_countsOneDown_20 : decode cX2_countsOneDown 20 = .ok (.getfield 62, 3) := by decide +kernel
theorem dX2_countsOneDown_23 : decode cX2_countsOneDown 23 = .ok (.iload_n 2, 1) := by decide +kernel
theorem dX2_countsOneDown_24 : decode cX2_countsOneDown 24 = .ok (.iaload, 1) := by decide +kernel
theorem dX2_countsOneDown_25 : decode cX2_countsOneDown 25 = .ok (.ifCond .le 11, 3) := by decide +kernel
theorem dX2_countsOneDown_28 : decode cX2_countsOneDown 28 = .ok (.aload_n 1, 1) := by decide +kernel
theorem dX2_countsOneDown_29 : decode cX2_countsOneDown 29 = .ok (.getfield 35, 3) := by decide +kernel
theorem dX2_countsOneDown_32 : decode cX2_countsOneDown 32 = .ok (.iload_n 2, 1) := by decide +kernel
theorem dX2_countsOneDown_33 : decode cX2_countsOneDown 33 = .ok (.invokevirtual 65, 3) := by decide +kernel
theorem dX2_countsOneDown_36 : decode cX2_countsOneDown 36 = .ok (.iconst (-1), 1) := by decide +kernel
theorem dX2_countsOneDown_37 : decode cX2_countsOneDown 37 = .ok (.ireturn, 1) := by decide +kernel
theorem dX2_countsOneDown_38 : decode cX2_countsOneDown 38 = .ok (.aload_n 1, 1) := by decide +kernel
theorem dX2_countsOneDown_39 : decode cX2_countsOneDown 39 = .ok (.getfield 35, 3) := by decide +kernel
theorem dX2_countsOneDown_42 : decode cX2_countsOneDown 42 = .ok (.iload_n 2, 1) := by decide +kernel
theorem dX2_countsOneDown_43 : decode cX2_countsOneDown 43 = .ok (.invokevirtual 68, 3) := by decide +kernel
theorem dX2_countsOneDown_46 : decode cX2_countsOneDown 46 = .ok (.aload_n 1, 1) := by decide +kernel
theorem dX2_countsOneDown_47 : decode cX2_countsOneDown 47 = .ok (.iload_n 2, 1) := by decide +kernel
theorem dX2_countsOneDown_48 : decode cX2_countsOneDown 48 = .ok (.invokevirtual 71, 3) := by decide +kernel
theorem dX2_countsOneDown_51 : decode cX2_countsOneDown 51 = .ok (.ifCond .eq 21, 3) := by decide +kernel
theorem dX2_countsOneDown_54 : decode cX2_countsOneDown 54 = .ok (.aload_n 0, 1) := by decide +kernel
theorem dX2_countsOneDown_55 : decode cX2_countsOneDown 55 = .ok (.aload_n 1, 1) := by decide +kernel
theorem dX2_countsOneDown_56 : decode cX2_countsOneDown 56 = .ok (.iload_n 2, 1) := by decide +kernel
theorem dX2_countsOneDown_57 : decode cX2_countsOneDown 57 = .ok (.invokevirtual 75, 3) := by decide +kernel
theorem dX2_countsOneDown_60 : decode cX2_countsOneDown 60 = .ok (.istore_n 3, 1) := by decide +kernel
theorem dX2_countsOneDown_61 : decode cX2_countsOneDown 61 = .ok (.aload_n 1, 1) := by decide +kernel
theorem dX2_countsOneDown_62 : decode cX2_countsOneDown 62 = .ok (.getfield 32, 3) := by decide +kernel
theorem dX2_countsOneDown_65 : decode cX2_countsOneDown 65 = .ok (.iload_n 2, 1) := by decide +kernel
theorem dX2_countsOneDown_66 : decode cX2_countsOneDown 66 = .ok (.iaload, 1) := by decide +kernel
theorem dX2_countsOneDown_67 : decode cX2_countsOneDown 67 = .ok (.ifCond .le 5, 3) := by decide +kernel
theorem dX2_countsOneDown_70 : decode cX2_countsOneDown 70 = .ok (.iload_n 3, 1) := by decide +kernel
theorem dX2_countsOneDown_71 : decode cX2_countsOneDown 71 = .ok (.ireturn, 1) := by decide +kernel
theorem dX2_countsOneDown_72 : decode cX2_countsOneDown 72 = .ok (.aload_n 1, 1) := by decide +kernel
theorem dX2_countsOneDown_73 : decode cX2_countsOneDown 73 = .ok (.getfield 78, 3) := by decide +kernel
theorem dX2_countsOneDown_76 : decode cX2_countsOneDown 76 = .ok (.iconst 1, 1) := by decide +kernel
theorem dX2_countsOneDown_77 : decode cX2_countsOneDown 77 = .ok (.iload_n 2, 1) := by decide +kernel
theorem dX2_countsOneDown_78 : decode cX2_countsOneDown 78 = .ok (.invokevirtual 82, 3) := by decide +kernel
theorem dX2_countsOneDown_81 : decode cX2_countsOneDown 81 = .ok (.aload_n 0, 1) := by decide +kernel
theorem dX2_countsOneDown_82 : decode cX2_countsOneDown 82 = .ok (.getfield 49, 3) := by decide +kernel
theorem dX2_countsOneDown_85 : decode cX2_countsOneDown 85 = .ok (.bipush 24, 2) := by decide +kernel
theorem dX2_countsOneDown_87 : decode cX2_countsOneDown 87 = .ok (.if_icmp .ge 23, 3) := by decide +kernel
theorem dX2_countsOneDown_90 : decode cX2_countsOneDown 90 = .ok (.aload_n 0, 1) := by decide +kernel
theorem dX2_countsOneDown_91 : decode cX2_countsOneDown 91 = .ok (.getfield 9, 3) := by decide +kernel
theorem dX2_countsOneDown_94 : decode cX2_countsOneDown 94 = .ok (.aload_n 0, 1) := by decide +kernel
theorem dX2_countsOneDown_95 : decode cX2_countsOneDown 95 = .ok (.getfield 49, 3) := by decide +kernel
theorem dX2_countsOneDown_98 : decode cX2_countsOneDown 98 = .ok (.iload_n 2, 1) := by decide +kernel
theorem dX2_countsOneDown_99 : decode cX2_countsOneDown 99 = .ok (.iastore, 1) := by decide +kernel
theorem dX2_countsOneDown_100 : decode cX2_countsOneDown 100 = .ok (.aload_n 0, 1) := by decide +kernel
theorem dX2_countsOneDown_101 : decode cX2_countsOneDown 101 = .ok (.dup, 1) := by decide +kernel
theorem dX2_countsOneDown_102 : decode cX2_countsOneDown 102 = .ok (.getfield 49, 3) := by decide +kernel
theorem dX2_countsOneDown_105 : decode cX2_countsOneDown 105 = .ok (.iconst 1, 1) := by decide +kernel
theorem dX2_countsOneDown_106 : decode cX2_countsOneDown 106 = .ok (.iadd, 1) := by decide +kernel
theorem dX2_countsOneDown_107 : decode cX2_countsOneDown 107 = .ok (.putfield 49, 3) := by decide +kernel
theorem dX2_countsOneDown_110 : decode cX2_countsOneDown 110 = .ok (.iconst (-1), 1) := by decide +kernel
theorem dX2_countsOneDown_111 : decode cX2_countsOneDown 111 = .ok (.ireturn, 1) := by decide +kernel
theorem dX2_runsEnd_0 : decode cX2_runsEnd 0 = .ok (.aload_n 1, 1) := by decide +kernel
theorem dX2_runsEnd_1 : decode cX2_runsEnd 1 = .ok (.dup, 1) := by decide +kernel
theorem dX2_runsEnd_2 : decode cX2_runsEnd 2 = .ok (.getfield 88, 3) := by decide +kernel
theorem dX2_runsEnd_5 : decode cX2_runsEnd 5 = .ok (.iconst 1, 1) := by decide +kernel
theorem dX2_runsEnd_6 : decode cX2_runsEnd 6 = .ok (.iload_n 2, 1) := by decide +kernel
theorem dX2_runsEnd_7 : decode cX2_runsEnd 7 = .ok (.ishl, 1) := by decide +kernel
theorem dX2_runsEnd_8 : decode cX2_runsEnd 8 = .ok (.ior, 1) := by decide +kernel
theorem dX2_runsEnd_9 : decode cX2_runsEnd 9 = .ok (.putfield 88, 3) := by decide +kernel
theorem dX2_runsEnd_12 : decode cX2_runsEnd 12 = .ok (.aload_n 1, 1) := by decide +kernel
theorem dX2_runsEnd_13 : decode cX2_runsEnd 13 = .ok (.getfield 78, 3) := by decide +kernel
theorem dX2_runsEnd_16 : decode cX2_runsEnd 16 = .ok (.iconst 3, 1) := by decide +kernel
theorem dX2_runsEnd_17 : decode cX2_runsEnd 17 = .ok (.iload_n 2, 1) := by decide +kernel
theorem dX2_runsEnd_18 : decode cX2_runsEnd 18 = .ok (.invokevirtual 82, 3) := by decide +kernel
theorem dX2_runsEnd_21 : decode cX2_runsEnd 21 = .ok (.aload_n 1, 1) := by decide +kernel
theorem dX2_runsEnd_22 : decode cX2_runsEnd 22 = .ok (.getfield 91, 3) := by decide +kernel
theorem dX2_runsEnd_25 : decode cX2_runsEnd 25 = .ok (.iload_n 2, 1) := by decide +kernel
theorem dX2_runsEnd_26 : decode cX2_runsEnd 26 = .ok (.iaload, 1) := by decide +kernel
theorem dX2_runsEnd_27 : decode cX2_runsEnd 27 = .ok (.iconst 2, 1) := by decide +kernel
theorem dX2_runsEnd_28 : decode cX2_runsEnd 28 = .ok (.isub, 1) := by decide +kernel
theorem dX2_runsEnd_29 : decode cX2_runsEnd 29 = .ok (.istore_n 3, 1) := by decide +kernel
theorem dX2_runsEnd_30 : decode cX2_runsEnd 30 = .ok (.iload_n 3, 1) := by decide +kernel
theorem dX2_runsEnd_31 : decode cX2_runsEnd 31 = .ok (.ifCond .lt 9, 3) := by decide +kernel
theorem dX2_runsEnd_34 : decode cX2_runsEnd 34 = .ok (.iload_n 3, 1) := by decide +kernel
theorem dX2_runsEnd_35 : decode cX2_runsEnd 35 = .ok (.bipush 6, 2) := by decide +kernel
theorem dX2_runsEnd_37 : decode cX2_runsEnd 37 = .ok (.if_icmp .lt 5, 3) := by decide +kernel
theorem dX2_runsEnd_40 : decode cX2_runsEnd 40 = .ok (.iconst (-1), 1) := by decide +kernel
theorem dX2_runsEnd_41 : decode cX2_runsEnd 41 = .ok (.ireturn, 1) := by decide +kernel
theorem dX2_runsEnd_42 : decode cX2_runsEnd 42 = .ok (.aload_n 1, 1) := by decide +kernel
theorem dX2_runsEnd_43 : decode cX2_runsEnd 43 = .ok (.getfield 78, 3) := by decide +kernel
theorem dX2_runsEnd_46 : decode cX2_runsEnd 46 = .ok (.iconst 4, 1) := by decide +kernel
theorem dX2_runsEnd_47 : decode cX2_runsEnd 47 = .ok (.iload_n 2, 1) := by decide +kernel
theorem dX2_runsEnd_48 : decode cX2_runsEnd 48 = .ok (.invokevirtual 82, 3) := by decide +kernel
theorem dX2_runsEnd_51 : decode cX2_runsEnd 51 = .ok (.aload_n 1, 1) := by decide +kernel
theorem dX2_runsEnd_52 : decode cX2_runsEnd 52 = .ok (.getfield 29, 3) := by decide +kernel
theorem dX2_runsEnd_55 : decode cX2_runsEnd 55 = .ok (.iload_n 3, 1) := by decide +kernel
theorem dX2_runsEnd_56 : decode cX2_runsEnd 56 = .ok (.iaload, 1) := by decide +kernel
theorem dX2_runsEnd_57 : decode cX2_runsEnd 57 = .ok (.istore 4, 2) := by decide +kernel
theorem dX2_runsEnd_59 : decode cX2_runsEnd 59 = .ok (.aload_n 1, 1) := by decide +kernel
theorem dX2_runsEnd_60 : decode cX2_runsEnd 60 = .ok (.getfield 29, 3) := by decide +kernel
theorem dX2_runsEnd_63 : decode cX2_runsEnd 63 = .ok (.iload_n 3, 1) := by decide +kernel
theorem dX2_runsEnd_64 : decode cX2_runsEnd 64 = .ok (.iload_n 2, 1) := by decide +kernel
theorem dX2_runsEnd_65 : decode cX2_runsEnd 65 = .ok (.iastore, 1) := by decide +kernel
theorem dX2_runsEnd_66 : decode cX2_runsEnd 66 = .ok (.aload_n 1, 1) := by decide +kernel
theorem dX2_runsEnd_67 : decode cX2_runsEnd 67 = .ok (.getfield 32, 3) := by decide +kernel
theorem dX2_runsEnd_70 : decode cX2_runsEnd 70 = .ok (.iload_n 2, 1) := by decide +kernel
theorem dX2_runsEnd_71 : decode cX2_runsEnd 71 = .ok (.dup2, 1) := by decide +kernel
theorem dX2_runsEnd_72 : decode cX2_runsEnd 72 = .ok (.iaload, 1) := by decide +kernel
theorem dX2_runsEnd_73 : decode cX2_runsEnd 73 = .ok (.iconst 1, 1) := by decide +kernel
theorem dX2_runsEnd_74 : decode cX2_runsEnd 74 = .ok (.iadd, 1) := by decide +kernel
theorem dX2_runsEnd_75 : decode cX2_runsEnd 75 = .ok (.iastore, 1) := by decide +kernel
theorem dX2_runsEnd_76 : decode cX2_runsEnd 76 = .ok (.aload_n 1, 1) := by decide +kernel
theorem dX2_runsEnd_77 : decode cX2_runsEnd 77 = .ok (.getfield 35, 3) := by decide +kernel
theorem dX2_runsEnd_80 : decode cX2_runsEnd 80 = .ok (.iload_n 2, 1) := by decide +kernel
theorem dX2_runsEnd_81 : decode cX2_runsEnd 81 = .ok (.invokevirtual 39, 3) := by decide +kernel
theorem dX2_runsEnd_84 : decode cX2_runsEnd 84 = .ok (.iload 4, 2) := by decide +kernel
theorem dX2_runsEnd_86 : decode cX2_runsEnd 86 = .ok (.ireturn, 1) := by decide +kernel
theorem dX2_goesOnFreeing_0 : decode cX2_goesOnFreeing 0 = .ok (.aload_n 0, 1) := by decide +kernel
theorem dX2_goesOnFreeing_1 : decode cX2_goesOnFreeing 1 = .ok (.getfield 9, 3) := by decide +kernel
theorem dX2_goesOnFreeing_4 : decode cX2_goesOnFreeing 4 = .ok (.aload_n 0, 1) := by decide +kernel
theorem dX2_goesOnFreeing_5 : decode cX2_goesOnFreeing 5 = .ok (.getfield 49, 3) := by decide +kernel
theorem dX2_goesOnFreeing_8 : decode cX2_goesOnFreeing 8 = .ok (.iconst 1, 1) := by decide +kernel
theorem dX2_goesOnFreeing_9 : decode cX2_goesOnFreeing 9 = .ok (.isub, 1) := by decide +kernel
theorem dX2_goesOnFreeing_10 : decode cX2_goesOnFreeing 10 = .ok (.iaload, 1) := by decide +kernel
theorem dX2_goesOnFreeing_11 : decode cX2_goesOnFreeing 11 = .ok (.istore_n 2, 1) := by decide +kernel
theorem dX2_goesOnFreeing_12 : decode cX2_goesOnFreeing 12 = .ok (.iconst 0, 1) := by decide +kernel
theorem dX2_goesOnFreeing_13 : decode cX2_goesOnFreeing 13 = .ok (.istore_n 3, 1) := by decide +kernel
theorem dX2_goesOnFreeing_14 : decode cX2_goesOnFreeing 14 = .ok (.iload_n 3, 1) := by decide +kernel
theorem dX2_goesOnFreeing_15 : decode cX2_goesOnFreeing 15 = .ok (.iconst 4, 1) := by decide +kernel
theorem dX2_goesOnFreeing_16 : decode cX2_goesOnFreeing 16 = .ok (.if_icmp .ge 33, 3) := by decide +kernel
theorem dX2_goesOnFreeing_19 : decode cX2_goesOnFreeing 19 = .ok (.aload_n 1, 1) := by decide +kernel
theorem dX2_goesOnFreeing_20 : decode cX2_goesOnFreeing 20 = .ok (.iload_n 2, 1) := by decide +kernel
theorem dX2_goesOnFreeing_21 : decode cX2_goesOnFreeing 21 = .ok (.iload_n 3, 1) := by decide +kernel
theorem dX2_goesOnFreeing_22 : decode cX2_goesOnFreeing 22 = .ok (.invokevirtual 15, 3) := by decide +kernel
theorem dX2_goesOnFreeing_25 : decode cX2_goesOnFreeing 25 = .ok (.istore 4, 2) := by decide +kernel
theorem dX2_goesOnFreeing_27 : decode cX2_goesOnFreeing 27 = .ok (.iload 4, 2) := by decide +kernel
theorem dX2_goesOnFreeing_29 : decode cX2_goesOnFreeing 29 = .ok (.iconst (-1), 1) := by decide +kernel
theorem dX2_goesOnFreeing_30 : decode cX2_goesOnFreeing 30 = .ok (.if_icmp .eq 13, 3) := by decide +kernel
theorem dX2_goesOnFreeing_33 : decode cX2_goesOnFreeing 33 = .ok (.aload_n 1, 1) := by decide +kernel
theorem dX2_goesOnFreeing_34 : decode cX2_goesOnFreeing 34 = .ok (.iload_n 2, 1) := by decide +kernel
theorem dX2_goesOnFreeing_35 : decode cX2_goesOnFreeing 35 = .ok (.iload_n 3, 1) := by decide +kernel
theorem dX2_goesOnFreeing_36 : decode cX2_goesOnFreeing 36 = .ok (.iconst (-1), 1) := by decide +kernel
theorem dX2_goesOnFreeing_37 : decode cX2_goesOnFreeing 37 = .ok (.invokevirtual 21, 3) := by decide +kernel
theorem dX2_goesOnFreeing_40 : decode cX2_goesOnFreeing 40 = .ok (.iload 4, 2) := by decide +kernel
theorem dX2_goesOnFreeing_42 : decode cX2_goesOnFreeing 42 = .ok (.ireturn, 1) := by decide +kernel
theorem dX2_goesOnFreeing_43 : decode cX2_goesOnFreeing 43 = .ok (.iinc 3 1, 3) := by decide +kernel
theorem dX2_goesOnFreeing_46 : decode cX2_goesOnFreeing 46 = .ok (.goto (-32), 3) := by decide +kernel
theorem dX2_goesOnFreeing_49 : decode cX2_goesOnFreeing 49 = .ok (.aload_n 0, 1) := by decide +kernel
theorem dX2_goesOnFreeing_50 : decode cX2_goesOnFreeing 50 = .ok (.dup, 1) := by decide +kernel
theorem dX2_goesOnFreeing_51 : decode cX2_goesOnFreeing 51 = .ok (.getfield 49, 3) := by decide +kernel
theorem dX2_goesOnFreeing_54 : decode cX2_goesOnFreeing 54 = .ok (.iconst 1, 1) := by decide +kernel
theorem dX2_goesOnFreeing_55 : decode cX2_goesOnFreeing 55 = .ok (.isub, 1) := by decide +kernel
theorem dX2_goesOnFreeing_56 : decode cX2_goesOnFreeing 56 = .ok (.putfield 49, 3) := by decide +kernel
theorem dX2_goesOnFreeing_59 : decode cX2_goesOnFreeing 59 = .ok (.aload_n 1, 1) := by decide +kernel
theorem dX2_goesOnFreeing_60 : decode cX2_goesOnFreeing 60 = .ok (.iload_n 2, 1) := by decide +kernel
theorem dX2_goesOnFreeing_61 : decode cX2_goesOnFreeing 61 = .ok (.invokevirtual 94, 3) := by decide +kernel
theorem dX2_goesOnFreeing_64 : decode cX2_goesOnFreeing 64 = .ok (.iconst (-1), 1) := by decide +kernel
theorem dX2_goesOnFreeing_65 : decode cX2_goesOnFreeing 65 = .ok (.ireturn, 1) := by decide +kernel
theorem dX3_init_0 : decode cX3_init 0 = .ok (.aload_n 0, 1) := by decide +kernel
theorem dX3_init_1 : decode cX3_init 1 = .ok (.invokespecial 3, 3) := by decide +kernel
theorem dX3_init_4 : decode cX3_init 4 = .ok (.aload_n 0, 1) := by decide +kernel
theorem dX3_init_5 : decode cX3_init 5 = .ok (.bipush 24, 2) := by decide +kernel
theorem dX3_init_7 : decode cX3_init 7 = .ok (.putfield 9, 3) := by decide +kernel
theorem dX3_init_10 : decode cX3_init 10 = .ok (.aload_n 0, 1) := by decide +kernel
theorem dX3_init_11 : decode cX3_init 11 = .ok (.bipush 24, 2) := by decide +kernel
theorem dX3_init_13 : decode cX3_init 13 = .ok (.newarray .int, 2) := by decide +kernel
theorem dX3_init_15 : decode cX3_init 15 = .ok (.putfield 15, 3) := by decide +kernel
theorem dX3_init_18 : decode cX3_init 18 = .ok (.aload_n 0, 1) := by decide +kernel
theorem dX3_init_19 : decode cX3_init 19 = .ok (.bipush 24, 2) := by decide +kernel
theorem dX3_init_21 : decode cX3_init 21 = .ok (.newarray .int, 2) := by decide +kernel
theorem dX3_init_23 : decode cX3_init 23 = .ok (.putfield 19, 3) := by decide +kernel
theorem dX3_init_26 : decode cX3_init 26 = .ok (.aload_n 0, 1) := by decide +kernel
theorem dX3_init_27 : decode cX3_init 27 = .ok (.bipush 24, 2) := by decide +kernel
theorem dX3_init_29 : decode cX3_init 29 = .ok (.newarray .int, 2) := by decide +kernel
theorem dX3_init_31 : decode cX3_init 31 = .ok (.putfield 22, 3) := by decide +kernel
theorem dX3_init_34 : decode cX3_init 34 = .ok (.aload_n 0, 1) := by decide +kernel
theorem dX3_init_35 : decode cX3_init 35 = .ok (.bipush 24, 2) := by decide +kernel
theorem dX3_init_37 : decode cX3_init 37 = .ok (.newarray .int, 2) := by decide +kernel
theorem dX3_init_39 : decode cX3_init 39 = .ok (.putfield 25, 3) := by decide +kernel
theorem dX3_init_42 : decode cX3_init 42 = .ok (.aload_n 0, 1) := by decide +kernel
theorem dX3_init_43 : decode cX3_init 43 = .ok (.bipush 96, 2) := by decide +kernel
theorem dX3_init_45 : decode cX3_init 45 = .ok (.newarray .int, 2) := by decide +kernel
theorem dX3_init_47 : decode cX3_init 47 = .ok (.putfield 28, 3) := by decide +kernel
theorem dX3_init_50 : decode cX3_init 50 = .ok (.aload_n 0, 1) := by decide +kernel
theorem dX3_init_51 : decode cX3_init 51 = .ok (.bipush 6, 2) := by decide +kernel
theorem dX3_init_53 : decode cX3_init 53 = .ok (.newarray .int, 2) := by decide +kernel
theorem dX3_init_55 : decode cX3_init 55 = .ok (.putfield 31, 3) := by decide +kernel
theorem dX3_init_58 : decode cX3_init 58 = .ok (.aload_n 0, 1) := by decide +kernel
theorem dX3_init_59 : decode cX3_init 59 = .ok (.iconst 4, 1) := by decide +kernel
theorem dX3_init_60 : decode cX3_init 60 = .ok (.newarray .int, 2) := by decide +kernel
theorem dX3_init_62 : decode cX3_init 62 = .ok (.putfield 34, 3) := by decide +kernel
theorem dX3_init_65 : decode cX3_init 65 = .ok (.aload_n 0, 1) := by decide +kernel
theorem dX3_init_66 : decode cX3_init 66 = .ok (.new 37, 3) := by decide +kernel
theorem dX3_init_69 : decode cX3_init 69 = .ok (.dup, 1) := by decide +kernel
theorem dX3_init_70 : decode cX3_init 70 = .ok (.invokespecial 39, 3) := by decide +kernel
theorem dX3_init_73 : decode cX3_init 73 = .ok (.putfield 40, 3) := by decide +kernel
theorem dX3_init_76 : decode cX3_init 76 = .ok (.aload_n 0, 1) := by decide +kernel
theorem dX3_init_77 : decode cX3_init 77 = .ok (.new 44, 3) := by decide +kernel
theorem dX3_init_80 : decode cX3_init 80 = .ok (.dup, 1) := by decide +kernel
theorem dX3_init_81 : decode cX3_init 81 = .ok (.invokespecial 46, 3) := by decide +kernel
theorem dX3_init_84 : decode cX3_init 84 = .ok (.putfield 47, 3) := by decide +kernel
theorem dX3_init_87 : decode cX3_init 87 = .ok (.aload_n 0, 1) := by decide +kernel
theorem dX3_init_88 : decode cX3_init 88 = .ok (.getfield 28, 3) := by decide +kernel
theorem dX3_init_91 : decode cX3_init 91 = .ok (.iconst (-1), 1) := by decide +kernel
theorem dX3_init_92 : decode cX3_init 92 = .ok (.invokestatic 51, 3) := by decide +kernel
theorem dX3_init_95 : decode cX3_init 95 = .ok (.aload_n 0, 1) := by decide +kernel
theorem dX3_init_96 : decode cX3_init 96 = .ok (.getfield 31, 3) := by decide +kernel
theorem dX3_init_99 : decode cX3_init 99 = .ok (.iconst (-1), 1) := by decide +kernel
theorem dX3_init_100 : decode cX3_init 100 = .ok (.invokestatic 51, 3) := by decide +kernel
theorem dX3_init_103 : decode cX3_init 103 = .ok (.aload_n 0, 1) := by decide +kernel
theorem dX3_init_104 : decode cX3_init 104 = .ok (.getfield 34, 3) := by decide +kernel
theorem dX3_init_107 : decode cX3_init 107 = .ok (.iconst (-1), 1) := by decide +kernel
theorem dX3_init_108 : decode cX3_init 108 = .ok (.invokestatic 51, 3) := by decide +kernel
theorem dX3_init_111 : decode cX3_init 111 = .ok (.return_, 1) := by decide +kernel
theorem dX3_copies_0 : decode cX3_copies 0 = .ok (.aload_n 0, 1) := by decide +kernel
theorem dX3_copies_1 : decode cX3_copies 1 = .ok (.aload_n 1, 1) := by decide +kernel
theorem dX3_copies_2 : decode cX3_copies 2 = .ok (.getfield 57, 3) := by decide +kernel
theorem dX3_copies_5 : decode cX3_copies 5 = .ok (.putfield 57, 3) := by decide +kernel
theorem dX3_copies_8 : decode cX3_copies 8 = .ok (.aload_n 0, 1) := by decide +kernel
theorem dX3_copies_9 : decode cX3_copies 9 = .ok (.aload_n 1, 1) := by decide +kernel
theorem dX3_copies_10 : decode cX3_copies 10 = .ok (.getfield 60, 3) := by decide +kernel
theorem dX3_copies_13 : decode cX3_copies 13 = .ok (.putfield 60, 3) := by decide +kernel
theorem dX3_copies_16 : decode cX3_copies 16 = .ok (.aload_n 0, 1) := by decide +kernel
theorem dX3_copies_17 : decode cX3_copies 17 = .ok (.aload_n 1, 1) := by decide +kernel
theorem dX3_copies_18 : decode cX3_copies 18 = .ok (.getfield 9, 3) := by decide +kernel
theorem dX3_copies_21 : decode cX3_copies 21 = .ok (.putfield 9, 3) := by decide +kernel
theorem dX3_copies_24 : decode cX3_copies 24 = .ok (.aload_n 1, 1) := by decide +kernel
theorem dX3_copies_25 : decode cX3_copies 25 = .ok (.getfield 15, 3) := by decide +kernel
theorem dX3_copies_28 : decode cX3_copies 28 = .ok (.iconst 0, 1) := by decide +kernel
theorem dX3_copies_29 : decode cX3_copies 29 = .ok (.aload_n 0, 1) := by decide +kernel
theorem dX3_copies_30 : decode cX3_copies 30 = .ok (.getfield 15, 3) := by decide +kernel
theorem dX3_copies_33 : decode cX3_copies 33 = .ok (.iconst 0, 1) := by decide +kernel
theorem dX3_copies_34 : decode cX3_copies 34 = .ok (.bipush 24, 2) := by decide +kernel
theorem dX3_copies_36 : decode cX3_copies 36 = .ok (.invokestatic 63, 3) := by decide +kernel
theorem dX3_copies_39 : decode cX3_copies 39 = .ok (.aload_n 1, 1) := by decide +kernel
theorem dX3_copies_40 : decode cX3_copies 40 = .ok (.getfield 19, 3) := by decide +kernel
theorem dX3_copies_43 : decode cX3_copies 43 = .ok (.iconst 0, 1) := by decide +kernel
theorem dX3_copies_44 : decode cX3_copies 44 = .ok (.aload_n 0, 1) := by decide +kernel
theorem dX3_copies_45 : decode cX3_copies 45 = .ok (.getfield 19, 3) := by decide +kernel
theorem dX3_copies_48 : decode cX3_copies 48 = .ok (.iconst 0, 1) := by decide +kernel
theorem dX3_copies_49 : decode cX3_copies 49 = .ok (.bipush 24, 2) := by decide +kernel
theorem dX3_copies_51 : decode cX3_copies 51 = .ok (.invokestatic 63, 3) := by decide +kernel
theorem dX3_copies_54 : decode cX3_copies 54 = .ok (.aload_n 1, 1) := by decide +kernel
theorem dX3_copies_55 : decode cX3_copies 55 = .ok (.getfield 22, 3) := by decide +kernel
theorem dX3_copies_58 : decode cX3_copies 58 = .ok (.iconst 0, 1) := by decide +kernel
theorem dX3_copies_59 : decode cX3_copies 59 = .ok (.aload_n 0, 1) := by decide +kernel
theorem dX3_copies_60 : decode cX3_copies 60 = .ok (.getfield 22, 3) := by decide +kernel
theorem dX3_copies_63 : decode cX3_copies 63 = .ok (.iconst 0, 1) := by decide +kernel
theorem dX3_copies_64 : decode cX3_copies 64 = .ok (.bipush 24, 2) := by decide +kernel
theorem dX3_copies_66 : decode cX3_copies 66 = .ok (.invokestatic 63, 3) := by decide +kernel
theorem dX3_copies_69 : decode cX3_copies 69 = .ok (.aload_n 1, 1) := by decide +kernel
theorem dX3_copies_70 : decode cX3_copies 70 = .ok (.getfield 25, 3) := by decide +kernel
theorem dX3_copies_73 : decode cX3_copies 73 = .ok (.iconst 0, 1) := by decide +kernel
theorem dX3_copies_74 : decode cX3_copies 74 = .ok (.aload_n 0, 1) := by decide +kernel
theorem dX3_copies_75 : decode cX3_copies 75 = .ok (.getfield 25, 3) := by decide +kernel
theorem dX3_copies_78 : decode cX3_copies 78 = .ok (.iconst 0, 1) := by decide +kernel
theorem dX3_copies_79 : decode cX3_copies 79 = .ok (.bipush 24, 2) := by decide +kernel
theorem dX3_copies_81 : decode cX3_copies 81 = .ok (.invokestatic 63, 3) := by decide +kernel
theorem dX3_copies_84 : decode cX3_copies 84 = .ok (.aload_n 1, 1) := by decide +kernel
theorem dX3_copies_85 : decode cX3_copies 85 = .ok (.getfield 28, 3) := by decide +kernel
theorem dX3_copies_88 : decode cX3_copies 88 = .ok (.iconst 0, 1) := by decide +kernel
theorem dX3_copies_89 : decode cX3_copies 89 = .ok (.aload_n 0, 1) := by decide +kernel
theorem dX3_copies_90 : decode cX3_copies 90 = .ok (.getfield 28, 3) := by decide +kernel
theorem dX3_copies_93 : decode cX3_copies 93 = .ok (.iconst 0, 1) := by decide +kernel
theorem dX3_copies_94 : decode cX3_copies 94 = .ok (.bipush 96, 2) := by decide +kernel
theorem dX3_copies_96 : decode cX3_copies 96 = .ok (.invokestatic 63, 3) := by decide +kernel
theorem dX3_copies_99 : decode cX3_copies 99 = .ok (.aload_n 1, 1) := by decide +kernel
theorem dX3_copies_100 : decode cX3_copies 100 = .ok (.getfield 31, 3) := by decide +kernel
theorem dX3_copies_103 : decode cX3_copies 103 = .ok (.iconst 0, 1) := by decide +kernel
theorem dX3_copies_104 : decode cX3_copies 104 = .ok (.aload_n 0, 1) := by decide +kernel
theorem dX3_copies_105 : decode cX3_copies 105 = .ok (.getfield 31, 3) := by decide +kernel
theorem dX3_copies_108 : decode cX3_copies 108 = .ok (.iconst 0, 1) := by decide +kernel
theorem dX3_copies_109 : decode cX3_copies 109 = .ok (.bipush 6, 2) := by decide +kernel
theorem dX3_copies_111 : decode cX3_copies 111 = .ok (.invokestatic 63, 3) := by decide +kernel
theorem dX3_copies_114 : decode cX3_copies 114 = .ok (.aload_n 1, 1) := by decide +kernel
theorem dX3_copies_115 : decode cX3_copies 115 = .ok (.getfield 34, 3) := by decide +kernel
theorem dX3_copies_118 : decode cX3_copies 118 = .ok (.iconst 0, 1) := by decide +kernel
theorem dX3_copies_119 : decode cX3_copies 119 = .ok (.aload_n 0, 1) := by decide +kernel
theorem dX3_copies_120 : decode cX3_copies 120 = .ok (.getfield 34, 3) := by decide +kernel
theorem dX3_copies_123 : decode cX3_copies 123 = .ok (.iconst 0, 1) := by decide +kernel
theorem dX3_copies_124 : decode cX3_copies 124 = .ok (.iconst 4, 1) := by decide +kernel
theorem dX3_copies_125 : decode cX3_copies 125 = .ok (.invokestatic 63, 3) := by decide +kernel
theorem dX3_copies_128 : decode cX3_copies 128 = .ok (.aload_n 0, 1) := by decide +kernel
theorem dX3_copies_129 : decode cX3_copies 129 = .ok (.getfield 40, 3) := by decide +kernel
theorem dX3_copies_132 : decode cX3_copies 132 = .ok (.aload_n 1, 1) := by decide +kernel
theorem dX3_copies_133 : decode cX3_copies 133 = .ok (.getfield 40, 3) := by decide +kernel
theorem dX3_copies_136 : decode cX3_copies 136 = .ok (.invokevirtual 69, 3) := by decide +kernel
theorem dX3_copies_139 : decode cX3_copies 139 = .ok (.aload_n 0, 1) := by decide +kernel
theorem dX3_copies_140 : decode cX3_copies 140 = .ok (.getfield 47, 3) := by decide +kernel
theorem dX3_copies_143 : decode cX3_copies 143 = .ok (.aload_n 1, 1) := by decide +kernel
theorem dX3_copies_144 : decode cX3_copies 144 = .ok (.getfield 47, 3) := by decide +kernel
theorem dX3_copies_147 : decode cX3_copies 147 = .ok (.invokevirtual 73, 3) := by decide +kernel
theorem dX3_copies_150 : decode cX3_copies 150 = .ok (.return_, 1) := by decide +kernel
theorem dX3_has_0 : decode cX3_has 0 = .ok (.iload_n 1, 1) := by decide +kernel
theorem dX3_has_1 : decode cX3_has 1 = .ok (.ifCond .lt 25, 3) := by decide +kernel
theorem dX3_has_4 : decode cX3_has 4 = .ok (.iload_n 1, 1) := by decide +kernel
theorem dX3_has_5 : decode cX3_has 5 = .ok (.bipush 24, 2) := by decide +kernel
theorem dX3_has_7 : decode cX3_has 7 = .ok (.if_icmp .ge 19, 3) := by decide +kernel
theorem dX3_has_10 : decode cX3_has 10 = .ok (.aload_n 0, 1) := by decide +kernel
theorem dX3_has_11 : decode cX3_has 11 = .ok (.getfield 57, 3) := by decide +kernel
theorem dX3_has_14 : decode cX3_has 14 = .ok (.iload_n 1, 1) := by decide +kernel
theorem dX3_has_15 : decode cX3_has 15 = .ok (.iushr, 1) := by decide +kernel
theorem dX3_has_16 : decode cX3_has 16 = .ok (.iconst 1, 1) := by decide +kernel
theorem dX3_has_17 : decode cX3_has 17 = .ok (.iand, 1) := by decide +kernel
theorem dX3_has_18 : decode cX3_has 18 = .ok (.iconst 1, 1) := by decide +kernel
theorem dX3_has_19 : decode cX3_has 19 = .ok (.if_icmp .ne 7, 3) := by decide +kernel
theorem dX3_has_22 : decode cX3_has 22 = .ok (.iconst 1, 1) := by decide +kernel
theorem dX3_has_23 : decode cX3_has 23 = .ok (.goto 4, 3) := by decide +kernel
theorem dX3_has_26 : decode cX3_has 26 = .ok (.iconst 0, 1) := by decide +kernel
theorem dX3_has_27 : decode cX3_has 27 = .ok (.ireturn, 1) := by decide +kernel
theorem dX3_hasOrNone_0 : decode cX3_hasOrNone 0 = .ok (.iload_n 1, 1) := by decide +kernel
theorem dX3_hasOrNone_1 : decode cX3_hasOrNone 1 = .ok (.iconst (-1), 1) := by decide +kernel
theorem dX3_hasOrNone_2 : decode cX3_hasOrNone 2 = .ok (.if_icmp .eq 11, 3) := by decide +kernel
theorem dX3_hasOrNone_5 : decode cX3_hasOrNone 5 = .ok (.aload_n 0, 1) := by decide +kernel
theorem dX3_hasOrNone_6 : decode cX3_hasOrNone 6 = .ok (.iload_n 1, 1) := by decide +kernel
theorem dX3_hasOrNone_7 : decode cX3_hasOrNone 7 = .ok (.invokevirtual 76, 3) := by decide +kernel
theorem dX3_hasOrNone_10 : decode cX3_hasOrNone 10 = .ok (.ifCond .eq 7, 3) := by decide +kernel
theorem dX3_hasOrNone_13 : decode cX3_hasOrNone 13 = .ok (.iconst 1, 1) := by decide +kernel
theorem dX3_hasOrNone_14 : decode cX3_hasOrNone 14 = .ok (.goto 4, 3) := by decide +kernel
theorem dX3_hasOrNone_17 : decode cX3_hasOrNone 17 = .ok (.iconst 0, 1) := by decide +kernel
theorem dX3_hasOrNone_18 : decode cX3_hasOrNone 18 = .ok (.ireturn, 1) := by decide +kernel
theorem dX3_hasField_0 : decode cX3_hasField 0 = .ok (.aload_n 0, 1) := by decide +kernel
theorem dX3_hasField_1 : decode cX3_hasField 1 = .ok (.iload_n 1, 1) := by decide +kernel
theorem dX3_hasField_2 : decode cX3_hasField 2 = .ok (.invokevirtual 76, 3) := by decide +kernel
theorem dX3_hasField_5 : decode cX3_hasField 5 = .ok (.ifCond .eq 21, 3) := by decide +kernel
theorem dX3_hasField_8 : decode cX3_hasField 8 = .ok (.iload_n 2, 1) := by decide +kernel
theorem dX3_hasField_9 : decode cX3_hasField 9 = .ok (.ifCond .lt 17, 3) := by decide +kernel
theorem dX3_hasField_12 : decode cX3_hasField 12 = .ok (.iload_n 2, 1) := by decide +kernel
theorem dX3_hasField_13 : decode cX3_hasField 13 = .ok (.aload_n 0, 1) := by decide +kernel
theorem dX3_hasField_14 : decode cX3_hasField 14 = .ok (.getfield 15, 3) := by decide +kernel
theorem dX3_hasField_17 : decode cX3_hasField 17 = .ok (.iload_n 1, 1) := by decide +kernel
theorem dX3_hasField_18 : decode cX3_hasField 18 = .ok (.iaload, 1) := by decide +kernel
theorem dX3_hasField_19 : decode cX3_hasField 19 = .ok (.if_icmp .ge 7, 3) := by decide +kernel
theorem dX3_hasField_22 : decode cX3_hasField 22 = .ok (.iconst 1, 1) := by decide +kernel
theorem dX3_hasField_23 : decode cX3_hasField 23 = .ok (.goto 4, 3) := by decide +kernel
theorem dX3_hasField_26 : decode cX3_hasField 26 = .ok (.iconst 0, 1) := by decide +kernel
theorem dX3_hasField_27 : decode cX3_hasField 27 = .ok (.ireturn, 1) := by decide +kernel
theorem dX3_fieldAt_0 : decode cX3_fieldAt 0 = .ok (.iload_n 1, 1) := by decide +kernel
theorem dX3_fieldAt_1 : decode cX3_fieldAt 1 = .ok (.ifCond .lt 31, 3) := by decide +kernel
theorem dX3_fieldAt_4 : decode cX3_fieldAt 4 = .ok (.iload_n 1, 1) := by decide +kernel
theorem dX3_fieldAt_5 : decode cX3_fieldAt 5 = .ok (.bipush 24, 2) := by decide +kernel
theorem dX3_fieldAt_7 : decode cX3_fieldAt 7 = .ok (.if_icmp .ge 25, 3) := by decide +kernel
theorem dX3_fieldAt_10 : decode cX3_fieldAt 10 = .ok (.iload_n 2, 1) := by decide +kernel
theorem dX3_fieldAt_11 : decode cX3_fieldAt 11 = .ok (.ifCond .lt 21, 3) := by decide +kernel
theorem dX3_fieldAt_14 : decode cX3_fieldAt 14 = .ok (.iload_n 2, 1) := by decide +kernel
theorem dX3_fieldAt_15 : decode cX3_fieldAt 15 = .ok (.iconst 4, 1) := by decide +kernel
theorem dX3_fieldAt_16 : decode cX3_fieldAt 16 = .ok (.if_icmp .ge 16, 3) := by decide +kernel
theorem dX3_fieldAt_19 : decode cX3_fieldAt 19 = .ok (.aload_n 0, 1) := by decide +kernel
theorem dX3_fieldAt_20 : decode cX3_fieldAt 20 = .ok (.getfield 28, 3) := by decide +kernel
theorem dX3_fieldAt_23 : decode cX3_fieldAt 23 = .ok (.iload_n 1, 1) := by decide +kernel
theorem dX3_fieldAt_24 : decode cX3_fieldAt 24 = .ok (.iconst 4, 1) := by decide +kernel
theorem dX3_fieldAt_25 : decode cX3_fieldAt 25 = .ok (.imul, 1) := by decide +kernel
theorem dX3_fieldAt_26 : decode cX3_fieldAt 26 = .ok (.iload_n 2, 1) := by decide +kernel
theorem dX3_fieldAt_27 : decode cX3_fieldAt 27 = .ok (.iadd, 1) := by decide +kernel
theorem dX3_fieldAt_28 : decode cX3_fieldAt 28 = .ok (.iaload, 1) := by decide +kernel
theorem dX3_fieldAt_29 : decode cX3_fieldAt 29 = .ok (.goto 4, 3) := by decide +kernel
theorem dX3_fieldAt_32 : decode cX3_fieldAt 32 = .ok (.iconst (-1), 1) := by decide +kernel
theorem dX3_fieldAt_33 : decode cX3_fieldAt 33 = .ok (.ireturn, 1) := by decide +kernel
theorem dX3_fills_0 : decode cX3_fills 0 = .ok (.iload_n 1, 1) := by decide +kernel
theorem dX3_fills_1 : decode cX3_fills 1 = .ok (.ifCond .lt 29, 3) := by decide +kernel
theorem dX3_fills_4 : decode cX3_fills 4 = .ok (.iload_n 1, 1) := by decide +kernel
theorem dX3_fills_5 : decode cX3_fills 5 = .ok (.bipush 24, 2) := by decide +kernel
theorem dX3_fills_7 : decode cX3_fills 7 = .ok (.if_icmp .ge 23, 3) := by decide +kernel
theorem dX3_fills_10 : decode cX3_fills 10 = .ok (.iload_n 2, 1) := by decide +kernel
theorem dX3_fills_11 : decode cX3_fills 11 = .ok (.ifCond .lt 19, 3) := by decide +kernel
theorem dX3_fills_14 : decode cX3_fills 14 = .ok (.iload_n 2, 1) := by decide +kernel
theorem dX3_fills_15 : decode cX3_fills 15 = .ok (.iconst 4, 1) := by decide +kernel
theorem dX3_fills_16 : decode cX3_fills 16 = .ok (.if_icmp .ge 14, 3) := by decide +kernel
theorem dX3_fills_19 : decode cX3_fills 19 = .ok (.aload_n 0, 1) := by decide +kernel
theorem dX3_fills_20 : decode cX3_fills 20 = .ok (.getfield 28, 3) := by decide +kernel
theorem dX3_fills_23 : decode cX3_fills 23 = .ok (.iload_n 1, 1) := by decide +kernel
theorem dX3_fills_24 : decode cX3_fills 24 = .ok (.iconst 4, 1) := by decide +kernel
theorem dX3_fills_25 : decode cX3_fills 25 = .ok (.imul, 1) := by decide +kernel
theorem dX3_fills_26 : decode cX3_fills 26 = .ok (.iload_n 2, 1) := by decide +kernel
theorem dX3_fills_27 : decode cX3_fills 27 = .ok (.iadd, 1) := by decide +kernel
theorem dX3_fills_28 : decode cX3_fills 28 = .ok (.iload_n 3, 1) := by decide +kernel
theorem dX3_fills_29 : decode cX3_fills 29 = .ok (.iastore, 1) := by decide +kernel
theorem dX3_fills_30 : decode cX3_fills 30 = .ok (.return_, 1) := by decide +kernel
theorem dX3_rootAt_0 : decode cX3_rootAt 0 = .ok (.iload_n 1, 1) := by decide +kernel
theorem dX3_rootAt_1 : decode cX3_rootAt 1 = .ok (.ifCond .lt 18, 3) := by decide +kernel
theorem dX3_rootAt_4 : decode cX3_rootAt 4 = .ok (.iload_n 1, 1) := by decide +kernel
theorem dX3_rootAt_5 : decode cX3_rootAt 5 = .ok (.bipush 6, 2) := by decide +kernel
theorem dX3_rootAt_7 : decode cX3_rootAt 7 = .ok (.if_icmp .ge 12, 3) := by decide +kernel
theorem dX3_rootAt_10 : decode cX3_rootAt 10 = .ok (.aload_n 0, 1) := by decide +kernel
theorem dX3_rootAt_11 : decode cX3_rootAt 11 = .ok (.getfield 31, 3) := by decide +kernel
theorem dX3_rootAt_14 : decode cX3_rootAt 14 = .ok (.iload_n 1, 1) := by decide +kernel
theorem dX3_rootAt_15 : decode cX3_rootAt 15 = .ok (.iaload, 1) := by decide +kernel
theorem dX3_rootAt_16 : decode cX3_rootAt 16 = .ok (.goto 4, 3) := by decide +kernel
theorem dX3_rootAt_19 : decode cX3_rootAt 19 = .ok (.iconst (-1), 1) := by decide +kernel
theorem dX3_rootAt_20 : decode cX3_rootAt 20 = .ok (.ireturn, 1) := by decide +kernel
theorem dX3_weakAt_0 : decode cX3_weakAt 0 = .ok (.iload_n 1, 1) := by decide +kernel
theorem dX3_weakAt_1 : decode cX3_weakAt 1 = .ok (.ifCond .lt 17, 3) := by decide +kernel
theorem dX3_weakAt_4 : decode cX3_weakAt 4 = .ok (.iload_n 1, 1) := by decide +kernel
theorem dX3_weakAt_5 : decode cX3_weakAt 5 = .ok (.iconst 4, 1) := by decide +kernel
theorem dX3_weakAt_6 : decode cX3_weakAt 6 = .ok (.if_icmp .ge 12, 3) := by decide +kernel
theorem dX3_weakAt_9 : decode cX3_weakAt 9 = .ok (.aload_n 0, 1) := by decide +kernel
theorem dX3_weakAt_10 : decode cX3_weakAt 10 = .ok (.getfield 34, 3) := by decide +kernel
theorem dX3_weakAt_13 : decode cX3_weakAt 13 = .ok (.iload_n 1, 1) := by decide +kernel
theorem dX3_weakAt_14 : decode cX3_weakAt 14 = .ok (.iaload, 1) := by decide +kernel
theorem dX3_weakAt_15 : decode cX3_weakAt 15 = .ok (.goto 4, 3) := by decide +kernel
theorem dX3_weakAt_18 : decode cX3_weakAt 18 = .ok (.iconst (-1), 1) := by decide +kernel
theorem dX3_weakAt_19 : decode cX3_weakAt 19 = .ok (.ireturn, 1) := by decide +kernel
theorem dX3_objects_0 : decode cX3_objects 0 = .ok (.aload_n 0, 1) := by decide +kernel
theorem dX3_objects_1 : decode cX3_objects 1 = .ok (.getfield 57, 3) := by decide +kernel
theorem dX3_objects_4 : decode cX3_objects 4 = .ok (.invokestatic 80, 3) := by decide +kernel
theorem dX3_objects_7 : decode cX3_objects 7 = .ok (.ireturn, 1) := by decide +kernel
theorem dX3_leastFree_0 : decode cX3_leastFree 0 = .ok (.iconst 0, 1) := by decide +kernel
theorem dX3_leastFree_1 : decode cX3_leastFree 1 = .ok (.istore_n 1, 1) := by decide +kernel
theorem dX3_leastFree_2 : decode cX3_leastFree 2 = .ok (.iload_n 1, 1) := by decide +kernel
theorem dX3_leastFree_3 : decode cX3_leastFree 3 = .ok (.bipush 24, 2) := by decide +kernel
theorem dX3_leastFree_5 : decode cX3_leastFree 5 = .ok (.if_icmp .ge 22, 3) := by decide +kernel
theorem dX3_leastFree_8 : decode cX3_leastFree 8 = .ok (.aload_n 0, 1) := by decide +kernel
theorem dX3_leastFree_9 : decode cX3_leastFree 9 = .ok (.getfield 57, 3) := by decide +kernel
theorem dX3_leastFree_12 : decode cX3_leastFree 12 = .ok (.iload_n 1, 1) := by decide +kernel
theorem dX3_leastFree_13 : decode cX3_leastFree 13 = .ok (.invokestatic 86, 3) := by decide +kernel
theorem dX3_leastFree_16 : decode cX3_leastFree 16 = .ok (.ifCond .ne 5, 3) := by decide +kernel
theorem dX3_leastFree_19 : decode cX3_leastFree 19 = .ok (.iload_n 1, 1) := by decide +kernel
theorem dX3_leastFree_20 : decode cX3_leastFree 20 = .ok (.ireturn, 1) := by decide +kernel
theorem dX3_leastFree_21 : decode cX3_leastFree 21 = .ok (.iinc 1 1, 3) := by decide +kernel
theorem dX3_leastFree_24 : decode cX3_leastFree 24 = .ok (.goto (-22), 3) := by decide +kernel
theorem dX3_leastFree_27 : decode cX3_leastFree 27 = .ok (.iconst (-1), 1) := by decide +kernel
theorem dX3_leastFree_28 : decode cX3_leastFree 28 = .ok (.ireturn, 1) := by decide +kernel
theorem dX3_hasEndToRun_0 : decode cX3_hasEndToRun 0 = .ok (.aload_n 0, 1) := by decide +kernel
theorem dX3_hasEndToRun_1 : decode cX3_hasEndToRun 1 = .ok (.iload_n 1, 1) := by decide +kernel
theorem dX3_hasEndToRun_2 : decode cX3_hasEndToRun 2 = .ok (.invokevirtual 76, 3) := by decide +kernel
theorem dX3_hasEndToRun_5 : decode cX3_hasEndToRun 5 = .ok (.ifCond .eq 27, 3) := by decide +kernel
theorem dX3_hasEndToRun_8 : decode cX3_hasEndToRun 8 = .ok (.aload_n 0, 1) := by decide +kernel
theorem dX3_hasEndToRun_9 : decode cX3_hasEndToRun 9 = .ok (.getfield 22, 3) := by decide +kernel
theorem dX3_hasEndToRun_12 : decode cX3_hasEndToRun 12 = .ok (.iload_n 1, 1) := by decide +kernel
theorem dX3_hasEndToRun_13 : decode cX3_hasEndToRun 13 = .ok (.iaload, 1) := by decide +kernel
theorem dX3_hasEndToRun_14 : decode cX3_hasEndToRun 14 = .ok (.ifCond .eq 18, 3) := by decide +kernel
theorem dX3_hasEndToRun_17 : decode cX3_hasEndToRun 17 = .ok (.aload_n 0, 1) := by decide +kernel
theorem dX3_hasEndToRun_18 : decode cX3_hasEndToRun 18 = .ok (.getfield 60, 3) := by decide +kernel
theorem dX3_hasEndToRun_21 : decode cX3_hasEndToRun 21 = .ok (.iload_n 1, 1) := by decide +kernel
theorem dX3_hasEndToRun_22 : decode cX3_hasEndToRun 22 = .ok (.invokestatic 86, 3) := by decide +kernel
theorem dX3_hasEndToRun_25 : decode cX3_hasEndToRun 25 = .ok (.ifCond .ne 7, 3) := by decide +kernel
theorem dX3_hasEndToRun_28 : decode cX3_hasEndToRun 28 = .ok (.iconst 1, 1) := by decide +kernel
theorem dX3_hasEndToRun_29 : decode cX3_hasEndToRun 29 = .ok (.goto 4, 3) := by decide +kernel
theorem dX3_hasEndToRun_32 : decode cX3_hasEndToRun 32 = .ok (.iconst 0, 1) := by decide +kernel
theorem dX3_hasEndToRun_33 : decode cX3_hasEndToRun 33 = .ok (.ireturn, 1) := by decide +kernel
theorem dX3_fieldBits_0 : decode cX3_fieldBits 0 = .ok (.iconst 0, 1) := by decide +kernel
theorem dX3_fieldBits_1 : decode cX3_fieldBits 1 = .ok (.istore_n 2, 1) := by decide +kernel
theorem dX3_fieldBits_2 : decode cX3_fieldBits 2 = .ok (.iconst 0, 1) := by decide +kernel
theorem dX3_fieldBits_3 : decode cX3_fieldBits 3 = .ok (.istore_n 3, 1) := by decide +kernel
theorem dX3_fieldBits_4 : decode cX3_fieldBits 4 = .ok (.iload_n 3, 1) := by decide +kernel
theorem dX3_fieldBits_5 : decode cX3_fieldBits 5 = .ok (.iconst 4, 1) := by decide +kernel
theorem dX3_fieldBits_6 : decode cX3_fieldBits 6 = .ok (.if_icmp .ge 30, 3) := by decide +kernel
theorem dX3_fieldBits_9 : decode cX3_fieldBits 9 = .ok (.aload_n 0, 1) := by decide +kernel
theorem dX3_fieldBits_10 : decode cX3_fieldBits 10 = .ok (.iload_n 1, 1) := by decide +kernel
theorem dX3_fieldBits_11 : decode cX3_fieldBits 11 = .ok (.iload_n 3, 1) := by decide +kernel
theorem dX3_fieldBits_12 : decode cX3_fieldBits 12 = .ok (.invokevirtual 90, 3) := by decide +kernel
theorem dX3_fieldBits_15 : decode cX3_fieldBits 15 = .ok (.istore 4, 2) := by decide +kernel
theorem dX3_fieldBits_17 : decode cX3_fieldBits 17 = .ok (.iload 4, 2) := by decide +kernel
theorem dX3_fieldBits_19 : decode cX3_fieldBits 19 = .ok (.iconst (-1), 1) := by decide +kernel
theorem dX3_fieldBits_20 : decode cX3_fieldBits 20 = .ok (.if_icmp .eq 10, 3) := by decide +kernel
theorem dX3_fieldBits_23 : decode cX3_fieldBits 23 = .ok (.iload_n 2, 1) := by decide +kernel
theorem dX3_fieldBits_24 : decode cX3_fieldBits 24 = .ok (.iconst 1, 1) := by decide +kernel
theorem dX3_fieldBits_25 : decode cX3_fieldBits 25 = .ok (.iload 4, 2) := by decide +kernel
theorem dX3_fieldBits_27 : decode cX3_fieldBits 27 = .ok (.ishl, 1) := by decide +kernel
theorem dX3_fieldBits_28 : decode cX3_fieldBits 28 = .ok (.ior, 1) := by decide +kernel
theorem dX3_fieldBits_29 : decode cX3_fieldBits 29 = .ok (.istore_n 2, 1) := by decide +kernel
theorem dX3_fieldBits_30 : decode cX3_fieldBits 30 = .ok (.iinc 3 1, 3) := by decide +kernel
theorem dX3_fieldBits_33 : decode cX3_fieldBits 33 = .ok (.goto (-29), 3) := by decide +kernel
theorem dX3_fieldBits_36 : decode cX3_fieldBits 36 = .ok (.iload_n 2, 1) := by decide +kernel
theorem dX3_fieldBits_37 : decode cX3_fieldBits 37 = .ok (.ireturn, 1) := by decide +kernel
theorem dX3_rootBits_0 : decode cX3_rootBits 0 = .ok (.iconst 0, 1) := by decide +kernel
theorem dX3_rootBits_1 : decode cX3_rootBits 1 = .ok (.istore_n 2, 1) := by decide +kernel
theorem dX3_rootBits_2 : decode cX3_rootBits 2 = .ok (.iconst 0, 1) := by decide +kernel
theorem dX3_rootBits_3 : decode cX3_rootBits 3 = .ok (.istore_n 3, 1) := by decide +kernel
theorem dX3_rootBits_4 : decode cX3_rootBits 4 = .ok (.iload_n 3, 1) := by decide +kernel
theorem dX3_rootBits_5 : decode cX3_rootBits 5 = .ok (.bipush 6, 2) := by decide +kernel
theorem dX3_rootBits_7 : decode cX3_rootBits 7 = .ok (.if_icmp .ge 38, 3) := by decide +kernel
theorem dX3_rootBits_10 : decode cX3_rootBits 10 = .ok (.aload_n 0, 1) := by decide +kernel
theorem dX3_rootBits_11 : decode cX3_rootBits 11 = .ok (.getfield 31, 3) := by decide +kernel
theorem dX3_rootBits_14 : decode cX3_rootBits 14 = .ok (.iload_n 3, 1) := by decide +kernel
theorem dX3_rootBits_15 : decode cX3_rootBits 15 = .ok (.iaload, 1) := by decide +kernel
theorem dX3_rootBits_16 : decode cX3_rootBits 16 = .ok (.iconst (-1), 1) := by decide +kernel
theorem dX3_rootBits_17 : decode cX3_rootBits 17 = .ok (.if_icmp .eq 22, 3) := by decide +kernel
theorem dX3_rootBits_20 : decode cX3_rootBits 20 = .ok (.iload_n 1, 1) := by decide +kernel
theorem dX3_rootBits_21 : decode cX3_rootBits 21 = .ok (.iload_n 3, 1) := by decide +kernel
theorem dX3_rootBits_22 : decode cX3_rootBits 22 = .ok (.invokestatic 86, 3) := by decide +kernel
theorem dX3_rootBits_25 : decode cX3_rootBits 25 = .ok (.ifCond .ne 14, 3) := by decide +kernel
theorem dX3_rootBits_28 : decode cX3_rootBits 28 = .ok (.iload_n 2, 1) := by decide +kernel
theorem dX3_rootBits_29 : decode cX3_rootBits 29 = .ok (.iconst 1, 1) := by decide +kernel
theorem dX3_rootBits_30 : decode cX3_rootBits 30 = .ok (.aload_n 0, 1) := by decide +kernel
theorem dX3_rootBits_31 : decode cX3_rootBits 31 = .ok (.getfield 31, 3) := by decide +kernel
theorem dX3_rootBits_34 : decode cX3_rootBits 34 = .ok (.iload_n 3, 1) := by decide +kernel
theorem dX3_rootBits_35 : decode cX3_rootBits 35 = .ok (.iaload, 1) := by decide +kernel
theorem dX3_rootBits_36 : decode cX3_rootBits 36 = .ok (.ishl, 1) := by decide +kernel
theorem dX3_rootBits_37 : decode cX3_rootBits 37 = .ok (.ior, 1) := by decide +kernel
theorem dX3_rootBits_38 : decode cX3_rootBits 38 = .ok (.istore_n 2, 1) := by decide +kernel
theorem dX3_rootBits_39 : decode cX3_rootBits 39 = .ok (.iinc 3 1, 3) := by decide +kernel
theorem dX3_rootBits_42 : decode cX3_rootBits 42 = .ok (.goto (-38), 3) := by decide +kernel
theorem dX3_rootBits_45 : decode cX3_rootBits 45 = .ok (.iload_n 2, 1) := by decide +kernel
theorem dX3_rootBits_46 : decode cX3_rootBits 46 = .ok (.ireturn, 1) := by decide +kernel
theorem dX3_weightOf_0 : decode cX3_weightOf 0 = .ok (.iconst 0, 1) := by decide +kernel
theorem dX3_weightOf_1 : decode cX3_weightOf 1 = .ok (.istore_n 2, 1) := by decide +kernel
theorem dX3_weightOf_2 : decode cX3_weightOf 2 = .ok (.iconst 0, 1) := by decide +kernel
theorem dX3_weightOf_3 : decode cX3_weightOf 3 = .ok (.istore_n 3, 1) := by decide +kernel
theorem dX3_weightOf_4 : decode cX3_weightOf 4 = .ok (.iload_n 3, 1) := by decide +kernel
theorem dX3_weightOf_5 : decode cX3_weightOf 5 = .ok (.bipush 24, 2) := by decide +kernel
theorem dX3_weightOf_7 : decode cX3_weightOf 7 = .ok (.if_icmp .ge 24, 3) := by decide +kernel
theorem dX3_weightOf_10 : decode cX3_weightOf 10 = .ok (.iload_n 2, 1) := by decide +kernel
theorem dX3_weightOf_11 : decode cX3_weightOf 11 = .ok (.iload_n 1, 1) := by decide +kernel
theorem dX3_weightOf_12 : decode cX3_weightOf 12 = .ok (.iload_n 3, 1) := by decide +kernel
theorem dX3_weightOf_13 : decode cX3_weightOf 13 = .ok (.invokestatic 86, 3) := by decide +kernel
theorem dX3_weightOf_16 : decode cX3_weightOf 16 = .ok (.aload_n 0, 1) := by decide +kernel
theorem dX3_weightOf_17 : decode cX3_weightOf 17 = .ok (.getfield 19, 3) := by decide +kernel
theorem dX3_weightOf_20 : decode cX3_weightOf 20 = .ok (.iload_n 3, 1) := by decide +kernel
theorem dX3_weightOf_21 : decode cX3_weightOf 21 = .ok (.iaload, 1) := by decide +kernel
theorem dX3_weightOf_22 : decode cX3_weightOf 22 = .ok (.imul, 1) := by decide +kernel
theorem dX3_weightOf_23 : decode cX3_weightOf 23 = .ok (.iadd, 1) := by decide +kernel
theorem dX3_weightOf_24 : decode cX3_weightOf 24 = .ok (.istore_n 2, 1) := by decide +kernel
theorem dX3_weightOf_25 : decode cX3_weightOf 25 = .ok (.iinc 3 1, 3) := by decide +kernel
theorem dX3_weightOf_28 : decode cX3_weightOf 28 = .ok (.goto (-24), 3) := by decide +kernel
theorem dX3_weightOf_31 : decode cX3_weightOf 31 = .ok (.iload_n 2, 1) := by decide +kernel
theorem dX3_weightOf_32 : decode cX3_weightOf 32 = .ok (.ireturn, 1) := by decide +kernel
theorem dX3_countsTogether_0 : decode cX3_countsTogether 0 = .ok (.iconst 0, 1) := by decide +kernel
theorem dX3_countsTogether_1 : decode cX3_countsTogether 1 = .ok (.istore_n 1, 1) := by decide +kernel
theorem dX3_countsTogether_2 : decode cX3_countsTogether 2 = .ok (.iconst 0, 1) := by decide +kernel
theorem dX3_countsTogether_3 : decode cX3_countsTogether 3 = .ok (.istore_n 2, 1) := by decide +kernel
theorem dX3_countsTogether_4 : decode cX3_countsTogether 4 = .ok (.iload_n 2, 1) := by decide +kernel
theorem dX3_countsTogether_5 : decode cX3_countsTogether 5 = .ok (.bipush 24, 2) := by decide +kernel
theorem dX3_countsTogether_7 : decode cX3_countsTogether 7 = .ok (.if_icmp .ge 27, 3) := by decide +kernel
theorem dX3_countsTogether_10 : decode cX3_countsTogether 10 = .ok (.iload_n 1, 1) := by decide +kernel
theorem dX3_countsTogether_11 : decode cX3_countsTogether 11 = .ok (.aload_n 0, 1) := by decide +kernel
theorem dX3_countsTogether_12 : decode cX3_countsTogether 12 = .ok (.getfield 57, 3) := by decide +kernel
theorem dX3_countsTogether_15 : decode cX3_countsTogether 15 = .ok (.iload_n 2, 1) := by decide +kernel
theorem dX3_countsTogether_16 : decode cX3_countsTogether 16 = .ok (.invokestatic 86, 3) := by decide +kernel
theorem dX3_countsTogether_19 : decode cX3_countsTogether 19 = .ok (.aload_n 0, 1) := by decide +kernel
theorem dX3_countsTogether_20 : decode cX3_countsTogether 20 = .ok (.getfield 25, 3) := by decide +kernel
theorem dX3_countsTogether_23 : decode cX3_countsTogether 23 = .ok (.iload_n 2, 1) := by decide +kernel
theorem dX3_countsTogether_24 : decode cX3_countsTogether 24 = .ok (.iaload, 1) := by decide +kernel
theorem dX3_countsTogether_25 : decode cX3_countsTogether 25 = .ok (.imul, 1) := by decide +kernel
theorem dX3_countsTogether_26 : decode cX3_countsTogether 26 = .ok (.iadd, 1) := by decide +kernel
theorem dX3_countsTogether_27 : decode cX3_countsTogether 27 = .ok (.istore_n 1, 1) := by decide +kernel
theorem dX3_countsTogether_28 : decode cX3_countsTogether 28 = .ok (.iinc 2 1, 3) := by decide +kernel
theorem dX3_countsTogether_31 : decode cX3_countsTogether 31 = .ok (.goto (-27), 3) := by decide +kernel
theorem dX3_countsTogether_34 : decode cX3_countsTogether 34 = .ok (.iload_n 1, 1) := by decide +kernel
theorem dX3_countsTogether_35 : decode cX3_countsTogether 35 = .ok (.ireturn, 1) := by decide +kernel
theorem dX3_adds_0 : decode cX3_adds 0 = .ok (.aload_n 0, 1) := by decide +kernel
theorem dX3_adds_1 : decode cX3_adds 1 = .ok (.dup, 1) := by decide +kernel
theorem dX3_adds_2 : decode cX3_adds 2 = .ok (.getfield 57, 3) := by decide +kernel
theorem dX3_adds_5 : decode cX3_adds 5 = .ok (.iconst 1, 1) := by decide +kernel
theorem dX3_adds_6 : decode cX3_adds 6 = .ok (.iload_n 1, 1) := by decide +kernel
theorem dX3_adds_7 : decode cX3_adds 7 = .ok (.ishl, 1) := by decide +kernel
theorem dX3_adds_8 : decode cX3_adds 8 = .ok (.ior, 1) := by decide +kernel
theorem dX3_adds_9 : decode cX3_adds 9 = .ok (.putfield 57, 3) := by decide +kernel
theorem dX3_adds_12 : decode cX3_adds 12 = .ok (.aload_n 0, 1) := by decide +kernel
theorem dX3_adds_13 : decode cX3_adds 13 = .ok (.dup, 1) := by decide +kernel
theorem dX3_adds_14 : decode cX3_adds 14 = .ok (.getfield 60, 3) := by decide +kernel
theorem dX3_adds_17 : decode cX3_adds 17 = .ok (.iconst 1, 1) := by decide +kernel
theorem dX3_adds_18 : decode cX3_adds 18 = .ok (.iload_n 1, 1) := by decide +kernel
theorem dX3_adds_19 : decode cX3_adds 19 = .ok (.ishl, 1) := by decide +kernel
theorem dX3_adds_20 : decode cX3_adds 20 = .ok (.iconst (-1), 1) := by decide +kernel
theorem dX3_adds_21 : decode cX3_adds 21 = .ok (.ixor, 1) := by decide +kernel
theorem dX3_adds_22 : decode cX3_adds 22 = .ok (.iand, 1) := by decide +kernel
theorem dX3_adds_23 : decode cX3_adds 23 = .ok (.putfield 60, 3) := by decide +kernel
theorem dX3_adds_26 : decode cX3_adds 26 = .ok (.aload_n 0, 1) := by decide +kernel
theorem dX3_adds_27 : decode cX3_adds 27 = .ok (.getfield 15, 3) := by decide +kernel
theorem dX3_adds_30 : decode cX3_adds 30 = .ok (.iload_n 1, 1) := by decide +kernel
theorem dX3_adds_31 : decode cX3_adds 31 = .ok (.iload_n 2, 1) := by decide +kernel
theorem dX3_adds_32 : decode cX3_adds 32 = .ok (.iastore, 1) := by decide +kernel
theorem dX3_adds_33 : decode cX3_adds 33 = .ok (.aload_n 0, 1) := by decide +kernel
theorem dX3_adds_34 : decode cX3_adds 34 = .ok (.getfield 19, 3) := by decide +kernel
theorem dX3_adds_37 : decode cX3_adds 37 = .ok (.iload_n 1, 1) := by decide +kernel
theorem dX3_adds_38 : decode cX3_adds 38 = .ok (.iload_n 3, 1) := by decide +kernel
theorem dX3_adds_39 : decode cX3_adds 39 = .ok (.iastore, 1) := by decide +kernel
theorem dX3_adds_40 : decode cX3_adds 40 = .ok (.aload_n 0, 1) := by decide +kernel
theorem dX3_adds_41 : decode cX3_adds 41 = .ok (.getfield 22, 3) := by decide +kernel
theorem dX3_adds_44 : decode cX3_adds 44 = .ok (.iload_n 1, 1) := by decide +kernel
theorem dX3_adds_45 : decode cX3_adds 45 = .ok (.iload 4, 2) := by decide +kernel
theorem dX3_adds_47 : decode cX3_adds 47 = .ok (.iastore, 1) := by decide +kernel
theorem dX3_adds_48 : decode cX3_adds 48 = .ok (.aload_n 0, 1) := by decide +kernel
theorem dX3_adds_49 : decode cX3_adds 49 = .ok (.getfield 25, 3) := by decide +kernel
theorem dX3_adds_52 : decode cX3_adds 52 = .ok (.iload_n 1, 1) := by decide +kernel
theorem dX3_adds_53 : decode cX3_adds 53 = .ok (.iconst 0, 1) := by decide +kernel
theorem dX3_adds_54 : decode cX3_adds 54 = .ok (.iastore, 1) := by decide +kernel
theorem dX3_adds_55 : decode cX3_adds 55 = .ok (.aload_n 0, 1) := by decide +kernel
theorem dX3_adds_56 : decode cX3_adds 56 = .ok (.iload_n 1, 1) := by decide +kernel
theorem dX3_adds_57 : decode cX3_adds 57 = .ok (.invokevirtual 93, 3) := by decide +kernel
theorem dX3_adds_60 : decode cX3_adds 60 = .ok (.aload_n 0, 1) := by decide +kernel
theorem dX3_adds_61 : decode cX3_adds 61 = .ok (.getfield 47, 3) := by decide +kernel
theorem dX3_adds_64 : decode cX3_adds 64 = .ok (.iconst 0, 1) := by decide +kernel
theorem dX3_adds_65 : decode cX3_adds 65 = .ok (.iload_n 1, 1) := by decide +kernel
theorem dX3_adds_66 : decode cX3_adds 66 = .ok (.invokevirtual 97, 3) := by decide +kernel
theorem dX3_adds_69 : decode cX3_adds 69 = .ok (.return_, 1) := by decide +kernel
theorem dX3_empties_0 : decode cX3_empties 0 = .ok (.iconst 0, 1) := by decide +kernel
theorem dX3_empties_1 : decode cX3_empties 1 = .ok (.istore_n 2, 1) := by decide +kernel
theorem dX3_empties_2 : decode cX3_empties 2 = .ok (.iload_n 2, 1) := by decide +kernel
theorem dX3_empties_3 : decode cX3_empties 3 = .ok (.iconst 4, 1) := by decide +kernel
theorem dX3_empties_4 : decode cX3_empties 4 = .ok (.if_icmp .ge 20, 3) := by decide +kernel
theorem dX3_empties_7 : decode cX3_empties 7 = .ok (.aload_n 0, 1) := by decide +kernel
theorem dX3_empties_8 : decode cX3_empties 8 = .ok (.getfield 28, 3) := by decide +kernel
theorem dX3_empties_11 : decode cX3_empties 11 = .ok (.iload_n 1, 1) := by decide +kernel
theorem dX3_empties_12 : decode cX3_empties 12 = .ok (.iconst 4, 1) := by decide +kernel
theorem dX3_empties_13 : decode cX3_empties 13 = .ok (.imul, 1) := by decide +kernel
theorem dX3_empties_14 : decode cX3_empties 14 = .ok (.iload_n 2, 1) := by decide +kernel
theorem dX3_empties_15 : decode cX3_empties 15 = .ok (.iadd, 1) := by decide +kernel
theorem dX3_empties_16 : decode cX3_empties 16 = .ok (.iconst (-1), 1) := by decide +kernel
theorem dX3_empties_17 : decode cX3_empties 17 = .ok (.iastore, 1) := by decide +kernel
theorem dX3_empties_18 : decode cX3_empties 18 = .ok (.iinc 2 1, 3) := by decide +kernel
theorem dX3_empties_21 : decode cX3_empties 21 = .ok (.goto (-19), 3) := by decide +kernel
theorem dX3_empties_24 : decode cX3_empties 24 = .ok (.return_, 1) := by decide +kernel
theorem dX3_loses_0 : decode cX3_loses 0 = .ok (.iconst 0, 1) := by decide +kernel
theorem dX3_loses_1 : decode cX3_loses 1 = .ok (.istore_n 2, 1) := by decide +kernel
theorem dX3_loses_2 : decode cX3_loses 2 = .ok (.iload_n 2, 1) := by decide +kernel
theorem dX3_loses_3 : decode cX3_loses 3 = .ok (.iconst 4, 1) := by decide +kernel
theorem dX3_loses_4 : decode cX3_loses 4 = .ok (.if_icmp .ge 35, 3) := by decide +kernel
theorem dX3_loses_7 : decode cX3_loses 7 = .ok (.aload_n 0, 1) := by decide +kernel
theorem dX3_loses_8 : decode cX3_loses 8 = .ok (.getfield 34, 3) := by decide +kernel
theorem dX3_loses_11 : decode cX3_loses 11 = .ok (.iload_n 2, 1) := by decide +kernel
theorem dX3_loses_12 : decode cX3_loses 12 = .ok (.iaload, 1) := by decide +kernel
theorem dX3_loses_13 : decode cX3_loses 13 = .ok (.iload_n 1, 1) := by decide +kernel
theorem dX3_loses_14 : decode cX3_loses 14 = .ok (.if_icmp .ne 19, 3) := by decide +kernel
theorem dX3_loses_17 : decode cX3_loses 17 = .ok (.aload_n 0, 1) := by decide +kernel
theorem dX3_loses_18 : decode cX3_loses 18 = .ok (.getfield 34, 3) := by decide +kernel
theorem dX3_loses_21 : decode cX3_loses 21 = .ok (.iload_n 2, 1) := by decide +kernel
theorem dX3_loses_22 : decode cX3_loses 22 = .ok (.iconst (-1), 1) := by decide +kernel
theorem dX3_loses_23 : decode cX3_loses 23 = .ok (.iastore, 1) := by decide +kernel
theorem dX3_loses_24 : decode cX3_loses 24 = .ok (.aload_n 0, 1) := by decide +kernel
theorem dX3_loses_25 : decode cX3_loses 25 = .ok (.getfield 47, 3) := by decide +kernel
theorem dX3_loses_28 : decode cX3_loses 28 = .ok (.iconst 5, 1) := by decide +kernel
theorem dX3_loses_29 : decode cX3_loses 29 = .ok (.iload_n 1, 1) := by decide +kernel
theorem dX3_loses_30 : decode cX3_loses 30 = .ok (.invokevirtual 97, 3) := by decide +kernel
theorem dX3_loses_33 : decode cX3_loses 33 = .ok (.iinc 2 1, 3) := by decide +kernel
theorem dX3_loses_36 : decode cX3_loses 36 = .ok (.goto (-34), 3) := by decide +kernel
theorem dX3_loses_39 : decode cX3_loses 39 = .ok (.aload_n 0, 1) := by decide +kernel
theorem dX3_loses_40 : decode cX3_loses 40 = .ok (.dup, 1) := by decide +kernel
theorem dX3_loses_41 : decode cX3_loses 41 = .ok (.getfield 57, 3) := by decide +kernel
theorem dX3_loses_44 : decode cX3_loses 44 = .ok (.iconst 1, 1) := by decide +kernel
theorem dX3_loses_45 : decode cX3_loses 45 = .ok (.iload_n 1, 1) := by decide +kernel
theorem dX3_loses_46 : decode cX3_loses 46 = .ok (.ishl, 1) := by decide +kernel
theorem dX3_loses_47 : decode cX3_loses 47 = .ok (.iconst (-1), 1) := by decide +kernel
theorem dX3_loses_48 : decode cX3_loses 48 = .ok (.ixor, 1) := by decide +kernel
theorem dX3_loses_49 : decode cX3_loses 49 = .ok (.iand, 1) := by decide +kernel
theorem dX3_loses_50 : decode cX3_loses 50 = .ok (.putfield 57, 3) := by decide +kernel
theorem dX3_loses_53 : decode cX3_loses 53 = .ok (.return_, 1) := by decide +kernel
theorem dX4_init_0 : decode cX4_init 0 = .ok (.aload_n 0, 1) := by decide +kernel
theorem dX4_init_1 : decode cX4_init 1 = .ok (.invokespecial 3, 3) := by decide +kernel
theorem dX4_init_4 : decode cX4_init 4 = .ok (.aload_n 0, 1) := by decide +kernel
theorem dX4_init_5 : decode cX4_init 5 = .ok (.bipush 60, 2) := by decide +kernel
theorem dX4_init_7 : decode cX4_init 7 = .ok (.newarray .int, 2) := by decide +kernel
theorem dX4_init_9 : decode cX4_init 9 = .ok (.putfield 9, 3) := by decide +kernel
theorem dX4_init_12 : decode cX4_init 12 = .ok (.aload_n 0, 1) := by decide +kernel
theorem dX4_init_13 : decode cX4_init 13 = .ok (.bipush 60, 2) := by decide +kernel
theorem dX4_init_15 : decode cX4_init 15 = .ok (.newarray .int, 2) := by decide +kernel
theorem dX4_init_17 : decode cX4_init 17 = .ok (.putfield 15, 3) := by decide +kernel
theorem dX4_init_20 : decode cX4_init 20 = .ok (.aload_n 0, 1) := by decide +kernel
theorem dX4_init_21 : decode cX4_init 21 = .ok (.bipush 6, 2) := by decide +kernel
theorem dX4_init_23 : decode cX4_init 23 = .ok (.newarray .int, 2) := by decide +kernel
theorem dX4_init_25 : decode cX4_init 25 = .ok (.putfield 18, 3) := by decide +kernel
theorem dX4_init_28 : decode cX4_init 28 = .ok (.return_, 1) := by decide +kernel
theorem dX4_copies_0 : decode cX4_copies 0 = .ok (.aload_n 1, 1) := by decide +kernel
theorem dX4_copies_1 : decode cX4_copies 1 = .ok (.getfield 9, 3) := by decide +kernel
theorem dX4_copies_4 : decode cX4_copies 4 = .ok (.iconst 0, 1) := by decide +kernel
theorem dX4_copies_5 : decode cX4_copies 5 = .ok (.aload_n 0, 1) := by decide +kernel
theorem dX4_copies_6 : decode cX4_copies 6 = .ok (.getfield 9, 3) := by decide +kernel
theorem dX4_copies_9 : decode cX4_copies 9 = .ok (.iconst 0, 1) := by decide +kernel
theorem dX4_copies_10 : decode cX4_copies 10 = .ok (.bipush 60, 2) := by decide +kernel
theorem dX4_copies_12 : decode cX4_copies 12 = .ok (.invokestatic 21, 3) := by decide +kernel
theorem dX4_copies_15 : decode cX4_copies 15 = .ok (.aload_n 1, 1) := by decide +kernel
theorem dX4_copies_16 : decode cX4_copies 16 = .ok (.getfield 15, 3) := by decide +kernel
theorem dX4_copies_19 : decode cX4_copies 19 = .ok (.iconst 0, 1) := by decide +kernel
theorem dX4_copies_20 : decode cX4_copies 20 = .ok (.aload_n 0, 1) := by decide +kernel
theorem dX4_copies_21 : decode cX4_copies 21 = .ok (.getfield 15, 3) := by decide +kernel
theorem dX4_copies_24 : decode cX4_copies 24 = .ok (.iconst 0, 1) := by decide +kernel
theorem dX4_copies_25 : decode cX4_copies 25 = .ok (.bipush 60, 2) := by decide +kernel
theorem dX4_copies_27 : decode cX4_copies 27 = .ok (.invokestatic 21, 3) := by decide +kernel
theorem dX4_copies_30 : decode cX4_copies 30 = .ok (.aload_n 1, 1) := by decide +kernel
theorem dX4_copies_31 : decode cX4_copies 31 = .ok (.getfield 18, 3) := by decide +kernel
theorem dX4_copies_34 : decode cX4_copies 34 = .ok (.iconst 0, 1) := by decide +kernel
theorem dX4_copies_35 : decode cX4_copies 35 = .ok (.aload_n 0, 1) := by decide +kernel
theorem dX4_copies_36 : decode cX4_copies 36 = .ok (.getfield 18, 3) := by decide +kernel
theorem dX4_copies_39 : decode cX4_copies 39 = .ok (.iconst 0, 1) := by decide +kernel
theorem dX4_copies_40 : decode cX4_copies 40 = .ok (.bipush 6, 2) := by decide +kernel
theorem dX4_copies_42 : decode cX4_copies 42 = .ok (.invokestatic 21, 3) := by decide +kernel
theorem dX4_copies_45 : decode cX4_copies 45 = .ok (.aload_n 0, 1) := by decide +kernel
theorem dX4_copies_46 : decode cX4_copies 46 = .ok (.aload_n 1, 1) := by decide +kernel
theorem dX4_copies_47 : decode cX4_copies 47 = .ok (.getfield 27, 3) := by decide +kernel
theorem dX4_copies_50 : decode cX4_copies 50 = .ok (.putfield 27, 3) := by decide +kernel
theorem dX4_copies_53 : decode cX4_copies 53 = .ok (.return_, 1) := by decide +kernel
theorem dX4_adds_0 : decode cX4_adds 0 = .ok (.aload_n 0, 1) := by decide +kernel
theorem dX4_adds_1 : decode cX4_adds 1 = .ok (.getfield 27, 3) := by decide +kernel
theorem dX4_adds_4 : decode cX4_adds 4 = .ok (.bipush 60, 2) := by decide +kernel
theorem dX4_adds_6 : decode cX4_adds 6 = .ok (.irem, 1) := by decide +kernel
theorem dX4_adds_7 : decode cX4_adds 7 = .ok (.istore_n 3, 1) := by decide +kernel
theorem dX4_adds_8 : decode cX4_adds 8 = .ok (.aload_n 0, 1) := by decide +kernel
theorem dX4_adds_9 : decode cX4_adds 9 = .ok (.getfield 9, 3) := by decide +kernel
theorem dX4_adds_12 : decode cX4_adds 12 = .ok (.iload_n 3, 1) := by decide +kernel
theorem dX4_adds_13 : decode cX4_adds 13 = .ok (.iload_n 1, 1) := by decide +kernel
theorem dX4_adds_14 : decode cX4_adds 14 = .ok (.iastore, 1) := by decide +kernel
theorem dX4_adds_15 : decode cX4_adds 15 = .ok (.aload_n 0, 1) := by decide +kernel
theorem dX4_adds_16 : decode cX4_adds 16 = .ok (.getfield 15, 3) := by decide +kernel
theorem dX4_adds_19 : decode cX4_adds 19 = .ok (.iload_n 3, 1) := by decide +kernel
theorem dX4_adds_20 : decode cX4_adds 20 = .ok (.iload_n 2, 1) := by decide +kernel
theorem dX4_adds_21 : decode cX4_adds 21 = .ok (.iastore, 1) := by decide +kernel
theorem dX4_adds_22 : decode cX4_adds 22 = .ok (.aload_n 0, 1) := by decide +kernel
theorem dX4_adds_23 : decode cX4_adds 23 = .ok (.getfield 18, 3) := by decide +kernel
theorem dX4_adds_26 : decode cX4_adds 26 = .ok (.iload_n 1, 1) := by decide +kernel
theorem dX4_adds_27 : decode cX4_adds 27 = .ok (.dup2, 1) := by decide +kernel
theorem dX4_adds_28 : decode cX4_adds 28 = .ok (.iaload, 1) := by decide +kernel
theorem dX4_adds_29 : decode cX4_adds 29 = .ok (.iconst 1, 1) := by decide +kernel
theorem dX4_adds_30 : decode cX4_adds 30 = .ok (.iadd, 1) := by decide +kernel
theorem dX4_adds_31 : decode cX4_adds 31 = .ok (.iastore, 1) := by decide +kernel
theorem dX4_adds_32 : decode cX4_adds 32 = .ok (.aload_n 0, 1) := by decide +kernel
theorem dX4_adds_33 : decode cX4_adds 33 = .ok (.dup, 1) := by decide +kernel
theorem dX4_adds_34 : decode cX4_adds 34 = .ok (.getfield 27, 3) := by decide +kernel
theorem dX4_adds_37 : decode cX4_adds 37 = .ok (.iconst 1, 1) := by decide +kernel
theorem dX4_adds_38 : decode cX4_adds 38 = .ok (.iadd, 1) := by decide +kernel
theorem dX4_adds_39 : decode cX4_adds 39 = .ok (.putfield 27, 3) := by decide +kernel
theorem dX4_adds_42 : decode cX4_adds 42 = .ok (.return_, 1) := by decide +kernel
theorem dX4_has_0 : decode cX4_has 0 = .ok (.iload_n 1, 1) := by decide +kernel
theorem dX4_has_1 : decode cX4_has 1 = .ok (.ifCond .lt 26, 3) := by decide +kernel
theorem dX4_has_4 : decode cX4_has 4 = .ok (.iload_n 1, 1) := by decide +kernel
theorem dX4_has_5 : decode cX4_has 5 = .ok (.aload_n 0, 1) := by decide +kernel
theorem dX4_has_6 : decode cX4_has 6 = .ok (.getfield 27, 3) := by decide +kernel
theorem dX4_has_9 : decode cX4_has 9 = .ok (.if_icmp .ge 18, 3) := by decide +kernel
theorem dX4_has_12 : decode cX4_has 12 = .ok (.iload_n 1, 1) := by decide +kernel
theorem dX4_has_13 : decode cX4_has 13 = .ok (.aload_n 0, 1) := by decide +kernel
theorem dX4_has_14 : decode cX4_has 14 = .ok (.getfield 27, 3) := by decide +kernel
theorem dX4_has_17 : decode cX4_has 17 = .ok (.bipush 60, 2) := by decide +kernel
theorem dX4_has_19 : decode cX4_has 19 = .ok (.isub, 1) := by decide +kernel
theorem dX4_has_20 : decode cX4_has 20 = .ok (.if_icmp .lt 7, 3) := by decide +kernel
theorem dX4_has_23 : decode cX4_has 23 = .ok (.iconst 1, 1) := by decide +kernel
theorem dX4_has_24 : decode cX4_has 24 = .ok (.goto 4, 3) := by decide +kernel
theorem dX4_has_27 : decode cX4_has 27 = .ok (.iconst 0, 1) := by decide +kernel
theorem dX4_has_28 : decode cX4_has 28 = .ok (.ireturn, 1) := by decide +kernel
theorem dX4_kindAt_0 : decode cX4_kindAt 0 = .ok (.aload_n 0, 1) := by decide +kernel
theorem dX4_kindAt_1 : decode cX4_kindAt 1 = .ok (.iload_n 1, 1) := by decide +kernel
theorem dX4_kindAt_2 : decode cX4_kindAt 2 = .ok (.invokevirtual 31, 3) := by decide +kernel
theorem dX4_kindAt_5 : decode cX4_kindAt 5 = .ok (.ifCond .eq 15, 3) := by decide +kernel
theorem dX4_kindAt_8 : decode cX4_kindAt 8 = .ok (.aload_n 0, 1) := by decide +kernel
theorem dX4_kindAt_9 : decode cX4_kindAt 9 = .ok (.getfield 9, 3) := by decide +kernel
theorem dX4_kindAt_12 : decode cX4_kindAt 12 = .ok (.iload_n 1, 1) := by decide +kernel
theorem dX4_kindAt_13 : decode cX4_kindAt 13 = .ok (.bipush 60, 2) := by decide +kernel
theorem dX4_kindAt_15 : decode cX4_kindAt 15 = .ok (.irem, 1) := by decide +kernel
theorem dX4_kindAt_16 : decode cX4_kindAt 16 = .ok (.iaload, 1) := by decide +kernel
theorem dX4_kindAt_17 : decode cX4_kindAt 17 = .ok (.goto 4, 3) := by decide +kernel
theorem dX4_kindAt_20 : decode cX4_kindAt 20 = .ok (.iconst (-1), 1) := by decide +kernel
theorem dX4_kindAt_21 : decode cX4_kindAt 21 = .ok (.ireturn, 1) := by decide +kernel
theorem dX4_objectAt_0 : decode cX4_objectAt 0 = .ok (.aload_n 0, 1) := by decide +kernel
theorem dX4_objectAt_1 : decode cX4_objectAt 1 = .ok (.iload_n 1, 1) := by decide +kernel
theorem dX4_objectAt_2 : decode cX4_objectAt 2 = .ok (.invokevirtual 31, 3) := by decide +kernel
theorem dX4_objectAt_5 : decode cX4_objectAt 5 = .ok (.ifCond .eq 15, 3) := by decide +kernel
theorem dX4_objectAt_8 : decode cX4_objectAt 8 = .ok (.aload_n 0, 1) := by decide +kernel
theorem dX4_objectAt_9 : decode cX4_objectAt 9 = .ok (.getfield 15, 3) := by decide +kernel
theorem dX4_objectAt_12 : decode cX4_objectAt 12 = .ok (.iload_n 1, 1) := by decide +kernel
theorem dX4_objectAt_13 : decode cX4_objectAt 13 = .ok (.bipush 60, 2) := by decide +kernel
theorem dX4_objectAt_15 : decode cX4_objectAt 15 = .ok (.irem, 1) := by decide +kernel
theorem dX4_objectAt_16 : decode cX4_objectAt 16 = .ok (.iaload, 1) := by decide +kernel
theorem dX4_objectAt_17 : decode cX4_objectAt 17 = .ok (.goto 4, 3) := by decide +kernel
theorem dX4_objectAt_20 : decode cX4_objectAt 20 = .ok (.iconst (-1), 1) := by decide +kernel
theorem dX4_objectAt_21 : decode cX4_objectAt 21 = .ok (.ireturn, 1) := by decide +kernel
theorem dX4_freed_0 : decode cX4_freed 0 = .ok (.aload_n 0, 1) := by decide +kernel
theorem dX4_freed_1 : decode cX4_freed 1 = .ok (.getfield 18, 3) := by decide +kernel
theorem dX4_freed_4 : decode cX4_freed 4 = .ok (.iconst 1, 1) := by decide +kernel
theorem dX4_freed_5 : decode cX4_freed 5 = .ok (.iaload, 1) := by decide +kernel
theorem dX4_freed_6 : decode cX4_freed 6 = .ok (.aload_n 0, 1) := by decide +kernel
theorem dX4_freed_7 : decode cX4_freed 7 = .ok (.getfield 18, 3) := by decide +kernel
theorem dX4_freed_10 : decode cX4_freed 10 = .ok (.iconst 2, 1) := by decide +kernel
theorem dX4_freed_11 : decode cX4_freed 11 = .ok (.iaload, 1) := by decide +kernel
theorem dX4_freed_12 : decode cX4_freed 12 = .ok (.iadd, 1) := by decide +kernel
theorem dX4_freed_13 : decode cX4_freed 13 = .ok (.ireturn, 1) := by decide +kernel
theorem dX5_init_0 : decode cX5_init 0 = .ok (.aload_n 0, 1) := by decide +kernel
theorem dX5_init_1 : decode cX5_init 1 = .ok (.invokespecial 3, 3) := by decide +kernel
theorem dX5_init_4 : decode cX5_init 4 = .ok (.aload_n 0, 1) := by decide +kernel
theorem dX5_init_5 : decode cX5_init 5 = .ok (.bipush 9, 2) := by decide +kernel
theorem dX5_init_7 : decode cX5_init 7 = .ok (.anewarray 9, 3) := by decide +kernel
theorem dX5_init_10 : decode cX5_init 10 = .ok (.putfield 11, 3) := by decide +kernel
theorem dX5_init_13 : decode cX5_init 13 = .ok (.iconst 0, 1) := by decide +kernel
theorem dX5_init_14 : decode cX5_init 14 = .ok (.istore_n 1, 1) := by decide +kernel
theorem dX5_init_15 : decode cX5_init 15 = .ok (.iload_n 1, 1) := by decide +kernel
theorem dX5_init_16 : decode cX5_init 16 = .ok (.bipush 8, 2) := by decide +kernel
theorem dX5_init_18 : decode cX5_init 18 = .ok (.if_icmp .gt 22, 3) := by decide +kernel
theorem dX5_init_21 : decode cX5_init 21 = .ok (.aload_n 0, 1) := by decide +kernel
theorem dX5_init_22 : decode cX5_init 22 = .ok (.getfield 11, 3) := by decide +kernel
theorem dX5_init_25 : decode cX5_init 25 = .ok (.iload_n 1, 1) := by decide +kernel
theorem dX5_init_26 : decode cX5_init 26 = .ok (.new 9, 3) := by decide +kernel
theorem dX5_init_29 : decode cX5_init 29 = .ok (.dup, 1) := by decide +kernel
theorem dX5_init_30 : decode cX5_init 30 = .ok (.invokespecial 17, 3) := by decide +kernel
theorem dX5_init_33 : decode cX5_init 33 = .ok (.aastore, 1) := by decide +kernel
theorem dX5_init_34 : decode cX5_init 34 = .ok (.iinc 1 1, 3) := by decide +kernel
theorem dX5_init_37 : decode cX5_init 37 = .ok (.goto (-22), 3) := by decide +kernel
theorem dX5_init_40 : decode cX5_init 40 = .ok (.return_, 1) := by decide +kernel
theorem dX5_marks_0 : decode cX5_marks 0 = .ok (.aload_n 0, 1) := by decide +kernel
theorem dX5_marks_1 : decode cX5_marks 1 = .ok (.getfield 11, 3) := by decide +kernel
theorem dX5_marks_4 : decode cX5_marks 4 = .ok (.aload_n 0, 1) := by decide +kernel
theorem dX5_marks_5 : decode cX5_marks 5 = .ok (.getfield 18, 3) := by decide +kernel
theorem dX5_marks_8 : decode cX5_marks 8 = .ok (.aaload, 1) := by decide +kernel
theorem dX5_marks_9 : decode cX5_marks 9 = .ok (.aload_n 1, 1) := by decide +kernel
theorem dX5_marks_10 : decode cX5_marks 10 = .ok (.invokevirtual 22, 3) := by decide +kernel
theorem dX5_marks_13 : decode cX5_marks 13 = .ok (.return_, 1) := by decide +kernel
theorem dX5_keeps_0 : decode cX5_keeps 0 = .ok (.aload_n 0, 1) := by decide +kernel
theorem dX5_keeps_1 : decode cX5_keeps 1 = .ok (.aload_n 0, 1) := by decide +kernel
theorem dX5_keeps_2 : decode cX5_keeps 2 = .ok (.getfield 18, 3) := by decide +kernel
theorem dX5_keeps_5 : decode cX5_keeps 5 = .ok (.bipush 8, 2) := by decide +kernel
theorem dX5_keeps_7 : decode cX5_keeps 7 = .ok (.if_icmp .ne 7, 3) := by decide +kernel
theorem dX5_keeps_10 : decode cX5_keeps 10 = .ok (.iconst 0, 1) := by decide +kernel
theorem dX5_keeps_11 : decode cX5_keeps 11 = .ok (.goto 9, 3) := by decide +kernel
theorem dX5_keeps_14 : decode cX5_keeps 14 = .ok (.aload_n 0, 1) := by decide +kernel
theorem dX5_keeps_15 : decode cX5_keeps 15 = .ok (.getfield 18, 3) := by decide +kernel
theorem dX5_keeps_18 : decode cX5_keeps 18 = .ok (.iconst 1, 1) := by decide +kernel
theorem dX5_keeps_19 : decode cX5_keeps 19 = .ok (.iadd, 1) := by decide +kernel
theorem dX5_keeps_20 : decode cX5_keeps 20 = .ok (.putfield 18, 3) := by decide +kernel
theorem dX5_keeps_23 : decode cX5_keeps 23 = .ok (.aload_n 0, 1) := by decide +kernel
theorem dX5_keeps_24 : decode cX5_keeps 24 = .ok (.aload_n 0, 1) := by decide +kernel
theorem dX5_keeps_25 : decode cX5_keeps 25 = .ok (.getfield 26, 3) := by decide +kernel
theorem dX5_keeps_28 : decode cX5_keeps 28 = .ok (.iconst 1, 1) := by decide +kernel
theorem dX5_keeps_29 : decode cX5_keeps 29 = .ok (.iadd, 1) := by decide +kernel
theorem dX5_keeps_30 : decode cX5_keeps 30 = .ok (.bipush 8, 2) := by decide +kernel
theorem dX5_keeps_32 : decode cX5_keeps 32 = .ok (.invokestatic 29, 3) := by decide +kernel
theorem dX5_keeps_35 : decode cX5_keeps 35 = .ok (.putfield 26, 3) := by decide +kernel
theorem dX5_keeps_38 : decode cX5_keeps 38 = .ok (.return_, 1) := by decide +kernel
theorem dX5_undoes_0 : decode cX5_undoes 0 = .ok (.aload_n 0, 1) := by decide +kernel
theorem dX5_undoes_1 : decode cX5_undoes 1 = .ok (.getfield 26, 3) := by decide +kernel
theorem dX5_undoes_4 : decode cX5_undoes 4 = .ok (.ifCond .le 48, 3) := by decide +kernel
theorem dX5_undoes_7 : decode cX5_undoes 7 = .ok (.aload_n 0, 1) := by decide +kernel
theorem dX5_undoes_8 : decode cX5_undoes 8 = .ok (.aload_n 0, 1) := by decide +kernel
theorem dX5_undoes_9 : decode cX5_undoes 9 = .ok (.getfield 18, 3) := by decide +kernel
theorem dX5_undoes_12 : decode cX5_undoes 12 = .ok (.ifCond .ne 8, 3) := by decide +kernel
theorem dX5_undoes_15 : decode cX5_undoes 15 = .ok (.bipush 8, 2) := by decide +kernel
theorem dX5_undoes_17 : decode cX5_undoes 17 = .ok (.goto 9, 3) := by decide +kernel
theorem dX5_undoes_20 : decode cX5_undoes 20 = .ok (.aload_n 0, 1) := by decide +kernel
theorem dX5_undoes_21 : decode cX5_undoes 21 = .ok (.getfield 18, 3) := by decide +kernel
theorem dX5_undoes_24 : decode cX5_undoes 24 = .ok (.iconst 1, 1) := by decide +kernel
theorem dX5_undoes_25 : decode cX5_undoes 25 = .ok (.isub, 1) := by decide +kernel
theorem dX5_undoes_26 : decode cX5_undoes 26 = .ok (.putfield 18, 3) := by decide +kernel
theorem dX5_undoes_29 : decode cX5_undoes 29 = .ok (.aload_n 0, 1) := by decide +kernel
theorem dX5_undoes_30 : decode cX5_undoes 30 = .ok (.dup, 1) := by decide +kernel
theorem dX5_undoes_31 : decode cX5_undoes 31 = .ok (.getfield 26, 3) := by decide +kernel
theorem dX5_undoes_34 : decode cX5_undoes 34 = .ok (.iconst 1, 1) := by decide +kernel
theorem dX5_undoes_35 : decode cX5_undoes 35 = .ok (.isub, 1) := by decide +kernel
theorem dX5_undoes_36 : decode cX5_undoes 36 = .ok (.putfield 26, 3) := by decide +kernel
theorem dX5_undoes_39 : decode cX5_undoes 39 = .ok (.aload_n 1, 1) := by decide +kernel
theorem dX5_undoes_40 : decode cX5_undoes 40 = .ok (.aload_n 0, 1) := by decide +kernel
theorem dX5_undoes_41 : decode cX5_undoes 41 = .ok (.getfield 11, 3) := by decide +kernel
theorem dX5_undoes_44 : decode cX5_undoes 44 = .ok (.aload_n 0, 1) := by decide +kernel
theorem dX5_undoes_45 : decode cX5_undoes 45 = .ok (.getfield 18, 3) := by decide +kernel
theorem dX5_undoes_48 : decode cX5_undoes 48 = .ok (.aaload, 1) := by decide +kernel
theorem dX5_undoes_49 : decode cX5_undoes 49 = .ok (.invokevirtual 22, 3) := by decide +kernel
theorem dX5_undoes_52 : decode cX5_undoes 52 = .ok (.return_, 1) := by decide +kernel
theorem dX6_init_0 : decode cX6_init 0 = .ok (.aload_n 0, 1) := by decide +kernel
theorem dX6_init_1 : decode cX6_init 1 = .ok (.invokespecial 3, 3) := by decide +kernel
theorem dX6_init_4 : decode cX6_init 4 = .ok (.aload_n 0, 1) := by decide +kernel
theorem dX6_init_5 : decode cX6_init 5 = .ok (.bipush 24, 2) := by decide +kernel
theorem dX6_init_7 : decode cX6_init 7 = .ok (.newarray .int, 2) := by decide +kernel
theorem dX6_init_9 : decode cX6_init 9 = .ok (.putfield 9, 3) := by decide +kernel
theorem dX6_init_12 : decode cX6_init 12 = .ok (.return_, 1) := by decide +kernel
theorem dX6_copies_0 : decode cX6_copies 0 = .ok (.aload_n 1, 1) := by decide +kernel
theorem dX6_copies_1 : decode cX6_copies 1 = .ok (.getfield 9, 3) := by decide +kernel
theorem dX6_copies_4 : decode cX6_copies 4 = .ok (.iconst 0, 1) := by decide +kernel
theorem dX6_copies_5 : decode cX6_copies 5 = .ok (.aload_n 0, 1) := by decide +kernel
theorem dX6_copies_6 : decode cX6_copies 6 = .ok (.getfield 9, 3) := by decide +kernel
theorem dX6_copies_9 : decode cX6_copies 9 = .ok (.iconst 0, 1) := by decide +kernel
theorem dX6_copies_10 : decode cX6_copies 10 = .ok (.bipush 24, 2) := by decide +kernel
theorem dX6_copies_12 : decode cX6_copies 12 = .ok (.invokestatic 15, 3) := by decide +kernel
theorem dX6_copies_15 : decode cX6_copies 15 = .ok (.aload_n 0, 1) := by decide +kernel
theorem dX6_copies_16 : decode cX6_copies 16 = .ok (.aload_n 1, 1) := by decide +kernel
theorem dX6_copies_17 : decode cX6_copies 17 = .ok (.getfield 21, 3) := by decide +kernel
theorem dX6_copies_20 : decode cX6_copies 20 = .ok (.putfield 21, 3) := by decide +kernel
theorem dX6_copies_23 : decode cX6_copies 23 = .ok (.aload_n 0, 1) := by decide +kernel
theorem dX6_copies_24 : decode cX6_copies 24 = .ok (.aload_n 1, 1) := by decide +kernel
theorem dX6_copies_25 : decode cX6_copies 25 = .ok (.getfield 25, 3) := by decide +kernel
theorem dX6_copies_28 : decode cX6_copies 28 = .ok (.putfield 25, 3) := by decide +kernel
theorem dX6_copies_31 : decode cX6_copies 31 = .ok (.aload_n 0, 1) := by decide +kernel
theorem dX6_copies_32 : decode cX6_copies 32 = .ok (.aload_n 1, 1) := by decide +kernel
theorem dX6_copies_33 : decode cX6_copies 33 = .ok (.getfield 28, 3) := by decide +kernel
theorem dX6_copies_36 : decode cX6_copies 36 = .ok (.putfield 28, 3) := by decide +kernel
theorem dX6_copies_39 : decode cX6_copies 39 = .ok (.return_, 1) := by decide +kernel
theorem dX6_state_0 : decode cX6_state 0 = .ok (.aload_n 0, 1) := by decide +kernel
theorem dX6_state_1 : decode cX6_state 1 = .ok (.getfield 25, 3) := by decide +kernel
theorem dX6_state_4 : decode cX6_state 4 = .ok (.iload_n 1, 1) := by decide +kernel
theorem dX6_state_5 : decode cX6_state 5 = .ok (.invokestatic 31, 3) := by decide +kernel
theorem dX6_state_8 : decode cX6_state 8 = .ok (.ifCond .ne 5, 3) := by decide +kernel
theorem dX6_state_11 : decode cX6_state 11 = .ok (.iconst 0, 1) := by decide +kernel
theorem dX6_state_12 : decode cX6_state 12 = .ok (.ireturn, 1) := by decide +kernel
theorem dX6_state_13 : decode cX6_state 13 = .ok (.aload_n 0, 1) := by decide +kernel
theorem dX6_state_14 : decode cX6_state 14 = .ok (.getfield 28, 3) := by decide +kernel
theorem dX6_state_17 : decode cX6_state 17 = .ok (.iload_n 1, 1) := by decide +kernel
theorem dX6_state_18 : decode cX6_state 18 = .ok (.invokestatic 31, 3) := by decide +kernel
theorem dX6_state_21 : decode cX6_state 21 = .ok (.iconst 1, 1) := by decide +kernel
theorem dX6_state_22 : decode cX6_state 22 = .ok (.if_icmp .ne 7, 3) := by decide +kernel
theorem dX6_state_25 : decode cX6_state 25 = .ok (.iconst 1, 1) := by decide +kernel
theorem dX6_state_26 : decode cX6_state 26 = .ok (.goto 4, 3) := by decide +kernel
theorem dX6_state_29 : decode cX6_state 29 = .ok (.iconst 2, 1) := by decide +kernel
theorem dX6_state_30 : decode cX6_state 30 = .ok (.ireturn, 1) := by decide +kernel
theorem dX6_means_0 : decode cX6_means 0 = .ok (.aload_n 0, 1) := by decide +kernel
theorem dX6_means_1 : decode cX6_means 1 = .ok (.dup, 1) := by decide +kernel
theorem dX6_means_2 : decode cX6_means 2 = .ok (.getfield 28, 3) := by decide +kernel
theorem dX6_means_5 : decode cX6_means 5 = .ok (.iconst 1, 1) := by decide +kernel
theorem dX6_means_6 : decode cX6_means 6 = .ok (.iload_n 1, 1) := by decide +kernel
theorem dX6_means_7 : decode cX6_means 7 = .ok (.ishl, 1) := by decide +kernel
theorem dX6_means_8 : decode cX6_means 8 = .ok (.ior, 1) := by decide +kernel
theorem dX6_means_9 : decode cX6_means 9 = .ok (.putfield 28, 3) := by decide +kernel
theorem dX6_means_12 : decode cX6_means 12 = .ok (.aload_n 0, 1) := by decide +kernel
theorem dX6_means_13 : decode cX6_means 13 = .ok (.getfield 25, 3) := by decide +kernel
theorem dX6_means_16 : decode cX6_means 16 = .ok (.iload_n 1, 1) := by decide +kernel
theorem dX6_means_17 : decode cX6_means 17 = .ok (.invokestatic 31, 3) := by decide +kernel
theorem dX6_means_20 : decode cX6_means 20 = .ok (.ifCond .ne 44, 3) := by decide +kernel
theorem dX6_means_23 : decode cX6_means 23 = .ok (.aload_n 0, 1) := by decide +kernel
theorem dX6_means_24 : decode cX6_means 24 = .ok (.getfield 21, 3) := by decide +kernel
theorem dX6_means_27 : decode cX6_means 27 = .ok (.bipush 24, 2) := by decide +kernel
theorem dX6_means_29 : decode cX6_means 29 = .ok (.if_icmp .ge 35, 3) := by decide +kernel
theorem dX6_means_32 : decode cX6_means 32 = .ok (.aload_n 0, 1) := by decide +kernel
theorem dX6_means_33 : decode cX6_means 33 = .ok (.getfield 9, 3) := by decide +kernel
theorem dX6_means_36 : decode cX6_means 36 = .ok (.aload_n 0, 1) := by decide +kernel
theorem dX6_means_37 : decode cX6_means 37 = .ok (.getfield 21, 3) := by decide +kernel
theorem dX6_means_40 : decode cX6_means 40 = .ok (.iload_n 1, 1) := by decide +kernel
theorem dX6_means_41 : decode cX6_means 41 = .ok (.iastore, 1) := by decide +kernel
theorem dX6_means_42 : decode cX6_means 42 = .ok (.aload_n 0, 1) := by decide +kernel
theorem dX6_means_43 : decode cX6_means 43 = .ok (.dup, 1) := by decide +kernel
theorem dX6_means_44 : decode cX6_means 44 = .ok (.getfield 21, 3) := by decide +kernel
theorem dX6_means_47 : decode cX6_means 47 = .ok (.iconst 1, 1) := by decide +kernel
theorem dX6_means_48 : decode cX6_means 48 = .ok (.iadd, 1) := by decide +kernel
theorem dX6_means_49 : decode cX6_means 49 = .ok (.putfield 21, 3) := by decide +kernel
theorem dX6_means_52 : decode cX6_means 52 = .ok (.aload_n 0, 1) := by decide +kernel
theorem dX6_means_53 : decode cX6_means 53 = .ok (.dup, 1) := by decide +kernel
theorem dX6_means_54 : decode cX6_means 54 = .ok (.getfield 25, 3) := by decide +kernel
theorem dX6_means_57 : decode cX6_means 57 = .ok (.iconst 1, 1) := by decide +kernel
theorem dX6_means_58 : decode cX6_means 58 = .ok (.iload_n 1, 1) := by decide +kernel
theorem dX6_means_59 : decode cX6_means 59 = .ok (.ishl, 1) := by decide +kernel
theorem dX6_means_60 : decode cX6_means 60 = .ok (.ior, 1) := by decide +kernel
theorem dX6_means_61 : decode cX6_means 61 = .ok (.putfield 25, 3) := by decide +kernel
theorem dX6_means_64 : decode cX6_means 64 = .ok (.return_, 1) := by decide +kernel
theorem dX6_trusts_0 : decode cX6_trusts 0 = .ok (.aload_n 0, 1) := by decide +kernel
theorem dX6_trusts_1 : decode cX6_trusts 1 = .ok (.dup, 1) := by decide +kernel
theorem dX6_trusts_2 : decode cX6_trusts 2 = .ok (.getfield 28, 3) := by decide +kernel
theorem dX6_trusts_5 : decode cX6_trusts 5 = .ok (.iconst 1, 1) := by decide +kernel
theorem dX6_trusts_6 : decode cX6_trusts 6 = .ok (.iload_n 1, 1) := by decide +kernel
theorem dX6_trusts_7 : decode cX6_trusts 7 = .ok (.ishl, 1) := by decide +kernel
theorem dX6_trusts_8 : decode cX6_trusts 8 = .ok (.iconst (-1), 1) := by decide +kernel
theorem dX6_trusts_9 : decode cX6_trusts 9 = .ok (.ixor, 1) := by decide +kernel
theorem dX6_trusts_10 : decode cX6_trusts 10 = .ok (.iand, 1) := by decide +kernel
theorem dX6_trusts_11 : decode cX6_trusts 11 = .ok (.putfield 28, 3) := by decide +kernel
theorem dX6_trusts_14 : decode cX6_trusts 14 = .ok (.return_, 1) := by decide +kernel
theorem dX6_drops_0 : decode cX6_drops 0 = .ok (.iconst 0, 1) := by decide +kernel
theorem dX6_drops_1 : decode cX6_drops 1 = .ok (.istore_n 2, 1) := by decide +kernel
theorem dX6_drops_2 : decode cX6_drops 2 = .ok (.iconst 0, 1) := by decide +kernel
theorem dX6_drops_3 : decode cX6_drops 3 = .ok (.istore_n 3, 1) := by decide +kernel
theorem dX6_drops_4 : decode cX6_drops 4 = .ok (.iload_n 3, 1) := by decide +kernel
theorem dX6_drops_5 : decode cX6_drops 5 = .ok (.aload_n 0, 1) := by decide +kernel
theorem dX6_drops_6 : decode cX6_drops 6 = .ok (.getfield 21, 3) := by decide +kernel
theorem dX6_drops_9 : decode cX6_drops 9 = .ok (.if_icmp .ge 34, 3) := by decide +kernel
theorem dX6_drops_12 : decode cX6_drops 12 = .ok (.aload_n 0, 1) := by decide +kernel
theorem dX6_drops_13 : decode cX6_drops 13 = .ok (.getfield 9, 3) := by decide +kernel
theorem dX6_drops_16 : decode cX6_drops 16 = .ok (.iload_n 3, 1) := by decide +kernel
theorem dX6_drops_17 : decode cX6_drops 17 = .ok (.iaload, 1) := by decide +kernel
theorem dX6_drops_18 : decode cX6_drops 18 = .ok (.iload_n 1, 1) := by decide +kernel
theorem dX6_drops_19 : decode cX6_drops 19 = .ok (.if_icmp .eq 18, 3) := by decide +kernel
theorem dX6_drops_22 : decode cX6_drops 22 = .ok (.aload_n 0, 1) := by decide +kernel
theorem dX6_drops_23 : decode cX6_drops 23 = .ok (.getfield 9, 3) := by decide +kernel
theorem dX6_drops_26 : decode cX6_drops 26 = .ok (.iload_n 2, 1) := by decide +kernel
theorem dX6_drops_27 : decode cX6_drops 27 = .ok (.aload_n 0, 1) := by decide +kernel
theorem dX6_drops_28 : decode cX6_drops 28 = .ok (.getfield 9, 3) := by decide +kernel
theorem dX6_drops_31 : decode cX6_drops 31 = .ok (.iload_n 3, 1) := by decide +kernel
theorem dX6_drops_32 : decode cX6_drops 32 = .ok (.iaload, 1) := by decide +kernel
theorem dX6_drops_33 : decode cX6_drops 33 = .ok (.iastore, 1) := by decide +kernel
theorem dX6_drops_34 : decode cX6_drops 34 = .ok (.iinc 2 1, 3) := by decide +kernel
theorem dX6_drops_37 : decode cX6_drops 37 = .ok (.iinc 3 1, 3) := by decide +kernel
theorem dX6_drops_40 : decode cX6_drops 40 = .ok (.goto (-36), 3) := by decide +kernel
theorem dX6_drops_43 : decode cX6_drops 43 = .ok (.aload_n 0, 1) := by decide +kernel
theorem dX6_drops_44 : decode cX6_drops 44 = .ok (.iload_n 2, 1) := by decide +kernel
theorem dX6_drops_45 : decode cX6_drops 45 = .ok (.putfield 21, 3) := by decide +kernel
theorem dX6_drops_48 : decode cX6_drops 48 = .ok (.aload_n 0, 1) := by decide +kernel
theorem dX6_drops_49 : decode cX6_drops 49 = .ok (.dup, 1) := by decide +kernel
theorem dX6_drops_50 : decode cX6_drops 50 = .ok (.getfield 25, 3) := by decide +kernel
theorem dX6_drops_53 : decode cX6_drops 53 = .ok (.iconst 1, 1) := by decide +kernel
theorem dX6_drops_54 : decode cX6_drops 54 = .ok (.iload_n 1, 1) := by decide +kernel
theorem dX6_drops_55 : decode cX6_drops 55 = .ok (.ishl, 1) := by decide +kernel
theorem dX6_drops_56 : decode cX6_drops 56 = .ok (.iconst (-1), 1) := by decide +kernel
theorem dX6_drops_57 : decode cX6_drops 57 = .ok (.ixor, 1) := by decide +kernel
theorem dX6_drops_58 : decode cX6_drops 58 = .ok (.iand, 1) := by decide +kernel
theorem dX6_drops_59 : decode cX6_drops 59 = .ok (.putfield 25, 3) := by decide +kernel
theorem dX6_drops_62 : decode cX6_drops 62 = .ok (.aload_n 0, 1) := by decide +kernel
theorem dX6_drops_63 : decode cX6_drops 63 = .ok (.dup, 1) := by decide +kernel
theorem dX6_drops_64 : decode cX6_drops 64 = .ok (.getfield 28, 3) := by decide +kernel
theorem dX6_drops_67 : decode cX6_drops 67 = .ok (.iconst 1, 1) := by decide +kernel
theorem dX6_drops_68 : decode cX6_drops 68 = .ok (.iload_n 1, 1) := by decide +kernel
theorem dX6_drops_69 : decode cX6_drops 69 = .ok (.ishl, 1) := by decide +kernel
theorem dX6_drops_70 : decode cX6_drops 70 = .ok (.iconst (-1), 1) := by decide +kernel
theorem dX6_drops_71 : decode cX6_drops 71 = .ok (.ixor, 1) := by decide +kernel
theorem dX6_drops_72 : decode cX6_drops 72 = .ok (.iand, 1) := by decide +kernel
theorem dX6_drops_73 : decode cX6_drops 73 = .ok (.putfield 28, 3) := by decide +kernel
theorem dX6_drops_76 : decode cX6_drops 76 = .ok (.return_, 1) := by decide +kernel
theorem dX6_dropsTrusted_0 : decode cX6_dropsTrusted 0 = .ok (.iconst 0, 1) := by decide +kernel
theorem dX6_dropsTrusted_1 : decode cX6_dropsTrusted 1 = .ok (.istore_n 1, 1) := by decide +kernel
theorem dX6_dropsTrusted_2 : decode cX6_dropsTrusted 2 = .ok (.iconst 0, 1) := by decide +kernel
theorem dX6_dropsTrusted_3 : decode cX6_dropsTrusted 3 = .ok (.istore_n 2, 1) := by decide +kernel
theorem dX6_dropsTrusted_4 : decode cX6_dropsTrusted 4 = .ok (.iload_n 2, 1) := by decide +kernel
theorem dX6_dropsTrusted_5 : decode cX6_dropsTrusted 5 = .ok (.aload_n 0, 1) := by decide +kernel
theorem dX6_dropsTrusted_6 : decode cX6_dropsTrusted 6 = .ok (.getfield 21, 3) := by decide +kernel
theorem dX6_dropsTrusted_9 : decode cX6_dropsTrusted 9 = .ok (.if_icmp .ge 41, 3) := by decide +kernel
theorem dX6_dropsTrusted_12 : decode cX6_dropsTrusted 12 = .ok (.aload_n 0, 1) := by decide +kernel
theorem dX6_dropsTrusted_13 : decode cX6_dropsTrusted 13 = .ok (.getfield 28, 3) := by decide +kernel
theorem dX6_dropsTrusted_16 : decode cX6_dropsTrusted 16 = .ok (.aload_n 0, 1) := by decide +kernel
theorem dX6_dropsTrusted_17 : decode cX6_dropsTrusted 17 = .ok (.getfield 9, 3) := by decide +kernel
theorem dX6_dropsTrusted_20 : decode cX6_dropsTrusted 20 = .ok (.iload_n 2, 1) := by decide +kernel
theorem dX6_dropsTrusted_21 : decode cX6_dropsTrusted 21 = .ok (.iaload, 1) := by decide +kernel
theorem dX6_dropsTrusted_22 : decode cX6_dropsTrusted 22 = .ok (.invokestatic 31, 3) := by decide +kernel
theorem dX6_dropsTrusted_25 : decode cX6_dropsTrusted 25 = .ok (.iconst 1, 1) := by decide +kernel
theorem dX6_dropsTrusted_26 : decode cX6_dropsTrusted 26 = .ok (.if_icmp .ne 18, 3) := by decide +kernel
theorem dX6_dropsTrusted_29 : decode cX6_dropsTrusted 29 = .ok (.aload_n 0, 1) := by decide +kernel
theorem dX6_dropsTrusted_30 : decode cX6_dropsTrusted 30 = .ok (.getfield 9, 3) := by decide +kernel
theorem dX6_dropsTrusted_33 : decode cX6_dropsTrusted 33 = .ok (.iload_n 1, 1) := by decide +kernel
theorem dX6_dropsTrusted_34 : decode cX6_dropsTrusted 34 = .ok (.aload_n 0, 1) := by decide +kernel
theorem dX6_dropsTrusted_35 : decode cX6_dropsTrusted 35 = .ok (.getfield 9, 3) := by decide +kernel
theorem dX6_dropsTrusted_38 : decode cX6_dropsTrusted 38 = .ok (.iload_n 2, 1) := by decide +kernel
theorem dX6_dropsTrusted_39 : decode cX6_dropsTrusted 39 = .ok (.iaload, 1) := by decide +kernel
theorem dX6_dropsTrusted_40 : decode cX6_dropsTrusted 40 = .ok (.iastore, 1) := by decide +kernel
theorem dX6_dropsTrusted_41 : decode cX6_dropsTrusted 41 = .ok (.iinc 1 1, 3) := by decide +kernel
theorem dX6_dropsTrusted_44 : decode cX6_dropsTrusted 44 = .ok (.iinc 2 1, 3) := by decide +kernel
theorem dX6_dropsTrusted_47 : decode cX6_dropsTrusted 47 = .ok (.goto (-43), 3) := by decide +kernel
theorem dX6_dropsTrusted_50 : decode cX6_dropsTrusted 50 = .ok (.aload_n 0, 1) := by decide +kernel
theorem dX6_dropsTrusted_51 : decode cX6_dropsTrusted 51 = .ok (.iload_n 1, 1) := by decide +kernel
theorem dX6_dropsTrusted_52 : decode cX6_dropsTrusted 52 = .ok (.putfield 21, 3) := by decide +kernel
theorem dX6_dropsTrusted_55 : decode cX6_dropsTrusted 55 = .ok (.aload_n 0, 1) := by decide +kernel
theorem dX6_dropsTrusted_56 : decode cX6_dropsTrusted 56 = .ok (.aload_n 0, 1) := by decide +kernel
theorem dX6_dropsTrusted_57 : decode cX6_dropsTrusted 57 = .ok (.getfield 28, 3) := by decide +kernel
theorem dX6_dropsTrusted_60 : decode cX6_dropsTrusted 60 = .ok (.putfield 25, 3) := by decide +kernel
theorem dX6_dropsTrusted_63 : decode cX6_dropsTrusted 63 = .ok (.return_, 1) := by decide +kernel
theorem dX6_clears_0 : decode cX6_clears 0 = .ok (.aload_n 0, 1) := by decide +kernel
theorem dX6_clears_1 : decode cX6_clears 1 = .ok (.iconst 0, 1) := by decide +kernel
theorem dX6_clears_2 : decode cX6_clears 2 = .ok (.putfield 21, 3) := by decide +kernel
theorem dX6_clears_5 : decode cX6_clears 5 = .ok (.aload_n 0, 1) := by decide +kernel
theorem dX6_clears_6 : decode cX6_clears 6 = .ok (.iconst 0, 1) := by decide +kernel
theorem dX6_clears_7 : decode cX6_clears 7 = .ok (.putfield 25, 3) := by decide +kernel
theorem dX6_clears_10 : decode cX6_clears 10 = .ok (.aload_n 0, 1) := by decide +kernel
theorem dX6_clears_11 : decode cX6_clears 11 = .ok (.iconst 0, 1) := by decide +kernel
theorem dX6_clears_12 : decode cX6_clears 12 = .ok (.putfield 28, 3) := by decide +kernel
theorem dX6_clears_15 : decode cX6_clears 15 = .ok (.return_, 1) := by decide +kernel
theorem dX7_init_0 : decode cX7_init 0 = .ok (.aload_n 0, 1) := by decide +kernel
theorem dX7_init_1 : decode cX7_init 1 = .ok (.invokespecial 3, 3) := by decide +kernel
theorem dX7_init_4 : decode cX7_init 4 = .ok (.aload_n 0, 1) := by decide +kernel
theorem dX7_init_5 : decode cX7_init 5 = .ok (.bipush 80, 2) := by decide +kernel
theorem dX7_init_7 : decode cX7_init 7 = .ok (.newarray .int, 2) := by decide +kernel
theorem dX7_init_9 : decode cX7_init 9 = .ok (.putfield 9, 3) := by decide +kernel
theorem dX7_init_12 : decode cX7_init 12 = .ok (.return_, 1) := by decide +kernel
theorem dX7_takes_0 : decode cX7_takes 0 = .ok (.aload_n 0, 1) := by decide +kernel
theorem dX7_takes_1 : decode cX7_takes 1 = .ok (.getfield 15, 3) := by decide +kernel
theorem dX7_takes_4 : decode cX7_takes 4 = .ok (.bipush 76, 2) := by decide +kernel
theorem dX7_takes_6 : decode cX7_takes 6 = .ok (.if_icmp .le 5, 3) := by decide +kernel
theorem dX7_takes_9 : decode cX7_takes 9 = .ok (.iconst 0, 1) := by decide +kernel
theorem dX7_takes_10 : decode cX7_takes 10 = .ok (.ireturn, 1) := by decide +kernel
theorem dX7_takes_11 : decode cX7_takes 11 = .ok (.bipush 24, 2) := by decide +kernel
theorem dX7_takes_13 : decode cX7_takes 13 = .ok (.istore_n 2, 1) := by decide +kernel
theorem dX7_takes_14 : decode cX7_takes 14 = .ok (.iload_n 2, 1) := by decide +kernel
theorem dX7_takes_15 : decode cX7_takes 15 = .ok (.ifCond .lt 35, 3) := by decide +kernel
theorem dX7_takes_18 : decode cX7_takes 18 = .ok (.aload_n 0, 1) := by decide +kernel
theorem dX7_takes_19 : decode cX7_takes 19 = .ok (.getfield 9, 3) := by decide +kernel
theorem dX7_takes_22 : decode cX7_takes 22 = .ok (.aload_n 0, 1) := by decide +kernel
theorem dX7_takes_23 : decode cX7_takes 23 = .ok (.getfield 15, 3) := by decide +kernel
theorem dX7_takes_26 : decode cX7_takes 26 = .ok (.iload_n 1, 1) := by decide +kernel
theorem dX7_takes_27 : decode cX7_takes 27 = .ok (.iload_n 2, 1) := by decide +kernel
theorem dX7_takes_28 : decode cX7_takes 28 = .ok (.iushr, 1) := by decide +kernel
theorem dX7_takes_29 : decode cX7_takes 29 = .ok (.sipush 255, 3) := by decide +kernel
theorem dX7_takes_32 : decode cX7_takes 32 = .ok (.iand, 1) := by decide +kernel
theorem dX7_takes_33 : decode cX7_takes 33 = .ok (.iastore, 1) := by decide +kernel
theorem dX7_takes_34 : decode cX7_takes 34 = .ok (.aload_n 0, 1) := by decide +kernel
theorem dX7_takes_35 : decode cX7_takes 35 = .ok (.dup, 1) := by decide +kernel
theorem dX7_takes_36 : decode cX7_takes 36 = .ok (.getfield 15, 3) := by decide +kernel
theorem dX7_takes_39 : decode cX7_takes 39 = .ok (.iconst 1, 1) := by decide +kernel
theorem dX7_takes_40 : decode cX7_takes 40 = .ok (.iadd, 1) := by decide +kernel
theorem dX7_takes_41 : decode cX7_takes 41 = .ok (.putfield 15, 3) := by decide +kernel
theorem dX7_takes_44 : decode cX7_takes 44 = .ok (.iinc 2 (-8), 3) := by decide +kernel
theorem dX7_takes_47 : decode cX7_takes 47 = .ok (.goto (-33), 3) := by decide +kernel
theorem dX7_takes_50 : decode cX7_takes 50 = .ok (.iconst 1, 1) := by decide +kernel
theorem dX7_takes_51 : decode cX7_takes 51 = .ok (.ireturn, 1) := by decide +kernel
theorem dX7_fault_0 : decode cX7_fault 0 = .ok (.iconst 0, 1) := by decide +kernel
theorem dX7_fault_1 : decode cX7_fault 1 = .ok (.istore_n 1, 1) := by decide +kernel
theorem dX7_fault_2 : decode cX7_fault 2 = .ok (.iconst 0, 1) := by decide +kernel
theorem dX7_fault_3 : decode cX7_fault 3 = .ok (.istore_n 2, 1) := by decide +kernel
theorem dX7_fault_4 : decode cX7_fault 4 = .ok (.iload_n 2, 1) := by decide +kernel
theorem dX7_fault_5 : decode cX7_fault 5 = .ok (.aload_n 0, 1) := by decide +kernel
theorem dX7_fault_6 : decode cX7_fault 6 = .ok (.getfield 15, 3) := by decide +kernel
theorem dX7_fault_9 : decode cX7_fault 9 = .ok (.if_icmp .ge 60, 3) := by decide +kernel
theorem dX7_fault_12 : decode cX7_fault 12 = .ok (.iload_n 1, 1) := by decide +kernel
theorem dX7_fault_13 : decode cX7_fault 13 = .ok (.ifCond .le 33, 3) := by decide +kernel
theorem dX7_fault_16 : decode cX7_fault 16 = .ok (.aload_n 0, 1) := by decide +kernel
theorem dX7_fault_17 : decode cX7_fault 17 = .ok (.getfield 9, 3) := by decide +kernel
theorem dX7_fault_20 : decode cX7_fault 20 = .ok (.iload_n 2, 1) := by decide +kernel
theorem dX7_fault_21 : decode cX7_fault 21 = .ok (.iaload, 1) := by decide +kernel
theorem dX7_fault_22 : decode cX7_fault 22 = .ok (.bipush 48, 2) := by decide +kernel
theorem dX7_fault_24 : decode cX7_fault 24 = .ok (.if_icmp .lt 14, 3) := by decide +kernel
theorem dX7_fault_27 : decode cX7_fault 27 = .ok (.aload_n 0, 1) := by decide +kernel
theorem dX7_fault_28 : decode cX7_fault 28 = .ok (.getfield 9, 3) := by decide +kernel
theorem dX7_fault_31 : decode cX7_fault 31 = .ok (.iload_n 2, 1) := by decide +kernel
theorem dX7_fault_32 : decode cX7_fault 32 = .ok (.iaload, 1) := by decide +kernel
theorem dX7_fault_33 : decode cX7_fault 33 = .ok (.bipush 57, 2) := by decide +kernel
theorem dX7_fault_35 : decode cX7_fault 35 = .ok (.if_icmp .le 5, 3) := by decide +kernel
theorem dX7_fault_38 : decode cX7_fault 38 = .ok (.iload_n 2, 1) := by decide +kernel
theorem dX7_fault_39 : decode cX7_fault 39 = .ok (.ireturn, 1) := by decide +kernel
theorem dX7_fault_40 : decode cX7_fault 40 = .ok (.iinc 1 (-1), 3) := by decide +kernel
theorem dX7_fault_43 : decode cX7_fault 43 = .ok (.goto 20, 3) := by decide +kernel
theorem dX7_fault_46 : decode cX7_fault 46 = .ok (.aload_n 0, 1) := by decide +kernel
theorem dX7_fault_47 : decode cX7_fault 47 = .ok (.getfield 9, 3) := by decide +kernel
theorem dX7_fault_50 : decode cX7_fault 50 = .ok (.iload_n 2, 1) := by decide +kernel
theorem dX7_fault_51 : decode cX7_fault 51 = .ok (.iaload, 1) := by decide +kernel
theorem dX7_fault_52 : decode cX7_fault 52 = .ok (.invokestatic 19, 3) := by decide +kernel
theorem dX7_fault_55 : decode cX7_fault 55 = .ok (.istore_n 1, 1) := by decide +kernel
theorem dX7_fault_56 : decode cX7_fault 56 = .ok (.iload_n 1, 1) := by decide +kernel
theorem dX7_fault_57 : decode cX7_fault 57 = .ok (.iconst (-1), 1) := by decide +kernel
theorem dX7_fault_58 : decode cX7_fault 58 = .ok (.if_icmp .ne 5, 3) := by decide +kernel
theorem dX7_fault_61 : decode cX7_fault 61 = .ok (.iload_n 2, 1) := by decide +kernel
theorem dX7_fault_62 : decode cX7_fault 62 = .ok (.ireturn, 1) := by decide +kernel
theorem dX7_fault_63 : decode cX7_fault 63 = .ok (.iinc 2 1, 3) := by decide +kernel
theorem dX7_fault_66 : decode cX7_fault 66 = .ok (.goto (-62), 3) := by decide +kernel
theorem dX7_fault_69 : decode cX7_fault 69 = .ok (.iload_n 1, 1) := by decide +kernel
theorem dX7_fault_70 : decode cX7_fault 70 = .ok (.ifCond .le 10, 3) := by decide +kernel
theorem dX7_fault_73 : decode cX7_fault 73 = .ok (.aload_n 0, 1) := by decide +kernel
theorem dX7_fault_74 : decode cX7_fault 74 = .ok (.getfield 15, 3) := by decide +kernel
theorem dX7_fault_77 : decode cX7_fault 77 = .ok (.goto 4, 3) := by decide +kernel
theorem dX7_fault_80 : decode cX7_fault 80 = .ok (.iconst (-1), 1) := by decide +kernel
theorem dX7_fault_81 : decode cX7_fault 81 = .ok (.ireturn, 1) := by decide +kernel
theorem dX7_digitsOf_0 : decode cX7_digitsOf 0 = .ok (.iload_n 0, 1) := by decide +kernel
theorem dX7_digitsOf_1 : decode cX7_digitsOf 1 = .ok (.tableswitch 79 107 119 #[75, 79, 79, 67, 79, 79, 79, 71, 69, 77, 79, 79, 73], 67) := by decide +kernel
theorem dX7_digitsOf_68 : decode cX7_digitsOf 68 = .ok (.iconst 4, 1) := by decide +kernel
theorem dX7_digitsOf_69 : decode cX7_digitsOf 69 = .ok (.ireturn, 1) := by decide +kernel
theorem dX7_digitsOf_70 : decode cX7_digitsOf 70 = .ok (.iconst 5, 1) := by decide +kernel
theorem dX7_digitsOf_71 : decode cX7_digitsOf 71 = .ok (.ireturn, 1) := by decide +kernel
theorem dX7_digitsOf_72 : decode cX7_digitsOf 72 = .ok (.iconst 3, 1) := by decide +kernel
theorem dX7_digitsOf_73 : decode cX7_digitsOf 73 = .ok (.ireturn, 1) := by decide +kernel
theorem dX7_digitsOf_74 : decode cX7_digitsOf 74 = .ok (.iconst 3, 1) := by decide +kernel
theorem dX7_digitsOf_75 : decode cX7_digitsOf 75 = .ok (.ireturn, 1) := by decide +kernel
theorem dX7_digitsOf_76 : decode cX7_digitsOf 76 = .ok (.iconst 2, 1) := by decide +kernel
theorem dX7_digitsOf_77 : decode cX7_digitsOf 77 = .ok (.ireturn, 1) := by decide +kernel
theorem dX7_digitsOf_78 : decode cX7_digitsOf 78 = .ok (.iconst 0, 1) := by decide +kernel
theorem dX7_digitsOf_79 : decode cX7_digitsOf 79 = .ok (.ireturn, 1) := by decide +kernel
theorem dX7_digitsOf_80 : decode cX7_digitsOf 80 = .ok (.iconst (-1), 1) := by decide +kernel
theorem dX7_digitsOf_81 : decode cX7_digitsOf 81 = .ok (.ireturn, 1) := by decide +kernel
theorem dX7_starts_0 : decode cX7_starts 0 = .ok (.aload_n 0, 1) := by decide +kernel
theorem dX7_starts_1 : decode cX7_starts 1 = .ok (.iconst 0, 1) := by decide +kernel
theorem dX7_starts_2 : decode cX7_starts 2 = .ok (.putfield 23, 3) := by decide +kernel
theorem dX7_starts_5 : decode cX7_starts 5 = .ok (.return_, 1) := by decide +kernel
theorem dX7_goesOn_0 : decode cX7_goesOn 0 = .ok (.aload_n 0, 1) := by decide +kernel
theorem dX7_goesOn_1 : decode cX7_goesOn 1 = .ok (.getfield 23, 3) := by decide +kernel
theorem dX7_goesOn_4 : decode cX7_goesOn 4 = .ok (.aload_n 0, 1) := by decide +kernel
theorem dX7_goesOn_5 : decode cX7_goesOn 5 = .ok (.getfield 15, 3) := by decide +kernel
theorem dX7_goesOn_8 : decode cX7_goesOn 8 = .ok (.if_icmp .ge 7, 3) := by decide +kernel
theorem dX7_goesOn_11 : decode cX7_goesOn 11 = .ok (.iconst 1, 1) := by decide +kernel
theorem dX7_goesOn_12 : decode cX7_goesOn 12 = .ok (.goto 4, 3) := by decide +kernel
theorem dX7_goesOn_15 : decode cX7_goesOn 15 = .ok (.iconst 0, 1) := by decide +kernel
theorem dX7_goesOn_16 : decode cX7_goesOn 16 = .ok (.ireturn, 1) := by decide +kernel
theorem dX7_reads_0 : decode cX7_reads 0 = .ok (.aload_n 0, 1) := by decide +kernel
theorem dX7_reads_1 : decode cX7_reads 1 = .ok (.invokevirtual 26, 3) := by decide +kernel
theorem dX7_reads_4 : decode cX7_reads 4 = .ok (.istore_n 2, 1) := by decide +kernel
theorem dX7_reads_5 : decode cX7_reads 5 = .ok (.iload_n 2, 1) := by decide +kernel
theorem dX7_reads_6 : decode cX7_reads 6 = .ok (.tableswitch 147 107 119 #[129, 147, 147, 66, 147, 147, 147, 111, 90, 147, 147, 147, 111], 66) := by decide +kernel
theorem dX7_reads_72 : decode cX7_reads 72 = .ok (.aload_n 1, 1) := by decide +kernel
theorem dX7_reads_73 : decode cX7_reads 73 = .ok (.iload_n 2, 1) := by decide +kernel
theorem dX7_reads_74 : decode cX7_reads 74 = .ok (.aload_n 0, 1) := by decide +kernel
theorem dX7_reads_75 : decode cX7_reads 75 = .ok (.invokevirtual 30, 3) := by decide +kernel
theorem dX7_reads_78 : decode cX7_reads 78 = .ok (.aload_n 0, 1) := by decide +kernel
theorem dX7_reads_79 : decode cX7_reads 79 = .ok (.invokevirtual 30, 3) := by decide +kernel
theorem dX7_reads_82 : decode cX7_reads 82 = .ok (.aload_n 0, 1) := by decide +kernel
theorem dX7_reads_83 : decode cX7_reads 83 = .ok (.invokevirtual 30, 3) := by decide +kernel
theorem dX7_reads_86 : decode cX7_reads 86 = .ok (.aload_n 0, 1) := by decide +kernel
theorem dX7_reads_87 : decode cX7_reads 87 = .ok (.invokevirtual 30, 3) := by decide +kernel
theorem dX7_reads_90 : decode cX7_reads 90 = .ok (.invokevirtual 33, 3) := by decide +kernel
theorem dX7_reads_93 : decode cX7_reads 93 = .ok (.goto 69, 3) := by decide +kernel
theorem dX7_reads_96 : decode cX7_reads 96 = .ok (.aload_n 1, 1) := by decide +kernel
theorem dX7_reads_97 : decode cX7_reads 97 = .ok (.iload_n 2, 1) := by decide +kernel
theorem dX7_reads_98 : decode cX7_reads 98 = .ok (.aload_n 0, 1) := by decide +kernel
theorem dX7_reads_99 : decode cX7_reads 99 = .ok (.invokevirtual 39, 3) := by decide +kernel
theorem dX7_reads_102 : decode cX7_reads 102 = .ok (.aload_n 0, 1) := by decide +kernel
theorem dX7_reads_103 : decode cX7_reads 103 = .ok (.invokevirtual 30, 3) := by decide +kernel
theorem dX7_reads_106 : decode cX7_reads 106 = .ok (.aload_n 0, 1) := by decide +kernel
theorem dX7_reads_107 : decode cX7_reads 107 = .ok (.invokevirtual 42, 3) := by decide +kernel
theorem dX7_reads_110 : decode cX7_reads 110 = .ok (.iconst 0, 1) := by decide +kernel
theorem dX7_reads_111 : decode cX7_reads 111 = .ok (.invokevirtual 33, 3) := by decide +kernel
theorem dX7_reads_114 : decode cX7_reads 114 = .ok (.goto 48, 3) := by decide +kernel
theorem dX7_reads_117 : decode cX7_reads 117 = .ok (.aload_n 1, 1) := by decide +kernel
theorem dX7_reads_118 : decode cX7_reads 118 = .ok (.iload_n 2, 1) := by decide +kernel
theorem dX7_reads_119 : decode cX7_reads 119 = .ok (.aload_n 0, 1) := by decide +kernel
theorem dX7_reads_120 : decode cX7_reads 120 = .ok (.invokevirtual 30, 3) := by decide +kernel
theorem dX7_reads_123 : decode cX7_reads 123 = .ok (.aload_n 0, 1) := by decide +kernel
theorem dX7_reads_124 : decode cX7_reads 124 = .ok (.invokevirtual 42, 3) := by decide +kernel
theorem dX7_reads_127 : decode cX7_reads 127 = .ok (.iconst 0, 1) := by decide +kernel
theorem dX7_reads_128 : decode cX7_reads 128 = .ok (.iconst 0, 1) := by decide +kernel
theorem dX7_reads_129 : decode cX7_reads 129 = .ok (.invokevirtual 33, 3) := by decide +kernel
theorem dX7_reads_132 : decode cX7_reads 132 = .ok (.goto 30, 3) := by decide +kernel
theorem dX7_reads_135 : decode cX7_reads 135 = .ok (.aload_n 1, 1) := by decide +kernel
theorem dX7_reads_136 : decode cX7_reads 136 = .ok (.iload_n 2, 1) := by decide +kernel
theorem dX7_reads_137 : decode cX7_reads 137 = .ok (.aload_n 0, 1) := by decide +kernel
theorem dX7_reads_138 : decode cX7_reads 138 = .ok (.invokevirtual 30, 3) := by decide +kernel
theorem dX7_reads_141 : decode cX7_reads 141 = .ok (.aload_n 0, 1) := by decide +kernel
theorem dX7_reads_142 : decode cX7_reads 142 = .ok (.invokevirtual 30, 3) := by decide +kernel
theorem dX7_reads_145 : decode cX7_reads 145 = .ok (.iconst 0, 1) := by decide +kernel
theorem dX7_reads_146 : decode cX7_reads 146 = .ok (.iconst 0, 1) := by decide +kernel
theorem dX7_reads_147 : decode cX7_reads 147 = .ok (.invokevirtual 33, 3) := by decide +kernel
theorem dX7_reads_150 : decode cX7_reads 150 = .ok (.goto 12, 3) := by decide +kernel
theorem dX7_reads_153 : decode cX7_reads 153 = .ok (.aload_n 1, 1) := by decide +kernel
theorem dX7_reads_154 : decode cX7_reads 154 = .ok (.iload_n 2, 1) := by decide +kernel
theorem dX7_reads_155 : decode cX7_reads 155 = .ok (.iconst 0, 1) := by decide +kernel
theorem dX7_reads_156 : decode cX7_reads 156 = .ok (.iconst 0, 1) := by decide +kernel
theorem dX7_reads_157 : decode cX7_reads 157 = .ok (.iconst 0, 1) := by decide +kernel
theorem dX7_reads_158 : decode cX7_reads 158 = .ok (.iconst 0, 1) := by decide +kernel
theorem dX7_reads_159 : decode cX7_reads 159 = .ok (.invokevirtual 33, 3) := by decide +kernel
theorem dX7_reads_162 : decode cX7_reads 162 = .ok (.return_, 1) := by decide +kernel
theorem dX7_next_0 : decode cX7_next 0 = .ok (.aload_n 0, 1) := by decide +kernel
theorem dX7_next_1 : decode cX7_next 1 = .ok (.getfield 23, 3) := by decide +kernel
theorem dX7_next_4 : decode cX7_next 4 = .ok (.aload_n 0, 1) := by decide +kernel
theorem dX7_next_5 : decode cX7_next 5 = .ok (.getfield 15, 3) := by decide +kernel
theorem dX7_next_8 : decode cX7_next 8 = .ok (.if_icmp .lt 5, 3) := by decide +kernel
theorem dX7_next_11 : decode cX7_next 11 = .ok (.iconst (-1), 1) := by decide +kernel
theorem dX7_next_12 : decode cX7_next 12 = .ok (.ireturn, 1) := by decide +kernel
theorem dX7_next_13 : decode cX7_next 13 = .ok (.aload_n 0, 1) := by decide +kernel
theorem dX7_next_14 : decode cX7_next 14 = .ok (.dup, 1) := by decide +kernel
theorem dX7_next_15 : decode cX7_next 15 = .ok (.getfield 23, 3) := by decide +kernel
theorem dX7_next_18 : decode cX7_next 18 = .ok (.iconst 1, 1) := by decide +kernel
theorem dX7_next_19 : decode cX7_next 19 = .ok (.iadd, 1) := by decide +kernel
theorem dX7_next_20 : decode cX7_next 20 = .ok (.putfield 23, 3) := by decide +kernel
theorem dX7_next_23 : decode cX7_next 23 = .ok (.aload_n 0, 1) := by decide +kernel
theorem dX7_next_24 : decode cX7_next 24 = .ok (.getfield 9, 3) := by decide +kernel
theorem dX7_next_27 : decode cX7_next 27 = .ok (.aload_n 0, 1) := by decide +kernel
theorem dX7_next_28 : decode cX7_next 28 = .ok (.getfield 23, 3) := by decide +kernel
theorem dX7_next_31 : decode cX7_next 31 = .ok (.iconst 1, 1) := by decide +kernel
theorem dX7_next_32 : decode cX7_next 32 = .ok (.isub, 1) := by decide +kernel
theorem dX7_next_33 : decode cX7_next 33 = .ok (.iaload, 1) := by decide +kernel
theorem dX7_next_34 : decode cX7_next 34 = .ok (.ireturn, 1) := by decide +kernel
theorem dX7_digit_0 : decode cX7_digit 0 = .ok (.aload_n 0, 1) := by decide +kernel
theorem dX7_digit_1 : decode cX7_digit 1 = .ok (.invokevirtual 26, 3) := by decide +kernel
theorem dX7_digit_4 : decode cX7_digit 4 = .ok (.bipush 48, 2) := by decide +kernel
theorem dX7_digit_6 : decode cX7_digit 6 = .ok (.isub, 1) := by decide +kernel
theorem dX7_digit_7 : decode cX7_digit 7 = .ok (.ireturn, 1) := by decide +kernel
theorem dX7_twoDigits_0 : decode cX7_twoDigits 0 = .ok (.aload_n 0, 1) := by decide +kernel
theorem dX7_twoDigits_1 : decode cX7_twoDigits 1 = .ok (.invokevirtual 30, 3) := by decide +kernel
theorem dX7_twoDigits_4 : decode cX7_twoDigits 4 = .ok (.istore_n 1, 1) := by decide +kernel
theorem dX7_twoDigits_5 : decode cX7_twoDigits 5 = .ok (.iload_n 1, 1) := by decide +kernel
theorem dX7_twoDigits_6 : decode cX7_twoDigits 6 = .ok (.bipush 10, 2) := by decide +kernel
theorem dX7_twoDigits_8 : decode cX7_twoDigits 8 = .ok (.imul, 1) := by decide +kernel
theorem dX7_twoDigits_9 : decode cX7_twoDigits 9 = .ok (.aload_n 0, 1) := by decide +kernel
theorem dX7_twoDigits_10 : decode cX7_twoDigits 10 = .ok (.invokevirtual 30, 3) := by decide +kernel
theorem dX7_twoDigits_13 : decode cX7_twoDigits 13 = .ok (.iadd, 1) := by decide +kernel
theorem dX7_twoDigits_14 : decode cX7_twoDigits 14 = .ok (.ireturn, 1) := by decide +kernel
theorem dX7_target_0 : decode cX7_target 0 = .ok (.aload_n 0, 1) := by decide +kernel
theorem dX7_target_1 : decode cX7_target 1 = .ok (.invokevirtual 39, 3) := by decide +kernel
theorem dX7_target_4 : decode cX7_target 4 = .ok (.istore_n 1, 1) := by decide +kernel
theorem dX7_target_5 : decode cX7_target 5 = .ok (.iload_n 1, 1) := by decide +kernel
theorem dX7_target_6 : decode cX7_target 6 = .ok (.bipush 99, 2) := by decide +kernel
theorem dX7_target_8 : decode cX7_target 8 = .ok (.if_icmp .ne 7, 3) := by decide +kernel
theorem dX7_target_11 : decode cX7_target 11 = .ok (.iconst (-1), 1) := by decide +kernel
theorem dX7_target_12 : decode cX7_target 12 = .ok (.goto 4, 3) := by decide +kernel
theorem dX7_target_15 : decode cX7_target 15 = .ok (.iload_n 1, 1) := by decide +kernel
theorem dX7_target_16 : decode cX7_target 16 = .ok (.ireturn, 1) := by decide +kernel
theorem dX8_init_0 : decode cX8_init 0 = .ok (.aload_n 0, 1) := by decide +kernel
theorem dX8_init_1 : decode cX8_init 1 = .ok (.invokespecial 3, 3) := by decide +kernel
theorem dX8_init_4 : decode cX8_init 4 = .ok (.aload_n 0, 1) := by decide +kernel
theorem dX8_init_5 : decode cX8_init 5 = .ok (.bipush 24, 2) := by decide +kernel
theorem dX8_init_7 : decode cX8_init 7 = .ok (.newarray .long, 2) := by decide +kernel
theorem dX8_init_9 : decode cX8_init 9 = .ok (.putfield 9, 3) := by decide +kernel
theorem dX8_init_12 : decode cX8_init 12 = .ok (.return_, 1) := by decide +kernel
theorem dX8_clears_0 : decode cX8_clears 0 = .ok (.aload_n 0, 1) := by decide +kernel
theorem dX8_clears_1 : decode cX8_clears 1 = .ok (.iconst 0, 1) := by decide +kernel
theorem dX8_clears_2 : decode cX8_clears 2 = .ok (.putfield 15, 3) := by decide +kernel
theorem dX8_clears_5 : decode cX8_clears 5 = .ok (.return_, 1) := by decide +kernel
theorem dX8_adds_0 : decode cX8_adds 0 = .ok (.aload_n 0, 1) := by decide +kernel
theorem dX8_adds_1 : decode cX8_adds 1 = .ok (.getfield 15, 3) := by decide +kernel
theorem dX8_adds_4 : decode cX8_adds 4 = .ok (.bipush 24, 2) := by decide +kernel
theorem dX8_adds_6 : decode cX8_adds 6 = .ok (.if_icmp .ge 23, 3) := by decide +kernel
theorem dX8_adds_9 : decode cX8_adds 9 = .ok (.aload_n 0, 1) := by decide +kernel
theorem dX8_adds_10 : decode cX8_adds 10 = .ok (.getfield 9, 3) := by decide +kernel
theorem dX8_adds_13 : decode cX8_adds 13 = .ok (.aload_n 0, 1) := by decide +kernel
theorem dX8_adds_14 : decode cX8_adds 14 = .ok (.getfield 15, 3) := by decide +kernel
theorem dX8_adds_17 : decode cX8_adds 17 = .ok (.lload_n 1, 1) := by decide +kernel
theorem dX8_adds_18 : decode cX8_adds 18 = .ok (.lastore, 1) := by decide +kernel
theorem dX8_adds_19 : decode cX8_adds 19 = .ok (.aload_n 0, 1) := by decide +kernel
theorem dX8_adds_20 : decode cX8_adds 20 = .ok (.dup, 1) := by decide +kernel
theorem dX8_adds_21 : decode cX8_adds 21 = .ok (.getfield 15, 3) := by decide +kernel
theorem dX8_adds_24 : decode cX8_adds 24 = .ok (.iconst 1, 1) := by decide +kernel
theorem dX8_adds_25 : decode cX8_adds 25 = .ok (.iadd, 1) := by decide +kernel
theorem dX8_adds_26 : decode cX8_adds 26 = .ok (.putfield 15, 3) := by decide +kernel
theorem dX8_adds_29 : decode cX8_adds 29 = .ok (.return_, 1) := by decide +kernel
theorem dX8_tells_0 : decode cX8_tells 0 = .ok (.aload_n 0, 1) := by decide +kernel
theorem dX8_tells_1 : decode cX8_tells 1 = .ok (.invokevirtual 19, 3) := by decide +kernel
theorem dX8_tells_4 : decode cX8_tells 4 = .ok (.aload_n 0, 1) := by decide +kernel
theorem dX8_tells_5 : decode cX8_tells 5 = .ok (.lload_n 1, 1) := by decide +kernel
theorem dX8_tells_6 : decode cX8_tells 6 = .ok (.invokevirtual 22, 3) := by decide +kernel
theorem dX8_tells_9 : decode cX8_tells 9 = .ok (.return_, 1) := by decide +kernel
theorem dX8_tells__0 : decode cX8_tells_ 0 = .ok (.aload_n 0, 1) := by decide +kernel
theorem dX8_tells__1 : decode cX8_tells_ 1 = .ok (.lload_n 1, 1) := by decide +kernel
theorem dX8_tells__2 : decode cX8_tells_ 2 = .ok (.invokevirtual 26, 3) := by decide +kernel
theorem dX8_tells__5 : decode cX8_tells_ 5 = .ok (.aload_n 0, 1) := by decide +kernel
theorem dX8_tells__6 : decode cX8_tells_ 6 = .ok (.lload_n 3, 1) := by decide +kernel
theorem dX8_tells__7 : decode cX8_tells_ 7 = .ok (.invokevirtual 22, 3) := by decide +kernel
theorem dX8_tells__10 : decode cX8_tells_ 10 = .ok (.return_, 1) := by decide +kernel
theorem dX8_tells___0 : decode cX8_tells__ 0 = .ok (.aload_n 0, 1) := by decide +kernel
theorem dX8_tells___1 : decode cX8_tells__ 1 = .ok (.lload_n 1, 1) := by decide +kernel
theorem dX8_tells___2 : decode cX8_tells__ 2 = .ok (.lload_n 3, 1) := by decide +kernel
theorem dX8_tells___3 : decode cX8_tells__ 3 = .ok (.invokevirtual 29, 3) := by decide +kernel
theorem dX8_tells___6 : decode cX8_tells__ 6 = .ok (.aload_n 0, 1) := by decide +kernel
theorem dX8_tells___7 : decode cX8_tells__ 7 = .ok (.lload 5, 2) := by decide +kernel
theorem dX8_tells___9 : decode cX8_tells__ 9 = .ok (.invokevirtual 22, 3) := by decide +kernel
theorem dX8_tells___12 : decode cX8_tells__ 12 = .ok (.return_, 1) := by decide +kernel
theorem dX9_init_0 : decode cX9_init 0 = .ok (.aload_n 0, 1) := by decide +kernel
theorem dX9_init_1 : decode cX9_init 1 = .ok (.invokespecial 3, 3) := by decide +kernel
theorem dX9_init_4 : decode cX9_init 4 = .ok (.aload_n 0, 1) := by decide +kernel
theorem dX9_init_5 : decode cX9_init 5 = .ok (.bipush 24, 2) := by decide +kernel
theorem dX9_init_7 : decode cX9_init 7 = .ok (.newarray .int, 2) := by decide +kernel
theorem dX9_init_9 : decode cX9_init 9 = .ok (.putfield 9, 3) := by decide +kernel
theorem dX9_init_12 : decode cX9_init 12 = .ok (.aload_n 0, 1) := by decide +kernel
theorem dX9_init_13 : decode cX9_init 13 = .ok (.bipush 24, 2) := by decide +kernel
theorem dX9_init_15 : decode cX9_init 15 = .ok (.newarray .int, 2) := by decide +kernel
theorem dX9_init_17 : decode cX9_init 17 = .ok (.putfield 15, 3) := by decide +kernel
theorem dX9_init_20 : decode cX9_init 20 = .ok (.aload_n 0, 1) := by decide +kernel
theorem dX9_init_21 : decode cX9_init 21 = .ok (.bipush 24, 2) := by decide +kernel
theorem dX9_init_23 : decode cX9_init 23 = .ok (.newarray .int, 2) := by decide +kernel
theorem dX9_init_25 : decode cX9_init 25 = .ok (.putfield 18, 3) := by decide +kernel
theorem dX9_init_28 : decode cX9_init 28 = .ok (.aload_n 0, 1) := by decide +kernel
theorem dX9_init_29 : decode cX9_init 29 = .ok (.bipush 24, 2) := by decide +kernel
theorem dX9_init_31 : decode cX9_init 31 = .ok (.newarray .int, 2) := by decide +kernel
theorem dX9_init_33 : decode cX9_init 33 = .ok (.putfield 21, 3) := by decide +kernel
theorem dX9_init_36 : decode cX9_init 36 = .ok (.aload_n 0, 1) := by decide +kernel
theorem dX9_init_37 : decode cX9_init 37 = .ok (.bipush 24, 2) := by decide +kernel
theorem dX9_init_39 : decode cX9_init 39 = .ok (.newarray .int, 2) := by decide +kernel
theorem dX9_init_41 : decode cX9_init 41 = .ok (.putfield 24, 3) := by decide +kernel
theorem dX9_init_44 : decode cX9_init 44 = .ok (.aload_n 0, 1) := by decide +kernel
theorem dX9_init_45 : decode cX9_init 45 = .ok (.aload_n 1, 1) := by decide +kernel
theorem dX9_init_46 : decode cX9_init 46 = .ok (.putfield 27, 3) := by decide +kernel
theorem dX9_init_49 : decode cX9_init 49 = .ok (.return_, 1) := by decide +kernel
theorem dX9_tries_0 : decode cX9_tries 0 = .ok (.aload_n 0, 1) := by decide +kernel
theorem dX9_tries_1 : decode cX9_tries 1 = .ok (.iconst 0, 1) := by decide +kernel
theorem dX9_tries_2 : decode cX9_tries 2 = .ok (.putfield 31, 3) := by decide +kernel
theorem dX9_tries_5 : decode cX9_tries 5 = .ok (.aload_n 0, 1) := by decide +kernel
theorem dX9_tries_6 : decode cX9_tries 6 = .ok (.getfield 9, 3) := by decide +kernel
theorem dX9_tries_9 : decode cX9_tries 9 = .ok (.iconst 0, 1) := by decide +kernel
theorem dX9_tries_10 : decode cX9_tries 10 = .ok (.invokestatic 35, 3) := by decide +kernel
theorem dX9_tries_13 : decode cX9_tries 13 = .ok (.aload_n 1, 1) := by decide +kernel
theorem dX9_tries_14 : decode cX9_tries 14 = .ok (.getfield 41, 3) := by decide +kernel
theorem dX9_tries_17 : decode cX9_tries 17 = .ok (.iconst 0, 1) := by decide +kernel
theorem dX9_tries_18 : decode cX9_tries 18 = .ok (.aload_n 0, 1) := by decide +kernel
theorem dX9_tries_19 : decode cX9_tries 19 = .ok (.getfield 15, 3) := by decide +kernel
theorem dX9_tries_22 : decode cX9_tries 22 = .ok (.iconst 0, 1) := by decide +kernel
theorem dX9_tries_23 : decode cX9_tries 23 = .ok (.bipush 24, 2) := by decide +kernel
theorem dX9_tries_25 : decode cX9_tries 25 = .ok (.invokestatic 46, 3) := by decide +kernel
theorem dX9_tries_28 : decode cX9_tries 28 = .ok (.aload_n 1, 1) := by decide +kernel
theorem dX9_tries_29 : decode cX9_tries 29 = .ok (.getfield 52, 3) := by decide +kernel
theorem dX9_tries_32 : decode cX9_tries 32 = .ok (.invokevirtual 56, 3) := by decide +kernel
theorem dX9_tries_35 : decode cX9_tries 35 = .ok (.iconst 0, 1) := by decide +kernel
theorem dX9_tries_36 : decode cX9_tries 36 = .ok (.istore_n 2, 1) := by decide +kernel
theorem dX9_tries_37 : decode cX9_tries 37 = .ok (.iload_n 2, 1) := by decide +kernel
theorem dX9_tries_38 : decode cX9_tries 38 = .ok (.aload_n 1, 1) := by decide +kernel
theorem dX9_tries_39 : decode cX9_tries 39 = .ok (.getfield 52, 3) := by decide +kernel
theorem dX9_tries_42 : decode cX9_tries 42 = .ok (.getfield 61, 3) := by decide +kernel
theorem dX9_tries_45 : decode cX9_tries 45 = .ok (.if_icmp .ge 23, 3) := by decide +kernel
theorem dX9_tries_48 : decode cX9_tries 48 = .ok (.aload_n 0, 1) := by decide +kernel
theorem dX9_tries_49 : decode cX9_tries 49 = .ok (.aload_n 1, 1) := by decide +kernel
theorem dX9_tries_50 : decode cX9_tries 50 = .ok (.aload_n 1, 1) := by decide +kernel
theorem dX9_tries_51 : decode cX9_tries 51 = .ok (.getfield 52, 3) := by decide +kernel
theorem dX9_tries_54 : decode cX9_tries 54 = .ok (.getfield 64, 3) := by decide +kernel
theorem dX9_tries_57 : decode cX9_tries 57 = .ok (.iload_n 2, 1) := by decide +kernel
theorem dX9_tries_58 : decode cX9_tries 58 = .ok (.iaload, 1) := by decide +kernel
theorem dX9_tries_59 : decode cX9_tries 59 = .ok (.invokevirtual 67, 3) := by decide +kernel
theorem dX9_tries_62 : decode cX9_tries 62 = .ok (.iinc 2 1, 3) := by decide +kernel
theorem dX9_tries_65 : decode cX9_tries 65 = .ok (.goto (-28), 3) := by decide +kernel
theorem dX9_tries_68 : decode cX9_tries 68 = .ok (.iconst 0, 1) := by decide +kernel
theorem dX9_tries_69 : decode cX9_tries 69 = .ok (.istore_n 2, 1) := by decide +kernel
theorem dX9_tries_70 : decode cX9_tries 70 = .ok (.iload_n 2, 1) := by decide +kernel
theorem dX9_tries_71 : decode cX9_tries 71 = .ok (.aload_n 1, 1) := by decide +kernel
theorem dX9_tries_72 : decode cX9_tries 72 = .ok (.getfield 52, 3) := by decide +kernel
theorem dX9_tries_75 : decode cX9_tries 75 = .ok (.getfield 61, 3) := by decide +kernel
theorem dX9_tries_78 : decode cX9_tries 78 = .ok (.if_icmp .ge 23, 3) := by decide +kernel
theorem dX9_tries_81 : decode cX9_tries 81 = .ok (.aload_n 0, 1) := by decide +kernel
theorem dX9_tries_82 : decode cX9_tries 82 = .ok (.aload_n 1, 1) := by decide +kernel
theorem dX9_tries_83 : decode cX9_tries 83 = .ok (.aload_n 1, 1) := by decide +kernel
theorem dX9_tries_84 : decode cX9_tries 84 = .ok (.getfield 52, 3) := by decide +kernel
theorem dX9_tries_87 : decode cX9_tries 87 = .ok (.getfield 64, 3) := by decide +kernel
theorem dX9_tries_90 : decode cX9_tries 90 = .ok (.iload_n 2, 1) := by decide +kernel
theorem dX9_tries_91 : decode cX9_tries 91 = .ok (.iaload, 1) := by decide +kernel
theorem dX9_tries_92 : decode cX9_tries 92 = .ok (.invokevirtual 71, 3) := by decide +kernel
theorem dX9_tries_95 : decode cX9_tries 95 = .ok (.iinc 2 1, 3) := by decide +kernel
theorem dX9_tries_98 : decode cX9_tries 98 = .ok (.goto (-28), 3) := by decide +kernel
theorem dX9_tries_101 : decode cX9_tries 101 = .ok (.aload_n 1, 1) := by decide +kernel
theorem dX9_tries_102 : decode cX9_tries 102 = .ok (.getfield 52, 3) := by decide +kernel
theorem dX9_tries_105 : decode cX9_tries 105 = .ok (.invokevirtual 74, 3) := by decide +kernel
theorem dX9_tries_108 : decode cX9_tries 108 = .ok (.aload_n 0, 1) := by decide +kernel
theorem dX9_tries_109 : decode cX9_tries 109 = .ok (.aload_n 1, 1) := by decide +kernel
theorem dX9_tries_110 : decode cX9_tries 110 = .ok (.invokevirtual 77, 3) := by decide +kernel
theorem dX9_tries_113 : decode cX9_tries 113 = .ok (.ifCond .eq 11, 3) := by decide +kernel
theorem dX9_tries_116 : decode cX9_tries 116 = .ok (.aload_n 0, 1) := by decide +kernel
theorem dX9_tries_117 : decode cX9_tries 117 = .ok (.aload_n 1, 1) := by decide +kernel
theorem dX9_tries_118 : decode cX9_tries 118 = .ok (.invokevirtual 81, 3) := by decide +kernel
theorem dX9_tries_121 : decode cX9_tries 121 = .ok (.goto 8, 3) := by decide +kernel
theorem dX9_tries_124 : decode cX9_tries 124 = .ok (.aload_n 0, 1) := by decide +kernel
theorem dX9_tries_125 : decode cX9_tries 125 = .ok (.aload_n 1, 1) := by decide +kernel
theorem dX9_tries_126 : decode cX9_tries 126 = .ok (.invokevirtual 85, 3) := by decide +kernel
theorem dX9_tries_129 : decode cX9_tries 129 = .ok (.return_, 1) := by decide +kernel
theorem dX9_paints_0 : decode cX9_paints 0 = .ok (.aload_n 0, 1) := by decide +kernel
theorem dX9_paints_1 : decode cX9_paints 1 = .ok (.getfield 9, 3) := by decide +kernel
theorem dX9_paints_4 : decode cX9_paints 4 = .ok (.iload_n 1, 1) := by decide +kernel
theorem dX9_paints_5 : decode cX9_paints 5 = .ok (.iload_n 2, 1) := by decide +kernel
theorem dX9_paints_6 : decode cX9_paints 6 = .ok (.iastore, 1) := by decide +kernel
theorem dX9_paints_7 : decode cX9_paints 7 = .ok (.aload_n 0, 1) := by decide +kernel
theorem dX9_paints_8 : decode cX9_paints 8 = .ok (.dup, 1) := by decide +kernel
theorem dX9_paints_9 : decode cX9_paints 9 = .ok (.getfield 31, 3) := by decide +kernel
theorem dX9_paints_12 : decode cX9_paints 12 = .ok (.iconst 1, 1) := by decide +kernel
theorem dX9_paints_13 : decode cX9_paints 13 = .ok (.iadd, 1) := by decide +kernel
theorem dX9_paints_14 : decode cX9_paints 14 = .ok (.putfield 31, 3) := by decide +kernel
theorem dX9_paints_17 : decode cX9_paints 17 = .ok (.return_, 1) := by decide +kernel
theorem dX9_takesAway_0 : decode cX9_takesAway 0 = .ok (.aload_n 0, 1) := by decide +kernel
theorem dX9_takesAway_1 : decode cX9_takesAway 1 = .ok (.getfield 9, 3) := by decide +kernel
theorem dX9_takesAway_4 : decode cX9_takesAway 4 = .ok (.iload_n 2, 1) := by decide +kernel
theorem dX9_takesAway_5 : decode cX9_takesAway 5 = .ok (.iaload, 1) := by decide +kernel
theorem dX9_takesAway_6 : decode cX9_takesAway 6 = .ok (.iconst 1, 1) := by decide +kernel
theorem dX9_takesAway_7 : decode cX9_takesAway 7 = .ok (.if_icmp .eq 11, 3) := by decide +kernel
theorem dX9_takesAway_10 : decode cX9_takesAway 10 = .ok (.aload_n 0, 1) := by decide +kernel
theorem dX9_takesAway_11 : decode cX9_takesAway 11 = .ok (.aload_n 1, 1) := by decide +kernel
theorem dX9_takesAway_12 : decode cX9_takesAway 12 = .ok (.iload_n 2, 1) := by decide +kernel
theorem dX9_takesAway_13 : decode cX9_takesAway 13 = .ok (.iconst 1, 1) := by decide +kernel
theorem dX9_takesAway_14 : decode cX9_takesAway 14 = .ok (.iconst (-1), 1) := by decide +kernel
theorem dX9_takesAway_15 : decode cX9_takesAway 15 = .ok (.invokevirtual 88, 3) := by decide +kernel
theorem dX9_takesAway_18 : decode cX9_takesAway 18 = .ok (.return_, 1) := by decide +kernel
theorem dX9_spreads_0 : decode cX9_spreads 0 = .ok (.iconst 1, 1) := by decide +kernel
theorem dX9_spreads_1 : decode cX9_spreads 1 = .ok (.istore 5, 2) := by decide +kernel
theorem dX9_spreads_3 : decode cX9_spreads 3 = .ok (.aload_n 0, 1) := by decide +kernel
theorem dX9_spreads_4 : decode cX9_spreads 4 = .ok (.getfield 18, 3) := by decide +kernel
theorem dX9_spreads_7 : decode cX9_spreads 7 = .ok (.iconst 0, 1) := by decide +kernel
theorem dX9_spreads_8 : decode cX9_spreads 8 = .ok (.iload_n 2, 1) := by decide +kernel
theorem dX9_spreads_9 : decode cX9_spreads 9 = .ok (.iastore, 1) := by decide +kernel
theorem dX9_spreads_10 : decode cX9_spreads 10 = .ok (.aload_n 0, 1) := by decide +kernel
theorem dX9_spreads_11 : decode cX9_spreads 11 = .ok (.iload_n 2, 1) := by decide +kernel
theorem dX9_spreads_12 : decode cX9_spreads 12 = .ok (.iload_n 3, 1) := by decide +kernel
theorem dX9_spreads_13 : decode cX9_spreads 13 = .ok (.invokevirtual 92, 3) := by decide +kernel
theorem dX9_spreads_16 : decode cX9_spreads 16 = .ok (.iconst 0, 1) := by decide +kernel
theorem dX9_spreads_17 : decode cX9_spreads 17 = .ok (.istore 6, 2) := by decide +kernel
theorem dX9_spreads_19 : decode cX9_spreads 19 = .ok (.iload 6, 2) := by decide +kernel
theorem dX9_spreads_21 : decode cX9_spreads 21 = .ok (.iload 5, 2) := by decide +kernel
theorem dX9_spreads_23 : decode cX9_spreads 23 = .ok (.if_icmp .ge 104, 3) := by decide +kernel
theorem dX9_spreads_26 : decode cX9_spreads 26 = .ok (.iload 6, 2) := by decide +kernel
theorem dX9_spreads_28 : decode cX9_spreads 28 = .ok (.bipush 24, 2) := by decide +kernel
theorem dX9_spreads_30 : decode cX9_spreads 30 = .ok (.if_icmp .ge 97, 3) := by decide +kernel
theorem dX9_spreads_33 : decode cX9_spreads 33 = .ok (.iconst 0, 1) := by decide +kernel
theorem dX9_spreads_34 : decode cX9_spreads 34 = .ok (.istore 7, 2) := by decide +kernel
theorem dX9_spreads_36 : decode cX9_spreads 36 = .ok (.iload 7, 2) := by decide +kernel
theorem dX9_spreads_38 : decode cX9_spreads 38 = .ok (.iconst 4, 1) := by decide +kernel
theorem dX9_spreads_39 : decode cX9_spreads 39 = .ok (.if_icmp .ge 82, 3) := by decide +kernel
theorem dX9_spreads_42 : decode cX9_spreads 42 = .ok (.aload_n 1, 1) := by decide +kernel
theorem dX9_spreads_43 : decode cX9_spreads 43 = .ok (.aload_n 0, 1) := by decide +kernel
theorem dX9_spreads_44 : decode cX9_spreads 44 = .ok (.getfield 18, 3) := by decide +kernel
theorem dX9_spreads_47 : decode cX9_spreads 47 = .ok (.iload 6, 2) := by decide +kernel
theorem dX9_spreads_49 : decode cX9_spreads 49 = .ok (.iaload, 1) := by decide +kernel
theorem dX9_spreads_50 : decode cX9_spreads 50 = .ok (.iload 7, 2) := by decide +kernel
theorem dX9_spreads_52 : decode cX9_spreads 52 = .ok (.invokevirtual 96, 3) := by decide +kernel
theorem dX9_spreads_55 : decode cX9_spreads 55 = .ok (.istore 8, 2) := by decide +kernel
theorem dX9_spreads_57 : decode cX9_spreads 57 = .ok (.iload 8, 2) := by decide +kernel
theorem dX9_spreads_59 : decode cX9_spreads 59 = .ok (.iconst (-1), 1) := by decide +kernel
theorem dX9_spreads_60 : decode cX9_spreads 60 = .ok (.if_icmp .ne 6, 3) := by decide +kernel
theorem dX9_spreads_63 : decode cX9_spreads 63 = .ok (.goto 52, 3) := by decide +kernel
theorem dX9_spreads_66 : decode cX9_spreads 66 = .ok (.aload_n 1, 1) := by decide +kernel
theorem dX9_spreads_67 : decode cX9_spreads 67 = .ok (.getfield 41, 3) := by decide +kernel
theorem dX9_spreads_70 : decode cX9_spreads 70 = .ok (.iload 8, 2) := by decide +kernel
theorem dX9_spreads_72 : decode cX9_spreads 72 = .ok (.dup2, 1) := by decide +kernel
theorem dX9_spreads_73 : decode cX9_spreads 73 = .ok (.iaload, 1) := by decide +kernel
theorem dX9_spreads_74 : decode cX9_spreads 74 = .ok (.iload 4, 2) := by decide +kernel
theorem dX9_spreads_76 : decode cX9_spreads 76 = .ok (.iadd, 1) := by decide +kernel
theorem dX9_spreads_77 : decode cX9_spreads 77 = .ok (.iastore, 1) := by decide +kernel
theorem dX9_spreads_78 : decode cX9_spreads 78 = .ok (.aload_n 0, 1) := by decide +kernel
theorem dX9_spreads_79 : decode cX9_spreads 79 = .ok (.getfield 9, 3) := by decide +kernel
theorem dX9_spreads_82 : decode cX9_spreads 82 = .ok (.iload 8, 2) := by decide +kernel
theorem dX9_spreads_84 : decode cX9_spreads 84 = .ok (.iaload, 1) := by decide +kernel
theorem dX9_spreads_85 : decode cX9_spreads 85 = .ok (.iload_n 3, 1) := by decide +kernel
theorem dX9_spreads_86 : decode cX9_spreads 86 = .ok (.if_icmp .eq 29, 3) := by decide +kernel
theorem dX9_spreads_89 : decode cX9_spreads 89 = .ok (.iload 5, 2) := by decide +kernel
theorem dX9_spreads_91 : decode cX9_spreads 91 = .ok (.bipush 24, 2) := by decide +kernel
theorem dX9_spreads_93 : decode cX9_spreads 93 = .ok (.if_icmp .ge 22, 3) := by decide +kernel
theorem dX9_spreads_96 : decode cX9_spreads 96 = .ok (.aload_n 0, 1) := by decide +kernel
theorem dX9_spreads_97 : decode cX9_spreads 97 = .ok (.getfield 18, 3) := by decide +kernel
theorem dX9_spreads_100 : decode cX9_spreads 100 = .ok (.iload 5, 2) := by decide +kernel
theorem dX9_spreads_102 : decode cX9_spreads 102 = .ok (.iload 8, 2) := by decide +kernel
theorem dX9_spreads_104 : decode cX9_spreads 104 = .ok (.iastore, 1) := by decide +kernel
theorem dX9_spreads_105 : decode cX9_spreads 105 = .ok (.iinc 5 1, 3) := by decide +kernel
theorem dX9_spreads_108 : decode cX9_spreads 108 = .ok (.aload_n 0, 1) := by decide +kernel
theorem dX9_spreads_109 : decode cX9_spreads 109 = .ok (.iload 8, 2) := by decide +kernel
theorem dX9_spreads_111 : decode cX9_spreads 111 = .ok (.iload_n 3, 1) := by decide +kernel
theorem dX9_spreads_112 : decode cX9_spreads 112 = .ok (.invokevirtual 92, 3) := by decide +kernel
theorem dX9_spreads_115 : decode cX9_spreads 115 = .ok (.iinc 7 1, 3) := by decide +kernel
theorem dX9_spreads_118 : decode cX9_spreads 118 = .ok (.goto (-82), 3) := by decide +kernel
theorem dX9_spreads_121 : decode cX9_spreads 121 = .ok (.iinc 6 1, 3) := by decide +kernel
theorem dX9_spreads_124 : decode cX9_spreads 124 = .ok (.goto (-105), 3) := by decide +kernel
theorem dX9_spreads_127 : decode cX9_spreads 127 = .ok (.return_, 1) := by decide +kernel
theorem dX9_looksThrough_0 : decode cX9_looksThrough 0 = .ok (.aload_n 0, 1) := by decide +kernel
theorem dX9_looksThrough_1 : decode cX9_looksThrough 1 = .ok (.iconst 0, 1) := by decide +kernel
theorem dX9_looksThrough_2 : decode cX9_looksThrough 2 = .ok (.putfield 100, 3) := by decide +kernel
theorem dX9_looksThrough_5 : decode cX9_looksThrough 5 = .ok (.aload_n 0, 1) := by decide +kernel
theorem dX9_looksThrough_6 : decode cX9_looksThrough 6 = .ok (.aload_n 1, 1) := by decide +kernel
theorem dX9_looksThrough_7 : decode cX9_looksThrough 7 = .ok (.iload_n 2, 1) := by decide +kernel
theorem dX9_looksThrough_8 : decode cX9_looksThrough 8 = .ok (.invokevirtual 103, 3) := by decide +kernel
theorem dX9_looksThrough_11 : decode cX9_looksThrough 11 = .ok (.iconst 0, 1) := by decide +kernel
theorem dX9_looksThrough_12 : decode cX9_looksThrough 12 = .ok (.istore_n 3, 1) := by decide +kernel
theorem dX9_looksThrough_13 : decode cX9_looksThrough 13 = .ok (.iload_n 3, 1) := by decide +kernel
theorem dX9_looksThrough_14 : decode cX9_looksThrough 14 = .ok (.ldc 106, 2) := by decide +kernel
theorem dX9_looksThrough_16 : decode cX9_looksThrough 16 = .ok (.if_icmp .ge 89, 3) := by decide +kernel
theorem dX9_looksThrough_19 : decode cX9_looksThrough 19 = .ok (.aload_n 0, 1) := by decide +kernel
theorem dX9_looksThrough_20 : decode cX9_looksThrough 20 = .ok (.getfield 100, 3) := by decide +kernel
theorem dX9_looksThrough_23 : decode cX9_looksThrough 23 = .ok (.ifCond .le 82, 3) := by decide +kernel
theorem dX9_looksThrough_26 : decode cX9_looksThrough 26 = .ok (.aload_n 0, 1) := by decide +kernel
theorem dX9_looksThrough_27 : decode cX9_looksThrough 27 = .ok (.getfield 21, 3) := by decide +kernel
theorem dX9_looksThrough_30 : decode cX9_looksThrough 30 = .ok (.aload_n 0, 1) := by decide +kernel
theorem dX9_looksThrough_31 : decode cX9_looksThrough 31 = .ok (.getfield 100, 3) := by decide +kernel
theorem dX9_looksThrough_34 : decode cX9_looksThrough 34 = .ok (.iconst 1, 1) := by decide +kernel
theorem dX9_looksThrough_35 : decode cX9_looksThrough 35 = .ok (.isub, 1) := by decide +kernel
theorem dX9_looksThrough_36 : decode cX9_looksThrough 36 = .ok (.iaload, 1) := by decide +kernel
theorem dX9_looksThrough_37 : decode cX9_looksThrough 37 = .ok (.istore 4, 2) := by decide +kernel
theorem dX9_looksThrough_39 : decode cX9_looksThrough 39 = .ok (.aload_n 0, 1) := by decide +kernel
theorem dX9_looksThrough_40 : decode cX9_looksThrough 40 = .ok (.getfield 24, 3) := by decide +kernel
theorem dX9_looksThrough_43 : decode cX9_looksThrough 43 = .ok (.aload_n 0, 1) := by decide +kernel
theorem dX9_looksThrough_44 : decode cX9_looksThrough 44 = .ok (.getfield 100, 3) := by decide +kernel
theorem dX9_looksThrough_47 : decode cX9_looksThrough 47 = .ok (.iconst 1, 1) := by decide +kernel
theorem dX9_looksThrough_48 : decode cX9_looksThrough 48 = .ok (.isub, 1) := by decide +kernel
theorem dX9_looksThrough_49 : decode cX9_looksThrough 49 = .ok (.iaload, 1) := by decide +kernel
theorem dX9_looksThrough_50 : decode cX9_looksThrough 50 = .ok (.istore 5, 2) := by decide +kernel
theorem dX9_looksThrough_52 : decode cX9_looksThrough 52 = .ok (.iload 5, 2) := by decide +kernel
theorem dX9_looksThrough_54 : decode cX9_looksThrough 54 = .ok (.iconst 4, 1) := by decide +kernel
theorem dX9_looksThrough_55 : decode cX9_looksThrough 55 = .ok (.if_icmp .ge 34, 3) := by decide +kernel
theorem dX9_looksThrough_58 : decode cX9_looksThrough 58 = .ok (.aload_n 0, 1) := by decide +kernel
theorem dX9_looksThrough_59 : decode cX9_looksThrough 59 = .ok (.getfield 24, 3) := by decide +kernel
theorem dX9_looksThrough_62 : decode cX9_looksThrough 62 = .ok (.aload_n 0, 1) := by decide +kernel
theorem dX9_looksThrough_63 : decode cX9_looksThrough 63 = .ok (.getfield 100, 3) := by decide +kernel
theorem dX9_looksThrough_66 : decode cX9_looksThrough 66 = .ok (.iconst 1, 1) := by decide +kernel
theorem dX9_looksThrough_67 : decode cX9_looksThrough 67 = .ok (.isub, 1) := by decide +kernel
theorem dX9_looksThrough_68 : decode cX9_looksThrough 68 = .ok (.dup2, 1) := by decide +kernel
theorem dX9_looksThrough_69 : decode cX9_looksThrough 69 = .ok (.iaload, 1) := by decide +kernel
theorem dX9_looksThrough_70 : decode cX9_looksThrough 70 = .ok (.iconst 1, 1) := by decide +kernel
theorem dX9_looksThrough_71 : decode cX9_looksThrough 71 = .ok (.iadd, 1) := by decide +kernel
theorem dX9_looksThrough_72 : decode cX9_looksThrough 72 = .ok (.iastore, 1) := by decide +kernel
theorem dX9_looksThrough_73 : decode cX9_looksThrough 73 = .ok (.aload_n 0, 1) := by decide +kernel
theorem dX9_looksThrough_74 : decode cX9_looksThrough 74 = .ok (.aload_n 1, 1) := by decide +kernel
theorem dX9_looksThrough_75 : decode cX9_looksThrough 75 = .ok (.aload_n 1, 1) := by decide +kernel
theorem dX9_looksThrough_76 : decode cX9_looksThrough 76 = .ok (.iload 4, 2) := by decide +kernel
theorem dX9_looksThrough_78 : decode cX9_looksThrough 78 = .ok (.iload 5, 2) := by decide +kernel
theorem dX9_looksThrough_80 : decode cX9_looksThrough 80 = .ok (.invokevirtual 96, 3) := by decide +kernel
theorem dX9_looksThrough_83 : decode cX9_looksThrough 83 = .ok (.invokevirtual 103, 3) := by decide +kernel
theorem dX9_looksThrough_86 : decode cX9_looksThrough 86 = .ok (.goto 13, 3) := by decide +kernel
theorem dX9_looksThrough_89 : decode cX9_looksThrough 89 = .ok (.aload_n 0, 1) := by decide +kernel
theorem dX9_looksThrough_90 : decode cX9_looksThrough 90 = .ok (.dup, 1) := by decide +kernel
theorem dX9_looksThrough_91 : decode cX9_looksThrough 91 = .ok (.getfield 100, 3) := by decide +kernel
theorem dX9_looksThrough_94 : decode cX9_looksThrough 94 = .ok (.iconst 1, 1) := by decide +kernel
theorem dX9_looksThrough_95 : decode cX9_looksThrough 95 = .ok (.isub, 1) := by decide +kernel
theorem dX9_looksThrough_96 : decode cX9_looksThrough 96 = .ok (.putfield 100, 3) := by decide +kernel
theorem dX9_looksThrough_99 : decode cX9_looksThrough 99 = .ok (.iinc 3 1, 3) := by decide +kernel
theorem dX9_looksThrough_102 : decode cX9_looksThrough 102 = .ok (.goto (-89), 3) := by decide +kernel
theorem dX9_looksThrough_105 : decode cX9_looksThrough 105 = .ok (.return_, 1) := by decide +kernel
theorem dX9_looksAt_0 : decode cX9_looksAt 0 = .ok (.iload_n 2, 1) := by decide +kernel
theorem dX9_looksAt_1 : decode cX9_looksAt 1 = .ok (.iconst (-1), 1) := by decide +kernel
theorem dX9_looksAt_2 : decode cX9_looksAt 2 = .ok (.if_icmp .eq 13, 3) := by decide +kernel
theorem dX9_looksAt_5 : decode cX9_looksAt 5 = .ok (.aload_n 0, 1) := by decide +kernel
theorem dX9_looksAt_6 : decode cX9_looksAt 6 = .ok (.getfield 9, 3) := by decide +kernel
theorem dX9_looksAt_9 : decode cX9_looksAt 9 = .ok (.iload_n 2, 1) := by decide +kernel
theorem dX9_looksAt_10 : decode cX9_looksAt 10 = .ok (.iaload, 1) := by decide +kernel
theorem dX9_looksAt_11 : decode cX9_looksAt 11 = .ok (.iconst 1, 1) := by decide +kernel
theorem dX9_looksAt_12 : decode cX9_looksAt 12 = .ok (.if_icmp .eq 4, 3) := by decide +kernel
theorem dX9_looksAt_15 : decode cX9_looksAt 15 = .ok (.return_, 1) := by decide +kernel
theorem dX9_looksAt_16 : decode cX9_looksAt 16 = .ok (.aload_n 1, 1) := by decide +kernel
theorem dX9_looksAt_17 : decode cX9_looksAt 17 = .ok (.getfield 41, 3) := by decide +kernel
theorem dX9_looksAt_20 : decode cX9_looksAt 20 = .ok (.iload_n 2, 1) := by decide +kernel
theorem dX9_looksAt_21 : decode cX9_looksAt 21 = .ok (.iaload, 1) := by decide +kernel
theorem dX9_looksAt_22 : decode cX9_looksAt 22 = .ok (.ifCond .le 14, 3) := by decide +kernel
theorem dX9_looksAt_25 : decode cX9_looksAt 25 = .ok (.aload_n 0, 1) := by decide +kernel
theorem dX9_looksAt_26 : decode cX9_looksAt 26 = .ok (.aload_n 1, 1) := by decide +kernel
theorem dX9_looksAt_27 : decode cX9_looksAt 27 = .ok (.iload_n 2, 1) := by decide +kernel
theorem dX9_looksAt_28 : decode cX9_looksAt 28 = .ok (.iconst 3, 1) := by decide +kernel
theorem dX9_looksAt_29 : decode cX9_looksAt 29 = .ok (.iconst 1, 1) := by decide +kernel
theorem dX9_looksAt_30 : decode cX9_looksAt 30 = .ok (.invokevirtual 88, 3) := by decide +kernel
theorem dX9_looksAt_33 : decode cX9_looksAt 33 = .ok (.goto 48, 3) := by decide +kernel
theorem dX9_looksAt_36 : decode cX9_looksAt 36 = .ok (.aload_n 0, 1) := by decide +kernel
theorem dX9_looksAt_37 : decode cX9_looksAt 37 = .ok (.getfield 100, 3) := by decide +kernel
theorem dX9_looksAt_40 : decode cX9_looksAt 40 = .ok (.bipush 24, 2) := by decide +kernel
theorem dX9_looksAt_42 : decode cX9_looksAt 42 = .ok (.if_icmp .ge 39, 3) := by decide +kernel
theorem dX9_looksAt_45 : decode cX9_looksAt 45 = .ok (.aload_n 0, 1) := by decide +kernel
theorem dX9_looksAt_46 : decode cX9_looksAt 46 = .ok (.iload_n 2, 1) := by decide +kernel
theorem dX9_looksAt_47 : decode cX9_looksAt 47 = .ok (.iconst 2, 1) := by decide +kernel
theorem dX9_looksAt_48 : decode cX9_looksAt 48 = .ok (.invokevirtual 92, 3) := by decide +kernel
theorem dX9_looksAt_51 : decode cX9_looksAt 51 = .ok (.aload_n 0, 1) := by decide +kernel
theorem dX9_looksAt_52 : decode cX9_looksAt 52 = .ok (.getfield 21, 3) := by decide +kernel
theorem dX9_looksAt_55 : decode cX9_looksAt 55 = .ok (.aload_n 0, 1) := by decide +kernel
theorem dX9_looksAt_56 : decode cX9_looksAt 56 = .ok (.getfield 100, 3) := by decide +kernel
theorem dX9_looksAt_59 : decode cX9_looksAt 59 = .ok (.iload_n 2, 1) := by decide +kernel
theorem dX9_looksAt_60 : decode cX9_looksAt 60 = .ok (.iastore, 1) := by decide +kernel
theorem dX9_looksAt_61 : decode cX9_looksAt 61 = .ok (.aload_n 0, 1) := by decide +kernel
theorem dX9_looksAt_62 : decode cX9_looksAt 62 = .ok (.getfield 24, 3) := by decide +kernel
theorem dX9_looksAt_65 : decode cX9_looksAt 65 = .ok (.aload_n 0, 1) := by decide +kernel
theorem dX9_looksAt_66 : decode cX9_looksAt 66 = .ok (.getfield 100, 3) := by decide +kernel
theorem dX9_looksAt_69 : decode cX9_looksAt 69 = .ok (.iconst 0, 1) := by decide +kernel
theorem dX9_looksAt_70 : decode cX9_looksAt 70 = .ok (.iastore, 1) := by decide +kernel
theorem dX9_looksAt_71 : decode cX9_looksAt 71 = .ok (.aload_n 0, 1) := by decide +kernel
theorem dX9_looksAt_72 : decode cX9_looksAt 72 = .ok (.dup, 1) := by decide +kernel
theorem dX9_looksAt_73 : decode cX9_looksAt 73 = .ok (.getfield 100, 3) := by decide +kernel
theorem dX9_looksAt_76 : decode cX9_looksAt 76 = .ok (.iconst 1, 1) := by decide +kernel
theorem dX9_looksAt_77 : decode cX9_looksAt 77 = .ok (.iadd, 1) := by decide +kernel
theorem dX9_looksAt_78 : decode cX9_looksAt 78 = .ok (.putfield 100, 3) := by decide +kernel
theorem dX9_looksAt_81 : decode cX9_looksAt 81 = .ok (.return_, 1) := by decide +kernel
theorem dX9_hasWhiteEnd_0 : decode cX9_hasWhiteEnd 0 = .ok (.iconst 0, 1) := by decide +kernel
theorem dX9_hasWhiteEnd_1 : decode cX9_hasWhiteEnd 1 = .ok (.istore_n 2, 1) := by decide +kernel
theorem dX9_hasWhiteEnd_2 : decode cX9_hasWhiteEnd 2 = .ok (.iload_n 2, 1) := by decide +kernel
theorem dX9_hasWhiteEnd_3 : decode cX9_hasWhiteEnd 3 = .ok (.bipush 24, 2) := by decide +kernel
theorem dX9_hasWhiteEnd_5 : decode cX9_hasWhiteEnd 5 = .ok (.if_icmp .ge 29, 3) := by decide +kernel
theorem dX9_hasWhiteEnd_8 : decode cX9_hasWhiteEnd 8 = .ok (.aload_n 0, 1) := by decide +kernel
theorem dX9_hasWhiteEnd_9 : decode cX9_hasWhiteEnd 9 = .ok (.getfield 9, 3) := by decide +kernel
theorem dX9_hasWhiteEnd_12 : decode cX9_hasWhiteEnd 12 = .ok (.iload_n 2, 1) := by decide +kernel
theorem dX9_hasWhiteEnd_13 : decode cX9_hasWhiteEnd 13 = .ok (.iaload, 1) := by decide +kernel
theorem dX9_hasWhiteEnd_14 : decode cX9_hasWhiteEnd 14 = .ok (.iconst 2, 1) := by decide +kernel
theorem dX9_hasWhiteEnd_15 : decode cX9_hasWhiteEnd 15 = .ok (.if_icmp .ne 13, 3) := by decide +kernel
theorem dX9_hasWhiteEnd_18 : decode cX9_hasWhiteEnd 18 = .ok (.aload_n 1, 1) := by decide +kernel
theorem dX9_hasWhiteEnd_19 : decode cX9_hasWhiteEnd 19 = .ok (.iload_n 2, 1) := by decide +kernel
theorem dX9_hasWhiteEnd_20 : decode cX9_hasWhiteEnd 20 = .ok (.invokevirtual 107, 3) := by decide +kernel
theorem dX9_hasWhiteEnd_23 : decode cX9_hasWhiteEnd 23 = .ok (.ifCond .eq 5, 3) := by decide +kernel
theorem dX9_hasWhiteEnd_26 : decode cX9_hasWhiteEnd 26 = .ok (.iconst 1, 1) := by decide +kernel
theorem dX9_hasWhiteEnd_27 : decode cX9_hasWhiteEnd 27 = .ok (.ireturn, 1) := by decide +kernel
theorem dX9_hasWhiteEnd_28 : decode cX9_hasWhiteEnd 28 = .ok (.iinc 2 1, 3) := by decide +kernel
theorem dX9_hasWhiteEnd_31 : decode cX9_hasWhiteEnd 31 = .ok (.goto (-29), 3) := by decide +kernel
theorem dX9_hasWhiteEnd_34 : decode cX9_hasWhiteEnd 34 = .ok (.iconst 0, 1) := by decide +kernel
theorem dX9_hasWhiteEnd_35 : decode cX9_hasWhiteEnd 35 = .ok (.ireturn, 1) := by decide +kernel
theorem dX9_frees_0 : decode cX9_frees 0 = .ok (.iconst 0, 1) := by decide +kernel
theorem dX9_frees_1 : decode cX9_frees 1 = .ok (.istore_n 2, 1) := by decide +kernel
theorem dX9_frees_2 : decode cX9_frees 2 = .ok (.iload_n 2, 1) := by decide +kernel
theorem dX9_frees_3 : decode cX9_frees 3 = .ok (.bipush 24, 2) := by decide +kernel
theorem dX9_frees_5 : decode cX9_frees 5 = .ok (.if_icmp .ge 38, 3) := by decide +kernel
theorem dX9_frees_8 : decode cX9_frees 8 = .ok (.aload_n 0, 1) := by decide +kernel
theorem dX9_frees_9 : decode cX9_frees 9 = .ok (.getfield 9, 3) := by decide +kernel
theorem dX9_frees_12 : decode cX9_frees 12 = .ok (.iload_n 2, 1) := by decide +kernel
theorem dX9_frees_13 : decode cX9_frees 13 = .ok (.iaload, 1) := by decide +kernel
theorem dX9_frees_14 : decode cX9_frees 14 = .ok (.iconst 2, 1) := by decide +kernel
theorem dX9_frees_15 : decode cX9_frees 15 = .ok (.if_icmp .ne 22, 3) := by decide +kernel
theorem dX9_frees_18 : decode cX9_frees 18 = .ok (.aload_n 1, 1) := by decide +kernel
theorem dX9_frees_19 : decode cX9_frees 19 = .ok (.getfield 111, 3) := by decide +kernel
theorem dX9_frees_22 : decode cX9_frees 22 = .ok (.iconst 2, 1) := by decide +kernel
theorem dX9_frees_23 : decode cX9_frees 23 = .ok (.iload_n 2, 1) := by decide +kernel
theorem dX9_frees_24 : decode cX9_frees 24 = .ok (.invokevirtual 115, 3) := by decide +kernel
theorem dX9_frees_27 : decode cX9_frees 27 = .ok (.aload_n 1, 1) := by decide +kernel
theorem dX9_frees_28 : decode cX9_frees 28 = .ok (.iload_n 2, 1) := by decide +kernel
theorem dX9_frees_29 : decode cX9_frees 29 = .ok (.invokevirtual 120, 3) := by decide +kernel
theorem dX9_frees_32 : decode cX9_frees 32 = .ok (.aload_n 1, 1) := by decide +kernel
theorem dX9_frees_33 : decode cX9_frees 33 = .ok (.iload_n 2, 1) := by decide +kernel
theorem dX9_frees_34 : decode cX9_frees 34 = .ok (.invokevirtual 124, 3) := by decide +kernel
theorem dX9_frees_37 : decode cX9_frees 37 = .ok (.iinc 2 1, 3) := by decide +kernel
theorem dX9_frees_40 : decode cX9_frees 40 = .ok (.goto (-38), 3) := by decide +kernel
theorem dX9_frees_43 : decode cX9_frees 43 = .ok (.return_, 1) := by decide +kernel
theorem dX9_runsEnds_0 : decode cX9_runsEnds 0 = .ok (.aload_n 0, 1) := by decide +kernel
theorem dX9_runsEnds_1 : decode cX9_runsEnds 1 = .ok (.getfield 15, 3) := by decide +kernel
theorem dX9_runsEnds_4 : decode cX9_runsEnds 4 = .ok (.iconst 0, 1) := by decide +kernel
theorem dX9_runsEnds_5 : decode cX9_runsEnds 5 = .ok (.aload_n 1, 1) := by decide +kernel
theorem dX9_runsEnds_6 : decode cX9_runsEnds 6 = .ok (.getfield 41, 3) := by decide +kernel
theorem dX9_runsEnds_9 : decode cX9_runsEnds 9 = .ok (.iconst 0, 1) := by decide +kernel
theorem dX9_runsEnds_10 : decode cX9_runsEnds 10 = .ok (.bipush 24, 2) := by decide +kernel
theorem dX9_runsEnds_12 : decode cX9_runsEnds 12 = .ok (.invokestatic 46, 3) := by decide +kernel
theorem dX9_runsEnds_15 : decode cX9_runsEnds 15 = .ok (.iconst 0, 1) := by decide +kernel
theorem dX9_runsEnds_16 : decode cX9_runsEnds 16 = .ok (.istore_n 2, 1) := by decide +kernel
theorem dX9_runsEnds_17 : decode cX9_runsEnds 17 = .ok (.iload_n 2, 1) := by decide +kernel
theorem dX9_runsEnds_18 : decode cX9_runsEnds 18 = .ok (.bipush 24, 2) := by decide +kernel
theorem dX9_runsEnds_20 : decode cX9_runsEnds 20 = .ok (.if_icmp .ge 44, 3) := by decide +kernel
theorem dX9_runsEnds_23 : decode cX9_runsEnds 23 = .ok (.aload_n 0, 1) := by decide +kernel
theorem dX9_runsEnds_24 : decode cX9_runsEnds 24 = .ok (.getfield 9, 3) := by decide +kernel
theorem dX9_runsEnds_27 : decode cX9_runsEnds 27 = .ok (.iload_n 2, 1) := by decide +kernel
theorem dX9_runsEnds_28 : decode cX9_runsEnds 28 = .ok (.iaload, 1) := by decide +kernel
theorem dX9_runsEnds_29 : decode cX9_runsEnds 29 = .ok (.iconst 2, 1) := by decide +kernel
theorem dX9_runsEnds_30 : decode cX9_runsEnds 30 = .ok (.if_icmp .ne 28, 3) := by decide +kernel
theorem dX9_runsEnds_33 : decode cX9_runsEnds 33 = .ok (.aload_n 1, 1) := by decide +kernel
theorem dX9_runsEnds_34 : decode cX9_runsEnds 34 = .ok (.iload_n 2, 1) := by decide +kernel
theorem dX9_runsEnds_35 : decode cX9_runsEnds 35 = .ok (.invokevirtual 107, 3) := by decide +kernel
theorem dX9_runsEnds_38 : decode cX9_runsEnds 38 = .ok (.ifCond .eq 20, 3) := by decide +kernel
theorem dX9_runsEnds_41 : decode cX9_runsEnds 41 = .ok (.aload_n 0, 1) := by decide +kernel
theorem dX9_runsEnds_42 : decode cX9_runsEnds 42 = .ok (.getfield 27, 3) := by decide +kernel
theorem dX9_runsEnds_45 : decode cX9_runsEnds 45 = .ok (.aload_n 1, 1) := by decide +kernel
theorem dX9_runsEnds_46 : decode cX9_runsEnds 46 = .ok (.aload_n 0, 1) := by decide +kernel
theorem dX9_runsEnds_47 : decode cX9_runsEnds 47 = .ok (.getfield 27, 3) := by decide +kernel
theorem dX9_runsEnds_50 : decode cX9_runsEnds 50 = .ok (.aload_n 1, 1) := by decide +kernel
theorem dX9_runsEnds_51 : decode cX9_runsEnds 51 = .ok (.iload_n 2, 1) := by decide +kernel
theorem dX9_runsEnds_52 : decode cX9_runsEnds 52 = .ok (.invokevirtual 127, 3) := by decide +kernel
theorem dX9_runsEnds_55 : decode cX9_runsEnds 55 = .ok (.invokevirtual 133, 3) := by decide +kernel
theorem dX9_runsEnds_58 : decode cX9_runsEnds 58 = .ok (.iinc 2 1, 3) := by decide +kernel
theorem dX9_runsEnds_61 : decode cX9_runsEnds 61 = .ok (.goto (-44), 3) := by decide +kernel
theorem dX9_runsEnds_64 : decode cX9_runsEnds 64 = .ok (.iconst 0, 1) := by decide +kernel
theorem dX9_runsEnds_65 : decode cX9_runsEnds 65 = .ok (.istore_n 2, 1) := by decide +kernel
theorem dX9_runsEnds_66 : decode cX9_runsEnds 66 = .ok (.iload_n 2, 1) := by decide +kernel
theorem dX9_runsEnds_67 : decode cX9_runsEnds 67 = .ok (.bipush 24, 2) := by decide +kernel
theorem dX9_runsEnds_69 : decode cX9_runsEnds 69 = .ok (.if_icmp .ge 58, 3) := by decide +kernel
theorem dX9_runsEnds_72 : decode cX9_runsEnds 72 = .ok (.aload_n 0, 1) := by decide +kernel
theorem dX9_runsEnds_73 : decode cX9_runsEnds 73 = .ok (.getfield 9, 3) := by decide +kernel
theorem dX9_runsEnds_76 : decode cX9_runsEnds 76 = .ok (.iload_n 2, 1) := by decide +kernel
theorem dX9_runsEnds_77 : decode cX9_runsEnds 77 = .ok (.iaload, 1) := by decide +kernel
theorem dX9_runsEnds_78 : decode cX9_runsEnds 78 = .ok (.iconst 2, 1) := by decide +kernel
theorem dX9_runsEnds_79 : decode cX9_runsEnds 79 = .ok (.if_icmp .ne 42, 3) := by decide +kernel
theorem dX9_runsEnds_82 : decode cX9_runsEnds 82 = .ok (.aload_n 1, 1) := by decide +kernel
theorem dX9_runsEnds_83 : decode cX9_runsEnds 83 = .ok (.iload_n 2, 1) := by decide +kernel
theorem dX9_runsEnds_84 : decode cX9_runsEnds 84 = .ok (.invokevirtual 136, 3) := by decide +kernel
theorem dX9_runsEnds_87 : decode cX9_runsEnds 87 = .ok (.ifCond .eq 34, 3) := by decide +kernel
theorem dX9_runsEnds_90 : decode cX9_runsEnds 90 = .ok (.aload_n 1, 1) := by decide +kernel
theorem dX9_runsEnds_91 : decode cX9_runsEnds 91 = .ok (.getfield 139, 3) := by decide +kernel
theorem dX9_runsEnds_94 : decode cX9_runsEnds 94 = .ok (.iload_n 2, 1) := by decide +kernel
theorem dX9_runsEnds_95 : decode cX9_runsEnds 95 = .ok (.iaload, 1) := by decide +kernel
theorem dX9_runsEnds_96 : decode cX9_runsEnds 96 = .ok (.ifCond .le 25, 3) := by decide +kernel
theorem dX9_runsEnds_99 : decode cX9_runsEnds 99 = .ok (.aload_n 1, 1) := by decide +kernel
theorem dX9_runsEnds_100 : decode cX9_runsEnds 100 = .ok (.getfield 52, 3) := by decide +kernel
theorem dX9_runsEnds_103 : decode cX9_runsEnds 103 = .ok (.getfield 142, 3) := by decide +kernel
theorem dX9_runsEnds_106 : decode cX9_runsEnds 106 = .ok (.iload_n 2, 1) := by decide +kernel
theorem dX9_runsEnds_107 : decode cX9_runsEnds 107 = .ok (.invokestatic 145, 3) := by decide +kernel
theorem dX9_runsEnds_110 : decode cX9_runsEnds 110 = .ok (.ifCond .ne 11, 3) := by decide +kernel
theorem dX9_runsEnds_113 : decode cX9_runsEnds 113 = .ok (.aload_n 1, 1) := by decide +kernel
theorem dX9_runsEnds_114 : decode cX9_runsEnds 114 = .ok (.getfield 52, 3) := by decide +kernel
theorem dX9_runsEnds_117 : decode cX9_runsEnds 117 = .ok (.iload_n 2, 1) := by decide +kernel
theorem dX9_runsEnds_118 : decode cX9_runsEnds 118 = .ok (.invokevirtual 148, 3) := by decide +kernel
theorem dX9_runsEnds_121 : decode cX9_runsEnds 121 = .ok (.iinc 2 1, 3) := by decide +kernel
theorem dX9_runsEnds_124 : decode cX9_runsEnds 124 = .ok (.goto (-58), 3) := by decide +kernel
theorem dX9_runsEnds_127 : decode cX9_runsEnds 127 = .ok (.return_, 1) := by decide +kernel
theorem dX10_init_0 : decode cX10_init 0 = .ok (.aload_n 0, 1) := by decide +kernel
theorem dX10_init_1 : decode cX10_init 1 = .ok (.invokespecial 3, 3) := by decide +kernel
theorem dX10_init_4 : decode cX10_init 4 = .ok (.aload_n 0, 1) := by decide +kernel
theorem dX10_init_5 : decode cX10_init 5 = .ok (.bipush 24, 2) := by decide +kernel
theorem dX10_init_7 : decode cX10_init 7 = .ok (.newarray .int, 2) := by decide +kernel
theorem dX10_init_9 : decode cX10_init 9 = .ok (.putfield 9, 3) := by decide +kernel
theorem dX10_init_12 : decode cX10_init 12 = .ok (.return_, 1) := by decide +kernel
theorem dX10_reached_0 : decode cX10_reached 0 = .ok (.aload_n 0, 1) := by decide +kernel
theorem dX10_reached_1 : decode cX10_reached 1 = .ok (.aload_n 1, 1) := by decide +kernel
theorem dX10_reached_2 : decode cX10_reached 2 = .ok (.aload_n 1, 1) := by decide +kernel
theorem dX10_reached_3 : decode cX10_reached 3 = .ok (.iconst 0, 1) := by decide +kernel
theorem dX10_reached_4 : decode cX10_reached 4 = .ok (.invokevirtual 15, 3) := by decide +kernel
theorem dX10_reached_7 : decode cX10_reached 7 = .ok (.iconst 0, 1) := by decide +kernel
theorem dX10_reached_8 : decode cX10_reached 8 = .ok (.invokevirtual 21, 3) := by decide +kernel
theorem dX10_reached_11 : decode cX10_reached 11 = .ok (.ireturn, 1) := by decide +kernel
theorem dX10_hanging_0 : decode cX10_hanging 0 = .ok (.iconst 1, 1) := by decide +kernel
theorem dX10_hanging_1 : decode cX10_hanging 1 = .ok (.iload_n 2, 1) := by decide +kernel
theorem dX10_hanging_2 : decode cX10_hanging 2 = .ok (.ishl, 1) := by decide +kernel
theorem dX10_hanging_3 : decode cX10_hanging 3 = .ok (.istore_n 3, 1) := by decide +kernel
theorem dX10_hanging_4 : decode cX10_hanging 4 = .ok (.aload_n 0, 1) := by decide +kernel
theorem dX10_hanging_5 : decode cX10_hanging 5 = .ok (.aload_n 1, 1) := by decide +kernel
theorem dX10_hanging_6 : decode cX10_hanging 6 = .ok (.invokevirtual 25, 3) := by decide +kernel
theorem dX10_hanging_9 : decode cX10_hanging 9 = .ok (.aload_n 0, 1) := by decide +kernel
theorem dX10_hanging_10 : decode cX10_hanging 10 = .ok (.aload_n 1, 1) := by decide +kernel
theorem dX10_hanging_11 : decode cX10_hanging 11 = .ok (.aload_n 1, 1) := by decide +kernel
theorem dX10_hanging_12 : decode cX10_hanging 12 = .ok (.iconst 0, 1) := by decide +kernel
theorem dX10_hanging_13 : decode cX10_hanging 13 = .ok (.invokevirtual 15, 3) := by decide +kernel
theorem dX10_hanging_16 : decode cX10_hanging 16 = .ok (.iload_n 3, 1) := by decide +kernel
theorem dX10_hanging_17 : decode cX10_hanging 17 = .ok (.invokevirtual 21, 3) := by decide +kernel
theorem dX10_hanging_20 : decode cX10_hanging 20 = .ok (.iconst (-1), 1) := by decide +kernel
theorem dX10_hanging_21 : decode cX10_hanging 21 = .ok (.ixor, 1) := by decide +kernel
theorem dX10_hanging_22 : decode cX10_hanging 22 = .ok (.iand, 1) := by decide +kernel
theorem dX10_hanging_23 : decode cX10_hanging 23 = .ok (.ireturn, 1) := by decide +kernel
theorem dX10_spreads_0 : decode cX10_spreads 0 = .ok (.iload_n 2, 1) := by decide +kernel
theorem dX10_spreads_1 : decode cX10_spreads 1 = .ok (.iload_n 3, 1) := by decide +kernel
theorem dX10_spreads_2 : decode cX10_spreads 2 = .ok (.iconst (-1), 1) := by decide +kernel
theorem dX10_spreads_3 : decode cX10_spreads 3 = .ok (.ixor, 1) := by decide +kernel
theorem dX10_spreads_4 : decode cX10_spreads 4 = .ok (.iand, 1) := by decide +kernel
theorem dX10_spreads_5 : decode cX10_spreads 5 = .ok (.istore 4, 2) := by decide +kernel
theorem dX10_spreads_7 : decode cX10_spreads 7 = .ok (.iload 4, 2) := by decide +kernel
theorem dX10_spreads_9 : decode cX10_spreads 9 = .ok (.istore 5, 2) := by decide +kernel
theorem dX10_spreads_11 : decode cX10_spreads 11 = .ok (.iconst 0, 1) := by decide +kernel
theorem dX10_spreads_12 : decode cX10_spreads 12 = .ok (.istore 6, 2) := by decide +kernel
theorem dX10_spreads_14 : decode cX10_spreads 14 = .ok (.iload 6, 2) := by decide +kernel
theorem dX10_spreads_16 : decode cX10_spreads 16 = .ok (.bipush 24, 2) := by decide +kernel
theorem dX10_spreads_18 : decode cX10_spreads 18 = .ok (.if_icmp .ge 63, 3) := by decide +kernel
theorem dX10_spreads_21 : decode cX10_spreads 21 = .ok (.iload 5, 2) := by decide +kernel
theorem dX10_spreads_23 : decode cX10_spreads 23 = .ok (.ifCond .eq 58, 3) := by decide +kernel
theorem dX10_spreads_26 : decode cX10_spreads 26 = .ok (.iload 5, 2) := by decide +kernel
theorem dX10_spreads_28 : decode cX10_spreads 28 = .ok (.iload 5, 2) := by decide +kernel
theorem dX10_spreads_30 : decode cX10_spreads 30 = .ok (.ineg, 1) := by decide +kernel
theorem dX10_spreads_31 : decode cX10_spreads 31 = .ok (.iand, 1) := by decide +kernel
theorem dX10_spreads_32 : decode cX10_spreads 32 = .ok (.istore 7, 2) := by decide +kernel
theorem dX10_spreads_34 : decode cX10_spreads 34 = .ok (.aload_n 1, 1) := by decide +kernel
theorem dX10_spreads_35 : decode cX10_spreads 35 = .ok (.iload 7, 2) := by decide +kernel
theorem dX10_spreads_37 : decode cX10_spreads 37 = .ok (.iconst 1, 1) := by decide +kernel
theorem dX10_spreads_38 : decode cX10_spreads 38 = .ok (.isub, 1) := by decide +kernel
theorem dX10_spreads_39 : decode cX10_spreads 39 = .ok (.invokestatic 29, 3) := by decide +kernel
theorem dX10_spreads_42 : decode cX10_spreads 42 = .ok (.invokevirtual 34, 3) := by decide +kernel
theorem dX10_spreads_45 : decode cX10_spreads 45 = .ok (.iload 4, 2) := by decide +kernel
theorem dX10_spreads_47 : decode cX10_spreads 47 = .ok (.iconst (-1), 1) := by decide +kernel
theorem dX10_spreads_48 : decode cX10_spreads 48 = .ok (.ixor, 1) := by decide +kernel
theorem dX10_spreads_49 : decode cX10_spreads 49 = .ok (.iand, 1) := by decide +kernel
theorem dX10_spreads_50 : decode cX10_spreads 50 = .ok (.iload_n 3, 1) := by decide +kernel
theorem dX10_spreads_51 : decode cX10_spreads 51 = .ok (.iconst (-1), 1) := by decide +kernel
theorem dX10_spreads_52 : decode cX10_spreads 52 = .ok (.ixor, 1) := by decide +kernel
theorem dX10_spreads_53 : decode cX10_spreads 53 = .ok (.iand, 1) := by decide +kernel
theorem dX10_spreads_54 : decode cX10_spreads 54 = .ok (.istore 8, 2) := by decide +kernel
theorem dX10_spreads_56 : decode cX10_spreads 56 = .ok (.iload 4, 2) := by decide +kernel
theorem dX10_spreads_58 : decode cX10_spreads 58 = .ok (.iload 8, 2) := by decide +kernel
theorem dX10_spreads_60 : decode cX10_spreads 60 = .ok (.ior, 1) := by decide +kernel
theorem dX10_spreads_61 : decode cX10_spreads 61 = .ok (.istore 4, 2) := by decide +kernel
theorem dX10_spreads_63 : decode cX10_spreads 63 = .ok (.iload 5, 2) := by decide +kernel
theorem dX10_spreads_65 : decode cX10_spreads 65 = .ok (.iload 7, 2) := by decide +kernel
theorem dX10_spreads_67 : decode cX10_spreads 67 = .ok (.iconst (-1), 1) := by decide +kernel
theorem dX10_spreads_68 : decode cX10_spreads 68 = .ok (.ixor, 1) := by decide +kernel
theorem dX10_spreads_69 : decode cX10_spreads 69 = .ok (.iand, 1) := by decide +kernel
theorem dX10_spreads_70 : decode cX10_spreads 70 = .ok (.iload 8, 2) := by decide +kernel
theorem dX10_spreads_72 : decode cX10_spreads 72 = .ok (.ior, 1) := by decide +kernel
theorem dX10_spreads_73 : decode cX10_spreads 73 = .ok (.istore 5, 2) := by decide +kernel
theorem dX10_spreads_75 : decode cX10_spreads 75 = .ok (.iinc 6 1, 3) := by decide +kernel
theorem dX10_spreads_78 : decode cX10_spreads 78 = .ok (.goto (-64), 3) := by decide +kernel
theorem dX10_spreads_81 : decode cX10_spreads 81 = .ok (.iload 4, 2) := by decide +kernel
theorem dX10_spreads_83 : decode cX10_spreads 83 = .ok (.ireturn, 1) := by decide +kernel
theorem dX10_measures_0 : decode cX10_measures 0 = .ok (.aload_n 0, 1) := by decide +kernel
theorem dX10_measures_1 : decode cX10_measures 1 = .ok (.getfield 9, 3) := by decide +kernel
theorem dX10_measures_4 : decode cX10_measures 4 = .ok (.iconst (-1), 1) := by decide +kernel
theorem dX10_measures_5 : decode cX10_measures 5 = .ok (.invokestatic 37, 3) := by decide +kernel
theorem dX10_measures_8 : decode cX10_measures 8 = .ok (.aload_n 0, 1) := by decide +kernel
theorem dX10_measures_9 : decode cX10_measures 9 = .ok (.getfield 9, 3) := by decide +kernel
theorem dX10_measures_12 : decode cX10_measures 12 = .ok (.iload_n 2, 1) := by decide +kernel
theorem dX10_measures_13 : decode cX10_measures 13 = .ok (.iconst 0, 1) := by decide +kernel
theorem dX10_measures_14 : decode cX10_measures 14 = .ok (.iastore, 1) := by decide +kernel
theorem dX10_measures_15 : decode cX10_measures 15 = .ok (.iconst 1, 1) := by decide +kernel
theorem dX10_measures_16 : decode cX10_measures 16 = .ok (.iload_n 2, 1) := by decide +kernel
theorem dX10_measures_17 : decode cX10_measures 17 = .ok (.ishl, 1) := by decide +kernel
theorem dX10_measures_18 : decode cX10_measures 18 = .ok (.istore_n 3, 1) := by decide +kernel
theorem dX10_measures_19 : decode cX10_measures 19 = .ok (.iconst 1, 1) := by decide +kernel
theorem dX10_measures_20 : decode cX10_measures 20 = .ok (.istore 4, 2) := by decide +kernel
theorem dX10_measures_22 : decode cX10_measures 22 = .ok (.iload 4, 2) := by decide +kernel
theorem dX10_measures_24 : decode cX10_measures 24 = .ok (.bipush 24, 2) := by decide +kernel
theorem dX10_measures_26 : decode cX10_measures 26 = .ok (.if_icmp .ge 75, 3) := by decide +kernel
theorem dX10_measures_29 : decode cX10_measures 29 = .ok (.iload_n 3, 1) := by decide +kernel
theorem dX10_measures_30 : decode cX10_measures 30 = .ok (.ifCond .eq 71, 3) := by decide +kernel
theorem dX10_measures_33 : decode cX10_measures 33 = .ok (.iconst 0, 1) := by decide +kernel
theorem dX10_measures_34 : decode cX10_measures 34 = .ok (.istore 5, 2) := by decide +kernel
theorem dX10_measures_36 : decode cX10_measures 36 = .ok (.iconst 0, 1) := by decide +kernel
theorem dX10_measures_37 : decode cX10_measures 37 = .ok (.istore 6, 2) := by decide +kernel
theorem dX10_measures_39 : decode cX10_measures 39 = .ok (.iload 6, 2) := by decide +kernel
theorem dX10_measures_41 : decode cX10_measures 41 = .ok (.bipush 24, 2) := by decide +kernel
theorem dX10_measures_43 : decode cX10_measures 43 = .ok (.if_icmp .ge 49, 3) := by decide +kernel
theorem dX10_measures_46 : decode cX10_measures 46 = .ok (.aload_n 0, 1) := by decide +kernel
theorem dX10_measures_47 : decode cX10_measures 47 = .ok (.getfield 9, 3) := by decide +kernel
theorem dX10_measures_50 : decode cX10_measures 50 = .ok (.iload 6, 2) := by decide +kernel
theorem dX10_measures_52 : decode cX10_measures 52 = .ok (.iaload, 1) := by decide +kernel
theorem dX10_measures_53 : decode cX10_measures 53 = .ok (.iconst (-1), 1) := by decide +kernel
theorem dX10_measures_54 : decode cX10_measures 54 = .ok (.if_icmp .ne 32, 3) := by decide +kernel
theorem dX10_measures_57 : decode cX10_measures 57 = .ok (.aload_n 1, 1) := by decide +kernel
theorem dX10_measures_58 : decode cX10_measures 58 = .ok (.iload 6, 2) := by decide +kernel
theorem dX10_measures_60 : decode cX10_measures 60 = .ok (.invokevirtual 34, 3) := by decide +kernel
theorem dX10_measures_63 : decode cX10_measures 63 = .ok (.iload_n 3, 1) := by decide +kernel
theorem dX10_measures_64 : decode cX10_measures 64 = .ok (.iand, 1) := by decide +kernel
theorem dX10_measures_65 : decode cX10_measures 65 = .ok (.ifCond .eq 21, 3) := by decide +kernel
theorem dX10_measures_68 : decode cX10_measures 68 = .ok (.aload_n 0, 1) := by decide +kernel
theorem dX10_measures_69 : decode cX10_measures 69 = .ok (.getfield 9, 3) := by decide +kernel
theorem dX10_measures_72 : decode cX10_measures 72 = .ok (.iload 6, 2) := by decide +kernel
theorem dX10_measures_74 : decode cX10_measures 74 = .ok (.iload 4, 2) := by decide +kernel
theorem dX10_measures_76 : decode cX10_measures 76 = .ok (.iastore, 1) := by decide +kernel
theorem dX10_measures_77 : decode cX10_measures 77 = .ok (.iload 5, 2) := by decide +kernel
theorem dX10_measures_79 : decode cX10_measures 79 = .ok (.iconst 1, 1) := by decide +kernel
theorem dX10_measures_80 : decode cX10_measures 80 = .ok (.iload 6, 2) := by decide +kernel
theorem dX10_measures_82 : decode cX10_measures 82 = .ok (.ishl, 1) := by decide +kernel
theorem dX10_measures_83 : decode cX10_measures 83 = .ok (.ior, 1) := by decide +kernel
theorem dX10_measures_84 : decode cX10_measures 84 = .ok (.istore 5, 2) := by decide +kernel
theorem dX10_measures_86 : decode cX10_measures 86 = .ok (.iinc 6 1, 3) := by decide +kernel
theorem dX10_measures_89 : decode cX10_measures 89 = .ok (.goto (-50), 3) := by decide +kernel
theorem dX10_measures_92 : decode cX10_measures 92 = .ok (.iload 5, 2) := by decide +kernel
theorem dX10_measures_94 : decode cX10_measures 94 = .ok (.istore_n 3, 1) := by decide +kernel
theorem dX10_measures_95 : decode cX10_measures 95 = .ok (.iinc 4 1, 3) := by decide +kernel
theorem dX10_measures_98 : decode cX10_measures 98 = .ok (.goto (-76), 3) := by decide +kernel
theorem dX10_measures_101 : decode cX10_measures 101 = .ok (.return_, 1) := by decide +kernel
theorem dX10_nearest_0 : decode cX10_nearest 0 = .ok (.iconst (-1), 1) := by decide +kernel
theorem dX10_nearest_1 : decode cX10_nearest 1 = .ok (.istore_n 2, 1) := by decide +kernel
theorem dX10_nearest_2 : decode cX10_nearest 2 = .ok (.iconst 0, 1) := by decide +kernel
theorem dX10_nearest_3 : decode cX10_nearest 3 = .ok (.istore_n 3, 1) := by decide +kernel
theorem dX10_nearest_4 : decode cX10_nearest 4 = .ok (.iload_n 3, 1) := by decide +kernel
theorem dX10_nearest_5 : decode cX10_nearest 5 = .ok (.bipush 24, 2) := by decide +kernel
theorem dX10_nearest_7 : decode cX10_nearest 7 = .ok (.if_icmp .ge 50, 3) := by decide +kernel
theorem dX10_nearest_10 : decode cX10_nearest 10 = .ok (.iload_n 1, 1) := by decide +kernel
theorem dX10_nearest_11 : decode cX10_nearest 11 = .ok (.iload_n 3, 1) := by decide +kernel
theorem dX10_nearest_12 : decode cX10_nearest 12 = .ok (.invokestatic 43, 3) := by decide +kernel
theorem dX10_nearest_15 : decode cX10_nearest 15 = .ok (.iconst 1, 1) := by decide +kernel
theorem dX10_nearest_16 : decode cX10_nearest 16 = .ok (.if_icmp .ne 35, 3) := by decide +kernel
theorem dX10_nearest_19 : decode cX10_nearest 19 = .ok (.aload_n 0, 1) := by decide +kernel
theorem dX10_nearest_20 : decode cX10_nearest 20 = .ok (.getfield 9, 3) := by decide +kernel
theorem dX10_nearest_23 : decode cX10_nearest 23 = .ok (.iload_n 3, 1) := by decide +kernel
theorem dX10_nearest_24 : decode cX10_nearest 24 = .ok (.iaload, 1) := by decide +kernel
theorem dX10_nearest_25 : decode cX10_nearest 25 = .ok (.iconst (-1), 1) := by decide +kernel
theorem dX10_nearest_26 : decode cX10_nearest 26 = .ok (.if_icmp .eq 25, 3) := by decide +kernel
theorem dX10_nearest_29 : decode cX10_nearest 29 = .ok (.iload_n 2, 1) := by decide +kernel
theorem dX10_nearest_30 : decode cX10_nearest 30 = .ok (.iconst (-1), 1) := by decide +kernel
theorem dX10_nearest_31 : decode cX10_nearest 31 = .ok (.if_icmp .eq 18, 3) := by decide +kernel
theorem dX10_nearest_34 : decode cX10_nearest 34 = .ok (.aload_n 0, 1) := by decide +kernel
theorem dX10_nearest_35 : decode cX10_nearest 35 = .ok (.getfield 9, 3) := by decide +kernel
theorem dX10_nearest_38 : decode cX10_nearest 38 = .ok (.iload_n 3, 1) := by decide +kernel
theorem dX10_nearest_39 : decode cX10_nearest 39 = .ok (.iaload, 1) := by decide +kernel
theorem dX10_nearest_40 : decode cX10_nearest 40 = .ok (.aload_n 0, 1) := by decide +kernel
theorem dX10_nearest_41 : decode cX10_nearest 41 = .ok (.getfield 9, 3) := by decide +kernel
theorem dX10_nearest_44 : decode cX10_nearest 44 = .ok (.iload_n 2, 1) := by decide +kernel
theorem dX10_nearest_45 : decode cX10_nearest 45 = .ok (.iaload, 1) := by decide +kernel
theorem dX10_nearest_46 : decode cX10_nearest 46 = .ok (.if_icmp .ge 5, 3) := by decide +kernel
theorem dX10_nearest_49 : decode cX10_nearest 49 = .ok (.iload_n 3, 1) := by decide +kernel
theorem dX10_nearest_50 : decode cX10_nearest 50 = .ok (.istore_n 2, 1) := by decide +kernel
theorem dX10_nearest_51 : decode cX10_nearest 51 = .ok (.iinc 3 1, 3) := by decide +kernel
theorem dX10_nearest_54 : decode cX10_nearest 54 = .ok (.goto (-50), 3) := by decide +kernel
theorem dX10_nearest_57 : decode cX10_nearest 57 = .ok (.iload_n 2, 1) := by decide +kernel
theorem dX10_nearest_58 : decode cX10_nearest 58 = .ok (.ireturn, 1) := by decide +kernel
theorem dX11_init_0 : decode cX11_init 0 = .ok (.aload_n 0, 1) := by decide +kernel
theorem dX11_init_1 : decode cX11_init 1 = .ok (.invokespecial 1, 3) := by decide +kernel
theorem dX11_init_4 : decode cX11_init 4 = .ok (.aload_n 0, 1) := by decide +kernel
theorem dX11_init_5 : decode cX11_init 5 = .ok (.new 7, 3) := by decide +kernel
theorem dX11_init_8 : decode cX11_init 8 = .ok (.dup, 1) := by decide +kernel
theorem dX11_init_9 : decode cX11_init 9 = .ok (.invokespecial 9, 3) := by decide +kernel
theorem dX11_init_12 : decode cX11_init 12 = .ok (.putfield 10, 3) := by decide +kernel
theorem dX11_init_15 : decode cX11_init 15 = .ok (.aload_n 0, 1) := by decide +kernel
theorem dX11_init_16 : decode cX11_init 16 = .ok (.new 7, 3) := by decide +kernel
theorem dX11_init_19 : decode cX11_init 19 = .ok (.dup, 1) := by decide +kernel
theorem dX11_init_20 : decode cX11_init 20 = .ok (.invokespecial 9, 3) := by decide +kernel
theorem dX11_init_23 : decode cX11_init 23 = .ok (.putfield 16, 3) := by decide +kernel
theorem dX11_init_26 : decode cX11_init 26 = .ok (.aload_n 0, 1) := by decide +kernel
theorem dX11_init_27 : decode cX11_init 27 = .ok (.iconst 2, 1) := by decide +kernel
theorem dX11_init_28 : decode cX11_init 28 = .ok (.anewarray 7, 3) := by decide +kernel
theorem dX11_init_31 : decode cX11_init 31 = .ok (.putfield 19, 3) := by decide +kernel
theorem dX11_init_34 : decode cX11_init 34 = .ok (.aload_n 0, 1) := by decide +kernel
theorem dX11_init_35 : decode cX11_init 35 = .ok (.new 23, 3) := by decide +kernel
theorem dX11_init_38 : decode cX11_init 38 = .ok (.dup, 1) := by decide +kernel
theorem dX11_init_39 : decode cX11_init 39 = .ok (.invokespecial 25, 3) := by decide +kernel
theorem dX11_init_42 : decode cX11_init 42 = .ok (.putfield 26, 3) := by decide +kernel
theorem dX11_init_45 : decode cX11_init 45 = .ok (.aload_n 0, 1) := by decide +kernel
theorem dX11_init_46 : decode cX11_init 46 = .ok (.new 30, 3) := by decide +kernel
theorem dX11_init_49 : decode cX11_init 49 = .ok (.dup, 1) := by decide +kernel
theorem dX11_init_50 : decode cX11_init 50 = .ok (.invokespecial 32, 3) := by decide +kernel
theorem dX11_init_53 : decode cX11_init 53 = .ok (.putfield 33, 3) := by decide +kernel
theorem dX11_init_56 : decode cX11_init 56 = .ok (.aload_n 0, 1) := by decide +kernel
theorem dX11_init_57 : decode cX11_init 57 = .ok (.new 37, 3) := by decide +kernel
theorem dX11_init_60 : decode cX11_init 60 = .ok (.dup, 1) := by decide +kernel
theorem dX11_init_61 : decode cX11_init 61 = .ok (.invokespecial 39, 3) := by decide +kernel
theorem dX11_init_64 : decode cX11_init 64 = .ok (.putfield 40, 3) := by decide +kernel
theorem dX11_init_67 : decode cX11_init 67 = .ok (.aload_n 0, 1) := by decide +kernel
theorem dX11_init_68 : decode cX11_init 68 = .ok (.new 44, 3) := by decide +kernel
theorem dX11_init_71 : decode cX11_init 71 = .ok (.dup, 1) := by decide +kernel
theorem dX11_init_72 : decode cX11_init 72 = .ok (.invokespecial 46, 3) := by decide +kernel
theorem dX11_init_75 : decode cX11_init 75 = .ok (.putfield 47, 3) := by decide +kernel
theorem dX11_init_78 : decode cX11_init 78 = .ok (.aload_n 0, 1) := by decide +kernel
theorem dX11_init_79 : decode cX11_init 79 = .ok (.new 51, 3) := by decide +kernel
theorem dX11_init_82 : decode cX11_init 82 = .ok (.dup, 1) := by decide +kernel
theorem dX11_init_83 : decode cX11_init 83 = .ok (.invokespecial 53, 3) := by decide +kernel
theorem dX11_init_86 : decode cX11_init 86 = .ok (.putfield 54, 3) := by decide +kernel
theorem dX11_init_89 : decode cX11_init 89 = .ok (.aload_n 0, 1) := by decide +kernel
theorem dX11_init_90 : decode cX11_init 90 = .ok (.new 58, 3) := by decide +kernel
theorem dX11_init_93 : decode cX11_init 93 = .ok (.dup, 1) := by decide +kernel
theorem dX11_init_94 : decode cX11_init 94 = .ok (.invokespecial 60, 3) := by decide +kernel
theorem dX11_init_97 : decode cX11_init 97 = .ok (.putfield 61, 3) := by decide +kernel
theorem dX11_init_100 : decode cX11_init 100 = .ok (.aload_n 0, 1) := by decide +kernel
theorem dX11_init_101 : decode cX11_init 101 = .ok (.new 65, 3) := by decide +kernel
theorem dX11_init_104 : decode cX11_init 104 = .ok (.dup, 1) := by decide +kernel
theorem dX11_init_105 : decode cX11_init 105 = .ok (.aload_n 0, 1) := by decide +kernel
theorem dX11_init_106 : decode cX11_init 106 = .ok (.getfield 61, 3) := by decide +kernel
theorem dX11_init_109 : decode cX11_init 109 = .ok (.invokespecial 67, 3) := by decide +kernel
theorem dX11_init_112 : decode cX11_init 112 = .ok (.putfield 70, 3) := by decide +kernel
theorem dX11_init_115 : decode cX11_init 115 = .ok (.aload_n 0, 1) := by decide +kernel
theorem dX11_init_116 : decode cX11_init 116 = .ok (.new 74, 3) := by decide +kernel
theorem dX11_init_119 : decode cX11_init 119 = .ok (.dup, 1) := by decide +kernel
theorem dX11_init_120 : decode cX11_init 120 = .ok (.aload_n 0, 1) := by decide +kernel
theorem dX11_init_121 : decode cX11_init 121 = .ok (.getfield 61, 3) := by decide +kernel
theorem dX11_init_124 : decode cX11_init 124 = .ok (.aload_n 0, 1) := by decide +kernel
theorem dX11_init_125 : decode cX11_init 125 = .ok (.getfield 70, 3) := by decide +kernel
theorem dX11_init_128 : decode cX11_init 128 = .ok (.aload_n 0, 1) := by decide +kernel
theorem dX11_init_129 : decode cX11_init 129 = .ok (.getfield 54, 3) := by decide +kernel
theorem dX11_init_132 : decode cX11_init 132 = .ok (.invokespecial 76, 3) := by decide +kernel
theorem dX11_init_135 : decode cX11_init 135 = .ok (.putfield 79, 3) := by decide +kernel
theorem dX11_init_138 : decode cX11_init 138 = .ok (.aload_n 0, 1) := by decide +kernel
theorem dX11_init_139 : decode cX11_init 139 = .ok (.bipush 24, 2) := by decide +kernel
theorem dX11_init_141 : decode cX11_init 141 = .ok (.newarray .int, 2) := by decide +kernel
theorem dX11_init_143 : decode cX11_init 143 = .ok (.putfield 83, 3) := by decide +kernel
theorem dX11_init_146 : decode cX11_init 146 = .ok (.iconst 0, 1) := by decide +kernel
theorem dX11_init_147 : decode cX11_init 147 = .ok (.istore_n 1, 1) := by decide +kernel
theorem dX11_init_148 : decode cX11_init 148 = .ok (.iload_n 1, 1) := by decide +kernel
theorem dX11_init_149 : decode cX11_init 149 = .ok (.iconst 2, 1) := by decide +kernel
theorem dX11_init_150 : decode cX11_init 150 = .ok (.if_icmp .ge 22, 3) := by decide +kernel
theorem dX11_init_153 : decode cX11_init 153 = .ok (.aload_n 0, 1) := by decide +kernel
theorem dX11_init_154 : decode cX11_init 154 = .ok (.getfield 19, 3) := by decide +kernel
theorem dX11_init_157 : decode cX11_init 157 = .ok (.iload_n 1, 1) := by decide +kernel
theorem dX11_init_158 : decode cX11_init 158 = .ok (.new 7, 3) := by decide +kernel
theorem dX11_init_161 : decode cX11_init 161 = .ok (.dup, 1) := by decide +kernel
theorem dX11_init_162 : decode cX11_init 162 = .ok (.invokespecial 9, 3) := by decide +kernel
theorem dX11_init_165 : decode cX11_init 165 = .ok (.aastore, 1) := by decide +kernel
theorem dX11_init_166 : decode cX11_init 166 = .ok (.iinc 1 1, 3) := by decide +kernel
theorem dX11_init_169 : decode cX11_init 169 = .ok (.goto (-21), 3) := by decide +kernel
theorem dX11_init_172 : decode cX11_init 172 = .ok (.return_, 1) := by decide +kernel
theorem dX11_sign_0 : decode cX11_sign 0 = .ok (.aload_n 0, 1) := by decide +kernel
theorem dX11_sign_1 : decode cX11_sign 1 = .ok (.getfield 40, 3) := by decide +kernel
theorem dX11_sign_4 : decode cX11_sign 4 = .ok (.iload_n 1, 1) := by decide +kernel
theorem dX11_sign_5 : decode cX11_sign 5 = .ok (.invokevirtual 87, 3) := by decide +kernel
theorem dX11_sign_8 : decode cX11_sign 8 = .ok (.ifCond .eq 13, 3) := by decide +kernel
theorem dX11_sign_11 : decode cX11_sign 11 = .ok (.aload_n 0, 1) := by decide +kernel
theorem dX11_sign_12 : decode cX11_sign 12 = .ok (.getfield 40, 3) := by decide +kernel
theorem dX11_sign_15 : decode cX11_sign 15 = .ok (.getfield 91, 3) := by decide +kernel
theorem dX11_sign_18 : decode cX11_sign 18 = .ok (.goto 4, 3) := by decide +kernel
theorem dX11_sign_21 : decode cX11_sign 21 = .ok (.iconst (-1), 1) := by decide +kernel
theorem dX11_sign_22 : decode cX11_sign 22 = .ok (.ireturn, 1) := by decide +kernel
theorem dX11_end_0 : decode cX11_end 0 = .ok (.iload_n 1, 1) := by decide +kernel
theorem dX11_end_1 : decode cX11_end 1 = .ok (.ifCond .lt 14, 3) := by decide +kernel
theorem dX11_end_4 : decode cX11_end 4 = .ok (.iload_n 1, 1) := by decide +kernel
theorem dX11_end_5 : decode cX11_end 5 = .ok (.aload_n 0, 1) := by decide +kernel
theorem dX11_end_6 : decode cX11_end 6 = .ok (.getfield 40, 3) := by decide +kernel
theorem dX11_end_9 : decode cX11_end 9 = .ok (.getfield 91, 3) := by decide +kernel
theorem dX11_end_12 : decode cX11_end 12 = .ok (.if_icmp .le 5, 3) := by decide +kernel
theorem dX11_end_15 : decode cX11_end 15 = .ok (.iconst 0, 1) := by decide +kernel
theorem dX11_end_16 : decode cX11_end 16 = .ok (.ireturn, 1) := by decide +kernel
theorem dX11_end_17 : decode cX11_end 17 = .ok (.aload_n 0, 1) := by decide +kernel
theorem dX11_end_18 : decode cX11_end 18 = .ok (.getfield 40, 3) := by decide +kernel
theorem dX11_end_21 : decode cX11_end 21 = .ok (.iload_n 1, 1) := by decide +kernel
theorem dX11_end_22 : decode cX11_end 22 = .ok (.putfield 91, 3) := by decide +kernel
theorem dX11_end_25 : decode cX11_end 25 = .ok (.iconst 1, 1) := by decide +kernel
theorem dX11_end_26 : decode cX11_end 26 = .ok (.ireturn, 1) := by decide +kernel
theorem dX11_makes_0 : decode cX11_makes 0 = .ok (.aload_n 0, 1) := by decide +kernel
theorem dX11_makes_1 : decode cX11_makes 1 = .ok (.getfield 10, 3) := by decide +kernel
theorem dX11_makes_4 : decode cX11_makes 4 = .ok (.invokevirtual 95, 3) := by decide +kernel
theorem dX11_makes_7 : decode cX11_makes 7 = .ok (.istore 5, 2) := by decide +kernel
theorem dX11_makes_9 : decode cX11_makes 9 = .ok (.aload_n 0, 1) := by decide +kernel
theorem dX11_makes_10 : decode cX11_makes 10 = .ok (.getfield 47, 3) := by decide +kernel
theorem dX11_makes_13 : decode cX11_makes 13 = .ok (.bipush 110, 2) := by decide +kernel
theorem dX11_makes_15 : decode cX11_makes 15 = .ok (.iload_n 1, 1) := by decide +kernel
theorem dX11_makes_16 : decode cX11_makes 16 = .ok (.iload_n 2, 1) := by decide +kernel
theorem dX11_makes_17 : decode cX11_makes 17 = .ok (.iload_n 3, 1) := by decide +kernel
theorem dX11_makes_18 : decode cX11_makes 18 = .ok (.iload 4, 2) := by decide +kernel
theorem dX11_makes_20 : decode cX11_makes 20 = .ok (.invokevirtual 99, 3) := by decide +kernel
theorem dX11_makes_23 : decode cX11_makes 23 = .ok (.aload_n 0, 1) := by decide +kernel
theorem dX11_makes_24 : decode cX11_makes 24 = .ok (.getfield 26, 3) := by decide +kernel
theorem dX11_makes_27 : decode cX11_makes 27 = .ok (.aload_n 0, 1) := by decide +kernel
theorem dX11_makes_28 : decode cX11_makes 28 = .ok (.getfield 10, 3) := by decide +kernel
theorem dX11_makes_31 : decode cX11_makes 31 = .ok (.invokevirtual 103, 3) := by decide +kernel
theorem dX11_makes_34 : decode cX11_makes 34 = .ok (.aload_n 0, 1) := by decide +kernel
theorem dX11_makes_35 : decode cX11_makes 35 = .ok (.getfield 79, 3) := by decide +kernel
theorem dX11_makes_38 : decode cX11_makes 38 = .ok (.aload_n 0, 1) := by decide +kernel
theorem dX11_makes_39 : decode cX11_makes 39 = .ok (.getfield 10, 3) := by decide +kernel
theorem dX11_makes_42 : decode cX11_makes 42 = .ok (.aload_n 0, 1) := by decide +kernel
theorem dX11_makes_43 : decode cX11_makes 43 = .ok (.getfield 47, 3) := by decide +kernel
theorem dX11_makes_46 : decode cX11_makes 46 = .ok (.invokevirtual 107, 3) := by decide +kernel
theorem dX11_makes_49 : decode cX11_makes 49 = .ok (.istore 6, 2) := by decide +kernel
theorem dX11_makes_51 : decode cX11_makes 51 = .ok (.iload 6, 2) := by decide +kernel
theorem dX11_makes_53 : decode cX11_makes 53 = .ok (.ifCond .ge 6, 3) := by decide +kernel
theorem dX11_makes_56 : decode cX11_makes 56 = .ok (.iload 6, 2) := by decide +kernel
theorem dX11_makes_58 : decode cX11_makes 58 = .ok (.ireturn, 1) := by decide +kernel
theorem dX11_makes_59 : decode cX11_makes 59 = .ok (.aload_n 0, 1) := by decide +kernel
theorem dX11_makes_60 : decode cX11_makes 60 = .ok (.getfield 26, 3) := by decide +kernel
theorem dX11_makes_63 : decode cX11_makes 63 = .ok (.invokevirtual 111, 3) := by decide +kernel
theorem dX11_makes_66 : decode cX11_makes 66 = .ok (.aload_n 0, 1) := by decide +kernel
theorem dX11_makes_67 : decode cX11_makes 67 = .ok (.getfield 33, 3) := by decide +kernel
theorem dX11_makes_70 : decode cX11_makes 70 = .ok (.iload 6, 2) := by decide +kernel
theorem dX11_makes_72 : decode cX11_makes 72 = .ok (.i2l, 1) := by decide +kernel
theorem dX11_makes_73 : decode cX11_makes 73 = .ok (.invokevirtual 114, 3) := by decide +kernel
theorem dX11_makes_76 : decode cX11_makes 76 = .ok (.iload 5, 2) := by decide +kernel
theorem dX11_makes_78 : decode cX11_makes 78 = .ok (.ireturn, 1) := by decide +kernel
theorem dX11_sets_0 : decode cX11_sets 0 = .ok (.aload_n 0, 1) := by decide +kernel
theorem dX11_sets_1 : decode cX11_sets 1 = .ok (.getfield 47, 3) := by decide +kernel
theorem dX11_sets_4 : decode cX11_sets 4 = .ok (.bipush 115, 2) := by decide +kernel
theorem dX11_sets_6 : decode cX11_sets 6 = .ok (.iload_n 1, 1) := by decide +kernel
theorem dX11_sets_7 : decode cX11_sets 7 = .ok (.iload_n 2, 1) := by decide +kernel
theorem dX11_sets_8 : decode cX11_sets 8 = .ok (.iload_n 3, 1) := by decide +kernel
theorem dX11_sets_9 : decode cX11_sets 9 = .ok (.iconst 0, 1) := by decide +kernel
theorem dX11_sets_10 : decode cX11_sets 10 = .ok (.invokevirtual 99, 3) := by decide +kernel
theorem dX11_sets_13 : decode cX11_sets 13 = .ok (.aload_n 0, 1) := by decide +kernel
theorem dX11_sets_14 : decode cX11_sets 14 = .ok (.getfield 26, 3) := by decide +kernel
theorem dX11_sets_17 : decode cX11_sets 17 = .ok (.aload_n 0, 1) := by decide +kernel
theorem dX11_sets_18 : decode cX11_sets 18 = .ok (.getfield 10, 3) := by decide +kernel
theorem dX11_sets_21 : decode cX11_sets 21 = .ok (.invokevirtual 103, 3) := by decide +kernel
theorem dX11_sets_24 : decode cX11_sets 24 = .ok (.aload_n 0, 1) := by decide +kernel
theorem dX11_sets_25 : decode cX11_sets 25 = .ok (.aload_n 0, 1) := by decide +kernel
theorem dX11_sets_26 : decode cX11_sets 26 = .ok (.getfield 79, 3) := by decide +kernel
theorem dX11_sets_29 : decode cX11_sets 29 = .ok (.aload_n 0, 1) := by decide +kernel
theorem dX11_sets_30 : decode cX11_sets 30 = .ok (.getfield 10, 3) := by decide +kernel
theorem dX11_sets_33 : decode cX11_sets 33 = .ok (.aload_n 0, 1) := by decide +kernel
theorem dX11_sets_34 : decode cX11_sets 34 = .ok (.getfield 47, 3) := by decide +kernel
theorem dX11_sets_37 : decode cX11_sets 37 = .ok (.invokevirtual 107, 3) := by decide +kernel
theorem dX11_sets_40 : decode cX11_sets 40 = .ok (.invokevirtual 118, 3) := by decide +kernel
theorem dX11_sets_43 : decode cX11_sets 43 = .ok (.ireturn, 1) := by decide +kernel
theorem dX11_roots_0 : decode cX11_roots 0 = .ok (.aload_n 0, 1) := by decide +kernel
theorem dX11_roots_1 : decode cX11_roots 1 = .ok (.getfield 47, 3) := by decide +kernel
theorem dX11_roots_4 : decode cX11_roots 4 = .ok (.bipush 114, 2) := by decide +kernel
theorem dX11_roots_6 : decode cX11_roots 6 = .ok (.iload_n 1, 1) := by decide +kernel
theorem dX11_roots_7 : decode cX11_roots 7 = .ok (.iload_n 2, 1) := by decide +kernel
theorem dX11_roots_8 : decode cX11_roots 8 = .ok (.iconst 0, 1) := by decide +kernel
theorem dX11_roots_9 : decode cX11_roots 9 = .ok (.iconst 0, 1) := by decide +kernel
theorem dX11_roots_10 : decode cX11_roots 10 = .ok (.invokevirtual 99, 3) := by decide +kernel
theorem dX11_roots_13 : decode cX11_roots 13 = .ok (.aload_n 0, 1) := by decide +kernel
theorem dX11_roots_14 : decode cX11_roots 14 = .ok (.getfield 26, 3) := by decide +kernel
theorem dX11_roots_17 : decode cX11_roots 17 = .ok (.aload_n 0, 1) := by decide +kernel
theorem dX11_roots_18 : decode cX11_roots 18 = .ok (.getfield 10, 3) := by decide +kernel
theorem dX11_roots_21 : decode cX11_roots 21 = .ok (.invokevirtual 103, 3) := by decide +kernel
theorem dX11_roots_24 : decode cX11_roots 24 = .ok (.aload_n 0, 1) := by decide +kernel
theorem dX11_roots_25 : decode cX11_roots 25 = .ok (.aload_n 0, 1) := by decide +kernel
theorem dX11_roots_26 : decode cX11_roots 26 = .ok (.getfield 79, 3) := by decide +kernel
theorem dX11_roots_29 : decode cX11_roots 29 = .ok (.aload_n 0, 1) := by decide +kernel
theorem dX11_roots_30 : decode cX11_roots 30 = .ok (.getfield 10, 3) := by decide +kernel
theorem dX11_roots_33 : decode cX11_roots 33 = .ok (.aload_n 0, 1) := by decide +kernel
theorem dX11_roots_34 : decode cX11_roots 34 = .ok (.getfield 47, 3) := by decide +kernel
theorem dX11_roots_37 : decode cX11_roots 37 = .ok (.invokevirtual 107, 3) := by decide +kernel
theorem dX11_roots_40 : decode cX11_roots 40 = .ok (.invokevirtual 118, 3) := by decide +kernel
theorem dX11_roots_43 : decode cX11_roots 43 = .ok (.ireturn, 1) := by decide +kernel
theorem dX11_weaks_0 : decode cX11_weaks 0 = .ok (.aload_n 0, 1) := by decide +kernel
theorem dX11_weaks_1 : decode cX11_weaks 1 = .ok (.getfield 10, 3) := by decide +kernel
theorem dX11_weaks_4 : decode cX11_weaks 4 = .ok (.iload_n 1, 1) := by decide +kernel
theorem dX11_weaks_5 : decode cX11_weaks 5 = .ok (.invokevirtual 122, 3) := by decide +kernel
theorem dX11_weaks_8 : decode cX11_weaks 8 = .ok (.istore_n 3, 1) := by decide +kernel
theorem dX11_weaks_9 : decode cX11_weaks 9 = .ok (.aload_n 0, 1) := by decide +kernel
theorem dX11_weaks_10 : decode cX11_weaks 10 = .ok (.getfield 47, 3) := by decide +kernel
theorem dX11_weaks_13 : decode cX11_weaks 13 = .ok (.bipush 119, 2) := by decide +kernel
theorem dX11_weaks_15 : decode cX11_weaks 15 = .ok (.iload_n 1, 1) := by decide +kernel
theorem dX11_weaks_16 : decode cX11_weaks 16 = .ok (.iload_n 2, 1) := by decide +kernel
theorem dX11_weaks_17 : decode cX11_weaks 17 = .ok (.iconst 0, 1) := by decide +kernel
theorem dX11_weaks_18 : decode cX11_weaks 18 = .ok (.iconst 0, 1) := by decide +kernel
theorem dX11_weaks_19 : decode cX11_weaks 19 = .ok (.invokevirtual 99, 3) := by decide +kernel
theorem dX11_weaks_22 : decode cX11_weaks 22 = .ok (.aload_n 0, 1) := by decide +kernel
theorem dX11_weaks_23 : decode cX11_weaks 23 = .ok (.getfield 26, 3) := by decide +kernel
theorem dX11_weaks_26 : decode cX11_weaks 26 = .ok (.aload_n 0, 1) := by decide +kernel
theorem dX11_weaks_27 : decode cX11_weaks 27 = .ok (.getfield 10, 3) := by decide +kernel
theorem dX11_weaks_30 : decode cX11_weaks 30 = .ok (.invokevirtual 103, 3) := by decide +kernel
theorem dX11_weaks_33 : decode cX11_weaks 33 = .ok (.aload_n 0, 1) := by decide +kernel
theorem dX11_weaks_34 : decode cX11_weaks 34 = .ok (.getfield 79, 3) := by decide +kernel
theorem dX11_weaks_37 : decode cX11_weaks 37 = .ok (.aload_n 0, 1) := by decide +kernel
theorem dX11_weaks_38 : decode cX11_weaks 38 = .ok (.getfield 10, 3) := by decide +kernel
theorem dX11_weaks_41 : decode cX11_weaks 41 = .ok (.aload_n 0, 1) := by decide +kernel
theorem dX11_weaks_42 : decode cX11_weaks 42 = .ok (.getfield 47, 3) := by decide +kernel
theorem dX11_weaks_45 : decode cX11_weaks 45 = .ok (.invokevirtual 107, 3) := by decide +kernel
theorem dX11_weaks_48 : decode cX11_weaks 48 = .ok (.istore 4, 2) := by decide +kernel
theorem dX11_weaks_50 : decode cX11_weaks 50 = .ok (.iload 4, 2) := by decide +kernel
theorem dX11_weaks_52 : decode cX11_weaks 52 = .ok (.ifCond .ge 6, 3) := by decide +kernel
theorem dX11_weaks_55 : decode cX11_weaks 55 = .ok (.iload 4, 2) := by decide +kernel
theorem dX11_weaks_57 : decode cX11_weaks 57 = .ok (.ireturn, 1) := by decide +kernel
theorem dX11_weaks_58 : decode cX11_weaks 58 = .ok (.aload_n 0, 1) := by decide +kernel
theorem dX11_weaks_59 : decode cX11_weaks 59 = .ok (.getfield 26, 3) := by decide +kernel
theorem dX11_weaks_62 : decode cX11_weaks 62 = .ok (.invokevirtual 111, 3) := by decide +kernel
theorem dX11_weaks_65 : decode cX11_weaks 65 = .ok (.iload_n 3, 1) := by decide +kernel
theorem dX11_weaks_66 : decode cX11_weaks 66 = .ok (.ireturn, 1) := by decide +kernel
theorem dX11_wakes_0 : decode cX11_wakes 0 = .ok (.aload_n 0, 1) := by decide +kernel
theorem dX11_wakes_1 : decode cX11_wakes 1 = .ok (.getfield 47, 3) := by decide +kernel
theorem dX11_wakes_4 : decode cX11_wakes 4 = .ok (.bipush 107, 2) := by decide +kernel
theorem dX11_wakes_6 : decode cX11_wakes 6 = .ok (.iload_n 1, 1) := by decide +kernel
theorem dX11_wakes_7 : decode cX11_wakes 7 = .ok (.iload_n 2, 1) := by decide +kernel
theorem dX11_wakes_8 : decode cX11_wakes 8 = .ok (.iconst 0, 1) := by decide +kernel
theorem dX11_wakes_9 : decode cX11_wakes 9 = .ok (.iconst 0, 1) := by decide +kernel
theorem dX11_wakes_10 : decode cX11_wakes 10 = .ok (.invokevirtual 99, 3) := by decide +kernel
theorem dX11_wakes_13 : decode cX11_wakes 13 = .ok (.aload_n 0, 1) := by decide +kernel
theorem dX11_wakes_14 : decode cX11_wakes 14 = .ok (.getfield 26, 3) := by decide +kernel
theorem dX11_wakes_17 : decode cX11_wakes 17 = .ok (.aload_n 0, 1) := by decide +kernel
theorem dX11_wakes_18 : decode cX11_wakes 18 = .ok (.getfield 10, 3) := by decide +kernel
theorem dX11_wakes_21 : decode cX11_wakes 21 = .ok (.invokevirtual 103, 3) := by decide +kernel
theorem dX11_wakes_24 : decode cX11_wakes 24 = .ok (.aload_n 0, 1) := by decide +kernel
theorem dX11_wakes_25 : decode cX11_wakes 25 = .ok (.aload_n 0, 1) := by decide +kernel
theorem dX11_wakes_26 : decode cX11_wakes 26 = .ok (.getfield 79, 3) := by decide +kernel
theorem dX11_wakes_29 : decode cX11_wakes 29 = .ok (.aload_n 0, 1) := by decide +kernel
theorem dX11_wakes_30 : decode cX11_wakes 30 = .ok (.getfield 10, 3) := by decide +kernel
theorem dX11_wakes_33 : decode cX11_wakes 33 = .ok (.aload_n 0, 1) := by decide +kernel
theorem dX11_wakes_34 : decode cX11_wakes 34 = .ok (.getfield 47, 3) := by decide +kernel
theorem dX11_wakes_37 : decode cX11_wakes 37 = .ok (.invokevirtual 107, 3) := by decide +kernel
theorem dX11_wakes_40 : decode cX11_wakes 40 = .ok (.invokevirtual 118, 3) := by decide +kernel
theorem dX11_wakes_43 : decode cX11_wakes 43 = .ok (.ireturn, 1) := by decide +kernel
theorem dX11_trial_0 : decode cX11_trial 0 = .ok (.aload_n 0, 1) := by decide +kernel
theorem dX11_trial_1 : decode cX11_trial 1 = .ok (.getfield 10, 3) := by decide +kernel
theorem dX11_trial_4 : decode cX11_trial 4 = .ok (.getfield 125, 3) := by decide +kernel
theorem dX11_trial_7 : decode cX11_trial 7 = .ok (.invokevirtual 129, 3) := by decide +kernel
theorem dX11_trial_10 : decode cX11_trial 10 = .ok (.istore_n 1, 1) := by decide +kernel
theorem dX11_trial_11 : decode cX11_trial 11 = .ok (.aload_n 0, 1) := by decide +kernel
theorem dX11_trial_12 : decode cX11_trial 12 = .ok (.getfield 10, 3) := by decide +kernel
theorem dX11_trial_15 : decode cX11_trial 15 = .ok (.getfield 125, 3) := by decide +kernel
theorem dX11_trial_18 : decode cX11_trial 18 = .ok (.getfield 134, 3) := by decide +kernel
theorem dX11_trial_21 : decode cX11_trial 21 = .ok (.iconst 3, 1) := by decide +kernel
theorem dX11_trial_22 : decode cX11_trial 22 = .ok (.iaload, 1) := by decide +kernel
theorem dX11_trial_23 : decode cX11_trial 23 = .ok (.istore_n 2, 1) := by decide +kernel
theorem dX11_trial_24 : decode cX11_trial 24 = .ok (.aload_n 0, 1) := by decide +kernel
theorem dX11_trial_25 : decode cX11_trial 25 = .ok (.getfield 47, 3) := by decide +kernel
theorem dX11_trial_28 : decode cX11_trial 28 = .ok (.bipush 116, 2) := by decide +kernel
theorem dX11_trial_30 : decode cX11_trial 30 = .ok (.iconst 0, 1) := by decide +kernel
theorem dX11_trial_31 : decode cX11_trial 31 = .ok (.iconst 0, 1) := by decide +kernel
theorem dX11_trial_32 : decode cX11_trial 32 = .ok (.iconst 0, 1) := by decide +kernel
theorem dX11_trial_33 : decode cX11_trial 33 = .ok (.iconst 0, 1) := by decide +kernel
theorem dX11_trial_34 : decode cX11_trial 34 = .ok (.invokevirtual 99, 3) := by decide +kernel
theorem dX11_trial_37 : decode cX11_trial 37 = .ok (.aload_n 0, 1) := by decide +kernel
theorem dX11_trial_38 : decode cX11_trial 38 = .ok (.getfield 26, 3) := by decide +kernel
theorem dX11_trial_41 : decode cX11_trial 41 = .ok (.aload_n 0, 1) := by decide +kernel
theorem dX11_trial_42 : decode cX11_trial 42 = .ok (.getfield 10, 3) := by decide +kernel
theorem dX11_trial_45 : decode cX11_trial 45 = .ok (.invokevirtual 103, 3) := by decide +kernel
theorem dX11_trial_48 : decode cX11_trial 48 = .ok (.aload_n 0, 1) := by decide +kernel
theorem dX11_trial_49 : decode cX11_trial 49 = .ok (.getfield 79, 3) := by decide +kernel
theorem dX11_trial_52 : decode cX11_trial 52 = .ok (.aload_n 0, 1) := by decide +kernel
theorem dX11_trial_53 : decode cX11_trial 53 = .ok (.getfield 10, 3) := by decide +kernel
theorem dX11_trial_56 : decode cX11_trial 56 = .ok (.aload_n 0, 1) := by decide +kernel
theorem dX11_trial_57 : decode cX11_trial 57 = .ok (.getfield 47, 3) := by decide +kernel
theorem dX11_trial_60 : decode cX11_trial 60 = .ok (.invokevirtual 107, 3) := by decide +kernel
theorem dX11_trial_63 : decode cX11_trial 63 = .ok (.istore_n 3, 1) := by decide +kernel
theorem dX11_trial_64 : decode cX11_trial 64 = .ok (.iload_n 3, 1) := by decide +kernel
theorem dX11_trial_65 : decode cX11_trial 65 = .ok (.ifCond .ge 5, 3) := by decide +kernel
theorem dX11_trial_68 : decode cX11_trial 68 = .ok (.iload_n 3, 1) := by decide +kernel
theorem dX11_trial_69 : decode cX11_trial 69 = .ok (.ireturn, 1) := by decide +kernel
theorem dX11_trial_70 : decode cX11_trial 70 = .ok (.aload_n 0, 1) := by decide +kernel
theorem dX11_trial_71 : decode cX11_trial 71 = .ok (.getfield 26, 3) := by decide +kernel
theorem dX11_trial_74 : decode cX11_trial 74 = .ok (.invokevirtual 111, 3) := by decide +kernel
theorem dX11_trial_77 : decode cX11_trial 77 = .ok (.aload_n 0, 1) := by decide +kernel
theorem dX11_trial_78 : decode cX11_trial 78 = .ok (.getfield 33, 3) := by decide +kernel
theorem dX11_trial_81 : decode cX11_trial 81 = .ok (.aload_n 0, 1) := by decide +kernel
theorem dX11_trial_82 : decode cX11_trial 82 = .ok (.getfield 10, 3) := by decide +kernel
theorem dX11_trial_85 : decode cX11_trial 85 = .ok (.getfield 125, 3) := by decide +kernel
theorem dX11_trial_88 : decode cX11_trial 88 = .ok (.getfield 134, 3) := by decide +kernel
theorem dX11_trial_91 : decode cX11_trial 91 = .ok (.iconst 3, 1) := by decide +kernel
theorem dX11_trial_92 : decode cX11_trial 92 = .ok (.iaload, 1) := by decide +kernel
theorem dX11_trial_93 : decode cX11_trial 93 = .ok (.iload_n 2, 1) := by decide +kernel
theorem dX11_trial_94 : decode cX11_trial 94 = .ok (.isub, 1) := by decide +kernel
theorem dX11_trial_95 : decode cX11_trial 95 = .ok (.i2l, 1) := by decide +kernel
theorem dX11_trial_96 : decode cX11_trial 96 = .ok (.aload_n 0, 1) := by decide +kernel
theorem dX11_trial_97 : decode cX11_trial 97 = .ok (.getfield 70, 3) := by decide +kernel
theorem dX11_trial_100 : decode cX11_trial 100 = .ok (.getfield 137, 3) := by decide +kernel
theorem dX11_trial_103 : decode cX11_trial 103 = .ok (.i2l, 1) := by decide +kernel
theorem dX11_trial_104 : decode cX11_trial 104 = .ok (.invokevirtual 140, 3) := by decide +kernel
theorem dX11_trial_107 : decode cX11_trial 107 = .ok (.aload_n 0, 1) := by decide +kernel
theorem dX11_trial_108 : decode cX11_trial 108 = .ok (.getfield 10, 3) := by decide +kernel
theorem dX11_trial_111 : decode cX11_trial 111 = .ok (.getfield 125, 3) := by decide +kernel
theorem dX11_trial_114 : decode cX11_trial 114 = .ok (.invokevirtual 129, 3) := by decide +kernel
theorem dX11_trial_117 : decode cX11_trial 117 = .ok (.iload_n 1, 1) := by decide +kernel
theorem dX11_trial_118 : decode cX11_trial 118 = .ok (.isub, 1) := by decide +kernel
theorem dX11_trial_119 : decode cX11_trial 119 = .ok (.ireturn, 1) := by decide +kernel
theorem dX11_limit_0 : decode cX11_limit 0 = .ok (.iload_n 1, 1) := by decide +kernel
theorem dX11_limit_1 : decode cX11_limit 1 = .ok (.iconst 1, 1) := by decide +kernel
theorem dX11_limit_2 : decode cX11_limit 2 = .ok (.if_icmp .lt 9, 3) := by decide +kernel
theorem dX11_limit_5 : decode cX11_limit 5 = .ok (.iload_n 1, 1) := by decide +kernel
theorem dX11_limit_6 : decode cX11_limit 6 = .ok (.bipush 24, 2) := by decide +kernel
theorem dX11_limit_8 : decode cX11_limit 8 = .ok (.if_icmp .le 5, 3) := by decide +kernel
theorem dX11_limit_11 : decode cX11_limit 11 = .ok (.iconst (-1), 1) := by decide +kernel
theorem dX11_limit_12 : decode cX11_limit 12 = .ok (.ireturn, 1) := by decide +kernel
theorem dX11_limit_13 : decode cX11_limit 13 = .ok (.aload_n 0, 1) := by decide +kernel
theorem dX11_limit_14 : decode cX11_limit 14 = .ok (.getfield 10, 3) := by decide +kernel
theorem dX11_limit_17 : decode cX11_limit 17 = .ok (.getfield 143, 3) := by decide +kernel
theorem dX11_limit_20 : decode cX11_limit 20 = .ok (.istore_n 2, 1) := by decide +kernel
theorem dX11_limit_21 : decode cX11_limit 21 = .ok (.iload_n 1, 1) := by decide +kernel
theorem dX11_limit_22 : decode cX11_limit 22 = .ok (.iload_n 2, 1) := by decide +kernel
theorem dX11_limit_23 : decode cX11_limit 23 = .ok (.if_icmp .ne 6, 3) := by decide +kernel
theorem dX11_limit_26 : decode cX11_limit 26 = .ok (.bipush (-2), 2) := by decide +kernel
theorem dX11_limit_28 : decode cX11_limit 28 = .ok (.ireturn, 1) := by decide +kernel
theorem dX11_limit_29 : decode cX11_limit 29 = .ok (.aload_n 0, 1) := by decide +kernel
theorem dX11_limit_30 : decode cX11_limit 30 = .ok (.getfield 26, 3) := by decide +kernel
theorem dX11_limit_33 : decode cX11_limit 33 = .ok (.aload_n 0, 1) := by decide +kernel
theorem dX11_limit_34 : decode cX11_limit 34 = .ok (.getfield 10, 3) := by decide +kernel
theorem dX11_limit_37 : decode cX11_limit 37 = .ok (.invokevirtual 103, 3) := by decide +kernel
theorem dX11_limit_40 : decode cX11_limit 40 = .ok (.aload_n 0, 1) := by decide +kernel
theorem dX11_limit_41 : decode cX11_limit 41 = .ok (.getfield 10, 3) := by decide +kernel
theorem dX11_limit_44 : decode cX11_limit 44 = .ok (.iload_n 1, 1) := by decide +kernel
theorem dX11_limit_45 : decode cX11_limit 45 = .ok (.putfield 143, 3) := by decide +kernel
theorem dX11_limit_48 : decode cX11_limit 48 = .ok (.aload_n 0, 1) := by decide +kernel
theorem dX11_limit_49 : decode cX11_limit 49 = .ok (.getfield 26, 3) := by decide +kernel
theorem dX11_limit_52 : decode cX11_limit 52 = .ok (.invokevirtual 111, 3) := by decide +kernel
theorem dX11_limit_55 : decode cX11_limit 55 = .ok (.iload_n 2, 1) := by decide +kernel
theorem dX11_limit_56 : decode cX11_limit 56 = .ok (.ireturn, 1) := by decide +kernel
theorem dX11_tellsChange_0 : decode cX11_tellsChange 0 = .ok (.iload_n 1, 1) := by decide +kernel
theorem dX11_tellsChange_1 : decode cX11_tellsChange 1 = .ok (.ifCond .lt 36, 3) := by decide +kernel
theorem dX11_tellsChange_4 : decode cX11_tellsChange 4 = .ok (.aload_n 0, 1) := by decide +kernel
theorem dX11_tellsChange_5 : decode cX11_tellsChange 5 = .ok (.getfield 26, 3) := by decide +kernel
theorem dX11_tellsChange_8 : decode cX11_tellsChange 8 = .ok (.invokevirtual 111, 3) := by decide +kernel
theorem dX11_tellsChange_11 : decode cX11_tellsChange 11 = .ok (.aload_n 0, 1) := by decide +kernel
theorem dX11_tellsChange_12 : decode cX11_tellsChange 12 = .ok (.getfield 33, 3) := by decide +kernel
theorem dX11_tellsChange_15 : decode cX11_tellsChange 15 = .ok (.aload_n 0, 1) := by decide +kernel
theorem dX11_tellsChange_16 : decode cX11_tellsChange 16 = .ok (.getfield 10, 3) := by decide +kernel
theorem dX11_tellsChange_19 : decode cX11_tellsChange 19 = .ok (.invokevirtual 146, 3) := by decide +kernel
theorem dX11_tellsChange_22 : decode cX11_tellsChange 22 = .ok (.i2l, 1) := by decide +kernel
theorem dX11_tellsChange_23 : decode cX11_tellsChange 23 = .ok (.aload_n 0, 1) := by decide +kernel
theorem dX11_tellsChange_24 : decode cX11_tellsChange 24 = .ok (.getfield 10, 3) := by decide +kernel
theorem dX11_tellsChange_27 : decode cX11_tellsChange 27 = .ok (.getfield 149, 3) := by decide +kernel
theorem dX11_tellsChange_30 : decode cX11_tellsChange 30 = .ok (.getfield 153, 3) := by decide +kernel
theorem dX11_tellsChange_33 : decode cX11_tellsChange 33 = .ok (.i2l, 1) := by decide +kernel
theorem dX11_tellsChange_34 : decode cX11_tellsChange 34 = .ok (.invokevirtual 140, 3) := by decide +kernel
theorem dX11_tellsChange_37 : decode cX11_tellsChange 37 = .ok (.iload_n 1, 1) := by decide +kernel
theorem dX11_tellsChange_38 : decode cX11_tellsChange 38 = .ok (.ireturn, 1) := by decide +kernel
theorem dX11_object_0 : decode cX11_object 0 = .ok (.aload_n 0, 1) := by decide +kernel
theorem dX11_object_1 : decode cX11_object 1 = .ok (.getfield 10, 3) := by decide +kernel
theorem dX11_object_4 : decode cX11_object 4 = .ok (.iload_n 1, 1) := by decide +kernel
theorem dX11_object_5 : decode cX11_object 5 = .ok (.invokevirtual 156, 3) := by decide +kernel
theorem dX11_object_8 : decode cX11_object 8 = .ok (.ifCond .ne 13, 3) := by decide +kernel
theorem dX11_object_11 : decode cX11_object 11 = .ok (.new 159, 3) := by decide +kernel
theorem dX11_object_14 : decode cX11_object 14 = .ok (.dup, 1) := by decide +kernel
theorem dX11_object_15 : decode cX11_object 15 = .ok (.ldc 161, 2) := by decide +kernel
theorem dX11_object_17 : decode cX11_object 17 = .ok (.invokespecial 163, 3) := by decide +kernel
theorem dX11_object_20 : decode cX11_object 20 = .ok (.athrow, 1) := by decide +kernel
theorem dX11_object_21 : decode cX11_object 21 = .ok (.iload_n 2, 1) := by decide +kernel
theorem dX11_object_22 : decode cX11_object 22 = .ok (.tableswitch 122 0 6 #[42, 52, 62, 72, 82, 94, 106], 42) := by decide +kernel
theorem dX11_object_64 : decode cX11_object 64 = .ok (.aload_n 0, 1) := by decide +kernel
theorem dX11_object_65 : decode cX11_object 65 = .ok (.getfield 10, 3) := by decide +kernel
theorem dX11_object_68 : decode cX11_object 68 = .ok (.getfield 166, 3) := by decide +kernel
theorem dX11_object_71 : decode cX11_object 71 = .ok (.iload_n 1, 1) := by decide +kernel
theorem dX11_object_72 : decode cX11_object 72 = .ok (.iaload, 1) := by decide +kernel
theorem dX11_object_73 : decode cX11_object 73 = .ok (.ireturn, 1) := by decide +kernel
theorem dX11_object_74 : decode cX11_object 74 = .ok (.aload_n 0, 1) := by decide +kernel
theorem dX11_object_75 : decode cX11_object 75 = .ok (.getfield 10, 3) := by decide +kernel
theorem dX11_object_78 : decode cX11_object 78 = .ok (.getfield 169, 3) := by decide +kernel
theorem dX11_object_81 : decode cX11_object 81 = .ok (.iload_n 1, 1) := by decide +kernel
theorem dX11_object_82 : decode cX11_object 82 = .ok (.iaload, 1) := by decide +kernel
theorem dX11_object_83 : decode cX11_object 83 = .ok (.ireturn, 1) := by decide +kernel
theorem dX11_object_84 : decode cX11_object 84 = .ok (.aload_n 0, 1) := by decide +kernel
theorem dX11_object_85 : decode cX11_object 85 = .ok (.getfield 10, 3) := by decide +kernel
theorem dX11_object_88 : decode cX11_object 88 = .ok (.getfield 172, 3) := by decide +kernel
theorem dX11_object_91 : decode cX11_object 91 = .ok (.iload_n 1, 1) := by decide +kernel
theorem dX11_object_92 : decode cX11_object 92 = .ok (.iaload, 1) := by decide +kernel
theorem dX11_object_93 : decode cX11_object 93 = .ok (.ireturn, 1) := by decide +kernel
theorem dX11_object_94 : decode cX11_object 94 = .ok (.aload_n 0, 1) := by decide +kernel
theorem dX11_object_95 : decode cX11_object 95 = .ok (.getfield 10, 3) := by decide +kernel
theorem dX11_object_98 : decode cX11_object 98 = .ok (.getfield 175, 3) := by decide +kernel
theorem dX11_object_101 : decode cX11_object 101 = .ok (.iload_n 1, 1) := by decide +kernel
theorem dX11_object_102 : decode cX11_object 102 = .ok (.iaload, 1) := by decide +kernel
theorem dX11_object_103 : decode cX11_object 103 = .ok (.ireturn, 1) := by decide +kernel
theorem dX11_object_104 : decode cX11_object 104 = .ok (.aload_n 0, 1) := by decide +kernel
theorem dX11_object_105 : decode cX11_object 105 = .ok (.getfield 10, 3) := by decide +kernel
theorem dX11_object_108 : decode cX11_object 108 = .ok (.getfield 178, 3) := by decide +kernel
theorem dX11_object_111 : decode cX11_object 111 = .ok (.iload_n 1, 1) := by decide +kernel
theorem dX11_object_112 : decode cX11_object 112 = .ok (.invokestatic 181, 3) := by decide +kernel
theorem dX11_object_115 : decode cX11_object 115 = .ok (.ireturn, 1) := by decide +kernel
theorem dX11_object_116 : decode cX11_object 116 = .ok (.aload_n 0, 1) := by decide +kernel
theorem dX11_object_117 : decode cX11_object 117 = .ok (.getfield 10, 3) := by decide +kernel
theorem dX11_object_120 : decode cX11_object 120 = .ok (.getfield 149, 3) := by decide +kernel
theorem dX11_object_123 : decode cX11_object 123 = .ok (.iload_n 1, 1) := by decide +kernel
theorem dX11_object_124 : decode cX11_object 124 = .ok (.invokevirtual 185, 3) := by decide +kernel
theorem dX11_object_127 : decode cX11_object 127 = .ok (.ireturn, 1) := by decide +kernel
theorem dX11_object_128 : decode cX11_object 128 = .ok (.aload_n 0, 1) := by decide +kernel
theorem dX11_object_129 : decode cX11_object 129 = .ok (.getfield 54, 3) := by decide +kernel
theorem dX11_object_132 : decode cX11_object 132 = .ok (.aload_n 0, 1) := by decide +kernel
theorem dX11_object_133 : decode cX11_object 133 = .ok (.getfield 10, 3) := by decide +kernel
theorem dX11_object_136 : decode cX11_object 136 = .ok (.invokevirtual 188, 3) := by decide +kernel
theorem dX11_object_139 : decode cX11_object 139 = .ok (.iload_n 1, 1) := by decide +kernel
theorem dX11_object_140 : decode cX11_object 140 = .ok (.invokestatic 181, 3) := by decide +kernel
theorem dX11_object_143 : decode cX11_object 143 = .ok (.ireturn, 1) := by decide +kernel
theorem dX11_object_144 : decode cX11_object 144 = .ok (.new 159, 3) := by decide +kernel
theorem dX11_object_147 : decode cX11_object 147 = .ok (.dup, 1) := by decide +kernel
theorem dX11_object_148 : decode cX11_object 148 = .ok (.ldc 192, 2) := by decide +kernel
theorem dX11_object_150 : decode cX11_object 150 = .ok (.invokespecial 163, 3) := by decide +kernel
theorem dX11_object_153 : decode cX11_object 153 = .ok (.athrow, 1) := by decide +kernel
theorem dX11_field_0 : decode cX11_field 0 = .ok (.aload_n 0, 1) := by decide +kernel
theorem dX11_field_1 : decode cX11_field 1 = .ok (.getfield 10, 3) := by decide +kernel
theorem dX11_field_4 : decode cX11_field 4 = .ok (.iload_n 1, 1) := by decide +kernel
theorem dX11_field_5 : decode cX11_field 5 = .ok (.iload_n 2, 1) := by decide +kernel
theorem dX11_field_6 : decode cX11_field 6 = .ok (.invokevirtual 194, 3) := by decide +kernel
theorem dX11_field_9 : decode cX11_field 9 = .ok (.ifCond .ne 13, 3) := by decide +kernel
theorem dX11_field_12 : decode cX11_field 12 = .ok (.new 159, 3) := by decide +kernel
theorem dX11_field_15 : decode cX11_field 15 = .ok (.dup, 1) := by decide +kernel
theorem dX11_field_16 : decode cX11_field 16 = .ok (.ldc 198, 2) := by decide +kernel
theorem dX11_field_18 : decode cX11_field 18 = .ok (.invokespecial 163, 3) := by decide +kernel
theorem dX11_field_21 : decode cX11_field 21 = .ok (.athrow, 1) := by decide +kernel
theorem dX11_field_22 : decode cX11_field 22 = .ok (.aload_n 0, 1) := by decide +kernel
theorem dX11_field_23 : decode cX11_field 23 = .ok (.getfield 10, 3) := by decide +kernel
theorem dX11_field_26 : decode cX11_field 26 = .ok (.iload_n 1, 1) := by decide +kernel
theorem dX11_field_27 : decode cX11_field 27 = .ok (.iload_n 2, 1) := by decide +kernel
theorem dX11_field_28 : decode cX11_field 28 = .ok (.invokevirtual 200, 3) := by decide +kernel
theorem dX11_field_31 : decode cX11_field 31 = .ok (.ireturn, 1) := by decide +kernel
theorem dX11_root_0 : decode cX11_root 0 = .ok (.iload_n 1, 1) := by decide +kernel
theorem dX11_root_1 : decode cX11_root 1 = .ok (.ifCond .lt 9, 3) := by decide +kernel
