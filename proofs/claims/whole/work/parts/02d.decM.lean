theorem dX7_init_0 : decode cX7_init 0 = .ok (.aload_n 0, 1) := by decide +kernel
theorem dX7_init_1 : decode cX7_init 1 = .ok (.invokespecial 1, 3) := by decide +kernel
theorem dX7_init_4 : decode cX7_init 4 = .ok (.aload_n 0, 1) := by decide +kernel
theorem dX7_init_5 : decode cX7_init 5 = .ok (.sipush 7200, 3) := by decide +kernel
theorem dX7_init_8 : decode cX7_init 8 = .ok (.newarray .int, 2) := by decide +kernel
theorem dX7_init_10 : decode cX7_init 10 = .ok (.putfield 9, 3) := by decide +kernel
theorem dX7_init_13 : decode cX7_init 13 = .ok (.aload_n 0, 1) := by decide +kernel
theorem dX7_init_14 : decode cX7_init 14 = .ok (.bipush 18, 2) := by decide +kernel
theorem dX7_init_16 : decode cX7_init 16 = .ok (.newarray .int, 2) := by decide +kernel
theorem dX7_init_18 : decode cX7_init 18 = .ok (.putfield 13, 3) := by decide +kernel
theorem dX7_init_21 : decode cX7_init 21 = .ok (.aload_n 0, 1) := by decide +kernel
theorem dX7_init_22 : decode cX7_init 22 = .ok (.bipush 6, 2) := by decide +kernel
theorem dX7_init_24 : decode cX7_init 24 = .ok (.newarray .int, 2) := by decide +kernel
theorem dX7_init_26 : decode cX7_init 26 = .ok (.putfield 16, 3) := by decide +kernel
theorem dX7_init_29 : decode cX7_init 29 = .ok (.aload_n 0, 1) := by decide +kernel
theorem dX7_init_30 : decode cX7_init 30 = .ok (.iconst 3, 1) := by decide +kernel
theorem dX7_init_31 : decode cX7_init 31 = .ok (.bipush 6, 2) := by decide +kernel
theorem dX7_init_33 : decode cX7_init 33 = .ok (.multianewarray 19 2, 4) := by decide +kernel
theorem dX7_init_37 : decode cX7_init 37 = .ok (.putfield 21, 3) := by decide +kernel
theorem dX7_init_40 : decode cX7_init 40 = .ok (.aload_n 0, 1) := by decide +kernel
theorem dX7_init_41 : decode cX7_init 41 = .ok (.iconst 5, 1) := by decide +kernel
theorem dX7_init_42 : decode cX7_init 42 = .ok (.newarray .int, 2) := by decide +kernel
theorem dX7_init_44 : decode cX7_init 44 = .ok (.putfield 24, 3) := by decide +kernel
theorem dX7_init_47 : decode cX7_init 47 = .ok (.aload_n 0, 1) := by decide +kernel
theorem dX7_init_48 : decode cX7_init 48 = .ok (.bipush 30, 2) := by decide +kernel
theorem dX7_init_50 : decode cX7_init 50 = .ok (.newarray .int, 2) := by decide +kernel
theorem dX7_init_52 : decode cX7_init 52 = .ok (.putfield 27, 3) := by decide +kernel
theorem dX7_init_55 : decode cX7_init 55 = .ok (.aload_n 0, 1) := by decide +kernel
theorem dX7_init_56 : decode cX7_init 56 = .ok (.bipush 30, 2) := by decide +kernel
theorem dX7_init_58 : decode cX7_init 58 = .ok (.newarray .int, 2) := by decide +kernel
theorem dX7_init_60 : decode cX7_init 60 = .ok (.putfield 30, 3) := by decide +kernel
theorem dX7_init_63 : decode cX7_init 63 = .ok (.aload_n 0, 1) := by decide +kernel
theorem dX7_init_64 : decode cX7_init 64 = .ok (.sipush 9600, 3) := by decide +kernel
theorem dX7_init_67 : decode cX7_init 67 = .ok (.newarray .int, 2) := by decide +kernel
theorem dX7_init_69 : decode cX7_init 69 = .ok (.putfield 33, 3) := by decide +kernel
theorem dX7_init_72 : decode cX7_init 72 = .ok (.aload_n 0, 1) := by decide +kernel
theorem dX7_init_73 : decode cX7_init 73 = .ok (.sipush 9600, 3) := by decide +kernel
theorem dX7_init_76 : decode cX7_init 76 = .ok (.newarray .int, 2) := by decide +kernel
theorem dX7_init_78 : decode cX7_init 78 = .ok (.putfield 36, 3) := by decide +kernel
theorem dX7_init_81 : decode cX7_init 81 = .ok (.aload_n 0, 1) := by decide +kernel
theorem dX7_init_82 : decode cX7_init 82 = .ok (.iconst 3, 1) := by decide +kernel
theorem dX7_init_83 : decode cX7_init 83 = .ok (.newarray .int, 2) := by decide +kernel
theorem dX7_init_85 : decode cX7_init 85 = .ok (.putfield 39, 3) := by decide +kernel
theorem dX7_init_88 : decode cX7_init 88 = .ok (.aload_n 0, 1) := by decide +kernel
theorem dX7_init_89 : decode cX7_init 89 = .ok (.iconst 3, 1) := by decide +kernel
theorem dX7_init_90 : decode cX7_init 90 = .ok (.newarray .int, 2) := by decide +kernel
theorem dX7_init_92 : decode cX7_init 92 = .ok (.putfield 42, 3) := by decide +kernel
theorem dX7_init_95 : decode cX7_init 95 = .ok (.aload_n 0, 1) := by decide +kernel
theorem dX7_init_96 : decode cX7_init 96 = .ok (.iconst 3, 1) := by decide +kernel
theorem dX7_init_97 : decode cX7_init 97 = .ok (.newarray .int, 2) := by decide +kernel
theorem dX7_init_99 : decode cX7_init 99 = .ok (.putfield 45, 3) := by decide +kernel
theorem dX7_init_102 : decode cX7_init 102 = .ok (.aload_n 0, 1) := by decide +kernel
theorem dX7_init_103 : decode cX7_init 103 = .ok (.iconst 3, 1) := by decide +kernel
theorem dX7_init_104 : decode cX7_init 104 = .ok (.newarray .int, 2) := by decide +kernel
theorem dX7_init_106 : decode cX7_init 106 = .ok (.putfield 48, 3) := by decide +kernel
theorem dX7_init_109 : decode cX7_init 109 = .ok (.aload_n 0, 1) := by decide +kernel
theorem dX7_init_110 : decode cX7_init 110 = .ok (.iconst 3, 1) := by decide +kernel
theorem dX7_init_111 : decode cX7_init 111 = .ok (.newarray .int, 2) := by decide +kernel
theorem dX7_init_113 : decode cX7_init 113 = .ok (.putfield 51, 3) := by decide +kernel
theorem dX7_init_116 : decode cX7_init 116 = .ok (.aload_n 0, 1) := by decide +kernel
theorem dX7_init_117 : decode cX7_init 117 = .ok (.bipush 90, 2) := by decide +kernel
theorem dX7_init_119 : decode cX7_init 119 = .ok (.newarray .int, 2) := by decide +kernel
theorem dX7_init_121 : decode cX7_init 121 = .ok (.putfield 54, 3) := by decide +kernel
theorem dX7_init_124 : decode cX7_init 124 = .ok (.aload_n 0, 1) := by decide +kernel
theorem dX7_init_125 : decode cX7_init 125 = .ok (.bipush 90, 2) := by decide +kernel
theorem dX7_init_127 : decode cX7_init 127 = .ok (.newarray .int, 2) := by decide +kernel
theorem dX7_init_129 : decode cX7_init 129 = .ok (.putfield 57, 3) := by decide +kernel
theorem dX7_init_132 : decode cX7_init 132 = .ok (.aload_n 0, 1) := by decide +kernel
theorem dX7_init_133 : decode cX7_init 133 = .ok (.bipush 90, 2) := by decide +kernel
theorem dX7_init_135 : decode cX7_init 135 = .ok (.newarray .int, 2) := by decide +kernel
theorem dX7_init_137 : decode cX7_init 137 = .ok (.putfield 60, 3) := by decide +kernel
theorem dX7_init_140 : decode cX7_init 140 = .ok (.aload_n 0, 1) := by decide +kernel
theorem dX7_init_141 : decode cX7_init 141 = .ok (.bipush 90, 2) := by decide +kernel
theorem dX7_init_143 : decode cX7_init 143 = .ok (.newarray .int, 2) := by decide +kernel
theorem dX7_init_145 : decode cX7_init 145 = .ok (.putfield 63, 3) := by decide +kernel
theorem dX7_init_148 : decode cX7_init 148 = .ok (.aload_n 0, 1) := by decide +kernel
theorem dX7_init_149 : decode cX7_init 149 = .ok (.bipush 18, 2) := by decide +kernel
theorem dX7_init_151 : decode cX7_init 151 = .ok (.newarray .int, 2) := by decide +kernel
theorem dX7_init_153 : decode cX7_init 153 = .ok (.putfield 66, 3) := by decide +kernel
theorem dX7_init_156 : decode cX7_init 156 = .ok (.aload_n 0, 1) := by decide +kernel
theorem dX7_init_157 : decode cX7_init 157 = .ok (.iload_n 1, 1) := by decide +kernel
theorem dX7_init_158 : decode cX7_init 158 = .ok (.iconst 1, 1) := by decide +kernel
theorem dX7_init_159 : decode cX7_init 159 = .ok (.if_icmp .lt 9, 3) := by decide +kernel
theorem dX7_init_162 : decode cX7_init 162 = .ok (.iload_n 1, 1) := by decide +kernel
theorem dX7_init_163 : decode cX7_init 163 = .ok (.bipush 6, 2) := by decide +kernel
theorem dX7_init_165 : decode cX7_init 165 = .ok (.if_icmp .le 7, 3) := by decide +kernel
theorem dX7_init_168 : decode cX7_init 168 = .ok (.iconst 3, 1) := by decide +kernel
theorem dX7_init_169 : decode cX7_init 169 = .ok (.goto 4, 3) := by decide +kernel
theorem dX7_init_172 : decode cX7_init 172 = .ok (.iload_n 1, 1) := by decide +kernel
theorem dX7_init_173 : decode cX7_init 173 = .ok (.putfield 69, 3) := by decide +kernel
theorem dX7_init_176 : decode cX7_init 176 = .ok (.aload_n 0, 1) := by decide +kernel
theorem dX7_init_177 : decode cX7_init 177 = .ok (.iload_n 2, 1) := by decide +kernel
theorem dX7_init_178 : decode cX7_init 178 = .ok (.iconst 2, 1) := by decide +kernel
theorem dX7_init_179 : decode cX7_init 179 = .ok (.if_icmp .ne 7, 3) := by decide +kernel
theorem dX7_init_182 : decode cX7_init 182 = .ok (.iconst 5, 1) := by decide +kernel
theorem dX7_init_183 : decode cX7_init 183 = .ok (.goto 4, 3) := by decide +kernel
theorem dX7_init_186 : decode cX7_init 186 = .ok (.iconst 3, 1) := by decide +kernel
theorem dX7_init_187 : decode cX7_init 187 = .ok (.putfield 73, 3) := by decide +kernel
theorem dX7_init_190 : decode cX7_init 190 = .ok (.iconst 0, 1) := by decide +kernel
theorem dX7_init_191 : decode cX7_init 191 = .ok (.istore_n 3, 1) := by decide +kernel
theorem dX7_init_192 : decode cX7_init 192 = .ok (.iload_n 3, 1) := by decide +kernel
theorem dX7_init_193 : decode cX7_init 193 = .ok (.iconst 3, 1) := by decide +kernel
theorem dX7_init_194 : decode cX7_init 194 = .ok (.if_icmp .ge 35, 3) := by decide +kernel
theorem dX7_init_197 : decode cX7_init 197 = .ok (.iconst 0, 1) := by decide +kernel
theorem dX7_init_198 : decode cX7_init 198 = .ok (.istore 4, 2) := by decide +kernel
theorem dX7_init_200 : decode cX7_init 200 = .ok (.iload 4, 2) := by decide +kernel
theorem dX7_init_202 : decode cX7_init 202 = .ok (.bipush 6, 2) := by decide +kernel
theorem dX7_init_204 : decode cX7_init 204 = .ok (.if_icmp .ge 19, 3) := by decide +kernel
theorem dX7_init_207 : decode cX7_init 207 = .ok (.aload_n 0, 1) := by decide +kernel
theorem dX7_init_208 : decode cX7_init 208 = .ok (.getfield 21, 3) := by decide +kernel
theorem dX7_init_211 : decode cX7_init 211 = .ok (.iload_n 3, 1) := by decide +kernel
theorem dX7_init_212 : decode cX7_init 212 = .ok (.aaload, 1) := by decide +kernel
theorem dX7_init_213 : decode cX7_init 213 = .ok (.iload 4, 2) := by decide +kernel
theorem dX7_init_215 : decode cX7_init 215 = .ok (.iconst 1, 1) := by decide +kernel
theorem dX7_init_216 : decode cX7_init 216 = .ok (.bastore, 1) := by decide +kernel
theorem dX7_init_217 : decode cX7_init 217 = .ok (.iinc 4 1, 3) := by decide +kernel
theorem dX7_init_220 : decode cX7_init 220 = .ok (.goto (-20), 3) := by decide +kernel
theorem dX7_init_223 : decode cX7_init 223 = .ok (.iinc 3 1, 3) := by decide +kernel
theorem dX7_init_226 : decode cX7_init 226 = .ok (.goto (-34), 3) := by decide +kernel
theorem dX7_init_229 : decode cX7_init 229 = .ok (.iconst 0, 1) := by decide +kernel
theorem dX7_init_230 : decode cX7_init 230 = .ok (.istore_n 3, 1) := by decide +kernel
theorem dX7_init_231 : decode cX7_init 231 = .ok (.iload_n 3, 1) := by decide +kernel
theorem dX7_init_232 : decode cX7_init 232 = .ok (.aload_n 0, 1) := by decide +kernel
theorem dX7_init_233 : decode cX7_init 233 = .ok (.getfield 27, 3) := by decide +kernel
theorem dX7_init_236 : decode cX7_init 236 = .ok (.arraylength, 1) := by decide +kernel
theorem dX7_init_237 : decode cX7_init 237 = .ok (.if_icmp .ge 16, 3) := by decide +kernel
theorem dX7_init_240 : decode cX7_init 240 = .ok (.aload_n 0, 1) := by decide +kernel
theorem dX7_init_241 : decode cX7_init 241 = .ok (.getfield 27, 3) := by decide +kernel
theorem dX7_init_244 : decode cX7_init 244 = .ok (.iload_n 3, 1) := by decide +kernel
theorem dX7_init_245 : decode cX7_init 245 = .ok (.iconst (-1), 1) := by decide +kernel
theorem dX7_init_246 : decode cX7_init 246 = .ok (.iastore, 1) := by decide +kernel
theorem dX7_init_247 : decode cX7_init 247 = .ok (.iinc 3 1, 3) := by decide +kernel
theorem dX7_init_250 : decode cX7_init 250 = .ok (.goto (-19), 3) := by decide +kernel
theorem dX7_init_253 : decode cX7_init 253 = .ok (.iconst 0, 1) := by decide +kernel
theorem dX7_init_254 : decode cX7_init 254 = .ok (.istore_n 3, 1) := by decide +kernel
theorem dX7_init_255 : decode cX7_init 255 = .ok (.iload_n 3, 1) := by decide +kernel
theorem dX7_init_256 : decode cX7_init 256 = .ok (.aload_n 0, 1) := by decide +kernel
theorem dX7_init_257 : decode cX7_init 257 = .ok (.getfield 60, 3) := by decide +kernel
theorem dX7_init_260 : decode cX7_init 260 = .ok (.arraylength, 1) := by decide +kernel
theorem dX7_init_261 : decode cX7_init 261 = .ok (.if_icmp .ge 16, 3) := by decide +kernel
theorem dX7_init_264 : decode cX7_init 264 = .ok (.aload_n 0, 1) := by decide +kernel
theorem dX7_init_265 : decode cX7_init 265 = .ok (.getfield 60, 3) := by decide +kernel
theorem dX7_init_268 : decode cX7_init 268 = .ok (.iload_n 3, 1) := by decide +kernel
theorem dX7_init_269 : decode cX7_init 269 = .ok (.iconst (-1), 1) := by decide +kernel
theorem dX7_init_270 : decode cX7_init 270 = .ok (.iastore, 1) := by decide +kernel
theorem dX7_init_271 : decode cX7_init 271 = .ok (.iinc 3 1, 3) := by decide +kernel
theorem dX7_init_274 : decode cX7_init 274 = .ok (.goto (-19), 3) := by decide +kernel
theorem dX7_init_277 : decode cX7_init 277 = .ok (.return_, 1) := by decide +kernel
theorem dX7_thrown_0 : decode cX7_thrown 0 = .ok (.aload_n 0, 1) := by decide +kernel
theorem dX7_thrown_1 : decode cX7_thrown 1 = .ok (.getfield 76, 3) := by decide +kernel
theorem dX7_thrown_4 : decode cX7_thrown 4 = .ok (.ireturn, 1) := by decide +kernel
theorem dX7_lacks_0 : decode cX7_lacks 0 = .ok (.aload_n 0, 1) := by decide +kernel
theorem dX7_lacks_1 : decode cX7_lacks 1 = .ok (.iload_n 1, 1) := by decide +kernel
theorem dX7_lacks_2 : decode cX7_lacks 2 = .ok (.ifCond .eq 7, 3) := by decide +kernel
theorem dX7_lacks_5 : decode cX7_lacks 5 = .ok (.iconst 0, 1) := by decide +kernel
theorem dX7_lacks_6 : decode cX7_lacks 6 = .ok (.goto 4, 3) := by decide +kernel
theorem dX7_lacks_9 : decode cX7_lacks 9 = .ok (.iconst 1, 1) := by decide +kernel
theorem dX7_lacks_10 : decode cX7_lacks 10 = .ok (.putfield 76, 3) := by decide +kernel
theorem dX7_lacks_13 : decode cX7_lacks 13 = .ok (.iload_n 1, 1) := by decide +kernel
theorem dX7_lacks_14 : decode cX7_lacks 14 = .ok (.ifCond .ne 7, 3) := by decide +kernel
theorem dX7_lacks_17 : decode cX7_lacks 17 = .ok (.iconst 1, 1) := by decide +kernel
theorem dX7_lacks_18 : decode cX7_lacks 18 = .ok (.goto 4, 3) := by decide +kernel
theorem dX7_lacks_21 : decode cX7_lacks 21 = .ok (.iconst 0, 1) := by decide +kernel
theorem dX7_lacks_22 : decode cX7_lacks 22 = .ok (.ireturn, 1) := by decide +kernel
theorem dX7_isManager_0 : decode cX7_isManager 0 = .ok (.iload_n 1, 1) := by decide +kernel
theorem dX7_isManager_1 : decode cX7_isManager 1 = .ok (.ifCond .lt 15, 3) := by decide +kernel
theorem dX7_isManager_4 : decode cX7_isManager 4 = .ok (.iload_n 1, 1) := by decide +kernel
theorem dX7_isManager_5 : decode cX7_isManager 5 = .ok (.aload_n 0, 1) := by decide +kernel
theorem dX7_isManager_6 : decode cX7_isManager 6 = .ok (.getfield 69, 3) := by decide +kernel
theorem dX7_isManager_9 : decode cX7_isManager 9 = .ok (.if_icmp .ge 7, 3) := by decide +kernel
theorem dX7_isManager_12 : decode cX7_isManager 12 = .ok (.iconst 1, 1) := by decide +kernel
theorem dX7_isManager_13 : decode cX7_isManager 13 = .ok (.goto 4, 3) := by decide +kernel
theorem dX7_isManager_16 : decode cX7_isManager 16 = .ok (.iconst 0, 1) := by decide +kernel
theorem dX7_isManager_17 : decode cX7_isManager 17 = .ok (.ireturn, 1) := by decide +kernel
theorem dX7_isAcceptor_0 : decode cX7_isAcceptor 0 = .ok (.iload_n 1, 1) := by decide +kernel
theorem dX7_isAcceptor_1 : decode cX7_isAcceptor 1 = .ok (.ifCond .lt 15, 3) := by decide +kernel
theorem dX7_isAcceptor_4 : decode cX7_isAcceptor 4 = .ok (.iload_n 1, 1) := by decide +kernel
theorem dX7_isAcceptor_5 : decode cX7_isAcceptor 5 = .ok (.aload_n 0, 1) := by decide +kernel
theorem dX7_isAcceptor_6 : decode cX7_isAcceptor 6 = .ok (.getfield 73, 3) := by decide +kernel
theorem dX7_isAcceptor_9 : decode cX7_isAcceptor 9 = .ok (.if_icmp .ge 7, 3) := by decide +kernel
theorem dX7_isAcceptor_12 : decode cX7_isAcceptor 12 = .ok (.iconst 1, 1) := by decide +kernel
theorem dX7_isAcceptor_13 : decode cX7_isAcceptor 13 = .ok (.goto 4, 3) := by decide +kernel
theorem dX7_isAcceptor_16 : decode cX7_isAcceptor 16 = .ok (.iconst 0, 1) := by decide +kernel
theorem dX7_isAcceptor_17 : decode cX7_isAcceptor 17 = .ok (.ireturn, 1) := by decide +kernel
theorem dX7_isLeader_0 : decode cX7_isLeader 0 = .ok (.iload_n 0, 1) := by decide +kernel
theorem dX7_isLeader_1 : decode cX7_isLeader 1 = .ok (.ifCond .lt 12, 3) := by decide +kernel
theorem dX7_isLeader_4 : decode cX7_isLeader 4 = .ok (.iload_n 0, 1) := by decide +kernel
theorem dX7_isLeader_5 : decode cX7_isLeader 5 = .ok (.iconst 3, 1) := by decide +kernel
theorem dX7_isLeader_6 : decode cX7_isLeader 6 = .ok (.if_icmp .ge 7, 3) := by decide +kernel
theorem dX7_isLeader_9 : decode cX7_isLeader 9 = .ok (.iconst 1, 1) := by decide +kernel
theorem dX7_isLeader_10 : decode cX7_isLeader 10 = .ok (.goto 4, 3) := by decide +kernel
theorem dX7_isLeader_13 : decode cX7_isLeader 13 = .ok (.iconst 0, 1) := by decide +kernel
theorem dX7_isLeader_14 : decode cX7_isLeader 14 = .ok (.ireturn, 1) := by decide +kernel
theorem dX7_isMessage_0 : decode cX7_isMessage 0 = .ok (.iload_n 1, 1) := by decide +kernel
theorem dX7_isMessage_1 : decode cX7_isMessage 1 = .ok (.ifCond .lt 15, 3) := by decide +kernel
theorem dX7_isMessage_4 : decode cX7_isMessage 4 = .ok (.iload_n 1, 1) := by decide +kernel
theorem dX7_isMessage_5 : decode cX7_isMessage 5 = .ok (.aload_n 0, 1) := by decide +kernel
theorem dX7_isMessage_6 : decode cX7_isMessage 6 = .ok (.getfield 79, 3) := by decide +kernel
theorem dX7_isMessage_9 : decode cX7_isMessage 9 = .ok (.if_icmp .ge 7, 3) := by decide +kernel
theorem dX7_isMessage_12 : decode cX7_isMessage 12 = .ok (.iconst 1, 1) := by decide +kernel
theorem dX7_isMessage_13 : decode cX7_isMessage 13 = .ok (.goto 4, 3) := by decide +kernel
theorem dX7_isMessage_16 : decode cX7_isMessage 16 = .ok (.iconst 0, 1) := by decide +kernel
theorem dX7_isMessage_17 : decode cX7_isMessage 17 = .ok (.ireturn, 1) := by decide +kernel
theorem dX7_of_0 : decode cX7_of 0 = .ok (.aload_n 0, 1) := by decide +kernel
theorem dX7_of_1 : decode cX7_of 1 = .ok (.getfield 9, 3) := by decide +kernel
theorem dX7_of_4 : decode cX7_of 4 = .ok (.bipush 18, 2) := by decide +kernel
theorem dX7_of_6 : decode cX7_of 6 = .ok (.iload_n 1, 1) := by decide +kernel
theorem dX7_of_7 : decode cX7_of 7 = .ok (.imul, 1) := by decide +kernel
theorem dX7_of_8 : decode cX7_of 8 = .ok (.iload_n 2, 1) := by decide +kernel
theorem dX7_of_9 : decode cX7_of 9 = .ok (.iadd, 1) := by decide +kernel
theorem dX7_of_10 : decode cX7_of 10 = .ok (.iaload, 1) := by decide +kernel
theorem dX7_of_11 : decode cX7_of 11 = .ok (.ireturn, 1) := by decide +kernel
theorem dX7_sends_0 : decode cX7_sends 0 = .ok (.bipush 18, 2) := by decide +kernel
theorem dX7_sends_2 : decode cX7_sends 2 = .ok (.aload_n 0, 1) := by decide +kernel
theorem dX7_sends_3 : decode cX7_sends 3 = .ok (.getfield 79, 3) := by decide +kernel
theorem dX7_sends_6 : decode cX7_sends 6 = .ok (.imul, 1) := by decide +kernel
theorem dX7_sends_7 : decode cX7_sends 7 = .ok (.istore 7, 2) := by decide +kernel
theorem dX7_sends_9 : decode cX7_sends 9 = .ok (.iconst 0, 1) := by decide +kernel
theorem dX7_sends_10 : decode cX7_sends 10 = .ok (.istore 8, 2) := by decide +kernel
theorem dX7_sends_12 : decode cX7_sends 12 = .ok (.iload 8, 2) := by decide +kernel
theorem dX7_sends_14 : decode cX7_sends 14 = .ok (.bipush 18, 2) := by decide +kernel
theorem dX7_sends_16 : decode cX7_sends 16 = .ok (.if_icmp .ge 20, 3) := by decide +kernel
theorem dX7_sends_19 : decode cX7_sends 19 = .ok (.aload_n 0, 1) := by decide +kernel
theorem dX7_sends_20 : decode cX7_sends 20 = .ok (.getfield 9, 3) := by decide +kernel
theorem dX7_sends_23 : decode cX7_sends 23 = .ok (.iload 7, 2) := by decide +kernel
theorem dX7_sends_25 : decode cX7_sends 25 = .ok (.iload 8, 2) := by decide +kernel
theorem dX7_sends_27 : decode cX7_sends 27 = .ok (.iadd, 1) := by decide +kernel
theorem dX7_sends_28 : decode cX7_sends 28 = .ok (.iconst (-1), 1) := by decide +kernel
theorem dX7_sends_29 : decode cX7_sends 29 = .ok (.iastore, 1) := by decide +kernel
theorem dX7_sends_30 : decode cX7_sends 30 = .ok (.iinc 8 1, 3) := by decide +kernel
theorem dX7_sends_33 : decode cX7_sends 33 = .ok (.goto (-21), 3) := by decide +kernel
theorem dX7_sends_36 : decode cX7_sends 36 = .ok (.aload_n 0, 1) := by decide +kernel
theorem dX7_sends_37 : decode cX7_sends 37 = .ok (.getfield 9, 3) := by decide +kernel
theorem dX7_sends_40 : decode cX7_sends 40 = .ok (.iload 7, 2) := by decide +kernel
theorem dX7_sends_42 : decode cX7_sends 42 = .ok (.iload_n 1, 1) := by decide +kernel
theorem dX7_sends_43 : decode cX7_sends 43 = .ok (.iastore, 1) := by decide +kernel
theorem dX7_sends_44 : decode cX7_sends 44 = .ok (.aload_n 0, 1) := by decide +kernel
theorem dX7_sends_45 : decode cX7_sends 45 = .ok (.getfield 9, 3) := by decide +kernel
theorem dX7_sends_48 : decode cX7_sends 48 = .ok (.iload 7, 2) := by decide +kernel
theorem dX7_sends_50 : decode cX7_sends 50 = .ok (.iconst 1, 1) := by decide +kernel
theorem dX7_sends_51 : decode cX7_sends 51 = .ok (.iadd, 1) := by decide +kernel
theorem dX7_sends_52 : decode cX7_sends 52 = .ok (.iload_n 2, 1) := by decide +kernel
theorem dX7_sends_53 : decode cX7_sends 53 = .ok (.iastore, 1) := by decide +kernel
theorem dX7_sends_54 : decode cX7_sends 54 = .ok (.aload_n 0, 1) := by decide +kernel
theorem dX7_sends_55 : decode cX7_sends 55 = .ok (.getfield 9, 3) := by decide +kernel
theorem dX7_sends_58 : decode cX7_sends 58 = .ok (.iload 7, 2) := by decide +kernel
theorem dX7_sends_60 : decode cX7_sends 60 = .ok (.iconst 2, 1) := by decide +kernel
theorem dX7_sends_61 : decode cX7_sends 61 = .ok (.iadd, 1) := by decide +kernel
theorem dX7_sends_62 : decode cX7_sends 62 = .ok (.iload_n 3, 1) := by decide +kernel
theorem dX7_sends_63 : decode cX7_sends 63 = .ok (.iastore, 1) := by decide +kernel
theorem dX7_sends_64 : decode cX7_sends 64 = .ok (.aload_n 0, 1) := by decide +kernel
theorem dX7_sends_65 : decode cX7_sends 65 = .ok (.getfield 9, 3) := by decide +kernel
theorem dX7_sends_68 : decode cX7_sends 68 = .ok (.iload 7, 2) := by decide +kernel
theorem dX7_sends_70 : decode cX7_sends 70 = .ok (.iconst 3, 1) := by decide +kernel
theorem dX7_sends_71 : decode cX7_sends 71 = .ok (.iadd, 1) := by decide +kernel
theorem dX7_sends_72 : decode cX7_sends 72 = .ok (.iload 4, 2) := by decide +kernel
theorem dX7_sends_74 : decode cX7_sends 74 = .ok (.iastore, 1) := by decide +kernel
theorem dX7_sends_75 : decode cX7_sends 75 = .ok (.aload_n 0, 1) := by decide +kernel
theorem dX7_sends_76 : decode cX7_sends 76 = .ok (.getfield 9, 3) := by decide +kernel
theorem dX7_sends_79 : decode cX7_sends 79 = .ok (.iload 7, 2) := by decide +kernel
theorem dX7_sends_81 : decode cX7_sends 81 = .ok (.iconst 4, 1) := by decide +kernel
theorem dX7_sends_82 : decode cX7_sends 82 = .ok (.iadd, 1) := by decide +kernel
theorem dX7_sends_83 : decode cX7_sends 83 = .ok (.iload 5, 2) := by decide +kernel
theorem dX7_sends_85 : decode cX7_sends 85 = .ok (.iastore, 1) := by decide +kernel
theorem dX7_sends_86 : decode cX7_sends 86 = .ok (.aload_n 0, 1) := by decide +kernel
theorem dX7_sends_87 : decode cX7_sends 87 = .ok (.getfield 9, 3) := by decide +kernel
theorem dX7_sends_90 : decode cX7_sends 90 = .ok (.iload 7, 2) := by decide +kernel
theorem dX7_sends_92 : decode cX7_sends 92 = .ok (.iconst 5, 1) := by decide +kernel
theorem dX7_sends_93 : decode cX7_sends 93 = .ok (.iadd, 1) := by decide +kernel
theorem dX7_sends_94 : decode cX7_sends 94 = .ok (.iload 6, 2) := by decide +kernel
theorem dX7_sends_96 : decode cX7_sends 96 = .ok (.iastore, 1) := by decide +kernel
theorem dX7_sends_97 : decode cX7_sends 97 = .ok (.aload_n 0, 1) := by decide +kernel
theorem dX7_sends_98 : decode cX7_sends 98 = .ok (.dup, 1) := by decide +kernel
theorem dX7_sends_99 : decode cX7_sends 99 = .ok (.getfield 79, 3) := by decide +kernel
theorem dX7_sends_102 : decode cX7_sends 102 = .ok (.iconst 1, 1) := by decide +kernel
theorem dX7_sends_103 : decode cX7_sends 103 = .ok (.iadd, 1) := by decide +kernel
theorem dX7_sends_104 : decode cX7_sends 104 = .ok (.putfield 79, 3) := by decide +kernel
theorem dX7_sends_107 : decode cX7_sends 107 = .ok (.aload_n 0, 1) := by decide +kernel
theorem dX7_sends_108 : decode cX7_sends 108 = .ok (.dup, 1) := by decide +kernel
theorem dX7_sends_109 : decode cX7_sends 109 = .ok (.getfield 82, 3) := by decide +kernel
theorem dX7_sends_112 : decode cX7_sends 112 = .ok (.iconst 1, 1) := by decide +kernel
theorem dX7_sends_113 : decode cX7_sends 113 = .ok (.iadd, 1) := by decide +kernel
theorem dX7_sends_114 : decode cX7_sends 114 = .ok (.putfield 82, 3) := by decide +kernel
theorem dX7_sends_117 : decode cX7_sends 117 = .ok (.return_, 1) := by decide +kernel
theorem dX7_votes_0 : decode cX7_votes 0 = .ok (.iconst 0, 1) := by decide +kernel
theorem dX7_votes_1 : decode cX7_votes 1 = .ok (.istore 4, 2) := by decide +kernel
theorem dX7_votes_3 : decode cX7_votes 3 = .ok (.iload 4, 2) := by decide +kernel
theorem dX7_votes_5 : decode cX7_votes 5 = .ok (.aload_n 0, 1) := by decide +kernel
theorem dX7_votes_6 : decode cX7_votes 6 = .ok (.getfield 73, 3) := by decide +kernel
theorem dX7_votes_9 : decode cX7_votes 9 = .ok (.if_icmp .ge 20, 3) := by decide +kernel
theorem dX7_votes_12 : decode cX7_votes 12 = .ok (.aload_n 0, 1) := by decide +kernel
theorem dX7_votes_13 : decode cX7_votes 13 = .ok (.iconst 0, 1) := by decide +kernel
theorem dX7_votes_14 : decode cX7_votes 14 = .ok (.iload 4, 2) := by decide +kernel
theorem dX7_votes_16 : decode cX7_votes 16 = .ok (.iconst (-1), 1) := by decide +kernel
theorem dX7_votes_17 : decode cX7_votes 17 = .ok (.iload_n 1, 1) := by decide +kernel
theorem dX7_votes_18 : decode cX7_votes 18 = .ok (.iload_n 2, 1) := by decide +kernel
theorem dX7_votes_19 : decode cX7_votes 19 = .ok (.iload_n 3, 1) := by decide +kernel
theorem dX7_votes_20 : decode cX7_votes 20 = .ok (.invokevirtual 85, 3) := by decide +kernel
theorem dX7_votes_23 : decode cX7_votes 23 = .ok (.iinc 4 1, 3) := by decide +kernel
theorem dX7_votes_26 : decode cX7_votes 26 = .ok (.goto (-23), 3) := by decide +kernel
theorem dX7_votes_29 : decode cX7_votes 29 = .ok (.return_, 1) := by decide +kernel
theorem dX7_hasRoom_0 : decode cX7_hasRoom 0 = .ok (.aload_n 0, 1) := by decide +kernel
theorem dX7_hasRoom_1 : decode cX7_hasRoom 1 = .ok (.getfield 79, 3) := by decide +kernel
theorem dX7_hasRoom_4 : decode cX7_hasRoom 4 = .ok (.iload_n 1, 1) := by decide +kernel
theorem dX7_hasRoom_5 : decode cX7_hasRoom 5 = .ok (.iadd, 1) := by decide +kernel
theorem dX7_hasRoom_6 : decode cX7_hasRoom 6 = .ok (.sipush 400, 3) := by decide +kernel
theorem dX7_hasRoom_9 : decode cX7_hasRoom 9 = .ok (.if_icmp .gt 7, 3) := by decide +kernel
theorem dX7_hasRoom_12 : decode cX7_hasRoom 12 = .ok (.iconst 1, 1) := by decide +kernel
theorem dX7_hasRoom_13 : decode cX7_hasRoom 13 = .ok (.goto 4, 3) := by decide +kernel
theorem dX7_hasRoom_16 : decode cX7_hasRoom 16 = .ok (.iconst 0, 1) := by decide +kernel
theorem dX7_hasRoom_17 : decode cX7_hasRoom 17 = .ok (.ireturn, 1) := by decide +kernel
theorem dX7_becomes_0 : decode cX7_becomes 0 = .ok (.aload_n 0, 1) := by decide +kernel
theorem dX7_becomes_1 : decode cX7_becomes 1 = .ok (.aload_n 0, 1) := by decide +kernel
theorem dX7_becomes_2 : decode cX7_becomes 2 = .ok (.iload_n 1, 1) := by decide +kernel
theorem dX7_becomes_3 : decode cX7_becomes 3 = .ok (.invokevirtual 89, 3) := by decide +kernel
theorem dX7_becomes_6 : decode cX7_becomes 6 = .ok (.invokevirtual 93, 3) := by decide +kernel
theorem dX7_becomes_9 : decode cX7_becomes 9 = .ok (.ifCond .eq 5, 3) := by decide +kernel
theorem dX7_becomes_12 : decode cX7_becomes 12 = .ok (.iconst 0, 1) := by decide +kernel
theorem dX7_becomes_13 : decode cX7_becomes 13 = .ok (.ireturn, 1) := by decide +kernel
theorem dX7_becomes_14 : decode cX7_becomes 14 = .ok (.aload_n 0, 1) := by decide +kernel
theorem dX7_becomes_15 : decode cX7_becomes 15 = .ok (.getfield 21, 3) := by decide +kernel
theorem dX7_becomes_18 : decode cX7_becomes 18 = .ok (.iconst 0, 1) := by decide +kernel
theorem dX7_becomes_19 : decode cX7_becomes 19 = .ok (.aaload, 1) := by decide +kernel
theorem dX7_becomes_20 : decode cX7_becomes 20 = .ok (.iload_n 1, 1) := by decide +kernel
theorem dX7_becomes_21 : decode cX7_becomes 21 = .ok (.baload, 1) := by decide +kernel
theorem dX7_becomes_22 : decode cX7_becomes 22 = .ok (.ifCond .eq 23, 3) := by decide +kernel
theorem dX7_becomes_25 : decode cX7_becomes 25 = .ok (.aload_n 0, 1) := by decide +kernel
theorem dX7_becomes_26 : decode cX7_becomes 26 = .ok (.getfield 16, 3) := by decide +kernel
theorem dX7_becomes_29 : decode cX7_becomes 29 = .ok (.iload_n 1, 1) := by decide +kernel
theorem dX7_becomes_30 : decode cX7_becomes 30 = .ok (.iaload, 1) := by decide +kernel
theorem dX7_becomes_31 : decode cX7_becomes 31 = .ok (.ifCond .ne 14, 3) := by decide +kernel
theorem dX7_becomes_34 : decode cX7_becomes 34 = .ok (.aload_n 0, 1) := by decide +kernel
theorem dX7_becomes_35 : decode cX7_becomes 35 = .ok (.aload_n 0, 1) := by decide +kernel
theorem dX7_becomes_36 : decode cX7_becomes 36 = .ok (.getfield 73, 3) := by decide +kernel
theorem dX7_becomes_39 : decode cX7_becomes 39 = .ok (.invokevirtual 97, 3) := by decide +kernel
theorem dX7_becomes_42 : decode cX7_becomes 42 = .ok (.ifCond .ne 5, 3) := by decide +kernel
theorem dX7_becomes_45 : decode cX7_becomes 45 = .ok (.iconst 0, 1) := by decide +kernel
theorem dX7_becomes_46 : decode cX7_becomes 46 = .ok (.ireturn, 1) := by decide +kernel
theorem dX7_becomes_47 : decode cX7_becomes 47 = .ok (.aload_n 0, 1) := by decide +kernel
theorem dX7_becomes_48 : decode cX7_becomes 48 = .ok (.getfield 16, 3) := by decide +kernel
theorem dX7_becomes_51 : decode cX7_becomes 51 = .ok (.iload_n 1, 1) := by decide +kernel
theorem dX7_becomes_52 : decode cX7_becomes 52 = .ok (.iload_n 2, 1) := by decide +kernel
theorem dX7_becomes_53 : decode cX7_becomes 53 = .ok (.iastore, 1) := by decide +kernel
theorem dX7_becomes_54 : decode cX7_becomes 54 = .ok (.aload_n 0, 1) := by decide +kernel
theorem dX7_becomes_55 : decode cX7_becomes 55 = .ok (.iload_n 1, 1) := by decide +kernel
theorem dX7_becomes_56 : decode cX7_becomes 56 = .ok (.iconst 0, 1) := by decide +kernel
theorem dX7_becomes_57 : decode cX7_becomes 57 = .ok (.iload_n 2, 1) := by decide +kernel
theorem dX7_becomes_58 : decode cX7_becomes 58 = .ok (.invokevirtual 100, 3) := by decide +kernel
theorem dX7_becomes_61 : decode cX7_becomes 61 = .ok (.iconst 1, 1) := by decide +kernel
theorem dX7_becomes_62 : decode cX7_becomes 62 = .ok (.ireturn, 1) := by decide +kernel
theorem dX7_prepare_0 : decode cX7_prepare 0 = .ok (.aload_n 0, 1) := by decide +kernel
theorem dX7_prepare_1 : decode cX7_prepare 1 = .ok (.iload_n 1, 1) := by decide +kernel
theorem dX7_prepare_2 : decode cX7_prepare 2 = .ok (.iconst 1, 1) := by decide +kernel
theorem dX7_prepare_3 : decode cX7_prepare 3 = .ok (.invokevirtual 104, 3) := by decide +kernel
theorem dX7_prepare_6 : decode cX7_prepare 6 = .ok (.ireturn, 1) := by decide +kernel
theorem dX7_refuse_0 : decode cX7_refuse 0 = .ok (.aload_n 0, 1) := by decide +kernel
theorem dX7_refuse_1 : decode cX7_refuse 1 = .ok (.iload_n 1, 1) := by decide +kernel
theorem dX7_refuse_2 : decode cX7_refuse 2 = .ok (.iconst 2, 1) := by decide +kernel
theorem dX7_refuse_3 : decode cX7_refuse 3 = .ok (.invokevirtual 104, 3) := by decide +kernel
theorem dX7_refuse_6 : decode cX7_refuse 6 = .ok (.ireturn, 1) := by decide +kernel
theorem dX7_resend_0 : decode cX7_resend 0 = .ok (.aload_n 0, 1) := by decide +kernel
theorem dX7_resend_1 : decode cX7_resend 1 = .ok (.aload_n 0, 1) := by decide +kernel
theorem dX7_resend_2 : decode cX7_resend 2 = .ok (.iload_n 1, 1) := by decide +kernel
theorem dX7_resend_3 : decode cX7_resend 3 = .ok (.invokevirtual 89, 3) := by decide +kernel
theorem dX7_resend_6 : decode cX7_resend 6 = .ok (.invokevirtual 93, 3) := by decide +kernel
theorem dX7_resend_9 : decode cX7_resend 9 = .ok (.ifCond .eq 5, 3) := by decide +kernel
theorem dX7_resend_12 : decode cX7_resend 12 = .ok (.iconst 0, 1) := by decide +kernel
theorem dX7_resend_13 : decode cX7_resend 13 = .ok (.ireturn, 1) := by decide +kernel
theorem dX7_resend_14 : decode cX7_resend 14 = .ok (.aload_n 0, 1) := by decide +kernel
theorem dX7_resend_15 : decode cX7_resend 15 = .ok (.getfield 21, 3) := by decide +kernel
theorem dX7_resend_18 : decode cX7_resend 18 = .ok (.iconst 0, 1) := by decide +kernel
theorem dX7_resend_19 : decode cX7_resend 19 = .ok (.aaload, 1) := by decide +kernel
theorem dX7_resend_20 : decode cX7_resend 20 = .ok (.iload_n 1, 1) := by decide +kernel
theorem dX7_resend_21 : decode cX7_resend 21 = .ok (.baload, 1) := by decide +kernel
theorem dX7_resend_22 : decode cX7_resend 22 = .ok (.ifCond .eq 34, 3) := by decide +kernel
theorem dX7_resend_25 : decode cX7_resend 25 = .ok (.aload_n 0, 1) := by decide +kernel
theorem dX7_resend_26 : decode cX7_resend 26 = .ok (.getfield 16, 3) := by decide +kernel
theorem dX7_resend_29 : decode cX7_resend 29 = .ok (.iload_n 1, 1) := by decide +kernel
theorem dX7_resend_30 : decode cX7_resend 30 = .ok (.iaload, 1) := by decide +kernel
theorem dX7_resend_31 : decode cX7_resend 31 = .ok (.iconst 1, 1) := by decide +kernel
theorem dX7_resend_32 : decode cX7_resend 32 = .ok (.if_icmp .eq 13, 3) := by decide +kernel
theorem dX7_resend_35 : decode cX7_resend 35 = .ok (.aload_n 0, 1) := by decide +kernel
theorem dX7_resend_36 : decode cX7_resend 36 = .ok (.getfield 16, 3) := by decide +kernel
theorem dX7_resend_39 : decode cX7_resend 39 = .ok (.iload_n 1, 1) := by decide +kernel
theorem dX7_resend_40 : decode cX7_resend 40 = .ok (.iaload, 1) := by decide +kernel
theorem dX7_resend_41 : decode cX7_resend 41 = .ok (.iconst 2, 1) := by decide +kernel
theorem dX7_resend_42 : decode cX7_resend 42 = .ok (.if_icmp .ne 14, 3) := by decide +kernel
theorem dX7_resend_45 : decode cX7_resend 45 = .ok (.aload_n 0, 1) := by decide +kernel
theorem dX7_resend_46 : decode cX7_resend 46 = .ok (.aload_n 0, 1) := by decide +kernel
theorem dX7_resend_47 : decode cX7_resend 47 = .ok (.getfield 73, 3) := by decide +kernel
theorem dX7_resend_50 : decode cX7_resend 50 = .ok (.invokevirtual 97, 3) := by decide +kernel
theorem dX7_resend_53 : decode cX7_resend 53 = .ok (.ifCond .ne 5, 3) := by decide +kernel
theorem dX7_resend_56 : decode cX7_resend 56 = .ok (.iconst 0, 1) := by decide +kernel
theorem dX7_resend_57 : decode cX7_resend 57 = .ok (.ireturn, 1) := by decide +kernel
theorem dX7_resend_58 : decode cX7_resend 58 = .ok (.aload_n 0, 1) := by decide +kernel
theorem dX7_resend_59 : decode cX7_resend 59 = .ok (.iload_n 1, 1) := by decide +kernel
theorem dX7_resend_60 : decode cX7_resend 60 = .ok (.iconst 0, 1) := by decide +kernel
theorem dX7_resend_61 : decode cX7_resend 61 = .ok (.aload_n 0, 1) := by decide +kernel
theorem dX7_resend_62 : decode cX7_resend 62 = .ok (.getfield 16, 3) := by decide +kernel
theorem dX7_resend_65 : decode cX7_resend 65 = .ok (.iload_n 1, 1) := by decide +kernel
theorem dX7_resend_66 : decode cX7_resend 66 = .ok (.iaload, 1) := by decide +kernel
theorem dX7_resend_67 : decode cX7_resend 67 = .ok (.invokevirtual 100, 3) := by decide +kernel
theorem dX7_resend_70 : decode cX7_resend 70 = .ok (.iconst 1, 1) := by decide +kernel
theorem dX7_resend_71 : decode cX7_resend 71 = .ok (.ireturn, 1) := by decide +kernel
theorem dX7_question_0 : decode cX7_question 0 = .ok (.aload_n 0, 1) := by decide +kernel
theorem dX7_question_1 : decode cX7_question 1 = .ok (.aload_n 0, 1) := by decide +kernel
theorem dX7_question_2 : decode cX7_question 2 = .ok (.iload_n 1, 1) := by decide +kernel
theorem dX7_question_3 : decode cX7_question 3 = .ok (.invokevirtual 89, 3) := by decide +kernel
theorem dX7_question_6 : decode cX7_question 6 = .ok (.invokevirtual 93, 3) := by decide +kernel
theorem dX7_question_9 : decode cX7_question 9 = .ok (.ifCond .eq 5, 3) := by decide +kernel
theorem dX7_question_12 : decode cX7_question 12 = .ok (.iconst 0, 1) := by decide +kernel
theorem dX7_question_13 : decode cX7_question 13 = .ok (.ireturn, 1) := by decide +kernel
theorem dX7_question_14 : decode cX7_question 14 = .ok (.aload_n 0, 1) := by decide +kernel
theorem dX7_question_15 : decode cX7_question 15 = .ok (.getfield 21, 3) := by decide +kernel
theorem dX7_question_18 : decode cX7_question 18 = .ok (.iconst 0, 1) := by decide +kernel
theorem dX7_question_19 : decode cX7_question 19 = .ok (.aaload, 1) := by decide +kernel
theorem dX7_question_20 : decode cX7_question 20 = .ok (.iload_n 1, 1) := by decide +kernel
theorem dX7_question_21 : decode cX7_question 21 = .ok (.baload, 1) := by decide +kernel
theorem dX7_question_22 : decode cX7_question 22 = .ok (.ifCond .eq 11, 3) := by decide +kernel
theorem dX7_question_25 : decode cX7_question 25 = .ok (.aload_n 0, 1) := by decide +kernel
theorem dX7_question_26 : decode cX7_question 26 = .ok (.iconst 3, 1) := by decide +kernel
theorem dX7_question_27 : decode cX7_question 27 = .ok (.invokevirtual 97, 3) := by decide +kernel
theorem dX7_question_30 : decode cX7_question 30 = .ok (.ifCond .ne 5, 3) := by decide +kernel
theorem dX7_question_33 : decode cX7_question 33 = .ok (.iconst 0, 1) := by decide +kernel
theorem dX7_question_34 : decode cX7_question 34 = .ok (.ireturn, 1) := by decide +kernel
theorem dX7_question_35 : decode cX7_question 35 = .ok (.iconst 0, 1) := by decide +kernel
theorem dX7_question_36 : decode cX7_question 36 = .ok (.istore_n 2, 1) := by decide +kernel
theorem dX7_question_37 : decode cX7_question 37 = .ok (.iload_n 2, 1) := by decide +kernel
theorem dX7_question_38 : decode cX7_question 38 = .ok (.iconst 3, 1) := by decide +kernel
theorem dX7_question_39 : decode cX7_question 39 = .ok (.if_icmp .ge 19, 3) := by decide +kernel
theorem dX7_question_42 : decode cX7_question 42 = .ok (.aload_n 0, 1) := by decide +kernel
theorem dX7_question_43 : decode cX7_question 43 = .ok (.iconst 5, 1) := by decide +kernel
theorem dX7_question_44 : decode cX7_question 44 = .ok (.iload_n 2, 1) := by decide +kernel
theorem dX7_question_45 : decode cX7_question 45 = .ok (.iload_n 1, 1) := by decide +kernel
theorem dX7_question_46 : decode cX7_question 46 = .ok (.iconst (-1), 1) := by decide +kernel
theorem dX7_question_47 : decode cX7_question 47 = .ok (.iconst (-1), 1) := by decide +kernel
theorem dX7_question_48 : decode cX7_question 48 = .ok (.iconst (-1), 1) := by decide +kernel
theorem dX7_question_49 : decode cX7_question 49 = .ok (.invokevirtual 85, 3) := by decide +kernel
theorem dX7_question_52 : decode cX7_question 52 = .ok (.iinc 2 1, 3) := by decide +kernel
theorem dX7_question_55 : decode cX7_question 55 = .ok (.goto (-18), 3) := by decide +kernel
theorem dX7_question_58 : decode cX7_question 58 = .ok (.iconst 1, 1) := by decide +kernel
theorem dX7_question_59 : decode cX7_question 59 = .ok (.ireturn, 1) := by decide +kernel
theorem dX7_begin_0 : decode cX7_begin 0 = .ok (.aload_n 0, 1) := by decide +kernel
theorem dX7_begin_1 : decode cX7_begin 1 = .ok (.iload_n 1, 1) := by decide +kernel
theorem dX7_begin_2 : decode cX7_begin 2 = .ok (.invokestatic 108, 3) := by decide +kernel
theorem dX7_begin_5 : decode cX7_begin 5 = .ok (.invokevirtual 93, 3) := by decide +kernel
theorem dX7_begin_8 : decode cX7_begin 8 = .ok (.ifCond .eq 5, 3) := by decide +kernel
theorem dX7_begin_11 : decode cX7_begin 11 = .ok (.iconst 0, 1) := by decide +kernel
theorem dX7_begin_12 : decode cX7_begin 12 = .ok (.ireturn, 1) := by decide +kernel
theorem dX7_begin_13 : decode cX7_begin 13 = .ok (.aload_n 0, 1) := by decide +kernel
theorem dX7_begin_14 : decode cX7_begin 14 = .ok (.getfield 21, 3) := by decide +kernel
theorem dX7_begin_17 : decode cX7_begin 17 = .ok (.iconst 2, 1) := by decide +kernel
theorem dX7_begin_18 : decode cX7_begin 18 = .ok (.aaload, 1) := by decide +kernel
theorem dX7_begin_19 : decode cX7_begin 19 = .ok (.iload_n 1, 1) := by decide +kernel
theorem dX7_begin_20 : decode cX7_begin 20 = .ok (.baload, 1) := by decide +kernel
theorem dX7_begin_21 : decode cX7_begin 21 = .ok (.ifCond .eq 32, 3) := by decide +kernel
theorem dX7_begin_24 : decode cX7_begin 24 = .ok (.aload_n 0, 1) := by decide +kernel
theorem dX7_begin_25 : decode cX7_begin 25 = .ok (.aload_n 0, 1) := by decide +kernel
theorem dX7_begin_26 : decode cX7_begin 26 = .ok (.getfield 73, 3) := by decide +kernel
theorem dX7_begin_29 : decode cX7_begin 29 = .ok (.aload_n 0, 1) := by decide +kernel
theorem dX7_begin_30 : decode cX7_begin 30 = .ok (.getfield 48, 3) := by decide +kernel
theorem dX7_begin_33 : decode cX7_begin 33 = .ok (.iload_n 1, 1) := by decide +kernel
theorem dX7_begin_34 : decode cX7_begin 34 = .ok (.iaload, 1) := by decide +kernel
theorem dX7_begin_35 : decode cX7_begin 35 = .ok (.ifCond .le 10, 3) := by decide +kernel
theorem dX7_begin_38 : decode cX7_begin 38 = .ok (.aload_n 0, 1) := by decide +kernel
theorem dX7_begin_39 : decode cX7_begin 39 = .ok (.getfield 69, 3) := by decide +kernel
theorem dX7_begin_42 : decode cX7_begin 42 = .ok (.goto 4, 3) := by decide +kernel
theorem dX7_begin_45 : decode cX7_begin 45 = .ok (.iconst 0, 1) := by decide +kernel
theorem dX7_begin_46 : decode cX7_begin 46 = .ok (.iadd, 1) := by decide +kernel
theorem dX7_begin_47 : decode cX7_begin 47 = .ok (.invokevirtual 97, 3) := by decide +kernel
theorem dX7_begin_50 : decode cX7_begin 50 = .ok (.ifCond .ne 5, 3) := by decide +kernel
theorem dX7_begin_53 : decode cX7_begin 53 = .ok (.iconst (-1), 1) := by decide +kernel
theorem dX7_begin_54 : decode cX7_begin 54 = .ok (.ireturn, 1) := by decide +kernel
theorem dX7_begin_55 : decode cX7_begin 55 = .ok (.iload_n 1, 1) := by decide +kernel
theorem dX7_begin_56 : decode cX7_begin 56 = .ok (.iconst 1, 1) := by decide +kernel
theorem dX7_begin_57 : decode cX7_begin 57 = .ok (.iadd, 1) := by decide +kernel
theorem dX7_begin_58 : decode cX7_begin 58 = .ok (.istore_n 2, 1) := by decide +kernel
theorem dX7_begin_59 : decode cX7_begin 59 = .ok (.iload_n 2, 1) := by decide +kernel
theorem dX7_begin_60 : decode cX7_begin 60 = .ok (.aload_n 0, 1) := by decide +kernel
theorem dX7_begin_61 : decode cX7_begin 61 = .ok (.getfield 45, 3) := by decide +kernel
theorem dX7_begin_64 : decode cX7_begin 64 = .ok (.iload_n 1, 1) := by decide +kernel
theorem dX7_begin_65 : decode cX7_begin 65 = .ok (.iaload, 1) := by decide +kernel
theorem dX7_begin_66 : decode cX7_begin 66 = .ok (.if_icmp .gt 9, 3) := by decide +kernel
theorem dX7_begin_69 : decode cX7_begin 69 = .ok (.iinc 2 3, 3) := by decide +kernel
theorem dX7_begin_72 : decode cX7_begin 72 = .ok (.goto (-13), 3) := by decide +kernel
theorem dX7_begin_75 : decode cX7_begin 75 = .ok (.aload_n 0, 1) := by decide +kernel
theorem dX7_begin_76 : decode cX7_begin 76 = .ok (.getfield 39, 3) := by decide +kernel
theorem dX7_begin_79 : decode cX7_begin 79 = .ok (.iload_n 1, 1) := by decide +kernel
theorem dX7_begin_80 : decode cX7_begin 80 = .ok (.iload_n 2, 1) := by decide +kernel
theorem dX7_begin_81 : decode cX7_begin 81 = .ok (.iastore, 1) := by decide +kernel
theorem dX7_begin_82 : decode cX7_begin 82 = .ok (.aload_n 0, 1) := by decide +kernel
theorem dX7_begin_83 : decode cX7_begin 83 = .ok (.getfield 45, 3) := by decide +kernel
theorem dX7_begin_86 : decode cX7_begin 86 = .ok (.iload_n 1, 1) := by decide +kernel
theorem dX7_begin_87 : decode cX7_begin 87 = .ok (.iload_n 2, 1) := by decide +kernel
theorem dX7_begin_88 : decode cX7_begin 88 = .ok (.iastore, 1) := by decide +kernel
theorem dX7_begin_89 : decode cX7_begin 89 = .ok (.aload_n 0, 1) := by decide +kernel
theorem dX7_begin_90 : decode cX7_begin 90 = .ok (.getfield 42, 3) := by decide +kernel
theorem dX7_begin_93 : decode cX7_begin 93 = .ok (.iload_n 1, 1) := by decide +kernel
theorem dX7_begin_94 : decode cX7_begin 94 = .ok (.iconst 1, 1) := by decide +kernel
theorem dX7_begin_95 : decode cX7_begin 95 = .ok (.iastore, 1) := by decide +kernel
theorem dX7_begin_96 : decode cX7_begin 96 = .ok (.aload_n 0, 1) := by decide +kernel
theorem dX7_begin_97 : decode cX7_begin 97 = .ok (.getfield 51, 3) := by decide +kernel
theorem dX7_begin_100 : decode cX7_begin 100 = .ok (.iload_n 1, 1) := by decide +kernel
theorem dX7_begin_101 : decode cX7_begin 101 = .ok (.iconst 0, 1) := by decide +kernel
theorem dX7_begin_102 : decode cX7_begin 102 = .ok (.iastore, 1) := by decide +kernel
theorem dX7_begin_103 : decode cX7_begin 103 = .ok (.aload_n 0, 1) := by decide +kernel
theorem dX7_begin_104 : decode cX7_begin 104 = .ok (.dup, 1) := by decide +kernel
theorem dX7_begin_105 : decode cX7_begin 105 = .ok (.getfield 111, 3) := by decide +kernel
theorem dX7_begin_108 : decode cX7_begin 108 = .ok (.iconst 1, 1) := by decide +kernel
theorem dX7_begin_109 : decode cX7_begin 109 = .ok (.iadd, 1) := by decide +kernel
theorem dX7_begin_110 : decode cX7_begin 110 = .ok (.putfield 111, 3) := by decide +kernel
theorem dX7_begin_113 : decode cX7_begin 113 = .ok (.iconst 0, 1) := by decide +kernel
theorem dX7_begin_114 : decode cX7_begin 114 = .ok (.istore_n 3, 1) := by decide +kernel
theorem dX7_begin_115 : decode cX7_begin 115 = .ok (.iload_n 3, 1) := by decide +kernel
theorem dX7_begin_116 : decode cX7_begin 116 = .ok (.aload_n 0, 1) := by decide +kernel
theorem dX7_begin_117 : decode cX7_begin 117 = .ok (.getfield 73, 3) := by decide +kernel
theorem dX7_begin_120 : decode cX7_begin 120 = .ok (.if_icmp .ge 19, 3) := by decide +kernel
theorem dX7_begin_123 : decode cX7_begin 123 = .ok (.aload_n 0, 1) := by decide +kernel
theorem dX7_begin_124 : decode cX7_begin 124 = .ok (.iconst 2, 1) := by decide +kernel
theorem dX7_begin_125 : decode cX7_begin 125 = .ok (.iload_n 3, 1) := by decide +kernel
theorem dX7_begin_126 : decode cX7_begin 126 = .ok (.iconst (-1), 1) := by decide +kernel
theorem dX7_begin_127 : decode cX7_begin 127 = .ok (.iconst (-1), 1) := by decide +kernel
theorem dX7_begin_128 : decode cX7_begin 128 = .ok (.iload_n 2, 1) := by decide +kernel
theorem dX7_begin_129 : decode cX7_begin 129 = .ok (.iconst (-1), 1) := by decide +kernel
theorem dX7_begin_130 : decode cX7_begin 130 = .ok (.invokevirtual 85, 3) := by decide +kernel
theorem dX7_begin_133 : decode cX7_begin 133 = .ok (.iinc 3 1, 3) := by decide +kernel
theorem dX7_begin_136 : decode cX7_begin 136 = .ok (.goto (-21), 3) := by decide +kernel
theorem dX7_begin_139 : decode cX7_begin 139 = .ok (.iconst 0, 1) := by decide +kernel
theorem dX7_begin_140 : decode cX7_begin 140 = .ok (.istore_n 3, 1) := by decide +kernel
theorem dX7_begin_141 : decode cX7_begin 141 = .ok (.iload_n 3, 1) := by decide +kernel
theorem dX7_begin_142 : decode cX7_begin 142 = .ok (.aload_n 0, 1) := by decide +kernel
theorem dX7_begin_143 : decode cX7_begin 143 = .ok (.getfield 69, 3) := by decide +kernel
theorem dX7_begin_146 : decode cX7_begin 146 = .ok (.if_icmp .ge 33, 3) := by decide +kernel
theorem dX7_begin_149 : decode cX7_begin 149 = .ok (.aload_n 0, 1) := by decide +kernel
theorem dX7_begin_150 : decode cX7_begin 150 = .ok (.getfield 48, 3) := by decide +kernel
theorem dX7_begin_153 : decode cX7_begin 153 = .ok (.iload_n 1, 1) := by decide +kernel
theorem dX7_begin_154 : decode cX7_begin 154 = .ok (.iaload, 1) := by decide +kernel
theorem dX7_begin_155 : decode cX7_begin 155 = .ok (.ifCond .le 24, 3) := by decide +kernel
theorem dX7_begin_158 : decode cX7_begin 158 = .ok (.aload_n 0, 1) := by decide +kernel
theorem dX7_begin_159 : decode cX7_begin 159 = .ok (.iconst 4, 1) := by decide +kernel
theorem dX7_begin_160 : decode cX7_begin 160 = .ok (.iload_n 3, 1) := by decide +kernel
theorem dX7_begin_161 : decode cX7_begin 161 = .ok (.iconst (-1), 1) := by decide +kernel
theorem dX7_begin_162 : decode cX7_begin 162 = .ok (.iconst (-1), 1) := by decide +kernel
theorem dX7_begin_163 : decode cX7_begin 163 = .ok (.iconst (-1), 1) := by decide +kernel
theorem dX7_begin_164 : decode cX7_begin 164 = .ok (.aload_n 0, 1) := by decide +kernel
theorem dX7_begin_165 : decode cX7_begin 165 = .ok (.getfield 48, 3) := by decide +kernel
theorem dX7_begin_168 : decode cX7_begin 168 = .ok (.iload_n 1, 1) := by decide +kernel
theorem dX7_begin_169 : decode cX7_begin 169 = .ok (.iaload, 1) := by decide +kernel
theorem dX7_begin_170 : decode cX7_begin 170 = .ok (.invokevirtual 85, 3) := by decide +kernel
theorem dX7_begin_173 : decode cX7_begin 173 = .ok (.iinc 3 1, 3) := by decide +kernel
theorem dX7_begin_176 : decode cX7_begin 176 = .ok (.goto (-35), 3) := by decide +kernel
theorem dX7_begin_179 : decode cX7_begin 179 = .ok (.iload_n 2, 1) := by decide +kernel
theorem dX7_begin_180 : decode cX7_begin 180 = .ok (.ireturn, 1) := by decide +kernel
theorem dX7_remove_0 : decode cX7_remove 0 = .ok (.bipush 18, 2) := by decide +kernel
theorem dX7_remove_2 : decode cX7_remove 2 = .ok (.iload_n 1, 1) := by decide +kernel
theorem dX7_remove_3 : decode cX7_remove 3 = .ok (.imul, 1) := by decide +kernel
theorem dX7_remove_4 : decode cX7_remove 4 = .ok (.istore_n 2, 1) := by decide +kernel
theorem dX7_remove_5 : decode cX7_remove 5 = .ok (.iload_n 2, 1) := by decide +kernel
theorem dX7_remove_6 : decode cX7_remove 6 = .ok (.bipush 18, 2) := by decide +kernel
theorem dX7_remove_8 : decode cX7_remove 8 = .ok (.aload_n 0, 1) := by decide +kernel
theorem dX7_remove_9 : decode cX7_remove 9 = .ok (.getfield 79, 3) := by decide +kernel
theorem dX7_remove_12 : decode cX7_remove 12 = .ok (.iconst 1, 1) := by decide +kernel
theorem dX7_remove_13 : decode cX7_remove 13 = .ok (.isub, 1) := by decide +kernel
theorem dX7_remove_14 : decode cX7_remove 14 = .ok (.imul, 1) := by decide +kernel
theorem dX7_remove_15 : decode cX7_remove 15 = .ok (.if_icmp .ge 24, 3) := by decide +kernel
theorem dX7_remove_18 : decode cX7_remove 18 = .ok (.aload_n 0, 1) := by decide +kernel
theorem dX7_remove_19 : decode cX7_remove 19 = .ok (.getfield 9, 3) := by decide +kernel
theorem dX7_remove_22 : decode cX7_remove 22 = .ok (.iload_n 2, 1) := by decide +kernel
theorem dX7_remove_23 : decode cX7_remove 23 = .ok (.aload_n 0, 1) := by decide +kernel
theorem dX7_remove_24 : decode cX7_remove 24 = .ok (.getfield 9, 3) := by decide +kernel
theorem dX7_remove_27 : decode cX7_remove 27 = .ok (.iload_n 2, 1) := by decide +kernel
theorem dX7_remove_28 : decode cX7_remove 28 = .ok (.bipush 18, 2) := by decide +kernel
theorem dX7_remove_30 : decode cX7_remove 30 = .ok (.iadd, 1) := by decide +kernel
theorem dX7_remove_31 : decode cX7_remove 31 = .ok (.iaload, 1) := by decide +kernel
theorem dX7_remove_32 : decode cX7_remove 32 = .ok (.iastore, 1) := by decide +kernel
theorem dX7_remove_33 : decode cX7_remove 33 = .ok (.iinc 2 1, 3) := by decide +kernel
theorem dX7_remove_36 : decode cX7_remove 36 = .ok (.goto (-31), 3) := by decide +kernel
theorem dX7_remove_39 : decode cX7_remove 39 = .ok (.aload_n 0, 1) := by decide +kernel
theorem dX7_remove_40 : decode cX7_remove 40 = .ok (.dup, 1) := by decide +kernel
theorem dX7_remove_41 : decode cX7_remove 41 = .ok (.getfield 79, 3) := by decide +kernel
theorem dX7_remove_44 : decode cX7_remove 44 = .ok (.iconst 1, 1) := by decide +kernel
theorem dX7_remove_45 : decode cX7_remove 45 = .ok (.isub, 1) := by decide +kernel
theorem dX7_remove_46 : decode cX7_remove 46 = .ok (.putfield 79, 3) := by decide +kernel
theorem dX7_remove_49 : decode cX7_remove 49 = .ok (.return_, 1) := by decide +kernel
theorem dX7_bits_0 : decode cX7_bits 0 = .ok (.iconst 0, 1) := by decide +kernel
theorem dX7_bits_1 : decode cX7_bits 1 = .ok (.istore_n 1, 1) := by decide +kernel
theorem dX7_bits_2 : decode cX7_bits 2 = .ok (.iconst 0, 1) := by decide +kernel
theorem dX7_bits_3 : decode cX7_bits 3 = .ok (.istore_n 2, 1) := by decide +kernel
theorem dX7_bits_4 : decode cX7_bits 4 = .ok (.iload_n 2, 1) := by decide +kernel
theorem dX7_bits_5 : decode cX7_bits 5 = .ok (.iconst 5, 1) := by decide +kernel
theorem dX7_bits_6 : decode cX7_bits 6 = .ok (.if_icmp .ge 17, 3) := by decide +kernel
theorem dX7_bits_9 : decode cX7_bits 9 = .ok (.iload_n 1, 1) := by decide +kernel
theorem dX7_bits_10 : decode cX7_bits 10 = .ok (.iload_n 0, 1) := by decide +kernel
theorem dX7_bits_11 : decode cX7_bits 11 = .ok (.iload_n 2, 1) := by decide +kernel
theorem dX7_bits_12 : decode cX7_bits 12 = .ok (.ishr, 1) := by decide +kernel
theorem dX7_bits_13 : decode cX7_bits 13 = .ok (.iconst 1, 1) := by decide +kernel
theorem dX7_bits_14 : decode cX7_bits 14 = .ok (.iand, 1) := by decide +kernel
theorem dX7_bits_15 : decode cX7_bits 15 = .ok (.iadd, 1) := by decide +kernel
theorem dX7_bits_16 : decode cX7_bits 16 = .ok (.istore_n 1, 1) := by decide +kernel
theorem dX7_bits_17 : decode cX7_bits 17 = .ok (.iinc 2 1, 3) := by decide +kernel
theorem dX7_bits_20 : decode cX7_bits 20 = .ok (.goto (-16), 3) := by decide +kernel
theorem dX7_bits_23 : decode cX7_bits 23 = .ok (.iload_n 1, 1) := by decide +kernel
theorem dX7_bits_24 : decode cX7_bits 24 = .ok (.ireturn, 1) := by decide +kernel
theorem dX7_isMost_0 : decode cX7_isMost 0 = .ok (.iconst 2, 1) := by decide +kernel
theorem dX7_isMost_1 : decode cX7_isMost 1 = .ok (.iload_n 1, 1) := by decide +kernel
theorem dX7_isMost_2 : decode cX7_isMost 2 = .ok (.imul, 1) := by decide +kernel
theorem dX7_isMost_3 : decode cX7_isMost 3 = .ok (.aload_n 0, 1) := by decide +kernel
theorem dX7_isMost_4 : decode cX7_isMost 4 = .ok (.getfield 73, 3) := by decide +kernel
theorem dX7_isMost_7 : decode cX7_isMost 7 = .ok (.if_icmp .le 7, 3) := by decide +kernel
theorem dX7_isMost_10 : decode cX7_isMost 10 = .ok (.iconst 1, 1) := by decide +kernel
theorem dX7_isMost_11 : decode cX7_isMost 11 = .ok (.goto 4, 3) := by decide +kernel
theorem dX7_isMost_14 : decode cX7_isMost 14 = .ok (.iconst 0, 1) := by decide +kernel
theorem dX7_isMost_15 : decode cX7_isMost 15 = .ok (.ireturn, 1) := by decide +kernel
theorem dX7_leadsTo_0 : decode cX7_leadsTo 0 = .ok (.aload_n 0, 1) := by decide +kernel
theorem dX7_leadsTo_1 : decode cX7_leadsTo 1 = .ok (.iload_n 1, 1) := by decide +kernel
theorem dX7_leadsTo_2 : decode cX7_leadsTo 2 = .ok (.iconst 1, 1) := by decide +kernel
theorem dX7_leadsTo_3 : decode cX7_leadsTo 3 = .ok (.invokevirtual 114, 3) := by decide +kernel
theorem dX7_leadsTo_6 : decode cX7_leadsTo 6 = .ok (.istore_n 2, 1) := by decide +kernel
theorem dX7_leadsTo_7 : decode cX7_leadsTo 7 = .ok (.aload_n 0, 1) := by decide +kernel
theorem dX7_leadsTo_8 : decode cX7_leadsTo 8 = .ok (.iload_n 1, 1) := by decide +kernel
theorem dX7_leadsTo_9 : decode cX7_leadsTo 9 = .ok (.iconst 4, 1) := by decide +kernel
theorem dX7_leadsTo_10 : decode cX7_leadsTo 10 = .ok (.invokevirtual 114, 3) := by decide +kernel
theorem dX7_leadsTo_13 : decode cX7_leadsTo 13 = .ok (.istore_n 3, 1) := by decide +kernel
theorem dX7_leadsTo_14 : decode cX7_leadsTo 14 = .ok (.aload_n 0, 1) := by decide +kernel
theorem dX7_leadsTo_15 : decode cX7_leadsTo 15 = .ok (.iload_n 1, 1) := by decide +kernel
theorem dX7_leadsTo_16 : decode cX7_leadsTo 16 = .ok (.iconst 0, 1) := by decide +kernel
theorem dX7_leadsTo_17 : decode cX7_leadsTo 17 = .ok (.invokevirtual 114, 3) := by decide +kernel
theorem dX7_leadsTo_20 : decode cX7_leadsTo 20 = .ok (.tableswitch 218 0 5 #[40, 164, 67, 94, 218, 192], 40) := by decide +kernel
theorem dX7_leadsTo_60 : decode cX7_leadsTo 60 = .ok (.aload_n 0, 1) := by decide +kernel
theorem dX7_leadsTo_61 : decode cX7_leadsTo 61 = .ok (.getfield 21, 3) := by decide +kernel
theorem dX7_leadsTo_64 : decode cX7_leadsTo 64 = .ok (.iconst 1, 1) := by decide +kernel
theorem dX7_leadsTo_65 : decode cX7_leadsTo 65 = .ok (.aaload, 1) := by decide +kernel
theorem dX7_leadsTo_66 : decode cX7_leadsTo 66 = .ok (.iload_n 2, 1) := by decide +kernel
theorem dX7_leadsTo_67 : decode cX7_leadsTo 67 = .ok (.baload, 1) := by decide +kernel
theorem dX7_leadsTo_68 : decode cX7_leadsTo 68 = .ok (.ifCond .eq 17, 3) := by decide +kernel
theorem dX7_leadsTo_71 : decode cX7_leadsTo 71 = .ok (.iload_n 3, 1) := by decide +kernel
theorem dX7_leadsTo_72 : decode cX7_leadsTo 72 = .ok (.aload_n 0, 1) := by decide +kernel
theorem dX7_leadsTo_73 : decode cX7_leadsTo 73 = .ok (.getfield 24, 3) := by decide +kernel
theorem dX7_leadsTo_76 : decode cX7_leadsTo 76 = .ok (.iload_n 2, 1) := by decide +kernel
theorem dX7_leadsTo_77 : decode cX7_leadsTo 77 = .ok (.iaload, 1) := by decide +kernel
theorem dX7_leadsTo_78 : decode cX7_leadsTo 78 = .ok (.if_icmp .lt 7, 3) := by decide +kernel
theorem dX7_leadsTo_81 : decode cX7_leadsTo 81 = .ok (.iconst 3, 1) := by decide +kernel
theorem dX7_leadsTo_82 : decode cX7_leadsTo 82 = .ok (.goto 4, 3) := by decide +kernel
theorem dX7_leadsTo_85 : decode cX7_leadsTo 85 = .ok (.iconst 0, 1) := by decide +kernel
theorem dX7_leadsTo_86 : decode cX7_leadsTo 86 = .ok (.ireturn, 1) := by decide +kernel
theorem dX7_leadsTo_87 : decode cX7_leadsTo 87 = .ok (.aload_n 0, 1) := by decide +kernel
theorem dX7_leadsTo_88 : decode cX7_leadsTo 88 = .ok (.getfield 21, 3) := by decide +kernel
theorem dX7_leadsTo_91 : decode cX7_leadsTo 91 = .ok (.iconst 1, 1) := by decide +kernel
theorem dX7_leadsTo_92 : decode cX7_leadsTo 92 = .ok (.aaload, 1) := by decide +kernel
theorem dX7_leadsTo_93 : decode cX7_leadsTo 93 = .ok (.iload_n 2, 1) := by decide +kernel
theorem dX7_leadsTo_94 : decode cX7_leadsTo 94 = .ok (.baload, 1) := by decide +kernel
theorem dX7_leadsTo_95 : decode cX7_leadsTo 95 = .ok (.ifCond .eq 17, 3) := by decide +kernel
theorem dX7_leadsTo_98 : decode cX7_leadsTo 98 = .ok (.iload_n 3, 1) := by decide +kernel
theorem dX7_leadsTo_99 : decode cX7_leadsTo 99 = .ok (.aload_n 0, 1) := by decide +kernel
theorem dX7_leadsTo_100 : decode cX7_leadsTo 100 = .ok (.getfield 24, 3) := by decide +kernel
theorem dX7_leadsTo_103 : decode cX7_leadsTo 103 = .ok (.iload_n 2, 1) := by decide +kernel
theorem dX7_leadsTo_104 : decode cX7_leadsTo 104 = .ok (.iaload, 1) := by decide +kernel
theorem dX7_leadsTo_105 : decode cX7_leadsTo 105 = .ok (.if_icmp .le 7, 3) := by decide +kernel
theorem dX7_leadsTo_108 : decode cX7_leadsTo 108 = .ok (.iconst 1, 1) := by decide +kernel
theorem dX7_leadsTo_109 : decode cX7_leadsTo 109 = .ok (.goto 4, 3) := by decide +kernel
theorem dX7_leadsTo_112 : decode cX7_leadsTo 112 = .ok (.iconst 0, 1) := by decide +kernel
theorem dX7_leadsTo_113 : decode cX7_leadsTo 113 = .ok (.ireturn, 1) := by decide +kernel
theorem dX7_leadsTo_114 : decode cX7_leadsTo 114 = .ok (.aload_n 0, 1) := by decide +kernel
theorem dX7_leadsTo_115 : decode cX7_leadsTo 115 = .ok (.getfield 21, 3) := by decide +kernel
theorem dX7_leadsTo_118 : decode cX7_leadsTo 118 = .ok (.iconst 2, 1) := by decide +kernel
theorem dX7_leadsTo_119 : decode cX7_leadsTo 119 = .ok (.aaload, 1) := by decide +kernel
theorem dX7_leadsTo_120 : decode cX7_leadsTo 120 = .ok (.iload_n 2, 1) := by decide +kernel
theorem dX7_leadsTo_121 : decode cX7_leadsTo 121 = .ok (.baload, 1) := by decide +kernel
theorem dX7_leadsTo_122 : decode cX7_leadsTo 122 = .ok (.ifCond .eq 60, 3) := by decide +kernel
theorem dX7_leadsTo_125 : decode cX7_leadsTo 125 = .ok (.aload_n 0, 1) := by decide +kernel
theorem dX7_leadsTo_126 : decode cX7_leadsTo 126 = .ok (.getfield 42, 3) := by decide +kernel
theorem dX7_leadsTo_129 : decode cX7_leadsTo 129 = .ok (.iload_n 2, 1) := by decide +kernel
theorem dX7_leadsTo_130 : decode cX7_leadsTo 130 = .ok (.iaload, 1) := by decide +kernel
theorem dX7_leadsTo_131 : decode cX7_leadsTo 131 = .ok (.iconst 1, 1) := by decide +kernel
theorem dX7_leadsTo_132 : decode cX7_leadsTo 132 = .ok (.if_icmp .ne 50, 3) := by decide +kernel
theorem dX7_leadsTo_135 : decode cX7_leadsTo 135 = .ok (.iload_n 3, 1) := by decide +kernel
theorem dX7_leadsTo_136 : decode cX7_leadsTo 136 = .ok (.aload_n 0, 1) := by decide +kernel
theorem dX7_leadsTo_137 : decode cX7_leadsTo 137 = .ok (.getfield 39, 3) := by decide +kernel
theorem dX7_leadsTo_140 : decode cX7_leadsTo 140 = .ok (.iload_n 2, 1) := by decide +kernel
theorem dX7_leadsTo_141 : decode cX7_leadsTo 141 = .ok (.iaload, 1) := by decide +kernel
theorem dX7_leadsTo_142 : decode cX7_leadsTo 142 = .ok (.if_icmp .ne 40, 3) := by decide +kernel
theorem dX7_leadsTo_145 : decode cX7_leadsTo 145 = .ok (.aload_n 0, 1) := by decide +kernel
theorem dX7_leadsTo_146 : decode cX7_leadsTo 146 = .ok (.aload_n 0, 1) := by decide +kernel
theorem dX7_leadsTo_147 : decode cX7_leadsTo 147 = .ok (.getfield 51, 3) := by decide +kernel
theorem dX7_leadsTo_150 : decode cX7_leadsTo 150 = .ok (.iload_n 2, 1) := by decide +kernel
theorem dX7_leadsTo_151 : decode cX7_leadsTo 151 = .ok (.iaload, 1) := by decide +kernel
theorem dX7_leadsTo_152 : decode cX7_leadsTo 152 = .ok (.iconst 1, 1) := by decide +kernel
theorem dX7_leadsTo_153 : decode cX7_leadsTo 153 = .ok (.aload_n 0, 1) := by decide +kernel
theorem dX7_leadsTo_154 : decode cX7_leadsTo 154 = .ok (.iload_n 1, 1) := by decide +kernel
theorem dX7_leadsTo_155 : decode cX7_leadsTo 155 = .ok (.iconst 2, 1) := by decide +kernel
theorem dX7_leadsTo_156 : decode cX7_leadsTo 156 = .ok (.invokevirtual 114, 3) := by decide +kernel
theorem dX7_leadsTo_159 : decode cX7_leadsTo 159 = .ok (.ishl, 1) := by decide +kernel
theorem dX7_leadsTo_160 : decode cX7_leadsTo 160 = .ok (.ior, 1) := by decide +kernel
theorem dX7_leadsTo_161 : decode cX7_leadsTo 161 = .ok (.invokestatic 118, 3) := by decide +kernel
theorem dX7_leadsTo_164 : decode cX7_leadsTo 164 = .ok (.invokevirtual 122, 3) := by decide +kernel
theorem dX7_leadsTo_167 : decode cX7_leadsTo 167 = .ok (.ifCond .eq 15, 3) := by decide +kernel
theorem dX7_leadsTo_170 : decode cX7_leadsTo 170 = .ok (.aload_n 0, 1) := by decide +kernel
theorem dX7_leadsTo_171 : decode cX7_leadsTo 171 = .ok (.getfield 69, 3) := by decide +kernel
theorem dX7_leadsTo_174 : decode cX7_leadsTo 174 = .ok (.aload_n 0, 1) := by decide +kernel
theorem dX7_leadsTo_175 : decode cX7_leadsTo 175 = .ok (.getfield 73, 3) := by decide +kernel
theorem dX7_leadsTo_178 : decode cX7_leadsTo 178 = .ok (.imul, 1) := by decide +kernel
theorem dX7_leadsTo_179 : decode cX7_leadsTo 179 = .ok (.goto 4, 3) := by decide +kernel
theorem dX7_leadsTo_182 : decode cX7_leadsTo 182 = .ok (.iconst 0, 1) := by decide +kernel
theorem dX7_leadsTo_183 : decode cX7_leadsTo 183 = .ok (.ireturn, 1) := by decide +kernel
theorem dX7_leadsTo_184 : decode cX7_leadsTo 184 = .ok (.aload_n 0, 1) := by decide +kernel
theorem dX7_leadsTo_185 : decode cX7_leadsTo 185 = .ok (.getfield 21, 3) := by decide +kernel
theorem dX7_leadsTo_188 : decode cX7_leadsTo 188 = .ok (.iconst 2, 1) := by decide +kernel
theorem dX7_leadsTo_189 : decode cX7_leadsTo 189 = .ok (.aaload, 1) := by decide +kernel
theorem dX7_leadsTo_190 : decode cX7_leadsTo 190 = .ok (.iload_n 2, 1) := by decide +kernel
theorem dX7_leadsTo_191 : decode cX7_leadsTo 191 = .ok (.baload, 1) := by decide +kernel
theorem dX7_leadsTo_192 : decode cX7_leadsTo 192 = .ok (.ifCond .eq 18, 3) := by decide +kernel
theorem dX7_leadsTo_195 : decode cX7_leadsTo 195 = .ok (.aload_n 0, 1) := by decide +kernel
theorem dX7_leadsTo_196 : decode cX7_leadsTo 196 = .ok (.iload_n 1, 1) := by decide +kernel
theorem dX7_leadsTo_197 : decode cX7_leadsTo 197 = .ok (.invokevirtual 125, 3) := by decide +kernel
theorem dX7_leadsTo_200 : decode cX7_leadsTo 200 = .ok (.ifCond .eq 10, 3) := by decide +kernel
theorem dX7_leadsTo_203 : decode cX7_leadsTo 203 = .ok (.aload_n 0, 1) := by decide +kernel
theorem dX7_leadsTo_204 : decode cX7_leadsTo 204 = .ok (.getfield 69, 3) := by decide +kernel
theorem dX7_leadsTo_207 : decode cX7_leadsTo 207 = .ok (.goto 4, 3) := by decide +kernel
theorem dX7_leadsTo_210 : decode cX7_leadsTo 210 = .ok (.iconst 0, 1) := by decide +kernel
theorem dX7_leadsTo_211 : decode cX7_leadsTo 211 = .ok (.ireturn, 1) := by decide +kernel
theorem dX7_leadsTo_212 : decode cX7_leadsTo 212 = .ok (.aload_n 0, 1) := by decide +kernel
theorem dX7_leadsTo_213 : decode cX7_leadsTo 213 = .ok (.getfield 21, 3) := by decide +kernel
theorem dX7_leadsTo_216 : decode cX7_leadsTo 216 = .ok (.iconst 2, 1) := by decide +kernel
theorem dX7_leadsTo_217 : decode cX7_leadsTo 217 = .ok (.aaload, 1) := by decide +kernel
theorem dX7_leadsTo_218 : decode cX7_leadsTo 218 = .ok (.iload_n 2, 1) := by decide +kernel
theorem dX7_leadsTo_219 : decode cX7_leadsTo 219 = .ok (.baload, 1) := by decide +kernel
theorem dX7_leadsTo_220 : decode cX7_leadsTo 220 = .ok (.ifCond .eq 16, 3) := by decide +kernel
theorem dX7_leadsTo_223 : decode cX7_leadsTo 223 = .ok (.aload_n 0, 1) := by decide +kernel
theorem dX7_leadsTo_224 : decode cX7_leadsTo 224 = .ok (.getfield 48, 3) := by decide +kernel
theorem dX7_leadsTo_227 : decode cX7_leadsTo 227 = .ok (.iload_n 2, 1) := by decide +kernel
theorem dX7_leadsTo_228 : decode cX7_leadsTo 228 = .ok (.iaload, 1) := by decide +kernel
theorem dX7_leadsTo_229 : decode cX7_leadsTo 229 = .ok (.ifCond .le 7, 3) := by decide +kernel
theorem dX7_leadsTo_232 : decode cX7_leadsTo 232 = .ok (.iconst 1, 1) := by decide +kernel
theorem dX7_leadsTo_233 : decode cX7_leadsTo 233 = .ok (.goto 4, 3) := by decide +kernel
theorem dX7_leadsTo_236 : decode cX7_leadsTo 236 = .ok (.iconst 0, 1) := by decide +kernel
theorem dX7_leadsTo_237 : decode cX7_leadsTo 237 = .ok (.ireturn, 1) := by decide +kernel
theorem dX7_leadsTo_238 : decode cX7_leadsTo 238 = .ok (.iconst 0, 1) := by decide +kernel
theorem dX7_leadsTo_239 : decode cX7_leadsTo 239 = .ok (.ireturn, 1) := by decide +kernel
theorem dX7_seenAt_0 : decode cX7_seenAt 0 = .ok (.iload_n 1, 1) := by decide +kernel
theorem dX7_seenAt_1 : decode cX7_seenAt 1 = .ok (.bipush 6, 2) := by decide +kernel
theorem dX7_seenAt_3 : decode cX7_seenAt 3 = .ok (.imul, 1) := by decide +kernel
theorem dX7_seenAt_4 : decode cX7_seenAt 4 = .ok (.iload_n 2, 1) := by decide +kernel
theorem dX7_seenAt_5 : decode cX7_seenAt 5 = .ok (.iadd, 1) := by decide +kernel
theorem dX7_seenAt_6 : decode cX7_seenAt 6 = .ok (.iconst 5, 1) := by decide +kernel
theorem dX7_seenAt_7 : decode cX7_seenAt 7 = .ok (.imul, 1) := by decide +kernel
theorem dX7_seenAt_8 : decode cX7_seenAt 8 = .ok (.iload_n 3, 1) := by decide +kernel
theorem dX7_seenAt_9 : decode cX7_seenAt 9 = .ok (.iadd, 1) := by decide +kernel
theorem dX7_seenAt_10 : decode cX7_seenAt 10 = .ok (.ireturn, 1) := by decide +kernel
theorem dX7_settled_0 : decode cX7_settled 0 = .ok (.aload_n 0, 1) := by decide +kernel
theorem dX7_settled_1 : decode cX7_settled 1 = .ok (.getfield 66, 3) := by decide +kernel
theorem dX7_settled_4 : decode cX7_settled 4 = .ok (.iload_n 1, 1) := by decide +kernel
theorem dX7_settled_5 : decode cX7_settled 5 = .ok (.bipush 6, 2) := by decide +kernel
theorem dX7_settled_7 : decode cX7_settled 7 = .ok (.imul, 1) := by decide +kernel
theorem dX7_settled_8 : decode cX7_settled 8 = .ok (.iload_n 2, 1) := by decide +kernel
theorem dX7_settled_9 : decode cX7_settled 9 = .ok (.iadd, 1) := by decide +kernel
theorem dX7_settled_10 : decode cX7_settled 10 = .ok (.iaload, 1) := by decide +kernel
theorem dX7_settled_11 : decode cX7_settled 11 = .ok (.ifCond .le 15, 3) := by decide +kernel
theorem dX7_settled_14 : decode cX7_settled 14 = .ok (.aload_n 0, 1) := by decide +kernel
theorem dX7_settled_15 : decode cX7_settled 15 = .ok (.getfield 66, 3) := by decide +kernel
theorem dX7_settled_18 : decode cX7_settled 18 = .ok (.iload_n 1, 1) := by decide +kernel
theorem dX7_settled_19 : decode cX7_settled 19 = .ok (.bipush 6, 2) := by decide +kernel
theorem dX7_settled_21 : decode cX7_settled 21 = .ok (.imul, 1) := by decide +kernel
theorem dX7_settled_22 : decode cX7_settled 22 = .ok (.iload_n 2, 1) := by decide +kernel
theorem dX7_settled_23 : decode cX7_settled 23 = .ok (.iadd, 1) := by decide +kernel
theorem dX7_settled_24 : decode cX7_settled 24 = .ok (.iaload, 1) := by decide +kernel
theorem dX7_settled_25 : decode cX7_settled 25 = .ok (.ireturn, 1) := by decide +kernel
theorem dX7_settled_26 : decode cX7_settled 26 = .ok (.iconst 0, 1) := by decide +kernel
theorem dX7_settled_27 : decode cX7_settled 27 = .ok (.istore 4, 2) := by decide +kernel
theorem dX7_settled_29 : decode cX7_settled 29 = .ok (.iload 4, 2) := by decide +kernel
theorem dX7_settled_31 : decode cX7_settled 31 = .ok (.aload_n 0, 1) := by decide +kernel
theorem dX7_settled_32 : decode cX7_settled 32 = .ok (.getfield 73, 3) := by decide +kernel
theorem dX7_settled_35 : decode cX7_settled 35 = .ok (.if_icmp .ge 115, 3) := by decide +kernel
theorem dX7_settled_38 : decode cX7_settled 38 = .ok (.aload_n 0, 1) := by decide +kernel
theorem dX7_settled_39 : decode cX7_settled 39 = .ok (.iload_n 1, 1) := by decide +kernel
theorem dX7_settled_40 : decode cX7_settled 40 = .ok (.iload_n 2, 1) := by decide +kernel
theorem dX7_settled_41 : decode cX7_settled 41 = .ok (.iload 4, 2) := by decide +kernel
theorem dX7_settled_43 : decode cX7_settled 43 = .ok (.iload_n 3, 1) := by decide +kernel
theorem dX7_settled_44 : decode cX7_settled 44 = .ok (.invokevirtual 128, 3) := by decide +kernel
theorem dX7_settled_47 : decode cX7_settled 47 = .ok (.istore 5, 2) := by decide +kernel
theorem dX7_settled_49 : decode cX7_settled 49 = .ok (.iconst 0, 1) := by decide +kernel
theorem dX7_settled_50 : decode cX7_settled 50 = .ok (.istore 6, 2) := by decide +kernel
theorem dX7_settled_52 : decode cX7_settled 52 = .ok (.iconst 0, 1) := by decide +kernel
theorem dX7_settled_53 : decode cX7_settled 53 = .ok (.istore 7, 2) := by decide +kernel
theorem dX7_settled_55 : decode cX7_settled 55 = .ok (.iload 7, 2) := by decide +kernel
theorem dX7_settled_57 : decode cX7_settled 57 = .ok (.aload_n 0, 1) := by decide +kernel
theorem dX7_settled_58 : decode cX7_settled 58 = .ok (.getfield 73, 3) := by decide +kernel
theorem dX7_settled_61 : decode cX7_settled 61 = .ok (.if_icmp .ge 39, 3) := by decide +kernel
theorem dX7_settled_64 : decode cX7_settled 64 = .ok (.iload 5, 2) := by decide +kernel
theorem dX7_settled_66 : decode cX7_settled 66 = .ok (.iconst (-1), 1) := by decide +kernel
theorem dX7_settled_67 : decode cX7_settled 67 = .ok (.if_icmp .eq 33, 3) := by decide +kernel
theorem dX7_settled_70 : decode cX7_settled 70 = .ok (.iload 6, 2) := by decide +kernel
theorem dX7_settled_72 : decode cX7_settled 72 = .ok (.aload_n 0, 1) := by decide +kernel
theorem dX7_settled_73 : decode cX7_settled 73 = .ok (.iload_n 1, 1) := by decide +kernel
theorem dX7_settled_74 : decode cX7_settled 74 = .ok (.iload_n 2, 1) := by decide +kernel
theorem dX7_settled_75 : decode cX7_settled 75 = .ok (.iload 7, 2) := by decide +kernel
theorem dX7_settled_77 : decode cX7_settled 77 = .ok (.iload_n 3, 1) := by decide +kernel
theorem dX7_settled_78 : decode cX7_settled 78 = .ok (.invokevirtual 128, 3) := by decide +kernel
theorem dX7_settled_81 : decode cX7_settled 81 = .ok (.iload 5, 2) := by decide +kernel
theorem dX7_settled_83 : decode cX7_settled 83 = .ok (.if_icmp .ne 7, 3) := by decide +kernel
theorem dX7_settled_86 : decode cX7_settled 86 = .ok (.iconst 1, 1) := by decide +kernel
theorem dX7_settled_87 : decode cX7_settled 87 = .ok (.goto 4, 3) := by decide +kernel
theorem dX7_settled_90 : decode cX7_settled 90 = .ok (.iconst 0, 1) := by decide +kernel
theorem dX7_settled_91 : decode cX7_settled 91 = .ok (.iadd, 1) := by decide +kernel
theorem dX7_settled_92 : decode cX7_settled 92 = .ok (.istore 6, 2) := by decide +kernel
theorem dX7_settled_94 : decode cX7_settled 94 = .ok (.iinc 7 1, 3) := by decide +kernel
theorem dX7_settled_97 : decode cX7_settled 97 = .ok (.goto (-42), 3) := by decide +kernel
theorem dX7_settled_100 : decode cX7_settled 100 = .ok (.aload_n 0, 1) := by decide +kernel
theorem dX7_settled_101 : decode cX7_settled 101 = .ok (.iload 6, 2) := by decide +kernel
theorem dX7_settled_103 : decode cX7_settled 103 = .ok (.invokevirtual 122, 3) := by decide +kernel
theorem dX7_settled_106 : decode cX7_settled 106 = .ok (.ifCond .eq 38, 3) := by decide +kernel
theorem dX7_settled_109 : decode cX7_settled 109 = .ok (.aload_n 0, 1) := by decide +kernel
theorem dX7_settled_110 : decode cX7_settled 110 = .ok (.iload_n 1, 1) := by decide +kernel
theorem dX7_settled_111 : decode cX7_settled 111 = .ok (.iload_n 2, 1) := by decide +kernel
theorem dX7_settled_112 : decode cX7_settled 112 = .ok (.iload 4, 2) := by decide +kernel
theorem dX7_settled_114 : decode cX7_settled 114 = .ok (.iload_n 3, 1) := by decide +kernel
theorem dX7_settled_115 : decode cX7_settled 115 = .ok (.invokevirtual 132, 3) := by decide +kernel
theorem dX7_settled_118 : decode cX7_settled 118 = .ok (.ifCond .eq 12, 3) := by decide +kernel
theorem dX7_settled_121 : decode cX7_settled 121 = .ok (.aload_n 0, 1) := by decide +kernel
theorem dX7_settled_122 : decode cX7_settled 122 = .ok (.iload_n 3, 1) := by decide +kernel
theorem dX7_settled_123 : decode cX7_settled 123 = .ok (.iconst 5, 1) := by decide +kernel
theorem dX7_settled_124 : decode cX7_settled 124 = .ok (.invokevirtual 114, 3) := by decide +kernel
theorem dX7_settled_127 : decode cX7_settled 127 = .ok (.goto 16, 3) := by decide +kernel
theorem dX7_settled_130 : decode cX7_settled 130 = .ok (.aload_n 0, 1) := by decide +kernel
theorem dX7_settled_131 : decode cX7_settled 131 = .ok (.getfield 63, 3) := by decide +kernel
theorem dX7_settled_134 : decode cX7_settled 134 = .ok (.aload_n 0, 1) := by decide +kernel
theorem dX7_settled_135 : decode cX7_settled 135 = .ok (.iload_n 1, 1) := by decide +kernel
theorem dX7_settled_136 : decode cX7_settled 136 = .ok (.iload_n 2, 1) := by decide +kernel
theorem dX7_settled_137 : decode cX7_settled 137 = .ok (.iload 4, 2) := by decide +kernel
theorem dX7_settled_139 : decode cX7_settled 139 = .ok (.invokevirtual 136, 3) := by decide +kernel
theorem dX7_settled_142 : decode cX7_settled 142 = .ok (.iaload, 1) := by decide +kernel
theorem dX7_settled_143 : decode cX7_settled 143 = .ok (.ireturn, 1) := by decide +kernel
theorem dX7_settled_144 : decode cX7_settled 144 = .ok (.iinc 4 1, 3) := by decide +kernel
theorem dX7_settled_147 : decode cX7_settled 147 = .ok (.goto (-118), 3) := by decide +kernel
theorem dX7_settled_150 : decode cX7_settled 150 = .ok (.iconst 0, 1) := by decide +kernel
theorem dX7_settled_151 : decode cX7_settled 151 = .ok (.ireturn, 1) := by decide +kernel
theorem dX7_isNew_0 : decode cX7_isNew 0 = .ok (.iload 4, 2) := by decide +kernel
theorem dX7_isNew_2 : decode cX7_isNew 2 = .ok (.iconst (-1), 1) := by decide +kernel
theorem dX7_isNew_3 : decode cX7_isNew 3 = .ok (.if_icmp .eq 51, 3) := by decide +kernel
theorem dX7_isNew_6 : decode cX7_isNew 6 = .ok (.aload_n 0, 1) := by decide +kernel
theorem dX7_isNew_7 : decode cX7_isNew 7 = .ok (.iload 4, 2) := by decide +kernel
theorem dX7_isNew_9 : decode cX7_isNew 9 = .ok (.iconst 3, 1) := by decide +kernel
theorem dX7_isNew_10 : decode cX7_isNew 10 = .ok (.invokevirtual 114, 3) := by decide +kernel
theorem dX7_isNew_13 : decode cX7_isNew 13 = .ok (.iload_n 2, 1) := by decide +kernel
theorem dX7_isNew_14 : decode cX7_isNew 14 = .ok (.if_icmp .ne 40, 3) := by decide +kernel
theorem dX7_isNew_17 : decode cX7_isNew 17 = .ok (.aload_n 0, 1) := by decide +kernel
theorem dX7_isNew_18 : decode cX7_isNew 18 = .ok (.iload 4, 2) := by decide +kernel
theorem dX7_isNew_20 : decode cX7_isNew 20 = .ok (.iconst 2, 1) := by decide +kernel
theorem dX7_isNew_21 : decode cX7_isNew 21 = .ok (.invokevirtual 114, 3) := by decide +kernel
theorem dX7_isNew_24 : decode cX7_isNew 24 = .ok (.iload_n 3, 1) := by decide +kernel
theorem dX7_isNew_25 : decode cX7_isNew 25 = .ok (.if_icmp .ne 29, 3) := by decide +kernel
theorem dX7_isNew_28 : decode cX7_isNew 28 = .ok (.aload_n 0, 1) := by decide +kernel
theorem dX7_isNew_29 : decode cX7_isNew 29 = .ok (.iload 4, 2) := by decide +kernel
theorem dX7_isNew_31 : decode cX7_isNew 31 = .ok (.iconst 4, 1) := by decide +kernel
theorem dX7_isNew_32 : decode cX7_isNew 32 = .ok (.invokevirtual 114, 3) := by decide +kernel
theorem dX7_isNew_35 : decode cX7_isNew 35 = .ok (.aload_n 0, 1) := by decide +kernel
theorem dX7_isNew_36 : decode cX7_isNew 36 = .ok (.getfield 60, 3) := by decide +kernel
theorem dX7_isNew_39 : decode cX7_isNew 39 = .ok (.aload_n 0, 1) := by decide +kernel
theorem dX7_isNew_40 : decode cX7_isNew 40 = .ok (.iload_n 1, 1) := by decide +kernel
theorem dX7_isNew_41 : decode cX7_isNew 41 = .ok (.iload_n 2, 1) := by decide +kernel
theorem dX7_isNew_42 : decode cX7_isNew 42 = .ok (.iload_n 3, 1) := by decide +kernel
theorem dX7_isNew_43 : decode cX7_isNew 43 = .ok (.invokevirtual 136, 3) := by decide +kernel
theorem dX7_isNew_46 : decode cX7_isNew 46 = .ok (.iaload, 1) := by decide +kernel
theorem dX7_isNew_47 : decode cX7_isNew 47 = .ok (.if_icmp .le 7, 3) := by decide +kernel
theorem dX7_isNew_50 : decode cX7_isNew 50 = .ok (.iconst 1, 1) := by decide +kernel
theorem dX7_isNew_51 : decode cX7_isNew 51 = .ok (.goto 4, 3) := by decide +kernel
theorem dX7_isNew_54 : decode cX7_isNew 54 = .ok (.iconst 0, 1) := by decide +kernel
theorem dX7_isNew_55 : decode cX7_isNew 55 = .ok (.ireturn, 1) := by decide +kernel
theorem dX7_ballotSeen_0 : decode cX7_ballotSeen 0 = .ok (.aload_n 0, 1) := by decide +kernel
theorem dX7_ballotSeen_1 : decode cX7_ballotSeen 1 = .ok (.iload_n 1, 1) := by decide +kernel
theorem dX7_ballotSeen_2 : decode cX7_ballotSeen 2 = .ok (.iload_n 2, 1) := by decide +kernel
theorem dX7_ballotSeen_3 : decode cX7_ballotSeen 3 = .ok (.iload_n 3, 1) := by decide +kernel
theorem dX7_ballotSeen_4 : decode cX7_ballotSeen 4 = .ok (.iload 4, 2) := by decide +kernel
theorem dX7_ballotSeen_6 : decode cX7_ballotSeen 6 = .ok (.invokevirtual 132, 3) := by decide +kernel
theorem dX7_ballotSeen_9 : decode cX7_ballotSeen 9 = .ok (.ifCond .eq 13, 3) := by decide +kernel
theorem dX7_ballotSeen_12 : decode cX7_ballotSeen 12 = .ok (.aload_n 0, 1) := by decide +kernel
theorem dX7_ballotSeen_13 : decode cX7_ballotSeen 13 = .ok (.iload 4, 2) := by decide +kernel
theorem dX7_ballotSeen_15 : decode cX7_ballotSeen 15 = .ok (.iconst 4, 1) := by decide +kernel
theorem dX7_ballotSeen_16 : decode cX7_ballotSeen 16 = .ok (.invokevirtual 114, 3) := by decide +kernel
theorem dX7_ballotSeen_19 : decode cX7_ballotSeen 19 = .ok (.goto 15, 3) := by decide +kernel
theorem dX7_ballotSeen_22 : decode cX7_ballotSeen 22 = .ok (.aload_n 0, 1) := by decide +kernel
theorem dX7_ballotSeen_23 : decode cX7_ballotSeen 23 = .ok (.getfield 60, 3) := by decide +kernel
theorem dX7_ballotSeen_26 : decode cX7_ballotSeen 26 = .ok (.aload_n 0, 1) := by decide +kernel
theorem dX7_ballotSeen_27 : decode cX7_ballotSeen 27 = .ok (.iload_n 1, 1) := by decide +kernel
theorem dX7_ballotSeen_28 : decode cX7_ballotSeen 28 = .ok (.iload_n 2, 1) := by decide +kernel
theorem dX7_ballotSeen_29 : decode cX7_ballotSeen 29 = .ok (.iload_n 3, 1) := by decide +kernel
theorem dX7_ballotSeen_30 : decode cX7_ballotSeen 30 = .ok (.invokevirtual 136, 3) := by decide +kernel
theorem dX7_ballotSeen_33 : decode cX7_ballotSeen 33 = .ok (.iaload, 1) := by decide +kernel
theorem dX7_ballotSeen_34 : decode cX7_ballotSeen 34 = .ok (.ireturn, 1) := by decide +kernel
theorem dX7_decided_0 : decode cX7_decided 0 = .ok (.iconst 1, 1) := by decide +kernel
theorem dX7_decided_1 : decode cX7_decided 1 = .ok (.istore_n 3, 1) := by decide +kernel
theorem dX7_decided_2 : decode cX7_decided 2 = .ok (.iconst 0, 1) := by decide +kernel
theorem dX7_decided_3 : decode cX7_decided 3 = .ok (.istore 4, 2) := by decide +kernel
theorem dX7_decided_5 : decode cX7_decided 5 = .ok (.iload 4, 2) := by decide +kernel
theorem dX7_decided_7 : decode cX7_decided 7 = .ok (.aload_n 0, 1) := by decide +kernel
theorem dX7_decided_8 : decode cX7_decided 8 = .ok (.getfield 69, 3) := by decide +kernel
theorem dX7_decided_11 : decode cX7_decided 11 = .ok (.if_icmp .ge 43, 3) := by decide +kernel
theorem dX7_decided_14 : decode cX7_decided 14 = .ok (.aload_n 0, 1) := by decide +kernel
theorem dX7_decided_15 : decode cX7_decided 15 = .ok (.iload_n 1, 1) := by decide +kernel
theorem dX7_decided_16 : decode cX7_decided 16 = .ok (.iload 4, 2) := by decide +kernel
theorem dX7_decided_18 : decode cX7_decided 18 = .ok (.iload_n 2, 1) := by decide +kernel
theorem dX7_decided_19 : decode cX7_decided 19 = .ok (.invokevirtual 140, 3) := by decide +kernel
theorem dX7_decided_22 : decode cX7_decided 22 = .ok (.istore 5, 2) := by decide +kernel
theorem dX7_decided_24 : decode cX7_decided 24 = .ok (.iload 5, 2) := by decide +kernel
theorem dX7_decided_26 : decode cX7_decided 26 = .ok (.iconst 2, 1) := by decide +kernel
theorem dX7_decided_27 : decode cX7_decided 27 = .ok (.if_icmp .ne 5, 3) := by decide +kernel
theorem dX7_decided_30 : decode cX7_decided 30 = .ok (.iconst 2, 1) := by decide +kernel
theorem dX7_decided_31 : decode cX7_decided 31 = .ok (.ireturn, 1) := by decide +kernel
theorem dX7_decided_32 : decode cX7_decided 32 = .ok (.iload_n 3, 1) := by decide +kernel
theorem dX7_decided_33 : decode cX7_decided 33 = .ok (.ifCond .eq 13, 3) := by decide +kernel
theorem dX7_decided_36 : decode cX7_decided 36 = .ok (.iload 5, 2) := by decide +kernel
theorem dX7_decided_38 : decode cX7_decided 38 = .ok (.iconst 1, 1) := by decide +kernel
theorem dX7_decided_39 : decode cX7_decided 39 = .ok (.if_icmp .ne 7, 3) := by decide +kernel
theorem dX7_decided_42 : decode cX7_decided 42 = .ok (.iconst 1, 1) := by decide +kernel
theorem dX7_decided_43 : decode cX7_decided 43 = .ok (.goto 4, 3) := by decide +kernel
theorem dX7_decided_46 : decode cX7_decided 46 = .ok (.iconst 0, 1) := by decide +kernel
theorem dX7_decided_47 : decode cX7_decided 47 = .ok (.istore_n 3, 1) := by decide +kernel
theorem dX7_decided_48 : decode cX7_decided 48 = .ok (.iinc 4 1, 3) := by decide +kernel
theorem dX7_decided_51 : decode cX7_decided 51 = .ok (.goto (-46), 3) := by decide +kernel
theorem dX7_decided_54 : decode cX7_decided 54 = .ok (.iload_n 3, 1) := by decide +kernel
theorem dX7_decided_55 : decode cX7_decided 55 = .ok (.ifCond .eq 7, 3) := by decide +kernel
theorem dX7_decided_58 : decode cX7_decided 58 = .ok (.iconst 1, 1) := by decide +kernel
theorem dX7_decided_59 : decode cX7_decided 59 = .ok (.goto 4, 3) := by decide +kernel
theorem dX7_decided_62 : decode cX7_decided 62 = .ok (.iconst 0, 1) := by decide +kernel
theorem dX7_decided_63 : decode cX7_decided 63 = .ok (.ireturn, 1) := by decide +kernel
theorem dX7_decides_0 : decode cX7_decides 0 = .ok (.aload_n 0, 1) := by decide +kernel
theorem dX7_decides_1 : decode cX7_decides 1 = .ok (.iload_n 1, 1) := by decide +kernel
theorem dX7_decides_2 : decode cX7_decides 2 = .ok (.iconst 1, 1) := by decide +kernel
theorem dX7_decides_3 : decode cX7_decides 3 = .ok (.invokevirtual 114, 3) := by decide +kernel
theorem dX7_decides_6 : decode cX7_decides 6 = .ok (.istore_n 2, 1) := by decide +kernel
theorem dX7_decides_7 : decode cX7_decides 7 = .ok (.aload_n 0, 1) := by decide +kernel
theorem dX7_decides_8 : decode cX7_decides 8 = .ok (.getfield 48, 3) := by decide +kernel
theorem dX7_decides_11 : decode cX7_decides 11 = .ok (.iload_n 2, 1) := by decide +kernel
theorem dX7_decides_12 : decode cX7_decides 12 = .ok (.iaload, 1) := by decide +kernel
theorem dX7_decides_13 : decode cX7_decides 13 = .ok (.ifCond .ne 16, 3) := by decide +kernel
theorem dX7_decides_16 : decode cX7_decides 16 = .ok (.aload_n 0, 1) := by decide +kernel
theorem dX7_decides_17 : decode cX7_decides 17 = .ok (.iload_n 2, 1) := by decide +kernel
theorem dX7_decides_18 : decode cX7_decides 18 = .ok (.iload_n 1, 1) := by decide +kernel
theorem dX7_decides_19 : decode cX7_decides 19 = .ok (.invokevirtual 143, 3) := by decide +kernel
theorem dX7_decides_22 : decode cX7_decides 22 = .ok (.ifCond .le 7, 3) := by decide +kernel
theorem dX7_decides_25 : decode cX7_decides 25 = .ok (.iconst 1, 1) := by decide +kernel
theorem dX7_decides_26 : decode cX7_decides 26 = .ok (.goto 4, 3) := by decide +kernel
theorem dX7_decides_29 : decode cX7_decides 29 = .ok (.iconst 0, 1) := by decide +kernel
theorem dX7_decides_30 : decode cX7_decides 30 = .ok (.ireturn, 1) := by decide +kernel
theorem dX7_deliver_0 : decode cX7_deliver 0 = .ok (.aload_n 0, 1) := by decide +kernel
theorem dX7_deliver_1 : decode cX7_deliver 1 = .ok (.aload_n 0, 1) := by decide +kernel
theorem dX7_deliver_2 : decode cX7_deliver 2 = .ok (.iload_n 1, 1) := by decide +kernel
theorem dX7_deliver_3 : decode cX7_deliver 3 = .ok (.invokevirtual 146, 3) := by decide +kernel
theorem dX7_deliver_6 : decode cX7_deliver 6 = .ok (.invokevirtual 93, 3) := by decide +kernel
theorem dX7_deliver_9 : decode cX7_deliver 9 = .ok (.ifCond .eq 5, 3) := by decide +kernel
theorem dX7_deliver_12 : decode cX7_deliver 12 = .ok (.iconst 0, 1) := by decide +kernel
theorem dX7_deliver_13 : decode cX7_deliver 13 = .ok (.ireturn, 1) := by decide +kernel
theorem dX7_deliver_14 : decode cX7_deliver 14 = .ok (.aload_n 0, 1) := by decide +kernel
theorem dX7_deliver_15 : decode cX7_deliver 15 = .ok (.iload_n 1, 1) := by decide +kernel
theorem dX7_deliver_16 : decode cX7_deliver 16 = .ok (.invokevirtual 149, 3) := by decide +kernel
theorem dX7_deliver_19 : decode cX7_deliver 19 = .ok (.ireturn, 1) := by decide +kernel
theorem dX7_comes_0 : decode cX7_comes 0 = .ok (.aload_n 0, 1) := by decide +kernel
theorem dX7_comes_1 : decode cX7_comes 1 = .ok (.iload_n 1, 1) := by decide +kernel
theorem dX7_comes_2 : decode cX7_comes 2 = .ok (.iconst 0, 1) := by decide +kernel
theorem dX7_comes_3 : decode cX7_comes 3 = .ok (.invokevirtual 114, 3) := by decide +kernel
theorem dX7_comes_6 : decode cX7_comes 6 = .ok (.istore_n 2, 1) := by decide +kernel
theorem dX7_comes_7 : decode cX7_comes 7 = .ok (.aload_n 0, 1) := by decide +kernel
theorem dX7_comes_8 : decode cX7_comes 8 = .ok (.getfield 79, 3) := by decide +kernel
theorem dX7_comes_11 : decode cX7_comes 11 = .ok (.iconst 1, 1) := by decide +kernel
theorem dX7_comes_12 : decode cX7_comes 12 = .ok (.isub, 1) := by decide +kernel
theorem dX7_comes_13 : decode cX7_comes 13 = .ok (.aload_n 0, 1) := by decide +kernel
theorem dX7_comes_14 : decode cX7_comes 14 = .ok (.iload_n 1, 1) := by decide +kernel
theorem dX7_comes_15 : decode cX7_comes 15 = .ok (.invokevirtual 152, 3) := by decide +kernel
theorem dX7_comes_18 : decode cX7_comes 18 = .ok (.iadd, 1) := by decide +kernel
theorem dX7_comes_19 : decode cX7_comes 19 = .ok (.sipush 400, 3) := by decide +kernel
theorem dX7_comes_22 : decode cX7_comes 22 = .ok (.if_icmp .le 5, 3) := by decide +kernel
theorem dX7_comes_25 : decode cX7_comes 25 = .ok (.iconst (-1), 1) := by decide +kernel
theorem dX7_comes_26 : decode cX7_comes 26 = .ok (.ireturn, 1) := by decide +kernel
theorem dX7_comes_27 : decode cX7_comes 27 = .ok (.iload_n 2, 1) := by decide +kernel
theorem dX7_comes_28 : decode cX7_comes 28 = .ok (.iconst 1, 1) := by decide +kernel
theorem dX7_comes_29 : decode cX7_comes 29 = .ok (.if_icmp .ne 31, 3) := by decide +kernel
theorem dX7_comes_32 : decode cX7_comes 32 = .ok (.aload_n 0, 1) := by decide +kernel
theorem dX7_comes_33 : decode cX7_comes 33 = .ok (.getfield 21, 3) := by decide +kernel
theorem dX7_comes_36 : decode cX7_comes 36 = .ok (.iconst 2, 1) := by decide +kernel
theorem dX7_comes_37 : decode cX7_comes 37 = .ok (.aaload, 1) := by decide +kernel
theorem dX7_comes_38 : decode cX7_comes 38 = .ok (.aload_n 0, 1) := by decide +kernel
theorem dX7_comes_39 : decode cX7_comes 39 = .ok (.iload_n 1, 1) := by decide +kernel
theorem dX7_comes_40 : decode cX7_comes 40 = .ok (.iconst 1, 1) := by decide +kernel
theorem dX7_comes_41 : decode cX7_comes 41 = .ok (.invokevirtual 114, 3) := by decide +kernel
theorem dX7_comes_44 : decode cX7_comes 44 = .ok (.baload, 1) := by decide +kernel
theorem dX7_comes_45 : decode cX7_comes 45 = .ok (.ifCond .eq 15, 3) := by decide +kernel
theorem dX7_comes_48 : decode cX7_comes 48 = .ok (.aload_n 0, 1) := by decide +kernel
theorem dX7_comes_49 : decode cX7_comes 49 = .ok (.iload_n 1, 1) := by decide +kernel
theorem dX7_comes_50 : decode cX7_comes 50 = .ok (.invokevirtual 125, 3) := by decide +kernel
theorem dX7_comes_53 : decode cX7_comes 53 = .ok (.ifCond .eq 7, 3) := by decide +kernel
theorem dX7_comes_56 : decode cX7_comes 56 = .ok (.iconst 1, 1) := by decide +kernel
theorem dX7_comes_57 : decode cX7_comes 57 = .ok (.goto 4, 3) := by decide +kernel
theorem dX7_comes_60 : decode cX7_comes 60 = .ok (.iconst 0, 1) := by decide +kernel
theorem dX7_comes_61 : decode cX7_comes 61 = .ok (.istore_n 3, 1) := by decide +kernel
theorem dX7_comes_62 : decode cX7_comes 62 = .ok (.iconst 0, 1) := by decide +kernel
theorem dX7_comes_63 : decode cX7_comes 63 = .ok (.istore 4, 2) := by decide +kernel
theorem dX7_comes_65 : decode cX7_comes 65 = .ok (.iload 4, 2) := by decide +kernel
theorem dX7_comes_67 : decode cX7_comes 67 = .ok (.bipush 18, 2) := by decide +kernel
theorem dX7_comes_69 : decode cX7_comes 69 = .ok (.if_icmp .ge 23, 3) := by decide +kernel
theorem dX7_comes_72 : decode cX7_comes 72 = .ok (.aload_n 0, 1) := by decide +kernel
theorem dX7_comes_73 : decode cX7_comes 73 = .ok (.getfield 13, 3) := by decide +kernel
theorem dX7_comes_76 : decode cX7_comes 76 = .ok (.iload 4, 2) := by decide +kernel
theorem dX7_comes_78 : decode cX7_comes 78 = .ok (.aload_n 0, 1) := by decide +kernel
theorem dX7_comes_79 : decode cX7_comes 79 = .ok (.iload_n 1, 1) := by decide +kernel
theorem dX7_comes_80 : decode cX7_comes 80 = .ok (.iload 4, 2) := by decide +kernel
theorem dX7_comes_82 : decode cX7_comes 82 = .ok (.invokevirtual 114, 3) := by decide +kernel
theorem dX7_comes_85 : decode cX7_comes 85 = .ok (.iastore, 1) := by decide +kernel
theorem dX7_comes_86 : decode cX7_comes 86 = .ok (.iinc 4 1, 3) := by decide +kernel
theorem dX7_comes_89 : decode cX7_comes 89 = .ok (.goto (-24), 3) := by decide +kernel
theorem dX7_comes_92 : decode cX7_comes 92 = .ok (.aload_n 0, 1) := by decide +kernel
theorem dX7_comes_93 : decode cX7_comes 93 = .ok (.iload_n 1, 1) := by decide +kernel
theorem dX7_comes_94 : decode cX7_comes 94 = .ok (.invokevirtual 155, 3) := by decide +kernel
theorem dX7_comes_97 : decode cX7_comes 97 = .ok (.aload_n 0, 1) := by decide +kernel
theorem dX7_comes_98 : decode cX7_comes 98 = .ok (.dup, 1) := by decide +kernel
theorem dX7_comes_99 : decode cX7_comes 99 = .ok (.getfield 159, 3) := by decide +kernel
theorem dX7_comes_102 : decode cX7_comes 102 = .ok (.iconst 1, 1) := by decide +kernel
theorem dX7_comes_103 : decode cX7_comes 103 = .ok (.iadd, 1) := by decide +kernel
theorem dX7_comes_104 : decode cX7_comes 104 = .ok (.putfield 159, 3) := by decide +kernel
theorem dX7_comes_107 : decode cX7_comes 107 = .ok (.aload_n 0, 1) := by decide +kernel
theorem dX7_comes_108 : decode cX7_comes 108 = .ok (.getfield 13, 3) := by decide +kernel
theorem dX7_comes_111 : decode cX7_comes 111 = .ok (.iconst 1, 1) := by decide +kernel
theorem dX7_comes_112 : decode cX7_comes 112 = .ok (.iaload, 1) := by decide +kernel
theorem dX7_comes_113 : decode cX7_comes 113 = .ok (.istore 4, 2) := by decide +kernel
theorem dX7_comes_115 : decode cX7_comes 115 = .ok (.aload_n 0, 1) := by decide +kernel
theorem dX7_comes_116 : decode cX7_comes 116 = .ok (.getfield 21, 3) := by decide +kernel
theorem dX7_comes_119 : decode cX7_comes 119 = .ok (.iload_n 2, 1) := by decide +kernel
theorem dX7_comes_120 : decode cX7_comes 120 = .ok (.ifCond .eq 8, 3) := by decide +kernel
theorem dX7_comes_123 : decode cX7_comes 123 = .ok (.iload_n 2, 1) := by decide +kernel
theorem dX7_comes_124 : decode cX7_comes 124 = .ok (.iconst 2, 1) := by decide +kernel
theorem dX7_comes_125 : decode cX7_comes 125 = .ok (.if_icmp .ne 7, 3) := by decide +kernel
theorem dX7_comes_128 : decode cX7_comes 128 = .ok (.iconst 1, 1) := by decide +kernel
theorem dX7_comes_129 : decode cX7_comes 129 = .ok (.goto 13, 3) := by decide +kernel
theorem dX7_comes_132 : decode cX7_comes 132 = .ok (.iload_n 2, 1) := by decide +kernel
theorem dX7_comes_133 : decode cX7_comes 133 = .ok (.iconst 4, 1) := by decide +kernel
theorem dX7_comes_134 : decode cX7_comes 134 = .ok (.if_icmp .ne 7, 3) := by decide +kernel
theorem dX7_comes_137 : decode cX7_comes 137 = .ok (.iconst 0, 1) := by decide +kernel
theorem dX7_comes_138 : decode cX7_comes 138 = .ok (.goto 4, 3) := by decide +kernel
theorem dX7_comes_141 : decode cX7_comes 141 = .ok (.iconst 2, 1) := by decide +kernel
theorem dX7_comes_142 : decode cX7_comes 142 = .ok (.aaload, 1) := by decide +kernel
theorem dX7_comes_143 : decode cX7_comes 143 = .ok (.iload 4, 2) := by decide +kernel
theorem dX7_comes_145 : decode cX7_comes 145 = .ok (.baload, 1) := by decide +kernel
theorem dX7_comes_146 : decode cX7_comes 146 = .ok (.istore 5, 2) := by decide +kernel
theorem dX7_comes_148 : decode cX7_comes 148 = .ok (.iload 5, 2) := by decide +kernel
theorem dX7_comes_150 : decode cX7_comes 150 = .ok (.ifCond .ne 5, 3) := by decide +kernel
theorem dX7_comes_153 : decode cX7_comes 153 = .ok (.iload_n 2, 1) := by decide +kernel
theorem dX7_comes_154 : decode cX7_comes 154 = .ok (.ireturn, 1) := by decide +kernel
theorem dX7_comes_155 : decode cX7_comes 155 = .ok (.iload_n 2, 1) := by decide +kernel
theorem dX7_comes_156 : decode cX7_comes 156 = .ok (.tableswitch 111 0 5 #[40, 67, 49, 58, 111, 77], 40) := by decide +kernel
theorem dX7_comes_196 : decode cX7_comes 196 = .ok (.aload_n 0, 1) := by decide +kernel
theorem dX7_comes_197 : decode cX7_comes 197 = .ok (.iload 4, 2) := by decide +kernel
theorem dX7_comes_199 : decode cX7_comes 199 = .ok (.invokevirtual 162, 3) := by decide +kernel
theorem dX7_comes_202 : decode cX7_comes 202 = .ok (.goto 80, 3) := by decide +kernel
theorem dX7_comes_205 : decode cX7_comes 205 = .ok (.aload_n 0, 1) := by decide +kernel
theorem dX7_comes_206 : decode cX7_comes 206 = .ok (.iload 4, 2) := by decide +kernel
theorem dX7_comes_208 : decode cX7_comes 208 = .ok (.invokevirtual 165, 3) := by decide +kernel
theorem dX7_comes_211 : decode cX7_comes 211 = .ok (.goto 71, 3) := by decide +kernel
theorem dX7_comes_214 : decode cX7_comes 214 = .ok (.aload_n 0, 1) := by decide +kernel
theorem dX7_comes_215 : decode cX7_comes 215 = .ok (.iload 4, 2) := by decide +kernel
theorem dX7_comes_217 : decode cX7_comes 217 = .ok (.invokevirtual 168, 3) := by decide +kernel
theorem dX7_comes_220 : decode cX7_comes 220 = .ok (.goto 62, 3) := by decide +kernel
theorem dX7_comes_223 : decode cX7_comes 223 = .ok (.aload_n 0, 1) := by decide +kernel
theorem dX7_comes_224 : decode cX7_comes 224 = .ok (.iload 4, 2) := by decide +kernel
theorem dX7_comes_226 : decode cX7_comes 226 = .ok (.iload_n 3, 1) := by decide +kernel
theorem dX7_comes_227 : decode cX7_comes 227 = .ok (.invokevirtual 171, 3) := by decide +kernel
theorem dX7_comes_230 : decode cX7_comes 230 = .ok (.goto 52, 3) := by decide +kernel
theorem dX7_comes_233 : decode cX7_comes 233 = .ok (.aload_n 0, 1) := by decide +kernel
theorem dX7_comes_234 : decode cX7_comes 234 = .ok (.getfield 48, 3) := by decide +kernel
theorem dX7_comes_237 : decode cX7_comes 237 = .ok (.iload 4, 2) := by decide +kernel
theorem dX7_comes_239 : decode cX7_comes 239 = .ok (.iaload, 1) := by decide +kernel
theorem dX7_comes_240 : decode cX7_comes 240 = .ok (.ifCond .le 42, 3) := by decide +kernel
theorem dX7_comes_243 : decode cX7_comes 243 = .ok (.aload_n 0, 1) := by decide +kernel
theorem dX7_comes_244 : decode cX7_comes 244 = .ok (.iconst 4, 1) := by decide +kernel
theorem dX7_comes_245 : decode cX7_comes 245 = .ok (.aload_n 0, 1) := by decide +kernel
theorem dX7_comes_246 : decode cX7_comes 246 = .ok (.getfield 13, 3) := by decide +kernel
theorem dX7_comes_249 : decode cX7_comes 249 = .ok (.iconst 2, 1) := by decide +kernel
theorem dX7_comes_250 : decode cX7_comes 250 = .ok (.iaload, 1) := by decide +kernel
theorem dX7_comes_251 : decode cX7_comes 251 = .ok (.iconst (-1), 1) := by decide +kernel
theorem dX7_comes_252 : decode cX7_comes 252 = .ok (.iconst (-1), 1) := by decide +kernel
theorem dX7_comes_253 : decode cX7_comes 253 = .ok (.iconst (-1), 1) := by decide +kernel
theorem dX7_comes_254 : decode cX7_comes 254 = .ok (.aload_n 0, 1) := by decide +kernel
theorem dX7_comes_255 : decode cX7_comes 255 = .ok (.getfield 48, 3) := by decide +kernel
theorem dX7_comes_258 : decode cX7_comes 258 = .ok (.iload 4, 2) := by decide +kernel
theorem dX7_comes_260 : decode cX7_comes 260 = .ok (.iaload, 1) := by decide +kernel
theorem dX7_comes_261 : decode cX7_comes 261 = .ok (.invokevirtual 85, 3) := by decide +kernel
theorem dX7_comes_264 : decode cX7_comes 264 = .ok (.goto 18, 3) := by decide +kernel
theorem dX7_comes_267 : decode cX7_comes 267 = .ok (.aload_n 0, 1) := by decide +kernel
theorem dX7_comes_268 : decode cX7_comes 268 = .ok (.getfield 16, 3) := by decide +kernel
theorem dX7_comes_271 : decode cX7_comes 271 = .ok (.iload 4, 2) := by decide +kernel
theorem dX7_comes_273 : decode cX7_comes 273 = .ok (.aload_n 0, 1) := by decide +kernel
theorem dX7_comes_274 : decode cX7_comes 274 = .ok (.getfield 13, 3) := by decide +kernel
theorem dX7_comes_277 : decode cX7_comes 277 = .ok (.iconst 5, 1) := by decide +kernel
theorem dX7_comes_278 : decode cX7_comes 278 = .ok (.iaload, 1) := by decide +kernel
theorem dX7_comes_279 : decode cX7_comes 279 = .ok (.iconst 2, 1) := by decide +kernel
theorem dX7_comes_280 : decode cX7_comes 280 = .ok (.iadd, 1) := by decide +kernel
theorem dX7_comes_281 : decode cX7_comes 281 = .ok (.iastore, 1) := by decide +kernel
theorem dX7_comes_282 : decode cX7_comes 282 = .ok (.iload_n 2, 1) := by decide +kernel
theorem dX7_comes_283 : decode cX7_comes 283 = .ok (.ireturn, 1) := by decide +kernel
theorem dX7_voteComes_0 : decode cX7_voteComes 0 = .ok (.aload_n 0, 1) := by decide +kernel
theorem dX7_voteComes_1 : decode cX7_voteComes 1 = .ok (.getfield 13, 3) := by decide +kernel
theorem dX7_voteComes_4 : decode cX7_voteComes 4 = .ok (.iconst 4, 1) := by decide +kernel
theorem dX7_voteComes_5 : decode cX7_voteComes 5 = .ok (.iaload, 1) := by decide +kernel
theorem dX7_voteComes_6 : decode cX7_voteComes 6 = .ok (.istore_n 2, 1) := by decide +kernel
theorem dX7_voteComes_7 : decode cX7_voteComes 7 = .ok (.aload_n 0, 1) := by decide +kernel
theorem dX7_voteComes_8 : decode cX7_voteComes 8 = .ok (.getfield 13, 3) := by decide +kernel
theorem dX7_voteComes_11 : decode cX7_voteComes 11 = .ok (.iconst 3, 1) := by decide +kernel
theorem dX7_voteComes_12 : decode cX7_voteComes 12 = .ok (.iaload, 1) := by decide +kernel
theorem dX7_voteComes_13 : decode cX7_voteComes 13 = .ok (.istore_n 3, 1) := by decide +kernel
theorem dX7_voteComes_14 : decode cX7_voteComes 14 = .ok (.aload_n 0, 1) := by decide +kernel
theorem dX7_voteComes_15 : decode cX7_voteComes 15 = .ok (.getfield 13, 3) := by decide +kernel
theorem dX7_voteComes_18 : decode cX7_voteComes 18 = .ok (.iconst 5, 1) := by decide +kernel
theorem dX7_voteComes_19 : decode cX7_voteComes 19 = .ok (.iaload, 1) := by decide +kernel
theorem dX7_voteComes_20 : decode cX7_voteComes 20 = .ok (.istore 4, 2) := by decide +kernel
theorem dX7_voteComes_22 : decode cX7_voteComes 22 = .ok (.iload_n 2, 1) := by decide +kernel
theorem dX7_voteComes_23 : decode cX7_voteComes 23 = .ok (.aload_n 0, 1) := by decide +kernel
theorem dX7_voteComes_24 : decode cX7_voteComes 24 = .ok (.getfield 24, 3) := by decide +kernel
theorem dX7_voteComes_27 : decode cX7_voteComes 27 = .ok (.iload_n 1, 1) := by decide +kernel
theorem dX7_voteComes_28 : decode cX7_voteComes 28 = .ok (.iaload, 1) := by decide +kernel
theorem dX7_voteComes_29 : decode cX7_voteComes 29 = .ok (.if_icmp .ge 4, 3) := by decide +kernel
theorem dX7_voteComes_32 : decode cX7_voteComes 32 = .ok (.return_, 1) := by decide +kernel
theorem dX7_voteComes_33 : decode cX7_voteComes 33 = .ok (.aload_n 0, 1) := by decide +kernel
theorem dX7_voteComes_34 : decode cX7_voteComes 34 = .ok (.getfield 24, 3) := by decide +kernel
theorem dX7_voteComes_37 : decode cX7_voteComes 37 = .ok (.iload_n 1, 1) := by decide +kernel
theorem dX7_voteComes_38 : decode cX7_voteComes 38 = .ok (.iload_n 2, 1) := by decide +kernel
theorem dX7_voteComes_39 : decode cX7_voteComes 39 = .ok (.iastore, 1) := by decide +kernel
theorem dX7_voteComes_40 : decode cX7_voteComes 40 = .ok (.aload_n 0, 1) := by decide +kernel
theorem dX7_voteComes_41 : decode cX7_voteComes 41 = .ok (.getfield 27, 3) := by decide +kernel
theorem dX7_voteComes_44 : decode cX7_voteComes 44 = .ok (.bipush 6, 2) := by decide +kernel
theorem dX7_voteComes_46 : decode cX7_voteComes 46 = .ok (.iload_n 1, 1) := by decide +kernel
theorem dX7_voteComes_47 : decode cX7_voteComes 47 = .ok (.imul, 1) := by decide +kernel
theorem dX7_voteComes_48 : decode cX7_voteComes 48 = .ok (.iload_n 3, 1) := by decide +kernel
theorem dX7_voteComes_49 : decode cX7_voteComes 49 = .ok (.iadd, 1) := by decide +kernel
theorem dX7_voteComes_50 : decode cX7_voteComes 50 = .ok (.iload_n 2, 1) := by decide +kernel
theorem dX7_voteComes_51 : decode cX7_voteComes 51 = .ok (.iastore, 1) := by decide +kernel
theorem dX7_voteComes_52 : decode cX7_voteComes 52 = .ok (.aload_n 0, 1) := by decide +kernel
theorem dX7_voteComes_53 : decode cX7_voteComes 53 = .ok (.getfield 30, 3) := by decide +kernel
theorem dX7_voteComes_56 : decode cX7_voteComes 56 = .ok (.bipush 6, 2) := by decide +kernel
theorem dX7_voteComes_58 : decode cX7_voteComes 58 = .ok (.iload_n 1, 1) := by decide +kernel
theorem dX7_voteComes_59 : decode cX7_voteComes 59 = .ok (.imul, 1) := by decide +kernel
theorem dX7_voteComes_60 : decode cX7_voteComes 60 = .ok (.iload_n 3, 1) := by decide +kernel
theorem dX7_voteComes_61 : decode cX7_voteComes 61 = .ok (.iadd, 1) := by decide +kernel
theorem dX7_voteComes_62 : decode cX7_voteComes 62 = .ok (.iload 4, 2) := by decide +kernel
theorem dX7_voteComes_64 : decode cX7_voteComes 64 = .ok (.iastore, 1) := by decide +kernel
theorem dX7_voteComes_65 : decode cX7_voteComes 65 = .ok (.aload_n 0, 1) := by decide +kernel
theorem dX7_voteComes_66 : decode cX7_voteComes 66 = .ok (.getfield 33, 3) := by decide +kernel
theorem dX7_voteComes_69 : decode cX7_voteComes 69 = .ok (.bipush 6, 2) := by decide +kernel
theorem dX7_voteComes_71 : decode cX7_voteComes 71 = .ok (.iload_n 2, 1) := by decide +kernel
theorem dX7_voteComes_72 : decode cX7_voteComes 72 = .ok (.imul, 1) := by decide +kernel
theorem dX7_voteComes_73 : decode cX7_voteComes 73 = .ok (.iload_n 3, 1) := by decide +kernel
theorem dX7_voteComes_74 : decode cX7_voteComes 74 = .ok (.iadd, 1) := by decide +kernel
theorem dX7_voteComes_75 : decode cX7_voteComes 75 = .ok (.dup2, 1) := by decide +kernel
theorem dX7_voteComes_76 : decode cX7_voteComes 76 = .ok (.iaload, 1) := by decide +kernel
theorem dX7_voteComes_77 : decode cX7_voteComes 77 = .ok (.iconst 1, 1) := by decide +kernel
theorem dX7_voteComes_78 : decode cX7_voteComes 78 = .ok (.iload_n 1, 1) := by decide +kernel
theorem dX7_voteComes_79 : decode cX7_voteComes 79 = .ok (.ishl, 1) := by decide +kernel
theorem dX7_voteComes_80 : decode cX7_voteComes 80 = .ok (.ior, 1) := by decide +kernel
theorem dX7_voteComes_81 : decode cX7_voteComes 81 = .ok (.iastore, 1) := by decide +kernel
theorem dX7_voteComes_82 : decode cX7_voteComes 82 = .ok (.aload_n 0, 1) := by decide +kernel
theorem dX7_voteComes_83 : decode cX7_voteComes 83 = .ok (.getfield 36, 3) := by decide +kernel
theorem dX7_voteComes_86 : decode cX7_voteComes 86 = .ok (.bipush 6, 2) := by decide +kernel
theorem dX7_voteComes_88 : decode cX7_voteComes 88 = .ok (.iload_n 2, 1) := by decide +kernel
theorem dX7_voteComes_89 : decode cX7_voteComes 89 = .ok (.imul, 1) := by decide +kernel
theorem dX7_voteComes_90 : decode cX7_voteComes 90 = .ok (.iload_n 3, 1) := by decide +kernel
theorem dX7_voteComes_91 : decode cX7_voteComes 91 = .ok (.iadd, 1) := by decide +kernel
theorem dX7_voteComes_92 : decode cX7_voteComes 92 = .ok (.iload 4, 2) := by decide +kernel
theorem dX7_voteComes_94 : decode cX7_voteComes 94 = .ok (.iastore, 1) := by decide +kernel
theorem dX7_voteComes_95 : decode cX7_voteComes 95 = .ok (.iconst 0, 1) := by decide +kernel
theorem dX7_voteComes_96 : decode cX7_voteComes 96 = .ok (.istore 5, 2) := by decide +kernel
theorem dX7_voteComes_98 : decode cX7_voteComes 98 = .ok (.iload 5, 2) := by decide +kernel
theorem dX7_voteComes_100 : decode cX7_voteComes 100 = .ok (.iconst 3, 1) := by decide +kernel
theorem dX7_voteComes_101 : decode cX7_voteComes 101 = .ok (.if_icmp .ge 21, 3) := by decide +kernel
theorem dX7_voteComes_104 : decode cX7_voteComes 104 = .ok (.aload_n 0, 1) := by decide +kernel
theorem dX7_voteComes_105 : decode cX7_voteComes 105 = .ok (.iconst 1, 1) := by decide +kernel
theorem dX7_voteComes_106 : decode cX7_voteComes 106 = .ok (.iload 5, 2) := by decide +kernel
theorem dX7_voteComes_108 : decode cX7_voteComes 108 = .ok (.iload_n 1, 1) := by decide +kernel
theorem dX7_voteComes_109 : decode cX7_voteComes 109 = .ok (.iload_n 3, 1) := by decide +kernel
theorem dX7_voteComes_110 : decode cX7_voteComes 110 = .ok (.iload_n 2, 1) := by decide +kernel
theorem dX7_voteComes_111 : decode cX7_voteComes 111 = .ok (.iload 4, 2) := by decide +kernel
theorem dX7_voteComes_113 : decode cX7_voteComes 113 = .ok (.invokevirtual 85, 3) := by decide +kernel
theorem dX7_voteComes_116 : decode cX7_voteComes 116 = .ok (.iinc 5 1, 3) := by decide +kernel
theorem dX7_voteComes_119 : decode cX7_voteComes 119 = .ok (.goto (-21), 3) := by decide +kernel
theorem dX7_voteComes_122 : decode cX7_voteComes 122 = .ok (.return_, 1) := by decide +kernel
theorem dX7_askComes_0 : decode cX7_askComes 0 = .ok (.aload_n 0, 1) := by decide +kernel
theorem dX7_askComes_1 : decode cX7_askComes 1 = .ok (.getfield 13, 3) := by decide +kernel
theorem dX7_askComes_4 : decode cX7_askComes 4 = .ok (.iconst 4, 1) := by decide +kernel
theorem dX7_askComes_5 : decode cX7_askComes 5 = .ok (.iaload, 1) := by decide +kernel
theorem dX7_askComes_6 : decode cX7_askComes 6 = .ok (.istore_n 2, 1) := by decide +kernel
theorem dX7_askComes_7 : decode cX7_askComes 7 = .ok (.iload_n 2, 1) := by decide +kernel
theorem dX7_askComes_8 : decode cX7_askComes 8 = .ok (.aload_n 0, 1) := by decide +kernel
theorem dX7_askComes_9 : decode cX7_askComes 9 = .ok (.getfield 24, 3) := by decide +kernel
theorem dX7_askComes_12 : decode cX7_askComes 12 = .ok (.iload_n 1, 1) := by decide +kernel
theorem dX7_askComes_13 : decode cX7_askComes 13 = .ok (.iaload, 1) := by decide +kernel
theorem dX7_askComes_14 : decode cX7_askComes 14 = .ok (.if_icmp .gt 4, 3) := by decide +kernel
theorem dX7_askComes_17 : decode cX7_askComes 17 = .ok (.return_, 1) := by decide +kernel
theorem dX7_askComes_18 : decode cX7_askComes 18 = .ok (.aload_n 0, 1) := by decide +kernel
theorem dX7_askComes_19 : decode cX7_askComes 19 = .ok (.getfield 24, 3) := by decide +kernel
theorem dX7_askComes_22 : decode cX7_askComes 22 = .ok (.iload_n 1, 1) := by decide +kernel
theorem dX7_askComes_23 : decode cX7_askComes 23 = .ok (.iload_n 2, 1) := by decide +kernel
theorem dX7_askComes_24 : decode cX7_askComes 24 = .ok (.iastore, 1) := by decide +kernel
theorem dX7_askComes_25 : decode cX7_askComes 25 = .ok (.aload_n 0, 1) := by decide +kernel
theorem dX7_askComes_26 : decode cX7_askComes 26 = .ok (.iconst 3, 1) := by decide +kernel
theorem dX7_askComes_27 : decode cX7_askComes 27 = .ok (.iload_n 2, 1) := by decide +kernel
theorem dX7_askComes_28 : decode cX7_askComes 28 = .ok (.iconst 1, 1) := by decide +kernel
theorem dX7_askComes_29 : decode cX7_askComes 29 = .ok (.isub, 1) := by decide +kernel
theorem dX7_askComes_30 : decode cX7_askComes 30 = .ok (.iconst 3, 1) := by decide +kernel
theorem dX7_askComes_31 : decode cX7_askComes 31 = .ok (.irem, 1) := by decide +kernel
theorem dX7_askComes_32 : decode cX7_askComes 32 = .ok (.iload_n 1, 1) := by decide +kernel
theorem dX7_askComes_33 : decode cX7_askComes 33 = .ok (.iconst (-1), 1) := by decide +kernel
theorem dX7_askComes_34 : decode cX7_askComes 34 = .ok (.iload_n 2, 1) := by decide +kernel
theorem dX7_askComes_35 : decode cX7_askComes 35 = .ok (.iconst (-1), 1) := by decide +kernel
theorem dX7_askComes_36 : decode cX7_askComes 36 = .ok (.invokevirtual 85, 3) := by decide +kernel
theorem dX7_askComes_39 : decode cX7_askComes 39 = .ok (.bipush 18, 2) := by decide +kernel
theorem dX7_askComes_41 : decode cX7_askComes 41 = .ok (.aload_n 0, 1) := by decide +kernel
theorem dX7_askComes_42 : decode cX7_askComes 42 = .ok (.getfield 79, 3) := by decide +kernel
theorem dX7_askComes_45 : decode cX7_askComes 45 = .ok (.iconst 1, 1) := by decide +kernel
theorem dX7_askComes_46 : decode cX7_askComes 46 = .ok (.isub, 1) := by decide +kernel
theorem dX7_askComes_47 : decode cX7_askComes 47 = .ok (.imul, 1) := by decide +kernel
theorem dX7_askComes_48 : decode cX7_askComes 48 = .ok (.istore_n 3, 1) := by decide +kernel
theorem dX7_askComes_49 : decode cX7_askComes 49 = .ok (.iconst 0, 1) := by decide +kernel
theorem dX7_askComes_50 : decode cX7_askComes 50 = .ok (.istore 4, 2) := by decide +kernel
theorem dX7_askComes_52 : decode cX7_askComes 52 = .ok (.iload 4, 2) := by decide +kernel
theorem dX7_askComes_54 : decode cX7_askComes 54 = .ok (.aload_n 0, 1) := by decide +kernel
theorem dX7_askComes_55 : decode cX7_askComes 55 = .ok (.getfield 69, 3) := by decide +kernel
theorem dX7_askComes_58 : decode cX7_askComes 58 = .ok (.if_icmp .ge 57, 3) := by decide +kernel
theorem dX7_askComes_61 : decode cX7_askComes 61 = .ok (.aload_n 0, 1) := by decide +kernel
theorem dX7_askComes_62 : decode cX7_askComes 62 = .ok (.getfield 9, 3) := by decide +kernel
theorem dX7_askComes_65 : decode cX7_askComes 65 = .ok (.iload_n 3, 1) := by decide +kernel
theorem dX7_askComes_66 : decode cX7_askComes 66 = .ok (.bipush 6, 2) := by decide +kernel
theorem dX7_askComes_68 : decode cX7_askComes 68 = .ok (.iadd, 1) := by decide +kernel
theorem dX7_askComes_69 : decode cX7_askComes 69 = .ok (.iload 4, 2) := by decide +kernel
theorem dX7_askComes_71 : decode cX7_askComes 71 = .ok (.iadd, 1) := by decide +kernel
theorem dX7_askComes_72 : decode cX7_askComes 72 = .ok (.aload_n 0, 1) := by decide +kernel
theorem dX7_askComes_73 : decode cX7_askComes 73 = .ok (.getfield 27, 3) := by decide +kernel
theorem dX7_askComes_76 : decode cX7_askComes 76 = .ok (.bipush 6, 2) := by decide +kernel
theorem dX7_askComes_78 : decode cX7_askComes 78 = .ok (.iload_n 1, 1) := by decide +kernel
theorem dX7_askComes_79 : decode cX7_askComes 79 = .ok (.imul, 1) := by decide +kernel
theorem dX7_askComes_80 : decode cX7_askComes 80 = .ok (.iload 4, 2) := by decide +kernel
theorem dX7_askComes_82 : decode cX7_askComes 82 = .ok (.iadd, 1) := by decide +kernel
theorem dX7_askComes_83 : decode cX7_askComes 83 = .ok (.iaload, 1) := by decide +kernel
theorem dX7_askComes_84 : decode cX7_askComes 84 = .ok (.iastore, 1) := by decide +kernel
theorem dX7_askComes_85 : decode cX7_askComes 85 = .ok (.aload_n 0, 1) := by decide +kernel
theorem dX7_askComes_86 : decode cX7_askComes 86 = .ok (.getfield 9, 3) := by decide +kernel
theorem dX7_askComes_89 : decode cX7_askComes 89 = .ok (.iload_n 3, 1) := by decide +kernel
theorem dX7_askComes_90 : decode cX7_askComes 90 = .ok (.bipush 12, 2) := by decide +kernel
theorem dX7_askComes_92 : decode cX7_askComes 92 = .ok (.iadd, 1) := by decide +kernel
theorem dX7_askComes_93 : decode cX7_askComes 93 = .ok (.iload 4, 2) := by decide +kernel
theorem dX7_askComes_95 : decode cX7_askComes 95 = .ok (.iadd, 1) := by decide +kernel
theorem dX7_askComes_96 : decode cX7_askComes 96 = .ok (.aload_n 0, 1) := by decide +kernel
theorem dX7_askComes_97 : decode cX7_askComes 97 = .ok (.getfield 30, 3) := by decide +kernel
theorem dX7_askComes_100 : decode cX7_askComes 100 = .ok (.bipush 6, 2) := by decide +kernel
theorem dX7_askComes_102 : decode cX7_askComes 102 = .ok (.iload_n 1, 1) := by decide +kernel
theorem dX7_askComes_103 : decode cX7_askComes 103 = .ok (.imul, 1) := by decide +kernel
theorem dX7_askComes_104 : decode cX7_askComes 104 = .ok (.iload 4, 2) := by decide +kernel
theorem dX7_askComes_106 : decode cX7_askComes 106 = .ok (.iadd, 1) := by decide +kernel
theorem dX7_askComes_107 : decode cX7_askComes 107 = .ok (.iaload, 1) := by decide +kernel
theorem dX7_askComes_108 : decode cX7_askComes 108 = .ok (.iastore, 1) := by decide +kernel
theorem dX7_askComes_109 : decode cX7_askComes 109 = .ok (.iinc 4 1, 3) := by decide +kernel
theorem dX7_askComes_112 : decode cX7_askComes 112 = .ok (.goto (-60), 3) := by decide +kernel
theorem dX7_askComes_115 : decode cX7_askComes 115 = .ok (.return_, 1) := by decide +kernel
theorem dX7_toldComes_0 : decode cX7_toldComes 0 = .ok (.aload_n 0, 1) := by decide +kernel
theorem dX7_toldComes_1 : decode cX7_toldComes 1 = .ok (.getfield 13, 3) := by decide +kernel
theorem dX7_toldComes_4 : decode cX7_toldComes 4 = .ok (.iconst 4, 1) := by decide +kernel
theorem dX7_toldComes_5 : decode cX7_toldComes 5 = .ok (.iaload, 1) := by decide +kernel
theorem dX7_toldComes_6 : decode cX7_toldComes 6 = .ok (.istore_n 2, 1) := by decide +kernel
theorem dX7_toldComes_7 : decode cX7_toldComes 7 = .ok (.aload_n 0, 1) := by decide +kernel
theorem dX7_toldComes_8 : decode cX7_toldComes 8 = .ok (.getfield 13, 3) := by decide +kernel
theorem dX7_toldComes_11 : decode cX7_toldComes 11 = .ok (.iconst 2, 1) := by decide +kernel
theorem dX7_toldComes_12 : decode cX7_toldComes 12 = .ok (.iaload, 1) := by decide +kernel
theorem dX7_toldComes_13 : decode cX7_toldComes 13 = .ok (.istore_n 3, 1) := by decide +kernel
theorem dX7_toldComes_14 : decode cX7_toldComes 14 = .ok (.aload_n 0, 1) := by decide +kernel
theorem dX7_toldComes_15 : decode cX7_toldComes 15 = .ok (.getfield 45, 3) := by decide +kernel
theorem dX7_toldComes_18 : decode cX7_toldComes 18 = .ok (.iload_n 1, 1) := by decide +kernel
theorem dX7_toldComes_19 : decode cX7_toldComes 19 = .ok (.aload_n 0, 1) := by decide +kernel
theorem dX7_toldComes_20 : decode cX7_toldComes 20 = .ok (.getfield 45, 3) := by decide +kernel
theorem dX7_toldComes_23 : decode cX7_toldComes 23 = .ok (.iload_n 1, 1) := by decide +kernel
theorem dX7_toldComes_24 : decode cX7_toldComes 24 = .ok (.iaload, 1) := by decide +kernel
theorem dX7_toldComes_25 : decode cX7_toldComes 25 = .ok (.iload_n 2, 1) := by decide +kernel
theorem dX7_toldComes_26 : decode cX7_toldComes 26 = .ok (.invokestatic 175, 3) := by decide +kernel
theorem dX7_toldComes_29 : decode cX7_toldComes 29 = .ok (.iastore, 1) := by decide +kernel
theorem dX7_toldComes_30 : decode cX7_toldComes 30 = .ok (.aload_n 0, 1) := by decide +kernel
theorem dX7_toldComes_31 : decode cX7_toldComes 31 = .ok (.getfield 42, 3) := by decide +kernel
theorem dX7_toldComes_34 : decode cX7_toldComes 34 = .ok (.iload_n 1, 1) := by decide +kernel
theorem dX7_toldComes_35 : decode cX7_toldComes 35 = .ok (.iaload, 1) := by decide +kernel
theorem dX7_toldComes_36 : decode cX7_toldComes 36 = .ok (.iconst 1, 1) := by decide +kernel
theorem dX7_toldComes_37 : decode cX7_toldComes 37 = .ok (.if_icmp .ne 13, 3) := by decide +kernel
theorem dX7_toldComes_40 : decode cX7_toldComes 40 = .ok (.iload_n 2, 1) := by decide +kernel
theorem dX7_toldComes_41 : decode cX7_toldComes 41 = .ok (.aload_n 0, 1) := by decide +kernel
theorem dX7_toldComes_42 : decode cX7_toldComes 42 = .ok (.getfield 39, 3) := by decide +kernel
theorem dX7_toldComes_45 : decode cX7_toldComes 45 = .ok (.iload_n 1, 1) := by decide +kernel
theorem dX7_toldComes_46 : decode cX7_toldComes 46 = .ok (.iaload, 1) := by decide +kernel
theorem dX7_toldComes_47 : decode cX7_toldComes 47 = .ok (.if_icmp .eq 4, 3) := by decide +kernel
theorem dX7_toldComes_50 : decode cX7_toldComes 50 = .ok (.return_, 1) := by decide +kernel
theorem dX7_toldComes_51 : decode cX7_toldComes 51 = .ok (.aload_n 0, 1) := by decide +kernel
theorem dX7_toldComes_52 : decode cX7_toldComes 52 = .ok (.getfield 51, 3) := by decide +kernel
theorem dX7_toldComes_55 : decode cX7_toldComes 55 = .ok (.iload_n 1, 1) := by decide +kernel
theorem dX7_toldComes_56 : decode cX7_toldComes 56 = .ok (.dup2, 1) := by decide +kernel
theorem dX7_toldComes_57 : decode cX7_toldComes 57 = .ok (.iaload, 1) := by decide +kernel
theorem dX7_toldComes_58 : decode cX7_toldComes 58 = .ok (.iconst 1, 1) := by decide +kernel
theorem dX7_toldComes_59 : decode cX7_toldComes 59 = .ok (.iload_n 3, 1) := by decide +kernel
theorem dX7_toldComes_60 : decode cX7_toldComes 60 = .ok (.ishl, 1) := by decide +kernel
theorem dX7_toldComes_61 : decode cX7_toldComes 61 = .ok (.ior, 1) := by decide +kernel
theorem dX7_toldComes_62 : decode cX7_toldComes 62 = .ok (.iastore, 1) := by decide +kernel
theorem dX7_toldComes_63 : decode cX7_toldComes 63 = .ok (.iconst 0, 1) := by decide +kernel
theorem dX7_toldComes_64 : decode cX7_toldComes 64 = .ok (.istore 4, 2) := by decide +kernel
theorem dX7_toldComes_66 : decode cX7_toldComes 66 = .ok (.iload 4, 2) := by decide +kernel
theorem dX7_toldComes_68 : decode cX7_toldComes 68 = .ok (.aload_n 0, 1) := by decide +kernel
theorem dX7_toldComes_69 : decode cX7_toldComes 69 = .ok (.getfield 69, 3) := by decide +kernel
theorem dX7_toldComes_72 : decode cX7_toldComes 72 = .ok (.if_icmp .ge 61, 3) := by decide +kernel
theorem dX7_toldComes_75 : decode cX7_toldComes 75 = .ok (.aload_n 0, 1) := by decide +kernel
theorem dX7_toldComes_76 : decode cX7_toldComes 76 = .ok (.getfield 54, 3) := by decide +kernel
theorem dX7_toldComes_79 : decode cX7_toldComes 79 = .ok (.iconst 5, 1) := by decide +kernel
theorem dX7_toldComes_80 : decode cX7_toldComes 80 = .ok (.iload_n 1, 1) := by decide +kernel
theorem dX7_toldComes_81 : decode cX7_toldComes 81 = .ok (.imul, 1) := by decide +kernel
theorem dX7_toldComes_82 : decode cX7_toldComes 82 = .ok (.iload_n 3, 1) := by decide +kernel
theorem dX7_toldComes_83 : decode cX7_toldComes 83 = .ok (.iadd, 1) := by decide +kernel
theorem dX7_toldComes_84 : decode cX7_toldComes 84 = .ok (.bipush 6, 2) := by decide +kernel
theorem dX7_toldComes_86 : decode cX7_toldComes 86 = .ok (.imul, 1) := by decide +kernel
theorem dX7_toldComes_87 : decode cX7_toldComes 87 = .ok (.iload 4, 2) := by decide +kernel
theorem dX7_toldComes_89 : decode cX7_toldComes 89 = .ok (.iadd, 1) := by decide +kernel
theorem dX7_toldComes_90 : decode cX7_toldComes 90 = .ok (.aload_n 0, 1) := by decide +kernel
theorem dX7_toldComes_91 : decode cX7_toldComes 91 = .ok (.getfield 13, 3) := by decide +kernel
theorem dX7_toldComes_94 : decode cX7_toldComes 94 = .ok (.bipush 6, 2) := by decide +kernel
theorem dX7_toldComes_96 : decode cX7_toldComes 96 = .ok (.iload 4, 2) := by decide +kernel
theorem dX7_toldComes_98 : decode cX7_toldComes 98 = .ok (.iadd, 1) := by decide +kernel
theorem dX7_toldComes_99 : decode cX7_toldComes 99 = .ok (.iaload, 1) := by decide +kernel
theorem dX7_toldComes_100 : decode cX7_toldComes 100 = .ok (.iastore, 1) := by decide +kernel
theorem dX7_toldComes_101 : decode cX7_toldComes 101 = .ok (.aload_n 0, 1) := by decide +kernel
theorem dX7_toldComes_102 : decode cX7_toldComes 102 = .ok (.getfield 57, 3) := by decide +kernel
theorem dX7_toldComes_105 : decode cX7_toldComes 105 = .ok (.iconst 5, 1) := by decide +kernel
theorem dX7_toldComes_106 : decode cX7_toldComes 106 = .ok (.iload_n 1, 1) := by decide +kernel
theorem dX7_toldComes_107 : decode cX7_toldComes 107 = .ok (.imul, 1) := by decide +kernel
theorem dX7_toldComes_108 : decode cX7_toldComes 108 = .ok (.iload_n 3, 1) := by decide +kernel
theorem dX7_toldComes_109 : decode cX7_toldComes 109 = .ok (.iadd, 1) := by decide +kernel
theorem dX7_toldComes_110 : decode cX7_toldComes 110 = .ok (.bipush 6, 2) := by decide +kernel
theorem dX7_toldComes_112 : decode cX7_toldComes 112 = .ok (.imul, 1) := by decide +kernel
theorem dX7_toldComes_113 : decode cX7_toldComes 113 = .ok (.iload 4, 2) := by decide +kernel
theorem dX7_toldComes_115 : decode cX7_toldComes 115 = .ok (.iadd, 1) := by decide +kernel
theorem dX7_toldComes_116 : decode cX7_toldComes 116 = .ok (.aload_n 0, 1) := by decide +kernel
theorem dX7_toldComes_117 : decode cX7_toldComes 117 = .ok (.getfield 13, 3) := by decide +kernel
theorem dX7_toldComes_120 : decode cX7_toldComes 120 = .ok (.bipush 12, 2) := by decide +kernel
theorem dX7_toldComes_122 : decode cX7_toldComes 122 = .ok (.iload 4, 2) := by decide +kernel
theorem dX7_toldComes_124 : decode cX7_toldComes 124 = .ok (.iadd, 1) := by decide +kernel
theorem dX7_toldComes_125 : decode cX7_toldComes 125 = .ok (.iaload, 1) := by decide +kernel
theorem dX7_toldComes_126 : decode cX7_toldComes 126 = .ok (.iastore, 1) := by decide +kernel
theorem dX7_toldComes_127 : decode cX7_toldComes 127 = .ok (.iinc 4 1, 3) := by decide +kernel
theorem dX7_toldComes_130 : decode cX7_toldComes 130 = .ok (.goto (-64), 3) := by decide +kernel
theorem dX7_toldComes_133 : decode cX7_toldComes 133 = .ok (.aload_n 0, 1) := by decide +kernel
theorem dX7_toldComes_134 : decode cX7_toldComes 134 = .ok (.aload_n 0, 1) := by decide +kernel
theorem dX7_toldComes_135 : decode cX7_toldComes 135 = .ok (.getfield 51, 3) := by decide +kernel
theorem dX7_toldComes_138 : decode cX7_toldComes 138 = .ok (.iload_n 1, 1) := by decide +kernel
theorem dX7_toldComes_139 : decode cX7_toldComes 139 = .ok (.iaload, 1) := by decide +kernel
theorem dX7_toldComes_140 : decode cX7_toldComes 140 = .ok (.invokestatic 118, 3) := by decide +kernel
theorem dX7_toldComes_143 : decode cX7_toldComes 143 = .ok (.invokevirtual 122, 3) := by decide +kernel
theorem dX7_toldComes_146 : decode cX7_toldComes 146 = .ok (.ifCond .ne 4, 3) := by decide +kernel
theorem dX7_toldComes_149 : decode cX7_toldComes 149 = .ok (.return_, 1) := by decide +kernel
theorem dX7_toldComes_150 : decode cX7_toldComes 150 = .ok (.aload_n 0, 1) := by decide +kernel
theorem dX7_toldComes_151 : decode cX7_toldComes 151 = .ok (.getfield 42, 3) := by decide +kernel
theorem dX7_toldComes_154 : decode cX7_toldComes 154 = .ok (.iload_n 1, 1) := by decide +kernel
theorem dX7_toldComes_155 : decode cX7_toldComes 155 = .ok (.iconst 2, 1) := by decide +kernel
theorem dX7_toldComes_156 : decode cX7_toldComes 156 = .ok (.iastore, 1) := by decide +kernel
theorem dX7_toldComes_157 : decode cX7_toldComes 157 = .ok (.iconst 0, 1) := by decide +kernel
theorem dX7_toldComes_158 : decode cX7_toldComes 158 = .ok (.istore 4, 2) := by decide +kernel
theorem dX7_toldComes_160 : decode cX7_toldComes 160 = .ok (.iload 4, 2) := by decide +kernel
theorem dX7_toldComes_162 : decode cX7_toldComes 162 = .ok (.aload_n 0, 1) := by decide +kernel
theorem dX7_toldComes_163 : decode cX7_toldComes 163 = .ok (.getfield 69, 3) := by decide +kernel
theorem dX7_toldComes_166 : decode cX7_toldComes 166 = .ok (.if_icmp .ge 119, 3) := by decide +kernel
theorem dX7_toldComes_169 : decode cX7_toldComes 169 = .ok (.iconst (-1), 1) := by decide +kernel
theorem dX7_toldComes_170 : decode cX7_toldComes 170 = .ok (.istore 5, 2) := by decide +kernel
theorem dX7_toldComes_172 : decode cX7_toldComes 172 = .ok (.iconst 2, 1) := by decide +kernel
theorem dX7_toldComes_173 : decode cX7_toldComes 173 = .ok (.istore 6, 2) := by decide +kernel
theorem dX7_toldComes_175 : decode cX7_toldComes 175 = .ok (.iconst 0, 1) := by decide +kernel
theorem dX7_toldComes_176 : decode cX7_toldComes 176 = .ok (.istore 7, 2) := by decide +kernel
theorem dX7_toldComes_178 : decode cX7_toldComes 178 = .ok (.iload 7, 2) := by decide +kernel
theorem dX7_toldComes_180 : decode cX7_toldComes 180 = .ok (.aload_n 0, 1) := by decide +kernel
theorem dX7_toldComes_181 : decode cX7_toldComes 181 = .ok (.getfield 73, 3) := by decide +kernel
theorem dX7_toldComes_184 : decode cX7_toldComes 184 = .ok (.if_icmp .ge 86, 3) := by decide +kernel
theorem dX7_toldComes_187 : decode cX7_toldComes 187 = .ok (.aload_n 0, 1) := by decide +kernel
theorem dX7_toldComes_188 : decode cX7_toldComes 188 = .ok (.getfield 51, 3) := by decide +kernel
theorem dX7_toldComes_191 : decode cX7_toldComes 191 = .ok (.iload_n 1, 1) := by decide +kernel
theorem dX7_toldComes_192 : decode cX7_toldComes 192 = .ok (.iaload, 1) := by decide +kernel
theorem dX7_toldComes_193 : decode cX7_toldComes 193 = .ok (.iload 7, 2) := by decide +kernel
theorem dX7_toldComes_195 : decode cX7_toldComes 195 = .ok (.ishr, 1) := by decide +kernel
theorem dX7_toldComes_196 : decode cX7_toldComes 196 = .ok (.iconst 1, 1) := by decide +kernel
theorem dX7_toldComes_197 : decode cX7_toldComes 197 = .ok (.iand, 1) := by decide +kernel
theorem dX7_toldComes_198 : decode cX7_toldComes 198 = .ok (.ifCond .eq 66, 3) := by decide +kernel
theorem dX7_toldComes_201 : decode cX7_toldComes 201 = .ok (.aload_n 0, 1) := by decide +kernel
theorem dX7_toldComes_202 : decode cX7_toldComes 202 = .ok (.getfield 54, 3) := by decide +kernel
theorem dX7_toldComes_205 : decode cX7_toldComes 205 = .ok (.iconst 5, 1) := by decide +kernel
theorem dX7_toldComes_206 : decode cX7_toldComes 206 = .ok (.iload_n 1, 1) := by decide +kernel
theorem dX7_toldComes_207 : decode cX7_toldComes 207 = .ok (.imul, 1) := by decide +kernel
theorem dX7_toldComes_208 : decode cX7_toldComes 208 = .ok (.iload 7, 2) := by decide +kernel
theorem dX7_toldComes_210 : decode cX7_toldComes 210 = .ok (.iadd, 1) := by decide +kernel
theorem dX7_toldComes_211 : decode cX7_toldComes 211 = .ok (.bipush 6, 2) := by decide +kernel
theorem dX7_toldComes_213 : decode cX7_toldComes 213 = .ok (.imul, 1) := by decide +kernel
theorem dX7_toldComes_214 : decode cX7_toldComes 214 = .ok (.iload 4, 2) := by decide +kernel
theorem dX7_toldComes_216 : decode cX7_toldComes 216 = .ok (.iadd, 1) := by decide +kernel
theorem dX7_toldComes_217 : decode cX7_toldComes 217 = .ok (.iaload, 1) := by decide +kernel
theorem dX7_toldComes_218 : decode cX7_toldComes 218 = .ok (.iload 5, 2) := by decide +kernel
theorem dX7_toldComes_220 : decode cX7_toldComes 220 = .ok (.if_icmp .gt 6, 3) := by decide +kernel
theorem dX7_toldComes_223 : decode cX7_toldComes 223 = .ok (.goto 41, 3) := by decide +kernel
theorem dX7_toldComes_226 : decode cX7_toldComes 226 = .ok (.aload_n 0, 1) := by decide +kernel
theorem dX7_toldComes_227 : decode cX7_toldComes 227 = .ok (.getfield 54, 3) := by decide +kernel
theorem dX7_toldComes_230 : decode cX7_toldComes 230 = .ok (.iconst 5, 1) := by decide +kernel
theorem dX7_toldComes_231 : decode cX7_toldComes 231 = .ok (.iload_n 1, 1) := by decide +kernel
theorem dX7_toldComes_232 : decode cX7_toldComes 232 = .ok (.imul, 1) := by decide +kernel
theorem dX7_toldComes_233 : decode cX7_toldComes 233 = .ok (.iload 7, 2) := by decide +kernel
theorem dX7_toldComes_235 : decode cX7_toldComes 235 = .ok (.iadd, 1) := by decide +kernel
theorem dX7_toldComes_236 : decode cX7_toldComes 236 = .ok (.bipush 6, 2) := by decide +kernel
theorem dX7_toldComes_238 : decode cX7_toldComes 238 = .ok (.imul, 1) := by decide +kernel
theorem dX7_toldComes_239 : decode cX7_toldComes 239 = .ok (.iload 4, 2) := by decide +kernel
theorem dX7_toldComes_241 : decode cX7_toldComes 241 = .ok (.iadd, 1) := by decide +kernel
theorem dX7_toldComes_242 : decode cX7_toldComes 242 = .ok (.iaload, 1) := by decide +kernel
theorem dX7_toldComes_243 : decode cX7_toldComes 243 = .ok (.istore 5, 2) := by decide +kernel
theorem dX7_toldComes_245 : decode cX7_toldComes 245 = .ok (.aload_n 0, 1) := by decide +kernel
theorem dX7_toldComes_246 : decode cX7_toldComes 246 = .ok (.getfield 57, 3) := by decide +kernel
theorem dX7_toldComes_249 : decode cX7_toldComes 249 = .ok (.iconst 5, 1) := by decide +kernel
theorem dX7_toldComes_250 : decode cX7_toldComes 250 = .ok (.iload_n 1, 1) := by decide +kernel
theorem dX7_toldComes_251 : decode cX7_toldComes 251 = .ok (.imul, 1) := by decide +kernel
theorem dX7_toldComes_252 : decode cX7_toldComes 252 = .ok (.iload 7, 2) := by decide +kernel
theorem dX7_toldComes_254 : decode cX7_toldComes 254 = .ok (.iadd, 1) := by decide +kernel
theorem dX7_toldComes_255 : decode cX7_toldComes 255 = .ok (.bipush 6, 2) := by decide +kernel
theorem dX7_toldComes_257 : decode cX7_toldComes 257 = .ok (.imul, 1) := by decide +kernel
theorem dX7_toldComes_258 : decode cX7_toldComes 258 = .ok (.iload 4, 2) := by decide +kernel
theorem dX7_toldComes_260 : decode cX7_toldComes 260 = .ok (.iadd, 1) := by decide +kernel
theorem dX7_toldComes_261 : decode cX7_toldComes 261 = .ok (.iaload, 1) := by decide +kernel
theorem dX7_toldComes_262 : decode cX7_toldComes 262 = .ok (.istore 6, 2) := by decide +kernel
theorem dX7_toldComes_264 : decode cX7_toldComes 264 = .ok (.iinc 7 1, 3) := by decide +kernel
theorem dX7_toldComes_267 : decode cX7_toldComes 267 = .ok (.goto (-89), 3) := by decide +kernel
theorem dX7_toldComes_270 : decode cX7_toldComes 270 = .ok (.aload_n 0, 1) := by decide +kernel
theorem dX7_toldComes_271 : decode cX7_toldComes 271 = .ok (.iload 4, 2) := by decide +kernel
theorem dX7_toldComes_273 : decode cX7_toldComes 273 = .ok (.iload_n 2, 1) := by decide +kernel
theorem dX7_toldComes_274 : decode cX7_toldComes 274 = .ok (.iload 6, 2) := by decide +kernel
theorem dX7_toldComes_276 : decode cX7_toldComes 276 = .ok (.invokevirtual 100, 3) := by decide +kernel
theorem dX7_toldComes_279 : decode cX7_toldComes 279 = .ok (.iinc 4 1, 3) := by decide +kernel
theorem dX7_toldComes_282 : decode cX7_toldComes 282 = .ok (.goto (-122), 3) := by decide +kernel
theorem dX7_toldComes_285 : decode cX7_toldComes 285 = .ok (.return_, 1) := by decide +kernel
theorem dX7_votedComes_0 : decode cX7_votedComes 0 = .ok (.aload_n 0, 1) := by decide +kernel
theorem dX7_votedComes_1 : decode cX7_votedComes 1 = .ok (.getfield 13, 3) := by decide +kernel
theorem dX7_votedComes_4 : decode cX7_votedComes 4 = .ok (.iconst 4, 1) := by decide +kernel
theorem dX7_votedComes_5 : decode cX7_votedComes 5 = .ok (.iaload, 1) := by decide +kernel
theorem dX7_votedComes_6 : decode cX7_votedComes 6 = .ok (.istore_n 3, 1) := by decide +kernel
theorem dX7_votedComes_7 : decode cX7_votedComes 7 = .ok (.aload_n 0, 1) := by decide +kernel
theorem dX7_votedComes_8 : decode cX7_votedComes 8 = .ok (.iload_n 1, 1) := by decide +kernel
theorem dX7_votedComes_9 : decode cX7_votedComes 9 = .ok (.aload_n 0, 1) := by decide +kernel
theorem dX7_votedComes_10 : decode cX7_votedComes 10 = .ok (.getfield 13, 3) := by decide +kernel
theorem dX7_votedComes_13 : decode cX7_votedComes 13 = .ok (.iconst 3, 1) := by decide +kernel
theorem dX7_votedComes_14 : decode cX7_votedComes 14 = .ok (.iaload, 1) := by decide +kernel
theorem dX7_votedComes_15 : decode cX7_votedComes 15 = .ok (.aload_n 0, 1) := by decide +kernel
theorem dX7_votedComes_16 : decode cX7_votedComes 16 = .ok (.getfield 13, 3) := by decide +kernel
theorem dX7_votedComes_19 : decode cX7_votedComes 19 = .ok (.iconst 2, 1) := by decide +kernel
theorem dX7_votedComes_20 : decode cX7_votedComes 20 = .ok (.iaload, 1) := by decide +kernel
theorem dX7_votedComes_21 : decode cX7_votedComes 21 = .ok (.invokevirtual 136, 3) := by decide +kernel
theorem dX7_votedComes_24 : decode cX7_votedComes 24 = .ok (.istore 4, 2) := by decide +kernel
theorem dX7_votedComes_26 : decode cX7_votedComes 26 = .ok (.aload_n 0, 1) := by decide +kernel
theorem dX7_votedComes_27 : decode cX7_votedComes 27 = .ok (.getfield 45, 3) := by decide +kernel
theorem dX7_votedComes_30 : decode cX7_votedComes 30 = .ok (.iload_n 1, 1) := by decide +kernel
theorem dX7_votedComes_31 : decode cX7_votedComes 31 = .ok (.aload_n 0, 1) := by decide +kernel
theorem dX7_votedComes_32 : decode cX7_votedComes 32 = .ok (.getfield 45, 3) := by decide +kernel
theorem dX7_votedComes_35 : decode cX7_votedComes 35 = .ok (.iload_n 1, 1) := by decide +kernel
theorem dX7_votedComes_36 : decode cX7_votedComes 36 = .ok (.iaload, 1) := by decide +kernel
theorem dX7_votedComes_37 : decode cX7_votedComes 37 = .ok (.iload_n 3, 1) := by decide +kernel
theorem dX7_votedComes_38 : decode cX7_votedComes 38 = .ok (.invokestatic 175, 3) := by decide +kernel
theorem dX7_votedComes_41 : decode cX7_votedComes 41 = .ok (.iastore, 1) := by decide +kernel
theorem dX7_votedComes_42 : decode cX7_votedComes 42 = .ok (.iload_n 3, 1) := by decide +kernel
theorem dX7_votedComes_43 : decode cX7_votedComes 43 = .ok (.aload_n 0, 1) := by decide +kernel
theorem dX7_votedComes_44 : decode cX7_votedComes 44 = .ok (.getfield 60, 3) := by decide +kernel
theorem dX7_votedComes_47 : decode cX7_votedComes 47 = .ok (.iload 4, 2) := by decide +kernel
theorem dX7_votedComes_49 : decode cX7_votedComes 49 = .ok (.iaload, 1) := by decide +kernel
theorem dX7_votedComes_50 : decode cX7_votedComes 50 = .ok (.if_icmp .le 24, 3) := by decide +kernel
theorem dX7_votedComes_53 : decode cX7_votedComes 53 = .ok (.aload_n 0, 1) := by decide +kernel
theorem dX7_votedComes_54 : decode cX7_votedComes 54 = .ok (.getfield 60, 3) := by decide +kernel
theorem dX7_votedComes_57 : decode cX7_votedComes 57 = .ok (.iload 4, 2) := by decide +kernel
theorem dX7_votedComes_59 : decode cX7_votedComes 59 = .ok (.iload_n 3, 1) := by decide +kernel
theorem dX7_votedComes_60 : decode cX7_votedComes 60 = .ok (.iastore, 1) := by decide +kernel
theorem dX7_votedComes_61 : decode cX7_votedComes 61 = .ok (.aload_n 0, 1) := by decide +kernel
theorem dX7_votedComes_62 : decode cX7_votedComes 62 = .ok (.getfield 63, 3) := by decide +kernel
theorem dX7_votedComes_65 : decode cX7_votedComes 65 = .ok (.iload 4, 2) := by decide +kernel
theorem dX7_votedComes_67 : decode cX7_votedComes 67 = .ok (.aload_n 0, 1) := by decide +kernel
theorem dX7_votedComes_68 : decode cX7_votedComes 68 = .ok (.getfield 13, 3) := by decide +kernel
theorem dX7_votedComes_71 : decode cX7_votedComes 71 = .ok (.iconst 5, 1) := by decide +kernel
theorem dX7_votedComes_72 : decode cX7_votedComes 72 = .ok (.iaload, 1) := by decide +kernel
theorem dX7_votedComes_73 : decode cX7_votedComes 73 = .ok (.iastore, 1) := by decide +kernel
theorem dX7_votedComes_74 : decode cX7_votedComes 74 = .ok (.iconst 0, 1) := by decide +kernel
theorem dX7_votedComes_75 : decode cX7_votedComes 75 = .ok (.istore 5, 2) := by decide +kernel
theorem dX7_votedComes_77 : decode cX7_votedComes 77 = .ok (.iload 5, 2) := by decide +kernel
theorem dX7_votedComes_79 : decode cX7_votedComes 79 = .ok (.aload_n 0, 1) := by decide +kernel
theorem dX7_votedComes_80 : decode cX7_votedComes 80 = .ok (.getfield 69, 3) := by decide +kernel
theorem dX7_votedComes_83 : decode cX7_votedComes 83 = .ok (.if_icmp .ge 29, 3) := by decide +kernel
theorem dX7_votedComes_86 : decode cX7_votedComes 86 = .ok (.aload_n 0, 1) := by decide +kernel
theorem dX7_votedComes_87 : decode cX7_votedComes 87 = .ok (.getfield 66, 3) := by decide +kernel
theorem dX7_votedComes_90 : decode cX7_votedComes 90 = .ok (.iload_n 1, 1) := by decide +kernel
theorem dX7_votedComes_91 : decode cX7_votedComes 91 = .ok (.bipush 6, 2) := by decide +kernel
theorem dX7_votedComes_93 : decode cX7_votedComes 93 = .ok (.imul, 1) := by decide +kernel
theorem dX7_votedComes_94 : decode cX7_votedComes 94 = .ok (.iload 5, 2) := by decide +kernel
theorem dX7_votedComes_96 : decode cX7_votedComes 96 = .ok (.iadd, 1) := by decide +kernel
theorem dX7_votedComes_97 : decode cX7_votedComes 97 = .ok (.aload_n 0, 1) := by decide +kernel
theorem dX7_votedComes_98 : decode cX7_votedComes 98 = .ok (.iload_n 1, 1) := by decide +kernel
theorem dX7_votedComes_99 : decode cX7_votedComes 99 = .ok (.iload 5, 2) := by decide +kernel
theorem dX7_votedComes_101 : decode cX7_votedComes 101 = .ok (.iconst (-1), 1) := by decide +kernel
theorem dX7_votedComes_102 : decode cX7_votedComes 102 = .ok (.invokevirtual 140, 3) := by decide +kernel
theorem dX7_votedComes_105 : decode cX7_votedComes 105 = .ok (.iastore, 1) := by decide +kernel
theorem dX7_votedComes_106 : decode cX7_votedComes 106 = .ok (.iinc 5 1, 3) := by decide +kernel
theorem dX7_votedComes_109 : decode cX7_votedComes 109 = .ok (.goto (-32), 3) := by decide +kernel
theorem dX7_votedComes_112 : decode cX7_votedComes 112 = .ok (.iload_n 2, 1) := by decide +kernel
theorem dX7_votedComes_113 : decode cX7_votedComes 113 = .ok (.ifCond .ne 4, 3) := by decide +kernel
theorem dX7_votedComes_116 : decode cX7_votedComes 116 = .ok (.return_, 1) := by decide +kernel
theorem dX7_votedComes_117 : decode cX7_votedComes 117 = .ok (.aload_n 0, 1) := by decide +kernel
theorem dX7_votedComes_118 : decode cX7_votedComes 118 = .ok (.getfield 48, 3) := by decide +kernel
theorem dX7_votedComes_121 : decode cX7_votedComes 121 = .ok (.iload_n 1, 1) := by decide +kernel
theorem dX7_votedComes_122 : decode cX7_votedComes 122 = .ok (.aload_n 0, 1) := by decide +kernel
theorem dX7_votedComes_123 : decode cX7_votedComes 123 = .ok (.iload_n 1, 1) := by decide +kernel
theorem dX7_votedComes_124 : decode cX7_votedComes 124 = .ok (.iconst (-1), 1) := by decide +kernel
theorem dX7_votedComes_125 : decode cX7_votedComes 125 = .ok (.invokevirtual 143, 3) := by decide +kernel
theorem dX7_votedComes_128 : decode cX7_votedComes 128 = .ok (.iastore, 1) := by decide +kernel
theorem dX7_votedComes_129 : decode cX7_votedComes 129 = .ok (.iconst 0, 1) := by decide +kernel
theorem dX7_votedComes_130 : decode cX7_votedComes 130 = .ok (.istore 5, 2) := by decide +kernel
theorem dX7_votedComes_132 : decode cX7_votedComes 132 = .ok (.iload 5, 2) := by decide +kernel
theorem dX7_votedComes_134 : decode cX7_votedComes 134 = .ok (.aload_n 0, 1) := by decide +kernel
theorem dX7_votedComes_135 : decode cX7_votedComes 135 = .ok (.getfield 69, 3) := by decide +kernel
theorem dX7_votedComes_138 : decode cX7_votedComes 138 = .ok (.if_icmp .ge 25, 3) := by decide +kernel
theorem dX7_votedComes_141 : decode cX7_votedComes 141 = .ok (.aload_n 0, 1) := by decide +kernel
theorem dX7_votedComes_142 : decode cX7_votedComes 142 = .ok (.iconst 4, 1) := by decide +kernel
theorem dX7_votedComes_143 : decode cX7_votedComes 143 = .ok (.iload 5, 2) := by decide +kernel
theorem dX7_votedComes_145 : decode cX7_votedComes 145 = .ok (.iconst (-1), 1) := by decide +kernel
theorem dX7_votedComes_146 : decode cX7_votedComes 146 = .ok (.iconst (-1), 1) := by decide +kernel
theorem dX7_votedComes_147 : decode cX7_votedComes 147 = .ok (.iconst (-1), 1) := by decide +kernel
theorem dX7_votedComes_148 : decode cX7_votedComes 148 = .ok (.aload_n 0, 1) := by decide +kernel
theorem dX7_votedComes_149 : decode cX7_votedComes 149 = .ok (.getfield 48, 3) := by decide +kernel
theorem dX7_votedComes_152 : decode cX7_votedComes 152 = .ok (.iload_n 1, 1) := by decide +kernel
theorem dX7_votedComes_153 : decode cX7_votedComes 153 = .ok (.iaload, 1) := by decide +kernel
theorem dX7_votedComes_154 : decode cX7_votedComes 154 = .ok (.invokevirtual 85, 3) := by decide +kernel
theorem dX7_votedComes_157 : decode cX7_votedComes 157 = .ok (.iinc 5 1, 3) := by decide +kernel
theorem dX7_votedComes_160 : decode cX7_votedComes 160 = .ok (.goto (-28), 3) := by decide +kernel
theorem dX7_votedComes_163 : decode cX7_votedComes 163 = .ok (.return_, 1) := by decide +kernel
theorem dX7_drop_0 : decode cX7_drop 0 = .ok (.aload_n 0, 1) := by decide +kernel
theorem dX7_drop_1 : decode cX7_drop 1 = .ok (.aload_n 0, 1) := by decide +kernel
theorem dX7_drop_2 : decode cX7_drop 2 = .ok (.iload_n 1, 1) := by decide +kernel
theorem dX7_drop_3 : decode cX7_drop 3 = .ok (.invokevirtual 146, 3) := by decide +kernel
theorem dX7_drop_6 : decode cX7_drop 6 = .ok (.invokevirtual 93, 3) := by decide +kernel
theorem dX7_drop_9 : decode cX7_drop 9 = .ok (.ifCond .eq 4, 3) := by decide +kernel
theorem dX7_drop_12 : decode cX7_drop 12 = .ok (.return_, 1) := by decide +kernel
theorem dX7_drop_13 : decode cX7_drop 13 = .ok (.aload_n 0, 1) := by decide +kernel
theorem dX7_drop_14 : decode cX7_drop 14 = .ok (.iload_n 1, 1) := by decide +kernel
theorem dX7_drop_15 : decode cX7_drop 15 = .ok (.invokevirtual 155, 3) := by decide +kernel
theorem dX7_drop_18 : decode cX7_drop 18 = .ok (.return_, 1) := by decide +kernel
theorem dX7_copy_0 : decode cX7_copy 0 = .ok (.aload_n 0, 1) := by decide +kernel
theorem dX7_copy_1 : decode cX7_copy 1 = .ok (.aload_n 0, 1) := by decide +kernel
theorem dX7_copy_2 : decode cX7_copy 2 = .ok (.iload_n 1, 1) := by decide +kernel
theorem dX7_copy_3 : decode cX7_copy 3 = .ok (.invokevirtual 146, 3) := by decide +kernel
theorem dX7_copy_6 : decode cX7_copy 6 = .ok (.invokevirtual 93, 3) := by decide +kernel
theorem dX7_copy_9 : decode cX7_copy 9 = .ok (.ifCond .eq 5, 3) := by decide +kernel
theorem dX7_copy_12 : decode cX7_copy 12 = .ok (.iconst 0, 1) := by decide +kernel
theorem dX7_copy_13 : decode cX7_copy 13 = .ok (.ireturn, 1) := by decide +kernel
theorem dX7_copy_14 : decode cX7_copy 14 = .ok (.aload_n 0, 1) := by decide +kernel
theorem dX7_copy_15 : decode cX7_copy 15 = .ok (.iconst 1, 1) := by decide +kernel
theorem dX7_copy_16 : decode cX7_copy 16 = .ok (.invokevirtual 97, 3) := by decide +kernel
theorem dX7_copy_19 : decode cX7_copy 19 = .ok (.ifCond .ne 5, 3) := by decide +kernel
theorem dX7_copy_22 : decode cX7_copy 22 = .ok (.iconst (-1), 1) := by decide +kernel
theorem dX7_copy_23 : decode cX7_copy 23 = .ok (.ireturn, 1) := by decide +kernel
theorem dX7_copy_24 : decode cX7_copy 24 = .ok (.iconst 0, 1) := by decide +kernel
theorem dX7_copy_25 : decode cX7_copy 25 = .ok (.istore_n 2, 1) := by decide +kernel
theorem dX7_copy_26 : decode cX7_copy 26 = .ok (.iload_n 2, 1) := by decide +kernel
theorem dX7_copy_27 : decode cX7_copy 27 = .ok (.bipush 18, 2) := by decide +kernel
theorem dX7_copy_29 : decode cX7_copy 29 = .ok (.if_icmp .ge 29, 3) := by decide +kernel
theorem dX7_copy_32 : decode cX7_copy 32 = .ok (.aload_n 0, 1) := by decide +kernel
theorem dX7_copy_33 : decode cX7_copy 33 = .ok (.getfield 9, 3) := by decide +kernel
theorem dX7_copy_36 : decode cX7_copy 36 = .ok (.bipush 18, 2) := by decide +kernel
theorem dX7_copy_38 : decode cX7_copy 38 = .ok (.aload_n 0, 1) := by decide +kernel
theorem dX7_copy_39 : decode cX7_copy 39 = .ok (.getfield 79, 3) := by decide +kernel
theorem dX7_copy_42 : decode cX7_copy 42 = .ok (.imul, 1) := by decide +kernel
theorem dX7_copy_43 : decode cX7_copy 43 = .ok (.iload_n 2, 1) := by decide +kernel
theorem dX7_copy_44 : decode cX7_copy 44 = .ok (.iadd, 1) := by decide +kernel
theorem dX7_copy_45 : decode cX7_copy 45 = .ok (.aload_n 0, 1) := by decide +kernel
theorem dX7_copy_46 : decode cX7_copy 46 = .ok (.iload_n 1, 1) := by decide +kernel
theorem dX7_copy_47 : decode cX7_copy 47 = .ok (.iload_n 2, 1) := by decide +kernel
theorem dX7_copy_48 : decode cX7_copy 48 = .ok (.invokevirtual 114, 3) := by decide +kernel
theorem dX7_copy_51 : decode cX7_copy 51 = .ok (.iastore, 1) := by decide +kernel
theorem dX7_copy_52 : decode cX7_copy 52 = .ok (.iinc 2 1, 3) := by decide +kernel
theorem dX7_copy_55 : decode cX7_copy 55 = .ok (.goto (-29), 3) := by decide +kernel
theorem dX7_copy_58 : decode cX7_copy 58 = .ok (.aload_n 0, 1) := by decide +kernel
theorem dX7_copy_59 : decode cX7_copy 59 = .ok (.dup, 1) := by decide +kernel
theorem dX7_copy_60 : decode cX7_copy 60 = .ok (.getfield 79, 3) := by decide +kernel
theorem dX7_copy_63 : decode cX7_copy 63 = .ok (.iconst 1, 1) := by decide +kernel
theorem dX7_copy_64 : decode cX7_copy 64 = .ok (.iadd, 1) := by decide +kernel
theorem dX7_copy_65 : decode cX7_copy 65 = .ok (.putfield 79, 3) := by decide +kernel
theorem dX7_copy_68 : decode cX7_copy 68 = .ok (.aload_n 0, 1) := by decide +kernel
theorem dX7_copy_69 : decode cX7_copy 69 = .ok (.dup, 1) := by decide +kernel
theorem dX7_copy_70 : decode cX7_copy 70 = .ok (.getfield 82, 3) := by decide +kernel
theorem dX7_copy_73 : decode cX7_copy 73 = .ok (.iconst 1, 1) := by decide +kernel
theorem dX7_copy_74 : decode cX7_copy 74 = .ok (.iadd, 1) := by decide +kernel
theorem dX7_copy_75 : decode cX7_copy 75 = .ok (.putfield 82, 3) := by decide +kernel
theorem dX7_copy_78 : decode cX7_copy 78 = .ok (.aload_n 0, 1) := by decide +kernel
theorem dX7_copy_79 : decode cX7_copy 79 = .ok (.getfield 79, 3) := by decide +kernel
theorem dX7_copy_82 : decode cX7_copy 82 = .ok (.ireturn, 1) := by decide +kernel
theorem dX7_calm_0 : decode cX7_calm 0 = .ok (.aload_n 0, 1) := by decide +kernel
theorem dX7_calm_1 : decode cX7_calm 1 = .ok (.iload_n 1, 1) := by decide +kernel
theorem dX7_calm_2 : decode cX7_calm 2 = .ok (.ifCond .lt 10, 3) := by decide +kernel
theorem dX7_calm_5 : decode cX7_calm 5 = .ok (.iload_n 1, 1) := by decide +kernel
theorem dX7_calm_6 : decode cX7_calm 6 = .ok (.sipush 400, 3) := by decide +kernel
theorem dX7_calm_9 : decode cX7_calm 9 = .ok (.if_icmp .le 7, 3) := by decide +kernel
theorem dX7_calm_12 : decode cX7_calm 12 = .ok (.iconst 1, 1) := by decide +kernel
theorem dX7_calm_13 : decode cX7_calm 13 = .ok (.goto 4, 3) := by decide +kernel
theorem dX7_calm_16 : decode cX7_calm 16 = .ok (.iconst 0, 1) := by decide +kernel
theorem dX7_calm_17 : decode cX7_calm 17 = .ok (.putfield 76, 3) := by decide +kernel
theorem dX7_calm_20 : decode cX7_calm 20 = .ok (.aload_n 0, 1) := by decide +kernel
theorem dX7_calm_21 : decode cX7_calm 21 = .ok (.getfield 76, 3) := by decide +kernel
theorem dX7_calm_24 : decode cX7_calm 24 = .ok (.ifCond .le 5, 3) := by decide +kernel
theorem dX7_calm_27 : decode cX7_calm 27 = .ok (.iconst 0, 1) := by decide +kernel
theorem dX7_calm_28 : decode cX7_calm 28 = .ok (.ireturn, 1) := by decide +kernel
theorem dX7_calm_29 : decode cX7_calm 29 = .ok (.iconst 0, 1) := by decide +kernel
theorem dX7_calm_30 : decode cX7_calm 30 = .ok (.istore_n 2, 1) := by decide +kernel
theorem dX7_calm_31 : decode cX7_calm 31 = .ok (.iload_n 2, 1) := by decide +kernel
theorem dX7_calm_32 : decode cX7_calm 32 = .ok (.iload_n 1, 1) := by decide +kernel
theorem dX7_calm_33 : decode cX7_calm 33 = .ok (.if_icmp .ge 25, 3) := by decide +kernel
theorem dX7_calm_36 : decode cX7_calm 36 = .ok (.aload_n 0, 1) := by decide +kernel
theorem dX7_calm_37 : decode cX7_calm 37 = .ok (.getfield 79, 3) := by decide +kernel
theorem dX7_calm_40 : decode cX7_calm 40 = .ok (.ifCond .le 18, 3) := by decide +kernel
theorem dX7_calm_43 : decode cX7_calm 43 = .ok (.aload_n 0, 1) := by decide +kernel
theorem dX7_calm_44 : decode cX7_calm 44 = .ok (.iconst 0, 1) := by decide +kernel
theorem dX7_calm_45 : decode cX7_calm 45 = .ok (.invokevirtual 149, 3) := by decide +kernel
theorem dX7_calm_48 : decode cX7_calm 48 = .ok (.iconst (-1), 1) := by decide +kernel
theorem dX7_calm_49 : decode cX7_calm 49 = .ok (.if_icmp .eq 9, 3) := by decide +kernel
theorem dX7_calm_52 : decode cX7_calm 52 = .ok (.iinc 2 1, 3) := by decide +kernel
theorem dX7_calm_55 : decode cX7_calm 55 = .ok (.goto (-24), 3) := by decide +kernel
theorem dX7_calm_58 : decode cX7_calm 58 = .ok (.iload_n 2, 1) := by decide +kernel
theorem dX7_calm_59 : decode cX7_calm 59 = .ok (.ireturn, 1) := by decide +kernel
theorem dX7_manyOf_0 : decode cX7_manyOf 0 = .ok (.iload_n 1, 1) := by decide +kernel
theorem dX7_manyOf_1 : decode cX7_manyOf 1 = .ok (.ifCond .ne 10, 3) := by decide +kernel
theorem dX7_manyOf_4 : decode cX7_manyOf 4 = .ok (.aload_n 0, 1) := by decide +kernel
theorem dX7_manyOf_5 : decode cX7_manyOf 5 = .ok (.getfield 69, 3) := by decide +kernel
theorem dX7_manyOf_8 : decode cX7_manyOf 8 = .ok (.goto 16, 3) := by decide +kernel
theorem dX7_manyOf_11 : decode cX7_manyOf 11 = .ok (.iload_n 1, 1) := by decide +kernel
theorem dX7_manyOf_12 : decode cX7_manyOf 12 = .ok (.iconst 1, 1) := by decide +kernel
theorem dX7_manyOf_13 : decode cX7_manyOf 13 = .ok (.if_icmp .ne 10, 3) := by decide +kernel
theorem dX7_manyOf_16 : decode cX7_manyOf 16 = .ok (.aload_n 0, 1) := by decide +kernel
theorem dX7_manyOf_17 : decode cX7_manyOf 17 = .ok (.getfield 73, 3) := by decide +kernel
theorem dX7_manyOf_20 : decode cX7_manyOf 20 = .ok (.goto 4, 3) := by decide +kernel
theorem dX7_manyOf_23 : decode cX7_manyOf 23 = .ok (.iconst 3, 1) := by decide +kernel
theorem dX7_manyOf_24 : decode cX7_manyOf 24 = .ok (.ireturn, 1) := by decide +kernel
theorem dX7_turns_0 : decode cX7_turns 0 = .ok (.aload_n 0, 1) := by decide +kernel
theorem dX7_turns_1 : decode cX7_turns 1 = .ok (.iload_n 1, 1) := by decide +kernel
theorem dX7_turns_2 : decode cX7_turns 2 = .ok (.ifCond .lt 8, 3) := by decide +kernel
theorem dX7_turns_5 : decode cX7_turns 5 = .ok (.iload_n 1, 1) := by decide +kernel
theorem dX7_turns_6 : decode cX7_turns 6 = .ok (.iconst 2, 1) := by decide +kernel
theorem dX7_turns_7 : decode cX7_turns 7 = .ok (.if_icmp .le 7, 3) := by decide +kernel
theorem dX7_turns_10 : decode cX7_turns 10 = .ok (.iconst 1, 1) := by decide +kernel
theorem dX7_turns_11 : decode cX7_turns 11 = .ok (.goto 21, 3) := by decide +kernel
theorem dX7_turns_14 : decode cX7_turns 14 = .ok (.iload_n 2, 1) := by decide +kernel
theorem dX7_turns_15 : decode cX7_turns 15 = .ok (.ifCond .lt 12, 3) := by decide +kernel
theorem dX7_turns_18 : decode cX7_turns 18 = .ok (.iload_n 2, 1) := by decide +kernel
theorem dX7_turns_19 : decode cX7_turns 19 = .ok (.aload_n 0, 1) := by decide +kernel
theorem dX7_turns_20 : decode cX7_turns 20 = .ok (.iload_n 1, 1) := by decide +kernel
theorem dX7_turns_21 : decode cX7_turns 21 = .ok (.invokevirtual 180, 3) := by decide +kernel
theorem dX7_turns_24 : decode cX7_turns 24 = .ok (.if_icmp .lt 7, 3) := by decide +kernel
theorem dX7_turns_27 : decode cX7_turns 27 = .ok (.iconst 2, 1) := by decide +kernel
theorem dX7_turns_28 : decode cX7_turns 28 = .ok (.goto 4, 3) := by decide +kernel
theorem dX7_turns_31 : decode cX7_turns 31 = .ok (.iconst 0, 1) := by decide +kernel
theorem dX7_turns_32 : decode cX7_turns 32 = .ok (.putfield 76, 3) := by decide +kernel
theorem dX7_turns_35 : decode cX7_turns 35 = .ok (.aload_n 0, 1) := by decide +kernel
theorem dX7_turns_36 : decode cX7_turns 36 = .ok (.getfield 76, 3) := by decide +kernel
theorem dX7_turns_39 : decode cX7_turns 39 = .ok (.ifCond .gt 15, 3) := by decide +kernel
theorem dX7_turns_42 : decode cX7_turns 42 = .ok (.aload_n 0, 1) := by decide +kernel
theorem dX7_turns_43 : decode cX7_turns 43 = .ok (.getfield 21, 3) := by decide +kernel
theorem dX7_turns_46 : decode cX7_turns 46 = .ok (.iload_n 1, 1) := by decide +kernel
theorem dX7_turns_47 : decode cX7_turns 47 = .ok (.aaload, 1) := by decide +kernel
theorem dX7_turns_48 : decode cX7_turns 48 = .ok (.iload_n 2, 1) := by decide +kernel
theorem dX7_turns_49 : decode cX7_turns 49 = .ok (.baload, 1) := by decide +kernel
theorem dX7_turns_50 : decode cX7_turns 50 = .ok (.iload_n 3, 1) := by decide +kernel
theorem dX7_turns_51 : decode cX7_turns 51 = .ok (.if_icmp .ne 5, 3) := by decide +kernel
theorem dX7_turns_54 : decode cX7_turns 54 = .ok (.iconst 0, 1) := by decide +kernel
theorem dX7_turns_55 : decode cX7_turns 55 = .ok (.ireturn, 1) := by decide +kernel
theorem dX7_turns_56 : decode cX7_turns 56 = .ok (.aload_n 0, 1) := by decide +kernel
theorem dX7_turns_57 : decode cX7_turns 57 = .ok (.getfield 21, 3) := by decide +kernel
theorem dX7_turns_60 : decode cX7_turns 60 = .ok (.iload_n 1, 1) := by decide +kernel
theorem dX7_turns_61 : decode cX7_turns 61 = .ok (.aaload, 1) := by decide +kernel
theorem dX7_turns_62 : decode cX7_turns 62 = .ok (.iload_n 2, 1) := by decide +kernel
theorem dX7_turns_63 : decode cX7_turns 63 = .ok (.iload_n 3, 1) := by decide +kernel
theorem dX7_turns_64 : decode cX7_turns 64 = .ok (.bastore, 1) := by decide +kernel
theorem dX7_turns_65 : decode cX7_turns 65 = .ok (.iload_n 1, 1) := by decide +kernel
theorem dX7_turns_66 : decode cX7_turns 66 = .ok (.iconst 2, 1) := by decide +kernel
theorem dX7_turns_67 : decode cX7_turns 67 = .ok (.if_icmp .ne 87, 3) := by decide +kernel
theorem dX7_turns_70 : decode cX7_turns 70 = .ok (.iload_n 3, 1) := by decide +kernel
theorem dX7_turns_71 : decode cX7_turns 71 = .ok (.ifCond .ne 83, 3) := by decide +kernel
theorem dX7_turns_74 : decode cX7_turns 74 = .ok (.aload_n 0, 1) := by decide +kernel
theorem dX7_turns_75 : decode cX7_turns 75 = .ok (.getfield 42, 3) := by decide +kernel
theorem dX7_turns_78 : decode cX7_turns 78 = .ok (.iload_n 2, 1) := by decide +kernel
theorem dX7_turns_79 : decode cX7_turns 79 = .ok (.iconst 0, 1) := by decide +kernel
theorem dX7_turns_80 : decode cX7_turns 80 = .ok (.iastore, 1) := by decide +kernel
theorem dX7_turns_81 : decode cX7_turns 81 = .ok (.aload_n 0, 1) := by decide +kernel
theorem dX7_turns_82 : decode cX7_turns 82 = .ok (.getfield 48, 3) := by decide +kernel
theorem dX7_turns_85 : decode cX7_turns 85 = .ok (.iload_n 2, 1) := by decide +kernel
theorem dX7_turns_86 : decode cX7_turns 86 = .ok (.iconst 0, 1) := by decide +kernel
theorem dX7_turns_87 : decode cX7_turns 87 = .ok (.iastore, 1) := by decide +kernel
theorem dX7_turns_88 : decode cX7_turns 88 = .ok (.aload_n 0, 1) := by decide +kernel
theorem dX7_turns_89 : decode cX7_turns 89 = .ok (.getfield 51, 3) := by decide +kernel
theorem dX7_turns_92 : decode cX7_turns 92 = .ok (.iload_n 2, 1) := by decide +kernel
theorem dX7_turns_93 : decode cX7_turns 93 = .ok (.iconst 0, 1) := by decide +kernel
theorem dX7_turns_94 : decode cX7_turns 94 = .ok (.iastore, 1) := by decide +kernel
theorem dX7_turns_95 : decode cX7_turns 95 = .ok (.iconst 0, 1) := by decide +kernel
theorem dX7_turns_96 : decode cX7_turns 96 = .ok (.istore 4, 2) := by decide +kernel
theorem dX7_turns_98 : decode cX7_turns 98 = .ok (.iload 4, 2) := by decide +kernel
theorem dX7_turns_100 : decode cX7_turns 100 = .ok (.bipush 6, 2) := by decide +kernel
theorem dX7_turns_102 : decode cX7_turns 102 = .ok (.if_icmp .ge 52, 3) := by decide +kernel
theorem dX7_turns_105 : decode cX7_turns 105 = .ok (.aload_n 0, 1) := by decide +kernel
theorem dX7_turns_106 : decode cX7_turns 106 = .ok (.getfield 66, 3) := by decide +kernel
theorem dX7_turns_109 : decode cX7_turns 109 = .ok (.iload_n 2, 1) := by decide +kernel
theorem dX7_turns_110 : decode cX7_turns 110 = .ok (.bipush 6, 2) := by decide +kernel
theorem dX7_turns_112 : decode cX7_turns 112 = .ok (.imul, 1) := by decide +kernel
theorem dX7_turns_113 : decode cX7_turns 113 = .ok (.iload 4, 2) := by decide +kernel
theorem dX7_turns_115 : decode cX7_turns 115 = .ok (.iadd, 1) := by decide +kernel
theorem dX7_turns_116 : decode cX7_turns 116 = .ok (.iconst 0, 1) := by decide +kernel
theorem dX7_turns_117 : decode cX7_turns 117 = .ok (.iastore, 1) := by decide +kernel
theorem dX7_turns_118 : decode cX7_turns 118 = .ok (.iconst 0, 1) := by decide +kernel
theorem dX7_turns_119 : decode cX7_turns 119 = .ok (.istore 5, 2) := by decide +kernel
theorem dX7_turns_121 : decode cX7_turns 121 = .ok (.iload 5, 2) := by decide +kernel
theorem dX7_turns_123 : decode cX7_turns 123 = .ok (.iconst 5, 1) := by decide +kernel
theorem dX7_turns_124 : decode cX7_turns 124 = .ok (.if_icmp .ge 24, 3) := by decide +kernel
theorem dX7_turns_127 : decode cX7_turns 127 = .ok (.aload_n 0, 1) := by decide +kernel
theorem dX7_turns_128 : decode cX7_turns 128 = .ok (.getfield 60, 3) := by decide +kernel
theorem dX7_turns_131 : decode cX7_turns 131 = .ok (.aload_n 0, 1) := by decide +kernel
theorem dX7_turns_132 : decode cX7_turns 132 = .ok (.iload_n 2, 1) := by decide +kernel
theorem dX7_turns_133 : decode cX7_turns 133 = .ok (.iload 4, 2) := by decide +kernel
theorem dX7_turns_135 : decode cX7_turns 135 = .ok (.iload 5, 2) := by decide +kernel
theorem dX7_turns_137 : decode cX7_turns 137 = .ok (.invokevirtual 136, 3) := by decide +kernel
theorem dX7_turns_140 : decode cX7_turns 140 = .ok (.iconst (-1), 1) := by decide +kernel
theorem dX7_turns_141 : decode cX7_turns 141 = .ok (.iastore, 1) := by decide +kernel
theorem dX7_turns_142 : decode cX7_turns 142 = .ok (.iinc 5 1, 3) := by decide +kernel
theorem dX7_turns_145 : decode cX7_turns 145 = .ok (.goto (-24), 3) := by decide +kernel
theorem dX7_turns_148 : decode cX7_turns 148 = .ok (.iinc 4 1, 3) := by decide +kernel
theorem dX7_turns_151 : decode cX7_turns 151 = .ok (.goto (-53), 3) := by decide +kernel
theorem dX7_turns_154 : decode cX7_turns 154 = .ok (.iconst 1, 1) := by decide +kernel
theorem dX7_turns_155 : decode cX7_turns 155 = .ok (.ireturn, 1) := by decide +kernel
theorem dX7_crash_0 : decode cX7_crash 0 = .ok (.aload_n 0, 1) := by decide +kernel
theorem dX7_crash_1 : decode cX7_crash 1 = .ok (.iload_n 1, 1) := by decide +kernel
theorem dX7_crash_2 : decode cX7_crash 2 = .ok (.iload_n 2, 1) := by decide +kernel
theorem dX7_crash_3 : decode cX7_crash 3 = .ok (.iconst 0, 1) := by decide +kernel
theorem dX7_crash_4 : decode cX7_crash 4 = .ok (.invokevirtual 183, 3) := by decide +kernel
theorem dX7_crash_7 : decode cX7_crash 7 = .ok (.ireturn, 1) := by decide +kernel
theorem dX7_recover_0 : decode cX7_recover 0 = .ok (.aload_n 0, 1) := by decide +kernel
theorem dX7_recover_1 : decode cX7_recover 1 = .ok (.iload_n 1, 1) := by decide +kernel
theorem dX7_recover_2 : decode cX7_recover 2 = .ok (.iload_n 2, 1) := by decide +kernel
theorem dX7_recover_3 : decode cX7_recover 3 = .ok (.iconst 1, 1) := by decide +kernel
theorem dX7_recover_4 : decode cX7_recover 4 = .ok (.invokevirtual 183, 3) := by decide +kernel
theorem dX7_recover_7 : decode cX7_recover 7 = .ok (.ireturn, 1) := by decide +kernel
theorem dX7_message_0 : decode cX7_message 0 = .ok (.aload_n 0, 1) := by decide +kernel
theorem dX7_message_1 : decode cX7_message 1 = .ok (.aload_n 0, 1) := by decide +kernel
theorem dX7_message_2 : decode cX7_message 2 = .ok (.iload_n 1, 1) := by decide +kernel
theorem dX7_message_3 : decode cX7_message 3 = .ok (.invokevirtual 146, 3) := by decide +kernel
theorem dX7_message_6 : decode cX7_message 6 = .ok (.invokevirtual 93, 3) := by decide +kernel
theorem dX7_message_9 : decode cX7_message 9 = .ok (.ifCond .eq 5, 3) := by decide +kernel
theorem dX7_message_12 : decode cX7_message 12 = .ok (.iconst 0, 1) := by decide +kernel
theorem dX7_message_13 : decode cX7_message 13 = .ok (.ireturn, 1) := by decide +kernel
theorem dX7_message_14 : decode cX7_message 14 = .ok (.iload_n 2, 1) := by decide +kernel
theorem dX7_message_15 : decode cX7_message 15 = .ok (.ifCond .lt 8, 3) := by decide +kernel
theorem dX7_message_18 : decode cX7_message 18 = .ok (.iload_n 2, 1) := by decide +kernel
theorem dX7_message_19 : decode cX7_message 19 = .ok (.iconst 5, 1) := by decide +kernel
theorem dX7_message_20 : decode cX7_message 20 = .ok (.if_icmp .le 7, 3) := by decide +kernel
theorem dX7_message_23 : decode cX7_message 23 = .ok (.iconst (-1), 1) := by decide +kernel
theorem dX7_message_24 : decode cX7_message 24 = .ok (.goto 9, 3) := by decide +kernel
theorem dX7_message_27 : decode cX7_message 27 = .ok (.aload_n 0, 1) := by decide +kernel
theorem dX7_message_28 : decode cX7_message 28 = .ok (.iload_n 1, 1) := by decide +kernel
theorem dX7_message_29 : decode cX7_message 29 = .ok (.iload_n 2, 1) := by decide +kernel
theorem dX7_message_30 : decode cX7_message 30 = .ok (.invokevirtual 114, 3) := by decide +kernel
theorem dX7_message_33 : decode cX7_message 33 = .ok (.ireturn, 1) := by decide +kernel
theorem dX7_told_0 : decode cX7_told 0 = .ok (.aload_n 0, 1) := by decide +kernel
theorem dX7_told_1 : decode cX7_told 1 = .ok (.aload_n 0, 1) := by decide +kernel
theorem dX7_told_2 : decode cX7_told 2 = .ok (.iload_n 1, 1) := by decide +kernel
theorem dX7_told_3 : decode cX7_told 3 = .ok (.invokevirtual 146, 3) := by decide +kernel
theorem dX7_told_6 : decode cX7_told 6 = .ok (.ifCond .eq 15, 3) := by decide +kernel
theorem dX7_told_9 : decode cX7_told 9 = .ok (.aload_n 0, 1) := by decide +kernel
theorem dX7_told_10 : decode cX7_told 10 = .ok (.iload_n 2, 1) := by decide +kernel
theorem dX7_told_11 : decode cX7_told 11 = .ok (.invokevirtual 89, 3) := by decide +kernel
theorem dX7_told_14 : decode cX7_told 14 = .ok (.ifCond .eq 7, 3) := by decide +kernel
theorem dX7_told_17 : decode cX7_told 17 = .ok (.iconst 1, 1) := by decide +kernel
theorem dX7_told_18 : decode cX7_told 18 = .ok (.goto 4, 3) := by decide +kernel
theorem dX7_told_21 : decode cX7_told 21 = .ok (.iconst 0, 1) := by decide +kernel
theorem dX7_told_22 : decode cX7_told 22 = .ok (.invokevirtual 93, 3) := by decide +kernel
theorem dX7_told_25 : decode cX7_told 25 = .ok (.ifCond .eq 5, 3) := by decide +kernel
theorem dX7_told_28 : decode cX7_told 28 = .ok (.iconst 0, 1) := by decide +kernel
theorem dX7_told_29 : decode cX7_told 29 = .ok (.ireturn, 1) := by decide +kernel
theorem dX7_told_30 : decode cX7_told 30 = .ok (.aload_n 0, 1) := by decide +kernel
theorem dX7_told_31 : decode cX7_told 31 = .ok (.iload_n 1, 1) := by decide +kernel
theorem dX7_told_32 : decode cX7_told 32 = .ok (.iconst 0, 1) := by decide +kernel
theorem dX7_told_33 : decode cX7_told 33 = .ok (.invokevirtual 114, 3) := by decide +kernel
theorem dX7_told_36 : decode cX7_told 36 = .ok (.iconst 3, 1) := by decide +kernel
theorem dX7_told_37 : decode cX7_told 37 = .ok (.if_icmp .eq 5, 3) := by decide +kernel
theorem dX7_told_40 : decode cX7_told 40 = .ok (.iconst (-1), 1) := by decide +kernel
theorem dX7_told_41 : decode cX7_told 41 = .ok (.ireturn, 1) := by decide +kernel
theorem dX7_told_42 : decode cX7_told 42 = .ok (.aload_n 0, 1) := by decide +kernel
theorem dX7_told_43 : decode cX7_told 43 = .ok (.iload_n 1, 1) := by decide +kernel
theorem dX7_told_44 : decode cX7_told 44 = .ok (.iload_n 3, 1) := by decide +kernel
theorem dX7_told_45 : decode cX7_told 45 = .ok (.ifCond .eq 8, 3) := by decide +kernel
theorem dX7_told_48 : decode cX7_told 48 = .ok (.bipush 6, 2) := by decide +kernel
theorem dX7_told_50 : decode cX7_told 50 = .ok (.goto 5, 3) := by decide +kernel
theorem dX7_told_53 : decode cX7_told 53 = .ok (.bipush 12, 2) := by decide +kernel
theorem dX7_told_55 : decode cX7_told 55 = .ok (.iload_n 2, 1) := by decide +kernel
theorem dX7_told_56 : decode cX7_told 56 = .ok (.iadd, 1) := by decide +kernel
theorem dX7_told_57 : decode cX7_told 57 = .ok (.invokevirtual 114, 3) := by decide +kernel
theorem dX7_told_60 : decode cX7_told 60 = .ok (.ireturn, 1) := by decide +kernel
theorem dX7_manager_0 : decode cX7_manager 0 = .ok (.aload_n 0, 1) := by decide +kernel
theorem dX7_manager_1 : decode cX7_manager 1 = .ok (.aload_n 0, 1) := by decide +kernel
theorem dX7_manager_2 : decode cX7_manager 2 = .ok (.iload_n 1, 1) := by decide +kernel
theorem dX7_manager_3 : decode cX7_manager 3 = .ok (.invokevirtual 89, 3) := by decide +kernel
theorem dX7_manager_6 : decode cX7_manager 6 = .ok (.invokevirtual 93, 3) := by decide +kernel
theorem dX7_manager_9 : decode cX7_manager 9 = .ok (.ifCond .eq 5, 3) := by decide +kernel
theorem dX7_manager_12 : decode cX7_manager 12 = .ok (.iconst 0, 1) := by decide +kernel
theorem dX7_manager_13 : decode cX7_manager 13 = .ok (.ireturn, 1) := by decide +kernel
theorem dX7_manager_14 : decode cX7_manager 14 = .ok (.iload_n 2, 1) := by decide +kernel
theorem dX7_manager_15 : decode cX7_manager 15 = .ok (.ifCond .ne 12, 3) := by decide +kernel
theorem dX7_manager_18 : decode cX7_manager 18 = .ok (.aload_n 0, 1) := by decide +kernel
theorem dX7_manager_19 : decode cX7_manager 19 = .ok (.getfield 16, 3) := by decide +kernel
theorem dX7_manager_22 : decode cX7_manager 22 = .ok (.iload_n 1, 1) := by decide +kernel
theorem dX7_manager_23 : decode cX7_manager 23 = .ok (.iaload, 1) := by decide +kernel
theorem dX7_manager_24 : decode cX7_manager 24 = .ok (.goto 28, 3) := by decide +kernel
theorem dX7_manager_27 : decode cX7_manager 27 = .ok (.iload_n 2, 1) := by decide +kernel
theorem dX7_manager_28 : decode cX7_manager 28 = .ok (.iconst 1, 1) := by decide +kernel
theorem dX7_manager_29 : decode cX7_manager 29 = .ok (.if_icmp .ne 22, 3) := by decide +kernel
theorem dX7_manager_32 : decode cX7_manager 32 = .ok (.aload_n 0, 1) := by decide +kernel
theorem dX7_manager_33 : decode cX7_manager 33 = .ok (.getfield 21, 3) := by decide +kernel
theorem dX7_manager_36 : decode cX7_manager 36 = .ok (.iconst 0, 1) := by decide +kernel
theorem dX7_manager_37 : decode cX7_manager 37 = .ok (.aaload, 1) := by decide +kernel
theorem dX7_manager_38 : decode cX7_manager 38 = .ok (.iload_n 1, 1) := by decide +kernel
theorem dX7_manager_39 : decode cX7_manager 39 = .ok (.baload, 1) := by decide +kernel
theorem dX7_manager_40 : decode cX7_manager 40 = .ok (.ifCond .eq 7, 3) := by decide +kernel
theorem dX7_manager_43 : decode cX7_manager 43 = .ok (.iconst 1, 1) := by decide +kernel
theorem dX7_manager_44 : decode cX7_manager 44 = .ok (.goto 8, 3) := by decide +kernel
theorem dX7_manager_47 : decode cX7_manager 47 = .ok (.iconst 0, 1) := by decide +kernel
theorem dX7_manager_48 : decode cX7_manager 48 = .ok (.goto 4, 3) := by decide +kernel
theorem dX7_manager_51 : decode cX7_manager 51 = .ok (.iconst (-1), 1) := by decide +kernel
theorem dX7_manager_52 : decode cX7_manager 52 = .ok (.ireturn, 1) := by decide +kernel
theorem dX7_acceptor_0 : decode cX7_acceptor 0 = .ok (.aload_n 0, 1) := by decide +kernel
theorem dX7_acceptor_1 : decode cX7_acceptor 1 = .ok (.aload_n 0, 1) := by decide +kernel
theorem dX7_acceptor_2 : decode cX7_acceptor 2 = .ok (.iload_n 1, 1) := by decide +kernel
theorem dX7_acceptor_3 : decode cX7_acceptor 3 = .ok (.invokevirtual 187, 3) := by decide +kernel
theorem dX7_acceptor_6 : decode cX7_acceptor 6 = .ok (.ifCond .eq 15, 3) := by decide +kernel
theorem dX7_acceptor_9 : decode cX7_acceptor 9 = .ok (.aload_n 0, 1) := by decide +kernel
theorem dX7_acceptor_10 : decode cX7_acceptor 10 = .ok (.iload_n 2, 1) := by decide +kernel
theorem dX7_acceptor_11 : decode cX7_acceptor 11 = .ok (.invokevirtual 89, 3) := by decide +kernel
theorem dX7_acceptor_14 : decode cX7_acceptor 14 = .ok (.ifCond .eq 7, 3) := by decide +kernel
theorem dX7_acceptor_17 : decode cX7_acceptor 17 = .ok (.iconst 1, 1) := by decide +kernel
theorem dX7_acceptor_18 : decode cX7_acceptor 18 = .ok (.goto 4, 3) := by decide +kernel
theorem dX7_acceptor_21 : decode cX7_acceptor 21 = .ok (.iconst 0, 1) := by decide +kernel
theorem dX7_acceptor_22 : decode cX7_acceptor 22 = .ok (.invokevirtual 93, 3) := by decide +kernel
theorem dX7_acceptor_25 : decode cX7_acceptor 25 = .ok (.ifCond .eq 5, 3) := by decide +kernel
theorem dX7_acceptor_28 : decode cX7_acceptor 28 = .ok (.iconst 0, 1) := by decide +kernel
theorem dX7_acceptor_29 : decode cX7_acceptor 29 = .ok (.ireturn, 1) := by decide +kernel
theorem dX7_acceptor_30 : decode cX7_acceptor 30 = .ok (.iload_n 3, 1) := by decide +kernel
theorem dX7_acceptor_31 : decode cX7_acceptor 31 = .ok (.tableswitch 77 0 3 #[29, 36, 53, 65], 29) := by decide +kernel
theorem dX7_acceptor_60 : decode cX7_acceptor 60 = .ok (.aload_n 0, 1) := by decide +kernel
theorem dX7_acceptor_61 : decode cX7_acceptor 61 = .ok (.getfield 24, 3) := by decide +kernel
theorem dX7_acceptor_64 : decode cX7_acceptor 64 = .ok (.iload_n 1, 1) := by decide +kernel
theorem dX7_acceptor_65 : decode cX7_acceptor 65 = .ok (.iaload, 1) := by decide +kernel
theorem dX7_acceptor_66 : decode cX7_acceptor 66 = .ok (.ireturn, 1) := by decide +kernel
theorem dX7_acceptor_67 : decode cX7_acceptor 67 = .ok (.aload_n 0, 1) := by decide +kernel
theorem dX7_acceptor_68 : decode cX7_acceptor 68 = .ok (.getfield 21, 3) := by decide +kernel
theorem dX7_acceptor_71 : decode cX7_acceptor 71 = .ok (.iconst 1, 1) := by decide +kernel
theorem dX7_acceptor_72 : decode cX7_acceptor 72 = .ok (.aaload, 1) := by decide +kernel
theorem dX7_acceptor_73 : decode cX7_acceptor 73 = .ok (.iload_n 1, 1) := by decide +kernel
theorem dX7_acceptor_74 : decode cX7_acceptor 74 = .ok (.baload, 1) := by decide +kernel
theorem dX7_acceptor_75 : decode cX7_acceptor 75 = .ok (.ifCond .eq 7, 3) := by decide +kernel
theorem dX7_acceptor_78 : decode cX7_acceptor 78 = .ok (.iconst 1, 1) := by decide +kernel
theorem dX7_acceptor_79 : decode cX7_acceptor 79 = .ok (.goto 4, 3) := by decide +kernel
theorem dX7_acceptor_82 : decode cX7_acceptor 82 = .ok (.iconst 0, 1) := by decide +kernel
theorem dX7_acceptor_83 : decode cX7_acceptor 83 = .ok (.ireturn, 1) := by decide +kernel
theorem dX7_acceptor_84 : decode cX7_acceptor 84 = .ok (.aload_n 0, 1) := by decide +kernel
theorem dX7_acceptor_85 : decode cX7_acceptor 85 = .ok (.getfield 27, 3) := by decide +kernel
theorem dX7_acceptor_88 : decode cX7_acceptor 88 = .ok (.bipush 6, 2) := by decide +kernel
theorem dX7_acceptor_90 : decode cX7_acceptor 90 = .ok (.iload_n 1, 1) := by decide +kernel
theorem dX7_acceptor_91 : decode cX7_acceptor 91 = .ok (.imul, 1) := by decide +kernel
theorem dX7_acceptor_92 : decode cX7_acceptor 92 = .ok (.iload_n 2, 1) := by decide +kernel
theorem dX7_acceptor_93 : decode cX7_acceptor 93 = .ok (.iadd, 1) := by decide +kernel
theorem dX7_acceptor_94 : decode cX7_acceptor 94 = .ok (.iaload, 1) := by decide +kernel
theorem dX7_acceptor_95 : decode cX7_acceptor 95 = .ok (.ireturn, 1) := by decide +kernel
theorem dX7_acceptor_96 : decode cX7_acceptor 96 = .ok (.aload_n 0, 1) := by decide +kernel
theorem dX7_acceptor_97 : decode cX7_acceptor 97 = .ok (.getfield 30, 3) := by decide +kernel
theorem dX7_acceptor_100 : decode cX7_acceptor 100 = .ok (.bipush 6, 2) := by decide +kernel
theorem dX7_acceptor_102 : decode cX7_acceptor 102 = .ok (.iload_n 1, 1) := by decide +kernel
theorem dX7_acceptor_103 : decode cX7_acceptor 103 = .ok (.imul, 1) := by decide +kernel
theorem dX7_acceptor_104 : decode cX7_acceptor 104 = .ok (.iload_n 2, 1) := by decide +kernel
theorem dX7_acceptor_105 : decode cX7_acceptor 105 = .ok (.iadd, 1) := by decide +kernel
theorem dX7_acceptor_106 : decode cX7_acceptor 106 = .ok (.iaload, 1) := by decide +kernel
theorem dX7_acceptor_107 : decode cX7_acceptor 107 = .ok (.ireturn, 1) := by decide +kernel
theorem dX7_acceptor_108 : decode cX7_acceptor 108 = .ok (.iconst (-1), 1) := by decide +kernel
theorem dX7_acceptor_109 : decode cX7_acceptor 109 = .ok (.ireturn, 1) := by decide +kernel
theorem dX7_leader_0 : decode cX7_leader 0 = .ok (.aload_n 0, 1) := by decide +kernel
theorem dX7_leader_1 : decode cX7_leader 1 = .ok (.iload_n 1, 1) := by decide +kernel
theorem dX7_leader_2 : decode cX7_leader 2 = .ok (.invokestatic 108, 3) := by decide +kernel
theorem dX7_leader_5 : decode cX7_leader 5 = .ok (.invokevirtual 93, 3) := by decide +kernel
theorem dX7_leader_8 : decode cX7_leader 8 = .ok (.ifCond .eq 5, 3) := by decide +kernel
theorem dX7_leader_11 : decode cX7_leader 11 = .ok (.iconst 0, 1) := by decide +kernel
theorem dX7_leader_12 : decode cX7_leader 12 = .ok (.ireturn, 1) := by decide +kernel
theorem dX7_leader_13 : decode cX7_leader 13 = .ok (.iload_n 2, 1) := by decide +kernel
theorem dX7_leader_14 : decode cX7_leader 14 = .ok (.tableswitch 107 0 5 #[38, 45, 52, 59, 66, 83], 38) := by decide +kernel
theorem dX7_leader_52 : decode cX7_leader 52 = .ok (.aload_n 0, 1) := by decide +kernel
theorem dX7_leader_53 : decode cX7_leader 53 = .ok (.getfield 39, 3) := by decide +kernel
theorem dX7_leader_56 : decode cX7_leader 56 = .ok (.iload_n 1, 1) := by decide +kernel
theorem dX7_leader_57 : decode cX7_leader 57 = .ok (.iaload, 1) := by decide +kernel
theorem dX7_leader_58 : decode cX7_leader 58 = .ok (.ireturn, 1) := by decide +kernel
theorem dX7_leader_59 : decode cX7_leader 59 = .ok (.aload_n 0, 1) := by decide +kernel
theorem dX7_leader_60 : decode cX7_leader 60 = .ok (.getfield 42, 3) := by decide +kernel
theorem dX7_leader_63 : decode cX7_leader 63 = .ok (.iload_n 1, 1) := by decide +kernel
theorem dX7_leader_64 : decode cX7_leader 64 = .ok (.iaload, 1) := by decide +kernel
theorem dX7_leader_65 : decode cX7_leader 65 = .ok (.ireturn, 1) := by decide +kernel
theorem dX7_leader_66 : decode cX7_leader 66 = .ok (.aload_n 0, 1) := by decide +kernel
theorem dX7_leader_67 : decode cX7_leader 67 = .ok (.getfield 45, 3) := by decide +kernel
theorem dX7_leader_70 : decode cX7_leader 70 = .ok (.iload_n 1, 1) := by decide +kernel
theorem dX7_leader_71 : decode cX7_leader 71 = .ok (.iaload, 1) := by decide +kernel
theorem dX7_leader_72 : decode cX7_leader 72 = .ok (.ireturn, 1) := by decide +kernel
theorem dX7_leader_73 : decode cX7_leader 73 = .ok (.aload_n 0, 1) := by decide +kernel
theorem dX7_leader_74 : decode cX7_leader 74 = .ok (.getfield 48, 3) := by decide +kernel
theorem dX7_leader_77 : decode cX7_leader 77 = .ok (.iload_n 1, 1) := by decide +kernel
theorem dX7_leader_78 : decode cX7_leader 78 = .ok (.iaload, 1) := by decide +kernel
theorem dX7_leader_79 : decode cX7_leader 79 = .ok (.ireturn, 1) := by decide +kernel
theorem dX7_leader_80 : decode cX7_leader 80 = .ok (.aload_n 0, 1) := by decide +kernel
theorem dX7_leader_81 : decode cX7_leader 81 = .ok (.getfield 21, 3) := by decide +kernel
theorem dX7_leader_84 : decode cX7_leader 84 = .ok (.iconst 2, 1) := by decide +kernel
theorem dX7_leader_85 : decode cX7_leader 85 = .ok (.aaload, 1) := by decide +kernel
theorem dX7_leader_86 : decode cX7_leader 86 = .ok (.iload_n 1, 1) := by decide +kernel
theorem dX7_leader_87 : decode cX7_leader 87 = .ok (.baload, 1) := by decide +kernel
theorem dX7_leader_88 : decode cX7_leader 88 = .ok (.ifCond .eq 7, 3) := by decide +kernel
theorem dX7_leader_91 : decode cX7_leader 91 = .ok (.iconst 1, 1) := by decide +kernel
theorem dX7_leader_92 : decode cX7_leader 92 = .ok (.goto 4, 3) := by decide +kernel
theorem dX7_leader_95 : decode cX7_leader 95 = .ok (.iconst 0, 1) := by decide +kernel
theorem dX7_leader_96 : decode cX7_leader 96 = .ok (.ireturn, 1) := by decide +kernel
theorem dX7_leader_97 : decode cX7_leader 97 = .ok (.aload_n 0, 1) := by decide +kernel
theorem dX7_leader_98 : decode cX7_leader 98 = .ok (.getfield 42, 3) := by decide +kernel
theorem dX7_leader_101 : decode cX7_leader 101 = .ok (.iload_n 1, 1) := by decide +kernel
theorem dX7_leader_102 : decode cX7_leader 102 = .ok (.iaload, 1) := by decide +kernel
theorem dX7_leader_103 : decode cX7_leader 103 = .ok (.iconst 1, 1) := by decide +kernel
theorem dX7_leader_104 : decode cX7_leader 104 = .ok (.if_icmp .ne 15, 3) := by decide +kernel
theorem dX7_leader_107 : decode cX7_leader 107 = .ok (.aload_n 0, 1) := by decide +kernel
theorem dX7_leader_108 : decode cX7_leader 108 = .ok (.getfield 51, 3) := by decide +kernel
theorem dX7_leader_111 : decode cX7_leader 111 = .ok (.iload_n 1, 1) := by decide +kernel
theorem dX7_leader_112 : decode cX7_leader 112 = .ok (.iaload, 1) := by decide +kernel
theorem dX7_leader_113 : decode cX7_leader 113 = .ok (.invokestatic 118, 3) := by decide +kernel
theorem dX7_leader_116 : decode cX7_leader 116 = .ok (.goto 4, 3) := by decide +kernel
theorem dX7_leader_119 : decode cX7_leader 119 = .ok (.iconst 0, 1) := by decide +kernel
theorem dX7_leader_120 : decode cX7_leader 120 = .ok (.ireturn, 1) := by decide +kernel
theorem dX7_leader_121 : decode cX7_leader 121 = .ok (.iconst (-1), 1) := by decide +kernel
theorem dX7_leader_122 : decode cX7_leader 122 = .ok (.ireturn, 1) := by decide +kernel
theorem dX7_outcome_0 : decode cX7_outcome 0 = .ok (.aload_n 0, 1) := by decide +kernel
theorem dX7_outcome_1 : decode cX7_outcome 1 = .ok (.iload_n 1, 1) := by decide +kernel
theorem dX7_outcome_2 : decode cX7_outcome 2 = .ok (.invokestatic 108, 3) := by decide +kernel
theorem dX7_outcome_5 : decode cX7_outcome 5 = .ok (.ifCond .eq 15, 3) := by decide +kernel
theorem dX7_outcome_8 : decode cX7_outcome 8 = .ok (.aload_n 0, 1) := by decide +kernel
theorem dX7_outcome_9 : decode cX7_outcome 9 = .ok (.iload_n 2, 1) := by decide +kernel
theorem dX7_outcome_10 : decode cX7_outcome 10 = .ok (.invokevirtual 89, 3) := by decide +kernel
theorem dX7_outcome_13 : decode cX7_outcome 13 = .ok (.ifCond .eq 7, 3) := by decide +kernel
theorem dX7_outcome_16 : decode cX7_outcome 16 = .ok (.iconst 1, 1) := by decide +kernel
theorem dX7_outcome_17 : decode cX7_outcome 17 = .ok (.goto 4, 3) := by decide +kernel
theorem dX7_outcome_20 : decode cX7_outcome 20 = .ok (.iconst 0, 1) := by decide +kernel
theorem dX7_outcome_21 : decode cX7_outcome 21 = .ok (.invokevirtual 93, 3) := by decide +kernel
theorem dX7_outcome_24 : decode cX7_outcome 24 = .ok (.ifCond .eq 7, 3) := by decide +kernel
theorem dX7_outcome_27 : decode cX7_outcome 27 = .ok (.iconst 0, 1) := by decide +kernel
theorem dX7_outcome_28 : decode cX7_outcome 28 = .ok (.goto 14, 3) := by decide +kernel
theorem dX7_outcome_31 : decode cX7_outcome 31 = .ok (.aload_n 0, 1) := by decide +kernel
theorem dX7_outcome_32 : decode cX7_outcome 32 = .ok (.getfield 66, 3) := by decide +kernel
theorem dX7_outcome_35 : decode cX7_outcome 35 = .ok (.iload_n 1, 1) := by decide +kernel
theorem dX7_outcome_36 : decode cX7_outcome 36 = .ok (.bipush 6, 2) := by decide +kernel
theorem dX7_outcome_38 : decode cX7_outcome 38 = .ok (.imul, 1) := by decide +kernel
theorem dX7_outcome_39 : decode cX7_outcome 39 = .ok (.iload_n 2, 1) := by decide +kernel
theorem dX7_outcome_40 : decode cX7_outcome 40 = .ok (.iadd, 1) := by decide +kernel
theorem dX7_outcome_41 : decode cX7_outcome 41 = .ok (.iaload, 1) := by decide +kernel
theorem dX7_outcome_42 : decode cX7_outcome 42 = .ok (.ireturn, 1) := by decide +kernel
theorem dX7_seen_0 : decode cX7_seen 0 = .ok (.aload_n 0, 1) := by decide +kernel
theorem dX7_seen_1 : decode cX7_seen 1 = .ok (.iload_n 1, 1) := by decide +kernel
theorem dX7_seen_2 : decode cX7_seen 2 = .ok (.invokestatic 108, 3) := by decide +kernel
theorem dX7_seen_5 : decode cX7_seen 5 = .ok (.ifCond .eq 23, 3) := by decide +kernel
theorem dX7_seen_8 : decode cX7_seen 8 = .ok (.aload_n 0, 1) := by decide +kernel
theorem dX7_seen_9 : decode cX7_seen 9 = .ok (.iload_n 2, 1) := by decide +kernel
theorem dX7_seen_10 : decode cX7_seen 10 = .ok (.invokevirtual 89, 3) := by decide +kernel
theorem dX7_seen_13 : decode cX7_seen 13 = .ok (.ifCond .eq 15, 3) := by decide +kernel
theorem dX7_seen_16 : decode cX7_seen 16 = .ok (.aload_n 0, 1) := by decide +kernel
theorem dX7_seen_17 : decode cX7_seen 17 = .ok (.iload_n 3, 1) := by decide +kernel
theorem dX7_seen_18 : decode cX7_seen 18 = .ok (.invokevirtual 187, 3) := by decide +kernel
theorem dX7_seen_21 : decode cX7_seen 21 = .ok (.ifCond .eq 7, 3) := by decide +kernel
theorem dX7_seen_24 : decode cX7_seen 24 = .ok (.iconst 1, 1) := by decide +kernel
theorem dX7_seen_25 : decode cX7_seen 25 = .ok (.goto 4, 3) := by decide +kernel
theorem dX7_seen_28 : decode cX7_seen 28 = .ok (.iconst 0, 1) := by decide +kernel
theorem dX7_seen_29 : decode cX7_seen 29 = .ok (.invokevirtual 93, 3) := by decide +kernel
theorem dX7_seen_32 : decode cX7_seen 32 = .ok (.ifCond .eq 7, 3) := by decide +kernel
theorem dX7_seen_35 : decode cX7_seen 35 = .ok (.iconst 0, 1) := by decide +kernel
theorem dX7_seen_36 : decode cX7_seen 36 = .ok (.goto 15, 3) := by decide +kernel
theorem dX7_seen_39 : decode cX7_seen 39 = .ok (.aload_n 0, 1) := by decide +kernel
theorem dX7_seen_40 : decode cX7_seen 40 = .ok (.getfield 60, 3) := by decide +kernel
theorem dX7_seen_43 : decode cX7_seen 43 = .ok (.aload_n 0, 1) := by decide +kernel
theorem dX7_seen_44 : decode cX7_seen 44 = .ok (.iload_n 1, 1) := by decide +kernel
theorem dX7_seen_45 : decode cX7_seen 45 = .ok (.iload_n 2, 1) := by decide +kernel
theorem dX7_seen_46 : decode cX7_seen 46 = .ok (.iload_n 3, 1) := by decide +kernel
theorem dX7_seen_47 : decode cX7_seen 47 = .ok (.invokevirtual 136, 3) := by decide +kernel
theorem dX7_seen_50 : decode cX7_seen 50 = .ok (.iaload, 1) := by decide +kernel
theorem dX7_seen_51 : decode cX7_seen 51 = .ok (.ireturn, 1) := by decide +kernel
theorem dX7_chosen_0 : decode cX7_chosen 0 = .ok (.aload_n 0, 1) := by decide +kernel
theorem dX7_chosen_1 : decode cX7_chosen 1 = .ok (.aload_n 0, 1) := by decide +kernel
theorem dX7_chosen_2 : decode cX7_chosen 2 = .ok (.iload_n 1, 1) := by decide +kernel
theorem dX7_chosen_3 : decode cX7_chosen 3 = .ok (.invokevirtual 89, 3) := by decide +kernel
theorem dX7_chosen_6 : decode cX7_chosen 6 = .ok (.invokevirtual 93, 3) := by decide +kernel
theorem dX7_chosen_9 : decode cX7_chosen 9 = .ok (.ifCond .eq 5, 3) := by decide +kernel
theorem dX7_chosen_12 : decode cX7_chosen 12 = .ok (.iconst 0, 1) := by decide +kernel
theorem dX7_chosen_13 : decode cX7_chosen 13 = .ok (.ireturn, 1) := by decide +kernel
theorem dX7_chosen_14 : decode cX7_chosen 14 = .ok (.iconst 0, 1) := by decide +kernel
theorem dX7_chosen_15 : decode cX7_chosen 15 = .ok (.istore_n 2, 1) := by decide +kernel
theorem dX7_chosen_16 : decode cX7_chosen 16 = .ok (.iload_n 2, 1) := by decide +kernel
theorem dX7_chosen_17 : decode cX7_chosen 17 = .ok (.sipush 1600, 3) := by decide +kernel
theorem dX7_chosen_20 : decode cX7_chosen 20 = .ok (.if_icmp .ge 42, 3) := by decide +kernel
theorem dX7_chosen_23 : decode cX7_chosen 23 = .ok (.aload_n 0, 1) := by decide +kernel
theorem dX7_chosen_24 : decode cX7_chosen 24 = .ok (.aload_n 0, 1) := by decide +kernel
theorem dX7_chosen_25 : decode cX7_chosen 25 = .ok (.getfield 33, 3) := by decide +kernel
theorem dX7_chosen_28 : decode cX7_chosen 28 = .ok (.bipush 6, 2) := by decide +kernel
theorem dX7_chosen_30 : decode cX7_chosen 30 = .ok (.iload_n 2, 1) := by decide +kernel
theorem dX7_chosen_31 : decode cX7_chosen 31 = .ok (.imul, 1) := by decide +kernel
theorem dX7_chosen_32 : decode cX7_chosen 32 = .ok (.iload_n 1, 1) := by decide +kernel
theorem dX7_chosen_33 : decode cX7_chosen 33 = .ok (.iadd, 1) := by decide +kernel
theorem dX7_chosen_34 : decode cX7_chosen 34 = .ok (.iaload, 1) := by decide +kernel
theorem dX7_chosen_35 : decode cX7_chosen 35 = .ok (.invokestatic 118, 3) := by decide +kernel
theorem dX7_chosen_38 : decode cX7_chosen 38 = .ok (.invokevirtual 122, 3) := by decide +kernel
theorem dX7_chosen_41 : decode cX7_chosen 41 = .ok (.ifCond .eq 15, 3) := by decide +kernel
theorem dX7_chosen_44 : decode cX7_chosen 44 = .ok (.aload_n 0, 1) := by decide +kernel
theorem dX7_chosen_45 : decode cX7_chosen 45 = .ok (.getfield 36, 3) := by decide +kernel
theorem dX7_chosen_48 : decode cX7_chosen 48 = .ok (.bipush 6, 2) := by decide +kernel
theorem dX7_chosen_50 : decode cX7_chosen 50 = .ok (.iload_n 2, 1) := by decide +kernel
theorem dX7_chosen_51 : decode cX7_chosen 51 = .ok (.imul, 1) := by decide +kernel
theorem dX7_chosen_52 : decode cX7_chosen 52 = .ok (.iload_n 1, 1) := by decide +kernel
theorem dX7_chosen_53 : decode cX7_chosen 53 = .ok (.iadd, 1) := by decide +kernel
theorem dX7_chosen_54 : decode cX7_chosen 54 = .ok (.iaload, 1) := by decide +kernel
theorem dX7_chosen_55 : decode cX7_chosen 55 = .ok (.ireturn, 1) := by decide +kernel
theorem dX7_chosen_56 : decode cX7_chosen 56 = .ok (.iinc 2 1, 3) := by decide +kernel
theorem dX7_chosen_59 : decode cX7_chosen 59 = .ok (.goto (-43), 3) := by decide +kernel
theorem dX7_chosen_62 : decode cX7_chosen 62 = .ok (.iconst 0, 1) := by decide +kernel
theorem dX7_chosen_63 : decode cX7_chosen 63 = .ok (.ireturn, 1) := by decide +kernel
theorem dX7_count_0 : decode cX7_count 0 = .ok (.aload_n 0, 1) := by decide +kernel
theorem dX7_count_1 : decode cX7_count 1 = .ok (.iconst 0, 1) := by decide +kernel
theorem dX7_count_2 : decode cX7_count 2 = .ok (.putfield 76, 3) := by decide +kernel
theorem dX7_count_5 : decode cX7_count 5 = .ok (.iconst 0, 1) := by decide +kernel
theorem dX7_count_6 : decode cX7_count 6 = .ok (.istore_n 2, 1) := by decide +kernel
theorem dX7_count_7 : decode cX7_count 7 = .ok (.iload_n 1, 1) := by decide +kernel
theorem dX7_count_8 : decode cX7_count 8 = .ok (.tableswitch 166 0 9 #[56, 61, 66, 71, 76, 81, 81, 123, 123, 161], 56) := by decide +kernel
theorem dX7_count_64 : decode cX7_count 64 = .ok (.aload_n 0, 1) := by decide +kernel
theorem dX7_count_65 : decode cX7_count 65 = .ok (.getfield 69, 3) := by decide +kernel
theorem dX7_count_68 : decode cX7_count 68 = .ok (.ireturn, 1) := by decide +kernel
theorem dX7_count_69 : decode cX7_count 69 = .ok (.aload_n 0, 1) := by decide +kernel
theorem dX7_count_70 : decode cX7_count 70 = .ok (.getfield 73, 3) := by decide +kernel
theorem dX7_count_73 : decode cX7_count 73 = .ok (.ireturn, 1) := by decide +kernel
theorem dX7_count_74 : decode cX7_count 74 = .ok (.aload_n 0, 1) := by decide +kernel
theorem dX7_count_75 : decode cX7_count 75 = .ok (.getfield 79, 3) := by decide +kernel
theorem dX7_count_78 : decode cX7_count 78 = .ok (.ireturn, 1) := by decide +kernel
theorem dX7_count_79 : decode cX7_count 79 = .ok (.aload_n 0, 1) := by decide +kernel
theorem dX7_count_80 : decode cX7_count 80 = .ok (.getfield 82, 3) := by decide +kernel
theorem dX7_count_83 : decode cX7_count 83 = .ok (.ireturn, 1) := by decide +kernel
theorem dX7_count_84 : decode cX7_count 84 = .ok (.aload_n 0, 1) := by decide +kernel
theorem dX7_count_85 : decode cX7_count 85 = .ok (.getfield 159, 3) := by decide +kernel
theorem dX7_count_88 : decode cX7_count 88 = .ok (.ireturn, 1) := by decide +kernel
theorem dX7_count_89 : decode cX7_count 89 = .ok (.iconst 0, 1) := by decide +kernel
theorem dX7_count_90 : decode cX7_count 90 = .ok (.istore_n 3, 1) := by decide +kernel
theorem dX7_count_91 : decode cX7_count 91 = .ok (.iload_n 3, 1) := by decide +kernel
theorem dX7_count_92 : decode cX7_count 92 = .ok (.aload_n 0, 1) := by decide +kernel
theorem dX7_count_93 : decode cX7_count 93 = .ok (.iload_n 1, 1) := by decide +kernel
theorem dX7_count_94 : decode cX7_count 94 = .ok (.iconst 5, 1) := by decide +kernel
theorem dX7_count_95 : decode cX7_count 95 = .ok (.isub, 1) := by decide +kernel
theorem dX7_count_96 : decode cX7_count 96 = .ok (.invokevirtual 180, 3) := by decide +kernel
theorem dX7_count_99 : decode cX7_count 99 = .ok (.if_icmp .ge 30, 3) := by decide +kernel
theorem dX7_count_102 : decode cX7_count 102 = .ok (.iload_n 2, 1) := by decide +kernel
theorem dX7_count_103 : decode cX7_count 103 = .ok (.aload_n 0, 1) := by decide +kernel
theorem dX7_count_104 : decode cX7_count 104 = .ok (.getfield 21, 3) := by decide +kernel
theorem dX7_count_107 : decode cX7_count 107 = .ok (.iload_n 1, 1) := by decide +kernel
theorem dX7_count_108 : decode cX7_count 108 = .ok (.iconst 5, 1) := by decide +kernel
theorem dX7_count_109 : decode cX7_count 109 = .ok (.isub, 1) := by decide +kernel
theorem dX7_count_110 : decode cX7_count 110 = .ok (.aaload, 1) := by decide +kernel
theorem dX7_count_111 : decode cX7_count 111 = .ok (.iload_n 3, 1) := by decide +kernel
theorem dX7_count_112 : decode cX7_count 112 = .ok (.baload, 1) := by decide +kernel
theorem dX7_count_113 : decode cX7_count 113 = .ok (.ifCond .eq 7, 3) := by decide +kernel
theorem dX7_count_116 : decode cX7_count 116 = .ok (.iconst 1, 1) := by decide +kernel
theorem dX7_count_117 : decode cX7_count 117 = .ok (.goto 4, 3) := by decide +kernel
theorem dX7_count_120 : decode cX7_count 120 = .ok (.iconst 0, 1) := by decide +kernel
theorem dX7_count_121 : decode cX7_count 121 = .ok (.iadd, 1) := by decide +kernel
theorem dX7_count_122 : decode cX7_count 122 = .ok (.istore_n 2, 1) := by decide +kernel
theorem dX7_count_123 : decode cX7_count 123 = .ok (.iinc 3 1, 3) := by decide +kernel
theorem dX7_count_126 : decode cX7_count 126 = .ok (.goto (-35), 3) := by decide +kernel
theorem dX7_count_129 : decode cX7_count 129 = .ok (.iload_n 2, 1) := by decide +kernel
theorem dX7_count_130 : decode cX7_count 130 = .ok (.ireturn, 1) := by decide +kernel
theorem dX7_count_131 : decode cX7_count 131 = .ok (.iconst 0, 1) := by decide +kernel
theorem dX7_count_132 : decode cX7_count 132 = .ok (.istore_n 3, 1) := by decide +kernel
theorem dX7_count_133 : decode cX7_count 133 = .ok (.iload_n 3, 1) := by decide +kernel
theorem dX7_count_134 : decode cX7_count 134 = .ok (.aload_n 0, 1) := by decide +kernel
theorem dX7_count_135 : decode cX7_count 135 = .ok (.getfield 69, 3) := by decide +kernel
theorem dX7_count_138 : decode cX7_count 138 = .ok (.if_icmp .ge 29, 3) := by decide +kernel
theorem dX7_count_141 : decode cX7_count 141 = .ok (.iload_n 2, 1) := by decide +kernel
theorem dX7_count_142 : decode cX7_count 142 = .ok (.aload_n 0, 1) := by decide +kernel
theorem dX7_count_143 : decode cX7_count 143 = .ok (.getfield 16, 3) := by decide +kernel
theorem dX7_count_146 : decode cX7_count 146 = .ok (.iload_n 3, 1) := by decide +kernel
theorem dX7_count_147 : decode cX7_count 147 = .ok (.iaload, 1) := by decide +kernel
theorem dX7_count_148 : decode cX7_count 148 = .ok (.iload_n 1, 1) := by decide +kernel
theorem dX7_count_149 : decode cX7_count 149 = .ok (.iconst 4, 1) := by decide +kernel
theorem dX7_count_150 : decode cX7_count 150 = .ok (.isub, 1) := by decide +kernel
theorem dX7_count_151 : decode cX7_count 151 = .ok (.if_icmp .ne 7, 3) := by decide +kernel
theorem dX7_count_154 : decode cX7_count 154 = .ok (.iconst 1, 1) := by decide +kernel
theorem dX7_count_155 : decode cX7_count 155 = .ok (.goto 4, 3) := by decide +kernel
theorem dX7_count_158 : decode cX7_count 158 = .ok (.iconst 0, 1) := by decide +kernel
theorem dX7_count_159 : decode cX7_count 159 = .ok (.iadd, 1) := by decide +kernel
theorem dX7_count_160 : decode cX7_count 160 = .ok (.istore_n 2, 1) := by decide +kernel
theorem dX7_count_161 : decode cX7_count 161 = .ok (.iinc 3 1, 3) := by decide +kernel
theorem dX7_count_164 : decode cX7_count 164 = .ok (.goto (-31), 3) := by decide +kernel
theorem dX7_count_167 : decode cX7_count 167 = .ok (.iload_n 2, 1) := by decide +kernel
theorem dX7_count_168 : decode cX7_count 168 = .ok (.ireturn, 1) := by decide +kernel
theorem dX7_count_169 : decode cX7_count 169 = .ok (.aload_n 0, 1) := by decide +kernel
theorem dX7_count_170 : decode cX7_count 170 = .ok (.getfield 111, 3) := by decide +kernel
theorem dX7_count_173 : decode cX7_count 173 = .ok (.ireturn, 1) := by decide +kernel
theorem dX7_count_174 : decode cX7_count 174 = .ok (.iconst (-1), 1) := by decide +kernel
theorem dX7_count_175 : decode cX7_count 175 = .ok (.ireturn, 1) := by decide +kernel
theorem dX7_astray_0 : decode cX7_astray 0 = .ok (.aload_n 0, 1) := by decide +kernel
theorem dX7_astray_1 : decode cX7_astray 1 = .ok (.iconst 0, 1) := by decide +kernel
theorem dX7_astray_2 : decode cX7_astray 2 = .ok (.putfield 76, 3) := by decide +kernel
theorem dX7_astray_5 : decode cX7_astray 5 = .ok (.iconst 0, 1) := by decide +kernel
theorem dX7_astray_6 : decode cX7_astray 6 = .ok (.ireturn, 1) := by decide +kernel
