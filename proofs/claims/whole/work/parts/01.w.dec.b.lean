theorem dX9_init_0 : decode cX9_init 0 = .ok (.aload_n 0, 1) := by decide +kernel
theorem dX9_init_1 : decode cX9_init 1 = .ok (.invokespecial 1, 3) := by decide +kernel
theorem dX9_init_4 : decode cX9_init 4 = .ok (.aload_n 0, 1) := by decide +kernel
theorem dX9_init_5 : decode cX9_init 5 = .ok (.new 7, 3) := by decide +kernel
theorem dX9_init_8 : decode cX9_init 8 = .ok (.dup, 1) := by decide +kernel
theorem dX9_init_9 : decode cX9_init 9 = .ok (.invokespecial 9, 3) := by decide +kernel
theorem dX9_init_12 : decode cX9_init 12 = .ok (.putfield 10, 3) := by decide +kernel
theorem dX9_init_15 : decode cX9_init 15 = .ok (.aload_n 0, 1) := by decide +kernel
theorem dX9_init_16 : decode cX9_init 16 = .ok (.new 16, 3) := by decide +kernel
theorem dX9_init_19 : decode cX9_init 19 = .ok (.dup, 1) := by decide +kernel
theorem dX9_init_20 : decode cX9_init 20 = .ok (.invokespecial 18, 3) := by decide +kernel
theorem dX9_init_23 : decode cX9_init 23 = .ok (.putfield 19, 3) := by decide +kernel
theorem dX9_init_26 : decode cX9_init 26 = .ok (.aload_n 0, 1) := by decide +kernel
theorem dX9_init_27 : decode cX9_init 27 = .ok (.new 7, 3) := by decide +kernel
theorem dX9_init_30 : decode cX9_init 30 = .ok (.dup, 1) := by decide +kernel
theorem dX9_init_31 : decode cX9_init 31 = .ok (.invokespecial 9, 3) := by decide +kernel
theorem dX9_init_34 : decode cX9_init 34 = .ok (.putfield 23, 3) := by decide +kernel
theorem dX9_init_37 : decode cX9_init 37 = .ok (.aload_n 0, 1) := by decide +kernel
theorem dX9_init_38 : decode cX9_init 38 = .ok (.new 16, 3) := by decide +kernel
theorem dX9_init_41 : decode cX9_init 41 = .ok (.dup, 1) := by decide +kernel
theorem dX9_init_42 : decode cX9_init 42 = .ok (.invokespecial 18, 3) := by decide +kernel
theorem dX9_init_45 : decode cX9_init 45 = .ok (.putfield 26, 3) := by decide +kernel
theorem dX9_init_48 : decode cX9_init 48 = .ok (.aload_n 0, 1) := by decide +kernel
theorem dX9_init_49 : decode cX9_init 49 = .ok (.new 29, 3) := by decide +kernel
theorem dX9_init_52 : decode cX9_init 52 = .ok (.dup, 1) := by decide +kernel
theorem dX9_init_53 : decode cX9_init 53 = .ok (.invokespecial 31, 3) := by decide +kernel
theorem dX9_init_56 : decode cX9_init 56 = .ok (.putfield 32, 3) := by decide +kernel
theorem dX9_init_59 : decode cX9_init 59 = .ok (.aload_n 0, 1) := by decide +kernel
theorem dX9_init_60 : decode cX9_init 60 = .ok (.bipush 61, 2) := by decide +kernel
theorem dX9_init_62 : decode cX9_init 62 = .ok (.anewarray 29, 3) := by decide +kernel
theorem dX9_init_65 : decode cX9_init 65 = .ok (.putfield 36, 3) := by decide +kernel
theorem dX9_init_68 : decode cX9_init 68 = .ok (.aload_n 0, 1) := by decide +kernel
theorem dX9_init_69 : decode cX9_init 69 = .ok (.bipush 62, 2) := by decide +kernel
theorem dX9_init_71 : decode cX9_init 71 = .ok (.newarray .int, 2) := by decide +kernel
theorem dX9_init_73 : decode cX9_init 73 = .ok (.putfield 40, 3) := by decide +kernel
theorem dX9_init_76 : decode cX9_init 76 = .ok (.aload_n 0, 1) := by decide +kernel
theorem dX9_init_77 : decode cX9_init 77 = .ok (.new 44, 3) := by decide +kernel
theorem dX9_init_80 : decode cX9_init 80 = .ok (.dup, 1) := by decide +kernel
theorem dX9_init_81 : decode cX9_init 81 = .ok (.invokespecial 46, 3) := by decide +kernel
theorem dX9_init_84 : decode cX9_init 84 = .ok (.putfield 47, 3) := by decide +kernel
theorem dX9_init_87 : decode cX9_init 87 = .ok (.aload_n 0, 1) := by decide +kernel
theorem dX9_init_88 : decode cX9_init 88 = .ok (.bipush 6, 2) := by decide +kernel
theorem dX9_init_90 : decode cX9_init 90 = .ok (.anewarray 51, 3) := by decide +kernel
theorem dX9_init_93 : decode cX9_init 93 = .ok (.putfield 53, 3) := by decide +kernel
theorem dX9_init_96 : decode cX9_init 96 = .ok (.aload_n 0, 1) := by decide +kernel
theorem dX9_init_97 : decode cX9_init 97 = .ok (.bipush 6, 2) := by decide +kernel
theorem dX9_init_99 : decode cX9_init 99 = .ok (.anewarray 57, 3) := by decide +kernel
theorem dX9_init_102 : decode cX9_init 102 = .ok (.putfield 59, 3) := by decide +kernel
theorem dX9_init_105 : decode cX9_init 105 = .ok (.aload_n 0, 1) := by decide +kernel
theorem dX9_init_106 : decode cX9_init 106 = .ok (.iconst 4, 1) := by decide +kernel
theorem dX9_init_107 : decode cX9_init 107 = .ok (.anewarray 63, 3) := by decide +kernel
theorem dX9_init_110 : decode cX9_init 110 = .ok (.putfield 65, 3) := by decide +kernel
theorem dX9_init_113 : decode cX9_init 113 = .ok (.aload_n 0, 1) := by decide +kernel
theorem dX9_init_114 : decode cX9_init 114 = .ok (.iconst 1, 1) := by decide +kernel
theorem dX9_init_115 : decode cX9_init 115 = .ok (.putfield 69, 3) := by decide +kernel
theorem dX9_init_118 : decode cX9_init 118 = .ok (.aload_n 0, 1) := by decide +kernel
theorem dX9_init_119 : decode cX9_init 119 = .ok (.iconst 1, 1) := by decide +kernel
theorem dX9_init_120 : decode cX9_init 120 = .ok (.putfield 73, 3) := by decide +kernel
theorem dX9_init_123 : decode cX9_init 123 = .ok (.iconst 0, 1) := by decide +kernel
theorem dX9_init_124 : decode cX9_init 124 = .ok (.istore_n 1, 1) := by decide +kernel
theorem dX9_init_125 : decode cX9_init 125 = .ok (.iload_n 1, 1) := by decide +kernel
theorem dX9_init_126 : decode cX9_init 126 = .ok (.aload_n 0, 1) := by decide +kernel
theorem dX9_init_127 : decode cX9_init 127 = .ok (.getfield 36, 3) := by decide +kernel
theorem dX9_init_130 : decode cX9_init 130 = .ok (.arraylength, 1) := by decide +kernel
theorem dX9_init_131 : decode cX9_init 131 = .ok (.if_icmp .ge 22, 3) := by decide +kernel
theorem dX9_init_134 : decode cX9_init 134 = .ok (.aload_n 0, 1) := by decide +kernel
theorem dX9_init_135 : decode cX9_init 135 = .ok (.getfield 36, 3) := by decide +kernel
theorem dX9_init_138 : decode cX9_init 138 = .ok (.iload_n 1, 1) := by decide +kernel
theorem dX9_init_139 : decode cX9_init 139 = .ok (.new 29, 3) := by decide +kernel
theorem dX9_init_142 : decode cX9_init 142 = .ok (.dup, 1) := by decide +kernel
theorem dX9_init_143 : decode cX9_init 143 = .ok (.invokespecial 31, 3) := by decide +kernel
theorem dX9_init_146 : decode cX9_init 146 = .ok (.aastore, 1) := by decide +kernel
theorem dX9_init_147 : decode cX9_init 147 = .ok (.iinc 1 1, 3) := by decide +kernel
theorem dX9_init_150 : decode cX9_init 150 = .ok (.goto (-25), 3) := by decide +kernel
theorem dX9_init_153 : decode cX9_init 153 = .ok (.iconst 0, 1) := by decide +kernel
theorem dX9_init_154 : decode cX9_init 154 = .ok (.istore_n 1, 1) := by decide +kernel
theorem dX9_init_155 : decode cX9_init 155 = .ok (.iload_n 1, 1) := by decide +kernel
theorem dX9_init_156 : decode cX9_init 156 = .ok (.aload_n 0, 1) := by decide +kernel
theorem dX9_init_157 : decode cX9_init 157 = .ok (.getfield 53, 3) := by decide +kernel
theorem dX9_init_160 : decode cX9_init 160 = .ok (.arraylength, 1) := by decide +kernel
theorem dX9_init_161 : decode cX9_init 161 = .ok (.if_icmp .ge 22, 3) := by decide +kernel
theorem dX9_init_164 : decode cX9_init 164 = .ok (.aload_n 0, 1) := by decide +kernel
theorem dX9_init_165 : decode cX9_init 165 = .ok (.getfield 53, 3) := by decide +kernel
theorem dX9_init_168 : decode cX9_init 168 = .ok (.iload_n 1, 1) := by decide +kernel
theorem dX9_init_169 : decode cX9_init 169 = .ok (.new 51, 3) := by decide +kernel
theorem dX9_init_172 : decode cX9_init 172 = .ok (.dup, 1) := by decide +kernel
theorem dX9_init_173 : decode cX9_init 173 = .ok (.invokespecial 76, 3) := by decide +kernel
theorem dX9_init_176 : decode cX9_init 176 = .ok (.aastore, 1) := by decide +kernel
theorem dX9_init_177 : decode cX9_init 177 = .ok (.iinc 1 1, 3) := by decide +kernel
theorem dX9_init_180 : decode cX9_init 180 = .ok (.goto (-25), 3) := by decide +kernel
theorem dX9_init_183 : decode cX9_init 183 = .ok (.iconst 0, 1) := by decide +kernel
theorem dX9_init_184 : decode cX9_init 184 = .ok (.istore_n 1, 1) := by decide +kernel
theorem dX9_init_185 : decode cX9_init 185 = .ok (.iload_n 1, 1) := by decide +kernel
theorem dX9_init_186 : decode cX9_init 186 = .ok (.aload_n 0, 1) := by decide +kernel
theorem dX9_init_187 : decode cX9_init 187 = .ok (.getfield 59, 3) := by decide +kernel
theorem dX9_init_190 : decode cX9_init 190 = .ok (.arraylength, 1) := by decide +kernel
theorem dX9_init_191 : decode cX9_init 191 = .ok (.if_icmp .ge 22, 3) := by decide +kernel
theorem dX9_init_194 : decode cX9_init 194 = .ok (.aload_n 0, 1) := by decide +kernel
theorem dX9_init_195 : decode cX9_init 195 = .ok (.getfield 59, 3) := by decide +kernel
theorem dX9_init_198 : decode cX9_init 198 = .ok (.iload_n 1, 1) := by decide +kernel
theorem dX9_init_199 : decode cX9_init 199 = .ok (.new 57, 3) := by decide +kernel
theorem dX9_init_202 : decode cX9_init 202 = .ok (.dup, 1) := by decide +kernel
theorem dX9_init_203 : decode cX9_init 203 = .ok (.invokespecial 77, 3) := by decide +kernel
theorem dX9_init_206 : decode cX9_init 206 = .ok (.aastore, 1) := by decide +kernel
theorem dX9_init_207 : decode cX9_init 207 = .ok (.iinc 1 1, 3) := by decide +kernel
theorem dX9_init_210 : decode cX9_init 210 = .ok (.goto (-25), 3) := by decide +kernel
theorem dX9_init_213 : decode cX9_init 213 = .ok (.iconst 0, 1) := by decide +kernel
theorem dX9_init_214 : decode cX9_init 214 = .ok (.istore_n 1, 1) := by decide +kernel
theorem dX9_init_215 : decode cX9_init 215 = .ok (.iload_n 1, 1) := by decide +kernel
theorem dX9_init_216 : decode cX9_init 216 = .ok (.aload_n 0, 1) := by decide +kernel
theorem dX9_init_217 : decode cX9_init 217 = .ok (.getfield 65, 3) := by decide +kernel
theorem dX9_init_220 : decode cX9_init 220 = .ok (.arraylength, 1) := by decide +kernel
theorem dX9_init_221 : decode cX9_init 221 = .ok (.if_icmp .ge 22, 3) := by decide +kernel
theorem dX9_init_224 : decode cX9_init 224 = .ok (.aload_n 0, 1) := by decide +kernel
theorem dX9_init_225 : decode cX9_init 225 = .ok (.getfield 65, 3) := by decide +kernel
theorem dX9_init_228 : decode cX9_init 228 = .ok (.iload_n 1, 1) := by decide +kernel
theorem dX9_init_229 : decode cX9_init 229 = .ok (.new 63, 3) := by decide +kernel
theorem dX9_init_232 : decode cX9_init 232 = .ok (.dup, 1) := by decide +kernel
theorem dX9_init_233 : decode cX9_init 233 = .ok (.invokespecial 78, 3) := by decide +kernel
theorem dX9_init_236 : decode cX9_init 236 = .ok (.aastore, 1) := by decide +kernel
theorem dX9_init_237 : decode cX9_init 237 = .ok (.iinc 1 1, 3) := by decide +kernel
theorem dX9_init_240 : decode cX9_init 240 = .ok (.goto (-25), 3) := by decide +kernel
theorem dX9_init_243 : decode cX9_init 243 = .ok (.aload_n 0, 1) := by decide +kernel
theorem dX9_init_244 : decode cX9_init 244 = .ok (.getfield 10, 3) := by decide +kernel
theorem dX9_init_247 : decode cX9_init 247 = .ok (.aload_n 0, 1) := by decide +kernel
theorem dX9_init_248 : decode cX9_init 248 = .ok (.getfield 53, 3) := by decide +kernel
theorem dX9_init_251 : decode cX9_init 251 = .ok (.iconst 0, 1) := by decide +kernel
theorem dX9_init_252 : decode cX9_init 252 = .ok (.aaload, 1) := by decide +kernel
theorem dX9_init_253 : decode cX9_init 253 = .ok (.putfield 79, 3) := by decide +kernel
theorem dX9_init_256 : decode cX9_init 256 = .ok (.return_, 1) := by decide +kernel
theorem dX9_loan_0 : decode cX9_loan 0 = .ok (.iload_n 1, 1) := by decide +kernel
theorem dX9_loan_1 : decode cX9_loan 1 = .ok (.iconst 0, 1) := by decide +kernel
theorem dX9_loan_2 : decode cX9_loan 2 = .ok (.iconst 5, 1) := by decide +kernel
theorem dX9_loan_3 : decode cX9_loan 3 = .ok (.invokestatic 83, 3) := by decide +kernel
theorem dX9_loan_6 : decode cX9_loan 6 = .ok (.ifCond .eq 37, 3) := by decide +kernel
theorem dX9_loan_9 : decode cX9_loan 9 = .ok (.iload_n 2, 1) := by decide +kernel
theorem dX9_loan_10 : decode cX9_loan 10 = .ok (.sipush 1000, 3) := by decide +kernel
theorem dX9_loan_13 : decode cX9_loan 13 = .ok (.ldc 87, 2) := by decide +kernel
theorem dX9_loan_15 : decode cX9_loan 15 = .ok (.invokestatic 83, 3) := by decide +kernel
theorem dX9_loan_18 : decode cX9_loan 18 = .ok (.ifCond .eq 25, 3) := by decide +kernel
theorem dX9_loan_21 : decode cX9_loan 21 = .ok (.iload_n 3, 1) := by decide +kernel
theorem dX9_loan_22 : decode cX9_loan 22 = .ok (.iconst 0, 1) := by decide +kernel
theorem dX9_loan_23 : decode cX9_loan 23 = .ok (.sipush 200, 3) := by decide +kernel
theorem dX9_loan_26 : decode cX9_loan 26 = .ok (.invokestatic 83, 3) := by decide +kernel
theorem dX9_loan_29 : decode cX9_loan 29 = .ok (.ifCond .eq 14, 3) := by decide +kernel
theorem dX9_loan_32 : decode cX9_loan 32 = .ok (.iload 4, 2) := by decide +kernel
theorem dX9_loan_34 : decode cX9_loan 34 = .ok (.iconst 1, 1) := by decide +kernel
theorem dX9_loan_35 : decode cX9_loan 35 = .ok (.bipush 60, 2) := by decide +kernel
theorem dX9_loan_37 : decode cX9_loan 37 = .ok (.invokestatic 83, 3) := by decide +kernel
theorem dX9_loan_40 : decode cX9_loan 40 = .ok (.ifCond .ne 6, 3) := by decide +kernel
theorem dX9_loan_43 : decode cX9_loan 43 = .ok (.bipush (-2), 2) := by decide +kernel
theorem dX9_loan_45 : decode cX9_loan 45 = .ok (.ireturn, 1) := by decide +kernel
theorem dX9_loan_46 : decode cX9_loan 46 = .ok (.aload_n 0, 1) := by decide +kernel
theorem dX9_loan_47 : decode cX9_loan 47 = .ok (.getfield 88, 3) := by decide +kernel
theorem dX9_loan_50 : decode cX9_loan 50 = .ok (.ifCond .le 6, 3) := by decide +kernel
theorem dX9_loan_53 : decode cX9_loan 53 = .ok (.bipush (-3), 2) := by decide +kernel
theorem dX9_loan_55 : decode cX9_loan 55 = .ok (.ireturn, 1) := by decide +kernel
theorem dX9_loan_56 : decode cX9_loan 56 = .ok (.aload_n 0, 1) := by decide +kernel
theorem dX9_loan_57 : decode cX9_loan 57 = .ok (.getfield 10, 3) := by decide +kernel
theorem dX9_loan_60 : decode cX9_loan 60 = .ok (.getfield 91, 3) := by decide +kernel
theorem dX9_loan_63 : decode cX9_loan 63 = .ok (.bipush 12, 2) := by decide +kernel
theorem dX9_loan_65 : decode cX9_loan 65 = .ok (.if_icmp .lt 6, 3) := by decide +kernel
theorem dX9_loan_68 : decode cX9_loan 68 = .ok (.bipush (-4), 2) := by decide +kernel
theorem dX9_loan_70 : decode cX9_loan 70 = .ok (.ireturn, 1) := by decide +kernel
theorem dX9_loan_71 : decode cX9_loan 71 = .ok (.aload_n 0, 1) := by decide +kernel
theorem dX9_loan_72 : decode cX9_loan 72 = .ok (.getfield 10, 3) := by decide +kernel
theorem dX9_loan_75 : decode cX9_loan 75 = .ok (.getfield 94, 3) := by decide +kernel
theorem dX9_loan_78 : decode cX9_loan 78 = .ok (.aload_n 0, 1) := by decide +kernel
theorem dX9_loan_79 : decode cX9_loan 79 = .ok (.getfield 10, 3) := by decide +kernel
theorem dX9_loan_82 : decode cX9_loan 82 = .ok (.getfield 91, 3) := by decide +kernel
theorem dX9_loan_85 : decode cX9_loan 85 = .ok (.aaload, 1) := by decide +kernel
theorem dX9_loan_86 : decode cX9_loan 86 = .ok (.iload_n 1, 1) := by decide +kernel
theorem dX9_loan_87 : decode cX9_loan 87 = .ok (.iload_n 2, 1) := by decide +kernel
theorem dX9_loan_88 : decode cX9_loan 88 = .ok (.iload_n 3, 1) := by decide +kernel
theorem dX9_loan_89 : decode cX9_loan 89 = .ok (.iload 4, 2) := by decide +kernel
theorem dX9_loan_91 : decode cX9_loan 91 = .ok (.invokevirtual 98, 3) := by decide +kernel
theorem dX9_loan_94 : decode cX9_loan 94 = .ok (.aload_n 0, 1) := by decide +kernel
theorem dX9_loan_95 : decode cX9_loan 95 = .ok (.getfield 10, 3) := by decide +kernel
theorem dX9_loan_98 : decode cX9_loan 98 = .ok (.dup, 1) := by decide +kernel
theorem dX9_loan_99 : decode cX9_loan 99 = .ok (.getfield 91, 3) := by decide +kernel
theorem dX9_loan_102 : decode cX9_loan 102 = .ok (.iconst 1, 1) := by decide +kernel
theorem dX9_loan_103 : decode cX9_loan 103 = .ok (.iadd, 1) := by decide +kernel
theorem dX9_loan_104 : decode cX9_loan 104 = .ok (.putfield 91, 3) := by decide +kernel
theorem dX9_loan_107 : decode cX9_loan 107 = .ok (.aload_n 0, 1) := by decide +kernel
theorem dX9_loan_108 : decode cX9_loan 108 = .ok (.getfield 10, 3) := by decide +kernel
theorem dX9_loan_111 : decode cX9_loan 111 = .ok (.getfield 91, 3) := by decide +kernel
theorem dX9_loan_114 : decode cX9_loan 114 = .ok (.iconst 1, 1) := by decide +kernel
theorem dX9_loan_115 : decode cX9_loan 115 = .ok (.isub, 1) := by decide +kernel
theorem dX9_loan_116 : decode cX9_loan 116 = .ok (.ireturn, 1) := by decide +kernel
theorem dX9_loanTold_0 : decode cX9_loanTold 0 = .ok (.iload_n 1, 1) := by decide +kernel
theorem dX9_loanTold_1 : decode cX9_loanTold 1 = .ok (.iconst 0, 1) := by decide +kernel
theorem dX9_loanTold_2 : decode cX9_loanTold 2 = .ok (.aload_n 0, 1) := by decide +kernel
theorem dX9_loanTold_3 : decode cX9_loanTold 3 = .ok (.getfield 10, 3) := by decide +kernel
theorem dX9_loanTold_6 : decode cX9_loanTold 6 = .ok (.getfield 91, 3) := by decide +kernel
theorem dX9_loanTold_9 : decode cX9_loanTold 9 = .ok (.iconst 1, 1) := by decide +kernel
theorem dX9_loanTold_10 : decode cX9_loanTold 10 = .ok (.isub, 1) := by decide +kernel
theorem dX9_loanTold_11 : decode cX9_loanTold 11 = .ok (.invokestatic 83, 3) := by decide +kernel
theorem dX9_loanTold_14 : decode cX9_loanTold 14 = .ok (.ifCond .ne 6, 3) := by decide +kernel
theorem dX9_loanTold_17 : decode cX9_loanTold 17 = .ok (.bipush (-2), 2) := by decide +kernel
theorem dX9_loanTold_19 : decode cX9_loanTold 19 = .ok (.ireturn, 1) := by decide +kernel
theorem dX9_loanTold_20 : decode cX9_loanTold 20 = .ok (.aload_n 0, 1) := by decide +kernel
theorem dX9_loanTold_21 : decode cX9_loanTold 21 = .ok (.getfield 10, 3) := by decide +kernel
theorem dX9_loanTold_24 : decode cX9_loanTold 24 = .ok (.getfield 94, 3) := by decide +kernel
theorem dX9_loanTold_27 : decode cX9_loanTold 27 = .ok (.iload_n 1, 1) := by decide +kernel
theorem dX9_loanTold_28 : decode cX9_loanTold 28 = .ok (.aaload, 1) := by decide +kernel
theorem dX9_loanTold_29 : decode cX9_loanTold 29 = .ok (.astore_n 3, 1) := by decide +kernel
theorem dX9_loanTold_30 : decode cX9_loanTold 30 = .ok (.iload_n 2, 1) := by decide +kernel
theorem dX9_loanTold_31 : decode cX9_loanTold 31 = .ok (.tableswitch 79 0 6 #[41, 46, 52, 57, 62, 68, 73], 41) := by decide +kernel
theorem dX9_loanTold_72 : decode cX9_loanTold 72 = .ok (.aload_n 3, 1) := by decide +kernel
theorem dX9_loanTold_73 : decode cX9_loanTold 73 = .ok (.getfield 104, 3) := by decide +kernel
theorem dX9_loanTold_76 : decode cX9_loanTold 76 = .ok (.ireturn, 1) := by decide +kernel
theorem dX9_loanTold_77 : decode cX9_loanTold 77 = .ok (.aload_n 3, 1) := by decide +kernel
theorem dX9_loanTold_78 : decode cX9_loanTold 78 = .ok (.getfield 107, 3) := by decide +kernel
theorem dX9_loanTold_81 : decode cX9_loanTold 81 = .ok (.l2i, 1) := by decide +kernel
theorem dX9_loanTold_82 : decode cX9_loanTold 82 = .ok (.ireturn, 1) := by decide +kernel
theorem dX9_loanTold_83 : decode cX9_loanTold 83 = .ok (.aload_n 3, 1) := by decide +kernel
theorem dX9_loanTold_84 : decode cX9_loanTold 84 = .ok (.getfield 111, 3) := by decide +kernel
theorem dX9_loanTold_87 : decode cX9_loanTold 87 = .ok (.ireturn, 1) := by decide +kernel
theorem dX9_loanTold_88 : decode cX9_loanTold 88 = .ok (.aload_n 3, 1) := by decide +kernel
theorem dX9_loanTold_89 : decode cX9_loanTold 89 = .ok (.getfield 114, 3) := by decide +kernel
theorem dX9_loanTold_92 : decode cX9_loanTold 92 = .ok (.ireturn, 1) := by decide +kernel
theorem dX9_loanTold_93 : decode cX9_loanTold 93 = .ok (.aload_n 3, 1) := by decide +kernel
theorem dX9_loanTold_94 : decode cX9_loanTold 94 = .ok (.getfield 116, 3) := by decide +kernel
theorem dX9_loanTold_97 : decode cX9_loanTold 97 = .ok (.l2i, 1) := by decide +kernel
theorem dX9_loanTold_98 : decode cX9_loanTold 98 = .ok (.ireturn, 1) := by decide +kernel
theorem dX9_loanTold_99 : decode cX9_loanTold 99 = .ok (.aload_n 3, 1) := by decide +kernel
theorem dX9_loanTold_100 : decode cX9_loanTold 100 = .ok (.getfield 119, 3) := by decide +kernel
theorem dX9_loanTold_103 : decode cX9_loanTold 103 = .ok (.ireturn, 1) := by decide +kernel
theorem dX9_loanTold_104 : decode cX9_loanTold 104 = .ok (.aload_n 3, 1) := by decide +kernel
theorem dX9_loanTold_105 : decode cX9_loanTold 105 = .ok (.getfield 122, 3) := by decide +kernel
theorem dX9_loanTold_108 : decode cX9_loanTold 108 = .ok (.l2i, 1) := by decide +kernel
theorem dX9_loanTold_109 : decode cX9_loanTold 109 = .ok (.ireturn, 1) := by decide +kernel
theorem dX9_loanTold_110 : decode cX9_loanTold 110 = .ok (.bipush (-2), 2) := by decide +kernel
theorem dX9_loanTold_112 : decode cX9_loanTold 112 = .ok (.ireturn, 1) := by decide +kernel
theorem dX9_paper_0 : decode cX9_paper 0 = .ok (.iload_n 1, 1) := by decide +kernel
theorem dX9_paper_1 : decode cX9_paper 1 = .ok (.iconst 1, 1) := by decide +kernel
theorem dX9_paper_2 : decode cX9_paper 2 = .ok (.ldc 125, 2) := by decide +kernel
theorem dX9_paper_4 : decode cX9_paper 4 = .ok (.invokestatic 83, 3) := by decide +kernel
theorem dX9_paper_7 : decode cX9_paper 7 = .ok (.ifCond .eq 14, 3) := by decide +kernel
theorem dX9_paper_10 : decode cX9_paper 10 = .ok (.iload_n 2, 1) := by decide +kernel
theorem dX9_paper_11 : decode cX9_paper 11 = .ok (.iconst 0, 1) := by decide +kernel
theorem dX9_paper_12 : decode cX9_paper 12 = .ok (.sipush 200, 3) := by decide +kernel
theorem dX9_paper_15 : decode cX9_paper 15 = .ok (.invokestatic 83, 3) := by decide +kernel
theorem dX9_paper_18 : decode cX9_paper 18 = .ok (.ifCond .ne 6, 3) := by decide +kernel
theorem dX9_paper_21 : decode cX9_paper 21 = .ok (.bipush (-2), 2) := by decide +kernel
theorem dX9_paper_23 : decode cX9_paper 23 = .ok (.ireturn, 1) := by decide +kernel
theorem dX9_paper_24 : decode cX9_paper 24 = .ok (.aload_n 0, 1) := by decide +kernel
theorem dX9_paper_25 : decode cX9_paper 25 = .ok (.getfield 88, 3) := by decide +kernel
theorem dX9_paper_28 : decode cX9_paper 28 = .ok (.ifCond .le 6, 3) := by decide +kernel
theorem dX9_paper_31 : decode cX9_paper 31 = .ok (.bipush (-3), 2) := by decide +kernel
theorem dX9_paper_33 : decode cX9_paper 33 = .ok (.ireturn, 1) := by decide +kernel
theorem dX9_paper_34 : decode cX9_paper 34 = .ok (.aload_n 0, 1) := by decide +kernel
theorem dX9_paper_35 : decode cX9_paper 35 = .ok (.getfield 19, 3) := by decide +kernel
theorem dX9_paper_38 : decode cX9_paper 38 = .ok (.getfield 126, 3) := by decide +kernel
theorem dX9_paper_41 : decode cX9_paper 41 = .ok (.iconst 5, 1) := by decide +kernel
theorem dX9_paper_42 : decode cX9_paper 42 = .ok (.if_icmp .lt 6, 3) := by decide +kernel
theorem dX9_paper_45 : decode cX9_paper 45 = .ok (.bipush (-4), 2) := by decide +kernel
theorem dX9_paper_47 : decode cX9_paper 47 = .ok (.ireturn, 1) := by decide +kernel
theorem dX9_paper_48 : decode cX9_paper 48 = .ok (.aload_n 0, 1) := by decide +kernel
theorem dX9_paper_49 : decode cX9_paper 49 = .ok (.getfield 19, 3) := by decide +kernel
theorem dX9_paper_52 : decode cX9_paper 52 = .ok (.getfield 127, 3) := by decide +kernel
theorem dX9_paper_55 : decode cX9_paper 55 = .ok (.aload_n 0, 1) := by decide +kernel
theorem dX9_paper_56 : decode cX9_paper 56 = .ok (.getfield 19, 3) := by decide +kernel
theorem dX9_paper_59 : decode cX9_paper 59 = .ok (.getfield 126, 3) := by decide +kernel
theorem dX9_paper_62 : decode cX9_paper 62 = .ok (.aaload, 1) := by decide +kernel
theorem dX9_paper_63 : decode cX9_paper 63 = .ok (.iload_n 1, 1) := by decide +kernel
theorem dX9_paper_64 : decode cX9_paper 64 = .ok (.iload_n 2, 1) := by decide +kernel
theorem dX9_paper_65 : decode cX9_paper 65 = .ok (.invokevirtual 131, 3) := by decide +kernel
theorem dX9_paper_68 : decode cX9_paper 68 = .ok (.aload_n 0, 1) := by decide +kernel
theorem dX9_paper_69 : decode cX9_paper 69 = .ok (.getfield 19, 3) := by decide +kernel
theorem dX9_paper_72 : decode cX9_paper 72 = .ok (.dup, 1) := by decide +kernel
theorem dX9_paper_73 : decode cX9_paper 73 = .ok (.getfield 126, 3) := by decide +kernel
theorem dX9_paper_76 : decode cX9_paper 76 = .ok (.iconst 1, 1) := by decide +kernel
theorem dX9_paper_77 : decode cX9_paper 77 = .ok (.iadd, 1) := by decide +kernel
theorem dX9_paper_78 : decode cX9_paper 78 = .ok (.putfield 126, 3) := by decide +kernel
theorem dX9_paper_81 : decode cX9_paper 81 = .ok (.aload_n 0, 1) := by decide +kernel
theorem dX9_paper_82 : decode cX9_paper 82 = .ok (.getfield 19, 3) := by decide +kernel
theorem dX9_paper_85 : decode cX9_paper 85 = .ok (.getfield 126, 3) := by decide +kernel
theorem dX9_paper_88 : decode cX9_paper 88 = .ok (.iconst 1, 1) := by decide +kernel
theorem dX9_paper_89 : decode cX9_paper 89 = .ok (.isub, 1) := by decide +kernel
theorem dX9_paper_90 : decode cX9_paper 90 = .ok (.ireturn, 1) := by decide +kernel
theorem dX9_paperTold_0 : decode cX9_paperTold 0 = .ok (.iload_n 1, 1) := by decide +kernel
theorem dX9_paperTold_1 : decode cX9_paperTold 1 = .ok (.iconst 0, 1) := by decide +kernel
theorem dX9_paperTold_2 : decode cX9_paperTold 2 = .ok (.aload_n 0, 1) := by decide +kernel
theorem dX9_paperTold_3 : decode cX9_paperTold 3 = .ok (.getfield 19, 3) := by decide +kernel
theorem dX9_paperTold_6 : decode cX9_paperTold 6 = .ok (.getfield 126, 3) := by decide +kernel
theorem dX9_paperTold_9 : decode cX9_paperTold 9 = .ok (.iconst 1, 1) := by decide +kernel
theorem dX9_paperTold_10 : decode cX9_paperTold 10 = .ok (.isub, 1) := by decide +kernel
theorem dX9_paperTold_11 : decode cX9_paperTold 11 = .ok (.invokestatic 83, 3) := by decide +kernel
theorem dX9_paperTold_14 : decode cX9_paperTold 14 = .ok (.ifCond .ne 6, 3) := by decide +kernel
theorem dX9_paperTold_17 : decode cX9_paperTold 17 = .ok (.bipush (-2), 2) := by decide +kernel
theorem dX9_paperTold_19 : decode cX9_paperTold 19 = .ok (.ireturn, 1) := by decide +kernel
theorem dX9_paperTold_20 : decode cX9_paperTold 20 = .ok (.aload_n 0, 1) := by decide +kernel
theorem dX9_paperTold_21 : decode cX9_paperTold 21 = .ok (.getfield 19, 3) := by decide +kernel
theorem dX9_paperTold_24 : decode cX9_paperTold 24 = .ok (.getfield 127, 3) := by decide +kernel
theorem dX9_paperTold_27 : decode cX9_paperTold 27 = .ok (.iload_n 1, 1) := by decide +kernel
theorem dX9_paperTold_28 : decode cX9_paperTold 28 = .ok (.aaload, 1) := by decide +kernel
theorem dX9_paperTold_29 : decode cX9_paperTold 29 = .ok (.astore_n 3, 1) := by decide +kernel
theorem dX9_paperTold_30 : decode cX9_paperTold 30 = .ok (.iload_n 2, 1) := by decide +kernel
theorem dX9_paperTold_31 : decode cX9_paperTold 31 = .ok (.tableswitch 72 0 5 #[37, 43, 48, 54, 60, 66], 37) := by decide +kernel
theorem dX9_paperTold_68 : decode cX9_paperTold 68 = .ok (.aload_n 3, 1) := by decide +kernel
theorem dX9_paperTold_69 : decode cX9_paperTold 69 = .ok (.getfield 136, 3) := by decide +kernel
theorem dX9_paperTold_72 : decode cX9_paperTold 72 = .ok (.l2i, 1) := by decide +kernel
theorem dX9_paperTold_73 : decode cX9_paperTold 73 = .ok (.ireturn, 1) := by decide +kernel
theorem dX9_paperTold_74 : decode cX9_paperTold 74 = .ok (.aload_n 3, 1) := by decide +kernel
theorem dX9_paperTold_75 : decode cX9_paperTold 75 = .ok (.getfield 137, 3) := by decide +kernel
theorem dX9_paperTold_78 : decode cX9_paperTold 78 = .ok (.ireturn, 1) := by decide +kernel
theorem dX9_paperTold_79 : decode cX9_paperTold 79 = .ok (.aload_n 3, 1) := by decide +kernel
theorem dX9_paperTold_80 : decode cX9_paperTold 80 = .ok (.getfield 140, 3) := by decide +kernel
theorem dX9_paperTold_83 : decode cX9_paperTold 83 = .ok (.l2i, 1) := by decide +kernel
theorem dX9_paperTold_84 : decode cX9_paperTold 84 = .ok (.ireturn, 1) := by decide +kernel
theorem dX9_paperTold_85 : decode cX9_paperTold 85 = .ok (.aload_n 3, 1) := by decide +kernel
theorem dX9_paperTold_86 : decode cX9_paperTold 86 = .ok (.getfield 143, 3) := by decide +kernel
theorem dX9_paperTold_89 : decode cX9_paperTold 89 = .ok (.l2i, 1) := by decide +kernel
theorem dX9_paperTold_90 : decode cX9_paperTold 90 = .ok (.ireturn, 1) := by decide +kernel
theorem dX9_paperTold_91 : decode cX9_paperTold 91 = .ok (.aload_n 3, 1) := by decide +kernel
theorem dX9_paperTold_92 : decode cX9_paperTold 92 = .ok (.getfield 146, 3) := by decide +kernel
theorem dX9_paperTold_95 : decode cX9_paperTold 95 = .ok (.l2i, 1) := by decide +kernel
theorem dX9_paperTold_96 : decode cX9_paperTold 96 = .ok (.ireturn, 1) := by decide +kernel
theorem dX9_paperTold_97 : decode cX9_paperTold 97 = .ok (.aload_n 3, 1) := by decide +kernel
theorem dX9_paperTold_98 : decode cX9_paperTold 98 = .ok (.getfield 149, 3) := by decide +kernel
theorem dX9_paperTold_101 : decode cX9_paperTold 101 = .ok (.l2i, 1) := by decide +kernel
theorem dX9_paperTold_102 : decode cX9_paperTold 102 = .ok (.ireturn, 1) := by decide +kernel
theorem dX9_paperTold_103 : decode cX9_paperTold 103 = .ok (.bipush (-2), 2) := by decide +kernel
theorem dX9_paperTold_105 : decode cX9_paperTold 105 = .ok (.ireturn, 1) := by decide +kernel
theorem dX9_life_0 : decode cX9_life 0 = .ok (.iload_n 1, 1) := by decide +kernel
theorem dX9_life_1 : decode cX9_life 1 = .ok (.iconst 0, 1) := by decide +kernel
theorem dX9_life_2 : decode cX9_life 2 = .ok (.aload_n 0, 1) := by decide +kernel
theorem dX9_life_3 : decode cX9_life 3 = .ok (.getfield 19, 3) := by decide +kernel
theorem dX9_life_6 : decode cX9_life 6 = .ok (.getfield 126, 3) := by decide +kernel
theorem dX9_life_9 : decode cX9_life 9 = .ok (.iconst 1, 1) := by decide +kernel
theorem dX9_life_10 : decode cX9_life 10 = .ok (.isub, 1) := by decide +kernel
theorem dX9_life_11 : decode cX9_life 11 = .ok (.invokestatic 83, 3) := by decide +kernel
theorem dX9_life_14 : decode cX9_life 14 = .ok (.ifCond .eq 12, 3) := by decide +kernel
theorem dX9_life_17 : decode cX9_life 17 = .ok (.iload_n 2, 1) := by decide +kernel
theorem dX9_life_18 : decode cX9_life 18 = .ok (.iconst 0, 1) := by decide +kernel
theorem dX9_life_19 : decode cX9_life 19 = .ok (.iconst 1, 1) := by decide +kernel
theorem dX9_life_20 : decode cX9_life 20 = .ok (.invokestatic 83, 3) := by decide +kernel
theorem dX9_life_23 : decode cX9_life 23 = .ok (.ifCond .ne 7, 3) := by decide +kernel
theorem dX9_life_26 : decode cX9_life 26 = .ok (.ldc2_w 152, 3) := by decide +kernel
theorem dX9_life_29 : decode cX9_life 29 = .ok (.lreturn, 1) := by decide +kernel
theorem dX9_life_30 : decode cX9_life 30 = .ok (.aload_n 0, 1) := by decide +kernel
theorem dX9_life_31 : decode cX9_life 31 = .ok (.getfield 19, 3) := by decide +kernel
theorem dX9_life_34 : decode cX9_life 34 = .ok (.getfield 127, 3) := by decide +kernel
theorem dX9_life_37 : decode cX9_life 37 = .ok (.iload_n 1, 1) := by decide +kernel
theorem dX9_life_38 : decode cX9_life 38 = .ok (.aaload, 1) := by decide +kernel
theorem dX9_life_39 : decode cX9_life 39 = .ok (.astore_n 3, 1) := by decide +kernel
theorem dX9_life_40 : decode cX9_life 40 = .ok (.aload_n 3, 1) := by decide +kernel
theorem dX9_life_41 : decode cX9_life 41 = .ok (.getfield 146, 3) := by decide +kernel
theorem dX9_life_44 : decode cX9_life 44 = .ok (.lconst 0, 1) := by decide +kernel
theorem dX9_life_45 : decode cX9_life 45 = .ok (.lcmp, 1) := by decide +kernel
theorem dX9_life_46 : decode cX9_life 46 = .ok (.ifCond .gt 6, 3) := by decide +kernel
theorem dX9_life_49 : decode cX9_life 49 = .ok (.iload_n 2, 1) := by decide +kernel
theorem dX9_life_50 : decode cX9_life 50 = .ok (.i2l, 1) := by decide +kernel
theorem dX9_life_51 : decode cX9_life 51 = .ok (.lreturn, 1) := by decide +kernel
theorem dX9_life_52 : decode cX9_life 52 = .ok (.aload_n 3, 1) := by decide +kernel
theorem dX9_life_53 : decode cX9_life 53 = .ok (.getfield 146, 3) := by decide +kernel
theorem dX9_life_56 : decode cX9_life 56 = .ok (.aload_n 3, 1) := by decide +kernel
theorem dX9_life_57 : decode cX9_life 57 = .ok (.getfield 154, 3) := by decide +kernel
theorem dX9_life_60 : decode cX9_life 60 = .ok (.invokestatic 157, 3) := by decide +kernel
theorem dX9_life_63 : decode cX9_life 63 = .ok (.lstore 4, 2) := by decide +kernel
theorem dX9_life_65 : decode cX9_life 65 = .ok (.lload 4, 2) := by decide +kernel
theorem dX9_life_67 : decode cX9_life 67 = .ok (.lconst 0, 1) := by decide +kernel
theorem dX9_life_68 : decode cX9_life 68 = .ok (.lcmp, 1) := by decide +kernel
theorem dX9_life_69 : decode cX9_life 69 = .ok (.ifCond .gt 7, 3) := by decide +kernel
theorem dX9_life_72 : decode cX9_life 72 = .ok (.ldc2_w 152, 3) := by decide +kernel
theorem dX9_life_75 : decode cX9_life 75 = .ok (.lreturn, 1) := by decide +kernel
theorem dX9_life_76 : decode cX9_life 76 = .ok (.iload_n 2, 1) := by decide +kernel
theorem dX9_life_77 : decode cX9_life 77 = .ok (.ifCond .ne 10, 3) := by decide +kernel
theorem dX9_life_80 : decode cX9_life 80 = .ok (.aload_n 3, 1) := by decide +kernel
theorem dX9_life_81 : decode cX9_life 81 = .ok (.getfield 154, 3) := by decide +kernel
theorem dX9_life_84 : decode cX9_life 84 = .ok (.goto 7, 3) := by decide +kernel
theorem dX9_life_87 : decode cX9_life 87 = .ok (.aload_n 3, 1) := by decide +kernel
theorem dX9_life_88 : decode cX9_life 88 = .ok (.getfield 146, 3) := by decide +kernel
theorem dX9_life_91 : decode cX9_life 91 = .ok (.lload 4, 2) := by decide +kernel
theorem dX9_life_93 : decode cX9_life 93 = .ok (.ldiv, 1) := by decide +kernel
theorem dX9_life_94 : decode cX9_life 94 = .ok (.lreturn, 1) := by decide +kernel
theorem dX9_tell_0 : decode cX9_tell 0 = .ok (.iload_n 1, 1) := by decide +kernel
theorem dX9_tell_1 : decode cX9_tell 1 = .ok (.ifCond .ne 31, 3) := by decide +kernel
theorem dX9_tell_4 : decode cX9_tell 4 = .ok (.iload_n 2, 1) := by decide +kernel
theorem dX9_tell_5 : decode cX9_tell 5 = .ok (.iconst 0, 1) := by decide +kernel
theorem dX9_tell_6 : decode cX9_tell 6 = .ok (.ldc 161, 2) := by decide +kernel
theorem dX9_tell_8 : decode cX9_tell 8 = .ok (.invokestatic 83, 3) := by decide +kernel
theorem dX9_tell_11 : decode cX9_tell 11 = .ok (.ifCond .eq 21, 3) := by decide +kernel
theorem dX9_tell_14 : decode cX9_tell 14 = .ok (.aload_n 0, 1) := by decide +kernel
theorem dX9_tell_15 : decode cX9_tell 15 = .ok (.getfield 10, 3) := by decide +kernel
theorem dX9_tell_18 : decode cX9_tell 18 = .ok (.getfield 162, 3) := by decide +kernel
theorem dX9_tell_21 : decode cX9_tell 21 = .ok (.istore_n 3, 1) := by decide +kernel
theorem dX9_tell_22 : decode cX9_tell 22 = .ok (.aload_n 0, 1) := by decide +kernel
theorem dX9_tell_23 : decode cX9_tell 23 = .ok (.getfield 10, 3) := by decide +kernel
theorem dX9_tell_26 : decode cX9_tell 26 = .ok (.iload_n 2, 1) := by decide +kernel
theorem dX9_tell_27 : decode cX9_tell 27 = .ok (.putfield 162, 3) := by decide +kernel
theorem dX9_tell_30 : decode cX9_tell 30 = .ok (.iload_n 3, 1) := by decide +kernel
theorem dX9_tell_31 : decode cX9_tell 31 = .ok (.ireturn, 1) := by decide +kernel
theorem dX9_tell_32 : decode cX9_tell 32 = .ok (.iload_n 1, 1) := by decide +kernel
theorem dX9_tell_33 : decode cX9_tell 33 = .ok (.iconst 1, 1) := by decide +kernel
theorem dX9_tell_34 : decode cX9_tell 34 = .ok (.if_icmp .ne 31, 3) := by decide +kernel
theorem dX9_tell_37 : decode cX9_tell 37 = .ok (.iload_n 2, 1) := by decide +kernel
theorem dX9_tell_38 : decode cX9_tell 38 = .ok (.iconst 0, 1) := by decide +kernel
theorem dX9_tell_39 : decode cX9_tell 39 = .ok (.bipush 100, 2) := by decide +kernel
theorem dX9_tell_41 : decode cX9_tell 41 = .ok (.invokestatic 83, 3) := by decide +kernel
theorem dX9_tell_44 : decode cX9_tell 44 = .ok (.ifCond .eq 21, 3) := by decide +kernel
theorem dX9_tell_47 : decode cX9_tell 47 = .ok (.aload_n 0, 1) := by decide +kernel
theorem dX9_tell_48 : decode cX9_tell 48 = .ok (.getfield 10, 3) := by decide +kernel
theorem dX9_tell_51 : decode cX9_tell 51 = .ok (.getfield 165, 3) := by decide +kernel
theorem dX9_tell_54 : decode cX9_tell 54 = .ok (.istore_n 3, 1) := by decide +kernel
theorem dX9_tell_55 : decode cX9_tell 55 = .ok (.aload_n 0, 1) := by decide +kernel
theorem dX9_tell_56 : decode cX9_tell 56 = .ok (.getfield 10, 3) := by decide +kernel
theorem dX9_tell_59 : decode cX9_tell 59 = .ok (.iload_n 2, 1) := by decide +kernel
theorem dX9_tell_60 : decode cX9_tell 60 = .ok (.putfield 165, 3) := by decide +kernel
theorem dX9_tell_63 : decode cX9_tell 63 = .ok (.iload_n 3, 1) := by decide +kernel
theorem dX9_tell_64 : decode cX9_tell 64 = .ok (.ireturn, 1) := by decide +kernel
theorem dX9_tell_65 : decode cX9_tell 65 = .ok (.iload_n 1, 1) := by decide +kernel
theorem dX9_tell_66 : decode cX9_tell 66 = .ok (.iconst 2, 1) := by decide +kernel
theorem dX9_tell_67 : decode cX9_tell 67 = .ok (.if_icmp .ne 47, 3) := by decide +kernel
theorem dX9_tell_70 : decode cX9_tell 70 = .ok (.iload_n 2, 1) := by decide +kernel
theorem dX9_tell_71 : decode cX9_tell 71 = .ok (.iconst 0, 1) := by decide +kernel
theorem dX9_tell_72 : decode cX9_tell 72 = .ok (.iconst 1, 1) := by decide +kernel
theorem dX9_tell_73 : decode cX9_tell 73 = .ok (.invokestatic 83, 3) := by decide +kernel
theorem dX9_tell_76 : decode cX9_tell 76 = .ok (.ifCond .eq 38, 3) := by decide +kernel
theorem dX9_tell_79 : decode cX9_tell 79 = .ok (.aload_n 0, 1) := by decide +kernel
theorem dX9_tell_80 : decode cX9_tell 80 = .ok (.getfield 10, 3) := by decide +kernel
theorem dX9_tell_83 : decode cX9_tell 83 = .ok (.getfield 168, 3) := by decide +kernel
theorem dX9_tell_86 : decode cX9_tell 86 = .ok (.ifCond .eq 7, 3) := by decide +kernel
theorem dX9_tell_89 : decode cX9_tell 89 = .ok (.iconst 1, 1) := by decide +kernel
theorem dX9_tell_90 : decode cX9_tell 90 = .ok (.goto 4, 3) := by decide +kernel
theorem dX9_tell_93 : decode cX9_tell 93 = .ok (.iconst 0, 1) := by decide +kernel
theorem dX9_tell_94 : decode cX9_tell 94 = .ok (.istore_n 3, 1) := by decide +kernel
theorem dX9_tell_95 : decode cX9_tell 95 = .ok (.aload_n 0, 1) := by decide +kernel
theorem dX9_tell_96 : decode cX9_tell 96 = .ok (.getfield 10, 3) := by decide +kernel
theorem dX9_tell_99 : decode cX9_tell 99 = .ok (.iload_n 2, 1) := by decide +kernel
theorem dX9_tell_100 : decode cX9_tell 100 = .ok (.iconst 1, 1) := by decide +kernel
theorem dX9_tell_101 : decode cX9_tell 101 = .ok (.if_icmp .ne 7, 3) := by decide +kernel
theorem dX9_tell_104 : decode cX9_tell 104 = .ok (.iconst 1, 1) := by decide +kernel
theorem dX9_tell_105 : decode cX9_tell 105 = .ok (.goto 4, 3) := by decide +kernel
theorem dX9_tell_108 : decode cX9_tell 108 = .ok (.iconst 0, 1) := by decide +kernel
theorem dX9_tell_109 : decode cX9_tell 109 = .ok (.putfield 168, 3) := by decide +kernel
theorem dX9_tell_112 : decode cX9_tell 112 = .ok (.iload_n 3, 1) := by decide +kernel
theorem dX9_tell_113 : decode cX9_tell 113 = .ok (.ireturn, 1) := by decide +kernel
theorem dX9_tell_114 : decode cX9_tell 114 = .ok (.bipush (-2), 2) := by decide +kernel
theorem dX9_tell_116 : decode cX9_tell 116 = .ok (.ireturn, 1) := by decide +kernel
theorem dX9_trip_0 : decode cX9_trip 0 = .ok (.iload_n 1, 1) := by decide +kernel
theorem dX9_trip_1 : decode cX9_trip 1 = .ok (.iconst 0, 1) := by decide +kernel
theorem dX9_trip_2 : decode cX9_trip 2 = .ok (.sipush 1000, 3) := by decide +kernel
theorem dX9_trip_5 : decode cX9_trip 5 = .ok (.invokestatic 83, 3) := by decide +kernel
theorem dX9_trip_8 : decode cX9_trip 8 = .ok (.ifCond .eq 13, 3) := by decide +kernel
theorem dX9_trip_11 : decode cX9_trip 11 = .ok (.iload_n 2, 1) := by decide +kernel
theorem dX9_trip_12 : decode cX9_trip 12 = .ok (.iconst 1, 1) := by decide +kernel
theorem dX9_trip_13 : decode cX9_trip 13 = .ok (.bipush 12, 2) := by decide +kernel
theorem dX9_trip_15 : decode cX9_trip 15 = .ok (.invokestatic 83, 3) := by decide +kernel
theorem dX9_trip_18 : decode cX9_trip 18 = .ok (.ifCond .ne 6, 3) := by decide +kernel
theorem dX9_trip_21 : decode cX9_trip 21 = .ok (.bipush (-2), 2) := by decide +kernel
theorem dX9_trip_23 : decode cX9_trip 23 = .ok (.ireturn, 1) := by decide +kernel
theorem dX9_trip_24 : decode cX9_trip 24 = .ok (.aload_n 0, 1) := by decide +kernel
theorem dX9_trip_25 : decode cX9_trip 25 = .ok (.getfield 19, 3) := by decide +kernel
theorem dX9_trip_28 : decode cX9_trip 28 = .ok (.iload_n 1, 1) := by decide +kernel
theorem dX9_trip_29 : decode cX9_trip 29 = .ok (.putfield 172, 3) := by decide +kernel
theorem dX9_trip_32 : decode cX9_trip 32 = .ok (.aload_n 0, 1) := by decide +kernel
theorem dX9_trip_33 : decode cX9_trip 33 = .ok (.getfield 19, 3) := by decide +kernel
theorem dX9_trip_36 : decode cX9_trip 36 = .ok (.iload_n 2, 1) := by decide +kernel
theorem dX9_trip_37 : decode cX9_trip 37 = .ok (.putfield 175, 3) := by decide +kernel
theorem dX9_trip_40 : decode cX9_trip 40 = .ok (.iconst 1, 1) := by decide +kernel
theorem dX9_trip_41 : decode cX9_trip 41 = .ok (.ireturn, 1) := by decide +kernel
theorem dX9_feed_0 : decode cX9_feed 0 = .ok (.iload_n 1, 1) := by decide +kernel
theorem dX9_feed_1 : decode cX9_feed 1 = .ok (.iconst 1, 1) := by decide +kernel
theorem dX9_feed_2 : decode cX9_feed 2 = .ok (.bipush 8, 2) := by decide +kernel
theorem dX9_feed_4 : decode cX9_feed 4 = .ok (.invokestatic 83, 3) := by decide +kernel
theorem dX9_feed_7 : decode cX9_feed 7 = .ok (.ifCond .ne 6, 3) := by decide +kernel
theorem dX9_feed_10 : decode cX9_feed 10 = .ok (.bipush (-2), 2) := by decide +kernel
theorem dX9_feed_12 : decode cX9_feed 12 = .ok (.ireturn, 1) := by decide +kernel
theorem dX9_feed_13 : decode cX9_feed 13 = .ok (.aload_n 0, 1) := by decide +kernel
theorem dX9_feed_14 : decode cX9_feed 14 = .ok (.getfield 47, 3) := by decide +kernel
theorem dX9_feed_17 : decode cX9_feed 17 = .ok (.getfield 178, 3) := by decide +kernel
theorem dX9_feed_20 : decode cX9_feed 20 = .ok (.iload_n 1, 1) := by decide +kernel
theorem dX9_feed_21 : decode cX9_feed 21 = .ok (.iadd, 1) := by decide +kernel
theorem dX9_feed_22 : decode cX9_feed 22 = .ok (.sipush 160, 3) := by decide +kernel
theorem dX9_feed_25 : decode cX9_feed 25 = .ok (.if_icmp .le 6, 3) := by decide +kernel
theorem dX9_feed_28 : decode cX9_feed 28 = .ok (.bipush (-4), 2) := by decide +kernel
theorem dX9_feed_30 : decode cX9_feed 30 = .ok (.ireturn, 1) := by decide +kernel
theorem dX9_feed_31 : decode cX9_feed 31 = .ok (.aload_n 0, 1) := by decide +kernel
theorem dX9_feed_32 : decode cX9_feed 32 = .ok (.getfield 47, 3) := by decide +kernel
theorem dX9_feed_35 : decode cX9_feed 35 = .ok (.iload_n 1, 1) := by decide +kernel
theorem dX9_feed_36 : decode cX9_feed 36 = .ok (.lload_n 2, 1) := by decide +kernel
theorem dX9_feed_37 : decode cX9_feed 37 = .ok (.invokevirtual 181, 3) := by decide +kernel
theorem dX9_feed_40 : decode cX9_feed 40 = .ok (.aload_n 0, 1) := by decide +kernel
theorem dX9_feed_41 : decode cX9_feed 41 = .ok (.getfield 47, 3) := by decide +kernel
theorem dX9_feed_44 : decode cX9_feed 44 = .ok (.getfield 178, 3) := by decide +kernel
theorem dX9_feed_47 : decode cX9_feed 47 = .ok (.ireturn, 1) := by decide +kernel
theorem dX9_text_0 : decode cX9_text 0 = .ok (.aload_n 0, 1) := by decide +kernel
theorem dX9_text_1 : decode cX9_text 1 = .ok (.getfield 69, 3) := by decide +kernel
theorem dX9_text_4 : decode cX9_text 4 = .ok (.bipush 6, 2) := by decide +kernel
theorem dX9_text_6 : decode cX9_text 6 = .ok (.if_icmp .lt 6, 3) := by decide +kernel
theorem dX9_text_9 : decode cX9_text 9 = .ok (.bipush (-4), 2) := by decide +kernel
theorem dX9_text_11 : decode cX9_text 11 = .ok (.ireturn, 1) := by decide +kernel
theorem dX9_text_12 : decode cX9_text 12 = .ok (.aload_n 0, 1) := by decide +kernel
theorem dX9_text_13 : decode cX9_text 13 = .ok (.getfield 53, 3) := by decide +kernel
theorem dX9_text_16 : decode cX9_text 16 = .ok (.aload_n 0, 1) := by decide +kernel
theorem dX9_text_17 : decode cX9_text 17 = .ok (.getfield 69, 3) := by decide +kernel
theorem dX9_text_20 : decode cX9_text 20 = .ok (.aaload, 1) := by decide +kernel
theorem dX9_text_21 : decode cX9_text 21 = .ok (.aload_n 0, 1) := by decide +kernel
theorem dX9_text_22 : decode cX9_text 22 = .ok (.getfield 47, 3) := by decide +kernel
theorem dX9_text_25 : decode cX9_text 25 = .ok (.invokevirtual 185, 3) := by decide +kernel
theorem dX9_text_28 : decode cX9_text 28 = .ok (.istore_n 1, 1) := by decide +kernel
theorem dX9_text_29 : decode cX9_text 29 = .ok (.aload_n 0, 1) := by decide +kernel
theorem dX9_text_30 : decode cX9_text 30 = .ok (.getfield 47, 3) := by decide +kernel
theorem dX9_text_33 : decode cX9_text 33 = .ok (.iconst 0, 1) := by decide +kernel
theorem dX9_text_34 : decode cX9_text 34 = .ok (.putfield 178, 3) := by decide +kernel
theorem dX9_text_37 : decode cX9_text 37 = .ok (.iload_n 1, 1) := by decide +kernel
theorem dX9_text_38 : decode cX9_text 38 = .ok (.iconst (-1), 1) := by decide +kernel
theorem dX9_text_39 : decode cX9_text 39 = .ok (.if_icmp .eq 8, 3) := by decide +kernel
theorem dX9_text_42 : decode cX9_text 42 = .ok (.bipush (-100), 2) := by decide +kernel
theorem dX9_text_44 : decode cX9_text 44 = .ok (.iload_n 1, 1) := by decide +kernel
theorem dX9_text_45 : decode cX9_text 45 = .ok (.isub, 1) := by decide +kernel
theorem dX9_text_46 : decode cX9_text 46 = .ok (.ireturn, 1) := by decide +kernel
theorem dX9_text_47 : decode cX9_text 47 = .ok (.aload_n 0, 1) := by decide +kernel
theorem dX9_text_48 : decode cX9_text 48 = .ok (.dup, 1) := by decide +kernel
theorem dX9_text_49 : decode cX9_text 49 = .ok (.getfield 69, 3) := by decide +kernel
theorem dX9_text_52 : decode cX9_text 52 = .ok (.iconst 1, 1) := by decide +kernel
theorem dX9_text_53 : decode cX9_text 53 = .ok (.iadd, 1) := by decide +kernel
theorem dX9_text_54 : decode cX9_text 54 = .ok (.putfield 69, 3) := by decide +kernel
theorem dX9_text_57 : decode cX9_text 57 = .ok (.aload_n 0, 1) := by decide +kernel
theorem dX9_text_58 : decode cX9_text 58 = .ok (.getfield 69, 3) := by decide +kernel
theorem dX9_text_61 : decode cX9_text 61 = .ok (.iconst 1, 1) := by decide +kernel
theorem dX9_text_62 : decode cX9_text 62 = .ok (.isub, 1) := by decide +kernel
theorem dX9_text_63 : decode cX9_text 63 = .ok (.ireturn, 1) := by decide +kernel
theorem dX9_force_0 : decode cX9_force 0 = .ok (.iload_n 1, 1) := by decide +kernel
theorem dX9_force_1 : decode cX9_force 1 = .ok (.iconst 0, 1) := by decide +kernel
theorem dX9_force_2 : decode cX9_force 2 = .ok (.aload_n 0, 1) := by decide +kernel
theorem dX9_force_3 : decode cX9_force 3 = .ok (.getfield 69, 3) := by decide +kernel
theorem dX9_force_6 : decode cX9_force 6 = .ok (.iconst 1, 1) := by decide +kernel
theorem dX9_force_7 : decode cX9_force 7 = .ok (.isub, 1) := by decide +kernel
theorem dX9_force_8 : decode cX9_force 8 = .ok (.invokestatic 83, 3) := by decide +kernel
theorem dX9_force_11 : decode cX9_force 11 = .ok (.ifCond .ne 6, 3) := by decide +kernel
theorem dX9_force_14 : decode cX9_force 14 = .ok (.bipush (-2), 2) := by decide +kernel
theorem dX9_force_16 : decode cX9_force 16 = .ok (.ireturn, 1) := by decide +kernel
theorem dX9_force_17 : decode cX9_force 17 = .ok (.aload_n 0, 1) := by decide +kernel
theorem dX9_force_18 : decode cX9_force 18 = .ok (.getfield 189, 3) := by decide +kernel
theorem dX9_force_21 : decode cX9_force 21 = .ok (.istore_n 2, 1) := by decide +kernel
theorem dX9_force_22 : decode cX9_force 22 = .ok (.aload_n 0, 1) := by decide +kernel
theorem dX9_force_23 : decode cX9_force 23 = .ok (.iload_n 1, 1) := by decide +kernel
theorem dX9_force_24 : decode cX9_force 24 = .ok (.putfield 189, 3) := by decide +kernel
theorem dX9_force_27 : decode cX9_force 27 = .ok (.aload_n 0, 1) := by decide +kernel
theorem dX9_force_28 : decode cX9_force 28 = .ok (.getfield 10, 3) := by decide +kernel
theorem dX9_force_31 : decode cX9_force 31 = .ok (.aload_n 0, 1) := by decide +kernel
theorem dX9_force_32 : decode cX9_force 32 = .ok (.getfield 53, 3) := by decide +kernel
theorem dX9_force_35 : decode cX9_force 35 = .ok (.iload_n 1, 1) := by decide +kernel
theorem dX9_force_36 : decode cX9_force 36 = .ok (.aaload, 1) := by decide +kernel
theorem dX9_force_37 : decode cX9_force 37 = .ok (.putfield 79, 3) := by decide +kernel
theorem dX9_force_40 : decode cX9_force 40 = .ok (.iload_n 2, 1) := by decide +kernel
theorem dX9_force_41 : decode cX9_force 41 = .ok (.ireturn, 1) := by decide +kernel
theorem dX9_says_0 : decode cX9_says 0 = .ok (.iload_n 1, 1) := by decide +kernel
theorem dX9_says_1 : decode cX9_says 1 = .ok (.iconst 0, 1) := by decide +kernel
theorem dX9_says_2 : decode cX9_says 2 = .ok (.aload_n 0, 1) := by decide +kernel
theorem dX9_says_3 : decode cX9_says 3 = .ok (.getfield 10, 3) := by decide +kernel
theorem dX9_says_6 : decode cX9_says 6 = .ok (.getfield 91, 3) := by decide +kernel
theorem dX9_says_9 : decode cX9_says 9 = .ok (.iconst 1, 1) := by decide +kernel
theorem dX9_says_10 : decode cX9_says 10 = .ok (.isub, 1) := by decide +kernel
theorem dX9_says_11 : decode cX9_says 11 = .ok (.invokestatic 83, 3) := by decide +kernel
theorem dX9_says_14 : decode cX9_says 14 = .ok (.ifCond .eq 21, 3) := by decide +kernel
theorem dX9_says_17 : decode cX9_says 17 = .ok (.iload_n 2, 1) := by decide +kernel
theorem dX9_says_18 : decode cX9_says 18 = .ok (.iconst 0, 1) := by decide +kernel
theorem dX9_says_19 : decode cX9_says 19 = .ok (.iconst 2, 1) := by decide +kernel
theorem dX9_says_20 : decode cX9_says 20 = .ok (.invokestatic 83, 3) := by decide +kernel
theorem dX9_says_23 : decode cX9_says 23 = .ok (.ifCond .eq 12, 3) := by decide +kernel
theorem dX9_says_26 : decode cX9_says 26 = .ok (.aload_n 0, 1) := by decide +kernel
theorem dX9_says_27 : decode cX9_says 27 = .ok (.getfield 88, 3) := by decide +kernel
theorem dX9_says_30 : decode cX9_says 30 = .ok (.bipush 60, 2) := by decide +kernel
theorem dX9_says_32 : decode cX9_says 32 = .ok (.if_icmp .lt 7, 3) := by decide +kernel
theorem dX9_says_35 : decode cX9_says 35 = .ok (.ldc2_w 152, 3) := by decide +kernel
theorem dX9_says_38 : decode cX9_says 38 = .ok (.lreturn, 1) := by decide +kernel
theorem dX9_says_39 : decode cX9_says 39 = .ok (.aload_n 0, 1) := by decide +kernel
theorem dX9_says_40 : decode cX9_says 40 = .ok (.getfield 10, 3) := by decide +kernel
theorem dX9_says_43 : decode cX9_says 43 = .ok (.getfield 79, 3) := by decide +kernel
theorem dX9_says_46 : decode cX9_says 46 = .ok (.iload_n 2, 1) := by decide +kernel
theorem dX9_says_47 : decode cX9_says 47 = .ok (.aload_n 0, 1) := by decide +kernel
theorem dX9_says_48 : decode cX9_says 48 = .ok (.getfield 10, 3) := by decide +kernel
theorem dX9_says_51 : decode cX9_says 51 = .ok (.getfield 94, 3) := by decide +kernel
theorem dX9_says_54 : decode cX9_says 54 = .ok (.iload_n 1, 1) := by decide +kernel
theorem dX9_says_55 : decode cX9_says 55 = .ok (.aaload, 1) := by decide +kernel
theorem dX9_says_56 : decode cX9_says 56 = .ok (.aload_n 0, 1) := by decide +kernel
theorem dX9_says_57 : decode cX9_says 57 = .ok (.getfield 88, 3) := by decide +kernel
theorem dX9_says_60 : decode cX9_says 60 = .ok (.iconst 1, 1) := by decide +kernel
theorem dX9_says_61 : decode cX9_says 61 = .ok (.iadd, 1) := by decide +kernel
theorem dX9_says_62 : decode cX9_says 62 = .ok (.invokevirtual 192, 3) := by decide +kernel
theorem dX9_says_65 : decode cX9_says 65 = .ok (.i2l, 1) := by decide +kernel
theorem dX9_says_66 : decode cX9_says 66 = .ok (.lreturn, 1) := by decide +kernel
theorem dX9_order_0 : decode cX9_order 0 = .ok (.aload_n 0, 1) := by decide +kernel
theorem dX9_order_1 : decode cX9_order 1 = .ok (.getfield 73, 3) := by decide +kernel
theorem dX9_order_4 : decode cX9_order 4 = .ok (.bipush 6, 2) := by decide +kernel
theorem dX9_order_6 : decode cX9_order 6 = .ok (.if_icmp .lt 6, 3) := by decide +kernel
theorem dX9_order_9 : decode cX9_order 9 = .ok (.bipush (-4), 2) := by decide +kernel
theorem dX9_order_11 : decode cX9_order 11 = .ok (.ireturn, 1) := by decide +kernel
theorem dX9_order_12 : decode cX9_order 12 = .ok (.aload_n 0, 1) := by decide +kernel
theorem dX9_order_13 : decode cX9_order 13 = .ok (.getfield 59, 3) := by decide +kernel
theorem dX9_order_16 : decode cX9_order 16 = .ok (.aload_n 0, 1) := by decide +kernel
theorem dX9_order_17 : decode cX9_order 17 = .ok (.getfield 73, 3) := by decide +kernel
theorem dX9_order_20 : decode cX9_order 20 = .ok (.aaload, 1) := by decide +kernel
theorem dX9_order_21 : decode cX9_order 21 = .ok (.aload_n 0, 1) := by decide +kernel
theorem dX9_order_22 : decode cX9_order 22 = .ok (.getfield 47, 3) := by decide +kernel
theorem dX9_order_25 : decode cX9_order 25 = .ok (.invokevirtual 196, 3) := by decide +kernel
theorem dX9_order_28 : decode cX9_order 28 = .ok (.istore_n 1, 1) := by decide +kernel
theorem dX9_order_29 : decode cX9_order 29 = .ok (.aload_n 0, 1) := by decide +kernel
theorem dX9_order_30 : decode cX9_order 30 = .ok (.getfield 47, 3) := by decide +kernel
theorem dX9_order_33 : decode cX9_order 33 = .ok (.iconst 0, 1) := by decide +kernel
theorem dX9_order_34 : decode cX9_order 34 = .ok (.putfield 178, 3) := by decide +kernel
theorem dX9_order_37 : decode cX9_order 37 = .ok (.iload_n 1, 1) := by decide +kernel
theorem dX9_order_38 : decode cX9_order 38 = .ok (.iconst (-1), 1) := by decide +kernel
theorem dX9_order_39 : decode cX9_order 39 = .ok (.if_icmp .eq 8, 3) := by decide +kernel
theorem dX9_order_42 : decode cX9_order 42 = .ok (.bipush (-100), 2) := by decide +kernel
theorem dX9_order_44 : decode cX9_order 44 = .ok (.iload_n 1, 1) := by decide +kernel
theorem dX9_order_45 : decode cX9_order 45 = .ok (.isub, 1) := by decide +kernel
theorem dX9_order_46 : decode cX9_order 46 = .ok (.ireturn, 1) := by decide +kernel
theorem dX9_order_47 : decode cX9_order 47 = .ok (.aload_n 0, 1) := by decide +kernel
theorem dX9_order_48 : decode cX9_order 48 = .ok (.dup, 1) := by decide +kernel
theorem dX9_order_49 : decode cX9_order 49 = .ok (.getfield 73, 3) := by decide +kernel
theorem dX9_order_52 : decode cX9_order 52 = .ok (.iconst 1, 1) := by decide +kernel
theorem dX9_order_53 : decode cX9_order 53 = .ok (.iadd, 1) := by decide +kernel
theorem dX9_order_54 : decode cX9_order 54 = .ok (.putfield 73, 3) := by decide +kernel
theorem dX9_order_57 : decode cX9_order 57 = .ok (.aload_n 0, 1) := by decide +kernel
theorem dX9_order_58 : decode cX9_order 58 = .ok (.getfield 73, 3) := by decide +kernel
theorem dX9_order_61 : decode cX9_order 61 = .ok (.iconst 1, 1) := by decide +kernel
theorem dX9_order_62 : decode cX9_order 62 = .ok (.isub, 1) := by decide +kernel
theorem dX9_order_63 : decode cX9_order 63 = .ok (.ireturn, 1) := by decide +kernel
theorem dX9_step_0 : decode cX9_step 0 = .ok (.iload_n 1, 1) := by decide +kernel
theorem dX9_step_1 : decode cX9_step 1 = .ok (.iconst 0, 1) := by decide +kernel
theorem dX9_step_2 : decode cX9_step 2 = .ok (.aload_n 0, 1) := by decide +kernel
theorem dX9_step_3 : decode cX9_step 3 = .ok (.getfield 73, 3) := by decide +kernel
theorem dX9_step_6 : decode cX9_step 6 = .ok (.iconst 1, 1) := by decide +kernel
theorem dX9_step_7 : decode cX9_step 7 = .ok (.isub, 1) := by decide +kernel
theorem dX9_step_8 : decode cX9_step 8 = .ok (.invokestatic 83, 3) := by decide +kernel
theorem dX9_step_11 : decode cX9_step 11 = .ok (.ifCond .ne 6, 3) := by decide +kernel
theorem dX9_step_14 : decode cX9_step 14 = .ok (.bipush (-2), 2) := by decide +kernel
theorem dX9_step_16 : decode cX9_step 16 = .ok (.ireturn, 1) := by decide +kernel
theorem dX9_step_17 : decode cX9_step 17 = .ok (.aload_n 0, 1) := by decide +kernel
theorem dX9_step_18 : decode cX9_step 18 = .ok (.getfield 59, 3) := by decide +kernel
theorem dX9_step_21 : decode cX9_step 21 = .ok (.iload_n 1, 1) := by decide +kernel
theorem dX9_step_22 : decode cX9_step 22 = .ok (.aaload, 1) := by decide +kernel
theorem dX9_step_23 : decode cX9_step 23 = .ok (.astore 4, 2) := by decide +kernel
theorem dX9_step_25 : decode cX9_step 25 = .ok (.iload_n 2, 1) := by decide +kernel
theorem dX9_step_26 : decode cX9_step 26 = .ok (.iconst (-1), 1) := by decide +kernel
theorem dX9_step_27 : decode cX9_step 27 = .ok (.aload 4, 2) := by decide +kernel
theorem dX9_step_29 : decode cX9_step 29 = .ok (.getfield 197, 3) := by decide +kernel
theorem dX9_step_32 : decode cX9_step 32 = .ok (.iconst 1, 1) := by decide +kernel
theorem dX9_step_33 : decode cX9_step 33 = .ok (.isub, 1) := by decide +kernel
theorem dX9_step_34 : decode cX9_step 34 = .ok (.invokestatic 83, 3) := by decide +kernel
theorem dX9_step_37 : decode cX9_step 37 = .ok (.ifCond .eq 12, 3) := by decide +kernel
theorem dX9_step_40 : decode cX9_step 40 = .ok (.iload_n 3, 1) := by decide +kernel
theorem dX9_step_41 : decode cX9_step 41 = .ok (.iconst 0, 1) := by decide +kernel
theorem dX9_step_42 : decode cX9_step 42 = .ok (.iconst 5, 1) := by decide +kernel
theorem dX9_step_43 : decode cX9_step 43 = .ok (.invokestatic 83, 3) := by decide +kernel
theorem dX9_step_46 : decode cX9_step 46 = .ok (.ifCond .ne 6, 3) := by decide +kernel
theorem dX9_step_49 : decode cX9_step 49 = .ok (.bipush (-2), 2) := by decide +kernel
theorem dX9_step_51 : decode cX9_step 51 = .ok (.ireturn, 1) := by decide +kernel
theorem dX9_step_52 : decode cX9_step 52 = .ok (.iload_n 2, 1) := by decide +kernel
theorem dX9_step_53 : decode cX9_step 53 = .ok (.iconst (-1), 1) := by decide +kernel
theorem dX9_step_54 : decode cX9_step 54 = .ok (.if_icmp .ne 11, 3) := by decide +kernel
theorem dX9_step_57 : decode cX9_step 57 = .ok (.aload 4, 2) := by decide +kernel
theorem dX9_step_59 : decode cX9_step 59 = .ok (.getfield 197, 3) := by decide +kernel
theorem dX9_step_62 : decode cX9_step 62 = .ok (.goto 12, 3) := by decide +kernel
theorem dX9_step_65 : decode cX9_step 65 = .ok (.aload 4, 2) := by decide +kernel
theorem dX9_step_67 : decode cX9_step 67 = .ok (.getfield 198, 3) := by decide +kernel
theorem dX9_step_70 : decode cX9_step 70 = .ok (.iload_n 2, 1) := by decide +kernel
theorem dX9_step_71 : decode cX9_step 71 = .ok (.aaload, 1) := by decide +kernel
theorem dX9_step_72 : decode cX9_step 72 = .ok (.iload_n 3, 1) := by decide +kernel
theorem dX9_step_73 : decode cX9_step 73 = .ok (.iaload, 1) := by decide +kernel
theorem dX9_step_74 : decode cX9_step 74 = .ok (.ireturn, 1) := by decide +kernel
theorem dX9_amend_0 : decode cX9_amend 0 = .ok (.iload_n 2, 1) := by decide +kernel
theorem dX9_amend_1 : decode cX9_amend 1 = .ok (.iconst 0, 1) := by decide +kernel
theorem dX9_amend_2 : decode cX9_amend 2 = .ok (.aload_n 0, 1) := by decide +kernel
theorem dX9_amend_3 : decode cX9_amend 3 = .ok (.getfield 73, 3) := by decide +kernel
theorem dX9_amend_6 : decode cX9_amend 6 = .ok (.iconst 1, 1) := by decide +kernel
theorem dX9_amend_7 : decode cX9_amend 7 = .ok (.isub, 1) := by decide +kernel
theorem dX9_amend_8 : decode cX9_amend 8 = .ok (.invokestatic 83, 3) := by decide +kernel
theorem dX9_amend_11 : decode cX9_amend 11 = .ok (.ifCond .eq 17, 3) := by decide +kernel
theorem dX9_amend_14 : decode cX9_amend 14 = .ok (.iload_n 1, 1) := by decide +kernel
theorem dX9_amend_15 : decode cX9_amend 15 = .ok (.iconst 1, 1) := by decide +kernel
theorem dX9_amend_16 : decode cX9_amend 16 = .ok (.aload_n 0, 1) := by decide +kernel
theorem dX9_amend_17 : decode cX9_amend 17 = .ok (.getfield 88, 3) := by decide +kernel
theorem dX9_amend_20 : decode cX9_amend 20 = .ok (.iconst 1, 1) := by decide +kernel
theorem dX9_amend_21 : decode cX9_amend 21 = .ok (.iadd, 1) := by decide +kernel
theorem dX9_amend_22 : decode cX9_amend 22 = .ok (.invokestatic 83, 3) := by decide +kernel
theorem dX9_amend_25 : decode cX9_amend 25 = .ok (.ifCond .ne 6, 3) := by decide +kernel
theorem dX9_amend_28 : decode cX9_amend 28 = .ok (.bipush (-2), 2) := by decide +kernel
theorem dX9_amend_30 : decode cX9_amend 30 = .ok (.ireturn, 1) := by decide +kernel
theorem dX9_amend_31 : decode cX9_amend 31 = .ok (.iload_n 1, 1) := by decide +kernel
theorem dX9_amend_32 : decode cX9_amend 32 = .ok (.istore_n 3, 1) := by decide +kernel
theorem dX9_amend_33 : decode cX9_amend 33 = .ok (.iload_n 3, 1) := by decide +kernel
theorem dX9_amend_34 : decode cX9_amend 34 = .ok (.aload_n 0, 1) := by decide +kernel
theorem dX9_amend_35 : decode cX9_amend 35 = .ok (.getfield 40, 3) := by decide +kernel
theorem dX9_amend_38 : decode cX9_amend 38 = .ok (.arraylength, 1) := by decide +kernel
theorem dX9_amend_39 : decode cX9_amend 39 = .ok (.if_icmp .ge 16, 3) := by decide +kernel
theorem dX9_amend_42 : decode cX9_amend 42 = .ok (.aload_n 0, 1) := by decide +kernel
theorem dX9_amend_43 : decode cX9_amend 43 = .ok (.getfield 40, 3) := by decide +kernel
theorem dX9_amend_46 : decode cX9_amend 46 = .ok (.iload_n 3, 1) := by decide +kernel
theorem dX9_amend_47 : decode cX9_amend 47 = .ok (.iload_n 2, 1) := by decide +kernel
theorem dX9_amend_48 : decode cX9_amend 48 = .ok (.iastore, 1) := by decide +kernel
theorem dX9_amend_49 : decode cX9_amend 49 = .ok (.iinc 3 1, 3) := by decide +kernel
theorem dX9_amend_52 : decode cX9_amend 52 = .ok (.goto (-19), 3) := by decide +kernel
theorem dX9_amend_55 : decode cX9_amend 55 = .ok (.aload_n 0, 1) := by decide +kernel
theorem dX9_amend_56 : decode cX9_amend 56 = .ok (.getfield 19, 3) := by decide +kernel
theorem dX9_amend_59 : decode cX9_amend 59 = .ok (.invokevirtual 202, 3) := by decide +kernel
theorem dX9_amend_62 : decode cX9_amend 62 = .ok (.iconst 1, 1) := by decide +kernel
theorem dX9_amend_63 : decode cX9_amend 63 = .ok (.istore_n 3, 1) := by decide +kernel
theorem dX9_amend_64 : decode cX9_amend 64 = .ok (.iload_n 3, 1) := by decide +kernel
theorem dX9_amend_65 : decode cX9_amend 65 = .ok (.aload_n 0, 1) := by decide +kernel
theorem dX9_amend_66 : decode cX9_amend 66 = .ok (.getfield 88, 3) := by decide +kernel
theorem dX9_amend_69 : decode cX9_amend 69 = .ok (.if_icmp .gt 37, 3) := by decide +kernel
theorem dX9_amend_72 : decode cX9_amend 72 = .ok (.iload_n 3, 1) := by decide +kernel
theorem dX9_amend_73 : decode cX9_amend 73 = .ok (.aload_n 0, 1) := by decide +kernel
theorem dX9_amend_74 : decode cX9_amend 74 = .ok (.getfield 36, 3) := by decide +kernel
theorem dX9_amend_77 : decode cX9_amend 77 = .ok (.arraylength, 1) := by decide +kernel
theorem dX9_amend_78 : decode cX9_amend 78 = .ok (.if_icmp .ge 28, 3) := by decide +kernel
theorem dX9_amend_81 : decode cX9_amend 81 = .ok (.aload_n 0, 1) := by decide +kernel
theorem dX9_amend_82 : decode cX9_amend 82 = .ok (.getfield 19, 3) := by decide +kernel
theorem dX9_amend_85 : decode cX9_amend 85 = .ok (.iload_n 3, 1) := by decide +kernel
theorem dX9_amend_86 : decode cX9_amend 86 = .ok (.aload_n 0, 1) := by decide +kernel
theorem dX9_amend_87 : decode cX9_amend 87 = .ok (.getfield 36, 3) := by decide +kernel
theorem dX9_amend_90 : decode cX9_amend 90 = .ok (.iload_n 3, 1) := by decide +kernel
theorem dX9_amend_91 : decode cX9_amend 91 = .ok (.aaload, 1) := by decide +kernel
theorem dX9_amend_92 : decode cX9_amend 92 = .ok (.aload_n 0, 1) := by decide +kernel
theorem dX9_amend_93 : decode cX9_amend 93 = .ok (.iload_n 3, 1) := by decide +kernel
theorem dX9_amend_94 : decode cX9_amend 94 = .ok (.invokevirtual 205, 3) := by decide +kernel
theorem dX9_amend_97 : decode cX9_amend 97 = .ok (.invokevirtual 209, 3) := by decide +kernel
theorem dX9_amend_100 : decode cX9_amend 100 = .ok (.iinc 3 1, 3) := by decide +kernel
theorem dX9_amend_103 : decode cX9_amend 103 = .ok (.goto (-39), 3) := by decide +kernel
theorem dX9_amend_106 : decode cX9_amend 106 = .ok (.aload_n 0, 1) := by decide +kernel
theorem dX9_amend_107 : decode cX9_amend 107 = .ok (.getfield 88, 3) := by decide +kernel
theorem dX9_amend_110 : decode cX9_amend 110 = .ok (.ireturn, 1) := by decide +kernel
theorem dX9_run_0 : decode cX9_run 0 = .ok (.iload_n 1, 1) := by decide +kernel
theorem dX9_run_1 : decode cX9_run 1 = .ok (.iconst 1, 1) := by decide +kernel
theorem dX9_run_2 : decode cX9_run 2 = .ok (.bipush 12, 2) := by decide +kernel
theorem dX9_run_4 : decode cX9_run 4 = .ok (.invokestatic 83, 3) := by decide +kernel
theorem dX9_run_7 : decode cX9_run 7 = .ok (.ifCond .ne 6, 3) := by decide +kernel
theorem dX9_run_10 : decode cX9_run 10 = .ok (.bipush (-2), 2) := by decide +kernel
theorem dX9_run_12 : decode cX9_run 12 = .ok (.ireturn, 1) := by decide +kernel
theorem dX9_run_13 : decode cX9_run 13 = .ok (.aload_n 0, 1) := by decide +kernel
theorem dX9_run_14 : decode cX9_run 14 = .ok (.getfield 88, 3) := by decide +kernel
theorem dX9_run_17 : decode cX9_run 17 = .ok (.iload_n 1, 1) := by decide +kernel
theorem dX9_run_18 : decode cX9_run 18 = .ok (.iadd, 1) := by decide +kernel
theorem dX9_run_19 : decode cX9_run 19 = .ok (.bipush 60, 2) := by decide +kernel
theorem dX9_run_21 : decode cX9_run 21 = .ok (.if_icmp .le 6, 3) := by decide +kernel
theorem dX9_run_24 : decode cX9_run 24 = .ok (.bipush (-4), 2) := by decide +kernel
theorem dX9_run_26 : decode cX9_run 26 = .ok (.ireturn, 1) := by decide +kernel
theorem dX9_run_27 : decode cX9_run 27 = .ok (.iconst 0, 1) := by decide +kernel
theorem dX9_run_28 : decode cX9_run 28 = .ok (.istore_n 2, 1) := by decide +kernel
theorem dX9_run_29 : decode cX9_run 29 = .ok (.iload_n 2, 1) := by decide +kernel
theorem dX9_run_30 : decode cX9_run 30 = .ok (.iload_n 1, 1) := by decide +kernel
theorem dX9_run_31 : decode cX9_run 31 = .ok (.if_icmp .ge 67, 3) := by decide +kernel
theorem dX9_run_34 : decode cX9_run 34 = .ok (.aload_n 0, 1) := by decide +kernel
theorem dX9_run_35 : decode cX9_run 35 = .ok (.dup, 1) := by decide +kernel
theorem dX9_run_36 : decode cX9_run 36 = .ok (.getfield 88, 3) := by decide +kernel
theorem dX9_run_39 : decode cX9_run 39 = .ok (.iconst 1, 1) := by decide +kernel
theorem dX9_run_40 : decode cX9_run 40 = .ok (.iadd, 1) := by decide +kernel
theorem dX9_run_41 : decode cX9_run 41 = .ok (.putfield 88, 3) := by decide +kernel
theorem dX9_run_44 : decode cX9_run 44 = .ok (.aload_n 0, 1) := by decide +kernel
theorem dX9_run_45 : decode cX9_run 45 = .ok (.getfield 10, 3) := by decide +kernel
theorem dX9_run_48 : decode cX9_run 48 = .ok (.aload_n 0, 1) := by decide +kernel
theorem dX9_run_49 : decode cX9_run 49 = .ok (.getfield 88, 3) := by decide +kernel
theorem dX9_run_52 : decode cX9_run 52 = .ok (.aload_n 0, 1) := by decide +kernel
theorem dX9_run_53 : decode cX9_run 53 = .ok (.getfield 36, 3) := by decide +kernel
theorem dX9_run_56 : decode cX9_run 56 = .ok (.aload_n 0, 1) := by decide +kernel
theorem dX9_run_57 : decode cX9_run 57 = .ok (.getfield 88, 3) := by decide +kernel
theorem dX9_run_60 : decode cX9_run 60 = .ok (.aaload, 1) := by decide +kernel
theorem dX9_run_61 : decode cX9_run 61 = .ok (.invokevirtual 213, 3) := by decide +kernel
theorem dX9_run_64 : decode cX9_run 64 = .ok (.aload_n 0, 1) := by decide +kernel
theorem dX9_run_65 : decode cX9_run 65 = .ok (.getfield 19, 3) := by decide +kernel
theorem dX9_run_68 : decode cX9_run 68 = .ok (.aload_n 0, 1) := by decide +kernel
theorem dX9_run_69 : decode cX9_run 69 = .ok (.getfield 88, 3) := by decide +kernel
theorem dX9_run_72 : decode cX9_run 72 = .ok (.aload_n 0, 1) := by decide +kernel
theorem dX9_run_73 : decode cX9_run 73 = .ok (.getfield 36, 3) := by decide +kernel
theorem dX9_run_76 : decode cX9_run 76 = .ok (.aload_n 0, 1) := by decide +kernel
theorem dX9_run_77 : decode cX9_run 77 = .ok (.getfield 88, 3) := by decide +kernel
theorem dX9_run_80 : decode cX9_run 80 = .ok (.aaload, 1) := by decide +kernel
theorem dX9_run_81 : decode cX9_run 81 = .ok (.aload_n 0, 1) := by decide +kernel
theorem dX9_run_82 : decode cX9_run 82 = .ok (.aload_n 0, 1) := by decide +kernel
theorem dX9_run_83 : decode cX9_run 83 = .ok (.getfield 88, 3) := by decide +kernel
theorem dX9_run_86 : decode cX9_run 86 = .ok (.invokevirtual 205, 3) := by decide +kernel
theorem dX9_run_89 : decode cX9_run 89 = .ok (.invokevirtual 209, 3) := by decide +kernel
theorem dX9_run_92 : decode cX9_run 92 = .ok (.iinc 2 1, 3) := by decide +kernel
theorem dX9_run_95 : decode cX9_run 95 = .ok (.goto (-66), 3) := by decide +kernel
theorem dX9_run_98 : decode cX9_run 98 = .ok (.aload_n 0, 1) := by decide +kernel
theorem dX9_run_99 : decode cX9_run 99 = .ok (.getfield 88, 3) := by decide +kernel
theorem dX9_run_102 : decode cX9_run 102 = .ok (.ireturn, 1) := by decide +kernel
theorem dX9_month_0 : decode cX9_month 0 = .ok (.iload_n 1, 1) := by decide +kernel
theorem dX9_month_1 : decode cX9_month 1 = .ok (.iconst 1, 1) := by decide +kernel
theorem dX9_month_2 : decode cX9_month 2 = .ok (.aload_n 0, 1) := by decide +kernel
theorem dX9_month_3 : decode cX9_month 3 = .ok (.getfield 88, 3) := by decide +kernel
theorem dX9_month_6 : decode cX9_month 6 = .ok (.invokestatic 83, 3) := by decide +kernel
theorem dX9_month_9 : decode cX9_month 9 = .ok (.ifCond .ne 6, 3) := by decide +kernel
theorem dX9_month_12 : decode cX9_month 12 = .ok (.bipush (-2), 2) := by decide +kernel
theorem dX9_month_14 : decode cX9_month 14 = .ok (.ireturn, 1) := by decide +kernel
theorem dX9_month_15 : decode cX9_month 15 = .ok (.iload_n 2, 1) := by decide +kernel
theorem dX9_month_16 : decode cX9_month 16 = .ok (.bipush 11, 2) := by decide +kernel
theorem dX9_month_18 : decode cX9_month 18 = .ok (.if_icmp .ne 12, 3) := by decide +kernel
theorem dX9_month_21 : decode cX9_month 21 = .ok (.aload_n 0, 1) := by decide +kernel
theorem dX9_month_22 : decode cX9_month 22 = .ok (.getfield 40, 3) := by decide +kernel
theorem dX9_month_25 : decode cX9_month 25 = .ok (.iload_n 1, 1) := by decide +kernel
theorem dX9_month_26 : decode cX9_month 26 = .ok (.iaload, 1) := by decide +kernel
theorem dX9_month_27 : decode cX9_month 27 = .ok (.goto 13, 3) := by decide +kernel
theorem dX9_month_30 : decode cX9_month 30 = .ok (.aload_n 0, 1) := by decide +kernel
theorem dX9_month_31 : decode cX9_month 31 = .ok (.getfield 36, 3) := by decide +kernel
theorem dX9_month_34 : decode cX9_month 34 = .ok (.iload_n 1, 1) := by decide +kernel
theorem dX9_month_35 : decode cX9_month 35 = .ok (.aaload, 1) := by decide +kernel
theorem dX9_month_36 : decode cX9_month 36 = .ok (.iload_n 2, 1) := by decide +kernel
theorem dX9_month_37 : decode cX9_month 37 = .ok (.invokevirtual 217, 3) := by decide +kernel
theorem dX9_month_40 : decode cX9_month 40 = .ok (.ireturn, 1) := by decide +kernel
theorem dX9_paid_0 : decode cX9_paid 0 = .ok (.iload_n 1, 1) := by decide +kernel
theorem dX9_paid_1 : decode cX9_paid 1 = .ok (.iconst 1, 1) := by decide +kernel
theorem dX9_paid_2 : decode cX9_paid 2 = .ok (.aload_n 0, 1) := by decide +kernel
theorem dX9_paid_3 : decode cX9_paid 3 = .ok (.getfield 88, 3) := by decide +kernel
theorem dX9_paid_6 : decode cX9_paid 6 = .ok (.invokestatic 83, 3) := by decide +kernel
theorem dX9_paid_9 : decode cX9_paid 9 = .ok (.ifCond .ne 6, 3) := by decide +kernel
theorem dX9_paid_12 : decode cX9_paid 12 = .ok (.bipush (-2), 2) := by decide +kernel
theorem dX9_paid_14 : decode cX9_paid 14 = .ok (.ireturn, 1) := by decide +kernel
theorem dX9_paid_15 : decode cX9_paid 15 = .ok (.iload_n 2, 1) := by decide +kernel
theorem dX9_paid_16 : decode cX9_paid 16 = .ok (.iconst 0, 1) := by decide +kernel
theorem dX9_paid_17 : decode cX9_paid 17 = .ok (.aload_n 0, 1) := by decide +kernel
theorem dX9_paid_18 : decode cX9_paid 18 = .ok (.iload_n 1, 1) := by decide +kernel
theorem dX9_paid_19 : decode cX9_paid 19 = .ok (.invokevirtual 205, 3) := by decide +kernel
theorem dX9_paid_22 : decode cX9_paid 22 = .ok (.getfield 197, 3) := by decide +kernel
theorem dX9_paid_25 : decode cX9_paid 25 = .ok (.iconst 1, 1) := by decide +kernel
theorem dX9_paid_26 : decode cX9_paid 26 = .ok (.isub, 1) := by decide +kernel
theorem dX9_paid_27 : decode cX9_paid 27 = .ok (.invokestatic 83, 3) := by decide +kernel
theorem dX9_paid_30 : decode cX9_paid 30 = .ok (.ifCond .eq 18, 3) := by decide +kernel
theorem dX9_paid_33 : decode cX9_paid 33 = .ok (.aload_n 0, 1) := by decide +kernel
theorem dX9_paid_34 : decode cX9_paid 34 = .ok (.getfield 36, 3) := by decide +kernel
theorem dX9_paid_37 : decode cX9_paid 37 = .ok (.iload_n 1, 1) := by decide +kernel
theorem dX9_paid_38 : decode cX9_paid 38 = .ok (.aaload, 1) := by decide +kernel
theorem dX9_paid_39 : decode cX9_paid 39 = .ok (.getfield 221, 3) := by decide +kernel
theorem dX9_paid_42 : decode cX9_paid 42 = .ok (.iload_n 2, 1) := by decide +kernel
theorem dX9_paid_43 : decode cX9_paid 43 = .ok (.laload, 1) := by decide +kernel
theorem dX9_paid_44 : decode cX9_paid 44 = .ok (.l2i, 1) := by decide +kernel
theorem dX9_paid_45 : decode cX9_paid 45 = .ok (.goto 4, 3) := by decide +kernel
theorem dX9_paid_48 : decode cX9_paid 48 = .ok (.iconst (-1), 1) := by decide +kernel
theorem dX9_paid_49 : decode cX9_paid 49 = .ok (.ireturn, 1) := by decide +kernel
theorem dX9_buy_0 : decode cX9_buy 0 = .ok (.iload_n 1, 1) := by decide +kernel
theorem dX9_buy_1 : decode cX9_buy 1 = .ok (.iconst 0, 1) := by decide +kernel
theorem dX9_buy_2 : decode cX9_buy 2 = .ok (.aload_n 0, 1) := by decide +kernel
theorem dX9_buy_3 : decode cX9_buy 3 = .ok (.getfield 10, 3) := by decide +kernel
theorem dX9_buy_6 : decode cX9_buy 6 = .ok (.getfield 91, 3) := by decide +kernel
theorem dX9_buy_9 : decode cX9_buy 9 = .ok (.iconst 1, 1) := by decide +kernel
theorem dX9_buy_10 : decode cX9_buy 10 = .ok (.isub, 1) := by decide +kernel
theorem dX9_buy_11 : decode cX9_buy 11 = .ok (.invokestatic 83, 3) := by decide +kernel
theorem dX9_buy_14 : decode cX9_buy 14 = .ok (.ifCond .ne 6, 3) := by decide +kernel
theorem dX9_buy_17 : decode cX9_buy 17 = .ok (.bipush (-2), 2) := by decide +kernel
theorem dX9_buy_19 : decode cX9_buy 19 = .ok (.ireturn, 1) := by decide +kernel
theorem dX9_buy_20 : decode cX9_buy 20 = .ok (.aload_n 0, 1) := by decide +kernel
theorem dX9_buy_21 : decode cX9_buy 21 = .ok (.getfield 10, 3) := by decide +kernel
theorem dX9_buy_24 : decode cX9_buy 24 = .ok (.getfield 94, 3) := by decide +kernel
theorem dX9_buy_27 : decode cX9_buy 27 = .ok (.iload_n 1, 1) := by decide +kernel
theorem dX9_buy_28 : decode cX9_buy 28 = .ok (.aaload, 1) := by decide +kernel
theorem dX9_buy_29 : decode cX9_buy 29 = .ok (.astore_n 2, 1) := by decide +kernel
theorem dX9_buy_30 : decode cX9_buy 30 = .ok (.aload_n 2, 1) := by decide +kernel
theorem dX9_buy_31 : decode cX9_buy 31 = .ok (.invokevirtual 225, 3) := by decide +kernel
theorem dX9_buy_34 : decode cX9_buy 34 = .ok (.ifCond .ne 6, 3) := by decide +kernel
theorem dX9_buy_37 : decode cX9_buy 37 = .ok (.bipush (-3), 2) := by decide +kernel
theorem dX9_buy_39 : decode cX9_buy 39 = .ok (.ireturn, 1) := by decide +kernel
theorem dX9_buy_40 : decode cX9_buy 40 = .ok (.aload_n 2, 1) := by decide +kernel
theorem dX9_buy_41 : decode cX9_buy 41 = .ok (.bipush 6, 2) := by decide +kernel
theorem dX9_buy_43 : decode cX9_buy 43 = .ok (.putfield 119, 3) := by decide +kernel
theorem dX9_buy_46 : decode cX9_buy 46 = .ok (.aload_n 2, 1) := by decide +kernel
theorem dX9_buy_47 : decode cX9_buy 47 = .ok (.getfield 107, 3) := by decide +kernel
theorem dX9_buy_50 : decode cX9_buy 50 = .ok (.aload_n 2, 1) := by decide +kernel
theorem dX9_buy_51 : decode cX9_buy 51 = .ok (.getfield 116, 3) := by decide +kernel
theorem dX9_buy_54 : decode cX9_buy 54 = .ok (.ladd, 1) := by decide +kernel
theorem dX9_buy_55 : decode cX9_buy 55 = .ok (.l2i, 1) := by decide +kernel
theorem dX9_buy_56 : decode cX9_buy 56 = .ok (.ireturn, 1) := by decide +kernel
theorem dX9_report_0 : decode cX9_report 0 = .ok (.iload_n 1, 1) := by decide +kernel
theorem dX9_report_1 : decode cX9_report 1 = .ok (.iconst 1, 1) := by decide +kernel
theorem dX9_report_2 : decode cX9_report 2 = .ok (.aload_n 0, 1) := by decide +kernel
theorem dX9_report_3 : decode cX9_report 3 = .ok (.getfield 88, 3) := by decide +kernel
theorem dX9_report_6 : decode cX9_report 6 = .ok (.invokestatic 83, 3) := by decide +kernel
theorem dX9_report_9 : decode cX9_report 9 = .ok (.ifCond .ne 6, 3) := by decide +kernel
theorem dX9_report_12 : decode cX9_report 12 = .ok (.bipush (-2), 2) := by decide +kernel
theorem dX9_report_14 : decode cX9_report 14 = .ok (.ireturn, 1) := by decide +kernel
theorem dX9_report_15 : decode cX9_report 15 = .ok (.aload_n 0, 1) := by decide +kernel
theorem dX9_report_16 : decode cX9_report 16 = .ok (.iload_n 2, 1) := by decide +kernel
theorem dX9_report_17 : decode cX9_report 17 = .ok (.iload_n 3, 1) := by decide +kernel
theorem dX9_report_18 : decode cX9_report 18 = .ok (.iload 5, 2) := by decide +kernel
theorem dX9_report_20 : decode cX9_report 20 = .ok (.invokevirtual 229, 3) := by decide +kernel
theorem dX9_report_23 : decode cX9_report 23 = .ok (.istore 6, 2) := by decide +kernel
theorem dX9_report_25 : decode cX9_report 25 = .ok (.iload 6, 2) := by decide +kernel
theorem dX9_report_27 : decode cX9_report 27 = .ok (.ifCond .eq 6, 3) := by decide +kernel
theorem dX9_report_30 : decode cX9_report 30 = .ok (.iload 6, 2) := by decide +kernel
theorem dX9_report_32 : decode cX9_report 32 = .ok (.ireturn, 1) := by decide +kernel
theorem dX9_report_33 : decode cX9_report 33 = .ok (.iload 5, 2) := by decide +kernel
theorem dX9_report_35 : decode cX9_report 35 = .ok (.ifCond .le 42, 3) := by decide +kernel
theorem dX9_report_38 : decode cX9_report 38 = .ok (.aload_n 0, 1) := by decide +kernel
theorem dX9_report_39 : decode cX9_report 39 = .ok (.getfield 65, 3) := by decide +kernel
theorem dX9_report_42 : decode cX9_report 42 = .ok (.iload_n 2, 1) := by decide +kernel
theorem dX9_report_43 : decode cX9_report 43 = .ok (.aaload, 1) := by decide +kernel
theorem dX9_report_44 : decode cX9_report 44 = .ok (.iload 4, 2) := by decide +kernel
theorem dX9_report_46 : decode cX9_report 46 = .ok (.i2l, 1) := by decide +kernel
theorem dX9_report_47 : decode cX9_report 47 = .ok (.invokevirtual 233, 3) := by decide +kernel
theorem dX9_report_50 : decode cX9_report 50 = .ok (.ifCond .eq 24, 3) := by decide +kernel
theorem dX9_report_53 : decode cX9_report 53 = .ok (.aload_n 0, 1) := by decide +kernel
theorem dX9_report_54 : decode cX9_report 54 = .ok (.getfield 65, 3) := by decide +kernel
theorem dX9_report_57 : decode cX9_report 57 = .ok (.iload_n 2, 1) := by decide +kernel
theorem dX9_report_58 : decode cX9_report 58 = .ok (.aaload, 1) := by decide +kernel
theorem dX9_report_59 : decode cX9_report 59 = .ok (.iload 4, 2) := by decide +kernel
theorem dX9_report_61 : decode cX9_report 61 = .ok (.i2l, 1) := by decide +kernel
theorem dX9_report_62 : decode cX9_report 62 = .ok (.iload 5, 2) := by decide +kernel
theorem dX9_report_64 : decode cX9_report 64 = .ok (.i2l, 1) := by decide +kernel
theorem dX9_report_65 : decode cX9_report 65 = .ok (.ladd, 1) := by decide +kernel
theorem dX9_report_66 : decode cX9_report 66 = .ok (.lconst 1, 1) := by decide +kernel
theorem dX9_report_67 : decode cX9_report 67 = .ok (.lsub, 1) := by decide +kernel
theorem dX9_report_68 : decode cX9_report 68 = .ok (.invokevirtual 233, 3) := by decide +kernel
theorem dX9_report_71 : decode cX9_report 71 = .ok (.ifCond .ne 6, 3) := by decide +kernel
theorem dX9_report_74 : decode cX9_report 74 = .ok (.bipush (-12), 2) := by decide +kernel
theorem dX9_report_76 : decode cX9_report 76 = .ok (.ireturn, 1) := by decide +kernel
theorem dX9_report_77 : decode cX9_report 77 = .ok (.aload_n 0, 1) := by decide +kernel
theorem dX9_report_78 : decode cX9_report 78 = .ok (.aload_n 0, 1) := by decide +kernel
theorem dX9_report_79 : decode cX9_report 79 = .ok (.getfield 65, 3) := by decide +kernel
theorem dX9_report_82 : decode cX9_report 82 = .ok (.iload_n 2, 1) := by decide +kernel
theorem dX9_report_83 : decode cX9_report 83 = .ok (.aaload, 1) := by decide +kernel
theorem dX9_report_84 : decode cX9_report 84 = .ok (.getfield 237, 3) := by decide +kernel
theorem dX9_report_87 : decode cX9_report 87 = .ok (.iload 4, 2) := by decide +kernel
theorem dX9_report_89 : decode cX9_report 89 = .ok (.iload 5, 2) := by decide +kernel
theorem dX9_report_91 : decode cX9_report 91 = .ok (.iload_n 1, 1) := by decide +kernel
theorem dX9_report_92 : decode cX9_report 92 = .ok (.invokevirtual 240, 3) := by decide +kernel
theorem dX9_report_95 : decode cX9_report 95 = .ok (.ireturn, 1) := by decide +kernel
theorem dX9_firstUnlike_0 : decode cX9_firstUnlike 0 = .ok (.aload_n 0, 1) := by decide +kernel
theorem dX9_firstUnlike_1 : decode cX9_firstUnlike 1 = .ok (.iload 4, 2) := by decide +kernel
theorem dX9_firstUnlike_3 : decode cX9_firstUnlike 3 = .ok (.invokevirtual 205, 3) := by decide +kernel
theorem dX9_firstUnlike_6 : decode cX9_firstUnlike 6 = .ok (.getfield 197, 3) := by decide +kernel
theorem dX9_firstUnlike_9 : decode cX9_firstUnlike 9 = .ok (.istore 5, 2) := by decide +kernel
theorem dX9_firstUnlike_11 : decode cX9_firstUnlike 11 = .ok (.iconst 0, 1) := by decide +kernel
theorem dX9_firstUnlike_12 : decode cX9_firstUnlike 12 = .ok (.istore 6, 2) := by decide +kernel
theorem dX9_firstUnlike_14 : decode cX9_firstUnlike 14 = .ok (.iload 6, 2) := by decide +kernel
theorem dX9_firstUnlike_16 : decode cX9_firstUnlike 16 = .ok (.iload_n 3, 1) := by decide +kernel
theorem dX9_firstUnlike_17 : decode cX9_firstUnlike 17 = .ok (.if_icmp .ge 73, 3) := by decide +kernel
theorem dX9_firstUnlike_20 : decode cX9_firstUnlike 20 = .ok (.iload_n 2, 1) := by decide +kernel
theorem dX9_firstUnlike_21 : decode cX9_firstUnlike 21 = .ok (.iload 6, 2) := by decide +kernel
theorem dX9_firstUnlike_23 : decode cX9_firstUnlike 23 = .ok (.iadd, 1) := by decide +kernel
theorem dX9_firstUnlike_24 : decode cX9_firstUnlike 24 = .ok (.iconst 0, 1) := by decide +kernel
theorem dX9_firstUnlike_25 : decode cX9_firstUnlike 25 = .ok (.aload_n 1, 1) := by decide +kernel
theorem dX9_firstUnlike_26 : decode cX9_firstUnlike 26 = .ok (.arraylength, 1) := by decide +kernel
theorem dX9_firstUnlike_27 : decode cX9_firstUnlike 27 = .ok (.iconst 1, 1) := by decide +kernel
theorem dX9_firstUnlike_28 : decode cX9_firstUnlike 28 = .ok (.isub, 1) := by decide +kernel
theorem dX9_firstUnlike_29 : decode cX9_firstUnlike 29 = .ok (.invokestatic 83, 3) := by decide +kernel
theorem dX9_firstUnlike_32 : decode cX9_firstUnlike 32 = .ok (.ifCond .eq 58, 3) := by decide +kernel
theorem dX9_firstUnlike_35 : decode cX9_firstUnlike 35 = .ok (.iload 6, 2) := by decide +kernel
theorem dX9_firstUnlike_37 : decode cX9_firstUnlike 37 = .ok (.iload 5, 2) := by decide +kernel
theorem dX9_firstUnlike_39 : decode cX9_firstUnlike 39 = .ok (.if_icmp .ge 26, 3) := by decide +kernel
theorem dX9_firstUnlike_42 : decode cX9_firstUnlike 42 = .ok (.iload 6, 2) := by decide +kernel
theorem dX9_firstUnlike_44 : decode cX9_firstUnlike 44 = .ok (.bipush 10, 2) := by decide +kernel
theorem dX9_firstUnlike_46 : decode cX9_firstUnlike 46 = .ok (.if_icmp .ge 19, 3) := by decide +kernel
theorem dX9_firstUnlike_49 : decode cX9_firstUnlike 49 = .ok (.aload_n 0, 1) := by decide +kernel
theorem dX9_firstUnlike_50 : decode cX9_firstUnlike 50 = .ok (.getfield 36, 3) := by decide +kernel
theorem dX9_firstUnlike_53 : decode cX9_firstUnlike 53 = .ok (.iload 4, 2) := by decide +kernel
theorem dX9_firstUnlike_55 : decode cX9_firstUnlike 55 = .ok (.aaload, 1) := by decide +kernel
theorem dX9_firstUnlike_56 : decode cX9_firstUnlike 56 = .ok (.getfield 221, 3) := by decide +kernel
theorem dX9_firstUnlike_59 : decode cX9_firstUnlike 59 = .ok (.iload 6, 2) := by decide +kernel
theorem dX9_firstUnlike_61 : decode cX9_firstUnlike 61 = .ok (.laload, 1) := by decide +kernel
theorem dX9_firstUnlike_62 : decode cX9_firstUnlike 62 = .ok (.goto 4, 3) := by decide +kernel
theorem dX9_firstUnlike_65 : decode cX9_firstUnlike 65 = .ok (.lconst 0, 1) := by decide +kernel
theorem dX9_firstUnlike_66 : decode cX9_firstUnlike 66 = .ok (.lstore 7, 2) := by decide +kernel
theorem dX9_firstUnlike_68 : decode cX9_firstUnlike 68 = .ok (.aload_n 1, 1) := by decide +kernel
theorem dX9_firstUnlike_69 : decode cX9_firstUnlike 69 = .ok (.iload_n 2, 1) := by decide +kernel
theorem dX9_firstUnlike_70 : decode cX9_firstUnlike 70 = .ok (.iload 6, 2) := by decide +kernel
theorem dX9_firstUnlike_72 : decode cX9_firstUnlike 72 = .ok (.iadd, 1) := by decide +kernel
theorem dX9_firstUnlike_73 : decode cX9_firstUnlike 73 = .ok (.iaload, 1) := by decide +kernel
theorem dX9_firstUnlike_74 : decode cX9_firstUnlike 74 = .ok (.i2l, 1) := by decide +kernel
theorem dX9_firstUnlike_75 : decode cX9_firstUnlike 75 = .ok (.lload 7, 2) := by decide +kernel
theorem dX9_firstUnlike_77 : decode cX9_firstUnlike 77 = .ok (.lcmp, 1) := by decide +kernel
theorem dX9_firstUnlike_78 : decode cX9_firstUnlike 78 = .ok (.ifCond .eq 6, 3) := by decide +kernel
theorem dX9_firstUnlike_81 : decode cX9_firstUnlike 81 = .ok (.iload 6, 2) := by decide +kernel
theorem dX9_firstUnlike_83 : decode cX9_firstUnlike 83 = .ok (.ireturn, 1) := by decide +kernel
theorem dX9_firstUnlike_84 : decode cX9_firstUnlike 84 = .ok (.iinc 6 1, 3) := by decide +kernel
theorem dX9_firstUnlike_87 : decode cX9_firstUnlike 87 = .ok (.goto (-73), 3) := by decide +kernel
theorem dX9_firstUnlike_90 : decode cX9_firstUnlike 90 = .ok (.iconst (-1), 1) := by decide +kernel
theorem dX9_firstUnlike_91 : decode cX9_firstUnlike 91 = .ok (.ireturn, 1) := by decide +kernel
theorem dX9_beside_0 : decode cX9_beside 0 = .ok (.iload_n 1, 1) := by decide +kernel
theorem dX9_beside_1 : decode cX9_beside 1 = .ok (.iconst 1, 1) := by decide +kernel
theorem dX9_beside_2 : decode cX9_beside 2 = .ok (.bipush 12, 2) := by decide +kernel
theorem dX9_beside_4 : decode cX9_beside 4 = .ok (.invokestatic 83, 3) := by decide +kernel
theorem dX9_beside_7 : decode cX9_beside 7 = .ok (.ifCond .eq 41, 3) := by decide +kernel
theorem dX9_beside_10 : decode cX9_beside 10 = .ok (.iload_n 2, 1) := by decide +kernel
theorem dX9_beside_11 : decode cX9_beside 11 = .ok (.iconst 0, 1) := by decide +kernel
theorem dX9_beside_12 : decode cX9_beside 12 = .ok (.ldc 161, 2) := by decide +kernel
theorem dX9_beside_14 : decode cX9_beside 14 = .ok (.invokestatic 83, 3) := by decide +kernel
theorem dX9_beside_17 : decode cX9_beside 17 = .ok (.ifCond .eq 31, 3) := by decide +kernel
theorem dX9_beside_20 : decode cX9_beside 20 = .ok (.iload_n 3, 1) := by decide +kernel
theorem dX9_beside_21 : decode cX9_beside 21 = .ok (.iconst 0, 1) := by decide +kernel
theorem dX9_beside_22 : decode cX9_beside 22 = .ok (.iconst 2, 1) := by decide +kernel
theorem dX9_beside_23 : decode cX9_beside 23 = .ok (.aload_n 0, 1) := by decide +kernel
theorem dX9_beside_24 : decode cX9_beside 24 = .ok (.getfield 19, 3) := by decide +kernel
theorem dX9_beside_27 : decode cX9_beside 27 = .ok (.getfield 126, 3) := by decide +kernel
theorem dX9_beside_30 : decode cX9_beside 30 = .ok (.iadd, 1) := by decide +kernel
theorem dX9_beside_31 : decode cX9_beside 31 = .ok (.invokestatic 83, 3) := by decide +kernel
theorem dX9_beside_34 : decode cX9_beside 34 = .ok (.ifCond .eq 14, 3) := by decide +kernel
theorem dX9_beside_37 : decode cX9_beside 37 = .ok (.aload_n 0, 1) := by decide +kernel
theorem dX9_beside_38 : decode cX9_beside 38 = .ok (.getfield 88, 3) := by decide +kernel
theorem dX9_beside_41 : decode cX9_beside 41 = .ok (.iload_n 1, 1) := by decide +kernel
theorem dX9_beside_42 : decode cX9_beside 42 = .ok (.iadd, 1) := by decide +kernel
theorem dX9_beside_43 : decode cX9_beside 43 = .ok (.bipush 60, 2) := by decide +kernel
theorem dX9_beside_45 : decode cX9_beside 45 = .ok (.if_icmp .le 7, 3) := by decide +kernel
theorem dX9_beside_48 : decode cX9_beside 48 = .ok (.ldc2_w 152, 3) := by decide +kernel
theorem dX9_beside_51 : decode cX9_beside 51 = .ok (.lreturn, 1) := by decide +kernel
theorem dX9_beside_52 : decode cX9_beside 52 = .ok (.aload_n 0, 1) := by decide +kernel
theorem dX9_beside_53 : decode cX9_beside 53 = .ok (.getfield 23, 3) := by decide +kernel
theorem dX9_beside_56 : decode cX9_beside 56 = .ok (.aload_n 0, 1) := by decide +kernel
theorem dX9_beside_57 : decode cX9_beside 57 = .ok (.getfield 10, 3) := by decide +kernel
theorem dX9_beside_60 : decode cX9_beside 60 = .ok (.invokevirtual 244, 3) := by decide +kernel
theorem dX9_beside_63 : decode cX9_beside 63 = .ok (.aload_n 0, 1) := by decide +kernel
theorem dX9_beside_64 : decode cX9_beside 64 = .ok (.getfield 26, 3) := by decide +kernel
theorem dX9_beside_67 : decode cX9_beside 67 = .ok (.aload_n 0, 1) := by decide +kernel
theorem dX9_beside_68 : decode cX9_beside 68 = .ok (.getfield 19, 3) := by decide +kernel
theorem dX9_beside_71 : decode cX9_beside 71 = .ok (.invokevirtual 248, 3) := by decide +kernel
theorem dX9_beside_74 : decode cX9_beside 74 = .ok (.aload_n 0, 1) := by decide +kernel
theorem dX9_beside_75 : decode cX9_beside 75 = .ok (.getfield 23, 3) := by decide +kernel
theorem dX9_beside_78 : decode cX9_beside 78 = .ok (.iload_n 2, 1) := by decide +kernel
theorem dX9_beside_79 : decode cX9_beside 79 = .ok (.putfield 162, 3) := by decide +kernel
theorem dX9_beside_82 : decode cX9_beside 82 = .ok (.lconst 0, 1) := by decide +kernel
theorem dX9_beside_83 : decode cX9_beside 83 = .ok (.lstore 4, 2) := by decide +kernel
theorem dX9_beside_85 : decode cX9_beside 85 = .ok (.aload_n 0, 1) := by decide +kernel
theorem dX9_beside_86 : decode cX9_beside 86 = .ok (.getfield 88, 3) := by decide +kernel
theorem dX9_beside_89 : decode cX9_beside 89 = .ok (.iconst 1, 1) := by decide +kernel
theorem dX9_beside_90 : decode cX9_beside 90 = .ok (.iadd, 1) := by decide +kernel
theorem dX9_beside_91 : decode cX9_beside 91 = .ok (.istore 6, 2) := by decide +kernel
theorem dX9_beside_93 : decode cX9_beside 93 = .ok (.iload 6, 2) := by decide +kernel
theorem dX9_beside_95 : decode cX9_beside 95 = .ok (.aload_n 0, 1) := by decide +kernel
theorem dX9_beside_96 : decode cX9_beside 96 = .ok (.getfield 88, 3) := by decide +kernel
theorem dX9_beside_99 : decode cX9_beside 99 = .ok (.iload_n 1, 1) := by decide +kernel
theorem dX9_beside_100 : decode cX9_beside 100 = .ok (.iadd, 1) := by decide +kernel
theorem dX9_beside_101 : decode cX9_beside 101 = .ok (.if_icmp .gt 82, 3) := by decide +kernel
theorem dX9_beside_104 : decode cX9_beside 104 = .ok (.aload_n 0, 1) := by decide +kernel
theorem dX9_beside_105 : decode cX9_beside 105 = .ok (.getfield 23, 3) := by decide +kernel
theorem dX9_beside_108 : decode cX9_beside 108 = .ok (.iload 6, 2) := by decide +kernel
theorem dX9_beside_110 : decode cX9_beside 110 = .ok (.aload_n 0, 1) := by decide +kernel
theorem dX9_beside_111 : decode cX9_beside 111 = .ok (.getfield 32, 3) := by decide +kernel
theorem dX9_beside_114 : decode cX9_beside 114 = .ok (.invokevirtual 213, 3) := by decide +kernel
theorem dX9_beside_117 : decode cX9_beside 117 = .ok (.aload_n 0, 1) := by decide +kernel
theorem dX9_beside_118 : decode cX9_beside 118 = .ok (.getfield 26, 3) := by decide +kernel
theorem dX9_beside_121 : decode cX9_beside 121 = .ok (.iload 6, 2) := by decide +kernel
theorem dX9_beside_123 : decode cX9_beside 123 = .ok (.aload_n 0, 1) := by decide +kernel
theorem dX9_beside_124 : decode cX9_beside 124 = .ok (.getfield 32, 3) := by decide +kernel
theorem dX9_beside_127 : decode cX9_beside 127 = .ok (.aload_n 0, 1) := by decide +kernel
theorem dX9_beside_128 : decode cX9_beside 128 = .ok (.iload 6, 2) := by decide +kernel
theorem dX9_beside_130 : decode cX9_beside 130 = .ok (.invokevirtual 205, 3) := by decide +kernel
theorem dX9_beside_133 : decode cX9_beside 133 = .ok (.invokevirtual 209, 3) := by decide +kernel
theorem dX9_beside_136 : decode cX9_beside 136 = .ok (.lload 4, 2) := by decide +kernel
theorem dX9_beside_138 : decode cX9_beside 138 = .ok (.iload_n 3, 1) := by decide +kernel
theorem dX9_beside_139 : decode cX9_beside 139 = .ok (.ifCond .ne 13, 3) := by decide +kernel
theorem dX9_beside_142 : decode cX9_beside 142 = .ok (.aload_n 0, 1) := by decide +kernel
theorem dX9_beside_143 : decode cX9_beside 143 = .ok (.getfield 32, 3) := by decide +kernel
theorem dX9_beside_146 : decode cX9_beside 146 = .ok (.getfield 251, 3) := by decide +kernel
theorem dX9_beside_149 : decode cX9_beside 149 = .ok (.goto 25, 3) := by decide +kernel
theorem dX9_beside_152 : decode cX9_beside 152 = .ok (.iload_n 3, 1) := by decide +kernel
theorem dX9_beside_153 : decode cX9_beside 153 = .ok (.iconst 1, 1) := by decide +kernel
theorem dX9_beside_154 : decode cX9_beside 154 = .ok (.if_icmp .ne 13, 3) := by decide +kernel
theorem dX9_beside_157 : decode cX9_beside 157 = .ok (.aload_n 0, 1) := by decide +kernel
theorem dX9_beside_158 : decode cX9_beside 158 = .ok (.getfield 32, 3) := by decide +kernel
theorem dX9_beside_161 : decode cX9_beside 161 = .ok (.getfield 254, 3) := by decide +kernel
theorem dX9_beside_164 : decode cX9_beside 164 = .ok (.goto 10, 3) := by decide +kernel
theorem dX9_beside_167 : decode cX9_beside 167 = .ok (.aload_n 0, 1) := by decide +kernel
theorem dX9_beside_168 : decode cX9_beside 168 = .ok (.getfield 32, 3) := by decide +kernel
theorem dX9_beside_171 : decode cX9_beside 171 = .ok (.getfield 257, 3) := by decide +kernel
theorem dX9_beside_174 : decode cX9_beside 174 = .ok (.ladd, 1) := by decide +kernel
theorem dX9_beside_175 : decode cX9_beside 175 = .ok (.lstore 4, 2) := by decide +kernel
theorem dX9_beside_177 : decode cX9_beside 177 = .ok (.iinc 6 1, 3) := by decide +kernel
theorem dX9_beside_180 : decode cX9_beside 180 = .ok (.goto (-87), 3) := by decide +kernel
theorem dX9_beside_183 : decode cX9_beside 183 = .ok (.iload_n 3, 1) := by decide +kernel
theorem dX9_beside_184 : decode cX9_beside 184 = .ok (.iconst 2, 1) := by decide +kernel
theorem dX9_beside_185 : decode cX9_beside 185 = .ok (.if_icmp .gt 6, 3) := by decide +kernel
theorem dX9_beside_188 : decode cX9_beside 188 = .ok (.lload 4, 2) := by decide +kernel
theorem dX9_beside_190 : decode cX9_beside 190 = .ok (.lreturn, 1) := by decide +kernel
theorem dX9_beside_191 : decode cX9_beside 191 = .ok (.aload_n 0, 1) := by decide +kernel
theorem dX9_beside_192 : decode cX9_beside 192 = .ok (.getfield 26, 3) := by decide +kernel
theorem dX9_beside_195 : decode cX9_beside 195 = .ok (.getfield 127, 3) := by decide +kernel
theorem dX9_beside_198 : decode cX9_beside 198 = .ok (.iload_n 3, 1) := by decide +kernel
theorem dX9_beside_199 : decode cX9_beside 199 = .ok (.iconst 3, 1) := by decide +kernel
theorem dX9_beside_200 : decode cX9_beside 200 = .ok (.isub, 1) := by decide +kernel
theorem dX9_beside_201 : decode cX9_beside 201 = .ok (.aaload, 1) := by decide +kernel
theorem dX9_beside_202 : decode cX9_beside 202 = .ok (.invokevirtual 260, 3) := by decide +kernel
theorem dX9_beside_205 : decode cX9_beside 205 = .ok (.aload_n 0, 1) := by decide +kernel
theorem dX9_beside_206 : decode cX9_beside 206 = .ok (.getfield 19, 3) := by decide +kernel
theorem dX9_beside_209 : decode cX9_beside 209 = .ok (.getfield 127, 3) := by decide +kernel
theorem dX9_beside_212 : decode cX9_beside 212 = .ok (.iload_n 3, 1) := by decide +kernel
theorem dX9_beside_213 : decode cX9_beside 213 = .ok (.iconst 3, 1) := by decide +kernel
theorem dX9_beside_214 : decode cX9_beside 214 = .ok (.isub, 1) := by decide +kernel
theorem dX9_beside_215 : decode cX9_beside 215 = .ok (.aaload, 1) := by decide +kernel
theorem dX9_beside_216 : decode cX9_beside 216 = .ok (.invokevirtual 260, 3) := by decide +kernel
theorem dX9_beside_219 : decode cX9_beside 219 = .ok (.lsub, 1) := by decide +kernel
theorem dX9_beside_220 : decode cX9_beside 220 = .ok (.lreturn, 1) := by decide +kernel
theorem dX9_count_0 : decode cX9_count 0 = .ok (.iload_n 1, 1) := by decide +kernel
theorem dX9_count_1 : decode cX9_count 1 = .ok (.tableswitch 159 0 11 #[63, 71, 79, 84, 89, 97, 102, 107, 116, 125, 134, 150], 63) := by decide +kernel
theorem dX9_count_64 : decode cX9_count 64 = .ok (.aload_n 0, 1) := by decide +kernel
theorem dX9_count_65 : decode cX9_count 65 = .ok (.getfield 10, 3) := by decide +kernel
theorem dX9_count_68 : decode cX9_count 68 = .ok (.getfield 91, 3) := by decide +kernel
theorem dX9_count_71 : decode cX9_count 71 = .ok (.ireturn, 1) := by decide +kernel
theorem dX9_count_72 : decode cX9_count 72 = .ok (.aload_n 0, 1) := by decide +kernel
theorem dX9_count_73 : decode cX9_count 73 = .ok (.getfield 19, 3) := by decide +kernel
theorem dX9_count_76 : decode cX9_count 76 = .ok (.getfield 126, 3) := by decide +kernel
theorem dX9_count_79 : decode cX9_count 79 = .ok (.ireturn, 1) := by decide +kernel
theorem dX9_count_80 : decode cX9_count 80 = .ok (.aload_n 0, 1) := by decide +kernel
theorem dX9_count_81 : decode cX9_count 81 = .ok (.getfield 69, 3) := by decide +kernel
theorem dX9_count_84 : decode cX9_count 84 = .ok (.ireturn, 1) := by decide +kernel
theorem dX9_count_85 : decode cX9_count 85 = .ok (.aload_n 0, 1) := by decide +kernel
theorem dX9_count_86 : decode cX9_count 86 = .ok (.getfield 73, 3) := by decide +kernel
theorem dX9_count_89 : decode cX9_count 89 = .ok (.ireturn, 1) := by decide +kernel
theorem dX9_count_90 : decode cX9_count 90 = .ok (.aload_n 0, 1) := by decide +kernel
theorem dX9_count_91 : decode cX9_count 91 = .ok (.getfield 47, 3) := by decide +kernel
theorem dX9_count_94 : decode cX9_count 94 = .ok (.getfield 178, 3) := by decide +kernel
theorem dX9_count_97 : decode cX9_count 97 = .ok (.ireturn, 1) := by decide +kernel
theorem dX9_count_98 : decode cX9_count 98 = .ok (.aload_n 0, 1) := by decide +kernel
theorem dX9_count_99 : decode cX9_count 99 = .ok (.getfield 88, 3) := by decide +kernel
theorem dX9_count_102 : decode cX9_count 102 = .ok (.ireturn, 1) := by decide +kernel
theorem dX9_count_103 : decode cX9_count 103 = .ok (.aload_n 0, 1) := by decide +kernel
theorem dX9_count_104 : decode cX9_count 104 = .ok (.getfield 189, 3) := by decide +kernel
theorem dX9_count_107 : decode cX9_count 107 = .ok (.ireturn, 1) := by decide +kernel
theorem dX9_count_108 : decode cX9_count 108 = .ok (.aload_n 0, 1) := by decide +kernel
theorem dX9_count_109 : decode cX9_count 109 = .ok (.getfield 10, 3) := by decide +kernel
theorem dX9_count_112 : decode cX9_count 112 = .ok (.invokevirtual 264, 3) := by decide +kernel
theorem dX9_count_115 : decode cX9_count 115 = .ok (.l2i, 1) := by decide +kernel
theorem dX9_count_116 : decode cX9_count 116 = .ok (.ireturn, 1) := by decide +kernel
theorem dX9_count_117 : decode cX9_count 117 = .ok (.aload_n 0, 1) := by decide +kernel
theorem dX9_count_118 : decode cX9_count 118 = .ok (.getfield 19, 3) := by decide +kernel
theorem dX9_count_121 : decode cX9_count 121 = .ok (.getfield 267, 3) := by decide +kernel
theorem dX9_count_124 : decode cX9_count 124 = .ok (.l2i, 1) := by decide +kernel
theorem dX9_count_125 : decode cX9_count 125 = .ok (.ireturn, 1) := by decide +kernel
theorem dX9_count_126 : decode cX9_count 126 = .ok (.aload_n 0, 1) := by decide +kernel
theorem dX9_count_127 : decode cX9_count 127 = .ok (.getfield 10, 3) := by decide +kernel
theorem dX9_count_130 : decode cX9_count 130 = .ok (.getfield 270, 3) := by decide +kernel
theorem dX9_count_133 : decode cX9_count 133 = .ok (.l2i, 1) := by decide +kernel
theorem dX9_count_134 : decode cX9_count 134 = .ok (.ireturn, 1) := by decide +kernel
theorem dX9_count_135 : decode cX9_count 135 = .ok (.aload_n 0, 1) := by decide +kernel
theorem dX9_count_136 : decode cX9_count 136 = .ok (.getfield 19, 3) := by decide +kernel
theorem dX9_count_139 : decode cX9_count 139 = .ok (.getfield 273, 3) := by decide +kernel
theorem dX9_count_142 : decode cX9_count 142 = .ok (.ifCond .eq 7, 3) := by decide +kernel
theorem dX9_count_145 : decode cX9_count 145 = .ok (.iconst 1, 1) := by decide +kernel
theorem dX9_count_146 : decode cX9_count 146 = .ok (.goto 4, 3) := by decide +kernel
theorem dX9_count_149 : decode cX9_count 149 = .ok (.iconst 0, 1) := by decide +kernel
theorem dX9_count_150 : decode cX9_count 150 = .ok (.ireturn, 1) := by decide +kernel
theorem dX9_count_151 : decode cX9_count 151 = .ok (.aload_n 0, 1) := by decide +kernel
theorem dX9_count_152 : decode cX9_count 152 = .ok (.getfield 19, 3) := by decide +kernel
theorem dX9_count_155 : decode cX9_count 155 = .ok (.getfield 276, 3) := by decide +kernel
theorem dX9_count_158 : decode cX9_count 158 = .ok (.l2i, 1) := by decide +kernel
theorem dX9_count_159 : decode cX9_count 159 = .ok (.ireturn, 1) := by decide +kernel
theorem dX9_count_160 : decode cX9_count 160 = .ok (.bipush (-2), 2) := by decide +kernel
theorem dX9_count_162 : decode cX9_count 162 = .ok (.ireturn, 1) := by decide +kernel
theorem dX9_sheet_0 : decode cX9_sheet 0 = .ok (.iload_n 1, 1) := by decide +kernel
theorem dX9_sheet_1 : decode cX9_sheet 1 = .ok (.iconst 0, 1) := by decide +kernel
theorem dX9_sheet_2 : decode cX9_sheet 2 = .ok (.iconst 3, 1) := by decide +kernel
theorem dX9_sheet_3 : decode cX9_sheet 3 = .ok (.invokestatic 83, 3) := by decide +kernel
theorem dX9_sheet_6 : decode cX9_sheet 6 = .ok (.ifCond .eq 12, 3) := by decide +kernel
theorem dX9_sheet_9 : decode cX9_sheet 9 = .ok (.iload_n 2, 1) := by decide +kernel
theorem dX9_sheet_10 : decode cX9_sheet 10 = .ok (.iconst (-1), 1) := by decide +kernel
theorem dX9_sheet_11 : decode cX9_sheet 11 = .ok (.iconst 2, 1) := by decide +kernel
theorem dX9_sheet_12 : decode cX9_sheet 12 = .ok (.invokestatic 83, 3) := by decide +kernel
theorem dX9_sheet_15 : decode cX9_sheet 15 = .ok (.ifCond .ne 6, 3) := by decide +kernel
theorem dX9_sheet_18 : decode cX9_sheet 18 = .ok (.bipush (-2), 2) := by decide +kernel
theorem dX9_sheet_20 : decode cX9_sheet 20 = .ok (.ireturn, 1) := by decide +kernel
theorem dX9_sheet_21 : decode cX9_sheet 21 = .ok (.iload_n 2, 1) := by decide +kernel
theorem dX9_sheet_22 : decode cX9_sheet 22 = .ok (.iconst (-1), 1) := by decide +kernel
theorem dX9_sheet_23 : decode cX9_sheet 23 = .ok (.if_icmp .ne 15, 3) := by decide +kernel
theorem dX9_sheet_26 : decode cX9_sheet 26 = .ok (.aload_n 0, 1) := by decide +kernel
theorem dX9_sheet_27 : decode cX9_sheet 27 = .ok (.getfield 65, 3) := by decide +kernel
theorem dX9_sheet_30 : decode cX9_sheet 30 = .ok (.iload_n 1, 1) := by decide +kernel
theorem dX9_sheet_31 : decode cX9_sheet 31 = .ok (.aaload, 1) := by decide +kernel
theorem dX9_sheet_32 : decode cX9_sheet 32 = .ok (.iconst (-1), 1) := by decide +kernel
theorem dX9_sheet_33 : decode cX9_sheet 33 = .ok (.putfield 279, 3) := by decide +kernel
theorem dX9_sheet_36 : decode cX9_sheet 36 = .ok (.iconst 1, 1) := by decide +kernel
theorem dX9_sheet_37 : decode cX9_sheet 37 = .ok (.ireturn, 1) := by decide +kernel
theorem dX9_sheet_38 : decode cX9_sheet 38 = .ok (.iload_n 3, 1) := by decide +kernel
theorem dX9_sheet_39 : decode cX9_sheet 39 = .ok (.bipush 40, 2) := by decide +kernel
theorem dX9_sheet_41 : decode cX9_sheet 41 = .ok (.if_icmp .le 6, 3) := by decide +kernel
theorem dX9_sheet_44 : decode cX9_sheet 44 = .ok (.bipush (-2), 2) := by decide +kernel
theorem dX9_sheet_46 : decode cX9_sheet 46 = .ok (.ireturn, 1) := by decide +kernel
theorem dX9_sheet_47 : decode cX9_sheet 47 = .ok (.iload_n 3, 1) := by decide +kernel
theorem dX9_sheet_48 : decode cX9_sheet 48 = .ok (.ifCond .ge 6, 3) := by decide +kernel
theorem dX9_sheet_51 : decode cX9_sheet 51 = .ok (.bipush (-14), 2) := by decide +kernel
theorem dX9_sheet_53 : decode cX9_sheet 53 = .ok (.ireturn, 1) := by decide +kernel
theorem dX9_sheet_54 : decode cX9_sheet 54 = .ok (.aload_n 0, 1) := by decide +kernel
theorem dX9_sheet_55 : decode cX9_sheet 55 = .ok (.getfield 65, 3) := by decide +kernel
theorem dX9_sheet_58 : decode cX9_sheet 58 = .ok (.iload_n 1, 1) := by decide +kernel
theorem dX9_sheet_59 : decode cX9_sheet 59 = .ok (.aaload, 1) := by decide +kernel
theorem dX9_sheet_60 : decode cX9_sheet 60 = .ok (.iload_n 2, 1) := by decide +kernel
theorem dX9_sheet_61 : decode cX9_sheet 61 = .ok (.iload_n 3, 1) := by decide +kernel
theorem dX9_sheet_62 : decode cX9_sheet 62 = .ok (.invokevirtual 282, 3) := by decide +kernel
theorem dX9_sheet_65 : decode cX9_sheet 65 = .ok (.iconst 1, 1) := by decide +kernel
theorem dX9_sheet_66 : decode cX9_sheet 66 = .ok (.ireturn, 1) := by decide +kernel
theorem dX9_cell_0 : decode cX9_cell 0 = .ok (.iload_n 1, 1) := by decide +kernel
theorem dX9_cell_1 : decode cX9_cell 1 = .ok (.iconst 0, 1) := by decide +kernel
theorem dX9_cell_2 : decode cX9_cell 2 = .ok (.iconst 3, 1) := by decide +kernel
theorem dX9_cell_3 : decode cX9_cell 3 = .ok (.invokestatic 83, 3) := by decide +kernel
theorem dX9_cell_6 : decode cX9_cell 6 = .ok (.ifCond .ne 6, 3) := by decide +kernel
theorem dX9_cell_9 : decode cX9_cell 9 = .ok (.bipush (-2), 2) := by decide +kernel
theorem dX9_cell_11 : decode cX9_cell 11 = .ok (.ireturn, 1) := by decide +kernel
theorem dX9_cell_12 : decode cX9_cell 12 = .ok (.aload_n 0, 1) := by decide +kernel
theorem dX9_cell_13 : decode cX9_cell 13 = .ok (.getfield 65, 3) := by decide +kernel
theorem dX9_cell_16 : decode cX9_cell 16 = .ok (.iload_n 1, 1) := by decide +kernel
theorem dX9_cell_17 : decode cX9_cell 17 = .ok (.aaload, 1) := by decide +kernel
theorem dX9_cell_18 : decode cX9_cell 18 = .ok (.astore 4, 2) := by decide +kernel
theorem dX9_cell_20 : decode cX9_cell 20 = .ok (.aload 4, 2) := by decide +kernel
theorem dX9_cell_22 : decode cX9_cell 22 = .ok (.getfield 279, 3) := by decide +kernel
theorem dX9_cell_25 : decode cX9_cell 25 = .ok (.iconst (-1), 1) := by decide +kernel
theorem dX9_cell_26 : decode cX9_cell 26 = .ok (.if_icmp .ne 6, 3) := by decide +kernel
theorem dX9_cell_29 : decode cX9_cell 29 = .ok (.bipush (-11), 2) := by decide +kernel
theorem dX9_cell_31 : decode cX9_cell 31 = .ok (.ireturn, 1) := by decide +kernel
theorem dX9_cell_32 : decode cX9_cell 32 = .ok (.aload 4, 2) := by decide +kernel
theorem dX9_cell_34 : decode cX9_cell 34 = .ok (.iload_n 2, 1) := by decide +kernel
theorem dX9_cell_35 : decode cX9_cell 35 = .ok (.i2l, 1) := by decide +kernel
theorem dX9_cell_36 : decode cX9_cell 36 = .ok (.invokevirtual 233, 3) := by decide +kernel
theorem dX9_cell_39 : decode cX9_cell 39 = .ok (.ifCond .ne 6, 3) := by decide +kernel
theorem dX9_cell_42 : decode cX9_cell 42 = .ok (.bipush (-12), 2) := by decide +kernel
theorem dX9_cell_44 : decode cX9_cell 44 = .ok (.ireturn, 1) := by decide +kernel
theorem dX9_cell_45 : decode cX9_cell 45 = .ok (.aload 4, 2) := by decide +kernel
theorem dX9_cell_47 : decode cX9_cell 47 = .ok (.getfield 237, 3) := by decide +kernel
theorem dX9_cell_50 : decode cX9_cell 50 = .ok (.iload_n 2, 1) := by decide +kernel
theorem dX9_cell_51 : decode cX9_cell 51 = .ok (.aload 4, 2) := by decide +kernel
theorem dX9_cell_53 : decode cX9_cell 53 = .ok (.getfield 279, 3) := by decide +kernel
theorem dX9_cell_56 : decode cX9_cell 56 = .ok (.ifCond .ne 8, 3) := by decide +kernel
theorem dX9_cell_59 : decode cX9_cell 59 = .ok (.iload_n 3, 1) := by decide +kernel
theorem dX9_cell_60 : decode cX9_cell 60 = .ok (.i2b, 1) := by decide +kernel
theorem dX9_cell_61 : decode cX9_cell 61 = .ok (.goto 18, 3) := by decide +kernel
theorem dX9_cell_64 : decode cX9_cell 64 = .ok (.aload 4, 2) := by decide +kernel
theorem dX9_cell_66 : decode cX9_cell 66 = .ok (.getfield 279, 3) := by decide +kernel
theorem dX9_cell_69 : decode cX9_cell 69 = .ok (.iconst 1, 1) := by decide +kernel
theorem dX9_cell_70 : decode cX9_cell 70 = .ok (.if_icmp .ne 8, 3) := by decide +kernel
theorem dX9_cell_73 : decode cX9_cell 73 = .ok (.iload_n 3, 1) := by decide +kernel
theorem dX9_cell_74 : decode cX9_cell 74 = .ok (.i2s, 1) := by decide +kernel
theorem dX9_cell_75 : decode cX9_cell 75 = .ok (.goto 4, 3) := by decide +kernel
theorem dX9_cell_78 : decode cX9_cell 78 = .ok (.iload_n 3, 1) := by decide +kernel
theorem dX9_cell_79 : decode cX9_cell 79 = .ok (.iastore, 1) := by decide +kernel
theorem dX9_cell_80 : decode cX9_cell 80 = .ok (.iconst 1, 1) := by decide +kernel
theorem dX9_cell_81 : decode cX9_cell 81 = .ok (.ireturn, 1) := by decide +kernel
theorem dX9_loans_0 : decode cX9_loans 0 = .ok (.aload_n 0, 1) := by decide +kernel
theorem dX9_loans_1 : decode cX9_loans 1 = .ok (.iload_n 1, 1) := by decide +kernel
theorem dX9_loans_2 : decode cX9_loans 2 = .ok (.iload_n 2, 1) := by decide +kernel
theorem dX9_loans_3 : decode cX9_loans 3 = .ok (.iload 4, 2) := by decide +kernel
theorem dX9_loans_5 : decode cX9_loans 5 = .ok (.invokevirtual 229, 3) := by decide +kernel
theorem dX9_loans_8 : decode cX9_loans 8 = .ok (.istore 5, 2) := by decide +kernel
theorem dX9_loans_10 : decode cX9_loans 10 = .ok (.iload 5, 2) := by decide +kernel
theorem dX9_loans_12 : decode cX9_loans 12 = .ok (.ifCond .eq 6, 3) := by decide +kernel
theorem dX9_loans_15 : decode cX9_loans 15 = .ok (.iload 5, 2) := by decide +kernel
theorem dX9_loans_17 : decode cX9_loans 17 = .ok (.ireturn, 1) := by decide +kernel
theorem dX9_loans_18 : decode cX9_loans 18 = .ok (.aload_n 0, 1) := by decide +kernel
theorem dX9_loans_19 : decode cX9_loans 19 = .ok (.getfield 65, 3) := by decide +kernel
theorem dX9_loans_22 : decode cX9_loans 22 = .ok (.iload_n 1, 1) := by decide +kernel
theorem dX9_loans_23 : decode cX9_loans 23 = .ok (.aaload, 1) := by decide +kernel
theorem dX9_loans_24 : decode cX9_loans 24 = .ok (.astore 6, 2) := by decide +kernel
theorem dX9_loans_26 : decode cX9_loans 26 = .ok (.iconst 0, 1) := by decide +kernel
theorem dX9_loans_27 : decode cX9_loans 27 = .ok (.istore 7, 2) := by decide +kernel
theorem dX9_loans_29 : decode cX9_loans 29 = .ok (.iconst 0, 1) := by decide +kernel
theorem dX9_loans_30 : decode cX9_loans 30 = .ok (.istore 8, 2) := by decide +kernel
theorem dX9_loans_32 : decode cX9_loans 32 = .ok (.iload 8, 2) := by decide +kernel
theorem dX9_loans_34 : decode cX9_loans 34 = .ok (.iload 4, 2) := by decide +kernel
theorem dX9_loans_36 : decode cX9_loans 36 = .ok (.if_icmp .ge 99, 3) := by decide +kernel
theorem dX9_loans_39 : decode cX9_loans 39 = .ok (.iload_n 3, 1) := by decide +kernel
theorem dX9_loans_40 : decode cX9_loans 40 = .ok (.i2l, 1) := by decide +kernel
theorem dX9_loans_41 : decode cX9_loans 41 = .ok (.iconst 4, 1) := by decide +kernel
theorem dX9_loans_42 : decode cX9_loans 42 = .ok (.iload 8, 2) := by decide +kernel
theorem dX9_loans_44 : decode cX9_loans 44 = .ok (.imul, 1) := by decide +kernel
theorem dX9_loans_45 : decode cX9_loans 45 = .ok (.i2l, 1) := by decide +kernel
theorem dX9_loans_46 : decode cX9_loans 46 = .ok (.ladd, 1) := by decide +kernel
theorem dX9_loans_47 : decode cX9_loans 47 = .ok (.lstore 9, 2) := by decide +kernel
theorem dX9_loans_49 : decode cX9_loans 49 = .ok (.aload 6, 2) := by decide +kernel
theorem dX9_loans_51 : decode cX9_loans 51 = .ok (.lload 9, 2) := by decide +kernel
theorem dX9_loans_53 : decode cX9_loans 53 = .ok (.invokevirtual 233, 3) := by decide +kernel
theorem dX9_loans_56 : decode cX9_loans 56 = .ok (.ifCond .eq 17, 3) := by decide +kernel
theorem dX9_loans_59 : decode cX9_loans 59 = .ok (.aload 6, 2) := by decide +kernel
theorem dX9_loans_61 : decode cX9_loans 61 = .ok (.lload 9, 2) := by decide +kernel
theorem dX9_loans_63 : decode cX9_loans 63 = .ok (.ldc2_w 285, 3) := by decide +kernel
theorem dX9_loans_66 : decode cX9_loans 66 = .ok (.ladd, 1) := by decide +kernel
theorem dX9_loans_67 : decode cX9_loans 67 = .ok (.invokevirtual 233, 3) := by decide +kernel
theorem dX9_loans_70 : decode cX9_loans 70 = .ok (.ifCond .ne 6, 3) := by decide +kernel
theorem dX9_loans_73 : decode cX9_loans 73 = .ok (.bipush (-12), 2) := by decide +kernel
theorem dX9_loans_75 : decode cX9_loans 75 = .ok (.ireturn, 1) := by decide +kernel
theorem dX9_loans_76 : decode cX9_loans 76 = .ok (.lload 9, 2) := by decide +kernel
theorem dX9_loans_78 : decode cX9_loans 78 = .ok (.l2i, 1) := by decide +kernel
theorem dX9_loans_79 : decode cX9_loans 79 = .ok (.istore 11, 2) := by decide +kernel
theorem dX9_loans_81 : decode cX9_loans 81 = .ok (.aload_n 0, 1) := by decide +kernel
theorem dX9_loans_82 : decode cX9_loans 82 = .ok (.aload 6, 2) := by decide +kernel
theorem dX9_loans_84 : decode cX9_loans 84 = .ok (.getfield 237, 3) := by decide +kernel
theorem dX9_loans_87 : decode cX9_loans 87 = .ok (.iload 11, 2) := by decide +kernel
theorem dX9_loans_89 : decode cX9_loans 89 = .ok (.iaload, 1) := by decide +kernel
theorem dX9_loans_90 : decode cX9_loans 90 = .ok (.aload 6, 2) := by decide +kernel
theorem dX9_loans_92 : decode cX9_loans 92 = .ok (.getfield 237, 3) := by decide +kernel
theorem dX9_loans_95 : decode cX9_loans 95 = .ok (.iload 11, 2) := by decide +kernel
theorem dX9_loans_97 : decode cX9_loans 97 = .ok (.iconst 1, 1) := by decide +kernel
theorem dX9_loans_98 : decode cX9_loans 98 = .ok (.iadd, 1) := by decide +kernel
theorem dX9_loans_99 : decode cX9_loans 99 = .ok (.iaload, 1) := by decide +kernel
theorem dX9_loans_100 : decode cX9_loans 100 = .ok (.aload 6, 2) := by decide +kernel
theorem dX9_loans_102 : decode cX9_loans 102 = .ok (.getfield 237, 3) := by decide +kernel
theorem dX9_loans_105 : decode cX9_loans 105 = .ok (.iload 11, 2) := by decide +kernel
theorem dX9_loans_107 : decode cX9_loans 107 = .ok (.iconst 2, 1) := by decide +kernel
theorem dX9_loans_108 : decode cX9_loans 108 = .ok (.iadd, 1) := by decide +kernel
theorem dX9_loans_109 : decode cX9_loans 109 = .ok (.iaload, 1) := by decide +kernel
theorem dX9_loans_110 : decode cX9_loans 110 = .ok (.aload 6, 2) := by decide +kernel
theorem dX9_loans_112 : decode cX9_loans 112 = .ok (.getfield 237, 3) := by decide +kernel
theorem dX9_loans_115 : decode cX9_loans 115 = .ok (.iload 11, 2) := by decide +kernel
theorem dX9_loans_117 : decode cX9_loans 117 = .ok (.iconst 3, 1) := by decide +kernel
theorem dX9_loans_118 : decode cX9_loans 118 = .ok (.iadd, 1) := by decide +kernel
theorem dX9_loans_119 : decode cX9_loans 119 = .ok (.iaload, 1) := by decide +kernel
theorem dX9_loans_120 : decode cX9_loans 120 = .ok (.invokevirtual 287, 3) := by decide +kernel
theorem dX9_loans_123 : decode cX9_loans 123 = .ok (.ifCond .lt 6, 3) := by decide +kernel
theorem dX9_loans_126 : decode cX9_loans 126 = .ok (.iinc 7 1, 3) := by decide +kernel
theorem dX9_loans_129 : decode cX9_loans 129 = .ok (.iinc 8 1, 3) := by decide +kernel
theorem dX9_loans_132 : decode cX9_loans 132 = .ok (.goto (-100), 3) := by decide +kernel
theorem dX9_loans_135 : decode cX9_loans 135 = .ok (.iload 7, 2) := by decide +kernel
theorem dX9_loans_137 : decode cX9_loans 137 = .ok (.ireturn, 1) := by decide +kernel
theorem dX9_taken_0 : decode cX9_taken 0 = .ok (.iload_n 2, 1) := by decide +kernel
theorem dX9_taken_1 : decode cX9_taken 1 = .ok (.iconst 0, 1) := by decide +kernel
theorem dX9_taken_2 : decode cX9_taken 2 = .ok (.iconst 5, 1) := by decide +kernel
theorem dX9_taken_3 : decode cX9_taken 3 = .ok (.invokestatic 83, 3) := by decide +kernel
theorem dX9_taken_6 : decode cX9_taken 6 = .ok (.ifCond .ne 6, 3) := by decide +kernel
theorem dX9_taken_9 : decode cX9_taken 9 = .ok (.bipush (-2), 2) := by decide +kernel
theorem dX9_taken_11 : decode cX9_taken 11 = .ok (.ireturn, 1) := by decide +kernel
theorem dX9_taken_12 : decode cX9_taken 12 = .ok (.iload_n 1, 1) := by decide +kernel
theorem dX9_taken_13 : decode cX9_taken 13 = .ok (.iconst 0, 1) := by decide +kernel
theorem dX9_taken_14 : decode cX9_taken 14 = .ok (.aload_n 0, 1) := by decide +kernel
theorem dX9_taken_15 : decode cX9_taken 15 = .ok (.getfield 10, 3) := by decide +kernel
theorem dX9_taken_18 : decode cX9_taken 18 = .ok (.getfield 91, 3) := by decide +kernel
theorem dX9_taken_21 : decode cX9_taken 21 = .ok (.iconst 1, 1) := by decide +kernel
theorem dX9_taken_22 : decode cX9_taken 22 = .ok (.isub, 1) := by decide +kernel
theorem dX9_taken_23 : decode cX9_taken 23 = .ok (.invokestatic 83, 3) := by decide +kernel
theorem dX9_taken_26 : decode cX9_taken 26 = .ok (.ifCond .ne 6, 3) := by decide +kernel
theorem dX9_taken_29 : decode cX9_taken 29 = .ok (.bipush (-11), 2) := by decide +kernel
theorem dX9_taken_31 : decode cX9_taken 31 = .ok (.ireturn, 1) := by decide +kernel
theorem dX9_taken_32 : decode cX9_taken 32 = .ok (.aload_n 0, 1) := by decide +kernel
theorem dX9_taken_33 : decode cX9_taken 33 = .ok (.getfield 10, 3) := by decide +kernel
theorem dX9_taken_36 : decode cX9_taken 36 = .ok (.getfield 94, 3) := by decide +kernel
theorem dX9_taken_39 : decode cX9_taken 39 = .ok (.iload_n 1, 1) := by decide +kernel
theorem dX9_taken_40 : decode cX9_taken 40 = .ok (.aaload, 1) := by decide +kernel
theorem dX9_taken_41 : decode cX9_taken 41 = .ok (.astore_n 3, 1) := by decide +kernel
theorem dX9_taken_42 : decode cX9_taken 42 = .ok (.aload_n 3, 1) := by decide +kernel
theorem dX9_taken_43 : decode cX9_taken 43 = .ok (.iload_n 2, 1) := by decide +kernel
theorem dX9_taken_44 : decode cX9_taken 44 = .ok (.invokevirtual 291, 3) := by decide +kernel
theorem dX9_taken_47 : decode cX9_taken 47 = .ok (.ifCond .eq 11, 3) := by decide +kernel
theorem dX9_taken_50 : decode cX9_taken 50 = .ok (.aload_n 3, 1) := by decide +kernel
theorem dX9_taken_51 : decode cX9_taken 51 = .ok (.getfield 107, 3) := by decide +kernel
theorem dX9_taken_54 : decode cX9_taken 54 = .ok (.l2i, 1) := by decide +kernel
theorem dX9_taken_55 : decode cX9_taken 55 = .ok (.goto 5, 3) := by decide +kernel
theorem dX9_taken_58 : decode cX9_taken 58 = .ok (.bipush (-13), 2) := by decide +kernel
theorem dX9_taken_60 : decode cX9_taken 60 = .ok (.ireturn, 1) := by decide +kernel
theorem dX9_refusalOf_0 : decode cX9_refusalOf 0 = .ok (.iload_n 1, 1) := by decide +kernel
theorem dX9_refusalOf_1 : decode cX9_refusalOf 1 = .ok (.iconst 0, 1) := by decide +kernel
theorem dX9_refusalOf_2 : decode cX9_refusalOf 2 = .ok (.iconst 3, 1) := by decide +kernel
theorem dX9_refusalOf_3 : decode cX9_refusalOf 3 = .ok (.invokestatic 83, 3) := by decide +kernel
theorem dX9_refusalOf_6 : decode cX9_refusalOf 6 = .ok (.ifCond .eq 22, 3) := by decide +kernel
theorem dX9_refusalOf_9 : decode cX9_refusalOf 9 = .ok (.iload_n 2, 1) := by decide +kernel
theorem dX9_refusalOf_10 : decode cX9_refusalOf 10 = .ok (.iconst 0, 1) := by decide +kernel
theorem dX9_refusalOf_11 : decode cX9_refusalOf 11 = .ok (.iconst 2, 1) := by decide +kernel
theorem dX9_refusalOf_12 : decode cX9_refusalOf 12 = .ok (.invokestatic 83, 3) := by decide +kernel
theorem dX9_refusalOf_15 : decode cX9_refusalOf 15 = .ok (.ifCond .eq 13, 3) := by decide +kernel
theorem dX9_refusalOf_18 : decode cX9_refusalOf 18 = .ok (.iload_n 3, 1) := by decide +kernel
theorem dX9_refusalOf_19 : decode cX9_refusalOf 19 = .ok (.iconst 0, 1) := by decide +kernel
theorem dX9_refusalOf_20 : decode cX9_refusalOf 20 = .ok (.bipush 10, 2) := by decide +kernel
theorem dX9_refusalOf_22 : decode cX9_refusalOf 22 = .ok (.invokestatic 83, 3) := by decide +kernel
theorem dX9_refusalOf_25 : decode cX9_refusalOf 25 = .ok (.ifCond .ne 6, 3) := by decide +kernel
theorem dX9_refusalOf_28 : decode cX9_refusalOf 28 = .ok (.bipush (-2), 2) := by decide +kernel
theorem dX9_refusalOf_30 : decode cX9_refusalOf 30 = .ok (.ireturn, 1) := by decide +kernel
theorem dX9_refusalOf_31 : decode cX9_refusalOf 31 = .ok (.aload_n 0, 1) := by decide +kernel
theorem dX9_refusalOf_32 : decode cX9_refusalOf 32 = .ok (.getfield 65, 3) := by decide +kernel
theorem dX9_refusalOf_35 : decode cX9_refusalOf 35 = .ok (.iload_n 1, 1) := by decide +kernel
theorem dX9_refusalOf_36 : decode cX9_refusalOf 36 = .ok (.aaload, 1) := by decide +kernel
theorem dX9_refusalOf_37 : decode cX9_refusalOf 37 = .ok (.getfield 279, 3) := by decide +kernel
theorem dX9_refusalOf_40 : decode cX9_refusalOf 40 = .ok (.iconst (-1), 1) := by decide +kernel
theorem dX9_refusalOf_41 : decode cX9_refusalOf 41 = .ok (.if_icmp .ne 6, 3) := by decide +kernel
theorem dX9_refusalOf_44 : decode cX9_refusalOf 44 = .ok (.bipush (-11), 2) := by decide +kernel
theorem dX9_refusalOf_46 : decode cX9_refusalOf 46 = .ok (.ireturn, 1) := by decide +kernel
theorem dX9_refusalOf_47 : decode cX9_refusalOf 47 = .ok (.aload_n 0, 1) := by decide +kernel
theorem dX9_refusalOf_48 : decode cX9_refusalOf 48 = .ok (.getfield 65, 3) := by decide +kernel
theorem dX9_refusalOf_51 : decode cX9_refusalOf 51 = .ok (.iload_n 1, 1) := by decide +kernel
theorem dX9_refusalOf_52 : decode cX9_refusalOf 52 = .ok (.aaload, 1) := by decide +kernel
theorem dX9_refusalOf_53 : decode cX9_refusalOf 53 = .ok (.getfield 279, 3) := by decide +kernel
theorem dX9_refusalOf_56 : decode cX9_refusalOf 56 = .ok (.iload_n 2, 1) := by decide +kernel
theorem dX9_refusalOf_57 : decode cX9_refusalOf 57 = .ok (.if_icmp .ne 7, 3) := by decide +kernel
theorem dX9_refusalOf_60 : decode cX9_refusalOf 60 = .ok (.iconst 0, 1) := by decide +kernel
theorem dX9_refusalOf_61 : decode cX9_refusalOf 61 = .ok (.goto 5, 3) := by decide +kernel
theorem dX9_refusalOf_64 : decode cX9_refusalOf 64 = .ok (.bipush (-13), 2) := by decide +kernel
theorem dX9_refusalOf_66 : decode cX9_refusalOf 66 = .ok (.ireturn, 1) := by decide +kernel
theorem dX9_orderIn_0 : decode cX9_orderIn 0 = .ok (.iload_n 1, 1) := by decide +kernel
theorem dX9_orderIn_1 : decode cX9_orderIn 1 = .ok (.iconst 1, 1) := by decide +kernel
theorem dX9_orderIn_2 : decode cX9_orderIn 2 = .ok (.bipush 60, 2) := by decide +kernel
theorem dX9_orderIn_4 : decode cX9_orderIn 4 = .ok (.invokestatic 83, 3) := by decide +kernel
theorem dX9_orderIn_7 : decode cX9_orderIn 7 = .ok (.ifCond .eq 12, 3) := by decide +kernel
theorem dX9_orderIn_10 : decode cX9_orderIn 10 = .ok (.aload_n 0, 1) := by decide +kernel
theorem dX9_orderIn_11 : decode cX9_orderIn 11 = .ok (.getfield 40, 3) := by decide +kernel
theorem dX9_orderIn_14 : decode cX9_orderIn 14 = .ok (.iload_n 1, 1) := by decide +kernel
theorem dX9_orderIn_15 : decode cX9_orderIn 15 = .ok (.iaload, 1) := by decide +kernel
theorem dX9_orderIn_16 : decode cX9_orderIn 16 = .ok (.goto 4, 3) := by decide +kernel
theorem dX9_orderIn_19 : decode cX9_orderIn 19 = .ok (.iconst 0, 1) := by decide +kernel
theorem dX9_orderIn_20 : decode cX9_orderIn 20 = .ok (.istore_n 2, 1) := by decide +kernel
theorem dX9_orderIn_21 : decode cX9_orderIn 21 = .ok (.aload_n 0, 1) := by decide +kernel
theorem dX9_orderIn_22 : decode cX9_orderIn 22 = .ok (.getfield 59, 3) := by decide +kernel
theorem dX9_orderIn_25 : decode cX9_orderIn 25 = .ok (.iload_n 2, 1) := by decide +kernel
theorem dX9_orderIn_26 : decode cX9_orderIn 26 = .ok (.iconst 0, 1) := by decide +kernel
theorem dX9_orderIn_27 : decode cX9_orderIn 27 = .ok (.aload_n 0, 1) := by decide +kernel
theorem dX9_orderIn_28 : decode cX9_orderIn 28 = .ok (.getfield 73, 3) := by decide +kernel
theorem dX9_orderIn_31 : decode cX9_orderIn 31 = .ok (.iconst 1, 1) := by decide +kernel
theorem dX9_orderIn_32 : decode cX9_orderIn 32 = .ok (.isub, 1) := by decide +kernel
theorem dX9_orderIn_33 : decode cX9_orderIn 33 = .ok (.invokestatic 83, 3) := by decide +kernel
theorem dX9_orderIn_36 : decode cX9_orderIn 36 = .ok (.ifCond .eq 7, 3) := by decide +kernel
theorem dX9_orderIn_39 : decode cX9_orderIn 39 = .ok (.iload_n 2, 1) := by decide +kernel
theorem dX9_orderIn_40 : decode cX9_orderIn 40 = .ok (.goto 4, 3) := by decide +kernel
theorem dX9_orderIn_43 : decode cX9_orderIn 43 = .ok (.iconst 0, 1) := by decide +kernel
theorem dX9_orderIn_44 : decode cX9_orderIn 44 = .ok (.aaload, 1) := by decide +kernel
theorem dX9_orderIn_45 : decode cX9_orderIn 45 = .ok (.areturn, 1) := by decide +kernel
theorem dX9_within_0 : decode cX9_within 0 = .ok (.iload_n 0, 1) := by decide +kernel
theorem dX9_within_1 : decode cX9_within 1 = .ok (.iload_n 1, 1) := by decide +kernel
theorem dX9_within_2 : decode cX9_within 2 = .ok (.if_icmp .lt 12, 3) := by decide +kernel
theorem dX9_within_5 : decode cX9_within 5 = .ok (.iload_n 0, 1) := by decide +kernel
theorem dX9_within_6 : decode cX9_within 6 = .ok (.iload_n 2, 1) := by decide +kernel
theorem dX9_within_7 : decode cX9_within 7 = .ok (.if_icmp .gt 7, 3) := by decide +kernel
theorem dX9_within_10 : decode cX9_within 10 = .ok (.iconst 1, 1) := by decide +kernel
theorem dX9_within_11 : decode cX9_within 11 = .ok (.goto 4, 3) := by decide +kernel
theorem dX9_within_14 : decode cX9_within 14 = .ok (.iconst 0, 1) := by decide +kernel
theorem dX9_within_15 : decode cX9_within 15 = .ok (.ireturn, 1) := by decide +kernel
theorem dX9_commonDivisor_0 : decode cX9_commonDivisor 0 = .ok (.iconst 0, 1) := by decide +kernel
theorem dX9_commonDivisor_1 : decode cX9_commonDivisor 1 = .ok (.istore 4, 2) := by decide +kernel
theorem dX9_commonDivisor_3 : decode cX9_commonDivisor 3 = .ok (.iload 4, 2) := by decide +kernel
theorem dX9_commonDivisor_5 : decode cX9_commonDivisor 5 = .ok (.sipush 200, 3) := by decide +kernel
theorem dX9_commonDivisor_8 : decode cX9_commonDivisor 8 = .ok (.if_icmp .ge 25, 3) := by decide +kernel
theorem dX9_commonDivisor_11 : decode cX9_commonDivisor 11 = .ok (.lload_n 2, 1) := by decide +kernel
theorem dX9_commonDivisor_12 : decode cX9_commonDivisor 12 = .ok (.lconst 0, 1) := by decide +kernel
theorem dX9_commonDivisor_13 : decode cX9_commonDivisor 13 = .ok (.lcmp, 1) := by decide +kernel
theorem dX9_commonDivisor_14 : decode cX9_commonDivisor 14 = .ok (.ifCond .eq 19, 3) := by decide +kernel
theorem dX9_commonDivisor_17 : decode cX9_commonDivisor 17 = .ok (.lload_n 0, 1) := by decide +kernel
theorem dX9_commonDivisor_18 : decode cX9_commonDivisor 18 = .ok (.lload_n 2, 1) := by decide +kernel
theorem dX9_commonDivisor_19 : decode cX9_commonDivisor 19 = .ok (.lrem, 1) := by decide +kernel
theorem dX9_commonDivisor_20 : decode cX9_commonDivisor 20 = .ok (.lstore 5, 2) := by decide +kernel
theorem dX9_commonDivisor_22 : decode cX9_commonDivisor 22 = .ok (.lload_n 2, 1) := by decide +kernel
theorem dX9_commonDivisor_23 : decode cX9_commonDivisor 23 = .ok (.lstore_n 0, 1) := by decide +kernel
theorem dX9_commonDivisor_24 : decode cX9_commonDivisor 24 = .ok (.lload 5, 2) := by decide +kernel
theorem dX9_commonDivisor_26 : decode cX9_commonDivisor 26 = .ok (.lstore_n 2, 1) := by decide +kernel
theorem dX9_commonDivisor_27 : decode cX9_commonDivisor 27 = .ok (.iinc 4 1, 3) := by decide +kernel
theorem dX9_commonDivisor_30 : decode cX9_commonDivisor 30 = .ok (.goto (-27), 3) := by decide +kernel
theorem dX9_commonDivisor_33 : decode cX9_commonDivisor 33 = .ok (.lload_n 0, 1) := by decide +kernel
theorem dX9_commonDivisor_34 : decode cX9_commonDivisor 34 = .ok (.lreturn, 1) := by decide +kernel
